theorem dX0_init_0 : decode cX0_init 0 = .ok (.aload_n 0, 1) := by decide +kernel
theorem dX0_init_1 : decode cX0_init 1 = .ok (.invokespecial 3, 3) := by decide +kernel
theorem dX0_init_4 : decode cX0_init 4 = .ok (.return_, 1) := by decide +kernel
theorem dX0_set_0 : decode cX0_set 0 = .ok (.aload_n 0, 1) := by decide +kernel
theorem dX0_set_1 : decode cX0_set 1 = .ok (.iload_n 1, 1) := by decide +kernel
theorem dX0_set_2 : decode cX0_set 2 = .ok (.putfield 9, 3) := by decide +kernel
theorem dX0_set_5 : decode cX0_set 5 = .ok (.aload_n 0, 1) := by decide +kernel
theorem dX0_set_6 : decode cX0_set 6 = .ok (.iload_n 2, 1) := by decide +kernel
theorem dX0_set_7 : decode cX0_set 7 = .ok (.putfield 15, 3) := by decide +kernel
theorem dX0_set_10 : decode cX0_set 10 = .ok (.aload_n 0, 1) := by decide +kernel
theorem dX0_set_11 : decode cX0_set 11 = .ok (.iload_n 3, 1) := by decide +kernel
theorem dX0_set_12 : decode cX0_set 12 = .ok (.putfield 18, 3) := by decide +kernel
theorem dX0_set_15 : decode cX0_set 15 = .ok (.aload_n 0, 1) := by decide +kernel
theorem dX0_set_16 : decode cX0_set 16 = .ok (.iload 4, 2) := by decide +kernel
theorem dX0_set_18 : decode cX0_set 18 = .ok (.putfield 21, 3) := by decide +kernel
theorem dX0_set_21 : decode cX0_set 21 = .ok (.aload_n 0, 1) := by decide +kernel
theorem dX0_set_22 : decode cX0_set 22 = .ok (.iload 5, 2) := by decide +kernel
theorem dX0_set_24 : decode cX0_set 24 = .ok (.putfield 24, 3) := by decide +kernel
theorem dX0_set_27 : decode cX0_set 27 = .ok (.aload_n 0, 1) := by decide +kernel
theorem dX0_set_28 : decode cX0_set 28 = .ok (.iload 6, 2) := by decide +kernel
theorem dX0_set_30 : decode cX0_set 30 = .ok (.putfield 27, 3) := by decide +kernel
theorem dX0_set_33 : decode cX0_set 33 = .ok (.return_, 1) := by decide +kernel
theorem dX0_copy_0 : decode cX0_copy 0 = .ok (.aload_n 0, 1) := by decide +kernel
theorem dX0_copy_1 : decode cX0_copy 1 = .ok (.aload_n 1, 1) := by decide +kernel
theorem dX0_copy_2 : decode cX0_copy 2 = .ok (.getfield 9, 3) := by decide +kernel
theorem dX0_copy_5 : decode cX0_copy 5 = .ok (.aload_n 1, 1) := by decide +kernel
theorem dX0_copy_6 : decode cX0_copy 6 = .ok (.getfield 15, 3) := by decide +kernel
theorem dX0_copy_9 : decode cX0_copy 9 = .ok (.aload_n 1, 1) := by decide +kernel
theorem dX0_copy_10 : decode cX0_copy 10 = .ok (.getfield 18, 3) := by decide +kernel
theorem dX0_copy_13 : decode cX0_copy 13 = .ok (.aload_n 1, 1) := by decide +kernel
theorem dX0_copy_14 : decode cX0_copy 14 = .ok (.getfield 21, 3) := by decide +kernel
theorem dX0_copy_17 : decode cX0_copy 17 = .ok (.aload_n 1, 1) := by decide +kernel
theorem dX0_copy_18 : decode cX0_copy 18 = .ok (.getfield 24, 3) := by decide +kernel
theorem dX0_copy_21 : decode cX0_copy 21 = .ok (.aload_n 1, 1) := by decide +kernel
theorem dX0_copy_22 : decode cX0_copy 22 = .ok (.getfield 27, 3) := by decide +kernel
theorem dX0_copy_25 : decode cX0_copy 25 = .ok (.invokevirtual 31, 3) := by decide +kernel
theorem dX0_copy_28 : decode cX0_copy 28 = .ok (.return_, 1) := by decide +kernel
theorem dX0_number_0 : decode cX0_number 0 = .ok (.aload_n 0, 1) := by decide +kernel
theorem dX0_number_1 : decode cX0_number 1 = .ok (.iload_n 1, 1) := by decide +kernel
theorem dX0_number_2 : decode cX0_number 2 = .ok (.iconst 0, 1) := by decide +kernel
theorem dX0_number_3 : decode cX0_number 3 = .ok (.iconst 0, 1) := by decide +kernel
theorem dX0_number_4 : decode cX0_number 4 = .ok (.iconst 0, 1) := by decide +kernel
theorem dX0_number_5 : decode cX0_number 5 = .ok (.iconst 0, 1) := by decide +kernel
theorem dX0_number_6 : decode cX0_number 6 = .ok (.iconst 0, 1) := by decide +kernel
theorem dX0_number_7 : decode cX0_number 7 = .ok (.invokevirtual 31, 3) := by decide +kernel
theorem dX0_number_10 : decode cX0_number 10 = .ok (.return_, 1) := by decide +kernel
theorem dX0_clear_0 : decode cX0_clear 0 = .ok (.aload_n 0, 1) := by decide +kernel
theorem dX0_clear_1 : decode cX0_clear 1 = .ok (.iconst 0, 1) := by decide +kernel
theorem dX0_clear_2 : decode cX0_clear 2 = .ok (.iconst 0, 1) := by decide +kernel
theorem dX0_clear_3 : decode cX0_clear 3 = .ok (.iconst 0, 1) := by decide +kernel
theorem dX0_clear_4 : decode cX0_clear 4 = .ok (.iconst 0, 1) := by decide +kernel
theorem dX0_clear_5 : decode cX0_clear 5 = .ok (.iconst 0, 1) := by decide +kernel
theorem dX0_clear_6 : decode cX0_clear 6 = .ok (.iconst 0, 1) := by decide +kernel
theorem dX0_clear_7 : decode cX0_clear 7 = .ok (.invokevirtual 31, 3) := by decide +kernel
theorem dX0_clear_10 : decode cX0_clear 10 = .ok (.return_, 1) := by decide +kernel
theorem dX0_has_0 : decode cX0_has 0 = .ok (.aload_n 0, 1) := by decide +kernel
theorem dX0_has_1 : decode cX0_has 1 = .ok (.getfield 21, 3) := by decide +kernel
theorem dX0_has_4 : decode cX0_has 4 = .ok (.iload_n 1, 1) := by decide +kernel
theorem dX0_has_5 : decode cX0_has 5 = .ok (.iand, 1) := by decide +kernel
theorem dX0_has_6 : decode cX0_has 6 = .ok (.iload_n 1, 1) := by decide +kernel
theorem dX0_has_7 : decode cX0_has 7 = .ok (.if_icmp .ne 7, 3) := by decide +kernel
theorem dX0_has_10 : decode cX0_has 10 = .ok (.iconst 1, 1) := by decide +kernel
theorem dX0_has_11 : decode cX0_has 11 = .ok (.goto 4, 3) := by decide +kernel
theorem dX0_has_14 : decode cX0_has 14 = .ok (.iconst 0, 1) := by decide +kernel
theorem dX0_has_15 : decode cX0_has 15 = .ok (.ireturn, 1) := by decide +kernel
theorem dX0_isPlainWith_0 : decode cX0_isPlainWith 0 = .ok (.aload_n 0, 1) := by decide +kernel
theorem dX0_isPlainWith_1 : decode cX0_isPlainWith 1 = .ok (.getfield 27, 3) := by decide +kernel
theorem dX0_isPlainWith_4 : decode cX0_isPlainWith 4 = .ok (.ifCond .eq 24, 3) := by decide +kernel
theorem dX0_isPlainWith_7 : decode cX0_isPlainWith 7 = .ok (.aload_n 0, 1) := by decide +kernel
theorem dX0_isPlainWith_8 : decode cX0_isPlainWith 8 = .ok (.getfield 24, 3) := by decide +kernel
theorem dX0_isPlainWith_11 : decode cX0_isPlainWith 11 = .ok (.ifCond .ne 17, 3) := by decide +kernel
theorem dX0_isPlainWith_14 : decode cX0_isPlainWith 14 = .ok (.aload_n 0, 1) := by decide +kernel
theorem dX0_isPlainWith_15 : decode cX0_isPlainWith 15 = .ok (.getfield 21, 3) := by decide +kernel
theorem dX0_isPlainWith_18 : decode cX0_isPlainWith 18 = .ok (.iload_n 1, 1) := by decide +kernel
theorem dX0_isPlainWith_19 : decode cX0_isPlainWith 19 = .ok (.iand, 1) := by decide +kernel
theorem dX0_isPlainWith_20 : decode cX0_isPlainWith 20 = .ok (.iload_n 1, 1) := by decide +kernel
theorem dX0_isPlainWith_21 : decode cX0_isPlainWith 21 = .ok (.if_icmp .ne 7, 3) := by decide +kernel
theorem dX0_isPlainWith_24 : decode cX0_isPlainWith 24 = .ok (.iconst 1, 1) := by decide +kernel
theorem dX0_isPlainWith_25 : decode cX0_isPlainWith 25 = .ok (.goto 4, 3) := by decide +kernel
theorem dX0_isPlainWith_28 : decode cX0_isPlainWith 28 = .ok (.iconst 0, 1) := by decide +kernel
theorem dX0_isPlainWith_29 : decode cX0_isPlainWith 29 = .ok (.ireturn, 1) := by decide +kernel
theorem dX0_holds_0 : decode cX0_holds 0 = .ok (.iload_n 1, 1) := by decide +kernel
theorem dX0_holds_1 : decode cX0_holds 1 = .ok (.i2l, 1) := by decide +kernel
theorem dX0_holds_2 : decode cX0_holds 2 = .ok (.ldc2_w 35, 3) := by decide +kernel
theorem dX0_holds_5 : decode cX0_holds 5 = .ok (.land, 1) := by decide +kernel
theorem dX0_holds_6 : decode cX0_holds 6 = .ok (.lstore_n 3, 1) := by decide +kernel
theorem dX0_holds_7 : decode cX0_holds 7 = .ok (.lload_n 3, 1) := by decide +kernel
theorem dX0_holds_8 : decode cX0_holds 8 = .ok (.aload_n 0, 1) := by decide +kernel
theorem dX0_holds_9 : decode cX0_holds 9 = .ok (.getfield 15, 3) := by decide +kernel
theorem dX0_holds_12 : decode cX0_holds 12 = .ok (.i2l, 1) := by decide +kernel
theorem dX0_holds_13 : decode cX0_holds 13 = .ok (.ldc2_w 35, 3) := by decide +kernel
theorem dX0_holds_16 : decode cX0_holds 16 = .ok (.land, 1) := by decide +kernel
theorem dX0_holds_17 : decode cX0_holds 17 = .ok (.lcmp, 1) := by decide +kernel
theorem dX0_holds_18 : decode cX0_holds 18 = .ok (.ifCond .lt 24, 3) := by decide +kernel
theorem dX0_holds_21 : decode cX0_holds 21 = .ok (.lload_n 3, 1) := by decide +kernel
theorem dX0_holds_22 : decode cX0_holds 22 = .ok (.iload_n 2, 1) := by decide +kernel
theorem dX0_holds_23 : decode cX0_holds 23 = .ok (.i2l, 1) := by decide +kernel
theorem dX0_holds_24 : decode cX0_holds 24 = .ok (.ladd, 1) := by decide +kernel
theorem dX0_holds_25 : decode cX0_holds 25 = .ok (.aload_n 0, 1) := by decide +kernel
theorem dX0_holds_26 : decode cX0_holds 26 = .ok (.getfield 18, 3) := by decide +kernel
theorem dX0_holds_29 : decode cX0_holds 29 = .ok (.i2l, 1) := by decide +kernel
theorem dX0_holds_30 : decode cX0_holds 30 = .ok (.ldc2_w 35, 3) := by decide +kernel
theorem dX0_holds_33 : decode cX0_holds 33 = .ok (.land, 1) := by decide +kernel
theorem dX0_holds_34 : decode cX0_holds 34 = .ok (.lcmp, 1) := by decide +kernel
theorem dX0_holds_35 : decode cX0_holds 35 = .ok (.ifCond .gt 7, 3) := by decide +kernel
theorem dX0_holds_38 : decode cX0_holds 38 = .ok (.iconst 1, 1) := by decide +kernel
theorem dX0_holds_39 : decode cX0_holds 39 = .ok (.goto 4, 3) := by decide +kernel
theorem dX0_holds_42 : decode cX0_holds 42 = .ok (.iconst 0, 1) := by decide +kernel
theorem dX0_holds_43 : decode cX0_holds 43 = .ok (.ireturn, 1) := by decide +kernel
theorem dX0_faultFor_0 : decode cX0_faultFor 0 = .ok (.aload_n 0, 1) := by decide +kernel
theorem dX0_faultFor_1 : decode cX0_faultFor 1 = .ok (.getfield 27, 3) := by decide +kernel
theorem dX0_faultFor_4 : decode cX0_faultFor 4 = .ok (.ifCond .ne 5, 3) := by decide +kernel
theorem dX0_faultFor_7 : decode cX0_faultFor 7 = .ok (.iconst 1, 1) := by decide +kernel
theorem dX0_faultFor_8 : decode cX0_faultFor 8 = .ok (.ireturn, 1) := by decide +kernel
theorem dX0_faultFor_9 : decode cX0_faultFor 9 = .ok (.aload_n 0, 1) := by decide +kernel
theorem dX0_faultFor_10 : decode cX0_faultFor 10 = .ok (.getfield 24, 3) := by decide +kernel
theorem dX0_faultFor_13 : decode cX0_faultFor 13 = .ok (.ifCond .eq 5, 3) := by decide +kernel
theorem dX0_faultFor_16 : decode cX0_faultFor 16 = .ok (.iconst 2, 1) := by decide +kernel
theorem dX0_faultFor_17 : decode cX0_faultFor 17 = .ok (.ireturn, 1) := by decide +kernel
theorem dX0_faultFor_18 : decode cX0_faultFor 18 = .ok (.aload_n 0, 1) := by decide +kernel
theorem dX0_faultFor_19 : decode cX0_faultFor 19 = .ok (.iload_n 1, 1) := by decide +kernel
theorem dX0_faultFor_20 : decode cX0_faultFor 20 = .ok (.invokevirtual 37, 3) := by decide +kernel
theorem dX0_faultFor_23 : decode cX0_faultFor 23 = .ok (.ifCond .ne 5, 3) := by decide +kernel
theorem dX0_faultFor_26 : decode cX0_faultFor 26 = .ok (.iconst 3, 1) := by decide +kernel
theorem dX0_faultFor_27 : decode cX0_faultFor 27 = .ok (.ireturn, 1) := by decide +kernel
theorem dX0_faultFor_28 : decode cX0_faultFor 28 = .ok (.aload_n 0, 1) := by decide +kernel
theorem dX0_faultFor_29 : decode cX0_faultFor 29 = .ok (.iload_n 2, 1) := by decide +kernel
theorem dX0_faultFor_30 : decode cX0_faultFor 30 = .ok (.iload_n 3, 1) := by decide +kernel
theorem dX0_faultFor_31 : decode cX0_faultFor 31 = .ok (.invokevirtual 41, 3) := by decide +kernel
theorem dX0_faultFor_34 : decode cX0_faultFor 34 = .ok (.ifCond .ne 5, 3) := by decide +kernel
theorem dX0_faultFor_37 : decode cX0_faultFor 37 = .ok (.iconst 4, 1) := by decide +kernel
theorem dX0_faultFor_38 : decode cX0_faultFor 38 = .ok (.ireturn, 1) := by decide +kernel
theorem dX0_faultFor_39 : decode cX0_faultFor 39 = .ok (.iload_n 2, 1) := by decide +kernel
theorem dX0_faultFor_40 : decode cX0_faultFor 40 = .ok (.iload_n 3, 1) := by decide +kernel
theorem dX0_faultFor_41 : decode cX0_faultFor 41 = .ok (.iconst 1, 1) := by decide +kernel
theorem dX0_faultFor_42 : decode cX0_faultFor 42 = .ok (.isub, 1) := by decide +kernel
theorem dX0_faultFor_43 : decode cX0_faultFor 43 = .ok (.iand, 1) := by decide +kernel
theorem dX0_faultFor_44 : decode cX0_faultFor 44 = .ok (.ifCond .ne 7, 3) := by decide +kernel
theorem dX0_faultFor_47 : decode cX0_faultFor 47 = .ok (.iconst 0, 1) := by decide +kernel
theorem dX0_faultFor_48 : decode cX0_faultFor 48 = .ok (.goto 4, 3) := by decide +kernel
theorem dX0_faultFor_51 : decode cX0_faultFor 51 = .ok (.iconst 5, 1) := by decide +kernel
theorem dX0_faultFor_52 : decode cX0_faultFor 52 = .ok (.ireturn, 1) := by decide +kernel
theorem dX0_moveTo_0 : decode cX0_moveTo 0 = .ok (.aload_n 0, 1) := by decide +kernel
theorem dX0_moveTo_1 : decode cX0_moveTo 1 = .ok (.iload_n 1, 1) := by decide +kernel
theorem dX0_moveTo_2 : decode cX0_moveTo 2 = .ok (.putfield 9, 3) := by decide +kernel
theorem dX0_moveTo_5 : decode cX0_moveTo 5 = .ok (.aload_n 0, 1) := by decide +kernel
theorem dX0_moveTo_6 : decode cX0_moveTo 6 = .ok (.dup, 1) := by decide +kernel
theorem dX0_moveTo_7 : decode cX0_moveTo 7 = .ok (.getfield 27, 3) := by decide +kernel
theorem dX0_moveTo_10 : decode cX0_moveTo 10 = .ok (.aload_n 0, 1) := by decide +kernel
theorem dX0_moveTo_11 : decode cX0_moveTo 11 = .ok (.getfield 24, 3) := by decide +kernel
theorem dX0_moveTo_14 : decode cX0_moveTo 14 = .ok (.ifCond .ne 7, 3) := by decide +kernel
theorem dX0_moveTo_17 : decode cX0_moveTo 17 = .ok (.iconst 1, 1) := by decide +kernel
theorem dX0_moveTo_18 : decode cX0_moveTo 18 = .ok (.goto 4, 3) := by decide +kernel
theorem dX0_moveTo_21 : decode cX0_moveTo 21 = .ok (.iconst 0, 1) := by decide +kernel
theorem dX0_moveTo_22 : decode cX0_moveTo 22 = .ok (.iand, 1) := by decide +kernel
theorem dX0_moveTo_23 : decode cX0_moveTo 23 = .ok (.putfield 27, 3) := by decide +kernel
theorem dX0_moveTo_26 : decode cX0_moveTo 26 = .ok (.return_, 1) := by decide +kernel
theorem dX0_narrow_0 : decode cX0_narrow 0 = .ok (.aload_n 0, 1) := by decide +kernel
theorem dX0_narrow_1 : decode cX0_narrow 1 = .ok (.getfield 9, 3) := by decide +kernel
theorem dX0_narrow_4 : decode cX0_narrow 4 = .ok (.invokestatic 45, 3) := by decide +kernel
theorem dX0_narrow_7 : decode cX0_narrow 7 = .ok (.lstore_n 3, 1) := by decide +kernel
theorem dX0_narrow_8 : decode cX0_narrow 8 = .ok (.lload_n 3, 1) := by decide +kernel
theorem dX0_narrow_9 : decode cX0_narrow 9 = .ok (.lload_n 1, 1) := by decide +kernel
theorem dX0_narrow_10 : decode cX0_narrow 10 = .ok (.ladd, 1) := by decide +kernel
theorem dX0_narrow_11 : decode cX0_narrow 11 = .ok (.lstore 5, 2) := by decide +kernel
theorem dX0_narrow_13 : decode cX0_narrow 13 = .ok (.aload_n 0, 1) := by decide +kernel
theorem dX0_narrow_14 : decode cX0_narrow 14 = .ok (.dup, 1) := by decide +kernel
theorem dX0_narrow_15 : decode cX0_narrow 15 = .ok (.getfield 27, 3) := by decide +kernel
theorem dX0_narrow_18 : decode cX0_narrow 18 = .ok (.aload_n 0, 1) := by decide +kernel
theorem dX0_narrow_19 : decode cX0_narrow 19 = .ok (.getfield 24, 3) := by decide +kernel
theorem dX0_narrow_22 : decode cX0_narrow 22 = .ok (.ifCond .ne 32, 3) := by decide +kernel
theorem dX0_narrow_25 : decode cX0_narrow 25 = .ok (.lload_n 3, 1) := by decide +kernel
theorem dX0_narrow_26 : decode cX0_narrow 26 = .ok (.aload_n 0, 1) := by decide +kernel
theorem dX0_narrow_27 : decode cX0_narrow 27 = .ok (.getfield 15, 3) := by decide +kernel
theorem dX0_narrow_30 : decode cX0_narrow 30 = .ok (.invokestatic 45, 3) := by decide +kernel
theorem dX0_narrow_33 : decode cX0_narrow 33 = .ok (.lcmp, 1) := by decide +kernel
theorem dX0_narrow_34 : decode cX0_narrow 34 = .ok (.ifCond .lt 20, 3) := by decide +kernel
theorem dX0_narrow_37 : decode cX0_narrow 37 = .ok (.lload 5, 2) := by decide +kernel
theorem dX0_narrow_39 : decode cX0_narrow 39 = .ok (.aload_n 0, 1) := by decide +kernel
theorem dX0_narrow_40 : decode cX0_narrow 40 = .ok (.getfield 18, 3) := by decide +kernel
theorem dX0_narrow_43 : decode cX0_narrow 43 = .ok (.invokestatic 45, 3) := by decide +kernel
theorem dX0_narrow_46 : decode cX0_narrow 46 = .ok (.lcmp, 1) := by decide +kernel
theorem dX0_narrow_47 : decode cX0_narrow 47 = .ok (.ifCond .gt 7, 3) := by decide +kernel
theorem dX0_narrow_50 : decode cX0_narrow 50 = .ok (.iconst 1, 1) := by decide +kernel
theorem dX0_narrow_51 : decode cX0_narrow 51 = .ok (.goto 4, 3) := by decide +kernel
theorem dX0_narrow_54 : decode cX0_narrow 54 = .ok (.iconst 0, 1) := by decide +kernel
theorem dX0_narrow_55 : decode cX0_narrow 55 = .ok (.iand, 1) := by decide +kernel
theorem dX0_narrow_56 : decode cX0_narrow 56 = .ok (.putfield 27, 3) := by decide +kernel
theorem dX0_narrow_59 : decode cX0_narrow 59 = .ok (.aload_n 0, 1) := by decide +kernel
theorem dX0_narrow_60 : decode cX0_narrow 60 = .ok (.aload_n 0, 1) := by decide +kernel
theorem dX0_narrow_61 : decode cX0_narrow 61 = .ok (.getfield 9, 3) := by decide +kernel
theorem dX0_narrow_64 : decode cX0_narrow 64 = .ok (.putfield 15, 3) := by decide +kernel
theorem dX0_narrow_67 : decode cX0_narrow 67 = .ok (.aload_n 0, 1) := by decide +kernel
theorem dX0_narrow_68 : decode cX0_narrow 68 = .ok (.lload 5, 2) := by decide +kernel
theorem dX0_narrow_70 : decode cX0_narrow 70 = .ok (.l2i, 1) := by decide +kernel
theorem dX0_narrow_71 : decode cX0_narrow 71 = .ok (.putfield 18, 3) := by decide +kernel
theorem dX0_narrow_74 : decode cX0_narrow 74 = .ok (.return_, 1) := by decide +kernel
theorem dX0_limit_0 : decode cX0_limit 0 = .ok (.aload_n 0, 1) := by decide +kernel
theorem dX0_limit_1 : decode cX0_limit 1 = .ok (.dup, 1) := by decide +kernel
theorem dX0_limit_2 : decode cX0_limit 2 = .ok (.getfield 21, 3) := by decide +kernel
theorem dX0_limit_5 : decode cX0_limit 5 = .ok (.iload_n 1, 1) := by decide +kernel
theorem dX0_limit_6 : decode cX0_limit 6 = .ok (.iand, 1) := by decide +kernel
theorem dX0_limit_7 : decode cX0_limit 7 = .ok (.putfield 21, 3) := by decide +kernel
theorem dX0_limit_10 : decode cX0_limit 10 = .ok (.aload_n 0, 1) := by decide +kernel
theorem dX0_limit_11 : decode cX0_limit 11 = .ok (.dup, 1) := by decide +kernel
theorem dX0_limit_12 : decode cX0_limit 12 = .ok (.getfield 27, 3) := by decide +kernel
theorem dX0_limit_15 : decode cX0_limit 15 = .ok (.aload_n 0, 1) := by decide +kernel
theorem dX0_limit_16 : decode cX0_limit 16 = .ok (.getfield 24, 3) := by decide +kernel
theorem dX0_limit_19 : decode cX0_limit 19 = .ok (.ifCond .ne 7, 3) := by decide +kernel
theorem dX0_limit_22 : decode cX0_limit 22 = .ok (.iconst 1, 1) := by decide +kernel
theorem dX0_limit_23 : decode cX0_limit 23 = .ok (.goto 4, 3) := by decide +kernel
theorem dX0_limit_26 : decode cX0_limit 26 = .ok (.iconst 0, 1) := by decide +kernel
theorem dX0_limit_27 : decode cX0_limit 27 = .ok (.iand, 1) := by decide +kernel
theorem dX0_limit_28 : decode cX0_limit 28 = .ok (.putfield 27, 3) := by decide +kernel
theorem dX0_limit_31 : decode cX0_limit 31 = .ok (.return_, 1) := by decide +kernel
theorem dX0_canSeal_0 : decode cX0_canSeal 0 = .ok (.aload_n 0, 1) := by decide +kernel
theorem dX0_canSeal_1 : decode cX0_canSeal 1 = .ok (.bipush 32, 2) := by decide +kernel
theorem dX0_canSeal_3 : decode cX0_canSeal 3 = .ok (.invokevirtual 49, 3) := by decide +kernel
theorem dX0_canSeal_6 : decode cX0_canSeal 6 = .ok (.ifCond .eq 38, 3) := by decide +kernel
theorem dX0_canSeal_9 : decode cX0_canSeal 9 = .ok (.aload_n 0, 1) := by decide +kernel
theorem dX0_canSeal_10 : decode cX0_canSeal 10 = .ok (.aload_n 0, 1) := by decide +kernel
theorem dX0_canSeal_11 : decode cX0_canSeal 11 = .ok (.getfield 9, 3) := by decide +kernel
theorem dX0_canSeal_14 : decode cX0_canSeal 14 = .ok (.iconst 1, 1) := by decide +kernel
theorem dX0_canSeal_15 : decode cX0_canSeal 15 = .ok (.invokevirtual 41, 3) := by decide +kernel
theorem dX0_canSeal_18 : decode cX0_canSeal 18 = .ok (.ifCond .eq 26, 3) := by decide +kernel
theorem dX0_canSeal_21 : decode cX0_canSeal 21 = .ok (.aload_n 0, 1) := by decide +kernel
theorem dX0_canSeal_22 : decode cX0_canSeal 22 = .ok (.getfield 9, 3) := by decide +kernel
theorem dX0_canSeal_25 : decode cX0_canSeal 25 = .ok (.bipush 8, 2) := by decide +kernel
theorem dX0_canSeal_27 : decode cX0_canSeal 27 = .ok (.if_icmp .lt 17, 3) := by decide +kernel
theorem dX0_canSeal_30 : decode cX0_canSeal 30 = .ok (.aload_n 0, 1) := by decide +kernel
theorem dX0_canSeal_31 : decode cX0_canSeal 31 = .ok (.getfield 9, 3) := by decide +kernel
theorem dX0_canSeal_34 : decode cX0_canSeal 34 = .ok (.sipush 255, 3) := by decide +kernel
theorem dX0_canSeal_37 : decode cX0_canSeal 37 = .ok (.if_icmp .gt 7, 3) := by decide +kernel
theorem dX0_canSeal_40 : decode cX0_canSeal 40 = .ok (.iconst 1, 1) := by decide +kernel
theorem dX0_canSeal_41 : decode cX0_canSeal 41 = .ok (.goto 4, 3) := by decide +kernel
theorem dX0_canSeal_44 : decode cX0_canSeal 44 = .ok (.iconst 0, 1) := by decide +kernel
theorem dX0_canSeal_45 : decode cX0_canSeal 45 = .ok (.ireturn, 1) := by decide +kernel
theorem dX0_seal_0 : decode cX0_seal 0 = .ok (.aload_n 0, 1) := by decide +kernel
theorem dX0_seal_1 : decode cX0_seal 1 = .ok (.getfield 27, 3) := by decide +kernel
theorem dX0_seal_4 : decode cX0_seal 4 = .ok (.ifCond .eq 28, 3) := by decide +kernel
theorem dX0_seal_7 : decode cX0_seal 7 = .ok (.aload_n 0, 1) := by decide +kernel
theorem dX0_seal_8 : decode cX0_seal 8 = .ok (.getfield 24, 3) := by decide +kernel
theorem dX0_seal_11 : decode cX0_seal 11 = .ok (.ifCond .ne 21, 3) := by decide +kernel
theorem dX0_seal_14 : decode cX0_seal 14 = .ok (.aload_n 1, 1) := by decide +kernel
theorem dX0_seal_15 : decode cX0_seal 15 = .ok (.invokevirtual 52, 3) := by decide +kernel
theorem dX0_seal_18 : decode cX0_seal 18 = .ok (.ifCond .eq 14, 3) := by decide +kernel
theorem dX0_seal_21 : decode cX0_seal 21 = .ok (.aload_n 0, 1) := by decide +kernel
theorem dX0_seal_22 : decode cX0_seal 22 = .ok (.aload_n 1, 1) := by decide +kernel
theorem dX0_seal_23 : decode cX0_seal 23 = .ok (.getfield 9, 3) := by decide +kernel
theorem dX0_seal_26 : decode cX0_seal 26 = .ok (.putfield 24, 3) := by decide +kernel
theorem dX0_seal_29 : decode cX0_seal 29 = .ok (.goto 8, 3) := by decide +kernel
theorem dX0_seal_32 : decode cX0_seal 32 = .ok (.aload_n 0, 1) := by decide +kernel
theorem dX0_seal_33 : decode cX0_seal 33 = .ok (.iconst 0, 1) := by decide +kernel
theorem dX0_seal_34 : decode cX0_seal 34 = .ok (.putfield 27, 3) := by decide +kernel
theorem dX0_seal_37 : decode cX0_seal 37 = .ok (.return_, 1) := by decide +kernel
theorem dX0_unseal_0 : decode cX0_unseal 0 = .ok (.aload_n 0, 1) := by decide +kernel
theorem dX0_unseal_1 : decode cX0_unseal 1 = .ok (.getfield 27, 3) := by decide +kernel
theorem dX0_unseal_4 : decode cX0_unseal 4 = .ok (.ifCond .eq 49, 3) := by decide +kernel
theorem dX0_unseal_7 : decode cX0_unseal 7 = .ok (.aload_n 0, 1) := by decide +kernel
theorem dX0_unseal_8 : decode cX0_unseal 8 = .ok (.getfield 24, 3) := by decide +kernel
theorem dX0_unseal_11 : decode cX0_unseal 11 = .ok (.aload_n 1, 1) := by decide +kernel
theorem dX0_unseal_12 : decode cX0_unseal 12 = .ok (.getfield 9, 3) := by decide +kernel
theorem dX0_unseal_15 : decode cX0_unseal 15 = .ok (.if_icmp .ne 38, 3) := by decide +kernel
theorem dX0_unseal_18 : decode cX0_unseal 18 = .ok (.aload_n 1, 1) := by decide +kernel
theorem dX0_unseal_19 : decode cX0_unseal 19 = .ok (.invokevirtual 52, 3) := by decide +kernel
theorem dX0_unseal_22 : decode cX0_unseal 22 = .ok (.ifCond .eq 31, 3) := by decide +kernel
theorem dX0_unseal_25 : decode cX0_unseal 25 = .ok (.aload_n 0, 1) := by decide +kernel
theorem dX0_unseal_26 : decode cX0_unseal 26 = .ok (.iconst 0, 1) := by decide +kernel
theorem dX0_unseal_27 : decode cX0_unseal 27 = .ok (.putfield 24, 3) := by decide +kernel
theorem dX0_unseal_30 : decode cX0_unseal 30 = .ok (.aload_n 1, 1) := by decide +kernel
theorem dX0_unseal_31 : decode cX0_unseal 31 = .ok (.bipush 64, 2) := by decide +kernel
theorem dX0_unseal_33 : decode cX0_unseal 33 = .ok (.invokevirtual 37, 3) := by decide +kernel
theorem dX0_unseal_36 : decode cX0_unseal 36 = .ok (.ifCond .ne 22, 3) := by decide +kernel
theorem dX0_unseal_39 : decode cX0_unseal 39 = .ok (.aload_n 0, 1) := by decide +kernel
theorem dX0_unseal_40 : decode cX0_unseal 40 = .ok (.dup, 1) := by decide +kernel
theorem dX0_unseal_41 : decode cX0_unseal 41 = .ok (.getfield 21, 3) := by decide +kernel
theorem dX0_unseal_44 : decode cX0_unseal 44 = .ok (.bipush (-65), 2) := by decide +kernel
theorem dX0_unseal_46 : decode cX0_unseal 46 = .ok (.iand, 1) := by decide +kernel
theorem dX0_unseal_47 : decode cX0_unseal 47 = .ok (.putfield 21, 3) := by decide +kernel
theorem dX0_unseal_50 : decode cX0_unseal 50 = .ok (.goto 8, 3) := by decide +kernel
theorem dX0_unseal_53 : decode cX0_unseal 53 = .ok (.aload_n 0, 1) := by decide +kernel
theorem dX0_unseal_54 : decode cX0_unseal 54 = .ok (.iconst 0, 1) := by decide +kernel
theorem dX0_unseal_55 : decode cX0_unseal 55 = .ok (.putfield 27, 3) := by decide +kernel
theorem dX0_unseal_58 : decode cX0_unseal 58 = .ok (.return_, 1) := by decide +kernel
theorem dX0_becomeEntry_0 : decode cX0_becomeEntry 0 = .ok (.aload_n 0, 1) := by decide +kernel
theorem dX0_becomeEntry_1 : decode cX0_becomeEntry 1 = .ok (.iconst 4, 1) := by decide +kernel
theorem dX0_becomeEntry_2 : decode cX0_becomeEntry 2 = .ok (.invokevirtual 49, 3) := by decide +kernel
theorem dX0_becomeEntry_5 : decode cX0_becomeEntry 5 = .ok (.ifCond .eq 11, 3) := by decide +kernel
theorem dX0_becomeEntry_8 : decode cX0_becomeEntry 8 = .ok (.aload_n 0, 1) := by decide +kernel
theorem dX0_becomeEntry_9 : decode cX0_becomeEntry 9 = .ok (.iload_n 1, 1) := by decide +kernel
theorem dX0_becomeEntry_10 : decode cX0_becomeEntry 10 = .ok (.putfield 24, 3) := by decide +kernel
theorem dX0_becomeEntry_13 : decode cX0_becomeEntry 13 = .ok (.goto 8, 3) := by decide +kernel
theorem dX0_becomeEntry_16 : decode cX0_becomeEntry 16 = .ok (.aload_n 0, 1) := by decide +kernel
theorem dX0_becomeEntry_17 : decode cX0_becomeEntry 17 = .ok (.iconst 0, 1) := by decide +kernel
theorem dX0_becomeEntry_18 : decode cX0_becomeEntry 18 = .ok (.putfield 27, 3) := by decide +kernel
theorem dX0_becomeEntry_21 : decode cX0_becomeEntry 21 = .ok (.return_, 1) := by decide +kernel
theorem dX0_isWithin_0 : decode cX0_isWithin 0 = .ok (.aload_n 0, 1) := by decide +kernel
theorem dX0_isWithin_1 : decode cX0_isWithin 1 = .ok (.getfield 15, 3) := by decide +kernel
theorem dX0_isWithin_4 : decode cX0_isWithin 4 = .ok (.invokestatic 45, 3) := by decide +kernel
theorem dX0_isWithin_7 : decode cX0_isWithin 7 = .ok (.aload_n 1, 1) := by decide +kernel
theorem dX0_isWithin_8 : decode cX0_isWithin 8 = .ok (.getfield 15, 3) := by decide +kernel
theorem dX0_isWithin_11 : decode cX0_isWithin 11 = .ok (.invokestatic 45, 3) := by decide +kernel
theorem dX0_isWithin_14 : decode cX0_isWithin 14 = .ok (.lcmp, 1) := by decide +kernel
theorem dX0_isWithin_15 : decode cX0_isWithin 15 = .ok (.ifCond .lt 47, 3) := by decide +kernel
theorem dX0_isWithin_18 : decode cX0_isWithin 18 = .ok (.aload_n 0, 1) := by decide +kernel
theorem dX0_isWithin_19 : decode cX0_isWithin 19 = .ok (.getfield 18, 3) := by decide +kernel
theorem dX0_isWithin_22 : decode cX0_isWithin 22 = .ok (.invokestatic 45, 3) := by decide +kernel
theorem dX0_isWithin_25 : decode cX0_isWithin 25 = .ok (.aload_n 1, 1) := by decide +kernel
theorem dX0_isWithin_26 : decode cX0_isWithin 26 = .ok (.getfield 18, 3) := by decide +kernel
theorem dX0_isWithin_29 : decode cX0_isWithin 29 = .ok (.invokestatic 45, 3) := by decide +kernel
theorem dX0_isWithin_32 : decode cX0_isWithin 32 = .ok (.lcmp, 1) := by decide +kernel
theorem dX0_isWithin_33 : decode cX0_isWithin 33 = .ok (.ifCond .gt 29, 3) := by decide +kernel
theorem dX0_isWithin_36 : decode cX0_isWithin 36 = .ok (.aload_n 1, 1) := by decide +kernel
theorem dX0_isWithin_37 : decode cX0_isWithin 37 = .ok (.aload_n 0, 1) := by decide +kernel
theorem dX0_isWithin_38 : decode cX0_isWithin 38 = .ok (.getfield 21, 3) := by decide +kernel
theorem dX0_isWithin_41 : decode cX0_isWithin 41 = .ok (.invokevirtual 37, 3) := by decide +kernel
theorem dX0_isWithin_44 : decode cX0_isWithin 44 = .ok (.ifCond .eq 18, 3) := by decide +kernel
theorem dX0_isWithin_47 : decode cX0_isWithin 47 = .ok (.aload_n 0, 1) := by decide +kernel
theorem dX0_isWithin_48 : decode cX0_isWithin 48 = .ok (.getfield 27, 3) := by decide +kernel
theorem dX0_isWithin_51 : decode cX0_isWithin 51 = .ok (.aload_n 1, 1) := by decide +kernel
theorem dX0_isWithin_52 : decode cX0_isWithin 52 = .ok (.getfield 27, 3) := by decide +kernel
theorem dX0_isWithin_55 : decode cX0_isWithin 55 = .ok (.if_icmp .ne 7, 3) := by decide +kernel
theorem dX0_isWithin_58 : decode cX0_isWithin 58 = .ok (.iconst 1, 1) := by decide +kernel
theorem dX0_isWithin_59 : decode cX0_isWithin 59 = .ok (.goto 4, 3) := by decide +kernel
theorem dX0_isWithin_62 : decode cX0_isWithin 62 = .ok (.iconst 0, 1) := by decide +kernel
theorem dX0_isWithin_63 : decode cX0_isWithin 63 = .ok (.ireturn, 1) := by decide +kernel
theorem dX0_isLike_0 : decode cX0_isLike 0 = .ok (.aload_n 0, 1) := by decide +kernel
theorem dX0_isLike_1 : decode cX0_isLike 1 = .ok (.getfield 9, 3) := by decide +kernel
theorem dX0_isLike_4 : decode cX0_isLike 4 = .ok (.aload_n 1, 1) := by decide +kernel
theorem dX0_isLike_5 : decode cX0_isLike 5 = .ok (.getfield 9, 3) := by decide +kernel
theorem dX0_isLike_8 : decode cX0_isLike 8 = .ok (.if_icmp .ne 62, 3) := by decide +kernel
theorem dX0_isLike_11 : decode cX0_isLike 11 = .ok (.aload_n 0, 1) := by decide +kernel
theorem dX0_isLike_12 : decode cX0_isLike 12 = .ok (.getfield 15, 3) := by decide +kernel
theorem dX0_isLike_15 : decode cX0_isLike 15 = .ok (.aload_n 1, 1) := by decide +kernel
theorem dX0_isLike_16 : decode cX0_isLike 16 = .ok (.getfield 15, 3) := by decide +kernel
theorem dX0_isLike_19 : decode cX0_isLike 19 = .ok (.if_icmp .ne 51, 3) := by decide +kernel
theorem dX0_isLike_22 : decode cX0_isLike 22 = .ok (.aload_n 0, 1) := by decide +kernel
theorem dX0_isLike_23 : decode cX0_isLike 23 = .ok (.getfield 18, 3) := by decide +kernel
theorem dX0_isLike_26 : decode cX0_isLike 26 = .ok (.aload_n 1, 1) := by decide +kernel
theorem dX0_isLike_27 : decode cX0_isLike 27 = .ok (.getfield 18, 3) := by decide +kernel
theorem dX0_isLike_30 : decode cX0_isLike 30 = .ok (.if_icmp .ne 40, 3) := by decide +kernel
theorem dX0_isLike_33 : decode cX0_isLike 33 = .ok (.aload_n 0, 1) := by decide +kernel
theorem dX0_isLike_34 : decode cX0_isLike 34 = .ok (.getfield 21, 3) := by decide +kernel
theorem dX0_isLike_37 : decode cX0_isLike 37 = .ok (.aload_n 1, 1) := by decide +kernel
theorem dX0_isLike_38 : decode cX0_isLike 38 = .ok (.getfield 21, 3) := by decide +kernel
theorem dX0_isLike_41 : decode cX0_isLike 41 = .ok (.if_icmp .ne 29, 3) := by decide +kernel
theorem dX0_isLike_44 : decode cX0_isLike 44 = .ok (.aload_n 0, 1) := by decide +kernel
theorem dX0_isLike_45 : decode cX0_isLike 45 = .ok (.getfield 24, 3) := by decide +kernel
theorem dX0_isLike_48 : decode cX0_isLike 48 = .ok (.aload_n 1, 1) := by decide +kernel
theorem dX0_isLike_49 : decode cX0_isLike 49 = .ok (.getfield 24, 3) := by decide +kernel
theorem dX0_isLike_52 : decode cX0_isLike 52 = .ok (.if_icmp .ne 18, 3) := by decide +kernel
theorem dX0_isLike_55 : decode cX0_isLike 55 = .ok (.aload_n 0, 1) := by decide +kernel
theorem dX0_isLike_56 : decode cX0_isLike 56 = .ok (.getfield 27, 3) := by decide +kernel
theorem dX0_isLike_59 : decode cX0_isLike 59 = .ok (.aload_n 1, 1) := by decide +kernel
theorem dX0_isLike_60 : decode cX0_isLike 60 = .ok (.getfield 27, 3) := by decide +kernel
theorem dX0_isLike_63 : decode cX0_isLike 63 = .ok (.if_icmp .ne 7, 3) := by decide +kernel
theorem dX0_isLike_66 : decode cX0_isLike 66 = .ok (.iconst 1, 1) := by decide +kernel
theorem dX0_isLike_67 : decode cX0_isLike 67 = .ok (.goto 4, 3) := by decide +kernel
theorem dX0_isLike_70 : decode cX0_isLike 70 = .ok (.iconst 0, 1) := by decide +kernel
theorem dX0_isLike_71 : decode cX0_isLike 71 = .ok (.ireturn, 1) := by decide +kernel
theorem dX0_part_0 : decode cX0_part 0 = .ok (.iload_n 1, 1) := by decide +kernel
theorem dX0_part_1 : decode cX0_part 1 = .ok (.tableswitch 88 0 5 #[39, 47, 55, 63, 69, 75], 39) := by decide +kernel
theorem dX0_part_40 : decode cX0_part 40 = .ok (.aload_n 0, 1) := by decide +kernel
theorem dX0_part_41 : decode cX0_part 41 = .ok (.getfield 9, 3) := by decide +kernel
theorem dX0_part_44 : decode cX0_part 44 = .ok (.invokestatic 45, 3) := by decide +kernel
theorem dX0_part_47 : decode cX0_part 47 = .ok (.lreturn, 1) := by decide +kernel
theorem dX0_part_48 : decode cX0_part 48 = .ok (.aload_n 0, 1) := by decide +kernel
theorem dX0_part_49 : decode cX0_part 49 = .ok (.getfield 15, 3) := by decide +kernel
theorem dX0_part_52 : decode cX0_part 52 = .ok (.invokestatic 45, 3) := by decide +kernel
theorem dX0_part_55 : decode cX0_part 55 = .ok (.lreturn, 1) := by decide +kernel
theorem dX0_part_56 : decode cX0_part 56 = .ok (.aload_n 0, 1) := by decide +kernel
theorem dX0_part_57 : decode cX0_part 57 = .ok (.getfield 18, 3) := by decide +kernel
theorem dX0_part_60 : decode cX0_part 60 = .ok (.invokestatic 45, 3) := by decide +kernel
theorem dX0_part_63 : decode cX0_part 63 = .ok (.lreturn, 1) := by decide +kernel
theorem dX0_part_64 : decode cX0_part 64 = .ok (.aload_n 0, 1) := by decide +kernel
theorem dX0_part_65 : decode cX0_part 65 = .ok (.getfield 21, 3) := by decide +kernel
theorem dX0_part_68 : decode cX0_part 68 = .ok (.i2l, 1) := by decide +kernel
theorem dX0_part_69 : decode cX0_part 69 = .ok (.lreturn, 1) := by decide +kernel
theorem dX0_part_70 : decode cX0_part 70 = .ok (.aload_n 0, 1) := by decide +kernel
theorem dX0_part_71 : decode cX0_part 71 = .ok (.getfield 24, 3) := by decide +kernel
theorem dX0_part_74 : decode cX0_part 74 = .ok (.i2l, 1) := by decide +kernel
theorem dX0_part_75 : decode cX0_part 75 = .ok (.lreturn, 1) := by decide +kernel
theorem dX0_part_76 : decode cX0_part 76 = .ok (.aload_n 0, 1) := by decide +kernel
theorem dX0_part_77 : decode cX0_part 77 = .ok (.getfield 27, 3) := by decide +kernel
theorem dX0_part_80 : decode cX0_part 80 = .ok (.ifCond .eq 7, 3) := by decide +kernel
theorem dX0_part_83 : decode cX0_part 83 = .ok (.lconst 1, 1) := by decide +kernel
theorem dX0_part_84 : decode cX0_part 84 = .ok (.goto 4, 3) := by decide +kernel
theorem dX0_part_87 : decode cX0_part 87 = .ok (.lconst 0, 1) := by decide +kernel
theorem dX0_part_88 : decode cX0_part 88 = .ok (.lreturn, 1) := by decide +kernel
theorem dX0_part_89 : decode cX0_part 89 = .ok (.ldc2_w 56, 3) := by decide +kernel
theorem dX0_part_92 : decode cX0_part 92 = .ok (.lreturn, 1) := by decide +kernel
theorem dX1_init_0 : decode cX1_init 0 = .ok (.aload_n 0, 1) := by decide +kernel
theorem dX1_init_1 : decode cX1_init 1 = .ok (.invokespecial 3, 3) := by decide +kernel
theorem dX1_init_4 : decode cX1_init 4 = .ok (.aload_n 0, 1) := by decide +kernel
theorem dX1_init_5 : decode cX1_init 5 = .ok (.bipush 8, 2) := by decide +kernel
theorem dX1_init_7 : decode cX1_init 7 = .ok (.newarray .int, 2) := by decide +kernel
theorem dX1_init_9 : decode cX1_init 9 = .ok (.putfield 11, 3) := by decide +kernel
theorem dX1_init_12 : decode cX1_init 12 = .ok (.aload_n 0, 1) := by decide +kernel
theorem dX1_init_13 : decode cX1_init 13 = .ok (.bipush 8, 2) := by decide +kernel
theorem dX1_init_15 : decode cX1_init 15 = .ok (.newarray .int, 2) := by decide +kernel
theorem dX1_init_17 : decode cX1_init 17 = .ok (.putfield 15, 3) := by decide +kernel
theorem dX1_init_20 : decode cX1_init 20 = .ok (.return_, 1) := by decide +kernel
theorem dX1_arrange_0 : decode cX1_arrange 0 = .ok (.aload_n 0, 1) := by decide +kernel
theorem dX1_arrange_1 : decode cX1_arrange 1 = .ok (.iload_n 1, 1) := by decide +kernel
theorem dX1_arrange_2 : decode cX1_arrange 2 = .ok (.putfield 18, 3) := by decide +kernel
theorem dX1_arrange_5 : decode cX1_arrange 5 = .ok (.aload_n 0, 1) := by decide +kernel
theorem dX1_arrange_6 : decode cX1_arrange 6 = .ok (.iload_n 1, 1) := by decide +kernel
theorem dX1_arrange_7 : decode cX1_arrange 7 = .ok (.aload_n 0, 1) := by decide +kernel
theorem dX1_arrange_8 : decode cX1_arrange 8 = .ok (.getfield 22, 3) := by decide +kernel
theorem dX1_arrange_11 : decode cX1_arrange 11 = .ok (.iconst 4, 1) := by decide +kernel
theorem dX1_arrange_12 : decode cX1_arrange 12 = .ok (.imul, 1) := by decide +kernel
theorem dX1_arrange_13 : decode cX1_arrange 13 = .ok (.bipush 16, 2) := by decide +kernel
theorem dX1_arrange_15 : decode cX1_arrange 15 = .ok (.iadd, 1) := by decide +kernel
theorem dX1_arrange_16 : decode cX1_arrange 16 = .ok (.iconst 1, 1) := by decide +kernel
theorem dX1_arrange_17 : decode cX1_arrange 17 = .ok (.isub, 1) := by decide +kernel
theorem dX1_arrange_18 : decode cX1_arrange 18 = .ok (.bipush 16, 2) := by decide +kernel
theorem dX1_arrange_20 : decode cX1_arrange 20 = .ok (.idiv, 1) := by decide +kernel
theorem dX1_arrange_21 : decode cX1_arrange 21 = .ok (.bipush 16, 2) := by decide +kernel
theorem dX1_arrange_23 : decode cX1_arrange 23 = .ok (.imul, 1) := by decide +kernel
theorem dX1_arrange_24 : decode cX1_arrange 24 = .ok (.iadd, 1) := by decide +kernel
theorem dX1_arrange_25 : decode cX1_arrange 25 = .ok (.putfield 25, 3) := by decide +kernel
theorem dX1_arrange_28 : decode cX1_arrange 28 = .ok (.aload_n 0, 1) := by decide +kernel
theorem dX1_arrange_29 : decode cX1_arrange 29 = .ok (.aload_n 0, 1) := by decide +kernel
theorem dX1_arrange_30 : decode cX1_arrange 30 = .ok (.getfield 25, 3) := by decide +kernel
theorem dX1_arrange_33 : decode cX1_arrange 33 = .ok (.aload_n 0, 1) := by decide +kernel
theorem dX1_arrange_34 : decode cX1_arrange 34 = .ok (.getfield 28, 3) := by decide +kernel
theorem dX1_arrange_37 : decode cX1_arrange 37 = .ok (.bipush 16, 2) := by decide +kernel
theorem dX1_arrange_39 : decode cX1_arrange 39 = .ok (.imul, 1) := by decide +kernel
theorem dX1_arrange_40 : decode cX1_arrange 40 = .ok (.iadd, 1) := by decide +kernel
theorem dX1_arrange_41 : decode cX1_arrange 41 = .ok (.putfield 31, 3) := by decide +kernel
theorem dX1_arrange_44 : decode cX1_arrange 44 = .ok (.aload_n 0, 1) := by decide +kernel
theorem dX1_arrange_45 : decode cX1_arrange 45 = .ok (.aload_n 0, 1) := by decide +kernel
theorem dX1_arrange_46 : decode cX1_arrange 46 = .ok (.getfield 31, 3) := by decide +kernel
theorem dX1_arrange_49 : decode cX1_arrange 49 = .ok (.aload_n 0, 1) := by decide +kernel
theorem dX1_arrange_50 : decode cX1_arrange 50 = .ok (.getfield 34, 3) := by decide +kernel
theorem dX1_arrange_53 : decode cX1_arrange 53 = .ok (.bipush 16, 2) := by decide +kernel
theorem dX1_arrange_55 : decode cX1_arrange 55 = .ok (.imul, 1) := by decide +kernel
theorem dX1_arrange_56 : decode cX1_arrange 56 = .ok (.iadd, 1) := by decide +kernel
theorem dX1_arrange_57 : decode cX1_arrange 57 = .ok (.putfield 37, 3) := by decide +kernel
theorem dX1_arrange_60 : decode cX1_arrange 60 = .ok (.aload_n 0, 1) := by decide +kernel
theorem dX1_arrange_61 : decode cX1_arrange 61 = .ok (.getfield 37, 3) := by decide +kernel
theorem dX1_arrange_64 : decode cX1_arrange 64 = .ok (.ireturn, 1) := by decide +kernel
theorem dX1_hasExport_0 : decode cX1_hasExport 0 = .ok (.iload_n 1, 1) := by decide +kernel
theorem dX1_hasExport_1 : decode cX1_hasExport 1 = .ok (.ifCond .lt 21, 3) := by decide +kernel
theorem dX1_hasExport_4 : decode cX1_hasExport 4 = .ok (.iload_n 1, 1) := by decide +kernel
theorem dX1_hasExport_5 : decode cX1_hasExport 5 = .ok (.aload_n 0, 1) := by decide +kernel
theorem dX1_hasExport_6 : decode cX1_hasExport 6 = .ok (.getfield 40, 3) := by decide +kernel
theorem dX1_hasExport_9 : decode cX1_hasExport 9 = .ok (.if_icmp .ge 13, 3) := by decide +kernel
theorem dX1_hasExport_12 : decode cX1_hasExport 12 = .ok (.iload_n 1, 1) := by decide +kernel
theorem dX1_hasExport_13 : decode cX1_hasExport 13 = .ok (.bipush 8, 2) := by decide +kernel
theorem dX1_hasExport_15 : decode cX1_hasExport 15 = .ok (.if_icmp .ge 7, 3) := by decide +kernel
theorem dX1_hasExport_18 : decode cX1_hasExport 18 = .ok (.iconst 1, 1) := by decide +kernel
theorem dX1_hasExport_19 : decode cX1_hasExport 19 = .ok (.goto 4, 3) := by decide +kernel
theorem dX1_hasExport_22 : decode cX1_hasExport 22 = .ok (.iconst 0, 1) := by decide +kernel
theorem dX1_hasExport_23 : decode cX1_hasExport 23 = .ok (.ireturn, 1) := by decide +kernel
theorem dX1_codeTo_0 : decode cX1_codeTo 0 = .ok (.aload_n 0, 1) := by decide +kernel
theorem dX1_codeTo_1 : decode cX1_codeTo 1 = .ok (.iload_n 2, 1) := by decide +kernel
theorem dX1_codeTo_2 : decode cX1_codeTo 2 = .ok (.invokevirtual 43, 3) := by decide +kernel
theorem dX1_codeTo_5 : decode cX1_codeTo 5 = .ok (.ifCond .eq 12, 3) := by decide +kernel
theorem dX1_codeTo_8 : decode cX1_codeTo 8 = .ok (.aload_n 0, 1) := by decide +kernel
theorem dX1_codeTo_9 : decode cX1_codeTo 9 = .ok (.getfield 11, 3) := by decide +kernel
theorem dX1_codeTo_12 : decode cX1_codeTo 12 = .ok (.iload_n 2, 1) := by decide +kernel
theorem dX1_codeTo_13 : decode cX1_codeTo 13 = .ok (.iaload, 1) := by decide +kernel
theorem dX1_codeTo_14 : decode cX1_codeTo 14 = .ok (.goto 4, 3) := by decide +kernel
theorem dX1_codeTo_17 : decode cX1_codeTo 17 = .ok (.iconst 0, 1) := by decide +kernel
theorem dX1_codeTo_18 : decode cX1_codeTo 18 = .ok (.istore_n 3, 1) := by decide +kernel
theorem dX1_codeTo_19 : decode cX1_codeTo 19 = .ok (.aload_n 1, 1) := by decide +kernel
theorem dX1_codeTo_20 : decode cX1_codeTo 20 = .ok (.aload_n 0, 1) := by decide +kernel
theorem dX1_codeTo_21 : decode cX1_codeTo 21 = .ok (.getfield 18, 3) := by decide +kernel
theorem dX1_codeTo_24 : decode cX1_codeTo 24 = .ok (.iload_n 3, 1) := by decide +kernel
theorem dX1_codeTo_25 : decode cX1_codeTo 25 = .ok (.iconst 4, 1) := by decide +kernel
theorem dX1_codeTo_26 : decode cX1_codeTo 26 = .ok (.imul, 1) := by decide +kernel
theorem dX1_codeTo_27 : decode cX1_codeTo 27 = .ok (.iadd, 1) := by decide +kernel
theorem dX1_codeTo_28 : decode cX1_codeTo 28 = .ok (.aload_n 0, 1) := by decide +kernel
theorem dX1_codeTo_29 : decode cX1_codeTo 29 = .ok (.getfield 18, 3) := by decide +kernel
theorem dX1_codeTo_32 : decode cX1_codeTo 32 = .ok (.aload_n 0, 1) := by decide +kernel
theorem dX1_codeTo_33 : decode cX1_codeTo 33 = .ok (.getfield 31, 3) := by decide +kernel
theorem dX1_codeTo_36 : decode cX1_codeTo 36 = .ok (.bipush 77, 2) := by decide +kernel
theorem dX1_codeTo_38 : decode cX1_codeTo 38 = .ok (.iconst 0, 1) := by decide +kernel
theorem dX1_codeTo_39 : decode cX1_codeTo 39 = .ok (.iconst 1, 1) := by decide +kernel
theorem dX1_codeTo_40 : decode cX1_codeTo 40 = .ok (.invokevirtual 47, 3) := by decide +kernel
theorem dX1_codeTo_43 : decode cX1_codeTo 43 = .ok (.return_, 1) := by decide +kernel
theorem dX1_globalsTo_0 : decode cX1_globalsTo 0 = .ok (.aload_n 1, 1) := by decide +kernel
theorem dX1_globalsTo_1 : decode cX1_globalsTo 1 = .ok (.aload_n 0, 1) := by decide +kernel
theorem dX1_globalsTo_2 : decode cX1_globalsTo 2 = .ok (.getfield 31, 3) := by decide +kernel
theorem dX1_globalsTo_5 : decode cX1_globalsTo 5 = .ok (.aload_n 0, 1) := by decide +kernel
theorem dX1_globalsTo_6 : decode cX1_globalsTo 6 = .ok (.getfield 31, 3) := by decide +kernel
theorem dX1_globalsTo_9 : decode cX1_globalsTo 9 = .ok (.aload_n 0, 1) := by decide +kernel
theorem dX1_globalsTo_10 : decode cX1_globalsTo 10 = .ok (.getfield 37, 3) := by decide +kernel
theorem dX1_globalsTo_13 : decode cX1_globalsTo 13 = .ok (.iload_n 2, 1) := by decide +kernel
theorem dX1_globalsTo_14 : decode cX1_globalsTo 14 = .ok (.iconst 0, 1) := by decide +kernel
theorem dX1_globalsTo_15 : decode cX1_globalsTo 15 = .ok (.iconst 1, 1) := by decide +kernel
theorem dX1_globalsTo_16 : decode cX1_globalsTo 16 = .ok (.invokevirtual 47, 3) := by decide +kernel
theorem dX1_globalsTo_19 : decode cX1_globalsTo 19 = .ok (.return_, 1) := by decide +kernel
theorem dX1_interruptsAt_0 : decode cX1_interruptsAt 0 = .ok (.aload_n 0, 1) := by decide +kernel
theorem dX1_interruptsAt_1 : decode cX1_interruptsAt 1 = .ok (.iload_n 1, 1) := by decide +kernel
theorem dX1_interruptsAt_2 : decode cX1_interruptsAt 2 = .ok (.invokevirtual 43, 3) := by decide +kernel
theorem dX1_interruptsAt_5 : decode cX1_interruptsAt 5 = .ok (.ifCond .eq 12, 3) := by decide +kernel
theorem dX1_interruptsAt_8 : decode cX1_interruptsAt 8 = .ok (.aload_n 0, 1) := by decide +kernel
theorem dX1_interruptsAt_9 : decode cX1_interruptsAt 9 = .ok (.getfield 15, 3) := by decide +kernel
theorem dX1_interruptsAt_12 : decode cX1_interruptsAt 12 = .ok (.iload_n 1, 1) := by decide +kernel
theorem dX1_interruptsAt_13 : decode cX1_interruptsAt 13 = .ok (.iaload, 1) := by decide +kernel
theorem dX1_interruptsAt_14 : decode cX1_interruptsAt 14 = .ok (.goto 4, 3) := by decide +kernel
theorem dX1_interruptsAt_17 : decode cX1_interruptsAt 17 = .ok (.iconst 1, 1) := by decide +kernel
theorem dX1_interruptsAt_18 : decode cX1_interruptsAt 18 = .ok (.istore_n 3, 1) := by decide +kernel
theorem dX1_interruptsAt_19 : decode cX1_interruptsAt 19 = .ok (.iload_n 3, 1) := by decide +kernel
theorem dX1_interruptsAt_20 : decode cX1_interruptsAt 20 = .ok (.iconst 1, 1) := by decide +kernel
theorem dX1_interruptsAt_21 : decode cX1_interruptsAt 21 = .ok (.if_icmp .ne 7, 3) := by decide +kernel
theorem dX1_interruptsAt_24 : decode cX1_interruptsAt 24 = .ok (.iload_n 2, 1) := by decide +kernel
theorem dX1_interruptsAt_25 : decode cX1_interruptsAt 25 = .ok (.goto 13, 3) := by decide +kernel
theorem dX1_interruptsAt_28 : decode cX1_interruptsAt 28 = .ok (.iload_n 3, 1) := by decide +kernel
theorem dX1_interruptsAt_29 : decode cX1_interruptsAt 29 = .ok (.iconst 3, 1) := by decide +kernel
theorem dX1_interruptsAt_30 : decode cX1_interruptsAt 30 = .ok (.if_icmp .ne 7, 3) := by decide +kernel
theorem dX1_interruptsAt_33 : decode cX1_interruptsAt 33 = .ok (.iconst 1, 1) := by decide +kernel
theorem dX1_interruptsAt_34 : decode cX1_interruptsAt 34 = .ok (.goto 4, 3) := by decide +kernel
theorem dX1_interruptsAt_37 : decode cX1_interruptsAt 37 = .ok (.iconst 0, 1) := by decide +kernel
theorem dX1_interruptsAt_38 : decode cX1_interruptsAt 38 = .ok (.ireturn, 1) := by decide +kernel
theorem dX1_part_0 : decode cX1_part 0 = .ok (.iload_n 1, 1) := by decide +kernel
theorem dX1_part_1 : decode cX1_part 1 = .ok (.tableswitch 51 0 3 #[31, 36, 41, 46], 31) := by decide +kernel
theorem dX1_part_32 : decode cX1_part 32 = .ok (.aload_n 0, 1) := by decide +kernel
theorem dX1_part_33 : decode cX1_part 33 = .ok (.getfield 18, 3) := by decide +kernel
theorem dX1_part_36 : decode cX1_part 36 = .ok (.ireturn, 1) := by decide +kernel
theorem dX1_part_37 : decode cX1_part 37 = .ok (.aload_n 0, 1) := by decide +kernel
theorem dX1_part_38 : decode cX1_part 38 = .ok (.getfield 25, 3) := by decide +kernel
theorem dX1_part_41 : decode cX1_part 41 = .ok (.ireturn, 1) := by decide +kernel
theorem dX1_part_42 : decode cX1_part 42 = .ok (.aload_n 0, 1) := by decide +kernel
theorem dX1_part_43 : decode cX1_part 43 = .ok (.getfield 31, 3) := by decide +kernel
theorem dX1_part_46 : decode cX1_part 46 = .ok (.ireturn, 1) := by decide +kernel
theorem dX1_part_47 : decode cX1_part 47 = .ok (.aload_n 0, 1) := by decide +kernel
theorem dX1_part_48 : decode cX1_part 48 = .ok (.getfield 37, 3) := by decide +kernel
theorem dX1_part_51 : decode cX1_part 51 = .ok (.ireturn, 1) := by decide +kernel
theorem dX1_part_52 : decode cX1_part 52 = .ok (.iconst (-1), 1) := by decide +kernel
theorem dX1_part_53 : decode cX1_part 53 = .ok (.ireturn, 1) := by decide +kernel
theorem dX2_f_0 : decode cX2_f 0 = .ok (.iload_n 0, 1) := by decide +kernel
theorem dX2_f_1 : decode cX2_f 1 = .ok (.bipush 12, 2) := by decide +kernel
theorem dX2_f_3 : decode cX2_f 3 = .ok (.iushr, 1) := by decide +kernel
theorem dX2_f_4 : decode cX2_f 4 = .ok (.bipush 7, 2) := by decide +kernel
theorem dX2_f_6 : decode cX2_f 6 = .ok (.iand, 1) := by decide +kernel
theorem dX2_f_7 : decode cX2_f 7 = .ok (.ireturn, 1) := by decide +kernel
theorem dX2_g_0 : decode cX2_g 0 = .ok (.iload_n 0, 1) := by decide +kernel
theorem dX2_g_1 : decode cX2_g 1 = .ok (.bipush 25, 2) := by decide +kernel
theorem dX2_g_3 : decode cX2_g 3 = .ok (.iushr, 1) := by decide +kernel
theorem dX2_g_4 : decode cX2_g 4 = .ok (.ireturn, 1) := by decide +kernel
theorem dX2_dField_0 : decode cX2_dField 0 = .ok (.iload_n 0, 1) := by decide +kernel
theorem dX2_dField_1 : decode cX2_dField 1 = .ok (.bipush 7, 2) := by decide +kernel
theorem dX2_dField_3 : decode cX2_dField 3 = .ok (.iushr, 1) := by decide +kernel
theorem dX2_dField_4 : decode cX2_dField 4 = .ok (.bipush 31, 2) := by decide +kernel
theorem dX2_dField_6 : decode cX2_dField 6 = .ok (.iand, 1) := by decide +kernel
theorem dX2_dField_7 : decode cX2_dField 7 = .ok (.ireturn, 1) := by decide +kernel
theorem dX2_aField_0 : decode cX2_aField 0 = .ok (.iload_n 0, 1) := by decide +kernel
theorem dX2_aField_1 : decode cX2_aField 1 = .ok (.bipush 15, 2) := by decide +kernel
theorem dX2_aField_3 : decode cX2_aField 3 = .ok (.iushr, 1) := by decide +kernel
theorem dX2_aField_4 : decode cX2_aField 4 = .ok (.bipush 31, 2) := by decide +kernel
theorem dX2_aField_6 : decode cX2_aField 6 = .ok (.iand, 1) := by decide +kernel
theorem dX2_aField_7 : decode cX2_aField 7 = .ok (.ireturn, 1) := by decide +kernel
theorem dX2_bField_0 : decode cX2_bField 0 = .ok (.iload_n 0, 1) := by decide +kernel
theorem dX2_bField_1 : decode cX2_bField 1 = .ok (.bipush 20, 2) := by decide +kernel
theorem dX2_bField_3 : decode cX2_bField 3 = .ok (.iushr, 1) := by decide +kernel
theorem dX2_bField_4 : decode cX2_bField 4 = .ok (.bipush 31, 2) := by decide +kernel
theorem dX2_bField_6 : decode cX2_bField 6 = .ok (.iand, 1) := by decide +kernel
theorem dX2_bField_7 : decode cX2_bField 7 = .ok (.ireturn, 1) := by decide +kernel
theorem dX2_immediate_0 : decode cX2_immediate 0 = .ok (.iload_n 0, 1) := by decide +kernel
theorem dX2_immediate_1 : decode cX2_immediate 1 = .ok (.bipush 20, 2) := by decide +kernel
theorem dX2_immediate_3 : decode cX2_immediate 3 = .ok (.ishr, 1) := by decide +kernel
theorem dX2_immediate_4 : decode cX2_immediate 4 = .ok (.ireturn, 1) := by decide +kernel
theorem dX2_storeOffset_0 : decode cX2_storeOffset 0 = .ok (.iload_n 0, 1) := by decide +kernel
theorem dX2_storeOffset_1 : decode cX2_storeOffset 1 = .ok (.bipush 25, 2) := by decide +kernel
theorem dX2_storeOffset_3 : decode cX2_storeOffset 3 = .ok (.ishr, 1) := by decide +kernel
theorem dX2_storeOffset_4 : decode cX2_storeOffset 4 = .ok (.iconst 5, 1) := by decide +kernel
theorem dX2_storeOffset_5 : decode cX2_storeOffset 5 = .ok (.ishl, 1) := by decide +kernel
theorem dX2_storeOffset_6 : decode cX2_storeOffset 6 = .ok (.iload_n 0, 1) := by decide +kernel
theorem dX2_storeOffset_7 : decode cX2_storeOffset 7 = .ok (.invokestatic 9, 3) := by decide +kernel
theorem dX2_storeOffset_10 : decode cX2_storeOffset 10 = .ok (.ior, 1) := by decide +kernel
theorem dX2_storeOffset_11 : decode cX2_storeOffset 11 = .ok (.ireturn, 1) := by decide +kernel
theorem dX2_branchOffset_0 : decode cX2_branchOffset 0 = .ok (.iload_n 0, 1) := by decide +kernel
theorem dX2_branchOffset_1 : decode cX2_branchOffset 1 = .ok (.bipush 31, 2) := by decide +kernel
theorem dX2_branchOffset_3 : decode cX2_branchOffset 3 = .ok (.ishr, 1) := by decide +kernel
theorem dX2_branchOffset_4 : decode cX2_branchOffset 4 = .ok (.bipush 12, 2) := by decide +kernel
theorem dX2_branchOffset_6 : decode cX2_branchOffset 6 = .ok (.ishl, 1) := by decide +kernel
theorem dX2_branchOffset_7 : decode cX2_branchOffset 7 = .ok (.iload_n 0, 1) := by decide +kernel
theorem dX2_branchOffset_8 : decode cX2_branchOffset 8 = .ok (.bipush 7, 2) := by decide +kernel
theorem dX2_branchOffset_10 : decode cX2_branchOffset 10 = .ok (.iushr, 1) := by decide +kernel
theorem dX2_branchOffset_11 : decode cX2_branchOffset 11 = .ok (.iconst 1, 1) := by decide +kernel
theorem dX2_branchOffset_12 : decode cX2_branchOffset 12 = .ok (.iand, 1) := by decide +kernel
theorem dX2_branchOffset_13 : decode cX2_branchOffset 13 = .ok (.bipush 11, 2) := by decide +kernel
theorem dX2_branchOffset_15 : decode cX2_branchOffset 15 = .ok (.ishl, 1) := by decide +kernel
theorem dX2_branchOffset_16 : decode cX2_branchOffset 16 = .ok (.ior, 1) := by decide +kernel
theorem dX2_branchOffset_17 : decode cX2_branchOffset 17 = .ok (.iload_n 0, 1) := by decide +kernel
theorem dX2_branchOffset_18 : decode cX2_branchOffset 18 = .ok (.bipush 25, 2) := by decide +kernel
theorem dX2_branchOffset_20 : decode cX2_branchOffset 20 = .ok (.iushr, 1) := by decide +kernel
theorem dX2_branchOffset_21 : decode cX2_branchOffset 21 = .ok (.bipush 63, 2) := by decide +kernel
theorem dX2_branchOffset_23 : decode cX2_branchOffset 23 = .ok (.iand, 1) := by decide +kernel
theorem dX2_branchOffset_24 : decode cX2_branchOffset 24 = .ok (.iconst 5, 1) := by decide +kernel
theorem dX2_branchOffset_25 : decode cX2_branchOffset 25 = .ok (.ishl, 1) := by decide +kernel
theorem dX2_branchOffset_26 : decode cX2_branchOffset 26 = .ok (.ior, 1) := by decide +kernel
theorem dX2_branchOffset_27 : decode cX2_branchOffset 27 = .ok (.iload_n 0, 1) := by decide +kernel
theorem dX2_branchOffset_28 : decode cX2_branchOffset 28 = .ok (.bipush 8, 2) := by decide +kernel
theorem dX2_branchOffset_30 : decode cX2_branchOffset 30 = .ok (.iushr, 1) := by decide +kernel
theorem dX2_branchOffset_31 : decode cX2_branchOffset 31 = .ok (.bipush 15, 2) := by decide +kernel
theorem dX2_branchOffset_33 : decode cX2_branchOffset 33 = .ok (.iand, 1) := by decide +kernel
theorem dX2_branchOffset_34 : decode cX2_branchOffset 34 = .ok (.iconst 1, 1) := by decide +kernel
theorem dX2_branchOffset_35 : decode cX2_branchOffset 35 = .ok (.ishl, 1) := by decide +kernel
theorem dX2_branchOffset_36 : decode cX2_branchOffset 36 = .ok (.ior, 1) := by decide +kernel
theorem dX2_branchOffset_37 : decode cX2_branchOffset 37 = .ok (.ireturn, 1) := by decide +kernel
theorem dX2_jumpOffset_0 : decode cX2_jumpOffset 0 = .ok (.iload_n 0, 1) := by decide +kernel
theorem dX2_jumpOffset_1 : decode cX2_jumpOffset 1 = .ok (.bipush 31, 2) := by decide +kernel
theorem dX2_jumpOffset_3 : decode cX2_jumpOffset 3 = .ok (.ishr, 1) := by decide +kernel
theorem dX2_jumpOffset_4 : decode cX2_jumpOffset 4 = .ok (.bipush 20, 2) := by decide +kernel
theorem dX2_jumpOffset_6 : decode cX2_jumpOffset 6 = .ok (.ishl, 1) := by decide +kernel
theorem dX2_jumpOffset_7 : decode cX2_jumpOffset 7 = .ok (.iload_n 0, 1) := by decide +kernel
theorem dX2_jumpOffset_8 : decode cX2_jumpOffset 8 = .ok (.bipush 12, 2) := by decide +kernel
theorem dX2_jumpOffset_10 : decode cX2_jumpOffset 10 = .ok (.iushr, 1) := by decide +kernel
theorem dX2_jumpOffset_11 : decode cX2_jumpOffset 11 = .ok (.sipush 255, 3) := by decide +kernel
theorem dX2_jumpOffset_14 : decode cX2_jumpOffset 14 = .ok (.iand, 1) := by decide +kernel
theorem dX2_jumpOffset_15 : decode cX2_jumpOffset 15 = .ok (.bipush 12, 2) := by decide +kernel
theorem dX2_jumpOffset_17 : decode cX2_jumpOffset 17 = .ok (.ishl, 1) := by decide +kernel
theorem dX2_jumpOffset_18 : decode cX2_jumpOffset 18 = .ok (.ior, 1) := by decide +kernel
theorem dX2_jumpOffset_19 : decode cX2_jumpOffset 19 = .ok (.iload_n 0, 1) := by decide +kernel
theorem dX2_jumpOffset_20 : decode cX2_jumpOffset 20 = .ok (.bipush 20, 2) := by decide +kernel
theorem dX2_jumpOffset_22 : decode cX2_jumpOffset 22 = .ok (.iushr, 1) := by decide +kernel
theorem dX2_jumpOffset_23 : decode cX2_jumpOffset 23 = .ok (.iconst 1, 1) := by decide +kernel
theorem dX2_jumpOffset_24 : decode cX2_jumpOffset 24 = .ok (.iand, 1) := by decide +kernel
theorem dX2_jumpOffset_25 : decode cX2_jumpOffset 25 = .ok (.bipush 11, 2) := by decide +kernel
theorem dX2_jumpOffset_27 : decode cX2_jumpOffset 27 = .ok (.ishl, 1) := by decide +kernel
theorem dX2_jumpOffset_28 : decode cX2_jumpOffset 28 = .ok (.ior, 1) := by decide +kernel
theorem dX2_jumpOffset_29 : decode cX2_jumpOffset 29 = .ok (.iload_n 0, 1) := by decide +kernel
theorem dX2_jumpOffset_30 : decode cX2_jumpOffset 30 = .ok (.bipush 21, 2) := by decide +kernel
theorem dX2_jumpOffset_32 : decode cX2_jumpOffset 32 = .ok (.iushr, 1) := by decide +kernel
theorem dX2_jumpOffset_33 : decode cX2_jumpOffset 33 = .ok (.sipush 1023, 3) := by decide +kernel
theorem dX2_jumpOffset_36 : decode cX2_jumpOffset 36 = .ok (.iand, 1) := by decide +kernel
theorem dX2_jumpOffset_37 : decode cX2_jumpOffset 37 = .ok (.iconst 1, 1) := by decide +kernel
theorem dX2_jumpOffset_38 : decode cX2_jumpOffset 38 = .ok (.ishl, 1) := by decide +kernel
theorem dX2_jumpOffset_39 : decode cX2_jumpOffset 39 = .ok (.ior, 1) := by decide +kernel
theorem dX2_jumpOffset_40 : decode cX2_jumpOffset 40 = .ok (.ireturn, 1) := by decide +kernel
theorem dX2_instruction_0 : decode cX2_instruction 0 = .ok (.aload_n 0, 1) := by decide +kernel
theorem dX2_instruction_1 : decode cX2_instruction 1 = .ok (.aload_n 0, 1) := by decide +kernel
theorem dX2_instruction_2 : decode cX2_instruction 2 = .ok (.getfield 15, 3) := by decide +kernel
theorem dX2_instruction_5 : decode cX2_instruction 5 = .ok (.invokevirtual 21, 3) := by decide +kernel
theorem dX2_instruction_8 : decode cX2_instruction 8 = .ok (.astore_n 1, 1) := by decide +kernel
theorem dX2_instruction_9 : decode cX2_instruction 9 = .ok (.aload_n 1, 1) := by decide +kernel
theorem dX2_instruction_10 : decode cX2_instruction 10 = .ok (.ifnonnull 4, 3) := by decide +kernel
theorem dX2_instruction_13 : decode cX2_instruction 13 = .ok (.return_, 1) := by decide +kernel
theorem dX2_instruction_14 : decode cX2_instruction 14 = .ok (.aload_n 1, 1) := by decide +kernel
theorem dX2_instruction_15 : decode cX2_instruction 15 = .ok (.getfield 25, 3) := by decide +kernel
theorem dX2_instruction_18 : decode cX2_instruction 18 = .ok (.iconst 4, 1) := by decide +kernel
theorem dX2_instruction_19 : decode cX2_instruction 19 = .ok (.aload_n 1, 1) := by decide +kernel
theorem dX2_instruction_20 : decode cX2_instruction 20 = .ok (.getfield 25, 3) := by decide +kernel
theorem dX2_instruction_23 : decode cX2_instruction 23 = .ok (.getfield 31, 3) := by decide +kernel
theorem dX2_instruction_26 : decode cX2_instruction 26 = .ok (.iconst 4, 1) := by decide +kernel
theorem dX2_instruction_27 : decode cX2_instruction 27 = .ok (.invokevirtual 36, 3) := by decide +kernel
theorem dX2_instruction_30 : decode cX2_instruction 30 = .ok (.istore_n 2, 1) := by decide +kernel
theorem dX2_instruction_31 : decode cX2_instruction 31 = .ok (.iload_n 2, 1) := by decide +kernel
theorem dX2_instruction_32 : decode cX2_instruction 32 = .ok (.ifCond .ne 58, 3) := by decide +kernel
theorem dX2_instruction_35 : decode cX2_instruction 35 = .ok (.aload_n 0, 1) := by decide +kernel
theorem dX2_instruction_36 : decode cX2_instruction 36 = .ok (.getfield 40, 3) := by decide +kernel
theorem dX2_instruction_39 : decode cX2_instruction 39 = .ok (.aload_n 1, 1) := by decide +kernel
theorem dX2_instruction_40 : decode cX2_instruction 40 = .ok (.getfield 25, 3) := by decide +kernel
theorem dX2_instruction_43 : decode cX2_instruction 43 = .ok (.getfield 31, 3) := by decide +kernel
theorem dX2_instruction_46 : decode cX2_instruction 46 = .ok (.iconst 4, 1) := by decide +kernel
theorem dX2_instruction_47 : decode cX2_instruction 47 = .ok (.invokevirtual 44, 3) := by decide +kernel
theorem dX2_instruction_50 : decode cX2_instruction 50 = .ok (.istore_n 3, 1) := by decide +kernel
theorem dX2_instruction_51 : decode cX2_instruction 51 = .ok (.iload_n 3, 1) := by decide +kernel
theorem dX2_instruction_52 : decode cX2_instruction 52 = .ok (.invokestatic 50, 3) := by decide +kernel
theorem dX2_instruction_55 : decode cX2_instruction 55 = .ok (.ifCond .ne 9, 3) := by decide +kernel
theorem dX2_instruction_58 : decode cX2_instruction 58 = .ok (.bipush 6, 2) := by decide +kernel
theorem dX2_instruction_60 : decode cX2_instruction 60 = .ok (.istore_n 2, 1) := by decide +kernel
theorem dX2_instruction_61 : decode cX2_instruction 61 = .ok (.goto 29, 3) := by decide +kernel
theorem dX2_instruction_64 : decode cX2_instruction 64 = .ok (.iload_n 3, 1) := by decide +kernel
theorem dX2_instruction_65 : decode cX2_instruction 65 = .ok (.bipush 127, 2) := by decide +kernel
theorem dX2_instruction_67 : decode cX2_instruction 67 = .ok (.iand, 1) := by decide +kernel
theorem dX2_instruction_68 : decode cX2_instruction 68 = .ok (.bipush 103, 2) := by decide +kernel
theorem dX2_instruction_70 : decode cX2_instruction 70 = .ok (.if_icmp .ne 13, 3) := by decide +kernel
theorem dX2_instruction_73 : decode cX2_instruction 73 = .ok (.aload_n 0, 1) := by decide +kernel
theorem dX2_instruction_74 : decode cX2_instruction 74 = .ok (.aload_n 1, 1) := by decide +kernel
theorem dX2_instruction_75 : decode cX2_instruction 75 = .ok (.iload_n 3, 1) := by decide +kernel
theorem dX2_instruction_76 : decode cX2_instruction 76 = .ok (.invokestatic 54, 3) := by decide +kernel
theorem dX2_instruction_79 : decode cX2_instruction 79 = .ok (.istore_n 2, 1) := by decide +kernel
theorem dX2_instruction_80 : decode cX2_instruction 80 = .ok (.goto 10, 3) := by decide +kernel
theorem dX2_instruction_83 : decode cX2_instruction 83 = .ok (.aload_n 0, 1) := by decide +kernel
theorem dX2_instruction_84 : decode cX2_instruction 84 = .ok (.aload_n 1, 1) := by decide +kernel
theorem dX2_instruction_85 : decode cX2_instruction 85 = .ok (.iload_n 3, 1) := by decide +kernel
theorem dX2_instruction_86 : decode cX2_instruction 86 = .ok (.invokestatic 58, 3) := by decide +kernel
theorem dX2_instruction_89 : decode cX2_instruction 89 = .ok (.istore_n 2, 1) := by decide +kernel
theorem dX2_instruction_90 : decode cX2_instruction 90 = .ok (.iload_n 2, 1) := by decide +kernel
theorem dX2_instruction_91 : decode cX2_instruction 91 = .ok (.ifCond .ne 16, 3) := by decide +kernel
theorem dX2_instruction_94 : decode cX2_instruction 94 = .ok (.aload_n 1, 1) := by decide +kernel
theorem dX2_instruction_95 : decode cX2_instruction 95 = .ok (.dup, 1) := by decide +kernel
theorem dX2_instruction_96 : decode cX2_instruction 96 = .ok (.getfield 61, 3) := by decide +kernel
theorem dX2_instruction_99 : decode cX2_instruction 99 = .ok (.iconst 1, 1) := by decide +kernel
theorem dX2_instruction_100 : decode cX2_instruction 100 = .ok (.iadd, 1) := by decide +kernel
theorem dX2_instruction_101 : decode cX2_instruction 101 = .ok (.putfield 61, 3) := by decide +kernel
theorem dX2_instruction_104 : decode cX2_instruction 104 = .ok (.goto 22, 3) := by decide +kernel
theorem dX2_instruction_107 : decode cX2_instruction 107 = .ok (.aload_n 0, 1) := by decide +kernel
theorem dX2_instruction_108 : decode cX2_instruction 108 = .ok (.dup, 1) := by decide +kernel
theorem dX2_instruction_109 : decode cX2_instruction 109 = .ok (.getfield 64, 3) := by decide +kernel
theorem dX2_instruction_112 : decode cX2_instruction 112 = .ok (.iconst 1, 1) := by decide +kernel
theorem dX2_instruction_113 : decode cX2_instruction 113 = .ok (.iadd, 1) := by decide +kernel
theorem dX2_instruction_114 : decode cX2_instruction 114 = .ok (.putfield 64, 3) := by decide +kernel
theorem dX2_instruction_117 : decode cX2_instruction 117 = .ok (.aload_n 1, 1) := by decide +kernel
theorem dX2_instruction_118 : decode cX2_instruction 118 = .ok (.aload_n 0, 1) := by decide +kernel
theorem dX2_instruction_119 : decode cX2_instruction 119 = .ok (.getfield 40, 3) := by decide +kernel
theorem dX2_instruction_122 : decode cX2_instruction 122 = .ok (.iload_n 2, 1) := by decide +kernel
theorem dX2_instruction_123 : decode cX2_instruction 123 = .ok (.invokevirtual 67, 3) := by decide +kernel
theorem dX2_instruction_126 : decode cX2_instruction 126 = .ok (.aload_n 1, 1) := by decide +kernel
theorem dX2_instruction_127 : decode cX2_instruction 127 = .ok (.iconst 0, 1) := by decide +kernel
theorem dX2_instruction_128 : decode cX2_instruction 128 = .ok (.invokevirtual 71, 3) := by decide +kernel
theorem dX2_instruction_131 : decode cX2_instruction 131 = .ok (.invokevirtual 75, 3) := by decide +kernel
theorem dX2_instruction_134 : decode cX2_instruction 134 = .ok (.return_, 1) := by decide +kernel
theorem dX2_isLegal_0 : decode cX2_isLegal 0 = .ok (.iload_n 0, 1) := by decide +kernel
theorem dX2_isLegal_1 : decode cX2_isLegal 1 = .ok (.invokestatic 78, 3) := by decide +kernel
theorem dX2_isLegal_4 : decode cX2_isLegal 4 = .ok (.istore_n 1, 1) := by decide +kernel
theorem dX2_isLegal_5 : decode cX2_isLegal 5 = .ok (.iload_n 0, 1) := by decide +kernel
theorem dX2_isLegal_6 : decode cX2_isLegal 6 = .ok (.invokestatic 81, 3) := by decide +kernel
theorem dX2_isLegal_9 : decode cX2_isLegal 9 = .ok (.istore_n 2, 1) := by decide +kernel
theorem dX2_isLegal_10 : decode cX2_isLegal 10 = .ok (.iload_n 0, 1) := by decide +kernel
theorem dX2_isLegal_11 : decode cX2_isLegal 11 = .ok (.invokestatic 9, 3) := by decide +kernel
theorem dX2_isLegal_14 : decode cX2_isLegal 14 = .ok (.bipush 16, 2) := by decide +kernel
theorem dX2_isLegal_16 : decode cX2_isLegal 16 = .ok (.if_icmp .ge 7, 3) := by decide +kernel
theorem dX2_isLegal_19 : decode cX2_isLegal 19 = .ok (.iconst 1, 1) := by decide +kernel
theorem dX2_isLegal_20 : decode cX2_isLegal 20 = .ok (.goto 4, 3) := by decide +kernel
theorem dX2_isLegal_23 : decode cX2_isLegal 23 = .ok (.iconst 0, 1) := by decide +kernel
theorem dX2_isLegal_24 : decode cX2_isLegal 24 = .ok (.istore_n 3, 1) := by decide +kernel
theorem dX2_isLegal_25 : decode cX2_isLegal 25 = .ok (.iload_n 0, 1) := by decide +kernel
theorem dX2_isLegal_26 : decode cX2_isLegal 26 = .ok (.invokestatic 84, 3) := by decide +kernel
theorem dX2_isLegal_29 : decode cX2_isLegal 29 = .ok (.bipush 16, 2) := by decide +kernel
theorem dX2_isLegal_31 : decode cX2_isLegal 31 = .ok (.if_icmp .ge 7, 3) := by decide +kernel
theorem dX2_isLegal_34 : decode cX2_isLegal 34 = .ok (.iconst 1, 1) := by decide +kernel
theorem dX2_isLegal_35 : decode cX2_isLegal 35 = .ok (.goto 4, 3) := by decide +kernel
theorem dX2_isLegal_38 : decode cX2_isLegal 38 = .ok (.iconst 0, 1) := by decide +kernel
theorem dX2_isLegal_39 : decode cX2_isLegal 39 = .ok (.istore 4, 2) := by decide +kernel
theorem dX2_isLegal_41 : decode cX2_isLegal 41 = .ok (.iload_n 0, 1) := by decide +kernel
theorem dX2_isLegal_42 : decode cX2_isLegal 42 = .ok (.invokestatic 87, 3) := by decide +kernel
theorem dX2_isLegal_45 : decode cX2_isLegal 45 = .ok (.bipush 16, 2) := by decide +kernel
theorem dX2_isLegal_47 : decode cX2_isLegal 47 = .ok (.if_icmp .ge 7, 3) := by decide +kernel
theorem dX2_isLegal_50 : decode cX2_isLegal 50 = .ok (.iconst 1, 1) := by decide +kernel
theorem dX2_isLegal_51 : decode cX2_isLegal 51 = .ok (.goto 4, 3) := by decide +kernel
theorem dX2_isLegal_54 : decode cX2_isLegal 54 = .ok (.iconst 0, 1) := by decide +kernel
theorem dX2_isLegal_55 : decode cX2_isLegal 55 = .ok (.istore 5, 2) := by decide +kernel
theorem dX2_isLegal_57 : decode cX2_isLegal 57 = .ok (.iload_n 0, 1) := by decide +kernel
theorem dX2_isLegal_58 : decode cX2_isLegal 58 = .ok (.bipush 127, 2) := by decide +kernel
theorem dX2_isLegal_60 : decode cX2_isLegal 60 = .ok (.iand, 1) := by decide +kernel
theorem dX2_isLegal_61 : decode cX2_isLegal 61 = .ok (.lookupswitch 286 #[(3, 199), (19, 119), (23, 91), (35, 219), (51, 159), (55, 91), (91, 240), (99, 93), (103, 267), (111, 91)], 91) := by decide +kernel
theorem dX2_isLegal_152 : decode cX2_isLegal 152 = .ok (.iload_n 3, 1) := by decide +kernel
theorem dX2_isLegal_153 : decode cX2_isLegal 153 = .ok (.ireturn, 1) := by decide +kernel
theorem dX2_isLegal_154 : decode cX2_isLegal 154 = .ok (.iload 4, 2) := by decide +kernel
theorem dX2_isLegal_156 : decode cX2_isLegal 156 = .ok (.ifCond .eq 22, 3) := by decide +kernel
theorem dX2_isLegal_159 : decode cX2_isLegal 159 = .ok (.iload 5, 2) := by decide +kernel
theorem dX2_isLegal_161 : decode cX2_isLegal 161 = .ok (.ifCond .eq 17, 3) := by decide +kernel
theorem dX2_isLegal_164 : decode cX2_isLegal 164 = .ok (.iload_n 1, 1) := by decide +kernel
theorem dX2_isLegal_165 : decode cX2_isLegal 165 = .ok (.iconst 2, 1) := by decide +kernel
theorem dX2_isLegal_166 : decode cX2_isLegal 166 = .ok (.if_icmp .eq 12, 3) := by decide +kernel
theorem dX2_isLegal_169 : decode cX2_isLegal 169 = .ok (.iload_n 1, 1) := by decide +kernel
theorem dX2_isLegal_170 : decode cX2_isLegal 170 = .ok (.iconst 3, 1) := by decide +kernel
theorem dX2_isLegal_171 : decode cX2_isLegal 171 = .ok (.if_icmp .eq 7, 3) := by decide +kernel
theorem dX2_isLegal_174 : decode cX2_isLegal 174 = .ok (.iconst 1, 1) := by decide +kernel
theorem dX2_isLegal_175 : decode cX2_isLegal 175 = .ok (.goto 4, 3) := by decide +kernel
theorem dX2_isLegal_178 : decode cX2_isLegal 178 = .ok (.iconst 0, 1) := by decide +kernel
theorem dX2_isLegal_179 : decode cX2_isLegal 179 = .ok (.ireturn, 1) := by decide +kernel
theorem dX2_isLegal_180 : decode cX2_isLegal 180 = .ok (.iload_n 3, 1) := by decide +kernel
theorem dX2_isLegal_181 : decode cX2_isLegal 181 = .ok (.ifCond .eq 37, 3) := by decide +kernel
theorem dX2_isLegal_184 : decode cX2_isLegal 184 = .ok (.iload 4, 2) := by decide +kernel
theorem dX2_isLegal_186 : decode cX2_isLegal 186 = .ok (.ifCond .eq 32, 3) := by decide +kernel
theorem dX2_isLegal_189 : decode cX2_isLegal 189 = .ok (.iload_n 1, 1) := by decide +kernel
theorem dX2_isLegal_190 : decode cX2_isLegal 190 = .ok (.iconst 1, 1) := by decide +kernel
theorem dX2_isLegal_191 : decode cX2_isLegal 191 = .ok (.if_icmp .eq 8, 3) := by decide +kernel
theorem dX2_isLegal_194 : decode cX2_isLegal 194 = .ok (.iload_n 1, 1) := by decide +kernel
theorem dX2_isLegal_195 : decode cX2_isLegal 195 = .ok (.iconst 5, 1) := by decide +kernel
theorem dX2_isLegal_196 : decode cX2_isLegal 196 = .ok (.if_icmp .ne 18, 3) := by decide +kernel
theorem dX2_isLegal_199 : decode cX2_isLegal 199 = .ok (.iload_n 2, 1) := by decide +kernel
theorem dX2_isLegal_200 : decode cX2_isLegal 200 = .ok (.ifCond .eq 14, 3) := by decide +kernel
theorem dX2_isLegal_203 : decode cX2_isLegal 203 = .ok (.iload_n 1, 1) := by decide +kernel
theorem dX2_isLegal_204 : decode cX2_isLegal 204 = .ok (.iconst 5, 1) := by decide +kernel
theorem dX2_isLegal_205 : decode cX2_isLegal 205 = .ok (.if_icmp .ne 13, 3) := by decide +kernel
theorem dX2_isLegal_208 : decode cX2_isLegal 208 = .ok (.iload_n 2, 1) := by decide +kernel
theorem dX2_isLegal_209 : decode cX2_isLegal 209 = .ok (.bipush 32, 2) := by decide +kernel
theorem dX2_isLegal_211 : decode cX2_isLegal 211 = .ok (.if_icmp .ne 7, 3) := by decide +kernel
theorem dX2_isLegal_214 : decode cX2_isLegal 214 = .ok (.iconst 1, 1) := by decide +kernel
theorem dX2_isLegal_215 : decode cX2_isLegal 215 = .ok (.goto 4, 3) := by decide +kernel
theorem dX2_isLegal_218 : decode cX2_isLegal 218 = .ok (.iconst 0, 1) := by decide +kernel
theorem dX2_isLegal_219 : decode cX2_isLegal 219 = .ok (.ireturn, 1) := by decide +kernel
theorem dX2_isLegal_220 : decode cX2_isLegal 220 = .ok (.iload_n 3, 1) := by decide +kernel
theorem dX2_isLegal_221 : decode cX2_isLegal 221 = .ok (.ifCond .eq 37, 3) := by decide +kernel
theorem dX2_isLegal_224 : decode cX2_isLegal 224 = .ok (.iload 4, 2) := by decide +kernel
theorem dX2_isLegal_226 : decode cX2_isLegal 226 = .ok (.ifCond .eq 32, 3) := by decide +kernel
theorem dX2_isLegal_229 : decode cX2_isLegal 229 = .ok (.iload 5, 2) := by decide +kernel
theorem dX2_isLegal_231 : decode cX2_isLegal 231 = .ok (.ifCond .eq 27, 3) := by decide +kernel
theorem dX2_isLegal_234 : decode cX2_isLegal 234 = .ok (.iload_n 2, 1) := by decide +kernel
theorem dX2_isLegal_235 : decode cX2_isLegal 235 = .ok (.iconst 1, 1) := by decide +kernel
theorem dX2_isLegal_236 : decode cX2_isLegal 236 = .ok (.if_icmp .le 18, 3) := by decide +kernel
theorem dX2_isLegal_239 : decode cX2_isLegal 239 = .ok (.iload_n 2, 1) := by decide +kernel
theorem dX2_isLegal_240 : decode cX2_isLegal 240 = .ok (.bipush 32, 2) := by decide +kernel
theorem dX2_isLegal_242 : decode cX2_isLegal 242 = .ok (.if_icmp .ne 16, 3) := by decide +kernel
theorem dX2_isLegal_245 : decode cX2_isLegal 245 = .ok (.iload_n 1, 1) := by decide +kernel
theorem dX2_isLegal_246 : decode cX2_isLegal 246 = .ok (.ifCond .eq 8, 3) := by decide +kernel
theorem dX2_isLegal_249 : decode cX2_isLegal 249 = .ok (.iload_n 1, 1) := by decide +kernel
theorem dX2_isLegal_250 : decode cX2_isLegal 250 = .ok (.iconst 5, 1) := by decide +kernel
theorem dX2_isLegal_251 : decode cX2_isLegal 251 = .ok (.if_icmp .ne 7, 3) := by decide +kernel
theorem dX2_isLegal_254 : decode cX2_isLegal 254 = .ok (.iconst 1, 1) := by decide +kernel
theorem dX2_isLegal_255 : decode cX2_isLegal 255 = .ok (.goto 4, 3) := by decide +kernel
theorem dX2_isLegal_258 : decode cX2_isLegal 258 = .ok (.iconst 0, 1) := by decide +kernel
theorem dX2_isLegal_259 : decode cX2_isLegal 259 = .ok (.ireturn, 1) := by decide +kernel
theorem dX2_isLegal_260 : decode cX2_isLegal 260 = .ok (.iload_n 3, 1) := by decide +kernel
theorem dX2_isLegal_261 : decode cX2_isLegal 261 = .ok (.ifCond .eq 17, 3) := by decide +kernel
theorem dX2_isLegal_264 : decode cX2_isLegal 264 = .ok (.iload 4, 2) := by decide +kernel
theorem dX2_isLegal_266 : decode cX2_isLegal 266 = .ok (.ifCond .eq 12, 3) := by decide +kernel
theorem dX2_isLegal_269 : decode cX2_isLegal 269 = .ok (.iload_n 1, 1) := by decide +kernel
theorem dX2_isLegal_270 : decode cX2_isLegal 270 = .ok (.iconst 5, 1) := by decide +kernel
theorem dX2_isLegal_271 : decode cX2_isLegal 271 = .ok (.if_icmp .gt 7, 3) := by decide +kernel
theorem dX2_isLegal_274 : decode cX2_isLegal 274 = .ok (.iconst 1, 1) := by decide +kernel
theorem dX2_isLegal_275 : decode cX2_isLegal 275 = .ok (.goto 4, 3) := by decide +kernel
theorem dX2_isLegal_278 : decode cX2_isLegal 278 = .ok (.iconst 0, 1) := by decide +kernel
theorem dX2_isLegal_279 : decode cX2_isLegal 279 = .ok (.ireturn, 1) := by decide +kernel
theorem dX2_isLegal_280 : decode cX2_isLegal 280 = .ok (.iload 4, 2) := by decide +kernel
theorem dX2_isLegal_282 : decode cX2_isLegal 282 = .ok (.ifCond .eq 17, 3) := by decide +kernel
theorem dX2_isLegal_285 : decode cX2_isLegal 285 = .ok (.iload 5, 2) := by decide +kernel
theorem dX2_isLegal_287 : decode cX2_isLegal 287 = .ok (.ifCond .eq 12, 3) := by decide +kernel
theorem dX2_isLegal_290 : decode cX2_isLegal 290 = .ok (.iload_n 1, 1) := by decide +kernel
theorem dX2_isLegal_291 : decode cX2_isLegal 291 = .ok (.iconst 3, 1) := by decide +kernel
theorem dX2_isLegal_292 : decode cX2_isLegal 292 = .ok (.if_icmp .gt 7, 3) := by decide +kernel
theorem dX2_isLegal_295 : decode cX2_isLegal 295 = .ok (.iconst 1, 1) := by decide +kernel
theorem dX2_isLegal_296 : decode cX2_isLegal 296 = .ok (.goto 4, 3) := by decide +kernel
theorem dX2_isLegal_299 : decode cX2_isLegal 299 = .ok (.iconst 0, 1) := by decide +kernel
theorem dX2_isLegal_300 : decode cX2_isLegal 300 = .ok (.ireturn, 1) := by decide +kernel
theorem dX2_isLegal_301 : decode cX2_isLegal 301 = .ok (.iload_n 3, 1) := by decide +kernel
theorem dX2_isLegal_302 : decode cX2_isLegal 302 = .ok (.ifCond .eq 24, 3) := by decide +kernel
theorem dX2_isLegal_305 : decode cX2_isLegal 305 = .ok (.iload 4, 2) := by decide +kernel
theorem dX2_isLegal_307 : decode cX2_isLegal 307 = .ok (.ifCond .eq 19, 3) := by decide +kernel
theorem dX2_isLegal_310 : decode cX2_isLegal 310 = .ok (.iload_n 1, 1) := by decide +kernel
theorem dX2_isLegal_311 : decode cX2_isLegal 311 = .ok (.iload_n 2, 1) := by decide +kernel
theorem dX2_isLegal_312 : decode cX2_isLegal 312 = .ok (.iload_n 0, 1) := by decide +kernel
theorem dX2_isLegal_313 : decode cX2_isLegal 313 = .ok (.invokestatic 87, 3) := by decide +kernel
theorem dX2_isLegal_316 : decode cX2_isLegal 316 = .ok (.invokestatic 90, 3) := by decide +kernel
theorem dX2_isLegal_319 : decode cX2_isLegal 319 = .ok (.ifCond .eq 7, 3) := by decide +kernel
theorem dX2_isLegal_322 : decode cX2_isLegal 322 = .ok (.iconst 1, 1) := by decide +kernel
theorem dX2_isLegal_323 : decode cX2_isLegal 323 = .ok (.goto 4, 3) := by decide +kernel
theorem dX2_isLegal_326 : decode cX2_isLegal 326 = .ok (.iconst 0, 1) := by decide +kernel
theorem dX2_isLegal_327 : decode cX2_isLegal 327 = .ok (.ireturn, 1) := by decide +kernel
theorem dX2_isLegal_328 : decode cX2_isLegal 328 = .ok (.iload_n 3, 1) := by decide +kernel
theorem dX2_isLegal_329 : decode cX2_isLegal 329 = .ok (.ifCond .eq 16, 3) := by decide +kernel
theorem dX2_isLegal_332 : decode cX2_isLegal 332 = .ok (.iload 4, 2) := by decide +kernel
theorem dX2_isLegal_334 : decode cX2_isLegal 334 = .ok (.ifCond .eq 11, 3) := by decide +kernel
theorem dX2_isLegal_337 : decode cX2_isLegal 337 = .ok (.iload_n 1, 1) := by decide +kernel
theorem dX2_isLegal_338 : decode cX2_isLegal 338 = .ok (.ifCond .ne 7, 3) := by decide +kernel
theorem dX2_isLegal_341 : decode cX2_isLegal 341 = .ok (.iconst 1, 1) := by decide +kernel
theorem dX2_isLegal_342 : decode cX2_isLegal 342 = .ok (.goto 4, 3) := by decide +kernel
theorem dX2_isLegal_345 : decode cX2_isLegal 345 = .ok (.iconst 0, 1) := by decide +kernel
theorem dX2_isLegal_346 : decode cX2_isLegal 346 = .ok (.ireturn, 1) := by decide +kernel
theorem dX2_isLegal_347 : decode cX2_isLegal 347 = .ok (.iconst 0, 1) := by decide +kernel
theorem dX2_isLegal_348 : decode cX2_isLegal 348 = .ok (.ireturn, 1) := by decide +kernel
theorem dX2_isLegalCapability_0 : decode cX2_isLegalCapability 0 = .ok (.iload_n 0, 1) := by decide +kernel
theorem dX2_isLegalCapability_1 : decode cX2_isLegalCapability 1 = .ok (.lookupswitch 61 #[(0, 27), (1, 45)], 27) := by decide +kernel
theorem dX2_isLegalCapability_28 : decode cX2_isLegalCapability 28 = .ok (.iload_n 2, 1) := by decide +kernel
theorem dX2_isLegalCapability_29 : decode cX2_isLegalCapability 29 = .ok (.bipush 16, 2) := by decide +kernel
theorem dX2_isLegalCapability_31 : decode cX2_isLegalCapability 31 = .ok (.if_icmp .ge 13, 3) := by decide +kernel
theorem dX2_isLegalCapability_34 : decode cX2_isLegalCapability 34 = .ok (.iload_n 1, 1) := by decide +kernel
theorem dX2_isLegalCapability_35 : decode cX2_isLegalCapability 35 = .ok (.bipush 7, 2) := by decide +kernel
theorem dX2_isLegalCapability_37 : decode cX2_isLegalCapability 37 = .ok (.if_icmp .gt 7, 3) := by decide +kernel
theorem dX2_isLegalCapability_40 : decode cX2_isLegalCapability 40 = .ok (.iconst 1, 1) := by decide +kernel
theorem dX2_isLegalCapability_41 : decode cX2_isLegalCapability 41 = .ok (.goto 4, 3) := by decide +kernel
theorem dX2_isLegalCapability_44 : decode cX2_isLegalCapability 44 = .ok (.iconst 0, 1) := by decide +kernel
theorem dX2_isLegalCapability_45 : decode cX2_isLegalCapability 45 = .ok (.ireturn, 1) := by decide +kernel
theorem dX2_isLegalCapability_46 : decode cX2_isLegalCapability 46 = .ok (.iload_n 2, 1) := by decide +kernel
theorem dX2_isLegalCapability_47 : decode cX2_isLegalCapability 47 = .ok (.bipush 12, 2) := by decide +kernel
theorem dX2_isLegalCapability_49 : decode cX2_isLegalCapability 49 = .ok (.if_icmp .gt 11, 3) := by decide +kernel
theorem dX2_isLegalCapability_52 : decode cX2_isLegalCapability 52 = .ok (.iload_n 1, 1) := by decide +kernel
theorem dX2_isLegalCapability_53 : decode cX2_isLegalCapability 53 = .ok (.ifCond .ne 7, 3) := by decide +kernel
theorem dX2_isLegalCapability_56 : decode cX2_isLegalCapability 56 = .ok (.iconst 1, 1) := by decide +kernel
theorem dX2_isLegalCapability_57 : decode cX2_isLegalCapability 57 = .ok (.goto 4, 3) := by decide +kernel
theorem dX2_isLegalCapability_60 : decode cX2_isLegalCapability 60 = .ok (.iconst 0, 1) := by decide +kernel
theorem dX2_isLegalCapability_61 : decode cX2_isLegalCapability 61 = .ok (.ireturn, 1) := by decide +kernel
theorem dX2_isLegalCapability_62 : decode cX2_isLegalCapability 62 = .ok (.iload_n 0, 1) := by decide +kernel
theorem dX2_isLegalCapability_63 : decode cX2_isLegalCapability 63 = .ok (.iconst 3, 1) := by decide +kernel
theorem dX2_isLegalCapability_64 : decode cX2_isLegalCapability 64 = .ok (.if_icmp .gt 7, 3) := by decide +kernel
theorem dX2_isLegalCapability_67 : decode cX2_isLegalCapability 67 = .ok (.iconst 1, 1) := by decide +kernel
theorem dX2_isLegalCapability_68 : decode cX2_isLegalCapability 68 = .ok (.goto 4, 3) := by decide +kernel
theorem dX2_isLegalCapability_71 : decode cX2_isLegalCapability 71 = .ok (.iconst 0, 1) := by decide +kernel
theorem dX2_isLegalCapability_72 : decode cX2_isLegalCapability 72 = .ok (.ireturn, 1) := by decide +kernel
theorem dX2_execute_0 : decode cX2_execute 0 = .ok (.aload_n 1, 1) := by decide +kernel
theorem dX2_execute_1 : decode cX2_execute 1 = .ok (.iload_n 2, 1) := by decide +kernel
theorem dX2_execute_2 : decode cX2_execute 2 = .ok (.invokestatic 9, 3) := by decide +kernel
theorem dX2_execute_5 : decode cX2_execute 5 = .ok (.invokevirtual 71, 3) := by decide +kernel
theorem dX2_execute_8 : decode cX2_execute 8 = .ok (.astore_n 3, 1) := by decide +kernel
theorem dX2_execute_9 : decode cX2_execute 9 = .ok (.iconst 0, 1) := by decide +kernel
theorem dX2_execute_10 : decode cX2_execute 10 = .ok (.istore 4, 2) := by decide +kernel
theorem dX2_execute_12 : decode cX2_execute 12 = .ok (.iconst 4, 1) := by decide +kernel
theorem dX2_execute_13 : decode cX2_execute 13 = .ok (.istore 5, 2) := by decide +kernel
theorem dX2_execute_15 : decode cX2_execute 15 = .ok (.iload_n 2, 1) := by decide +kernel
theorem dX2_execute_16 : decode cX2_execute 16 = .ok (.bipush 127, 2) := by decide +kernel
theorem dX2_execute_18 : decode cX2_execute 18 = .ok (.iand, 1) := by decide +kernel
theorem dX2_execute_19 : decode cX2_execute 19 = .ok (.lookupswitch 191 #[(3, 169), (19, 145), (23, 85), (35, 180), (51, 157), (55, 73), (99, 124), (111, 110)], 73) := by decide +kernel
theorem dX2_execute_92 : decode cX2_execute 92 = .ok (.aload_n 3, 1) := by decide +kernel
theorem dX2_execute_93 : decode cX2_execute 93 = .ok (.iload_n 2, 1) := by decide +kernel
theorem dX2_execute_94 : decode cX2_execute 94 = .ok (.sipush (-4096), 3) := by decide +kernel
theorem dX2_execute_97 : decode cX2_execute 97 = .ok (.iand, 1) := by decide +kernel
theorem dX2_execute_98 : decode cX2_execute 98 = .ok (.invokevirtual 94, 3) := by decide +kernel
theorem dX2_execute_101 : decode cX2_execute 101 = .ok (.goto 115, 3) := by decide +kernel
theorem dX2_execute_104 : decode cX2_execute 104 = .ok (.aload_n 3, 1) := by decide +kernel
theorem dX2_execute_105 : decode cX2_execute 105 = .ok (.aload_n 1, 1) := by decide +kernel
theorem dX2_execute_106 : decode cX2_execute 106 = .ok (.getfield 25, 3) := by decide +kernel
theorem dX2_execute_109 : decode cX2_execute 109 = .ok (.invokevirtual 98, 3) := by decide +kernel
theorem dX2_execute_112 : decode cX2_execute 112 = .ok (.aload_n 3, 1) := by decide +kernel
theorem dX2_execute_113 : decode cX2_execute 113 = .ok (.dup, 1) := by decide +kernel
theorem dX2_execute_114 : decode cX2_execute 114 = .ok (.getfield 31, 3) := by decide +kernel
theorem dX2_execute_117 : decode cX2_execute 117 = .ok (.iload_n 2, 1) := by decide +kernel
theorem dX2_execute_118 : decode cX2_execute 118 = .ok (.sipush (-4096), 3) := by decide +kernel
theorem dX2_execute_121 : decode cX2_execute 121 = .ok (.iand, 1) := by decide +kernel
theorem dX2_execute_122 : decode cX2_execute 122 = .ok (.iadd, 1) := by decide +kernel
theorem dX2_execute_123 : decode cX2_execute 123 = .ok (.putfield 31, 3) := by decide +kernel
theorem dX2_execute_126 : decode cX2_execute 126 = .ok (.goto 90, 3) := by decide +kernel
theorem dX2_execute_129 : decode cX2_execute 129 = .ok (.aload_n 1, 1) := by decide +kernel
theorem dX2_execute_130 : decode cX2_execute 130 = .ok (.aload_n 3, 1) := by decide +kernel
theorem dX2_execute_131 : decode cX2_execute 131 = .ok (.invokestatic 102, 3) := by decide +kernel
theorem dX2_execute_134 : decode cX2_execute 134 = .ok (.iload_n 2, 1) := by decide +kernel
theorem dX2_execute_135 : decode cX2_execute 135 = .ok (.invokestatic 106, 3) := by decide +kernel
theorem dX2_execute_138 : decode cX2_execute 138 = .ok (.istore 5, 2) := by decide +kernel
theorem dX2_execute_140 : decode cX2_execute 140 = .ok (.goto 76, 3) := by decide +kernel
theorem dX2_execute_143 : decode cX2_execute 143 = .ok (.aload_n 1, 1) := by decide +kernel
theorem dX2_execute_144 : decode cX2_execute 144 = .ok (.iload_n 2, 1) := by decide +kernel
theorem dX2_execute_145 : decode cX2_execute 145 = .ok (.invokestatic 109, 3) := by decide +kernel
theorem dX2_execute_148 : decode cX2_execute 148 = .ok (.ifCond .eq 10, 3) := by decide +kernel
theorem dX2_execute_151 : decode cX2_execute 151 = .ok (.iload_n 2, 1) := by decide +kernel
theorem dX2_execute_152 : decode cX2_execute 152 = .ok (.invokestatic 113, 3) := by decide +kernel
theorem dX2_execute_155 : decode cX2_execute 155 = .ok (.goto 4, 3) := by decide +kernel
theorem dX2_execute_158 : decode cX2_execute 158 = .ok (.iconst 4, 1) := by decide +kernel
theorem dX2_execute_159 : decode cX2_execute 159 = .ok (.istore 5, 2) := by decide +kernel
theorem dX2_execute_161 : decode cX2_execute 161 = .ok (.goto 55, 3) := by decide +kernel
theorem dX2_execute_164 : decode cX2_execute 164 = .ok (.aload_n 3, 1) := by decide +kernel
theorem dX2_execute_165 : decode cX2_execute 165 = .ok (.aload_n 1, 1) := by decide +kernel
theorem dX2_execute_166 : decode cX2_execute 166 = .ok (.iload_n 2, 1) := by decide +kernel
theorem dX2_execute_167 : decode cX2_execute 167 = .ok (.invokestatic 116, 3) := by decide +kernel
theorem dX2_execute_170 : decode cX2_execute 170 = .ok (.invokevirtual 94, 3) := by decide +kernel
theorem dX2_execute_173 : decode cX2_execute 173 = .ok (.goto 43, 3) := by decide +kernel
theorem dX2_execute_176 : decode cX2_execute 176 = .ok (.aload_n 3, 1) := by decide +kernel
theorem dX2_execute_177 : decode cX2_execute 177 = .ok (.aload_n 1, 1) := by decide +kernel
theorem dX2_execute_178 : decode cX2_execute 178 = .ok (.iload_n 2, 1) := by decide +kernel
theorem dX2_execute_179 : decode cX2_execute 179 = .ok (.invokestatic 120, 3) := by decide +kernel
theorem dX2_execute_182 : decode cX2_execute 182 = .ok (.invokevirtual 94, 3) := by decide +kernel
theorem dX2_execute_185 : decode cX2_execute 185 = .ok (.goto 31, 3) := by decide +kernel
theorem dX2_execute_188 : decode cX2_execute 188 = .ok (.aload_n 0, 1) := by decide +kernel
theorem dX2_execute_189 : decode cX2_execute 189 = .ok (.aload_n 1, 1) := by decide +kernel
theorem dX2_execute_190 : decode cX2_execute 190 = .ok (.iload_n 2, 1) := by decide +kernel
theorem dX2_execute_191 : decode cX2_execute 191 = .ok (.invokestatic 123, 3) := by decide +kernel
theorem dX2_execute_194 : decode cX2_execute 194 = .ok (.istore 4, 2) := by decide +kernel
theorem dX2_execute_196 : decode cX2_execute 196 = .ok (.goto 20, 3) := by decide +kernel
theorem dX2_execute_199 : decode cX2_execute 199 = .ok (.aload_n 0, 1) := by decide +kernel
theorem dX2_execute_200 : decode cX2_execute 200 = .ok (.aload_n 1, 1) := by decide +kernel
theorem dX2_execute_201 : decode cX2_execute 201 = .ok (.iload_n 2, 1) := by decide +kernel
theorem dX2_execute_202 : decode cX2_execute 202 = .ok (.invokestatic 125, 3) := by decide +kernel
theorem dX2_execute_205 : decode cX2_execute 205 = .ok (.istore 4, 2) := by decide +kernel
theorem dX2_execute_207 : decode cX2_execute 207 = .ok (.goto 9, 3) := by decide +kernel
theorem dX2_execute_210 : decode cX2_execute 210 = .ok (.aload_n 0, 1) := by decide +kernel
theorem dX2_execute_211 : decode cX2_execute 211 = .ok (.aload_n 1, 1) := by decide +kernel
theorem dX2_execute_212 : decode cX2_execute 212 = .ok (.iload_n 2, 1) := by decide +kernel
theorem dX2_execute_213 : decode cX2_execute 213 = .ok (.invokestatic 128, 3) := by decide +kernel
theorem dX2_execute_216 : decode cX2_execute 216 = .ok (.iload 4, 2) := by decide +kernel
theorem dX2_execute_218 : decode cX2_execute 218 = .ok (.ifCond .ne 17, 3) := by decide +kernel
theorem dX2_execute_221 : decode cX2_execute 221 = .ok (.aload_n 1, 1) := by decide +kernel
theorem dX2_execute_222 : decode cX2_execute 222 = .ok (.getfield 25, 3) := by decide +kernel
theorem dX2_execute_225 : decode cX2_execute 225 = .ok (.dup, 1) := by decide +kernel
theorem dX2_execute_226 : decode cX2_execute 226 = .ok (.getfield 31, 3) := by decide +kernel
theorem dX2_execute_229 : decode cX2_execute 229 = .ok (.iload 5, 2) := by decide +kernel
theorem dX2_execute_231 : decode cX2_execute 231 = .ok (.iadd, 1) := by decide +kernel
theorem dX2_execute_232 : decode cX2_execute 232 = .ok (.putfield 31, 3) := by decide +kernel
theorem dX2_execute_235 : decode cX2_execute 235 = .ok (.iload 4, 2) := by decide +kernel
theorem dX2_execute_237 : decode cX2_execute 237 = .ok (.ireturn, 1) := by decide +kernel
theorem dX2_link_0 : decode cX2_link 0 = .ok (.aload_n 1, 1) := by decide +kernel
theorem dX2_link_1 : decode cX2_link 1 = .ok (.aload_n 0, 1) := by decide +kernel
theorem dX2_link_2 : decode cX2_link 2 = .ok (.getfield 25, 3) := by decide +kernel
theorem dX2_link_5 : decode cX2_link 5 = .ok (.invokevirtual 98, 3) := by decide +kernel
theorem dX2_link_8 : decode cX2_link 8 = .ok (.aload_n 1, 1) := by decide +kernel
theorem dX2_link_9 : decode cX2_link 9 = .ok (.dup, 1) := by decide +kernel
theorem dX2_link_10 : decode cX2_link 10 = .ok (.getfield 31, 3) := by decide +kernel
theorem dX2_link_13 : decode cX2_link 13 = .ok (.iconst 4, 1) := by decide +kernel
theorem dX2_link_14 : decode cX2_link 14 = .ok (.iadd, 1) := by decide +kernel
theorem dX2_link_15 : decode cX2_link 15 = .ok (.putfield 31, 3) := by decide +kernel
theorem dX2_link_18 : decode cX2_link 18 = .ok (.aload_n 1, 1) := by decide +kernel
theorem dX2_link_19 : decode cX2_link 19 = .ok (.aload_n 0, 1) := by decide +kernel
theorem dX2_link_20 : decode cX2_link 20 = .ok (.getfield 132, 3) := by decide +kernel
theorem dX2_link_23 : decode cX2_link 23 = .ok (.ifCond .eq 7, 3) := by decide +kernel
theorem dX2_link_26 : decode cX2_link 26 = .ok (.iconst 3, 1) := by decide +kernel
theorem dX2_link_27 : decode cX2_link 27 = .ok (.goto 4, 3) := by decide +kernel
theorem dX2_link_30 : decode cX2_link 30 = .ok (.iconst 2, 1) := by decide +kernel
theorem dX2_link_31 : decode cX2_link 31 = .ok (.putfield 136, 3) := by decide +kernel
theorem dX2_link_34 : decode cX2_link 34 = .ok (.return_, 1) := by decide +kernel
theorem dX2_branches_0 : decode cX2_branches 0 = .ok (.aload_n 0, 1) := by decide +kernel
theorem dX2_branches_1 : decode cX2_branches 1 = .ok (.iload_n 1, 1) := by decide +kernel
theorem dX2_branches_2 : decode cX2_branches 2 = .ok (.invokestatic 84, 3) := by decide +kernel
theorem dX2_branches_5 : decode cX2_branches 5 = .ok (.invokevirtual 71, 3) := by decide +kernel
theorem dX2_branches_8 : decode cX2_branches 8 = .ok (.getfield 31, 3) := by decide +kernel
theorem dX2_branches_11 : decode cX2_branches 11 = .ok (.istore_n 2, 1) := by decide +kernel
theorem dX2_branches_12 : decode cX2_branches 12 = .ok (.aload_n 0, 1) := by decide +kernel
theorem dX2_branches_13 : decode cX2_branches 13 = .ok (.iload_n 1, 1) := by decide +kernel
theorem dX2_branches_14 : decode cX2_branches 14 = .ok (.invokestatic 87, 3) := by decide +kernel
theorem dX2_branches_17 : decode cX2_branches 17 = .ok (.invokevirtual 71, 3) := by decide +kernel
theorem dX2_branches_20 : decode cX2_branches 20 = .ok (.getfield 31, 3) := by decide +kernel
theorem dX2_branches_23 : decode cX2_branches 23 = .ok (.istore_n 3, 1) := by decide +kernel
theorem dX2_branches_24 : decode cX2_branches 24 = .ok (.iload_n 1, 1) := by decide +kernel
theorem dX2_branches_25 : decode cX2_branches 25 = .ok (.invokestatic 78, 3) := by decide +kernel
theorem dX2_branches_28 : decode cX2_branches 28 = .ok (.tableswitch 106 0 6 #[44, 55, 106, 106, 66, 77, 88], 44) := by decide +kernel
theorem dX2_branches_72 : decode cX2_branches 72 = .ok (.iload_n 2, 1) := by decide +kernel
theorem dX2_branches_73 : decode cX2_branches 73 = .ok (.iload_n 3, 1) := by decide +kernel
theorem dX2_branches_74 : decode cX2_branches 74 = .ok (.if_icmp .ne 7, 3) := by decide +kernel
theorem dX2_branches_77 : decode cX2_branches 77 = .ok (.iconst 1, 1) := by decide +kernel
theorem dX2_branches_78 : decode cX2_branches 78 = .ok (.goto 4, 3) := by decide +kernel
theorem dX2_branches_81 : decode cX2_branches 81 = .ok (.iconst 0, 1) := by decide +kernel
theorem dX2_branches_82 : decode cX2_branches 82 = .ok (.ireturn, 1) := by decide +kernel
theorem dX2_branches_83 : decode cX2_branches 83 = .ok (.iload_n 2, 1) := by decide +kernel
theorem dX2_branches_84 : decode cX2_branches 84 = .ok (.iload_n 3, 1) := by decide +kernel
theorem dX2_branches_85 : decode cX2_branches 85 = .ok (.if_icmp .eq 7, 3) := by decide +kernel
theorem dX2_branches_88 : decode cX2_branches 88 = .ok (.iconst 1, 1) := by decide +kernel
theorem dX2_branches_89 : decode cX2_branches 89 = .ok (.goto 4, 3) := by decide +kernel
theorem dX2_branches_92 : decode cX2_branches 92 = .ok (.iconst 0, 1) := by decide +kernel
theorem dX2_branches_93 : decode cX2_branches 93 = .ok (.ireturn, 1) := by decide +kernel
theorem dX2_branches_94 : decode cX2_branches 94 = .ok (.iload_n 2, 1) := by decide +kernel
theorem dX2_branches_95 : decode cX2_branches 95 = .ok (.iload_n 3, 1) := by decide +kernel
theorem dX2_branches_96 : decode cX2_branches 96 = .ok (.if_icmp .ge 7, 3) := by decide +kernel
theorem dX2_branches_99 : decode cX2_branches 99 = .ok (.iconst 1, 1) := by decide +kernel
theorem dX2_branches_100 : decode cX2_branches 100 = .ok (.goto 4, 3) := by decide +kernel
theorem dX2_branches_103 : decode cX2_branches 103 = .ok (.iconst 0, 1) := by decide +kernel
theorem dX2_branches_104 : decode cX2_branches 104 = .ok (.ireturn, 1) := by decide +kernel
theorem dX2_branches_105 : decode cX2_branches 105 = .ok (.iload_n 2, 1) := by decide +kernel
theorem dX2_branches_106 : decode cX2_branches 106 = .ok (.iload_n 3, 1) := by decide +kernel
theorem dX2_branches_107 : decode cX2_branches 107 = .ok (.if_icmp .lt 7, 3) := by decide +kernel
theorem dX2_branches_110 : decode cX2_branches 110 = .ok (.iconst 1, 1) := by decide +kernel
theorem dX2_branches_111 : decode cX2_branches 111 = .ok (.goto 4, 3) := by decide +kernel
theorem dX2_branches_114 : decode cX2_branches 114 = .ok (.iconst 0, 1) := by decide +kernel
theorem dX2_branches_115 : decode cX2_branches 115 = .ok (.ireturn, 1) := by decide +kernel
theorem dX2_branches_116 : decode cX2_branches 116 = .ok (.iload_n 2, 1) := by decide +kernel
theorem dX2_branches_117 : decode cX2_branches 117 = .ok (.invokestatic 139, 3) := by decide +kernel
theorem dX2_branches_120 : decode cX2_branches 120 = .ok (.iload_n 3, 1) := by decide +kernel
theorem dX2_branches_121 : decode cX2_branches 121 = .ok (.invokestatic 139, 3) := by decide +kernel
theorem dX2_branches_124 : decode cX2_branches 124 = .ok (.lcmp, 1) := by decide +kernel
theorem dX2_branches_125 : decode cX2_branches 125 = .ok (.ifCond .ge 7, 3) := by decide +kernel
theorem dX2_branches_128 : decode cX2_branches 128 = .ok (.iconst 1, 1) := by decide +kernel
theorem dX2_branches_129 : decode cX2_branches 129 = .ok (.goto 4, 3) := by decide +kernel
theorem dX2_branches_132 : decode cX2_branches 132 = .ok (.iconst 0, 1) := by decide +kernel
theorem dX2_branches_133 : decode cX2_branches 133 = .ok (.ireturn, 1) := by decide +kernel
theorem dX2_branches_134 : decode cX2_branches 134 = .ok (.iload_n 2, 1) := by decide +kernel
theorem dX2_branches_135 : decode cX2_branches 135 = .ok (.invokestatic 139, 3) := by decide +kernel
theorem dX2_branches_138 : decode cX2_branches 138 = .ok (.iload_n 3, 1) := by decide +kernel
theorem dX2_branches_139 : decode cX2_branches 139 = .ok (.invokestatic 139, 3) := by decide +kernel
theorem dX2_branches_142 : decode cX2_branches 142 = .ok (.lcmp, 1) := by decide +kernel
theorem dX2_branches_143 : decode cX2_branches 143 = .ok (.ifCond .lt 7, 3) := by decide +kernel
theorem dX2_branches_146 : decode cX2_branches 146 = .ok (.iconst 1, 1) := by decide +kernel
theorem dX2_branches_147 : decode cX2_branches 147 = .ok (.goto 4, 3) := by decide +kernel
theorem dX2_branches_150 : decode cX2_branches 150 = .ok (.iconst 0, 1) := by decide +kernel
theorem dX2_branches_151 : decode cX2_branches 151 = .ok (.ireturn, 1) := by decide +kernel
theorem dX2_withImmediate_0 : decode cX2_withImmediate 0 = .ok (.iload_n 1, 1) := by decide +kernel
theorem dX2_withImmediate_1 : decode cX2_withImmediate 1 = .ok (.invokestatic 78, 3) := by decide +kernel
theorem dX2_withImmediate_4 : decode cX2_withImmediate 4 = .ok (.istore_n 2, 1) := by decide +kernel
theorem dX2_withImmediate_5 : decode cX2_withImmediate 5 = .ok (.iload_n 2, 1) := by decide +kernel
theorem dX2_withImmediate_6 : decode cX2_withImmediate 6 = .ok (.iconst 5, 1) := by decide +kernel
theorem dX2_withImmediate_7 : decode cX2_withImmediate 7 = .ok (.if_icmp .ne 16, 3) := by decide +kernel
theorem dX2_withImmediate_10 : decode cX2_withImmediate 10 = .ok (.iload_n 1, 1) := by decide +kernel
theorem dX2_withImmediate_11 : decode cX2_withImmediate 11 = .ok (.invokestatic 81, 3) := by decide +kernel
theorem dX2_withImmediate_14 : decode cX2_withImmediate 14 = .ok (.bipush 32, 2) := by decide +kernel
theorem dX2_withImmediate_16 : decode cX2_withImmediate 16 = .ok (.if_icmp .ne 7, 3) := by decide +kernel
theorem dX2_withImmediate_19 : decode cX2_withImmediate 19 = .ok (.iconst 1, 1) := by decide +kernel
theorem dX2_withImmediate_20 : decode cX2_withImmediate 20 = .ok (.goto 4, 3) := by decide +kernel
theorem dX2_withImmediate_23 : decode cX2_withImmediate 23 = .ok (.iconst 0, 1) := by decide +kernel
theorem dX2_withImmediate_24 : decode cX2_withImmediate 24 = .ok (.istore_n 3, 1) := by decide +kernel
theorem dX2_withImmediate_25 : decode cX2_withImmediate 25 = .ok (.iload_n 2, 1) := by decide +kernel
theorem dX2_withImmediate_26 : decode cX2_withImmediate 26 = .ok (.aload_n 0, 1) := by decide +kernel
theorem dX2_withImmediate_27 : decode cX2_withImmediate 27 = .ok (.iload_n 1, 1) := by decide +kernel
theorem dX2_withImmediate_28 : decode cX2_withImmediate 28 = .ok (.invokestatic 84, 3) := by decide +kernel
theorem dX2_withImmediate_31 : decode cX2_withImmediate 31 = .ok (.invokevirtual 71, 3) := by decide +kernel
theorem dX2_withImmediate_34 : decode cX2_withImmediate 34 = .ok (.getfield 31, 3) := by decide +kernel
theorem dX2_withImmediate_37 : decode cX2_withImmediate 37 = .ok (.iload_n 1, 1) := by decide +kernel
theorem dX2_withImmediate_38 : decode cX2_withImmediate 38 = .ok (.invokestatic 143, 3) := by decide +kernel
theorem dX2_withImmediate_41 : decode cX2_withImmediate 41 = .ok (.iload_n 3, 1) := by decide +kernel
theorem dX2_withImmediate_42 : decode cX2_withImmediate 42 = .ok (.invokestatic 146, 3) := by decide +kernel
theorem dX2_withImmediate_45 : decode cX2_withImmediate 45 = .ok (.ireturn, 1) := by decide +kernel
theorem dX2_withRegisters_0 : decode cX2_withRegisters 0 = .ok (.aload_n 0, 1) := by decide +kernel
theorem dX2_withRegisters_1 : decode cX2_withRegisters 1 = .ok (.iload_n 1, 1) := by decide +kernel
theorem dX2_withRegisters_2 : decode cX2_withRegisters 2 = .ok (.invokestatic 84, 3) := by decide +kernel
theorem dX2_withRegisters_5 : decode cX2_withRegisters 5 = .ok (.invokevirtual 71, 3) := by decide +kernel
theorem dX2_withRegisters_8 : decode cX2_withRegisters 8 = .ok (.getfield 31, 3) := by decide +kernel
theorem dX2_withRegisters_11 : decode cX2_withRegisters 11 = .ok (.istore_n 2, 1) := by decide +kernel
theorem dX2_withRegisters_12 : decode cX2_withRegisters 12 = .ok (.aload_n 0, 1) := by decide +kernel
theorem dX2_withRegisters_13 : decode cX2_withRegisters 13 = .ok (.iload_n 1, 1) := by decide +kernel
theorem dX2_withRegisters_14 : decode cX2_withRegisters 14 = .ok (.invokestatic 87, 3) := by decide +kernel
theorem dX2_withRegisters_17 : decode cX2_withRegisters 17 = .ok (.invokevirtual 71, 3) := by decide +kernel
theorem dX2_withRegisters_20 : decode cX2_withRegisters 20 = .ok (.getfield 31, 3) := by decide +kernel
theorem dX2_withRegisters_23 : decode cX2_withRegisters 23 = .ok (.istore_n 3, 1) := by decide +kernel
theorem dX2_withRegisters_24 : decode cX2_withRegisters 24 = .ok (.iload_n 1, 1) := by decide +kernel
theorem dX2_withRegisters_25 : decode cX2_withRegisters 25 = .ok (.invokestatic 81, 3) := by decide +kernel
theorem dX2_withRegisters_28 : decode cX2_withRegisters 28 = .ok (.iconst 1, 1) := by decide +kernel
theorem dX2_withRegisters_29 : decode cX2_withRegisters 29 = .ok (.if_icmp .eq 27, 3) := by decide +kernel
theorem dX2_withRegisters_32 : decode cX2_withRegisters 32 = .ok (.iload_n 1, 1) := by decide +kernel
theorem dX2_withRegisters_33 : decode cX2_withRegisters 33 = .ok (.invokestatic 78, 3) := by decide +kernel
theorem dX2_withRegisters_36 : decode cX2_withRegisters 36 = .ok (.iload_n 2, 1) := by decide +kernel
theorem dX2_withRegisters_37 : decode cX2_withRegisters 37 = .ok (.iload_n 3, 1) := by decide +kernel
theorem dX2_withRegisters_38 : decode cX2_withRegisters 38 = .ok (.iload_n 1, 1) := by decide +kernel
theorem dX2_withRegisters_39 : decode cX2_withRegisters 39 = .ok (.invokestatic 81, 3) := by decide +kernel
theorem dX2_withRegisters_42 : decode cX2_withRegisters 42 = .ok (.bipush 32, 2) := by decide +kernel
theorem dX2_withRegisters_44 : decode cX2_withRegisters 44 = .ok (.if_icmp .ne 7, 3) := by decide +kernel
theorem dX2_withRegisters_47 : decode cX2_withRegisters 47 = .ok (.iconst 1, 1) := by decide +kernel
theorem dX2_withRegisters_48 : decode cX2_withRegisters 48 = .ok (.goto 4, 3) := by decide +kernel
theorem dX2_withRegisters_51 : decode cX2_withRegisters 51 = .ok (.iconst 0, 1) := by decide +kernel
theorem dX2_withRegisters_52 : decode cX2_withRegisters 52 = .ok (.invokestatic 146, 3) := by decide +kernel
theorem dX2_withRegisters_55 : decode cX2_withRegisters 55 = .ok (.ireturn, 1) := by decide +kernel
theorem dX2_withRegisters_56 : decode cX2_withRegisters 56 = .ok (.iload_n 1, 1) := by decide +kernel
theorem dX2_withRegisters_57 : decode cX2_withRegisters 57 = .ok (.invokestatic 78, 3) := by decide +kernel
theorem dX2_withRegisters_60 : decode cX2_withRegisters 60 = .ok (.iconst 4, 1) := by decide +kernel
theorem dX2_withRegisters_61 : decode cX2_withRegisters 61 = .ok (.if_icmp .ge 15, 3) := by decide +kernel
theorem dX2_withRegisters_64 : decode cX2_withRegisters 64 = .ok (.iload_n 1, 1) := by decide +kernel
theorem dX2_withRegisters_65 : decode cX2_withRegisters 65 = .ok (.invokestatic 78, 3) := by decide +kernel
theorem dX2_withRegisters_68 : decode cX2_withRegisters 68 = .ok (.iload_n 2, 1) := by decide +kernel
theorem dX2_withRegisters_69 : decode cX2_withRegisters 69 = .ok (.iload_n 3, 1) := by decide +kernel
theorem dX2_withRegisters_70 : decode cX2_withRegisters 70 = .ok (.invokestatic 150, 3) := by decide +kernel
theorem dX2_withRegisters_73 : decode cX2_withRegisters 73 = .ok (.goto 12, 3) := by decide +kernel
theorem dX2_withRegisters_76 : decode cX2_withRegisters 76 = .ok (.iload_n 1, 1) := by decide +kernel
theorem dX2_withRegisters_77 : decode cX2_withRegisters 77 = .ok (.invokestatic 78, 3) := by decide +kernel
theorem dX2_withRegisters_80 : decode cX2_withRegisters 80 = .ok (.iload_n 2, 1) := by decide +kernel
theorem dX2_withRegisters_81 : decode cX2_withRegisters 81 = .ok (.iload_n 3, 1) := by decide +kernel
theorem dX2_withRegisters_82 : decode cX2_withRegisters 82 = .ok (.invokestatic 153, 3) := by decide +kernel
theorem dX2_withRegisters_85 : decode cX2_withRegisters 85 = .ok (.ireturn, 1) := by decide +kernel
theorem dX2_combine_0 : decode cX2_combine 0 = .ok (.iload_n 0, 1) := by decide +kernel
theorem dX2_combine_1 : decode cX2_combine 1 = .ok (.tableswitch 121 0 6 #[43, 57, 64, 75, 93, 97, 117], 43) := by decide +kernel
theorem dX2_combine_44 : decode cX2_combine 44 = .ok (.iload_n 3, 1) := by decide +kernel
theorem dX2_combine_45 : decode cX2_combine 45 = .ok (.ifCond .eq 9, 3) := by decide +kernel
theorem dX2_combine_48 : decode cX2_combine 48 = .ok (.iload_n 1, 1) := by decide +kernel
theorem dX2_combine_49 : decode cX2_combine 49 = .ok (.iload_n 2, 1) := by decide +kernel
theorem dX2_combine_50 : decode cX2_combine 50 = .ok (.isub, 1) := by decide +kernel
theorem dX2_combine_51 : decode cX2_combine 51 = .ok (.goto 6, 3) := by decide +kernel
theorem dX2_combine_54 : decode cX2_combine 54 = .ok (.iload_n 1, 1) := by decide +kernel
theorem dX2_combine_55 : decode cX2_combine 55 = .ok (.iload_n 2, 1) := by decide +kernel
theorem dX2_combine_56 : decode cX2_combine 56 = .ok (.iadd, 1) := by decide +kernel
theorem dX2_combine_57 : decode cX2_combine 57 = .ok (.ireturn, 1) := by decide +kernel
theorem dX2_combine_58 : decode cX2_combine 58 = .ok (.iload_n 1, 1) := by decide +kernel
theorem dX2_combine_59 : decode cX2_combine 59 = .ok (.iload_n 2, 1) := by decide +kernel
theorem dX2_combine_60 : decode cX2_combine 60 = .ok (.bipush 31, 2) := by decide +kernel
theorem dX2_combine_62 : decode cX2_combine 62 = .ok (.iand, 1) := by decide +kernel
theorem dX2_combine_63 : decode cX2_combine 63 = .ok (.ishl, 1) := by decide +kernel
theorem dX2_combine_64 : decode cX2_combine 64 = .ok (.ireturn, 1) := by decide +kernel
theorem dX2_combine_65 : decode cX2_combine 65 = .ok (.iload_n 1, 1) := by decide +kernel
theorem dX2_combine_66 : decode cX2_combine 66 = .ok (.iload_n 2, 1) := by decide +kernel
theorem dX2_combine_67 : decode cX2_combine 67 = .ok (.if_icmp .ge 7, 3) := by decide +kernel
theorem dX2_combine_70 : decode cX2_combine 70 = .ok (.iconst 1, 1) := by decide +kernel
theorem dX2_combine_71 : decode cX2_combine 71 = .ok (.goto 4, 3) := by decide +kernel
theorem dX2_combine_74 : decode cX2_combine 74 = .ok (.iconst 0, 1) := by decide +kernel
theorem dX2_combine_75 : decode cX2_combine 75 = .ok (.ireturn, 1) := by decide +kernel
theorem dX2_combine_76 : decode cX2_combine 76 = .ok (.iload_n 1, 1) := by decide +kernel
theorem dX2_combine_77 : decode cX2_combine 77 = .ok (.invokestatic 139, 3) := by decide +kernel
theorem dX2_combine_80 : decode cX2_combine 80 = .ok (.iload_n 2, 1) := by decide +kernel
theorem dX2_combine_81 : decode cX2_combine 81 = .ok (.invokestatic 139, 3) := by decide +kernel
theorem dX2_combine_84 : decode cX2_combine 84 = .ok (.lcmp, 1) := by decide +kernel
theorem dX2_combine_85 : decode cX2_combine 85 = .ok (.ifCond .ge 7, 3) := by decide +kernel
theorem dX2_combine_88 : decode cX2_combine 88 = .ok (.iconst 1, 1) := by decide +kernel
theorem dX2_combine_89 : decode cX2_combine 89 = .ok (.goto 4, 3) := by decide +kernel
theorem dX2_combine_92 : decode cX2_combine 92 = .ok (.iconst 0, 1) := by decide +kernel
theorem dX2_combine_93 : decode cX2_combine 93 = .ok (.ireturn, 1) := by decide +kernel
theorem dX2_combine_94 : decode cX2_combine 94 = .ok (.iload_n 1, 1) := by decide +kernel
theorem dX2_combine_95 : decode cX2_combine 95 = .ok (.iload_n 2, 1) := by decide +kernel
theorem dX2_combine_96 : decode cX2_combine 96 = .ok (.ixor, 1) := by decide +kernel
theorem dX2_combine_97 : decode cX2_combine 97 = .ok (.ireturn, 1) := by decide +kernel
theorem dX2_combine_98 : decode cX2_combine 98 = .ok (.iload_n 3, 1) := by decide +kernel
theorem dX2_combine_99 : decode cX2_combine 99 = .ok (.ifCond .eq 12, 3) := by decide +kernel
theorem dX2_combine_102 : decode cX2_combine 102 = .ok (.iload_n 1, 1) := by decide +kernel
theorem dX2_combine_103 : decode cX2_combine 103 = .ok (.iload_n 2, 1) := by decide +kernel
theorem dX2_combine_104 : decode cX2_combine 104 = .ok (.bipush 31, 2) := by decide +kernel
theorem dX2_combine_106 : decode cX2_combine 106 = .ok (.iand, 1) := by decide +kernel
theorem dX2_combine_107 : decode cX2_combine 107 = .ok (.ishr, 1) := by decide +kernel
theorem dX2_combine_108 : decode cX2_combine 108 = .ok (.goto 9, 3) := by decide +kernel
theorem dX2_combine_111 : decode cX2_combine 111 = .ok (.iload_n 1, 1) := by decide +kernel
theorem dX2_combine_112 : decode cX2_combine 112 = .ok (.iload_n 2, 1) := by decide +kernel
theorem dX2_combine_113 : decode cX2_combine 113 = .ok (.bipush 31, 2) := by decide +kernel
theorem dX2_combine_115 : decode cX2_combine 115 = .ok (.iand, 1) := by decide +kernel
theorem dX2_combine_116 : decode cX2_combine 116 = .ok (.iushr, 1) := by decide +kernel
theorem dX2_combine_117 : decode cX2_combine 117 = .ok (.ireturn, 1) := by decide +kernel
theorem dX2_combine_118 : decode cX2_combine 118 = .ok (.iload_n 1, 1) := by decide +kernel
theorem dX2_combine_119 : decode cX2_combine 119 = .ok (.iload_n 2, 1) := by decide +kernel
theorem dX2_combine_120 : decode cX2_combine 120 = .ok (.ior, 1) := by decide +kernel
theorem dX2_combine_121 : decode cX2_combine 121 = .ok (.ireturn, 1) := by decide +kernel
theorem dX2_combine_122 : decode cX2_combine 122 = .ok (.iload_n 1, 1) := by decide +kernel
theorem dX2_combine_123 : decode cX2_combine 123 = .ok (.iload_n 2, 1) := by decide +kernel
theorem dX2_combine_124 : decode cX2_combine 124 = .ok (.iand, 1) := by decide +kernel
theorem dX2_combine_125 : decode cX2_combine 125 = .ok (.ireturn, 1) := by decide +kernel
theorem dX2_multiply_0 : decode cX2_multiply 0 = .ok (.iload_n 0, 1) := by decide +kernel
theorem dX2_multiply_1 : decode cX2_multiply 1 = .ok (.tableswitch 53 0 2 #[27, 31, 41], 27) := by decide +kernel
theorem dX2_multiply_28 : decode cX2_multiply 28 = .ok (.iload_n 1, 1) := by decide +kernel
theorem dX2_multiply_29 : decode cX2_multiply 29 = .ok (.iload_n 2, 1) := by decide +kernel
theorem dX2_multiply_30 : decode cX2_multiply 30 = .ok (.imul, 1) := by decide +kernel
theorem dX2_multiply_31 : decode cX2_multiply 31 = .ok (.ireturn, 1) := by decide +kernel
theorem dX2_multiply_32 : decode cX2_multiply 32 = .ok (.iload_n 1, 1) := by decide +kernel
theorem dX2_multiply_33 : decode cX2_multiply 33 = .ok (.i2l, 1) := by decide +kernel
theorem dX2_multiply_34 : decode cX2_multiply 34 = .ok (.iload_n 2, 1) := by decide +kernel
theorem dX2_multiply_35 : decode cX2_multiply 35 = .ok (.i2l, 1) := by decide +kernel
theorem dX2_multiply_36 : decode cX2_multiply 36 = .ok (.lmul, 1) := by decide +kernel
theorem dX2_multiply_37 : decode cX2_multiply 37 = .ok (.bipush 32, 2) := by decide +kernel
theorem dX2_multiply_39 : decode cX2_multiply 39 = .ok (.lshr, 1) := by decide +kernel
theorem dX2_multiply_40 : decode cX2_multiply 40 = .ok (.l2i, 1) := by decide +kernel
theorem dX2_multiply_41 : decode cX2_multiply 41 = .ok (.ireturn, 1) := by decide +kernel
theorem dX2_multiply_42 : decode cX2_multiply 42 = .ok (.iload_n 1, 1) := by decide +kernel
theorem dX2_multiply_43 : decode cX2_multiply 43 = .ok (.i2l, 1) := by decide +kernel
theorem dX2_multiply_44 : decode cX2_multiply 44 = .ok (.iload_n 2, 1) := by decide +kernel
theorem dX2_multiply_45 : decode cX2_multiply 45 = .ok (.invokestatic 139, 3) := by decide +kernel
theorem dX2_multiply_48 : decode cX2_multiply 48 = .ok (.lmul, 1) := by decide +kernel
theorem dX2_multiply_49 : decode cX2_multiply 49 = .ok (.bipush 32, 2) := by decide +kernel
theorem dX2_multiply_51 : decode cX2_multiply 51 = .ok (.lshr, 1) := by decide +kernel
theorem dX2_multiply_52 : decode cX2_multiply 52 = .ok (.l2i, 1) := by decide +kernel
theorem dX2_multiply_53 : decode cX2_multiply 53 = .ok (.ireturn, 1) := by decide +kernel
theorem dX2_multiply_54 : decode cX2_multiply 54 = .ok (.iload_n 1, 1) := by decide +kernel
theorem dX2_multiply_55 : decode cX2_multiply 55 = .ok (.invokestatic 139, 3) := by decide +kernel
theorem dX2_multiply_58 : decode cX2_multiply 58 = .ok (.iload_n 2, 1) := by decide +kernel
theorem dX2_multiply_59 : decode cX2_multiply 59 = .ok (.invokestatic 139, 3) := by decide +kernel
theorem dX2_multiply_62 : decode cX2_multiply 62 = .ok (.lmul, 1) := by decide +kernel
theorem dX2_multiply_63 : decode cX2_multiply 63 = .ok (.bipush 32, 2) := by decide +kernel
theorem dX2_multiply_65 : decode cX2_multiply 65 = .ok (.lushr, 1) := by decide +kernel
theorem dX2_multiply_66 : decode cX2_multiply 66 = .ok (.l2i, 1) := by decide +kernel
theorem dX2_multiply_67 : decode cX2_multiply 67 = .ok (.ireturn, 1) := by decide +kernel
theorem dX2_divide_0 : decode cX2_divide 0 = .ok (.iload_n 0, 1) := by decide +kernel
theorem dX2_divide_1 : decode cX2_divide 1 = .ok (.bipush 6, 2) := by decide +kernel
theorem dX2_divide_3 : decode cX2_divide 3 = .ok (.if_icmp .ge 7, 3) := by decide +kernel
theorem dX2_divide_6 : decode cX2_divide 6 = .ok (.iconst 1, 1) := by decide +kernel
theorem dX2_divide_7 : decode cX2_divide 7 = .ok (.goto 4, 3) := by decide +kernel
theorem dX2_divide_10 : decode cX2_divide 10 = .ok (.iconst 0, 1) := by decide +kernel
theorem dX2_divide_11 : decode cX2_divide 11 = .ok (.istore_n 3, 1) := by decide +kernel
theorem dX2_divide_12 : decode cX2_divide 12 = .ok (.iload_n 2, 1) := by decide +kernel
theorem dX2_divide_13 : decode cX2_divide 13 = .ok (.ifCond .ne 13, 3) := by decide +kernel
theorem dX2_divide_16 : decode cX2_divide 16 = .ok (.iload_n 3, 1) := by decide +kernel
theorem dX2_divide_17 : decode cX2_divide 17 = .ok (.ifCond .eq 7, 3) := by decide +kernel
theorem dX2_divide_20 : decode cX2_divide 20 = .ok (.iconst (-1), 1) := by decide +kernel
theorem dX2_divide_21 : decode cX2_divide 21 = .ok (.goto 4, 3) := by decide +kernel
theorem dX2_divide_24 : decode cX2_divide 24 = .ok (.iload_n 1, 1) := by decide +kernel
theorem dX2_divide_25 : decode cX2_divide 25 = .ok (.ireturn, 1) := by decide +kernel
theorem dX2_divide_26 : decode cX2_divide 26 = .ok (.iload_n 0, 1) := by decide +kernel
theorem dX2_divide_27 : decode cX2_divide 27 = .ok (.iconst 4, 1) := by decide +kernel
theorem dX2_divide_28 : decode cX2_divide 28 = .ok (.if_icmp .eq 9, 3) := by decide +kernel
theorem dX2_divide_31 : decode cX2_divide 31 = .ok (.iload_n 0, 1) := by decide +kernel
theorem dX2_divide_32 : decode cX2_divide 32 = .ok (.bipush 6, 2) := by decide +kernel
theorem dX2_divide_34 : decode cX2_divide 34 = .ok (.if_icmp .ne 7, 3) := by decide +kernel
theorem dX2_divide_37 : decode cX2_divide 37 = .ok (.iconst 1, 1) := by decide +kernel
theorem dX2_divide_38 : decode cX2_divide 38 = .ok (.goto 4, 3) := by decide +kernel
theorem dX2_divide_41 : decode cX2_divide 41 = .ok (.iconst 0, 1) := by decide +kernel
theorem dX2_divide_42 : decode cX2_divide 42 = .ok (.istore 4, 2) := by decide +kernel
theorem dX2_divide_44 : decode cX2_divide 44 = .ok (.iload 4, 2) := by decide +kernel
theorem dX2_divide_46 : decode cX2_divide 46 = .ok (.ifCond .eq 8, 3) := by decide +kernel
theorem dX2_divide_49 : decode cX2_divide 49 = .ok (.iload_n 1, 1) := by decide +kernel
theorem dX2_divide_50 : decode cX2_divide 50 = .ok (.i2l, 1) := by decide +kernel
theorem dX2_divide_51 : decode cX2_divide 51 = .ok (.goto 7, 3) := by decide +kernel
theorem dX2_divide_54 : decode cX2_divide 54 = .ok (.iload_n 1, 1) := by decide +kernel
theorem dX2_divide_55 : decode cX2_divide 55 = .ok (.invokestatic 139, 3) := by decide +kernel
theorem dX2_divide_58 : decode cX2_divide 58 = .ok (.lstore 5, 2) := by decide +kernel
theorem dX2_divide_60 : decode cX2_divide 60 = .ok (.iload 4, 2) := by decide +kernel
theorem dX2_divide_62 : decode cX2_divide 62 = .ok (.ifCond .eq 8, 3) := by decide +kernel
theorem dX2_divide_65 : decode cX2_divide 65 = .ok (.iload_n 2, 1) := by decide +kernel
theorem dX2_divide_66 : decode cX2_divide 66 = .ok (.i2l, 1) := by decide +kernel
theorem dX2_divide_67 : decode cX2_divide 67 = .ok (.goto 7, 3) := by decide +kernel
theorem dX2_divide_70 : decode cX2_divide 70 = .ok (.iload_n 2, 1) := by decide +kernel
theorem dX2_divide_71 : decode cX2_divide 71 = .ok (.invokestatic 139, 3) := by decide +kernel
theorem dX2_divide_74 : decode cX2_divide 74 = .ok (.lstore 7, 2) := by decide +kernel
theorem dX2_divide_76 : decode cX2_divide 76 = .ok (.iload_n 3, 1) := by decide +kernel
theorem dX2_divide_77 : decode cX2_divide 77 = .ok (.ifCond .eq 11, 3) := by decide +kernel
theorem dX2_divide_80 : decode cX2_divide 80 = .ok (.lload 5, 2) := by decide +kernel
theorem dX2_divide_82 : decode cX2_divide 82 = .ok (.lload 7, 2) := by decide +kernel
theorem dX2_divide_84 : decode cX2_divide 84 = .ok (.ldiv, 1) := by decide +kernel
theorem dX2_divide_85 : decode cX2_divide 85 = .ok (.goto 8, 3) := by decide +kernel
theorem dX2_divide_88 : decode cX2_divide 88 = .ok (.lload 5, 2) := by decide +kernel
theorem dX2_divide_90 : decode cX2_divide 90 = .ok (.lload 7, 2) := by decide +kernel
theorem dX2_divide_92 : decode cX2_divide 92 = .ok (.lrem, 1) := by decide +kernel
theorem dX2_divide_93 : decode cX2_divide 93 = .ok (.l2i, 1) := by decide +kernel
theorem dX2_divide_94 : decode cX2_divide 94 = .ok (.ireturn, 1) := by decide +kernel
theorem dX2_sizeOf_0 : decode cX2_sizeOf 0 = .ok (.iload_n 0, 1) := by decide +kernel
theorem dX2_sizeOf_1 : decode cX2_sizeOf 1 = .ok (.iconst 3, 1) := by decide +kernel
theorem dX2_sizeOf_2 : decode cX2_sizeOf 2 = .ok (.if_icmp .ne 8, 3) := by decide +kernel
theorem dX2_sizeOf_5 : decode cX2_sizeOf 5 = .ok (.bipush 16, 2) := by decide +kernel
theorem dX2_sizeOf_7 : decode cX2_sizeOf 7 = .ok (.goto 8, 3) := by decide +kernel
theorem dX2_sizeOf_10 : decode cX2_sizeOf 10 = .ok (.iconst 1, 1) := by decide +kernel
theorem dX2_sizeOf_11 : decode cX2_sizeOf 11 = .ok (.iload_n 0, 1) := by decide +kernel
theorem dX2_sizeOf_12 : decode cX2_sizeOf 12 = .ok (.iconst 3, 1) := by decide +kernel
theorem dX2_sizeOf_13 : decode cX2_sizeOf 13 = .ok (.iand, 1) := by decide +kernel
theorem dX2_sizeOf_14 : decode cX2_sizeOf 14 = .ok (.ishl, 1) := by decide +kernel
theorem dX2_sizeOf_15 : decode cX2_sizeOf 15 = .ok (.ireturn, 1) := by decide +kernel
theorem dX2_isDevice_0 : decode cX2_isDevice 0 = .ok (.iload_n 0, 1) := by decide +kernel
theorem dX2_isDevice_1 : decode cX2_isDevice 1 = .ok (.invokestatic 139, 3) := by decide +kernel
theorem dX2_isDevice_4 : decode cX2_isDevice 4 = .ok (.ldc2_w 156, 3) := by decide +kernel
theorem dX2_isDevice_7 : decode cX2_isDevice 7 = .ok (.lcmp, 1) := by decide +kernel
theorem dX2_isDevice_8 : decode cX2_isDevice 8 = .ok (.ifCond .lt 7, 3) := by decide +kernel
theorem dX2_isDevice_11 : decode cX2_isDevice 11 = .ok (.iconst 1, 1) := by decide +kernel
theorem dX2_isDevice_12 : decode cX2_isDevice 12 = .ok (.goto 4, 3) := by decide +kernel
theorem dX2_isDevice_15 : decode cX2_isDevice 15 = .ok (.iconst 0, 1) := by decide +kernel
theorem dX2_isDevice_16 : decode cX2_isDevice 16 = .ok (.ireturn, 1) := by decide +kernel
theorem dX2_load_0 : decode cX2_load 0 = .ok (.aload_n 1, 1) := by decide +kernel
theorem dX2_load_1 : decode cX2_load 1 = .ok (.iload_n 2, 1) := by decide +kernel
theorem dX2_load_2 : decode cX2_load 2 = .ok (.invokestatic 84, 3) := by decide +kernel
theorem dX2_load_5 : decode cX2_load 5 = .ok (.invokevirtual 71, 3) := by decide +kernel
theorem dX2_load_8 : decode cX2_load 8 = .ok (.astore_n 3, 1) := by decide +kernel
theorem dX2_load_9 : decode cX2_load 9 = .ok (.aload_n 1, 1) := by decide +kernel
theorem dX2_load_10 : decode cX2_load 10 = .ok (.iload_n 2, 1) := by decide +kernel
theorem dX2_load_11 : decode cX2_load 11 = .ok (.invokestatic 9, 3) := by decide +kernel
theorem dX2_load_14 : decode cX2_load 14 = .ok (.invokevirtual 71, 3) := by decide +kernel
theorem dX2_load_17 : decode cX2_load 17 = .ok (.astore 4, 2) := by decide +kernel
theorem dX2_load_19 : decode cX2_load 19 = .ok (.iload_n 2, 1) := by decide +kernel
theorem dX2_load_20 : decode cX2_load 20 = .ok (.invokestatic 78, 3) := by decide +kernel
theorem dX2_load_23 : decode cX2_load 23 = .ok (.istore 5, 2) := by decide +kernel
theorem dX2_load_25 : decode cX2_load 25 = .ok (.aload_n 3, 1) := by decide +kernel
theorem dX2_load_26 : decode cX2_load 26 = .ok (.getfield 31, 3) := by decide +kernel
theorem dX2_load_29 : decode cX2_load 29 = .ok (.iload_n 2, 1) := by decide +kernel
theorem dX2_load_30 : decode cX2_load 30 = .ok (.invokestatic 143, 3) := by decide +kernel
theorem dX2_load_33 : decode cX2_load 33 = .ok (.iadd, 1) := by decide +kernel
theorem dX2_load_34 : decode cX2_load 34 = .ok (.istore 6, 2) := by decide +kernel
theorem dX2_load_36 : decode cX2_load 36 = .ok (.aload_n 3, 1) := by decide +kernel
theorem dX2_load_37 : decode cX2_load 37 = .ok (.iconst 1, 1) := by decide +kernel
theorem dX2_load_38 : decode cX2_load 38 = .ok (.iload 6, 2) := by decide +kernel
theorem dX2_load_40 : decode cX2_load 40 = .ok (.iload 5, 2) := by decide +kernel
theorem dX2_load_42 : decode cX2_load 42 = .ok (.invokestatic 158, 3) := by decide +kernel
theorem dX2_load_45 : decode cX2_load 45 = .ok (.invokevirtual 36, 3) := by decide +kernel
theorem dX2_load_48 : decode cX2_load 48 = .ok (.istore 7, 2) := by decide +kernel
theorem dX2_load_50 : decode cX2_load 50 = .ok (.iload 7, 2) := by decide +kernel
theorem dX2_load_52 : decode cX2_load 52 = .ok (.ifCond .eq 6, 3) := by decide +kernel
theorem dX2_load_55 : decode cX2_load 55 = .ok (.iload 7, 2) := by decide +kernel
theorem dX2_load_57 : decode cX2_load 57 = .ok (.ireturn, 1) := by decide +kernel
theorem dX2_load_58 : decode cX2_load 58 = .ok (.iload 6, 2) := by decide +kernel
theorem dX2_load_60 : decode cX2_load 60 = .ok (.invokestatic 161, 3) := by decide +kernel
theorem dX2_load_63 : decode cX2_load 63 = .ok (.ifCond .eq 26, 3) := by decide +kernel
theorem dX2_load_66 : decode cX2_load 66 = .ok (.iload 5, 2) := by decide +kernel
theorem dX2_load_68 : decode cX2_load 68 = .ok (.iconst 2, 1) := by decide +kernel
theorem dX2_load_69 : decode cX2_load 69 = .ok (.if_icmp .eq 5, 3) := by decide +kernel
theorem dX2_load_72 : decode cX2_load 72 = .ok (.iconst 5, 1) := by decide +kernel
theorem dX2_load_73 : decode cX2_load 73 = .ok (.ireturn, 1) := by decide +kernel
theorem dX2_load_74 : decode cX2_load 74 = .ok (.aload 4, 2) := by decide +kernel
theorem dX2_load_76 : decode cX2_load 76 = .ok (.aload_n 0, 1) := by decide +kernel
theorem dX2_load_77 : decode cX2_load 77 = .ok (.aload_n 1, 1) := by decide +kernel
theorem dX2_load_78 : decode cX2_load 78 = .ok (.iload 6, 2) := by decide +kernel
theorem dX2_load_80 : decode cX2_load 80 = .ok (.invokevirtual 164, 3) := by decide +kernel
theorem dX2_load_83 : decode cX2_load 83 = .ok (.invokevirtual 94, 3) := by decide +kernel
theorem dX2_load_86 : decode cX2_load 86 = .ok (.goto 53, 3) := by decide +kernel
theorem dX2_load_89 : decode cX2_load 89 = .ok (.iload 5, 2) := by decide +kernel
theorem dX2_load_91 : decode cX2_load 91 = .ok (.iconst 3, 1) := by decide +kernel
theorem dX2_load_92 : decode cX2_load 92 = .ok (.if_icmp .ne 23, 3) := by decide +kernel
theorem dX2_load_95 : decode cX2_load 95 = .ok (.aload_n 0, 1) := by decide +kernel
theorem dX2_load_96 : decode cX2_load 96 = .ok (.getfield 40, 3) := by decide +kernel
theorem dX2_load_99 : decode cX2_load 99 = .ok (.iload 6, 2) := by decide +kernel
theorem dX2_load_101 : decode cX2_load 101 = .ok (.aload 4, 2) := by decide +kernel
theorem dX2_load_103 : decode cX2_load 103 = .ok (.aload_n 3, 1) := by decide +kernel
theorem dX2_load_104 : decode cX2_load 104 = .ok (.bipush 8, 2) := by decide +kernel
theorem dX2_load_106 : decode cX2_load 106 = .ok (.invokevirtual 167, 3) := by decide +kernel
theorem dX2_load_109 : decode cX2_load 109 = .ok (.invokevirtual 170, 3) := by decide +kernel
theorem dX2_load_112 : decode cX2_load 112 = .ok (.goto 27, 3) := by decide +kernel
theorem dX2_load_115 : decode cX2_load 115 = .ok (.aload 4, 2) := by decide +kernel
theorem dX2_load_117 : decode cX2_load 117 = .ok (.iload 5, 2) := by decide +kernel
theorem dX2_load_119 : decode cX2_load 119 = .ok (.aload_n 0, 1) := by decide +kernel
theorem dX2_load_120 : decode cX2_load 120 = .ok (.getfield 40, 3) := by decide +kernel
theorem dX2_load_123 : decode cX2_load 123 = .ok (.iload 6, 2) := by decide +kernel
theorem dX2_load_125 : decode cX2_load 125 = .ok (.iload 5, 2) := by decide +kernel
theorem dX2_load_127 : decode cX2_load 127 = .ok (.invokestatic 158, 3) := by decide +kernel
theorem dX2_load_130 : decode cX2_load 130 = .ok (.invokevirtual 44, 3) := by decide +kernel
theorem dX2_load_133 : decode cX2_load 133 = .ok (.invokestatic 174, 3) := by decide +kernel
theorem dX2_load_136 : decode cX2_load 136 = .ok (.invokevirtual 94, 3) := by decide +kernel
theorem dX2_load_139 : decode cX2_load 139 = .ok (.iconst 0, 1) := by decide +kernel
theorem dX2_load_140 : decode cX2_load 140 = .ok (.ireturn, 1) := by decide +kernel
theorem dX2_withSign_0 : decode cX2_withSign 0 = .ok (.iload_n 0, 1) := by decide +kernel
theorem dX2_withSign_1 : decode cX2_withSign 1 = .ok (.lookupswitch 33 #[(0, 27), (1, 30)], 27) := by decide +kernel
theorem dX2_withSign_28 : decode cX2_withSign 28 = .ok (.iload_n 1, 1) := by decide +kernel
theorem dX2_withSign_29 : decode cX2_withSign 29 = .ok (.i2b, 1) := by decide +kernel
theorem dX2_withSign_30 : decode cX2_withSign 30 = .ok (.ireturn, 1) := by decide +kernel
theorem dX2_withSign_31 : decode cX2_withSign 31 = .ok (.iload_n 1, 1) := by decide +kernel
theorem dX2_withSign_32 : decode cX2_withSign 32 = .ok (.i2s, 1) := by decide +kernel
theorem dX2_withSign_33 : decode cX2_withSign 33 = .ok (.ireturn, 1) := by decide +kernel
theorem dX2_withSign_34 : decode cX2_withSign 34 = .ok (.iload_n 1, 1) := by decide +kernel
theorem dX2_withSign_35 : decode cX2_withSign 35 = .ok (.ireturn, 1) := by decide +kernel
theorem dX2_write_0 : decode cX2_write 0 = .ok (.aload_n 1, 1) := by decide +kernel
theorem dX2_write_1 : decode cX2_write 1 = .ok (.iload_n 2, 1) := by decide +kernel
theorem dX2_write_2 : decode cX2_write 2 = .ok (.invokestatic 84, 3) := by decide +kernel
theorem dX2_write_5 : decode cX2_write 5 = .ok (.invokevirtual 71, 3) := by decide +kernel
theorem dX2_write_8 : decode cX2_write 8 = .ok (.astore_n 3, 1) := by decide +kernel
theorem dX2_write_9 : decode cX2_write 9 = .ok (.aload_n 1, 1) := by decide +kernel
theorem dX2_write_10 : decode cX2_write 10 = .ok (.iload_n 2, 1) := by decide +kernel
theorem dX2_write_11 : decode cX2_write 11 = .ok (.invokestatic 87, 3) := by decide +kernel
theorem dX2_write_14 : decode cX2_write 14 = .ok (.invokevirtual 71, 3) := by decide +kernel
theorem dX2_write_17 : decode cX2_write 17 = .ok (.astore 4, 2) := by decide +kernel
theorem dX2_write_19 : decode cX2_write 19 = .ok (.iload_n 2, 1) := by decide +kernel
theorem dX2_write_20 : decode cX2_write 20 = .ok (.invokestatic 78, 3) := by decide +kernel
theorem dX2_write_23 : decode cX2_write 23 = .ok (.istore 5, 2) := by decide +kernel
theorem dX2_write_25 : decode cX2_write 25 = .ok (.aload_n 3, 1) := by decide +kernel
theorem dX2_write_26 : decode cX2_write 26 = .ok (.getfield 31, 3) := by decide +kernel
theorem dX2_write_29 : decode cX2_write 29 = .ok (.iload_n 2, 1) := by decide +kernel
theorem dX2_write_30 : decode cX2_write 30 = .ok (.invokestatic 177, 3) := by decide +kernel
theorem dX2_write_33 : decode cX2_write 33 = .ok (.iadd, 1) := by decide +kernel
theorem dX2_write_34 : decode cX2_write 34 = .ok (.istore 6, 2) := by decide +kernel
theorem dX2_write_36 : decode cX2_write 36 = .ok (.aload_n 3, 1) := by decide +kernel
theorem dX2_write_37 : decode cX2_write 37 = .ok (.iconst 2, 1) := by decide +kernel
theorem dX2_write_38 : decode cX2_write 38 = .ok (.iload 6, 2) := by decide +kernel
theorem dX2_write_40 : decode cX2_write 40 = .ok (.iload 5, 2) := by decide +kernel
theorem dX2_write_42 : decode cX2_write 42 = .ok (.invokestatic 158, 3) := by decide +kernel
theorem dX2_write_45 : decode cX2_write 45 = .ok (.invokevirtual 36, 3) := by decide +kernel
theorem dX2_write_48 : decode cX2_write 48 = .ok (.istore 7, 2) := by decide +kernel
theorem dX2_write_50 : decode cX2_write 50 = .ok (.iload 7, 2) := by decide +kernel
theorem dX2_write_52 : decode cX2_write 52 = .ok (.ifCond .eq 6, 3) := by decide +kernel
theorem dX2_write_55 : decode cX2_write 55 = .ok (.iload 7, 2) := by decide +kernel
theorem dX2_write_57 : decode cX2_write 57 = .ok (.ireturn, 1) := by decide +kernel
theorem dX2_write_58 : decode cX2_write 58 = .ok (.iload 6, 2) := by decide +kernel
theorem dX2_write_60 : decode cX2_write 60 = .ok (.invokestatic 161, 3) := by decide +kernel
theorem dX2_write_63 : decode cX2_write 63 = .ok (.ifCond .eq 25, 3) := by decide +kernel
theorem dX2_write_66 : decode cX2_write 66 = .ok (.iload 5, 2) := by decide +kernel
theorem dX2_write_68 : decode cX2_write 68 = .ok (.iconst 2, 1) := by decide +kernel
theorem dX2_write_69 : decode cX2_write 69 = .ok (.if_icmp .eq 5, 3) := by decide +kernel
theorem dX2_write_72 : decode cX2_write 72 = .ok (.iconst 5, 1) := by decide +kernel
theorem dX2_write_73 : decode cX2_write 73 = .ok (.ireturn, 1) := by decide +kernel
theorem dX2_write_74 : decode cX2_write 74 = .ok (.aload_n 0, 1) := by decide +kernel
theorem dX2_write_75 : decode cX2_write 75 = .ok (.iload 6, 2) := by decide +kernel
theorem dX2_write_77 : decode cX2_write 77 = .ok (.aload 4, 2) := by decide +kernel
theorem dX2_write_79 : decode cX2_write 79 = .ok (.getfield 31, 3) := by decide +kernel
theorem dX2_write_82 : decode cX2_write 82 = .ok (.invokevirtual 180, 3) := by decide +kernel
theorem dX2_write_85 : decode cX2_write 85 = .ok (.goto 96, 3) := by decide +kernel
theorem dX2_write_88 : decode cX2_write 88 = .ok (.iload 5, 2) := by decide +kernel
theorem dX2_write_90 : decode cX2_write 90 = .ok (.iconst 3, 1) := by decide +kernel
theorem dX2_write_91 : decode cX2_write 91 = .ok (.if_icmp .ne 71, 3) := by decide +kernel
theorem dX2_write_94 : decode cX2_write 94 = .ok (.aload_n 3, 1) := by decide +kernel
theorem dX2_write_95 : decode cX2_write 95 = .ok (.bipush 16, 2) := by decide +kernel
theorem dX2_write_97 : decode cX2_write 97 = .ok (.invokevirtual 167, 3) := by decide +kernel
theorem dX2_write_100 : decode cX2_write 100 = .ok (.ifCond .eq 27, 3) := by decide +kernel
theorem dX2_write_103 : decode cX2_write 103 = .ok (.aload 4, 2) := by decide +kernel
theorem dX2_write_105 : decode cX2_write 105 = .ok (.bipush 64, 2) := by decide +kernel
theorem dX2_write_107 : decode cX2_write 107 = .ok (.invokevirtual 167, 3) := by decide +kernel
theorem dX2_write_110 : decode cX2_write 110 = .ok (.ifCond .ne 13, 3) := by decide +kernel
theorem dX2_write_113 : decode cX2_write 113 = .ok (.aload_n 3, 1) := by decide +kernel
theorem dX2_write_114 : decode cX2_write 114 = .ok (.sipush 128, 3) := by decide +kernel
theorem dX2_write_117 : decode cX2_write 117 = .ok (.invokevirtual 167, 3) := by decide +kernel
theorem dX2_write_120 : decode cX2_write 120 = .ok (.ifCond .eq 7, 3) := by decide +kernel
theorem dX2_write_123 : decode cX2_write 123 = .ok (.iconst 1, 1) := by decide +kernel
theorem dX2_write_124 : decode cX2_write 124 = .ok (.goto 4, 3) := by decide +kernel
theorem dX2_write_127 : decode cX2_write 127 = .ok (.iconst 0, 1) := by decide +kernel
theorem dX2_write_128 : decode cX2_write 128 = .ok (.istore 8, 2) := by decide +kernel
theorem dX2_write_130 : decode cX2_write 130 = .ok (.aload_n 0, 1) := by decide +kernel
theorem dX2_write_131 : decode cX2_write 131 = .ok (.getfield 40, 3) := by decide +kernel
theorem dX2_write_134 : decode cX2_write 134 = .ok (.iload 6, 2) := by decide +kernel
theorem dX2_write_136 : decode cX2_write 136 = .ok (.aload 4, 2) := by decide +kernel
theorem dX2_write_138 : decode cX2_write 138 = .ok (.aload 4, 2) := by decide +kernel
theorem dX2_write_140 : decode cX2_write 140 = .ok (.getfield 184, 3) := by decide +kernel
theorem dX2_write_143 : decode cX2_write 143 = .ok (.ifCond .eq 12, 3) := by decide +kernel
theorem dX2_write_146 : decode cX2_write 146 = .ok (.iload 8, 2) := by decide +kernel
theorem dX2_write_148 : decode cX2_write 148 = .ok (.ifCond .eq 7, 3) := by decide +kernel
theorem dX2_write_151 : decode cX2_write 151 = .ok (.iconst 1, 1) := by decide +kernel
theorem dX2_write_152 : decode cX2_write 152 = .ok (.goto 4, 3) := by decide +kernel
theorem dX2_write_155 : decode cX2_write 155 = .ok (.iconst 0, 1) := by decide +kernel
theorem dX2_write_156 : decode cX2_write 156 = .ok (.invokevirtual 187, 3) := by decide +kernel
theorem dX2_write_159 : decode cX2_write 159 = .ok (.goto 22, 3) := by decide +kernel
theorem dX2_write_162 : decode cX2_write 162 = .ok (.aload_n 0, 1) := by decide +kernel
theorem dX2_write_163 : decode cX2_write 163 = .ok (.getfield 40, 3) := by decide +kernel
theorem dX2_write_166 : decode cX2_write 166 = .ok (.iload 6, 2) := by decide +kernel
theorem dX2_write_168 : decode cX2_write 168 = .ok (.iload 5, 2) := by decide +kernel
theorem dX2_write_170 : decode cX2_write 170 = .ok (.invokestatic 158, 3) := by decide +kernel
theorem dX2_write_173 : decode cX2_write 173 = .ok (.aload 4, 2) := by decide +kernel
theorem dX2_write_175 : decode cX2_write 175 = .ok (.getfield 31, 3) := by decide +kernel
theorem dX2_write_178 : decode cX2_write 178 = .ok (.invokevirtual 190, 3) := by decide +kernel
theorem dX2_write_181 : decode cX2_write 181 = .ok (.iconst 0, 1) := by decide +kernel
theorem dX2_write_182 : decode cX2_write 182 = .ok (.ireturn, 1) := by decide +kernel
theorem dX2_capability_0 : decode cX2_capability 0 = .ok (.aload_n 1, 1) := by decide +kernel
theorem dX2_capability_1 : decode cX2_capability 1 = .ok (.iload_n 2, 1) := by decide +kernel
theorem dX2_capability_2 : decode cX2_capability 2 = .ok (.invokestatic 84, 3) := by decide +kernel
theorem dX2_capability_5 : decode cX2_capability 5 = .ok (.invokevirtual 71, 3) := by decide +kernel
theorem dX2_capability_8 : decode cX2_capability 8 = .ok (.astore_n 3, 1) := by decide +kernel
theorem dX2_capability_9 : decode cX2_capability 9 = .ok (.aload_n 0, 1) := by decide +kernel
theorem dX2_capability_10 : decode cX2_capability 10 = .ok (.getfield 193, 3) := by decide +kernel
theorem dX2_capability_13 : decode cX2_capability 13 = .ok (.astore 4, 2) := by decide +kernel
theorem dX2_capability_15 : decode cX2_capability 15 = .ok (.aload 4, 2) := by decide +kernel
theorem dX2_capability_17 : decode cX2_capability 17 = .ok (.aload_n 3, 1) := by decide +kernel
theorem dX2_capability_18 : decode cX2_capability 18 = .ok (.invokevirtual 98, 3) := by decide +kernel
theorem dX2_capability_21 : decode cX2_capability 21 = .ok (.iload_n 2, 1) := by decide +kernel
theorem dX2_capability_22 : decode cX2_capability 22 = .ok (.invokestatic 78, 3) := by decide +kernel
theorem dX2_capability_25 : decode cX2_capability 25 = .ok (.tableswitch 80 0 2 #[27, 47, 63], 27) := by decide +kernel
theorem dX2_capability_52 : decode cX2_capability 52 = .ok (.aload 4, 2) := by decide +kernel
theorem dX2_capability_54 : decode cX2_capability 54 = .ok (.aload_n 1, 1) := by decide +kernel
theorem dX2_capability_55 : decode cX2_capability 55 = .ok (.iload_n 2, 1) := by decide +kernel
theorem dX2_capability_56 : decode cX2_capability 56 = .ok (.invokestatic 87, 3) := by decide +kernel
theorem dX2_capability_59 : decode cX2_capability 59 = .ok (.invokevirtual 71, 3) := by decide +kernel
theorem dX2_capability_62 : decode cX2_capability 62 = .ok (.iload_n 2, 1) := by decide +kernel
theorem dX2_capability_63 : decode cX2_capability 63 = .ok (.invokestatic 81, 3) := by decide +kernel
theorem dX2_capability_66 : decode cX2_capability 66 = .ok (.invokestatic 196, 3) := by decide +kernel
theorem dX2_capability_69 : decode cX2_capability 69 = .ok (.goto 46, 3) := by decide +kernel
theorem dX2_capability_72 : decode cX2_capability 72 = .ok (.aload 4, 2) := by decide +kernel
theorem dX2_capability_74 : decode cX2_capability 74 = .ok (.iload_n 2, 1) := by decide +kernel
theorem dX2_capability_75 : decode cX2_capability 75 = .ok (.invokestatic 87, 3) := by decide +kernel
theorem dX2_capability_78 : decode cX2_capability 78 = .ok (.aload_n 1, 1) := by decide +kernel
theorem dX2_capability_79 : decode cX2_capability 79 = .ok (.getfield 132, 3) := by decide +kernel
theorem dX2_capability_82 : decode cX2_capability 82 = .ok (.invokestatic 200, 3) := by decide +kernel
theorem dX2_capability_85 : decode cX2_capability 85 = .ok (.goto 30, 3) := by decide +kernel
theorem dX2_capability_88 : decode cX2_capability 88 = .ok (.aload 4, 2) := by decide +kernel
theorem dX2_capability_90 : decode cX2_capability 90 = .ok (.aload_n 3, 1) := by decide +kernel
theorem dX2_capability_91 : decode cX2_capability 91 = .ok (.getfield 31, 3) := by decide +kernel
theorem dX2_capability_94 : decode cX2_capability 94 = .ok (.iload_n 2, 1) := by decide +kernel
theorem dX2_capability_95 : decode cX2_capability 95 = .ok (.invokestatic 143, 3) := by decide +kernel
theorem dX2_capability_98 : decode cX2_capability 98 = .ok (.iadd, 1) := by decide +kernel
theorem dX2_capability_99 : decode cX2_capability 99 = .ok (.invokevirtual 204, 3) := by decide +kernel
theorem dX2_capability_102 : decode cX2_capability 102 = .ok (.goto 13, 3) := by decide +kernel
theorem dX2_capability_105 : decode cX2_capability 105 = .ok (.aload 4, 2) := by decide +kernel
theorem dX2_capability_107 : decode cX2_capability 107 = .ok (.iload_n 2, 1) := by decide +kernel
theorem dX2_capability_108 : decode cX2_capability 108 = .ok (.bipush 20, 2) := by decide +kernel
theorem dX2_capability_110 : decode cX2_capability 110 = .ok (.iushr, 1) := by decide +kernel
theorem dX2_capability_111 : decode cX2_capability 111 = .ok (.i2l, 1) := by decide +kernel
theorem dX2_capability_112 : decode cX2_capability 112 = .ok (.invokevirtual 207, 3) := by decide +kernel
theorem dX2_capability_115 : decode cX2_capability 115 = .ok (.aload_n 1, 1) := by decide +kernel
theorem dX2_capability_116 : decode cX2_capability 116 = .ok (.iload_n 2, 1) := by decide +kernel
theorem dX2_capability_117 : decode cX2_capability 117 = .ok (.invokestatic 9, 3) := by decide +kernel
theorem dX2_capability_120 : decode cX2_capability 120 = .ok (.invokevirtual 71, 3) := by decide +kernel
theorem dX2_capability_123 : decode cX2_capability 123 = .ok (.aload 4, 2) := by decide +kernel
theorem dX2_capability_125 : decode cX2_capability 125 = .ok (.invokevirtual 98, 3) := by decide +kernel
theorem dX2_capability_128 : decode cX2_capability 128 = .ok (.return_, 1) := by decide +kernel
theorem dX2_derive_0 : decode cX2_derive 0 = .ok (.iload_n 2, 1) := by decide +kernel
theorem dX2_derive_1 : decode cX2_derive 1 = .ok (.tableswitch 131 0 6 #[43, 59, 70, 84, 95, 103, 111], 43) := by decide +kernel
theorem dX2_derive_44 : decode cX2_derive 44 = .ok (.aload_n 0, 1) := by decide +kernel
theorem dX2_derive_45 : decode cX2_derive 45 = .ok (.aload_n 0, 1) := by decide +kernel
theorem dX2_derive_46 : decode cX2_derive 46 = .ok (.getfield 31, 3) := by decide +kernel
theorem dX2_derive_49 : decode cX2_derive 49 = .ok (.aload_n 1, 1) := by decide +kernel
theorem dX2_derive_50 : decode cX2_derive 50 = .ok (.getfield 31, 3) := by decide +kernel
theorem dX2_derive_53 : decode cX2_derive 53 = .ok (.iadd, 1) := by decide +kernel
theorem dX2_derive_54 : decode cX2_derive 54 = .ok (.invokevirtual 204, 3) := by decide +kernel
theorem dX2_derive_57 : decode cX2_derive 57 = .ok (.goto 92, 3) := by decide +kernel
theorem dX2_derive_60 : decode cX2_derive 60 = .ok (.aload_n 0, 1) := by decide +kernel
theorem dX2_derive_61 : decode cX2_derive 61 = .ok (.aload_n 1, 1) := by decide +kernel
theorem dX2_derive_62 : decode cX2_derive 62 = .ok (.getfield 31, 3) := by decide +kernel
theorem dX2_derive_65 : decode cX2_derive 65 = .ok (.invokevirtual 204, 3) := by decide +kernel
theorem dX2_derive_68 : decode cX2_derive 68 = .ok (.goto 81, 3) := by decide +kernel
theorem dX2_derive_71 : decode cX2_derive 71 = .ok (.aload_n 0, 1) := by decide +kernel
theorem dX2_derive_72 : decode cX2_derive 72 = .ok (.aload_n 1, 1) := by decide +kernel
theorem dX2_derive_73 : decode cX2_derive 73 = .ok (.getfield 31, 3) := by decide +kernel
theorem dX2_derive_76 : decode cX2_derive 76 = .ok (.invokestatic 139, 3) := by decide +kernel
theorem dX2_derive_79 : decode cX2_derive 79 = .ok (.invokevirtual 207, 3) := by decide +kernel
theorem dX2_derive_82 : decode cX2_derive 82 = .ok (.goto 67, 3) := by decide +kernel
theorem dX2_derive_85 : decode cX2_derive 85 = .ok (.aload_n 0, 1) := by decide +kernel
theorem dX2_derive_86 : decode cX2_derive 86 = .ok (.aload_n 1, 1) := by decide +kernel
theorem dX2_derive_87 : decode cX2_derive 87 = .ok (.getfield 31, 3) := by decide +kernel
theorem dX2_derive_90 : decode cX2_derive 90 = .ok (.invokevirtual 211, 3) := by decide +kernel
theorem dX2_derive_93 : decode cX2_derive 93 = .ok (.goto 56, 3) := by decide +kernel
theorem dX2_derive_96 : decode cX2_derive 96 = .ok (.aload_n 0, 1) := by decide +kernel
theorem dX2_derive_97 : decode cX2_derive 97 = .ok (.aload_n 1, 1) := by decide +kernel
theorem dX2_derive_98 : decode cX2_derive 98 = .ok (.invokevirtual 214, 3) := by decide +kernel
theorem dX2_derive_101 : decode cX2_derive 101 = .ok (.goto 48, 3) := by decide +kernel
theorem dX2_derive_104 : decode cX2_derive 104 = .ok (.aload_n 0, 1) := by decide +kernel
theorem dX2_derive_105 : decode cX2_derive 105 = .ok (.aload_n 1, 1) := by decide +kernel
theorem dX2_derive_106 : decode cX2_derive 106 = .ok (.invokevirtual 217, 3) := by decide +kernel
theorem dX2_derive_109 : decode cX2_derive 109 = .ok (.goto 40, 3) := by decide +kernel
theorem dX2_derive_112 : decode cX2_derive 112 = .ok (.aload_n 0, 1) := by decide +kernel
theorem dX2_derive_113 : decode cX2_derive 113 = .ok (.aload_n 1, 1) := by decide +kernel
theorem dX2_derive_114 : decode cX2_derive 114 = .ok (.aload_n 0, 1) := by decide +kernel
theorem dX2_derive_115 : decode cX2_derive 115 = .ok (.invokevirtual 220, 3) := by decide +kernel
theorem dX2_derive_118 : decode cX2_derive 118 = .ok (.ifCond .eq 7, 3) := by decide +kernel
theorem dX2_derive_121 : decode cX2_derive 121 = .ok (.iconst 1, 1) := by decide +kernel
theorem dX2_derive_122 : decode cX2_derive 122 = .ok (.goto 4, 3) := by decide +kernel
theorem dX2_derive_125 : decode cX2_derive 125 = .ok (.iconst 0, 1) := by decide +kernel
theorem dX2_derive_126 : decode cX2_derive 126 = .ok (.invokevirtual 94, 3) := by decide +kernel
theorem dX2_derive_129 : decode cX2_derive 129 = .ok (.goto 20, 3) := by decide +kernel
theorem dX2_derive_132 : decode cX2_derive 132 = .ok (.aload_n 0, 1) := by decide +kernel
theorem dX2_derive_133 : decode cX2_derive 133 = .ok (.aload_n 1, 1) := by decide +kernel
theorem dX2_derive_134 : decode cX2_derive 134 = .ok (.aload_n 0, 1) := by decide +kernel
theorem dX2_derive_135 : decode cX2_derive 135 = .ok (.invokevirtual 224, 3) := by decide +kernel
theorem dX2_derive_138 : decode cX2_derive 138 = .ok (.ifCond .eq 7, 3) := by decide +kernel
theorem dX2_derive_141 : decode cX2_derive 141 = .ok (.iconst 1, 1) := by decide +kernel
theorem dX2_derive_142 : decode cX2_derive 142 = .ok (.goto 4, 3) := by decide +kernel
theorem dX2_derive_145 : decode cX2_derive 145 = .ok (.iconst 0, 1) := by decide +kernel
theorem dX2_derive_146 : decode cX2_derive 146 = .ok (.invokevirtual 94, 3) := by decide +kernel
theorem dX2_derive_149 : decode cX2_derive 149 = .ok (.return_, 1) := by decide +kernel
theorem dX2_inspect_0 : decode cX2_inspect 0 = .ok (.iload_n 1, 1) := by decide +kernel
theorem dX2_inspect_1 : decode cX2_inspect 1 = .ok (.tableswitch 172 0 9 #[55, 66, 77, 88, 104, 123, 134, 145, 161, 164], 55) := by decide +kernel
theorem dX2_inspect_56 : decode cX2_inspect 56 = .ok (.aload_n 0, 1) := by decide +kernel
theorem dX2_inspect_57 : decode cX2_inspect 57 = .ok (.aload_n 0, 1) := by decide +kernel
theorem dX2_inspect_58 : decode cX2_inspect 58 = .ok (.getfield 227, 3) := by decide +kernel
theorem dX2_inspect_61 : decode cX2_inspect 61 = .ok (.invokevirtual 94, 3) := by decide +kernel
theorem dX2_inspect_64 : decode cX2_inspect 64 = .ok (.goto 117, 3) := by decide +kernel
theorem dX2_inspect_67 : decode cX2_inspect 67 = .ok (.aload_n 0, 1) := by decide +kernel
theorem dX2_inspect_68 : decode cX2_inspect 68 = .ok (.aload_n 0, 1) := by decide +kernel
theorem dX2_inspect_69 : decode cX2_inspect 69 = .ok (.getfield 136, 3) := by decide +kernel
theorem dX2_inspect_72 : decode cX2_inspect 72 = .ok (.invokevirtual 94, 3) := by decide +kernel
theorem dX2_inspect_75 : decode cX2_inspect 75 = .ok (.goto 106, 3) := by decide +kernel
theorem dX2_inspect_78 : decode cX2_inspect 78 = .ok (.aload_n 0, 1) := by decide +kernel
theorem dX2_inspect_79 : decode cX2_inspect 79 = .ok (.aload_n 0, 1) := by decide +kernel
theorem dX2_inspect_80 : decode cX2_inspect 80 = .ok (.getfield 230, 3) := by decide +kernel
theorem dX2_inspect_83 : decode cX2_inspect 83 = .ok (.invokevirtual 94, 3) := by decide +kernel
theorem dX2_inspect_86 : decode cX2_inspect 86 = .ok (.goto 95, 3) := by decide +kernel
theorem dX2_inspect_89 : decode cX2_inspect 89 = .ok (.aload_n 0, 1) := by decide +kernel
theorem dX2_inspect_90 : decode cX2_inspect 90 = .ok (.aload_n 0, 1) := by decide +kernel
theorem dX2_inspect_91 : decode cX2_inspect 91 = .ok (.getfield 233, 3) := by decide +kernel
theorem dX2_inspect_94 : decode cX2_inspect 94 = .ok (.aload_n 0, 1) := by decide +kernel
theorem dX2_inspect_95 : decode cX2_inspect 95 = .ok (.getfield 230, 3) := by decide +kernel
theorem dX2_inspect_98 : decode cX2_inspect 98 = .ok (.isub, 1) := by decide +kernel
theorem dX2_inspect_99 : decode cX2_inspect 99 = .ok (.invokevirtual 94, 3) := by decide +kernel
theorem dX2_inspect_102 : decode cX2_inspect 102 = .ok (.goto 79, 3) := by decide +kernel
theorem dX2_inspect_105 : decode cX2_inspect 105 = .ok (.aload_n 0, 1) := by decide +kernel
theorem dX2_inspect_106 : decode cX2_inspect 106 = .ok (.aload_n 0, 1) := by decide +kernel
theorem dX2_inspect_107 : decode cX2_inspect 107 = .ok (.getfield 184, 3) := by decide +kernel
theorem dX2_inspect_110 : decode cX2_inspect 110 = .ok (.ifCond .eq 7, 3) := by decide +kernel
theorem dX2_inspect_113 : decode cX2_inspect 113 = .ok (.iconst 1, 1) := by decide +kernel
theorem dX2_inspect_114 : decode cX2_inspect 114 = .ok (.goto 4, 3) := by decide +kernel
theorem dX2_inspect_117 : decode cX2_inspect 117 = .ok (.iconst 0, 1) := by decide +kernel
theorem dX2_inspect_118 : decode cX2_inspect 118 = .ok (.invokevirtual 94, 3) := by decide +kernel
theorem dX2_inspect_121 : decode cX2_inspect 121 = .ok (.goto 60, 3) := by decide +kernel
theorem dX2_inspect_124 : decode cX2_inspect 124 = .ok (.aload_n 0, 1) := by decide +kernel
theorem dX2_inspect_125 : decode cX2_inspect 125 = .ok (.aload_n 0, 1) := by decide +kernel
theorem dX2_inspect_126 : decode cX2_inspect 126 = .ok (.getfield 233, 3) := by decide +kernel
theorem dX2_inspect_129 : decode cX2_inspect 129 = .ok (.invokevirtual 94, 3) := by decide +kernel
theorem dX2_inspect_132 : decode cX2_inspect 132 = .ok (.goto 49, 3) := by decide +kernel
theorem dX2_inspect_135 : decode cX2_inspect 135 = .ok (.aload_n 0, 1) := by decide +kernel
theorem dX2_inspect_136 : decode cX2_inspect 136 = .ok (.aload_n 0, 1) := by decide +kernel
theorem dX2_inspect_137 : decode cX2_inspect 137 = .ok (.getfield 31, 3) := by decide +kernel
theorem dX2_inspect_140 : decode cX2_inspect 140 = .ok (.invokevirtual 94, 3) := by decide +kernel
theorem dX2_inspect_143 : decode cX2_inspect 143 = .ok (.goto 38, 3) := by decide +kernel
theorem dX2_inspect_146 : decode cX2_inspect 146 = .ok (.aload_n 0, 1) := by decide +kernel
theorem dX2_inspect_147 : decode cX2_inspect 147 = .ok (.iload_n 2, 1) := by decide +kernel
theorem dX2_inspect_148 : decode cX2_inspect 148 = .ok (.ifCond .eq 7, 3) := by decide +kernel
theorem dX2_inspect_151 : decode cX2_inspect 151 = .ok (.iconst 1, 1) := by decide +kernel
theorem dX2_inspect_152 : decode cX2_inspect 152 = .ok (.goto 4, 3) := by decide +kernel
theorem dX2_inspect_155 : decode cX2_inspect 155 = .ok (.iconst 0, 1) := by decide +kernel
theorem dX2_inspect_156 : decode cX2_inspect 156 = .ok (.invokevirtual 94, 3) := by decide +kernel
theorem dX2_inspect_159 : decode cX2_inspect 159 = .ok (.goto 22, 3) := by decide +kernel
theorem dX2_inspect_162 : decode cX2_inspect 162 = .ok (.goto 19, 3) := by decide +kernel
theorem dX2_inspect_165 : decode cX2_inspect 165 = .ok (.aload_n 0, 1) := by decide +kernel
theorem dX2_inspect_166 : decode cX2_inspect 166 = .ok (.iconst 0, 1) := by decide +kernel
theorem dX2_inspect_167 : decode cX2_inspect 167 = .ok (.putfield 184, 3) := by decide +kernel
theorem dX2_inspect_170 : decode cX2_inspect 170 = .ok (.goto 11, 3) := by decide +kernel
theorem dX2_inspect_173 : decode cX2_inspect 173 = .ok (.aload_n 0, 1) := by decide +kernel
theorem dX2_inspect_174 : decode cX2_inspect 174 = .ok (.iload_n 1, 1) := by decide +kernel
theorem dX2_inspect_175 : decode cX2_inspect 175 = .ok (.bipush 9, 2) := by decide +kernel
theorem dX2_inspect_177 : decode cX2_inspect 177 = .ok (.isub, 1) := by decide +kernel
theorem dX2_inspect_178 : decode cX2_inspect 178 = .ok (.invokevirtual 236, 3) := by decide +kernel
theorem dX2_inspect_181 : decode cX2_inspect 181 = .ok (.return_, 1) := by decide +kernel
theorem dX2_jumpFault_0 : decode cX2_jumpFault 0 = .ok (.aload_n 0, 1) := by decide +kernel
theorem dX2_jumpFault_1 : decode cX2_jumpFault 1 = .ok (.getfield 184, 3) := by decide +kernel
theorem dX2_jumpFault_4 : decode cX2_jumpFault 4 = .ok (.ifCond .ne 5, 3) := by decide +kernel
theorem dX2_jumpFault_7 : decode cX2_jumpFault 7 = .ok (.iconst 1, 1) := by decide +kernel
theorem dX2_jumpFault_8 : decode cX2_jumpFault 8 = .ok (.ireturn, 1) := by decide +kernel
theorem dX2_jumpFault_9 : decode cX2_jumpFault 9 = .ok (.aload_n 0, 1) := by decide +kernel
theorem dX2_jumpFault_10 : decode cX2_jumpFault 10 = .ok (.getfield 136, 3) := by decide +kernel
theorem dX2_jumpFault_13 : decode cX2_jumpFault 13 = .ok (.ifCond .ne 17, 3) := by decide +kernel
theorem dX2_jumpFault_16 : decode cX2_jumpFault 16 = .ok (.aload_n 0, 1) := by decide +kernel
theorem dX2_jumpFault_17 : decode cX2_jumpFault 17 = .ok (.iconst 4, 1) := by decide +kernel
theorem dX2_jumpFault_18 : decode cX2_jumpFault 18 = .ok (.invokevirtual 167, 3) := by decide +kernel
theorem dX2_jumpFault_21 : decode cX2_jumpFault 21 = .ok (.ifCond .eq 7, 3) := by decide +kernel
theorem dX2_jumpFault_24 : decode cX2_jumpFault 24 = .ok (.iconst 0, 1) := by decide +kernel
theorem dX2_jumpFault_25 : decode cX2_jumpFault 25 = .ok (.goto 4, 3) := by decide +kernel
theorem dX2_jumpFault_28 : decode cX2_jumpFault 28 = .ok (.iconst 3, 1) := by decide +kernel
theorem dX2_jumpFault_29 : decode cX2_jumpFault 29 = .ok (.ireturn, 1) := by decide +kernel
theorem dX2_jumpFault_30 : decode cX2_jumpFault 30 = .ok (.iload_n 1, 1) := by decide +kernel
theorem dX2_jumpFault_31 : decode cX2_jumpFault 31 = .ok (.ifCond .ne 16, 3) := by decide +kernel
theorem dX2_jumpFault_34 : decode cX2_jumpFault 34 = .ok (.aload_n 0, 1) := by decide +kernel
theorem dX2_jumpFault_35 : decode cX2_jumpFault 35 = .ok (.getfield 136, 3) := by decide +kernel
theorem dX2_jumpFault_38 : decode cX2_jumpFault 38 = .ok (.bipush 6, 2) := by decide +kernel
theorem dX2_jumpFault_40 : decode cX2_jumpFault 40 = .ok (.if_icmp .gt 7, 3) := by decide +kernel
theorem dX2_jumpFault_43 : decode cX2_jumpFault 43 = .ok (.iconst 0, 1) := by decide +kernel
theorem dX2_jumpFault_44 : decode cX2_jumpFault 44 = .ok (.goto 4, 3) := by decide +kernel
theorem dX2_jumpFault_47 : decode cX2_jumpFault 47 = .ok (.iconst 2, 1) := by decide +kernel
theorem dX2_jumpFault_48 : decode cX2_jumpFault 48 = .ok (.ireturn, 1) := by decide +kernel
theorem dX2_jumpTo_0 : decode cX2_jumpTo 0 = .ok (.aload_n 0, 1) := by decide +kernel
theorem dX2_jumpTo_1 : decode cX2_jumpTo 1 = .ok (.getfield 193, 3) := by decide +kernel
theorem dX2_jumpTo_4 : decode cX2_jumpTo 4 = .ok (.astore_n 3, 1) := by decide +kernel
theorem dX2_jumpTo_5 : decode cX2_jumpTo 5 = .ok (.aload_n 3, 1) := by decide +kernel
theorem dX2_jumpTo_6 : decode cX2_jumpTo 6 = .ok (.aload_n 1, 1) := by decide +kernel
theorem dX2_jumpTo_7 : decode cX2_jumpTo 7 = .ok (.iload_n 2, 1) := by decide +kernel
theorem dX2_jumpTo_8 : decode cX2_jumpTo 8 = .ok (.invokestatic 84, 3) := by decide +kernel
theorem dX2_jumpTo_11 : decode cX2_jumpTo 11 = .ok (.invokevirtual 71, 3) := by decide +kernel
theorem dX2_jumpTo_14 : decode cX2_jumpTo 14 = .ok (.invokevirtual 98, 3) := by decide +kernel
theorem dX2_jumpTo_17 : decode cX2_jumpTo 17 = .ok (.iload_n 2, 1) := by decide +kernel
theorem dX2_jumpTo_18 : decode cX2_jumpTo 18 = .ok (.invokestatic 143, 3) := by decide +kernel
theorem dX2_jumpTo_21 : decode cX2_jumpTo 21 = .ok (.istore 4, 2) := by decide +kernel
theorem dX2_jumpTo_23 : decode cX2_jumpTo 23 = .ok (.aload_n 3, 1) := by decide +kernel
theorem dX2_jumpTo_24 : decode cX2_jumpTo 24 = .ok (.iload 4, 2) := by decide +kernel
theorem dX2_jumpTo_26 : decode cX2_jumpTo 26 = .ok (.invokestatic 239, 3) := by decide +kernel
theorem dX2_jumpTo_29 : decode cX2_jumpTo 29 = .ok (.istore 5, 2) := by decide +kernel
theorem dX2_jumpTo_31 : decode cX2_jumpTo 31 = .ok (.iload 5, 2) := by decide +kernel
theorem dX2_jumpTo_33 : decode cX2_jumpTo 33 = .ok (.ifCond .eq 6, 3) := by decide +kernel
theorem dX2_jumpTo_36 : decode cX2_jumpTo 36 = .ok (.iload 5, 2) := by decide +kernel
theorem dX2_jumpTo_38 : decode cX2_jumpTo 38 = .ok (.ireturn, 1) := by decide +kernel
theorem dX2_jumpTo_39 : decode cX2_jumpTo 39 = .ok (.aload_n 1, 1) := by decide +kernel
theorem dX2_jumpTo_40 : decode cX2_jumpTo 40 = .ok (.aload_n 1, 1) := by decide +kernel
theorem dX2_jumpTo_41 : decode cX2_jumpTo 41 = .ok (.iload_n 2, 1) := by decide +kernel
theorem dX2_jumpTo_42 : decode cX2_jumpTo 42 = .ok (.invokestatic 9, 3) := by decide +kernel
theorem dX2_jumpTo_45 : decode cX2_jumpTo 45 = .ok (.invokevirtual 71, 3) := by decide +kernel
theorem dX2_jumpTo_48 : decode cX2_jumpTo 48 = .ok (.invokestatic 102, 3) := by decide +kernel
theorem dX2_jumpTo_51 : decode cX2_jumpTo 51 = .ok (.aload_n 1, 1) := by decide +kernel
theorem dX2_jumpTo_52 : decode cX2_jumpTo 52 = .ok (.getfield 25, 3) := by decide +kernel
theorem dX2_jumpTo_55 : decode cX2_jumpTo 55 = .ok (.dup, 1) := by decide +kernel
theorem dX2_jumpTo_56 : decode cX2_jumpTo 56 = .ok (.getfield 31, 3) := by decide +kernel
theorem dX2_jumpTo_59 : decode cX2_jumpTo 59 = .ok (.iconst 4, 1) := by decide +kernel
theorem dX2_jumpTo_60 : decode cX2_jumpTo 60 = .ok (.iadd, 1) := by decide +kernel
theorem dX2_jumpTo_61 : decode cX2_jumpTo 61 = .ok (.putfield 31, 3) := by decide +kernel
theorem dX2_jumpTo_64 : decode cX2_jumpTo 64 = .ok (.aload_n 3, 1) := by decide +kernel
theorem dX2_jumpTo_65 : decode cX2_jumpTo 65 = .ok (.getfield 136, 3) := by decide +kernel
theorem dX2_jumpTo_68 : decode cX2_jumpTo 68 = .ok (.tableswitch 61 4 6 #[28, 38, 49], 28) := by decide +kernel
theorem dX2_jumpTo_96 : decode cX2_jumpTo 96 = .ok (.aload_n 0, 1) := by decide +kernel
theorem dX2_jumpTo_97 : decode cX2_jumpTo 97 = .ok (.aload_n 1, 1) := by decide +kernel
theorem dX2_jumpTo_98 : decode cX2_jumpTo 98 = .ok (.aload_n 3, 1) := by decide +kernel
theorem dX2_jumpTo_99 : decode cX2_jumpTo 99 = .ok (.getfield 31, 3) := by decide +kernel
theorem dX2_jumpTo_102 : decode cX2_jumpTo 102 = .ok (.invokestatic 243, 3) := by decide +kernel
theorem dX2_jumpTo_105 : decode cX2_jumpTo 105 = .ok (.ireturn, 1) := by decide +kernel
theorem dX2_jumpTo_106 : decode cX2_jumpTo 106 = .ok (.aload_n 1, 1) := by decide +kernel
theorem dX2_jumpTo_107 : decode cX2_jumpTo 107 = .ok (.aload_n 0, 1) := by decide +kernel
theorem dX2_jumpTo_108 : decode cX2_jumpTo 108 = .ok (.getfield 40, 3) := by decide +kernel
theorem dX2_jumpTo_111 : decode cX2_jumpTo 111 = .ok (.invokevirtual 246, 3) := by decide +kernel
theorem dX2_jumpTo_114 : decode cX2_jumpTo 114 = .ok (.goto 22, 3) := by decide +kernel
theorem dX2_jumpTo_117 : decode cX2_jumpTo 117 = .ok (.aload_n 0, 1) := by decide +kernel
theorem dX2_jumpTo_118 : decode cX2_jumpTo 118 = .ok (.aload_n 1, 1) := by decide +kernel
theorem dX2_jumpTo_119 : decode cX2_jumpTo 119 = .ok (.aload_n 3, 1) := by decide +kernel
theorem dX2_jumpTo_120 : decode cX2_jumpTo 120 = .ok (.getfield 31, 3) := by decide +kernel
theorem dX2_jumpTo_123 : decode cX2_jumpTo 123 = .ok (.invokestatic 250, 3) := by decide +kernel
theorem dX2_jumpTo_126 : decode cX2_jumpTo 126 = .ok (.goto 10, 3) := by decide +kernel
theorem dX2_jumpTo_129 : decode cX2_jumpTo 129 = .ok (.aload_n 1, 1) := by decide +kernel
theorem dX2_jumpTo_130 : decode cX2_jumpTo 130 = .ok (.aload_n 3, 1) := by decide +kernel
theorem dX2_jumpTo_131 : decode cX2_jumpTo 131 = .ok (.iload 4, 2) := by decide +kernel
theorem dX2_jumpTo_133 : decode cX2_jumpTo 133 = .ok (.invokestatic 255, 3) := by decide +kernel
theorem dX2_jumpTo_136 : decode cX2_jumpTo 136 = .ok (.iconst 0, 1) := by decide +kernel
theorem dX2_jumpTo_137 : decode cX2_jumpTo 137 = .ok (.ireturn, 1) := by decide +kernel
theorem dX2_enter_0 : decode cX2_enter 0 = .ok (.aload_n 0, 1) := by decide +kernel
theorem dX2_enter_1 : decode cX2_enter 1 = .ok (.getfield 25, 3) := by decide +kernel
theorem dX2_enter_4 : decode cX2_enter 4 = .ok (.aload_n 1, 1) := by decide +kernel
theorem dX2_enter_5 : decode cX2_enter 5 = .ok (.invokevirtual 98, 3) := by decide +kernel
theorem dX2_enter_8 : decode cX2_enter 8 = .ok (.aload_n 0, 1) := by decide +kernel
theorem dX2_enter_9 : decode cX2_enter 9 = .ok (.getfield 25, 3) := by decide +kernel
theorem dX2_enter_12 : decode cX2_enter 12 = .ok (.iconst 0, 1) := by decide +kernel
theorem dX2_enter_13 : decode cX2_enter 13 = .ok (.putfield 136, 3) := by decide +kernel
theorem dX2_enter_16 : decode cX2_enter 16 = .ok (.aload_n 0, 1) := by decide +kernel
theorem dX2_enter_17 : decode cX2_enter 17 = .ok (.getfield 25, 3) := by decide +kernel
theorem dX2_enter_20 : decode cX2_enter 20 = .ok (.dup, 1) := by decide +kernel
theorem dX2_enter_21 : decode cX2_enter 21 = .ok (.getfield 31, 3) := by decide +kernel
theorem dX2_enter_24 : decode cX2_enter 24 = .ok (.iload_n 2, 1) := by decide +kernel
theorem dX2_enter_25 : decode cX2_enter 25 = .ok (.iadd, 1) := by decide +kernel
theorem dX2_enter_26 : decode cX2_enter 26 = .ok (.putfield 31, 3) := by decide +kernel
theorem dX2_enter_29 : decode cX2_enter 29 = .ok (.aload_n 1, 1) := by decide +kernel
theorem dX2_enter_30 : decode cX2_enter 30 = .ok (.getfield 136, 3) := by decide +kernel
theorem dX2_enter_33 : decode cX2_enter 33 = .ok (.iconst 2, 1) := by decide +kernel
theorem dX2_enter_34 : decode cX2_enter 34 = .ok (.if_icmp .ne 11, 3) := by decide +kernel
theorem dX2_enter_37 : decode cX2_enter 37 = .ok (.aload_n 0, 1) := by decide +kernel
theorem dX2_enter_38 : decode cX2_enter 38 = .ok (.iconst 0, 1) := by decide +kernel
theorem dX2_enter_39 : decode cX2_enter 39 = .ok (.putfield 132, 3) := by decide +kernel
theorem dX2_enter_42 : decode cX2_enter 42 = .ok (.goto 16, 3) := by decide +kernel
theorem dX2_enter_45 : decode cX2_enter 45 = .ok (.aload_n 1, 1) := by decide +kernel
theorem dX2_enter_46 : decode cX2_enter 46 = .ok (.getfield 136, 3) := by decide +kernel
theorem dX2_enter_49 : decode cX2_enter 49 = .ok (.iconst 3, 1) := by decide +kernel
theorem dX2_enter_50 : decode cX2_enter 50 = .ok (.if_icmp .ne 8, 3) := by decide +kernel
theorem dX2_enter_53 : decode cX2_enter 53 = .ok (.aload_n 0, 1) := by decide +kernel
theorem dX2_enter_54 : decode cX2_enter 54 = .ok (.iconst 1, 1) := by decide +kernel
theorem dX2_enter_55 : decode cX2_enter 55 = .ok (.putfield 132, 3) := by decide +kernel
theorem dX2_enter_58 : decode cX2_enter 58 = .ok (.return_, 1) := by decide +kernel
theorem dX2_call_0 : decode cX2_call 0 = .ok (.aload_n 1, 1) := by decide +kernel
theorem dX2_call_1 : decode cX2_call 1 = .ok (.invokevirtual 259, 3) := by decide +kernel
theorem dX2_call_4 : decode cX2_call 4 = .ok (.ifCond .ne 6, 3) := by decide +kernel
theorem dX2_call_7 : decode cX2_call 7 = .ok (.bipush 7, 2) := by decide +kernel
theorem dX2_call_9 : decode cX2_call 9 = .ok (.ireturn, 1) := by decide +kernel
theorem dX2_call_10 : decode cX2_call 10 = .ok (.aload_n 0, 1) := by decide +kernel
theorem dX2_call_11 : decode cX2_call 11 = .ok (.iload_n 2, 1) := by decide +kernel
theorem dX2_call_12 : decode cX2_call 12 = .ok (.iconst 4, 1) := by decide +kernel
theorem dX2_call_13 : decode cX2_call 13 = .ok (.ishr, 1) := by decide +kernel
theorem dX2_call_14 : decode cX2_call 14 = .ok (.invokevirtual 263, 3) := by decide +kernel
theorem dX2_call_17 : decode cX2_call 17 = .ok (.astore_n 3, 1) := by decide +kernel
theorem dX2_call_18 : decode cX2_call 18 = .ok (.aload_n 3, 1) := by decide +kernel
theorem dX2_call_19 : decode cX2_call 19 = .ok (.ifnull 10, 3) := by decide +kernel
theorem dX2_call_22 : decode cX2_call 22 = .ok (.aload_n 1, 1) := by decide +kernel
theorem dX2_call_23 : decode cX2_call 23 = .ok (.invokevirtual 267, 3) := by decide +kernel
theorem dX2_call_26 : decode cX2_call 26 = .ok (.ifCond .ne 26, 3) := by decide +kernel
theorem dX2_call_29 : decode cX2_call 29 = .ok (.aload_n 1, 1) := by decide +kernel
theorem dX2_call_30 : decode cX2_call 30 = .ok (.bipush 10, 2) := by decide +kernel
theorem dX2_call_32 : decode cX2_call 32 = .ok (.invokevirtual 71, 3) := by decide +kernel
theorem dX2_call_35 : decode cX2_call 35 = .ok (.iconst (-1), 1) := by decide +kernel
theorem dX2_call_36 : decode cX2_call 36 = .ok (.invokevirtual 94, 3) := by decide +kernel
theorem dX2_call_39 : decode cX2_call 39 = .ok (.aload_n 1, 1) := by decide +kernel
theorem dX2_call_40 : decode cX2_call 40 = .ok (.bipush 11, 2) := by decide +kernel
theorem dX2_call_42 : decode cX2_call 42 = .ok (.invokevirtual 71, 3) := by decide +kernel
theorem dX2_call_45 : decode cX2_call 45 = .ok (.bipush 8, 2) := by decide +kernel
theorem dX2_call_47 : decode cX2_call 47 = .ok (.invokevirtual 94, 3) := by decide +kernel
theorem dX2_call_50 : decode cX2_call 50 = .ok (.iconst 0, 1) := by decide +kernel
theorem dX2_call_51 : decode cX2_call 51 = .ok (.ireturn, 1) := by decide +kernel
theorem dX2_call_52 : decode cX2_call 52 = .ok (.aload_n 1, 1) := by decide +kernel
theorem dX2_call_53 : decode cX2_call 53 = .ok (.iconst 2, 1) := by decide +kernel
theorem dX2_call_54 : decode cX2_call 54 = .ok (.invokevirtual 71, 3) := by decide +kernel
theorem dX2_call_57 : decode cX2_call 57 = .ok (.getfield 31, 3) := by decide +kernel
theorem dX2_call_60 : decode cX2_call 60 = .ok (.istore 4, 2) := by decide +kernel
theorem dX2_call_62 : decode cX2_call 62 = .ok (.aload_n 0, 1) := by decide +kernel
theorem dX2_call_63 : decode cX2_call 63 = .ok (.dup, 1) := by decide +kernel
theorem dX2_call_64 : decode cX2_call 64 = .ok (.getfield 270, 3) := by decide +kernel
theorem dX2_call_67 : decode cX2_call 67 = .ok (.iconst 1, 1) := by decide +kernel
theorem dX2_call_68 : decode cX2_call 68 = .ok (.iadd, 1) := by decide +kernel
theorem dX2_call_69 : decode cX2_call 69 = .ok (.putfield 270, 3) := by decide +kernel
theorem dX2_call_72 : decode cX2_call 72 = .ok (.aload_n 1, 1) := by decide +kernel
theorem dX2_call_73 : decode cX2_call 73 = .ok (.invokevirtual 273, 3) := by decide +kernel
theorem dX2_call_76 : decode cX2_call 76 = .ok (.aload_n 0, 1) := by decide +kernel
theorem dX2_call_77 : decode cX2_call 77 = .ok (.getfield 40, 3) := by decide +kernel
theorem dX2_call_80 : decode cX2_call 80 = .ok (.aload_n 1, 1) := by decide +kernel
theorem dX2_call_81 : decode cX2_call 81 = .ok (.getfield 276, 3) := by decide +kernel
theorem dX2_call_84 : decode cX2_call 84 = .ok (.iload 4, 2) := by decide +kernel
theorem dX2_call_86 : decode cX2_call 86 = .ok (.invokevirtual 279, 3) := by decide +kernel
theorem dX2_call_89 : decode cX2_call 89 = .ok (.aload_n 1, 1) := by decide +kernel
theorem dX2_call_90 : decode cX2_call 90 = .ok (.aload_n 3, 1) := by decide +kernel
theorem dX2_call_91 : decode cX2_call 91 = .ok (.iload_n 2, 1) := by decide +kernel
theorem dX2_call_92 : decode cX2_call 92 = .ok (.iconst 4, 1) := by decide +kernel
theorem dX2_call_93 : decode cX2_call 93 = .ok (.ishr, 1) := by decide +kernel
theorem dX2_call_94 : decode cX2_call 94 = .ok (.iload_n 2, 1) := by decide +kernel
theorem dX2_call_95 : decode cX2_call 95 = .ok (.bipush 15, 2) := by decide +kernel
theorem dX2_call_97 : decode cX2_call 97 = .ok (.iand, 1) := by decide +kernel
theorem dX2_call_98 : decode cX2_call 98 = .ok (.iload 4, 2) := by decide +kernel
theorem dX2_call_100 : decode cX2_call 100 = .ok (.invokevirtual 282, 3) := by decide +kernel
theorem dX2_call_103 : decode cX2_call 103 = .ok (.iconst 0, 1) := by decide +kernel
theorem dX2_call_104 : decode cX2_call 104 = .ok (.ireturn, 1) := by decide +kernel
theorem dX3_init_0 : decode cX3_init 0 = .ok (.aload_n 0, 1) := by decide +kernel
theorem dX3_init_1 : decode cX3_init 1 = .ok (.invokespecial 1, 3) := by decide +kernel
theorem dX3_init_4 : decode cX3_init 4 = .ok (.aload_n 0, 1) := by decide +kernel
theorem dX3_init_5 : decode cX3_init 5 = .ok (.new 7, 3) := by decide +kernel
theorem dX3_init_8 : decode cX3_init 8 = .ok (.dup, 1) := by decide +kernel
theorem dX3_init_9 : decode cX3_init 9 = .ok (.invokespecial 9, 3) := by decide +kernel
theorem dX3_init_12 : decode cX3_init 12 = .ok (.putfield 10, 3) := by decide +kernel
theorem dX3_init_15 : decode cX3_init 15 = .ok (.aload_n 0, 1) := by decide +kernel
theorem dX3_init_16 : decode cX3_init 16 = .ok (.new 7, 3) := by decide +kernel
theorem dX3_init_19 : decode cX3_init 19 = .ok (.dup, 1) := by decide +kernel
theorem dX3_init_20 : decode cX3_init 20 = .ok (.invokespecial 9, 3) := by decide +kernel
theorem dX3_init_23 : decode cX3_init 23 = .ok (.putfield 16, 3) := by decide +kernel
theorem dX3_init_26 : decode cX3_init 26 = .ok (.aload_n 0, 1) := by decide +kernel
theorem dX3_init_27 : decode cX3_init 27 = .ok (.new 7, 3) := by decide +kernel
theorem dX3_init_30 : decode cX3_init 30 = .ok (.dup, 1) := by decide +kernel
theorem dX3_init_31 : decode cX3_init 31 = .ok (.invokespecial 9, 3) := by decide +kernel
theorem dX3_init_34 : decode cX3_init 34 = .ok (.putfield 19, 3) := by decide +kernel
theorem dX3_init_37 : decode cX3_init 37 = .ok (.aload_n 0, 1) := by decide +kernel
theorem dX3_init_38 : decode cX3_init 38 = .ok (.new 7, 3) := by decide +kernel
theorem dX3_init_41 : decode cX3_init 41 = .ok (.dup, 1) := by decide +kernel
theorem dX3_init_42 : decode cX3_init 42 = .ok (.invokespecial 9, 3) := by decide +kernel
theorem dX3_init_45 : decode cX3_init 45 = .ok (.putfield 22, 3) := by decide +kernel
theorem dX3_init_48 : decode cX3_init 48 = .ok (.aload_n 0, 1) := by decide +kernel
theorem dX3_init_49 : decode cX3_init 49 = .ok (.new 7, 3) := by decide +kernel
theorem dX3_init_52 : decode cX3_init 52 = .ok (.dup, 1) := by decide +kernel
theorem dX3_init_53 : decode cX3_init 53 = .ok (.invokespecial 9, 3) := by decide +kernel
theorem dX3_init_56 : decode cX3_init 56 = .ok (.putfield 25, 3) := by decide +kernel
theorem dX3_init_59 : decode cX3_init 59 = .ok (.return_, 1) := by decide +kernel
theorem dX3_filterBy_0 : decode cX3_filterBy 0 = .ok (.aload_n 1, 1) := by decide +kernel
theorem dX3_filterBy_1 : decode cX3_filterBy 1 = .ok (.aload_n 0, 1) := by decide +kernel
theorem dX3_filterBy_2 : decode cX3_filterBy 2 = .ok (.getfield 10, 3) := by decide +kernel
theorem dX3_filterBy_5 : decode cX3_filterBy 5 = .ok (.invokevirtual 28, 3) := by decide +kernel
theorem dX3_filterBy_8 : decode cX3_filterBy 8 = .ok (.aload_n 1, 1) := by decide +kernel
theorem dX3_filterBy_9 : decode cX3_filterBy 9 = .ok (.aload_n 0, 1) := by decide +kernel
theorem dX3_filterBy_10 : decode cX3_filterBy 10 = .ok (.getfield 16, 3) := by decide +kernel
theorem dX3_filterBy_13 : decode cX3_filterBy 13 = .ok (.invokevirtual 28, 3) := by decide +kernel
theorem dX3_filterBy_16 : decode cX3_filterBy 16 = .ok (.aload_n 1, 1) := by decide +kernel
theorem dX3_filterBy_17 : decode cX3_filterBy 17 = .ok (.aload_n 0, 1) := by decide +kernel
theorem dX3_filterBy_18 : decode cX3_filterBy 18 = .ok (.getfield 19, 3) := by decide +kernel
theorem dX3_filterBy_21 : decode cX3_filterBy 21 = .ok (.invokevirtual 28, 3) := by decide +kernel
theorem dX3_filterBy_24 : decode cX3_filterBy 24 = .ok (.aload_n 1, 1) := by decide +kernel
theorem dX3_filterBy_25 : decode cX3_filterBy 25 = .ok (.aload_n 0, 1) := by decide +kernel
theorem dX3_filterBy_26 : decode cX3_filterBy 26 = .ok (.getfield 22, 3) := by decide +kernel
theorem dX3_filterBy_29 : decode cX3_filterBy 29 = .ok (.invokevirtual 28, 3) := by decide +kernel
theorem dX3_filterBy_32 : decode cX3_filterBy 32 = .ok (.aload_n 1, 1) := by decide +kernel
theorem dX3_filterBy_33 : decode cX3_filterBy 33 = .ok (.aload_n 0, 1) := by decide +kernel
theorem dX3_filterBy_34 : decode cX3_filterBy 34 = .ok (.getfield 25, 3) := by decide +kernel
theorem dX3_filterBy_37 : decode cX3_filterBy 37 = .ok (.invokevirtual 28, 3) := by decide +kernel
theorem dX3_filterBy_40 : decode cX3_filterBy 40 = .ok (.return_, 1) := by decide +kernel
theorem dX4_init_0 : decode cX4_init 0 = .ok (.aload_n 0, 1) := by decide +kernel
theorem dX4_init_1 : decode cX4_init 1 = .ok (.invokespecial 3, 3) := by decide +kernel
theorem dX4_init_4 : decode cX4_init 4 = .ok (.aload_n 0, 1) := by decide +kernel
theorem dX4_init_5 : decode cX4_init 5 = .ok (.iconst (-1), 1) := by decide +kernel
theorem dX4_init_6 : decode cX4_init 6 = .ok (.putfield 9, 3) := by decide +kernel
theorem dX4_init_9 : decode cX4_init 9 = .ok (.aload_n 0, 1) := by decide +kernel
theorem dX4_init_10 : decode cX4_init 10 = .ok (.iload_n 1, 1) := by decide +kernel
theorem dX4_init_11 : decode cX4_init 11 = .ok (.newarray .int, 2) := by decide +kernel
theorem dX4_init_13 : decode cX4_init 13 = .ok (.putfield 15, 3) := by decide +kernel
theorem dX4_init_16 : decode cX4_init 16 = .ok (.aload_n 0, 1) := by decide +kernel
theorem dX4_init_17 : decode cX4_init 17 = .ok (.iload_n 1, 1) := by decide +kernel
theorem dX4_init_18 : decode cX4_init 18 = .ok (.newarray .int, 2) := by decide +kernel
theorem dX4_init_20 : decode cX4_init 20 = .ok (.putfield 19, 3) := by decide +kernel
theorem dX4_init_23 : decode cX4_init 23 = .ok (.return_, 1) := by decide +kernel
theorem dX4_reset_0 : decode cX4_reset 0 = .ok (.aload_n 0, 1) := by decide +kernel
theorem dX4_reset_1 : decode cX4_reset 1 = .ok (.getfield 15, 3) := by decide +kernel
theorem dX4_reset_4 : decode cX4_reset 4 = .ok (.iconst 0, 1) := by decide +kernel
theorem dX4_reset_5 : decode cX4_reset 5 = .ok (.invokestatic 22, 3) := by decide +kernel
theorem dX4_reset_8 : decode cX4_reset 8 = .ok (.aload_n 0, 1) := by decide +kernel
theorem dX4_reset_9 : decode cX4_reset 9 = .ok (.getfield 19, 3) := by decide +kernel
theorem dX4_reset_12 : decode cX4_reset 12 = .ok (.iconst 0, 1) := by decide +kernel
theorem dX4_reset_13 : decode cX4_reset 13 = .ok (.invokestatic 22, 3) := by decide +kernel
theorem dX4_reset_16 : decode cX4_reset 16 = .ok (.aload_n 0, 1) := by decide +kernel
theorem dX4_reset_17 : decode cX4_reset 17 = .ok (.iconst 0, 1) := by decide +kernel
theorem dX4_reset_18 : decode cX4_reset 18 = .ok (.iload_n 1, 1) := by decide +kernel
theorem dX4_reset_19 : decode cX4_reset 19 = .ok (.invokestatic 28, 3) := by decide +kernel
theorem dX4_reset_22 : decode cX4_reset 22 = .ok (.putfield 34, 3) := by decide +kernel
theorem dX4_reset_25 : decode cX4_reset 25 = .ok (.aload_n 0, 1) := by decide +kernel
theorem dX4_reset_26 : decode cX4_reset 26 = .ok (.iconst 0, 1) := by decide +kernel
theorem dX4_reset_27 : decode cX4_reset 27 = .ok (.putfield 37, 3) := by decide +kernel
theorem dX4_reset_30 : decode cX4_reset 30 = .ok (.aload_n 0, 1) := by decide +kernel
theorem dX4_reset_31 : decode cX4_reset 31 = .ok (.iconst 0, 1) := by decide +kernel
theorem dX4_reset_32 : decode cX4_reset 32 = .ok (.putfield 40, 3) := by decide +kernel
theorem dX4_reset_35 : decode cX4_reset 35 = .ok (.aload_n 0, 1) := by decide +kernel
theorem dX4_reset_36 : decode cX4_reset 36 = .ok (.iconst 0, 1) := by decide +kernel
theorem dX4_reset_37 : decode cX4_reset 37 = .ok (.putfield 43, 3) := by decide +kernel
theorem dX4_reset_40 : decode cX4_reset 40 = .ok (.aload_n 0, 1) := by decide +kernel
theorem dX4_reset_41 : decode cX4_reset 41 = .ok (.iconst 0, 1) := by decide +kernel
theorem dX4_reset_42 : decode cX4_reset 42 = .ok (.putfield 46, 3) := by decide +kernel
theorem dX4_reset_45 : decode cX4_reset 45 = .ok (.aload_n 0, 1) := by decide +kernel
theorem dX4_reset_46 : decode cX4_reset 46 = .ok (.iconst (-1), 1) := by decide +kernel
theorem dX4_reset_47 : decode cX4_reset 47 = .ok (.putfield 9, 3) := by decide +kernel
theorem dX4_reset_50 : decode cX4_reset 50 = .ok (.aload_n 0, 1) := by decide +kernel
theorem dX4_reset_51 : decode cX4_reset 51 = .ok (.iconst 0, 1) := by decide +kernel
theorem dX4_reset_52 : decode cX4_reset 52 = .ok (.putfield 49, 3) := by decide +kernel
theorem dX4_reset_55 : decode cX4_reset 55 = .ok (.return_, 1) := by decide +kernel
theorem dX4_has_0 : decode cX4_has 0 = .ok (.iload_n 1, 1) := by decide +kernel
theorem dX4_has_1 : decode cX4_has 1 = .ok (.aload_n 0, 1) := by decide +kernel
theorem dX4_has_2 : decode cX4_has 2 = .ok (.getfield 34, 3) := by decide +kernel
theorem dX4_has_5 : decode cX4_has 5 = .ok (.if_icmp .lt 16, 3) := by decide +kernel
theorem dX4_has_8 : decode cX4_has 8 = .ok (.iload_n 1, 1) := by decide +kernel
theorem dX4_has_9 : decode cX4_has 9 = .ok (.aload_n 0, 1) := by decide +kernel
theorem dX4_has_10 : decode cX4_has 10 = .ok (.getfield 15, 3) := by decide +kernel
theorem dX4_has_13 : decode cX4_has 13 = .ok (.arraylength, 1) := by decide +kernel
theorem dX4_has_14 : decode cX4_has 14 = .ok (.if_icmp .ge 7, 3) := by decide +kernel
theorem dX4_has_17 : decode cX4_has 17 = .ok (.iconst 1, 1) := by decide +kernel
theorem dX4_has_18 : decode cX4_has 18 = .ok (.goto 4, 3) := by decide +kernel
theorem dX4_has_21 : decode cX4_has 21 = .ok (.iconst 0, 1) := by decide +kernel
theorem dX4_has_22 : decode cX4_has 22 = .ok (.ireturn, 1) := by decide +kernel
theorem dX4_bytes_0 : decode cX4_bytes 0 = .ok (.aload_n 0, 1) := by decide +kernel
theorem dX4_bytes_1 : decode cX4_bytes 1 = .ok (.getfield 15, 3) := by decide +kernel
theorem dX4_bytes_4 : decode cX4_bytes 4 = .ok (.arraylength, 1) := by decide +kernel
theorem dX4_bytes_5 : decode cX4_bytes 5 = .ok (.aload_n 0, 1) := by decide +kernel
theorem dX4_bytes_6 : decode cX4_bytes 6 = .ok (.getfield 34, 3) := by decide +kernel
theorem dX4_bytes_9 : decode cX4_bytes 9 = .ok (.isub, 1) := by decide +kernel
theorem dX4_bytes_10 : decode cX4_bytes 10 = .ok (.bipush 16, 2) := by decide +kernel
theorem dX4_bytes_12 : decode cX4_bytes 12 = .ok (.imul, 1) := by decide +kernel
theorem dX4_bytes_13 : decode cX4_bytes 13 = .ok (.ireturn, 1) := by decide +kernel
theorem dX4_freeBytes_0 : decode cX4_freeBytes 0 = .ok (.aload_n 0, 1) := by decide +kernel
theorem dX4_freeBytes_1 : decode cX4_freeBytes 1 = .ok (.invokevirtual 53, 3) := by decide +kernel
theorem dX4_freeBytes_4 : decode cX4_freeBytes 4 = .ok (.aload_n 0, 1) := by decide +kernel
theorem dX4_freeBytes_5 : decode cX4_freeBytes 5 = .ok (.getfield 40, 3) := by decide +kernel
theorem dX4_freeBytes_8 : decode cX4_freeBytes 8 = .ok (.aload_n 0, 1) := by decide +kernel
theorem dX4_freeBytes_9 : decode cX4_freeBytes 9 = .ok (.getfield 43, 3) := by decide +kernel
theorem dX4_freeBytes_12 : decode cX4_freeBytes 12 = .ok (.iadd, 1) := by decide +kernel
theorem dX4_freeBytes_13 : decode cX4_freeBytes 13 = .ok (.bipush 16, 2) := by decide +kernel
theorem dX4_freeBytes_15 : decode cX4_freeBytes 15 = .ok (.imul, 1) := by decide +kernel
theorem dX4_freeBytes_16 : decode cX4_freeBytes 16 = .ok (.isub, 1) := by decide +kernel
theorem dX4_freeBytes_17 : decode cX4_freeBytes 17 = .ok (.ireturn, 1) := by decide +kernel
theorem dX4_reserve_0 : decode cX4_reserve 0 = .ok (.aload_n 0, 1) := by decide +kernel
theorem dX4_reserve_1 : decode cX4_reserve 1 = .ok (.iload_n 1, 1) := by decide +kernel
theorem dX4_reserve_2 : decode cX4_reserve 2 = .ok (.invokevirtual 57, 3) := by decide +kernel
theorem dX4_reserve_5 : decode cX4_reserve 5 = .ok (.istore_n 2, 1) := by decide +kernel
theorem dX4_reserve_6 : decode cX4_reserve 6 = .ok (.aload_n 0, 1) := by decide +kernel
theorem dX4_reserve_7 : decode cX4_reserve 7 = .ok (.iload_n 2, 1) := by decide +kernel
theorem dX4_reserve_8 : decode cX4_reserve 8 = .ok (.invokevirtual 61, 3) := by decide +kernel
theorem dX4_reserve_11 : decode cX4_reserve 11 = .ok (.ifCond .eq 37, 3) := by decide +kernel
theorem dX4_reserve_14 : decode cX4_reserve 14 = .ok (.aload_n 0, 1) := by decide +kernel
theorem dX4_reserve_15 : decode cX4_reserve 15 = .ok (.getfield 15, 3) := by decide +kernel
theorem dX4_reserve_18 : decode cX4_reserve 18 = .ok (.iload_n 2, 1) := by decide +kernel
theorem dX4_reserve_19 : decode cX4_reserve 19 = .ok (.iload_n 1, 1) := by decide +kernel
theorem dX4_reserve_20 : decode cX4_reserve 20 = .ok (.iastore, 1) := by decide +kernel
theorem dX4_reserve_21 : decode cX4_reserve 21 = .ok (.aload_n 0, 1) := by decide +kernel
theorem dX4_reserve_22 : decode cX4_reserve 22 = .ok (.getfield 19, 3) := by decide +kernel
theorem dX4_reserve_25 : decode cX4_reserve 25 = .ok (.iload_n 2, 1) := by decide +kernel
theorem dX4_reserve_26 : decode cX4_reserve 26 = .ok (.iconst 1, 1) := by decide +kernel
theorem dX4_reserve_27 : decode cX4_reserve 27 = .ok (.iastore, 1) := by decide +kernel
theorem dX4_reserve_28 : decode cX4_reserve 28 = .ok (.aload_n 0, 1) := by decide +kernel
theorem dX4_reserve_29 : decode cX4_reserve 29 = .ok (.dup, 1) := by decide +kernel
theorem dX4_reserve_30 : decode cX4_reserve 30 = .ok (.getfield 37, 3) := by decide +kernel
theorem dX4_reserve_33 : decode cX4_reserve 33 = .ok (.iconst 1, 1) := by decide +kernel
theorem dX4_reserve_34 : decode cX4_reserve 34 = .ok (.iadd, 1) := by decide +kernel
theorem dX4_reserve_35 : decode cX4_reserve 35 = .ok (.putfield 37, 3) := by decide +kernel
theorem dX4_reserve_38 : decode cX4_reserve 38 = .ok (.aload_n 0, 1) := by decide +kernel
theorem dX4_reserve_39 : decode cX4_reserve 39 = .ok (.dup, 1) := by decide +kernel
theorem dX4_reserve_40 : decode cX4_reserve 40 = .ok (.getfield 40, 3) := by decide +kernel
theorem dX4_reserve_43 : decode cX4_reserve 43 = .ok (.iload_n 1, 1) := by decide +kernel
theorem dX4_reserve_44 : decode cX4_reserve 44 = .ok (.iadd, 1) := by decide +kernel
theorem dX4_reserve_45 : decode cX4_reserve 45 = .ok (.putfield 40, 3) := by decide +kernel
theorem dX4_reserve_48 : decode cX4_reserve 48 = .ok (.iload_n 2, 1) := by decide +kernel
theorem dX4_reserve_49 : decode cX4_reserve 49 = .ok (.ireturn, 1) := by decide +kernel
theorem dX4_room_0 : decode cX4_room 0 = .ok (.iconst 0, 1) := by decide +kernel
theorem dX4_room_1 : decode cX4_room 1 = .ok (.istore_n 2, 1) := by decide +kernel
theorem dX4_room_2 : decode cX4_room 2 = .ok (.aload_n 0, 1) := by decide +kernel
theorem dX4_room_3 : decode cX4_room 3 = .ok (.getfield 34, 3) := by decide +kernel
theorem dX4_room_6 : decode cX4_room 6 = .ok (.istore_n 3, 1) := by decide +kernel
theorem dX4_room_7 : decode cX4_room 7 = .ok (.iload_n 3, 1) := by decide +kernel
theorem dX4_room_8 : decode cX4_room 8 = .ok (.aload_n 0, 1) := by decide +kernel
theorem dX4_room_9 : decode cX4_room 9 = .ok (.getfield 15, 3) := by decide +kernel
theorem dX4_room_12 : decode cX4_room 12 = .ok (.arraylength, 1) := by decide +kernel
theorem dX4_room_13 : decode cX4_room 13 = .ok (.if_icmp .ge 56, 3) := by decide +kernel
theorem dX4_room_16 : decode cX4_room 16 = .ok (.aload_n 0, 1) := by decide +kernel
theorem dX4_room_17 : decode cX4_room 17 = .ok (.getfield 15, 3) := by decide +kernel
theorem dX4_room_20 : decode cX4_room 20 = .ok (.iload_n 3, 1) := by decide +kernel
theorem dX4_room_21 : decode cX4_room 21 = .ok (.iaload, 1) := by decide +kernel
theorem dX4_room_22 : decode cX4_room 22 = .ok (.ifCond .le 7, 3) := by decide +kernel
theorem dX4_room_25 : decode cX4_room 25 = .ok (.iconst 0, 1) := by decide +kernel
theorem dX4_room_26 : decode cX4_room 26 = .ok (.goto 6, 3) := by decide +kernel
theorem dX4_room_29 : decode cX4_room 29 = .ok (.iload_n 2, 1) := by decide +kernel
theorem dX4_room_30 : decode cX4_room 30 = .ok (.iconst 1, 1) := by decide +kernel
theorem dX4_room_31 : decode cX4_room 31 = .ok (.iadd, 1) := by decide +kernel
theorem dX4_room_32 : decode cX4_room 32 = .ok (.istore_n 2, 1) := by decide +kernel
theorem dX4_room_33 : decode cX4_room 33 = .ok (.iload_n 2, 1) := by decide +kernel
theorem dX4_room_34 : decode cX4_room 34 = .ok (.iload_n 1, 1) := by decide +kernel
theorem dX4_room_35 : decode cX4_room 35 = .ok (.if_icmp .ne 9, 3) := by decide +kernel
theorem dX4_room_38 : decode cX4_room 38 = .ok (.iload_n 3, 1) := by decide +kernel
theorem dX4_room_39 : decode cX4_room 39 = .ok (.iload_n 1, 1) := by decide +kernel
theorem dX4_room_40 : decode cX4_room 40 = .ok (.isub, 1) := by decide +kernel
theorem dX4_room_41 : decode cX4_room 41 = .ok (.iconst 1, 1) := by decide +kernel
theorem dX4_room_42 : decode cX4_room 42 = .ok (.iadd, 1) := by decide +kernel
theorem dX4_room_43 : decode cX4_room 43 = .ok (.ireturn, 1) := by decide +kernel
theorem dX4_room_44 : decode cX4_room 44 = .ok (.iload_n 3, 1) := by decide +kernel
theorem dX4_room_45 : decode cX4_room 45 = .ok (.aload_n 0, 1) := by decide +kernel
theorem dX4_room_46 : decode cX4_room 46 = .ok (.getfield 15, 3) := by decide +kernel
theorem dX4_room_49 : decode cX4_room 49 = .ok (.iload_n 3, 1) := by decide +kernel
theorem dX4_room_50 : decode cX4_room 50 = .ok (.iaload, 1) := by decide +kernel
theorem dX4_room_51 : decode cX4_room 51 = .ok (.ifCond .le 12, 3) := by decide +kernel
theorem dX4_room_54 : decode cX4_room 54 = .ok (.aload_n 0, 1) := by decide +kernel
theorem dX4_room_55 : decode cX4_room 55 = .ok (.getfield 15, 3) := by decide +kernel
theorem dX4_room_58 : decode cX4_room 58 = .ok (.iload_n 3, 1) := by decide +kernel
theorem dX4_room_59 : decode cX4_room 59 = .ok (.iaload, 1) := by decide +kernel
theorem dX4_room_60 : decode cX4_room 60 = .ok (.goto 4, 3) := by decide +kernel
theorem dX4_room_63 : decode cX4_room 63 = .ok (.iconst 1, 1) := by decide +kernel
theorem dX4_room_64 : decode cX4_room 64 = .ok (.iadd, 1) := by decide +kernel
theorem dX4_room_65 : decode cX4_room 65 = .ok (.istore_n 3, 1) := by decide +kernel
theorem dX4_room_66 : decode cX4_room 66 = .ok (.goto (-59), 3) := by decide +kernel
theorem dX4_room_69 : decode cX4_room 69 = .ok (.iconst (-1), 1) := by decide +kernel
theorem dX4_room_70 : decode cX4_room 70 = .ok (.ireturn, 1) := by decide +kernel
theorem dX4_isObject_0 : decode cX4_isObject 0 = .ok (.iload_n 1, 1) := by decide +kernel
theorem dX4_isObject_1 : decode cX4_isObject 1 = .ok (.bipush 16, 2) := by decide +kernel
theorem dX4_isObject_3 : decode cX4_isObject 3 = .ok (.idiv, 1) := by decide +kernel
theorem dX4_isObject_4 : decode cX4_isObject 4 = .ok (.istore_n 3, 1) := by decide +kernel
theorem dX4_isObject_5 : decode cX4_isObject 5 = .ok (.iload_n 1, 1) := by decide +kernel
theorem dX4_isObject_6 : decode cX4_isObject 6 = .ok (.ifCond .lt 47, 3) := by decide +kernel
theorem dX4_isObject_9 : decode cX4_isObject 9 = .ok (.iload_n 1, 1) := by decide +kernel
theorem dX4_isObject_10 : decode cX4_isObject 10 = .ok (.bipush 16, 2) := by decide +kernel
theorem dX4_isObject_12 : decode cX4_isObject 12 = .ok (.irem, 1) := by decide +kernel
theorem dX4_isObject_13 : decode cX4_isObject 13 = .ok (.ifCond .ne 40, 3) := by decide +kernel
theorem dX4_isObject_16 : decode cX4_isObject 16 = .ok (.aload_n 0, 1) := by decide +kernel
theorem dX4_isObject_17 : decode cX4_isObject 17 = .ok (.iload_n 3, 1) := by decide +kernel
theorem dX4_isObject_18 : decode cX4_isObject 18 = .ok (.invokevirtual 61, 3) := by decide +kernel
theorem dX4_isObject_21 : decode cX4_isObject 21 = .ok (.ifCond .eq 32, 3) := by decide +kernel
theorem dX4_isObject_24 : decode cX4_isObject 24 = .ok (.aload_n 0, 1) := by decide +kernel
theorem dX4_isObject_25 : decode cX4_isObject 25 = .ok (.getfield 19, 3) := by decide +kernel
theorem dX4_isObject_28 : decode cX4_isObject 28 = .ok (.iload_n 3, 1) := by decide +kernel
theorem dX4_isObject_29 : decode cX4_isObject 29 = .ok (.iaload, 1) := by decide +kernel
theorem dX4_isObject_30 : decode cX4_isObject 30 = .ok (.iconst 1, 1) := by decide +kernel
theorem dX4_isObject_31 : decode cX4_isObject 31 = .ok (.if_icmp .ne 22, 3) := by decide +kernel
theorem dX4_isObject_34 : decode cX4_isObject 34 = .ok (.iload_n 2, 1) := by decide +kernel
theorem dX4_isObject_35 : decode cX4_isObject 35 = .ok (.iload_n 1, 1) := by decide +kernel
theorem dX4_isObject_36 : decode cX4_isObject 36 = .ok (.aload_n 0, 1) := by decide +kernel
theorem dX4_isObject_37 : decode cX4_isObject 37 = .ok (.getfield 15, 3) := by decide +kernel
theorem dX4_isObject_40 : decode cX4_isObject 40 = .ok (.iload_n 3, 1) := by decide +kernel
theorem dX4_isObject_41 : decode cX4_isObject 41 = .ok (.iaload, 1) := by decide +kernel
theorem dX4_isObject_42 : decode cX4_isObject 42 = .ok (.bipush 16, 2) := by decide +kernel
theorem dX4_isObject_44 : decode cX4_isObject 44 = .ok (.imul, 1) := by decide +kernel
theorem dX4_isObject_45 : decode cX4_isObject 45 = .ok (.iadd, 1) := by decide +kernel
theorem dX4_isObject_46 : decode cX4_isObject 46 = .ok (.if_icmp .ne 7, 3) := by decide +kernel
theorem dX4_isObject_49 : decode cX4_isObject 49 = .ok (.iconst 1, 1) := by decide +kernel
theorem dX4_isObject_50 : decode cX4_isObject 50 = .ok (.goto 4, 3) := by decide +kernel
theorem dX4_isObject_53 : decode cX4_isObject 53 = .ok (.iconst 0, 1) := by decide +kernel
theorem dX4_isObject_54 : decode cX4_isObject 54 = .ok (.ireturn, 1) := by decide +kernel
theorem dX4_hold_0 : decode cX4_hold 0 = .ok (.aload_n 0, 1) := by decide +kernel
theorem dX4_hold_1 : decode cX4_hold 1 = .ok (.iload_n 1, 1) := by decide +kernel
theorem dX4_hold_2 : decode cX4_hold 2 = .ok (.invokevirtual 61, 3) := by decide +kernel
theorem dX4_hold_5 : decode cX4_hold 5 = .ok (.ifCond .eq 50, 3) := by decide +kernel
theorem dX4_hold_8 : decode cX4_hold 8 = .ok (.aload_n 0, 1) := by decide +kernel
theorem dX4_hold_9 : decode cX4_hold 9 = .ok (.getfield 19, 3) := by decide +kernel
theorem dX4_hold_12 : decode cX4_hold 12 = .ok (.iload_n 1, 1) := by decide +kernel
theorem dX4_hold_13 : decode cX4_hold 13 = .ok (.iconst 2, 1) := by decide +kernel
theorem dX4_hold_14 : decode cX4_hold 14 = .ok (.iastore, 1) := by decide +kernel
theorem dX4_hold_15 : decode cX4_hold 15 = .ok (.aload_n 0, 1) := by decide +kernel
theorem dX4_hold_16 : decode cX4_hold 16 = .ok (.dup, 1) := by decide +kernel
theorem dX4_hold_17 : decode cX4_hold 17 = .ok (.getfield 37, 3) := by decide +kernel
theorem dX4_hold_20 : decode cX4_hold 20 = .ok (.iconst 1, 1) := by decide +kernel
theorem dX4_hold_21 : decode cX4_hold 21 = .ok (.isub, 1) := by decide +kernel
theorem dX4_hold_22 : decode cX4_hold 22 = .ok (.putfield 37, 3) := by decide +kernel
theorem dX4_hold_25 : decode cX4_hold 25 = .ok (.aload_n 0, 1) := by decide +kernel
theorem dX4_hold_26 : decode cX4_hold 26 = .ok (.dup, 1) := by decide +kernel
theorem dX4_hold_27 : decode cX4_hold 27 = .ok (.getfield 40, 3) := by decide +kernel
theorem dX4_hold_30 : decode cX4_hold 30 = .ok (.aload_n 0, 1) := by decide +kernel
theorem dX4_hold_31 : decode cX4_hold 31 = .ok (.getfield 15, 3) := by decide +kernel
theorem dX4_hold_34 : decode cX4_hold 34 = .ok (.iload_n 1, 1) := by decide +kernel
theorem dX4_hold_35 : decode cX4_hold 35 = .ok (.iaload, 1) := by decide +kernel
theorem dX4_hold_36 : decode cX4_hold 36 = .ok (.isub, 1) := by decide +kernel
theorem dX4_hold_37 : decode cX4_hold 37 = .ok (.putfield 40, 3) := by decide +kernel
theorem dX4_hold_40 : decode cX4_hold 40 = .ok (.aload_n 0, 1) := by decide +kernel
theorem dX4_hold_41 : decode cX4_hold 41 = .ok (.dup, 1) := by decide +kernel
theorem dX4_hold_42 : decode cX4_hold 42 = .ok (.getfield 43, 3) := by decide +kernel
theorem dX4_hold_45 : decode cX4_hold 45 = .ok (.aload_n 0, 1) := by decide +kernel
theorem dX4_hold_46 : decode cX4_hold 46 = .ok (.getfield 15, 3) := by decide +kernel
theorem dX4_hold_49 : decode cX4_hold 49 = .ok (.iload_n 1, 1) := by decide +kernel
theorem dX4_hold_50 : decode cX4_hold 50 = .ok (.iaload, 1) := by decide +kernel
theorem dX4_hold_51 : decode cX4_hold 51 = .ok (.iadd, 1) := by decide +kernel
theorem dX4_hold_52 : decode cX4_hold 52 = .ok (.putfield 43, 3) := by decide +kernel
theorem dX4_hold_55 : decode cX4_hold 55 = .ok (.return_, 1) := by decide +kernel
theorem dX4_beginSweepIfDue_0 : decode cX4_beginSweepIfDue 0 = .ok (.aload_n 0, 1) := by decide +kernel
theorem dX4_beginSweepIfDue_1 : decode cX4_beginSweepIfDue 1 = .ok (.getfield 43, 3) := by decide +kernel
theorem dX4_beginSweepIfDue_4 : decode cX4_beginSweepIfDue 4 = .ok (.ifCond .le 33, 3) := by decide +kernel
theorem dX4_beginSweepIfDue_7 : decode cX4_beginSweepIfDue 7 = .ok (.aload_n 0, 1) := by decide +kernel
theorem dX4_beginSweepIfDue_8 : decode cX4_beginSweepIfDue 8 = .ok (.getfield 49, 3) := by decide +kernel
theorem dX4_beginSweepIfDue_11 : decode cX4_beginSweepIfDue 11 = .ok (.ifCond .ne 22, 3) := by decide +kernel
theorem dX4_beginSweepIfDue_14 : decode cX4_beginSweepIfDue 14 = .ok (.iconst 4, 1) := by decide +kernel
theorem dX4_beginSweepIfDue_15 : decode cX4_beginSweepIfDue 15 = .ok (.aload_n 0, 1) := by decide +kernel
theorem dX4_beginSweepIfDue_16 : decode cX4_beginSweepIfDue 16 = .ok (.getfield 43, 3) := by decide +kernel
theorem dX4_beginSweepIfDue_19 : decode cX4_beginSweepIfDue 19 = .ok (.imul, 1) := by decide +kernel
theorem dX4_beginSweepIfDue_20 : decode cX4_beginSweepIfDue 20 = .ok (.aload_n 0, 1) := by decide +kernel
theorem dX4_beginSweepIfDue_21 : decode cX4_beginSweepIfDue 21 = .ok (.getfield 15, 3) := by decide +kernel
theorem dX4_beginSweepIfDue_24 : decode cX4_beginSweepIfDue 24 = .ok (.arraylength, 1) := by decide +kernel
theorem dX4_beginSweepIfDue_25 : decode cX4_beginSweepIfDue 25 = .ok (.aload_n 0, 1) := by decide +kernel
theorem dX4_beginSweepIfDue_26 : decode cX4_beginSweepIfDue 26 = .ok (.getfield 34, 3) := by decide +kernel
theorem dX4_beginSweepIfDue_29 : decode cX4_beginSweepIfDue 29 = .ok (.isub, 1) := by decide +kernel
theorem dX4_beginSweepIfDue_30 : decode cX4_beginSweepIfDue 30 = .ok (.if_icmp .lt 7, 3) := by decide +kernel
theorem dX4_beginSweepIfDue_33 : decode cX4_beginSweepIfDue 33 = .ok (.iconst 1, 1) := by decide +kernel
theorem dX4_beginSweepIfDue_34 : decode cX4_beginSweepIfDue 34 = .ok (.goto 4, 3) := by decide +kernel
theorem dX4_beginSweepIfDue_37 : decode cX4_beginSweepIfDue 37 = .ok (.iconst 0, 1) := by decide +kernel
theorem dX4_beginSweepIfDue_38 : decode cX4_beginSweepIfDue 38 = .ok (.istore_n 1, 1) := by decide +kernel
theorem dX4_beginSweepIfDue_39 : decode cX4_beginSweepIfDue 39 = .ok (.aload_n 0, 1) := by decide +kernel
theorem dX4_beginSweepIfDue_40 : decode cX4_beginSweepIfDue 40 = .ok (.dup, 1) := by decide +kernel
theorem dX4_beginSweepIfDue_41 : decode cX4_beginSweepIfDue 41 = .ok (.getfield 49, 3) := by decide +kernel
theorem dX4_beginSweepIfDue_44 : decode cX4_beginSweepIfDue 44 = .ok (.aload_n 0, 1) := by decide +kernel
theorem dX4_beginSweepIfDue_45 : decode cX4_beginSweepIfDue 45 = .ok (.getfield 43, 3) := by decide +kernel
theorem dX4_beginSweepIfDue_48 : decode cX4_beginSweepIfDue 48 = .ok (.ifCond .le 11, 3) := by decide +kernel
theorem dX4_beginSweepIfDue_51 : decode cX4_beginSweepIfDue 51 = .ok (.iload_n 1, 1) := by decide +kernel
theorem dX4_beginSweepIfDue_52 : decode cX4_beginSweepIfDue 52 = .ok (.ifCond .ne 7, 3) := by decide +kernel
theorem dX4_beginSweepIfDue_55 : decode cX4_beginSweepIfDue 55 = .ok (.iconst 1, 1) := by decide +kernel
theorem dX4_beginSweepIfDue_56 : decode cX4_beginSweepIfDue 56 = .ok (.goto 4, 3) := by decide +kernel
theorem dX4_beginSweepIfDue_59 : decode cX4_beginSweepIfDue 59 = .ok (.iconst 0, 1) := by decide +kernel
theorem dX4_beginSweepIfDue_60 : decode cX4_beginSweepIfDue 60 = .ok (.iand, 1) := by decide +kernel
theorem dX4_beginSweepIfDue_61 : decode cX4_beginSweepIfDue 61 = .ok (.putfield 49, 3) := by decide +kernel
theorem dX4_beginSweepIfDue_64 : decode cX4_beginSweepIfDue 64 = .ok (.iload_n 1, 1) := by decide +kernel
theorem dX4_beginSweepIfDue_65 : decode cX4_beginSweepIfDue 65 = .ok (.ifCond .eq 55, 3) := by decide +kernel
theorem dX4_beginSweepIfDue_68 : decode cX4_beginSweepIfDue 68 = .ok (.aload_n 0, 1) := by decide +kernel
theorem dX4_beginSweepIfDue_69 : decode cX4_beginSweepIfDue 69 = .ok (.iconst 0, 1) := by decide +kernel
theorem dX4_beginSweepIfDue_70 : decode cX4_beginSweepIfDue 70 = .ok (.putfield 9, 3) := by decide +kernel
theorem dX4_beginSweepIfDue_73 : decode cX4_beginSweepIfDue 73 = .ok (.aload_n 0, 1) := by decide +kernel
theorem dX4_beginSweepIfDue_74 : decode cX4_beginSweepIfDue 74 = .ok (.getfield 34, 3) := by decide +kernel
theorem dX4_beginSweepIfDue_77 : decode cX4_beginSweepIfDue 77 = .ok (.istore_n 2, 1) := by decide +kernel
theorem dX4_beginSweepIfDue_78 : decode cX4_beginSweepIfDue 78 = .ok (.iload_n 2, 1) := by decide +kernel
theorem dX4_beginSweepIfDue_79 : decode cX4_beginSweepIfDue 79 = .ok (.aload_n 0, 1) := by decide +kernel
theorem dX4_beginSweepIfDue_80 : decode cX4_beginSweepIfDue 80 = .ok (.getfield 15, 3) := by decide +kernel
theorem dX4_beginSweepIfDue_83 : decode cX4_beginSweepIfDue 83 = .ok (.arraylength, 1) := by decide +kernel
theorem dX4_beginSweepIfDue_84 : decode cX4_beginSweepIfDue 84 = .ok (.if_icmp .ge 36, 3) := by decide +kernel
theorem dX4_beginSweepIfDue_87 : decode cX4_beginSweepIfDue 87 = .ok (.aload_n 0, 1) := by decide +kernel
theorem dX4_beginSweepIfDue_88 : decode cX4_beginSweepIfDue 88 = .ok (.getfield 19, 3) := by decide +kernel
theorem dX4_beginSweepIfDue_91 : decode cX4_beginSweepIfDue 91 = .ok (.iload_n 2, 1) := by decide +kernel
theorem dX4_beginSweepIfDue_92 : decode cX4_beginSweepIfDue 92 = .ok (.iaload, 1) := by decide +kernel
theorem dX4_beginSweepIfDue_93 : decode cX4_beginSweepIfDue 93 = .ok (.iconst 2, 1) := by decide +kernel
theorem dX4_beginSweepIfDue_94 : decode cX4_beginSweepIfDue 94 = .ok (.if_icmp .ne 10, 3) := by decide +kernel
theorem dX4_beginSweepIfDue_97 : decode cX4_beginSweepIfDue 97 = .ok (.aload_n 0, 1) := by decide +kernel
theorem dX4_beginSweepIfDue_98 : decode cX4_beginSweepIfDue 98 = .ok (.getfield 19, 3) := by decide +kernel
theorem dX4_beginSweepIfDue_101 : decode cX4_beginSweepIfDue 101 = .ok (.iload_n 2, 1) := by decide +kernel
theorem dX4_beginSweepIfDue_102 : decode cX4_beginSweepIfDue 102 = .ok (.iconst 3, 1) := by decide +kernel
theorem dX4_beginSweepIfDue_103 : decode cX4_beginSweepIfDue 103 = .ok (.iastore, 1) := by decide +kernel
theorem dX4_beginSweepIfDue_104 : decode cX4_beginSweepIfDue 104 = .ok (.iload_n 2, 1) := by decide +kernel
theorem dX4_beginSweepIfDue_105 : decode cX4_beginSweepIfDue 105 = .ok (.iconst 1, 1) := by decide +kernel
theorem dX4_beginSweepIfDue_106 : decode cX4_beginSweepIfDue 106 = .ok (.aload_n 0, 1) := by decide +kernel
theorem dX4_beginSweepIfDue_107 : decode cX4_beginSweepIfDue 107 = .ok (.getfield 15, 3) := by decide +kernel
theorem dX4_beginSweepIfDue_110 : decode cX4_beginSweepIfDue 110 = .ok (.iload_n 2, 1) := by decide +kernel
theorem dX4_beginSweepIfDue_111 : decode cX4_beginSweepIfDue 111 = .ok (.iaload, 1) := by decide +kernel
theorem dX4_beginSweepIfDue_112 : decode cX4_beginSweepIfDue 112 = .ok (.invokestatic 28, 3) := by decide +kernel
theorem dX4_beginSweepIfDue_115 : decode cX4_beginSweepIfDue 115 = .ok (.iadd, 1) := by decide +kernel
theorem dX4_beginSweepIfDue_116 : decode cX4_beginSweepIfDue 116 = .ok (.istore_n 2, 1) := by decide +kernel
theorem dX4_beginSweepIfDue_117 : decode cX4_beginSweepIfDue 117 = .ok (.goto (-39), 3) := by decide +kernel
theorem dX4_beginSweepIfDue_120 : decode cX4_beginSweepIfDue 120 = .ok (.return_, 1) := by decide +kernel
theorem dX4_endSweep_0 : decode cX4_endSweep 0 = .ok (.aload_n 0, 1) := by decide +kernel
theorem dX4_endSweep_1 : decode cX4_endSweep 1 = .ok (.iconst (-1), 1) := by decide +kernel
theorem dX4_endSweep_2 : decode cX4_endSweep 2 = .ok (.putfield 9, 3) := by decide +kernel
theorem dX4_endSweep_5 : decode cX4_endSweep 5 = .ok (.aload_n 0, 1) := by decide +kernel
theorem dX4_endSweep_6 : decode cX4_endSweep 6 = .ok (.dup, 1) := by decide +kernel
theorem dX4_endSweep_7 : decode cX4_endSweep 7 = .ok (.getfield 46, 3) := by decide +kernel
theorem dX4_endSweep_10 : decode cX4_endSweep 10 = .ok (.iconst 1, 1) := by decide +kernel
theorem dX4_endSweep_11 : decode cX4_endSweep 11 = .ok (.iadd, 1) := by decide +kernel
theorem dX4_endSweep_12 : decode cX4_endSweep 12 = .ok (.putfield 46, 3) := by decide +kernel
theorem dX4_endSweep_15 : decode cX4_endSweep 15 = .ok (.aload_n 0, 1) := by decide +kernel
theorem dX4_endSweep_16 : decode cX4_endSweep 16 = .ok (.getfield 34, 3) := by decide +kernel
theorem dX4_endSweep_19 : decode cX4_endSweep 19 = .ok (.istore_n 3, 1) := by decide +kernel
theorem dX4_endSweep_20 : decode cX4_endSweep 20 = .ok (.iload_n 3, 1) := by decide +kernel
theorem dX4_endSweep_21 : decode cX4_endSweep 21 = .ok (.aload_n 0, 1) := by decide +kernel
theorem dX4_endSweep_22 : decode cX4_endSweep 22 = .ok (.getfield 15, 3) := by decide +kernel
theorem dX4_endSweep_25 : decode cX4_endSweep 25 = .ok (.arraylength, 1) := by decide +kernel
theorem dX4_endSweep_26 : decode cX4_endSweep 26 = .ok (.if_icmp .ge 63, 3) := by decide +kernel
theorem dX4_endSweep_29 : decode cX4_endSweep 29 = .ok (.aload_n 0, 1) := by decide +kernel
theorem dX4_endSweep_30 : decode cX4_endSweep 30 = .ok (.getfield 15, 3) := by decide +kernel
theorem dX4_endSweep_33 : decode cX4_endSweep 33 = .ok (.iload_n 3, 1) := by decide +kernel
theorem dX4_endSweep_34 : decode cX4_endSweep 34 = .ok (.iaload, 1) := by decide +kernel
theorem dX4_endSweep_35 : decode cX4_endSweep 35 = .ok (.istore_n 2, 1) := by decide +kernel
theorem dX4_endSweep_36 : decode cX4_endSweep 36 = .ok (.aload_n 0, 1) := by decide +kernel
theorem dX4_endSweep_37 : decode cX4_endSweep 37 = .ok (.getfield 19, 3) := by decide +kernel
theorem dX4_endSweep_40 : decode cX4_endSweep 40 = .ok (.iload_n 3, 1) := by decide +kernel
theorem dX4_endSweep_41 : decode cX4_endSweep 41 = .ok (.iaload, 1) := by decide +kernel
theorem dX4_endSweep_42 : decode cX4_endSweep 42 = .ok (.iconst 3, 1) := by decide +kernel
theorem dX4_endSweep_43 : decode cX4_endSweep 43 = .ok (.if_icmp .ne 35, 3) := by decide +kernel
theorem dX4_endSweep_46 : decode cX4_endSweep 46 = .ok (.aload_n 0, 1) := by decide +kernel
theorem dX4_endSweep_47 : decode cX4_endSweep 47 = .ok (.getfield 19, 3) := by decide +kernel
theorem dX4_endSweep_50 : decode cX4_endSweep 50 = .ok (.iload_n 3, 1) := by decide +kernel
theorem dX4_endSweep_51 : decode cX4_endSweep 51 = .ok (.iconst 0, 1) := by decide +kernel
theorem dX4_endSweep_52 : decode cX4_endSweep 52 = .ok (.iastore, 1) := by decide +kernel
theorem dX4_endSweep_53 : decode cX4_endSweep 53 = .ok (.aload_n 0, 1) := by decide +kernel
theorem dX4_endSweep_54 : decode cX4_endSweep 54 = .ok (.getfield 15, 3) := by decide +kernel
theorem dX4_endSweep_57 : decode cX4_endSweep 57 = .ok (.iload_n 3, 1) := by decide +kernel
theorem dX4_endSweep_58 : decode cX4_endSweep 58 = .ok (.iconst 0, 1) := by decide +kernel
theorem dX4_endSweep_59 : decode cX4_endSweep 59 = .ok (.iastore, 1) := by decide +kernel
theorem dX4_endSweep_60 : decode cX4_endSweep 60 = .ok (.aload_n 0, 1) := by decide +kernel
theorem dX4_endSweep_61 : decode cX4_endSweep 61 = .ok (.dup, 1) := by decide +kernel
theorem dX4_endSweep_62 : decode cX4_endSweep 62 = .ok (.getfield 43, 3) := by decide +kernel
theorem dX4_endSweep_65 : decode cX4_endSweep 65 = .ok (.iload_n 2, 1) := by decide +kernel
theorem dX4_endSweep_66 : decode cX4_endSweep 66 = .ok (.isub, 1) := by decide +kernel
theorem dX4_endSweep_67 : decode cX4_endSweep 67 = .ok (.putfield 43, 3) := by decide +kernel
theorem dX4_endSweep_70 : decode cX4_endSweep 70 = .ok (.aload_n 0, 1) := by decide +kernel
theorem dX4_endSweep_71 : decode cX4_endSweep 71 = .ok (.aload_n 1, 1) := by decide +kernel
theorem dX4_endSweep_72 : decode cX4_endSweep 72 = .ok (.iload_n 3, 1) := by decide +kernel
theorem dX4_endSweep_73 : decode cX4_endSweep 73 = .ok (.iload_n 2, 1) := by decide +kernel
theorem dX4_endSweep_74 : decode cX4_endSweep 74 = .ok (.iconst 0, 1) := by decide +kernel
theorem dX4_endSweep_75 : decode cX4_endSweep 75 = .ok (.invokevirtual 65, 3) := by decide +kernel
theorem dX4_endSweep_78 : decode cX4_endSweep 78 = .ok (.iload_n 3, 1) := by decide +kernel
theorem dX4_endSweep_79 : decode cX4_endSweep 79 = .ok (.iconst 1, 1) := by decide +kernel
theorem dX4_endSweep_80 : decode cX4_endSweep 80 = .ok (.iload_n 2, 1) := by decide +kernel
theorem dX4_endSweep_81 : decode cX4_endSweep 81 = .ok (.invokestatic 28, 3) := by decide +kernel
theorem dX4_endSweep_84 : decode cX4_endSweep 84 = .ok (.iadd, 1) := by decide +kernel
theorem dX4_endSweep_85 : decode cX4_endSweep 85 = .ok (.istore_n 3, 1) := by decide +kernel
theorem dX4_endSweep_86 : decode cX4_endSweep 86 = .ok (.goto (-66), 3) := by decide +kernel
theorem dX4_endSweep_89 : decode cX4_endSweep 89 = .ok (.return_, 1) := by decide +kernel
theorem dX4_revoke_0 : decode cX4_revoke 0 = .ok (.iconst 0, 1) := by decide +kernel
theorem dX4_revoke_1 : decode cX4_revoke 1 = .ok (.istore 5, 2) := by decide +kernel
theorem dX4_revoke_3 : decode cX4_revoke 3 = .ok (.iload 5, 2) := by decide +kernel
theorem dX4_revoke_5 : decode cX4_revoke 5 = .ok (.iload_n 3, 1) := by decide +kernel
theorem dX4_revoke_6 : decode cX4_revoke 6 = .ok (.if_icmp .ge 23, 3) := by decide +kernel
theorem dX4_revoke_9 : decode cX4_revoke 9 = .ok (.aload_n 1, 1) := by decide +kernel
theorem dX4_revoke_10 : decode cX4_revoke 10 = .ok (.iload_n 2, 1) := by decide +kernel
theorem dX4_revoke_11 : decode cX4_revoke 11 = .ok (.iload 5, 2) := by decide +kernel
theorem dX4_revoke_13 : decode cX4_revoke 13 = .ok (.iadd, 1) := by decide +kernel
theorem dX4_revoke_14 : decode cX4_revoke 14 = .ok (.bipush 16, 2) := by decide +kernel
theorem dX4_revoke_16 : decode cX4_revoke 16 = .ok (.imul, 1) := by decide +kernel
theorem dX4_revoke_17 : decode cX4_revoke 17 = .ok (.iconst 2, 1) := by decide +kernel
theorem dX4_revoke_18 : decode cX4_revoke 18 = .ok (.iload 4, 2) := by decide +kernel
theorem dX4_revoke_20 : decode cX4_revoke 20 = .ok (.invokevirtual 71, 3) := by decide +kernel
theorem dX4_revoke_23 : decode cX4_revoke 23 = .ok (.iinc 5 1, 3) := by decide +kernel
theorem dX4_revoke_26 : decode cX4_revoke 26 = .ok (.goto (-23), 3) := by decide +kernel
theorem dX4_revoke_29 : decode cX4_revoke 29 = .ok (.return_, 1) := by decide +kernel
theorem dX4_placeOf_0 : decode cX4_placeOf 0 = .ok (.iload_n 1, 1) := by decide +kernel
theorem dX4_placeOf_1 : decode cX4_placeOf 1 = .ok (.istore_n 2, 1) := by decide +kernel
theorem dX4_placeOf_2 : decode cX4_placeOf 2 = .ok (.aload_n 0, 1) := by decide +kernel
theorem dX4_placeOf_3 : decode cX4_placeOf 3 = .ok (.getfield 34, 3) := by decide +kernel
theorem dX4_placeOf_6 : decode cX4_placeOf 6 = .ok (.istore_n 3, 1) := by decide +kernel
theorem dX4_placeOf_7 : decode cX4_placeOf 7 = .ok (.iload_n 3, 1) := by decide +kernel
theorem dX4_placeOf_8 : decode cX4_placeOf 8 = .ok (.aload_n 0, 1) := by decide +kernel
theorem dX4_placeOf_9 : decode cX4_placeOf 9 = .ok (.getfield 15, 3) := by decide +kernel
theorem dX4_placeOf_12 : decode cX4_placeOf 12 = .ok (.arraylength, 1) := by decide +kernel
theorem dX4_placeOf_13 : decode cX4_placeOf 13 = .ok (.if_icmp .ge 41, 3) := by decide +kernel
theorem dX4_placeOf_16 : decode cX4_placeOf 16 = .ok (.aload_n 0, 1) := by decide +kernel
theorem dX4_placeOf_17 : decode cX4_placeOf 17 = .ok (.getfield 19, 3) := by decide +kernel
theorem dX4_placeOf_20 : decode cX4_placeOf 20 = .ok (.iload_n 3, 1) := by decide +kernel
theorem dX4_placeOf_21 : decode cX4_placeOf 21 = .ok (.iaload, 1) := by decide +kernel
theorem dX4_placeOf_22 : decode cX4_placeOf 22 = .ok (.iconst 1, 1) := by decide +kernel
theorem dX4_placeOf_23 : decode cX4_placeOf 23 = .ok (.if_icmp .ne 15, 3) := by decide +kernel
theorem dX4_placeOf_26 : decode cX4_placeOf 26 = .ok (.iload_n 2, 1) := by decide +kernel
theorem dX4_placeOf_27 : decode cX4_placeOf 27 = .ok (.ifCond .ne 8, 3) := by decide +kernel
theorem dX4_placeOf_30 : decode cX4_placeOf 30 = .ok (.iload_n 3, 1) := by decide +kernel
theorem dX4_placeOf_31 : decode cX4_placeOf 31 = .ok (.bipush 16, 2) := by decide +kernel
theorem dX4_placeOf_33 : decode cX4_placeOf 33 = .ok (.imul, 1) := by decide +kernel
theorem dX4_placeOf_34 : decode cX4_placeOf 34 = .ok (.ireturn, 1) := by decide +kernel
theorem dX4_placeOf_35 : decode cX4_placeOf 35 = .ok (.iinc 2 (-1), 3) := by decide +kernel
theorem dX4_placeOf_38 : decode cX4_placeOf 38 = .ok (.iload_n 3, 1) := by decide +kernel
theorem dX4_placeOf_39 : decode cX4_placeOf 39 = .ok (.iconst 1, 1) := by decide +kernel
theorem dX4_placeOf_40 : decode cX4_placeOf 40 = .ok (.aload_n 0, 1) := by decide +kernel
theorem dX4_placeOf_41 : decode cX4_placeOf 41 = .ok (.getfield 15, 3) := by decide +kernel
theorem dX4_placeOf_44 : decode cX4_placeOf 44 = .ok (.iload_n 3, 1) := by decide +kernel
theorem dX4_placeOf_45 : decode cX4_placeOf 45 = .ok (.iaload, 1) := by decide +kernel
theorem dX4_placeOf_46 : decode cX4_placeOf 46 = .ok (.invokestatic 28, 3) := by decide +kernel
theorem dX4_placeOf_49 : decode cX4_placeOf 49 = .ok (.iadd, 1) := by decide +kernel
theorem dX4_placeOf_50 : decode cX4_placeOf 50 = .ok (.istore_n 3, 1) := by decide +kernel
theorem dX4_placeOf_51 : decode cX4_placeOf 51 = .ok (.goto (-44), 3) := by decide +kernel
theorem dX4_placeOf_54 : decode cX4_placeOf 54 = .ok (.iconst (-1), 1) := by decide +kernel
theorem dX4_placeOf_55 : decode cX4_placeOf 55 = .ok (.ireturn, 1) := by decide +kernel
theorem dX4_part_0 : decode cX4_part 0 = .ok (.iload_n 1, 1) := by decide +kernel
theorem dX4_part_1 : decode cX4_part 1 = .ok (.tableswitch 87 0 6 #[43, 51, 56, 64, 72, 77, 82], 43) := by decide +kernel
theorem dX4_part_44 : decode cX4_part 44 = .ok (.aload_n 0, 1) := by decide +kernel
theorem dX4_part_45 : decode cX4_part 45 = .ok (.getfield 34, 3) := by decide +kernel
theorem dX4_part_48 : decode cX4_part 48 = .ok (.bipush 16, 2) := by decide +kernel
theorem dX4_part_50 : decode cX4_part 50 = .ok (.imul, 1) := by decide +kernel
theorem dX4_part_51 : decode cX4_part 51 = .ok (.ireturn, 1) := by decide +kernel
theorem dX4_part_52 : decode cX4_part 52 = .ok (.aload_n 0, 1) := by decide +kernel
theorem dX4_part_53 : decode cX4_part 53 = .ok (.getfield 37, 3) := by decide +kernel
theorem dX4_part_56 : decode cX4_part 56 = .ok (.ireturn, 1) := by decide +kernel
theorem dX4_part_57 : decode cX4_part 57 = .ok (.aload_n 0, 1) := by decide +kernel
theorem dX4_part_58 : decode cX4_part 58 = .ok (.getfield 40, 3) := by decide +kernel
theorem dX4_part_61 : decode cX4_part 61 = .ok (.bipush 16, 2) := by decide +kernel
theorem dX4_part_63 : decode cX4_part 63 = .ok (.imul, 1) := by decide +kernel
theorem dX4_part_64 : decode cX4_part 64 = .ok (.ireturn, 1) := by decide +kernel
theorem dX4_part_65 : decode cX4_part 65 = .ok (.aload_n 0, 1) := by decide +kernel
theorem dX4_part_66 : decode cX4_part 66 = .ok (.getfield 43, 3) := by decide +kernel
theorem dX4_part_69 : decode cX4_part 69 = .ok (.bipush 16, 2) := by decide +kernel
theorem dX4_part_71 : decode cX4_part 71 = .ok (.imul, 1) := by decide +kernel
theorem dX4_part_72 : decode cX4_part 72 = .ok (.ireturn, 1) := by decide +kernel
theorem dX4_part_73 : decode cX4_part 73 = .ok (.aload_n 0, 1) := by decide +kernel
theorem dX4_part_74 : decode cX4_part 74 = .ok (.invokevirtual 75, 3) := by decide +kernel
theorem dX4_part_77 : decode cX4_part 77 = .ok (.ireturn, 1) := by decide +kernel
theorem dX4_part_78 : decode cX4_part 78 = .ok (.aload_n 0, 1) := by decide +kernel
theorem dX4_part_79 : decode cX4_part 79 = .ok (.getfield 46, 3) := by decide +kernel
theorem dX4_part_82 : decode cX4_part 82 = .ok (.ireturn, 1) := by decide +kernel
theorem dX4_part_83 : decode cX4_part 83 = .ok (.aload_n 0, 1) := by decide +kernel
theorem dX4_part_84 : decode cX4_part 84 = .ok (.getfield 9, 3) := by decide +kernel
theorem dX4_part_87 : decode cX4_part 87 = .ok (.ireturn, 1) := by decide +kernel
theorem dX4_part_88 : decode cX4_part 88 = .ok (.iload_n 1, 1) := by decide +kernel
theorem dX4_part_89 : decode cX4_part 89 = .ok (.bipush 8, 2) := by decide +kernel
theorem dX4_part_91 : decode cX4_part 91 = .ok (.if_icmp .lt 14, 3) := by decide +kernel
theorem dX4_part_94 : decode cX4_part 94 = .ok (.aload_n 0, 1) := by decide +kernel
theorem dX4_part_95 : decode cX4_part 95 = .ok (.iload_n 1, 1) := by decide +kernel
theorem dX4_part_96 : decode cX4_part 96 = .ok (.bipush 8, 2) := by decide +kernel
theorem dX4_part_98 : decode cX4_part 98 = .ok (.isub, 1) := by decide +kernel
theorem dX4_part_99 : decode cX4_part 99 = .ok (.invokevirtual 78, 3) := by decide +kernel
theorem dX4_part_102 : decode cX4_part 102 = .ok (.goto 4, 3) := by decide +kernel
theorem dX4_part_105 : decode cX4_part 105 = .ok (.iconst (-1), 1) := by decide +kernel
theorem dX4_part_106 : decode cX4_part 106 = .ok (.ireturn, 1) := by decide +kernel
theorem dX5_init_0 : decode cX5_init 0 = .ok (.aload_n 0, 1) := by decide +kernel
theorem dX5_init_1 : decode cX5_init 1 = .ok (.invokespecial 3, 3) := by decide +kernel
theorem dX5_init_4 : decode cX5_init 4 = .ok (.aload_n 0, 1) := by decide +kernel
theorem dX5_init_5 : decode cX5_init 5 = .ok (.sipush 5000, 3) := by decide +kernel
theorem dX5_init_8 : decode cX5_init 8 = .ok (.newarray .byte, 2) := by decide +kernel
theorem dX5_init_10 : decode cX5_init 10 = .ok (.putfield 11, 3) := by decide +kernel
theorem dX5_init_13 : decode cX5_init 13 = .ok (.aload_n 0, 1) := by decide +kernel
theorem dX5_init_14 : decode cX5_init 14 = .ok (.iconst (-1), 1) := by decide +kernel
theorem dX5_init_15 : decode cX5_init 15 = .ok (.putfield 15, 3) := by decide +kernel
theorem dX5_init_18 : decode cX5_init 18 = .ok (.return_, 1) := by decide +kernel
theorem dX5_hasRoom_0 : decode cX5_hasRoom 0 = .ok (.aload_n 0, 1) := by decide +kernel
theorem dX5_hasRoom_1 : decode cX5_hasRoom 1 = .ok (.getfield 19, 3) := by decide +kernel
theorem dX5_hasRoom_4 : decode cX5_hasRoom 4 = .ok (.iload_n 1, 1) := by decide +kernel
theorem dX5_hasRoom_5 : decode cX5_hasRoom 5 = .ok (.iadd, 1) := by decide +kernel
theorem dX5_hasRoom_6 : decode cX5_hasRoom 6 = .ok (.sipush 5000, 3) := by decide +kernel
theorem dX5_hasRoom_9 : decode cX5_hasRoom 9 = .ok (.if_icmp .gt 7, 3) := by decide +kernel
theorem dX5_hasRoom_12 : decode cX5_hasRoom 12 = .ok (.iconst 1, 1) := by decide +kernel
theorem dX5_hasRoom_13 : decode cX5_hasRoom 13 = .ok (.goto 4, 3) := by decide +kernel
theorem dX5_hasRoom_16 : decode cX5_hasRoom 16 = .ok (.iconst 0, 1) := by decide +kernel
theorem dX5_hasRoom_17 : decode cX5_hasRoom 17 = .ok (.ireturn, 1) := by decide +kernel
theorem dX5_append_0 : decode cX5_append 0 = .ok (.bipush 24, 2) := by decide +kernel
theorem dX5_append_2 : decode cX5_append 2 = .ok (.istore_n 2, 1) := by decide +kernel
theorem dX5_append_3 : decode cX5_append 3 = .ok (.iload_n 2, 1) := by decide +kernel
theorem dX5_append_4 : decode cX5_append 4 = .ok (.ifCond .lt 49, 3) := by decide +kernel
theorem dX5_append_7 : decode cX5_append 7 = .ok (.aload_n 0, 1) := by decide +kernel
theorem dX5_append_8 : decode cX5_append 8 = .ok (.getfield 19, 3) := by decide +kernel
theorem dX5_append_11 : decode cX5_append 11 = .ok (.ifCond .lt 36, 3) := by decide +kernel
theorem dX5_append_14 : decode cX5_append 14 = .ok (.aload_n 0, 1) := by decide +kernel
theorem dX5_append_15 : decode cX5_append 15 = .ok (.getfield 19, 3) := by decide +kernel
theorem dX5_append_18 : decode cX5_append 18 = .ok (.sipush 5000, 3) := by decide +kernel
theorem dX5_append_21 : decode cX5_append 21 = .ok (.if_icmp .ge 26, 3) := by decide +kernel
theorem dX5_append_24 : decode cX5_append 24 = .ok (.aload_n 0, 1) := by decide +kernel
theorem dX5_append_25 : decode cX5_append 25 = .ok (.getfield 11, 3) := by decide +kernel
theorem dX5_append_28 : decode cX5_append 28 = .ok (.aload_n 0, 1) := by decide +kernel
theorem dX5_append_29 : decode cX5_append 29 = .ok (.getfield 19, 3) := by decide +kernel
theorem dX5_append_32 : decode cX5_append 32 = .ok (.iload_n 1, 1) := by decide +kernel
theorem dX5_append_33 : decode cX5_append 33 = .ok (.iload_n 2, 1) := by decide +kernel
theorem dX5_append_34 : decode cX5_append 34 = .ok (.iushr, 1) := by decide +kernel
theorem dX5_append_35 : decode cX5_append 35 = .ok (.i2b, 1) := by decide +kernel
theorem dX5_append_36 : decode cX5_append 36 = .ok (.bastore, 1) := by decide +kernel
theorem dX5_append_37 : decode cX5_append 37 = .ok (.aload_n 0, 1) := by decide +kernel
theorem dX5_append_38 : decode cX5_append 38 = .ok (.dup, 1) := by decide +kernel
theorem dX5_append_39 : decode cX5_append 39 = .ok (.getfield 19, 3) := by decide +kernel
theorem dX5_append_42 : decode cX5_append 42 = .ok (.iconst 1, 1) := by decide +kernel
theorem dX5_append_43 : decode cX5_append 43 = .ok (.iadd, 1) := by decide +kernel
theorem dX5_append_44 : decode cX5_append 44 = .ok (.putfield 19, 3) := by decide +kernel
theorem dX5_append_47 : decode cX5_append 47 = .ok (.iinc 2 (-8), 3) := by decide +kernel
theorem dX5_append_50 : decode cX5_append 50 = .ok (.goto (-47), 3) := by decide +kernel
theorem dX5_append_53 : decode cX5_append 53 = .ok (.return_, 1) := by decide +kernel
theorem dX5_byteAt_0 : decode cX5_byteAt 0 = .ok (.iload_n 1, 1) := by decide +kernel
theorem dX5_byteAt_1 : decode cX5_byteAt 1 = .ok (.ifCond .lt 23, 3) := by decide +kernel
theorem dX5_byteAt_4 : decode cX5_byteAt 4 = .ok (.iload_n 1, 1) := by decide +kernel
theorem dX5_byteAt_5 : decode cX5_byteAt 5 = .ok (.sipush 5000, 3) := by decide +kernel
theorem dX5_byteAt_8 : decode cX5_byteAt 8 = .ok (.if_icmp .ge 16, 3) := by decide +kernel
theorem dX5_byteAt_11 : decode cX5_byteAt 11 = .ok (.aload_n 0, 1) := by decide +kernel
theorem dX5_byteAt_12 : decode cX5_byteAt 12 = .ok (.getfield 11, 3) := by decide +kernel
theorem dX5_byteAt_15 : decode cX5_byteAt 15 = .ok (.iload_n 1, 1) := by decide +kernel
theorem dX5_byteAt_16 : decode cX5_byteAt 16 = .ok (.baload, 1) := by decide +kernel
theorem dX5_byteAt_17 : decode cX5_byteAt 17 = .ok (.sipush 255, 3) := by decide +kernel
theorem dX5_byteAt_20 : decode cX5_byteAt 20 = .ok (.iand, 1) := by decide +kernel
theorem dX5_byteAt_21 : decode cX5_byteAt 21 = .ok (.goto 4, 3) := by decide +kernel
theorem dX5_byteAt_24 : decode cX5_byteAt 24 = .ok (.iconst 0, 1) := by decide +kernel
theorem dX5_byteAt_25 : decode cX5_byteAt 25 = .ok (.ireturn, 1) := by decide +kernel
theorem dX5_load_0 : decode cX5_load 0 = .ok (.aload_n 1, 1) := by decide +kernel
theorem dX5_load_1 : decode cX5_load 1 = .ok (.invokevirtual 22, 3) := by decide +kernel
theorem dX5_load_4 : decode cX5_load 4 = .ok (.aload_n 0, 1) := by decide +kernel
theorem dX5_load_5 : decode cX5_load 5 = .ok (.iconst 0, 1) := by decide +kernel
theorem dX5_load_6 : decode cX5_load 6 = .ok (.putfield 27, 3) := by decide +kernel
theorem dX5_load_9 : decode cX5_load 9 = .ok (.aload_n 0, 1) := by decide +kernel
theorem dX5_load_10 : decode cX5_load 10 = .ok (.iload_n 2, 1) := by decide +kernel
theorem dX5_load_11 : decode cX5_load 11 = .ok (.putfield 30, 3) := by decide +kernel
theorem dX5_load_14 : decode cX5_load 14 = .ok (.aload_n 0, 1) := by decide +kernel
theorem dX5_load_15 : decode cX5_load 15 = .ok (.iconst 0, 1) := by decide +kernel
theorem dX5_load_16 : decode cX5_load 16 = .ok (.putfield 19, 3) := by decide +kernel
theorem dX5_load_19 : decode cX5_load 19 = .ok (.aload_n 0, 1) := by decide +kernel
theorem dX5_load_20 : decode cX5_load 20 = .ok (.iconst 0, 1) := by decide +kernel
theorem dX5_load_21 : decode cX5_load 21 = .ok (.putfield 33, 3) := by decide +kernel
theorem dX5_load_24 : decode cX5_load 24 = .ok (.aload_n 0, 1) := by decide +kernel
theorem dX5_load_25 : decode cX5_load 25 = .ok (.iconst (-1), 1) := by decide +kernel
theorem dX5_load_26 : decode cX5_load 26 = .ok (.putfield 15, 3) := by decide +kernel
theorem dX5_load_29 : decode cX5_load 29 = .ok (.aload_n 0, 1) := by decide +kernel
theorem dX5_load_30 : decode cX5_load 30 = .ok (.aload_n 1, 1) := by decide +kernel
theorem dX5_load_31 : decode cX5_load 31 = .ok (.invokevirtual 36, 3) := by decide +kernel
theorem dX5_load_34 : decode cX5_load 34 = .ok (.aload_n 0, 1) := by decide +kernel
theorem dX5_load_35 : decode cX5_load 35 = .ok (.getfield 33, 3) := by decide +kernel
theorem dX5_load_38 : decode cX5_load 38 = .ok (.ifCond .ne 8, 3) := by decide +kernel
theorem dX5_load_41 : decode cX5_load 41 = .ok (.aload_n 0, 1) := by decide +kernel
theorem dX5_load_42 : decode cX5_load 42 = .ok (.aload_n 1, 1) := by decide +kernel
theorem dX5_load_43 : decode cX5_load 43 = .ok (.invokevirtual 40, 3) := by decide +kernel
theorem dX5_load_46 : decode cX5_load 46 = .ok (.aload_n 0, 1) := by decide +kernel
theorem dX5_load_47 : decode cX5_load 47 = .ok (.getfield 33, 3) := by decide +kernel
theorem dX5_load_50 : decode cX5_load 50 = .ok (.ifCond .ne 23, 3) := by decide +kernel
theorem dX5_load_53 : decode cX5_load 53 = .ok (.aload_n 0, 1) := by decide +kernel
theorem dX5_load_54 : decode cX5_load 54 = .ok (.getfield 27, 3) := by decide +kernel
theorem dX5_load_57 : decode cX5_load 57 = .ok (.aload_n 0, 1) := by decide +kernel
theorem dX5_load_58 : decode cX5_load 58 = .ok (.getfield 30, 3) := by decide +kernel
theorem dX5_load_61 : decode cX5_load 61 = .ok (.if_icmp .eq 12, 3) := by decide +kernel
theorem dX5_load_64 : decode cX5_load 64 = .ok (.aload_n 0, 1) := by decide +kernel
theorem dX5_load_65 : decode cX5_load 65 = .ok (.iconst 4, 1) := by decide +kernel
theorem dX5_load_66 : decode cX5_load 66 = .ok (.aload_n 0, 1) := by decide +kernel
theorem dX5_load_67 : decode cX5_load 67 = .ok (.getfield 27, 3) := by decide +kernel
theorem dX5_load_70 : decode cX5_load 70 = .ok (.invokevirtual 43, 3) := by decide +kernel
theorem dX5_load_73 : decode cX5_load 73 = .ok (.aload_n 0, 1) := by decide +kernel
theorem dX5_load_74 : decode cX5_load 74 = .ok (.getfield 33, 3) := by decide +kernel
theorem dX5_load_77 : decode cX5_load 77 = .ok (.ifCond .ne 8, 3) := by decide +kernel
theorem dX5_load_80 : decode cX5_load 80 = .ok (.aload_n 0, 1) := by decide +kernel
theorem dX5_load_81 : decode cX5_load 81 = .ok (.aload_n 1, 1) := by decide +kernel
theorem dX5_load_82 : decode cX5_load 82 = .ok (.invokevirtual 47, 3) := by decide +kernel
theorem dX5_load_85 : decode cX5_load 85 = .ok (.aload_n 0, 1) := by decide +kernel
theorem dX5_load_86 : decode cX5_load 86 = .ok (.getfield 33, 3) := by decide +kernel
theorem dX5_load_89 : decode cX5_load 89 = .ok (.ifCond .ne 8, 3) := by decide +kernel
theorem dX5_load_92 : decode cX5_load 92 = .ok (.aload_n 0, 1) := by decide +kernel
theorem dX5_load_93 : decode cX5_load 93 = .ok (.aload_n 1, 1) := by decide +kernel
theorem dX5_load_94 : decode cX5_load 94 = .ok (.invokevirtual 50, 3) := by decide +kernel
theorem dX5_load_97 : decode cX5_load 97 = .ok (.aload_n 0, 1) := by decide +kernel
theorem dX5_load_98 : decode cX5_load 98 = .ok (.getfield 33, 3) := by decide +kernel
theorem dX5_load_101 : decode cX5_load 101 = .ok (.ireturn, 1) := by decide +kernel
theorem dX5_fail_0 : decode cX5_fail 0 = .ok (.aload_n 0, 1) := by decide +kernel
theorem dX5_fail_1 : decode cX5_fail 1 = .ok (.getfield 33, 3) := by decide +kernel
theorem dX5_fail_4 : decode cX5_fail 4 = .ok (.ifCond .ne 13, 3) := by decide +kernel
theorem dX5_fail_7 : decode cX5_fail 7 = .ok (.aload_n 0, 1) := by decide +kernel
theorem dX5_fail_8 : decode cX5_fail 8 = .ok (.iload_n 1, 1) := by decide +kernel
theorem dX5_fail_9 : decode cX5_fail 9 = .ok (.putfield 33, 3) := by decide +kernel
theorem dX5_fail_12 : decode cX5_fail 12 = .ok (.aload_n 0, 1) := by decide +kernel
theorem dX5_fail_13 : decode cX5_fail 13 = .ok (.iload_n 2, 1) := by decide +kernel
theorem dX5_fail_14 : decode cX5_fail 14 = .ok (.putfield 15, 3) := by decide +kernel
theorem dX5_fail_17 : decode cX5_fail 17 = .ok (.return_, 1) := by decide +kernel
theorem dX5_number_0 : decode cX5_number 0 = .ok (.aload_n 0, 1) := by decide +kernel
theorem dX5_number_1 : decode cX5_number 1 = .ok (.getfield 33, 3) := by decide +kernel
theorem dX5_number_4 : decode cX5_number 4 = .ok (.ifCond .eq 5, 3) := by decide +kernel
theorem dX5_number_7 : decode cX5_number 7 = .ok (.iload_n 2, 1) := by decide +kernel
theorem dX5_number_8 : decode cX5_number 8 = .ok (.ireturn, 1) := by decide +kernel
theorem dX5_number_9 : decode cX5_number 9 = .ok (.aload_n 0, 1) := by decide +kernel
theorem dX5_number_10 : decode cX5_number 10 = .ok (.getfield 27, 3) := by decide +kernel
theorem dX5_number_13 : decode cX5_number 13 = .ok (.iload_n 1, 1) := by decide +kernel
theorem dX5_number_14 : decode cX5_number 14 = .ok (.iadd, 1) := by decide +kernel
theorem dX5_number_15 : decode cX5_number 15 = .ok (.aload_n 0, 1) := by decide +kernel
theorem dX5_number_16 : decode cX5_number 16 = .ok (.getfield 30, 3) := by decide +kernel
theorem dX5_number_19 : decode cX5_number 19 = .ok (.if_icmp .le 14, 3) := by decide +kernel
theorem dX5_number_22 : decode cX5_number 22 = .ok (.aload_n 0, 1) := by decide +kernel
theorem dX5_number_23 : decode cX5_number 23 = .ok (.iconst 1, 1) := by decide +kernel
theorem dX5_number_24 : decode cX5_number 24 = .ok (.aload_n 0, 1) := by decide +kernel
theorem dX5_number_25 : decode cX5_number 25 = .ok (.getfield 30, 3) := by decide +kernel
theorem dX5_number_28 : decode cX5_number 28 = .ok (.invokevirtual 43, 3) := by decide +kernel
theorem dX5_number_31 : decode cX5_number 31 = .ok (.iload_n 2, 1) := by decide +kernel
theorem dX5_number_32 : decode cX5_number 32 = .ok (.ireturn, 1) := by decide +kernel
theorem dX5_number_33 : decode cX5_number 33 = .ok (.iload_n 1, 1) := by decide +kernel
theorem dX5_number_34 : decode cX5_number 34 = .ok (.iconst 2, 1) := by decide +kernel
theorem dX5_number_35 : decode cX5_number 35 = .ok (.if_icmp .ne 29, 3) := by decide +kernel
theorem dX5_number_38 : decode cX5_number 38 = .ok (.aload_n 0, 1) := by decide +kernel
theorem dX5_number_39 : decode cX5_number 39 = .ok (.aload_n 0, 1) := by decide +kernel
theorem dX5_number_40 : decode cX5_number 40 = .ok (.getfield 27, 3) := by decide +kernel
theorem dX5_number_43 : decode cX5_number 43 = .ok (.invokevirtual 53, 3) := by decide +kernel
theorem dX5_number_46 : decode cX5_number 46 = .ok (.sipush 256, 3) := by decide +kernel
theorem dX5_number_49 : decode cX5_number 49 = .ok (.aload_n 0, 1) := by decide +kernel
theorem dX5_number_50 : decode cX5_number 50 = .ok (.aload_n 0, 1) := by decide +kernel
theorem dX5_number_51 : decode cX5_number 51 = .ok (.getfield 27, 3) := by decide +kernel
theorem dX5_number_54 : decode cX5_number 54 = .ok (.iconst 1, 1) := by decide +kernel
theorem dX5_number_55 : decode cX5_number 55 = .ok (.iadd, 1) := by decide +kernel
theorem dX5_number_56 : decode cX5_number 56 = .ok (.invokevirtual 53, 3) := by decide +kernel
theorem dX5_number_59 : decode cX5_number 59 = .ok (.imul, 1) := by decide +kernel
theorem dX5_number_60 : decode cX5_number 60 = .ok (.iadd, 1) := by decide +kernel
theorem dX5_number_61 : decode cX5_number 61 = .ok (.goto 11, 3) := by decide +kernel
theorem dX5_number_64 : decode cX5_number 64 = .ok (.aload_n 0, 1) := by decide +kernel
theorem dX5_number_65 : decode cX5_number 65 = .ok (.aload_n 0, 1) := by decide +kernel
theorem dX5_number_66 : decode cX5_number 66 = .ok (.getfield 27, 3) := by decide +kernel
theorem dX5_number_69 : decode cX5_number 69 = .ok (.invokevirtual 53, 3) := by decide +kernel
theorem dX5_number_72 : decode cX5_number 72 = .ok (.istore 4, 2) := by decide +kernel
theorem dX5_number_74 : decode cX5_number 74 = .ok (.iload 4, 2) := by decide +kernel
theorem dX5_number_76 : decode cX5_number 76 = .ok (.iload_n 2, 1) := by decide +kernel
theorem dX5_number_77 : decode cX5_number 77 = .ok (.if_icmp .lt 9, 3) := by decide +kernel
theorem dX5_number_80 : decode cX5_number 80 = .ok (.iload 4, 2) := by decide +kernel
theorem dX5_number_82 : decode cX5_number 82 = .ok (.iload_n 3, 1) := by decide +kernel
theorem dX5_number_83 : decode cX5_number 83 = .ok (.if_icmp .le 14, 3) := by decide +kernel
theorem dX5_number_86 : decode cX5_number 86 = .ok (.aload_n 0, 1) := by decide +kernel
theorem dX5_number_87 : decode cX5_number 87 = .ok (.iconst 2, 1) := by decide +kernel
theorem dX5_number_88 : decode cX5_number 88 = .ok (.aload_n 0, 1) := by decide +kernel
theorem dX5_number_89 : decode cX5_number 89 = .ok (.getfield 27, 3) := by decide +kernel
theorem dX5_number_92 : decode cX5_number 92 = .ok (.invokevirtual 43, 3) := by decide +kernel
theorem dX5_number_95 : decode cX5_number 95 = .ok (.iload_n 2, 1) := by decide +kernel
theorem dX5_number_96 : decode cX5_number 96 = .ok (.ireturn, 1) := by decide +kernel
theorem dX5_number_97 : decode cX5_number 97 = .ok (.aload_n 0, 1) := by decide +kernel
theorem dX5_number_98 : decode cX5_number 98 = .ok (.dup, 1) := by decide +kernel
theorem dX5_number_99 : decode cX5_number 99 = .ok (.getfield 27, 3) := by decide +kernel
theorem dX5_number_102 : decode cX5_number 102 = .ok (.iload_n 1, 1) := by decide +kernel
theorem dX5_number_103 : decode cX5_number 103 = .ok (.iadd, 1) := by decide +kernel
theorem dX5_number_104 : decode cX5_number 104 = .ok (.putfield 27, 3) := by decide +kernel
theorem dX5_number_107 : decode cX5_number 107 = .ok (.iload 4, 2) := by decide +kernel
theorem dX5_number_109 : decode cX5_number 109 = .ok (.ireturn, 1) := by decide +kernel
theorem dX5_readImage_0 : decode cX5_readImage 0 = .ok (.aload_n 0, 1) := by decide +kernel
theorem dX5_readImage_1 : decode cX5_readImage 1 = .ok (.aload_n 0, 1) := by decide +kernel
theorem dX5_readImage_2 : decode cX5_readImage 2 = .ok (.iconst 1, 1) := by decide +kernel
theorem dX5_readImage_3 : decode cX5_readImage 3 = .ok (.iconst 1, 1) := by decide +kernel
theorem dX5_readImage_4 : decode cX5_readImage 4 = .ok (.bipush 8, 2) := by decide +kernel
theorem dX5_readImage_6 : decode cX5_readImage 6 = .ok (.invokevirtual 57, 3) := by decide +kernel
theorem dX5_readImage_9 : decode cX5_readImage 9 = .ok (.putfield 61, 3) := by decide +kernel
theorem dX5_readImage_12 : decode cX5_readImage 12 = .ok (.aload_n 0, 1) := by decide +kernel
theorem dX5_readImage_13 : decode cX5_readImage 13 = .ok (.aload_n 0, 1) := by decide +kernel
theorem dX5_readImage_14 : decode cX5_readImage 14 = .ok (.iconst 1, 1) := by decide +kernel
theorem dX5_readImage_15 : decode cX5_readImage 15 = .ok (.iconst 1, 1) := by decide +kernel
theorem dX5_readImage_16 : decode cX5_readImage 16 = .ok (.bipush 6, 2) := by decide +kernel
theorem dX5_readImage_18 : decode cX5_readImage 18 = .ok (.invokevirtual 57, 3) := by decide +kernel
theorem dX5_readImage_21 : decode cX5_readImage 21 = .ok (.putfield 64, 3) := by decide +kernel
theorem dX5_readImage_24 : decode cX5_readImage 24 = .ok (.iconst 0, 1) := by decide +kernel
theorem dX5_readImage_25 : decode cX5_readImage 25 = .ok (.istore_n 2, 1) := by decide +kernel
theorem dX5_readImage_26 : decode cX5_readImage 26 = .ok (.iload_n 2, 1) := by decide +kernel
theorem dX5_readImage_27 : decode cX5_readImage 27 = .ok (.aload_n 0, 1) := by decide +kernel
theorem dX5_readImage_28 : decode cX5_readImage 28 = .ok (.getfield 61, 3) := by decide +kernel
theorem dX5_readImage_31 : decode cX5_readImage 31 = .ok (.if_icmp .ge 25, 3) := by decide +kernel
theorem dX5_readImage_34 : decode cX5_readImage 34 = .ok (.iload_n 2, 1) := by decide +kernel
theorem dX5_readImage_35 : decode cX5_readImage 35 = .ok (.bipush 8, 2) := by decide +kernel
theorem dX5_readImage_37 : decode cX5_readImage 37 = .ok (.if_icmp .ge 19, 3) := by decide +kernel
theorem dX5_readImage_40 : decode cX5_readImage 40 = .ok (.aload_n 0, 1) := by decide +kernel
theorem dX5_readImage_41 : decode cX5_readImage 41 = .ok (.aload_n 1, 1) := by decide +kernel
theorem dX5_readImage_42 : decode cX5_readImage 42 = .ok (.getfield 67, 3) := by decide +kernel
theorem dX5_readImage_45 : decode cX5_readImage 45 = .ok (.iload_n 2, 1) := by decide +kernel
theorem dX5_readImage_46 : decode cX5_readImage 46 = .ok (.aaload, 1) := by decide +kernel
theorem dX5_readImage_47 : decode cX5_readImage 47 = .ok (.invokevirtual 70, 3) := by decide +kernel
theorem dX5_readImage_50 : decode cX5_readImage 50 = .ok (.iinc 2 1, 3) := by decide +kernel
theorem dX5_readImage_53 : decode cX5_readImage 53 = .ok (.goto (-27), 3) := by decide +kernel
theorem dX5_readImage_56 : decode cX5_readImage 56 = .ok (.aload_n 0, 1) := by decide +kernel
theorem dX5_readImage_57 : decode cX5_readImage 57 = .ok (.aload_n 0, 1) := by decide +kernel
theorem dX5_readImage_58 : decode cX5_readImage 58 = .ok (.getfield 27, 3) := by decide +kernel
theorem dX5_readImage_61 : decode cX5_readImage 61 = .ok (.putfield 74, 3) := by decide +kernel
theorem dX5_readImage_64 : decode cX5_readImage 64 = .ok (.iconst 0, 1) := by decide +kernel
theorem dX5_readImage_65 : decode cX5_readImage 65 = .ok (.istore_n 2, 1) := by decide +kernel
theorem dX5_readImage_66 : decode cX5_readImage 66 = .ok (.iload_n 2, 1) := by decide +kernel
theorem dX5_readImage_67 : decode cX5_readImage 67 = .ok (.aload_n 0, 1) := by decide +kernel
theorem dX5_readImage_68 : decode cX5_readImage 68 = .ok (.getfield 64, 3) := by decide +kernel
theorem dX5_readImage_71 : decode cX5_readImage 71 = .ok (.if_icmp .ge 56, 3) := by decide +kernel
theorem dX5_readImage_74 : decode cX5_readImage 74 = .ok (.aload_n 0, 1) := by decide +kernel
theorem dX5_readImage_75 : decode cX5_readImage 75 = .ok (.iconst 1, 1) := by decide +kernel
theorem dX5_readImage_76 : decode cX5_readImage 76 = .ok (.iconst 0, 1) := by decide +kernel
theorem dX5_readImage_77 : decode cX5_readImage 77 = .ok (.sipush 255, 3) := by decide +kernel
theorem dX5_readImage_80 : decode cX5_readImage 80 = .ok (.invokevirtual 57, 3) := by decide +kernel
theorem dX5_readImage_83 : decode cX5_readImage 83 = .ok (.pop, 1) := by decide +kernel
theorem dX5_readImage_84 : decode cX5_readImage 84 = .ok (.aload_n 0, 1) := by decide +kernel
theorem dX5_readImage_85 : decode cX5_readImage 85 = .ok (.iconst 1, 1) := by decide +kernel
theorem dX5_readImage_86 : decode cX5_readImage 86 = .ok (.iconst 0, 1) := by decide +kernel
theorem dX5_readImage_87 : decode cX5_readImage 87 = .ok (.sipush 255, 3) := by decide +kernel
theorem dX5_readImage_90 : decode cX5_readImage 90 = .ok (.invokevirtual 57, 3) := by decide +kernel
theorem dX5_readImage_93 : decode cX5_readImage 93 = .ok (.pop, 1) := by decide +kernel
theorem dX5_readImage_94 : decode cX5_readImage 94 = .ok (.aload_n 0, 1) := by decide +kernel
theorem dX5_readImage_95 : decode cX5_readImage 95 = .ok (.iconst 1, 1) := by decide +kernel
theorem dX5_readImage_96 : decode cX5_readImage 96 = .ok (.iconst 0, 1) := by decide +kernel
theorem dX5_readImage_97 : decode cX5_readImage 97 = .ok (.bipush 7, 2) := by decide +kernel
theorem dX5_readImage_99 : decode cX5_readImage 99 = .ok (.invokevirtual 57, 3) := by decide +kernel
theorem dX5_readImage_102 : decode cX5_readImage 102 = .ok (.pop, 1) := by decide +kernel
theorem dX5_readImage_103 : decode cX5_readImage 103 = .ok (.aload_n 0, 1) := by decide +kernel
theorem dX5_readImage_104 : decode cX5_readImage 104 = .ok (.iconst 1, 1) := by decide +kernel
theorem dX5_readImage_105 : decode cX5_readImage 105 = .ok (.iconst 1, 1) := by decide +kernel
theorem dX5_readImage_106 : decode cX5_readImage 106 = .ok (.bipush 32, 2) := by decide +kernel
theorem dX5_readImage_108 : decode cX5_readImage 108 = .ok (.invokevirtual 57, 3) := by decide +kernel
theorem dX5_readImage_111 : decode cX5_readImage 111 = .ok (.pop, 1) := by decide +kernel
theorem dX5_readImage_112 : decode cX5_readImage 112 = .ok (.aload_n 0, 1) := by decide +kernel
theorem dX5_readImage_113 : decode cX5_readImage 113 = .ok (.iconst 1, 1) := by decide +kernel
theorem dX5_readImage_114 : decode cX5_readImage 114 = .ok (.iconst 0, 1) := by decide +kernel
theorem dX5_readImage_115 : decode cX5_readImage 115 = .ok (.bipush 16, 2) := by decide +kernel
theorem dX5_readImage_117 : decode cX5_readImage 117 = .ok (.invokevirtual 57, 3) := by decide +kernel
theorem dX5_readImage_120 : decode cX5_readImage 120 = .ok (.pop, 1) := by decide +kernel
theorem dX5_readImage_121 : decode cX5_readImage 121 = .ok (.iinc 2 1, 3) := by decide +kernel
theorem dX5_readImage_124 : decode cX5_readImage 124 = .ok (.goto (-58), 3) := by decide +kernel
theorem dX5_readImage_127 : decode cX5_readImage 127 = .ok (.return_, 1) := by decide +kernel
theorem dX5_readCompartment_0 : decode cX5_readCompartment 0 = .ok (.aload_n 1, 1) := by decide +kernel
theorem dX5_readCompartment_1 : decode cX5_readCompartment 1 = .ok (.aload_n 0, 1) := by decide +kernel
theorem dX5_readCompartment_2 : decode cX5_readCompartment 2 = .ok (.iconst 2, 1) := by decide +kernel
theorem dX5_readCompartment_3 : decode cX5_readCompartment 3 = .ok (.iconst 1, 1) := by decide +kernel
theorem dX5_readCompartment_4 : decode cX5_readCompartment 4 = .ok (.sipush 200, 3) := by decide +kernel
theorem dX5_readCompartment_7 : decode cX5_readCompartment 7 = .ok (.invokevirtual 57, 3) := by decide +kernel
theorem dX5_readCompartment_10 : decode cX5_readCompartment 10 = .ok (.putfield 77, 3) := by decide +kernel
theorem dX5_readCompartment_13 : decode cX5_readCompartment 13 = .ok (.aload_n 1, 1) := by decide +kernel
theorem dX5_readCompartment_14 : decode cX5_readCompartment 14 = .ok (.aload_n 0, 1) := by decide +kernel
theorem dX5_readCompartment_15 : decode cX5_readCompartment 15 = .ok (.iconst 1, 1) := by decide +kernel
theorem dX5_readCompartment_16 : decode cX5_readCompartment 16 = .ok (.iconst 0, 1) := by decide +kernel
theorem dX5_readCompartment_17 : decode cX5_readCompartment 17 = .ok (.bipush 32, 2) := by decide +kernel
theorem dX5_readCompartment_19 : decode cX5_readCompartment 19 = .ok (.invokevirtual 57, 3) := by decide +kernel
theorem dX5_readCompartment_22 : decode cX5_readCompartment 22 = .ok (.putfield 82, 3) := by decide +kernel
theorem dX5_readCompartment_25 : decode cX5_readCompartment 25 = .ok (.aload_n 1, 1) := by decide +kernel
theorem dX5_readCompartment_26 : decode cX5_readCompartment 26 = .ok (.aload_n 0, 1) := by decide +kernel
theorem dX5_readCompartment_27 : decode cX5_readCompartment 27 = .ok (.iconst 1, 1) := by decide +kernel
theorem dX5_readCompartment_28 : decode cX5_readCompartment 28 = .ok (.iconst 0, 1) := by decide +kernel
theorem dX5_readCompartment_29 : decode cX5_readCompartment 29 = .ok (.bipush 8, 2) := by decide +kernel
theorem dX5_readCompartment_31 : decode cX5_readCompartment 31 = .ok (.invokevirtual 57, 3) := by decide +kernel
theorem dX5_readCompartment_34 : decode cX5_readCompartment 34 = .ok (.putfield 85, 3) := by decide +kernel
theorem dX5_readCompartment_37 : decode cX5_readCompartment 37 = .ok (.aload_n 1, 1) := by decide +kernel
theorem dX5_readCompartment_38 : decode cX5_readCompartment 38 = .ok (.aload_n 0, 1) := by decide +kernel
theorem dX5_readCompartment_39 : decode cX5_readCompartment 39 = .ok (.iconst 1, 1) := by decide +kernel
theorem dX5_readCompartment_40 : decode cX5_readCompartment 40 = .ok (.iconst 0, 1) := by decide +kernel
theorem dX5_readCompartment_41 : decode cX5_readCompartment 41 = .ok (.bipush 16, 2) := by decide +kernel
theorem dX5_readCompartment_43 : decode cX5_readCompartment 43 = .ok (.invokevirtual 57, 3) := by decide +kernel
theorem dX5_readCompartment_46 : decode cX5_readCompartment 46 = .ok (.putfield 88, 3) := by decide +kernel
theorem dX5_readCompartment_49 : decode cX5_readCompartment 49 = .ok (.iconst 0, 1) := by decide +kernel
theorem dX5_readCompartment_50 : decode cX5_readCompartment 50 = .ok (.istore_n 2, 1) := by decide +kernel
theorem dX5_readCompartment_51 : decode cX5_readCompartment 51 = .ok (.iload_n 2, 1) := by decide +kernel
theorem dX5_readCompartment_52 : decode cX5_readCompartment 52 = .ok (.aload_n 1, 1) := by decide +kernel
theorem dX5_readCompartment_53 : decode cX5_readCompartment 53 = .ok (.getfield 85, 3) := by decide +kernel
theorem dX5_readCompartment_56 : decode cX5_readCompartment 56 = .ok (.if_icmp .ge 46, 3) := by decide +kernel
theorem dX5_readCompartment_59 : decode cX5_readCompartment 59 = .ok (.iload_n 2, 1) := by decide +kernel
theorem dX5_readCompartment_60 : decode cX5_readCompartment 60 = .ok (.bipush 8, 2) := by decide +kernel
theorem dX5_readCompartment_62 : decode cX5_readCompartment 62 = .ok (.if_icmp .ge 40, 3) := by decide +kernel
theorem dX5_readCompartment_65 : decode cX5_readCompartment 65 = .ok (.aload_n 1, 1) := by decide +kernel
theorem dX5_readCompartment_66 : decode cX5_readCompartment 66 = .ok (.getfield 91, 3) := by decide +kernel
theorem dX5_readCompartment_69 : decode cX5_readCompartment 69 = .ok (.iload_n 2, 1) := by decide +kernel
theorem dX5_readCompartment_70 : decode cX5_readCompartment 70 = .ok (.aload_n 0, 1) := by decide +kernel
theorem dX5_readCompartment_71 : decode cX5_readCompartment 71 = .ok (.iconst 2, 1) := by decide +kernel
theorem dX5_readCompartment_72 : decode cX5_readCompartment 72 = .ok (.iconst 0, 1) := by decide +kernel
theorem dX5_readCompartment_73 : decode cX5_readCompartment 73 = .ok (.aload_n 1, 1) := by decide +kernel
theorem dX5_readCompartment_74 : decode cX5_readCompartment 74 = .ok (.getfield 77, 3) := by decide +kernel
theorem dX5_readCompartment_77 : decode cX5_readCompartment 77 = .ok (.iconst 1, 1) := by decide +kernel
theorem dX5_readCompartment_78 : decode cX5_readCompartment 78 = .ok (.isub, 1) := by decide +kernel
theorem dX5_readCompartment_79 : decode cX5_readCompartment 79 = .ok (.invokevirtual 57, 3) := by decide +kernel
theorem dX5_readCompartment_82 : decode cX5_readCompartment 82 = .ok (.iastore, 1) := by decide +kernel
theorem dX5_readCompartment_83 : decode cX5_readCompartment 83 = .ok (.aload_n 1, 1) := by decide +kernel
theorem dX5_readCompartment_84 : decode cX5_readCompartment 84 = .ok (.getfield 95, 3) := by decide +kernel
theorem dX5_readCompartment_87 : decode cX5_readCompartment 87 = .ok (.iload_n 2, 1) := by decide +kernel
theorem dX5_readCompartment_88 : decode cX5_readCompartment 88 = .ok (.aload_n 0, 1) := by decide +kernel
theorem dX5_readCompartment_89 : decode cX5_readCompartment 89 = .ok (.iconst 1, 1) := by decide +kernel
theorem dX5_readCompartment_90 : decode cX5_readCompartment 90 = .ok (.iconst 1, 1) := by decide +kernel
theorem dX5_readCompartment_91 : decode cX5_readCompartment 91 = .ok (.iconst 3, 1) := by decide +kernel
theorem dX5_readCompartment_92 : decode cX5_readCompartment 92 = .ok (.invokevirtual 57, 3) := by decide +kernel
theorem dX5_readCompartment_95 : decode cX5_readCompartment 95 = .ok (.iastore, 1) := by decide +kernel
theorem dX5_readCompartment_96 : decode cX5_readCompartment 96 = .ok (.iinc 2 1, 3) := by decide +kernel
theorem dX5_readCompartment_99 : decode cX5_readCompartment 99 = .ok (.goto (-48), 3) := by decide +kernel
theorem dX5_readCompartment_102 : decode cX5_readCompartment 102 = .ok (.aload_n 1, 1) := by decide +kernel
theorem dX5_readCompartment_103 : decode cX5_readCompartment 103 = .ok (.aload_n 0, 1) := by decide +kernel
theorem dX5_readCompartment_104 : decode cX5_readCompartment 104 = .ok (.getfield 27, 3) := by decide +kernel
theorem dX5_readCompartment_107 : decode cX5_readCompartment 107 = .ok (.putfield 98, 3) := by decide +kernel
theorem dX5_readCompartment_110 : decode cX5_readCompartment 110 = .ok (.iconst 0, 1) := by decide +kernel
theorem dX5_readCompartment_111 : decode cX5_readCompartment 111 = .ok (.istore_n 2, 1) := by decide +kernel
theorem dX5_readCompartment_112 : decode cX5_readCompartment 112 = .ok (.iload_n 2, 1) := by decide +kernel
theorem dX5_readCompartment_113 : decode cX5_readCompartment 113 = .ok (.aload_n 1, 1) := by decide +kernel
theorem dX5_readCompartment_114 : decode cX5_readCompartment 114 = .ok (.getfield 88, 3) := by decide +kernel
theorem dX5_readCompartment_117 : decode cX5_readCompartment 117 = .ok (.if_icmp .ge 13, 3) := by decide +kernel
theorem dX5_readCompartment_120 : decode cX5_readCompartment 120 = .ok (.aload_n 0, 1) := by decide +kernel
theorem dX5_readCompartment_121 : decode cX5_readCompartment 121 = .ok (.invokevirtual 101, 3) := by decide +kernel
theorem dX5_readCompartment_124 : decode cX5_readCompartment 124 = .ok (.iinc 2 1, 3) := by decide +kernel
theorem dX5_readCompartment_127 : decode cX5_readCompartment 127 = .ok (.goto (-15), 3) := by decide +kernel
theorem dX5_readCompartment_130 : decode cX5_readCompartment 130 = .ok (.aload_n 1, 1) := by decide +kernel
theorem dX5_readCompartment_131 : decode cX5_readCompartment 131 = .ok (.aload_n 0, 1) := by decide +kernel
theorem dX5_readCompartment_132 : decode cX5_readCompartment 132 = .ok (.getfield 27, 3) := by decide +kernel
theorem dX5_readCompartment_135 : decode cX5_readCompartment 135 = .ok (.putfield 104, 3) := by decide +kernel
theorem dX5_readCompartment_138 : decode cX5_readCompartment 138 = .ok (.aload_n 0, 1) := by decide +kernel
theorem dX5_readCompartment_139 : decode cX5_readCompartment 139 = .ok (.aload_n 1, 1) := by decide +kernel
theorem dX5_readCompartment_140 : decode cX5_readCompartment 140 = .ok (.getfield 77, 3) := by decide +kernel
theorem dX5_readCompartment_143 : decode cX5_readCompartment 143 = .ok (.iconst 4, 1) := by decide +kernel
theorem dX5_readCompartment_144 : decode cX5_readCompartment 144 = .ok (.imul, 1) := by decide +kernel
theorem dX5_readCompartment_145 : decode cX5_readCompartment 145 = .ok (.invokevirtual 107, 3) := by decide +kernel
theorem dX5_readCompartment_148 : decode cX5_readCompartment 148 = .ok (.return_, 1) := by decide +kernel
theorem dX5_readImport_0 : decode cX5_readImport 0 = .ok (.aload_n 0, 1) := by decide +kernel
theorem dX5_readImport_1 : decode cX5_readImport 1 = .ok (.iconst 1, 1) := by decide +kernel
theorem dX5_readImport_2 : decode cX5_readImport 2 = .ok (.iconst 0, 1) := by decide +kernel
theorem dX5_readImport_3 : decode cX5_readImport 3 = .ok (.iconst 4, 1) := by decide +kernel
theorem dX5_readImport_4 : decode cX5_readImport 4 = .ok (.invokevirtual 57, 3) := by decide +kernel
theorem dX5_readImport_7 : decode cX5_readImport 7 = .ok (.tableswitch 113 0 3 #[29, 52, 72, 91], 29) := by decide +kernel
theorem dX5_readImport_36 : decode cX5_readImport 36 = .ok (.aload_n 0, 1) := by decide +kernel
theorem dX5_readImport_37 : decode cX5_readImport 37 = .ok (.iconst 1, 1) := by decide +kernel
theorem dX5_readImport_38 : decode cX5_readImport 38 = .ok (.iconst 0, 1) := by decide +kernel
theorem dX5_readImport_39 : decode cX5_readImport 39 = .ok (.sipush 255, 3) := by decide +kernel
theorem dX5_readImport_42 : decode cX5_readImport 42 = .ok (.invokevirtual 57, 3) := by decide +kernel
theorem dX5_readImport_45 : decode cX5_readImport 45 = .ok (.pop, 1) := by decide +kernel
theorem dX5_readImport_46 : decode cX5_readImport 46 = .ok (.aload_n 0, 1) := by decide +kernel
theorem dX5_readImport_47 : decode cX5_readImport 47 = .ok (.iconst 1, 1) := by decide +kernel
theorem dX5_readImport_48 : decode cX5_readImport 48 = .ok (.iconst 0, 1) := by decide +kernel
theorem dX5_readImport_49 : decode cX5_readImport 49 = .ok (.sipush 255, 3) := by decide +kernel
theorem dX5_readImport_52 : decode cX5_readImport 52 = .ok (.invokevirtual 57, 3) := by decide +kernel
theorem dX5_readImport_55 : decode cX5_readImport 55 = .ok (.pop, 1) := by decide +kernel
theorem dX5_readImport_56 : decode cX5_readImport 56 = .ok (.goto 78, 3) := by decide +kernel
theorem dX5_readImport_59 : decode cX5_readImport 59 = .ok (.aload_n 0, 1) := by decide +kernel
theorem dX5_readImport_60 : decode cX5_readImport 60 = .ok (.iconst 1, 1) := by decide +kernel
theorem dX5_readImport_61 : decode cX5_readImport 61 = .ok (.iconst 0, 1) := by decide +kernel
theorem dX5_readImport_62 : decode cX5_readImport 62 = .ok (.bipush 8, 2) := by decide +kernel
theorem dX5_readImport_64 : decode cX5_readImport 64 = .ok (.invokevirtual 57, 3) := by decide +kernel
theorem dX5_readImport_67 : decode cX5_readImport 67 = .ok (.pop, 1) := by decide +kernel
theorem dX5_readImport_68 : decode cX5_readImport 68 = .ok (.aload_n 0, 1) := by decide +kernel
theorem dX5_readImport_69 : decode cX5_readImport 69 = .ok (.iconst 1, 1) := by decide +kernel
theorem dX5_readImport_70 : decode cX5_readImport 70 = .ok (.iconst 0, 1) := by decide +kernel
theorem dX5_readImport_71 : decode cX5_readImport 71 = .ok (.iconst 0, 1) := by decide +kernel
theorem dX5_readImport_72 : decode cX5_readImport 72 = .ok (.invokevirtual 57, 3) := by decide +kernel
theorem dX5_readImport_75 : decode cX5_readImport 75 = .ok (.pop, 1) := by decide +kernel
theorem dX5_readImport_76 : decode cX5_readImport 76 = .ok (.goto 58, 3) := by decide +kernel
theorem dX5_readImport_79 : decode cX5_readImport 79 = .ok (.aload_n 0, 1) := by decide +kernel
theorem dX5_readImport_80 : decode cX5_readImport 80 = .ok (.iconst 1, 1) := by decide +kernel
theorem dX5_readImport_81 : decode cX5_readImport 81 = .ok (.iconst 1, 1) := by decide +kernel
theorem dX5_readImport_82 : decode cX5_readImport 82 = .ok (.iconst 3, 1) := by decide +kernel
theorem dX5_readImport_83 : decode cX5_readImport 83 = .ok (.invokevirtual 57, 3) := by decide +kernel
theorem dX5_readImport_86 : decode cX5_readImport 86 = .ok (.pop, 1) := by decide +kernel
theorem dX5_readImport_87 : decode cX5_readImport 87 = .ok (.aload_n 0, 1) := by decide +kernel
theorem dX5_readImport_88 : decode cX5_readImport 88 = .ok (.iconst 1, 1) := by decide +kernel
theorem dX5_readImport_89 : decode cX5_readImport 89 = .ok (.iconst 0, 1) := by decide +kernel
theorem dX5_readImport_90 : decode cX5_readImport 90 = .ok (.iconst 0, 1) := by decide +kernel
theorem dX5_readImport_91 : decode cX5_readImport 91 = .ok (.invokevirtual 57, 3) := by decide +kernel
theorem dX5_readImport_94 : decode cX5_readImport 94 = .ok (.pop, 1) := by decide +kernel
theorem dX5_readImport_95 : decode cX5_readImport 95 = .ok (.goto 39, 3) := by decide +kernel
theorem dX5_readImport_98 : decode cX5_readImport 98 = .ok (.aload_n 0, 1) := by decide +kernel
theorem dX5_readImport_99 : decode cX5_readImport 99 = .ok (.iconst 1, 1) := by decide +kernel
theorem dX5_readImport_100 : decode cX5_readImport 100 = .ok (.iconst 0, 1) := by decide +kernel
theorem dX5_readImport_101 : decode cX5_readImport 101 = .ok (.sipush 239, 3) := by decide +kernel
theorem dX5_readImport_104 : decode cX5_readImport 104 = .ok (.invokevirtual 57, 3) := by decide +kernel
theorem dX5_readImport_107 : decode cX5_readImport 107 = .ok (.pop, 1) := by decide +kernel
theorem dX5_readImport_108 : decode cX5_readImport 108 = .ok (.aload_n 0, 1) := by decide +kernel
theorem dX5_readImport_109 : decode cX5_readImport 109 = .ok (.iconst 1, 1) := by decide +kernel
theorem dX5_readImport_110 : decode cX5_readImport 110 = .ok (.iconst 1, 1) := by decide +kernel
theorem dX5_readImport_111 : decode cX5_readImport 111 = .ok (.bipush 16, 2) := by decide +kernel
theorem dX5_readImport_113 : decode cX5_readImport 113 = .ok (.invokevirtual 57, 3) := by decide +kernel
theorem dX5_readImport_116 : decode cX5_readImport 116 = .ok (.pop, 1) := by decide +kernel
theorem dX5_readImport_117 : decode cX5_readImport 117 = .ok (.goto 17, 3) := by decide +kernel
theorem dX5_readImport_120 : decode cX5_readImport 120 = .ok (.aload_n 0, 1) := by decide +kernel
theorem dX5_readImport_121 : decode cX5_readImport 121 = .ok (.iconst 1, 1) := by decide +kernel
theorem dX5_readImport_122 : decode cX5_readImport 122 = .ok (.iconst 0, 1) := by decide +kernel
theorem dX5_readImport_123 : decode cX5_readImport 123 = .ok (.sipush 255, 3) := by decide +kernel
theorem dX5_readImport_126 : decode cX5_readImport 126 = .ok (.invokevirtual 57, 3) := by decide +kernel
theorem dX5_readImport_129 : decode cX5_readImport 129 = .ok (.pop, 1) := by decide +kernel
theorem dX5_readImport_130 : decode cX5_readImport 130 = .ok (.aload_n 0, 1) := by decide +kernel
theorem dX5_readImport_131 : decode cX5_readImport 131 = .ok (.invokevirtual 113, 3) := by decide +kernel
theorem dX5_readImport_134 : decode cX5_readImport 134 = .ok (.return_, 1) := by decide +kernel
theorem dX5_readGlobalsPerms_0 : decode cX5_readGlobalsPerms 0 = .ok (.bipush 27, 2) := by decide +kernel
theorem dX5_readGlobalsPerms_2 : decode cX5_readGlobalsPerms 2 = .ok (.istore_n 1, 1) := by decide +kernel
theorem dX5_readGlobalsPerms_3 : decode cX5_readGlobalsPerms 3 = .ok (.aload_n 0, 1) := by decide +kernel
theorem dX5_readGlobalsPerms_4 : decode cX5_readGlobalsPerms 4 = .ok (.iconst 1, 1) := by decide +kernel
theorem dX5_readGlobalsPerms_5 : decode cX5_readGlobalsPerms 5 = .ok (.iconst 1, 1) := by decide +kernel
theorem dX5_readGlobalsPerms_6 : decode cX5_readGlobalsPerms 6 = .ok (.iload_n 1, 1) := by decide +kernel
theorem dX5_readGlobalsPerms_7 : decode cX5_readGlobalsPerms 7 = .ok (.invokevirtual 57, 3) := by decide +kernel
theorem dX5_readGlobalsPerms_10 : decode cX5_readGlobalsPerms 10 = .ok (.istore_n 2, 1) := by decide +kernel
theorem dX5_readGlobalsPerms_11 : decode cX5_readGlobalsPerms 11 = .ok (.iload_n 2, 1) := by decide +kernel
theorem dX5_readGlobalsPerms_12 : decode cX5_readGlobalsPerms 12 = .ok (.iload_n 1, 1) := by decide +kernel
theorem dX5_readGlobalsPerms_13 : decode cX5_readGlobalsPerms 13 = .ok (.iconst (-1), 1) := by decide +kernel
theorem dX5_readGlobalsPerms_14 : decode cX5_readGlobalsPerms 14 = .ok (.ixor, 1) := by decide +kernel
theorem dX5_readGlobalsPerms_15 : decode cX5_readGlobalsPerms 15 = .ok (.iand, 1) := by decide +kernel
theorem dX5_readGlobalsPerms_16 : decode cX5_readGlobalsPerms 16 = .ok (.ifCond .eq 14, 3) := by decide +kernel
theorem dX5_readGlobalsPerms_19 : decode cX5_readGlobalsPerms 19 = .ok (.aload_n 0, 1) := by decide +kernel
theorem dX5_readGlobalsPerms_20 : decode cX5_readGlobalsPerms 20 = .ok (.iconst 2, 1) := by decide +kernel
theorem dX5_readGlobalsPerms_21 : decode cX5_readGlobalsPerms 21 = .ok (.aload_n 0, 1) := by decide +kernel
theorem dX5_readGlobalsPerms_22 : decode cX5_readGlobalsPerms 22 = .ok (.getfield 27, 3) := by decide +kernel
theorem dX5_readGlobalsPerms_25 : decode cX5_readGlobalsPerms 25 = .ok (.iconst 1, 1) := by decide +kernel
theorem dX5_readGlobalsPerms_26 : decode cX5_readGlobalsPerms 26 = .ok (.isub, 1) := by decide +kernel
theorem dX5_readGlobalsPerms_27 : decode cX5_readGlobalsPerms 27 = .ok (.invokevirtual 43, 3) := by decide +kernel
theorem dX5_readGlobalsPerms_30 : decode cX5_readGlobalsPerms 30 = .ok (.return_, 1) := by decide +kernel
theorem dX5_skip_0 : decode cX5_skip 0 = .ok (.aload_n 0, 1) := by decide +kernel
theorem dX5_skip_1 : decode cX5_skip 1 = .ok (.getfield 27, 3) := by decide +kernel
theorem dX5_skip_4 : decode cX5_skip 4 = .ok (.iload_n 1, 1) := by decide +kernel
theorem dX5_skip_5 : decode cX5_skip 5 = .ok (.iadd, 1) := by decide +kernel
theorem dX5_skip_6 : decode cX5_skip 6 = .ok (.aload_n 0, 1) := by decide +kernel
theorem dX5_skip_7 : decode cX5_skip 7 = .ok (.getfield 30, 3) := by decide +kernel
theorem dX5_skip_10 : decode cX5_skip 10 = .ok (.if_icmp .le 15, 3) := by decide +kernel
theorem dX5_skip_13 : decode cX5_skip 13 = .ok (.aload_n 0, 1) := by decide +kernel
theorem dX5_skip_14 : decode cX5_skip 14 = .ok (.iconst 1, 1) := by decide +kernel
theorem dX5_skip_15 : decode cX5_skip 15 = .ok (.aload_n 0, 1) := by decide +kernel
theorem dX5_skip_16 : decode cX5_skip 16 = .ok (.getfield 30, 3) := by decide +kernel
theorem dX5_skip_19 : decode cX5_skip 19 = .ok (.invokevirtual 43, 3) := by decide +kernel
theorem dX5_skip_22 : decode cX5_skip 22 = .ok (.goto 13, 3) := by decide +kernel
theorem dX5_skip_25 : decode cX5_skip 25 = .ok (.aload_n 0, 1) := by decide +kernel
theorem dX5_skip_26 : decode cX5_skip 26 = .ok (.dup, 1) := by decide +kernel
theorem dX5_skip_27 : decode cX5_skip 27 = .ok (.getfield 27, 3) := by decide +kernel
theorem dX5_skip_30 : decode cX5_skip 30 = .ok (.iload_n 1, 1) := by decide +kernel
theorem dX5_skip_31 : decode cX5_skip 31 = .ok (.iadd, 1) := by decide +kernel
theorem dX5_skip_32 : decode cX5_skip 32 = .ok (.putfield 27, 3) := by decide +kernel
theorem dX5_skip_35 : decode cX5_skip 35 = .ok (.return_, 1) := by decide +kernel
theorem dX5_checkTargets_0 : decode cX5_checkTargets 0 = .ok (.iconst 0, 1) := by decide +kernel
theorem dX5_checkTargets_1 : decode cX5_checkTargets 1 = .ok (.istore_n 2, 1) := by decide +kernel
theorem dX5_checkTargets_2 : decode cX5_checkTargets 2 = .ok (.iload_n 2, 1) := by decide +kernel
theorem dX5_checkTargets_3 : decode cX5_checkTargets 3 = .ok (.aload_n 0, 1) := by decide +kernel
theorem dX5_checkTargets_4 : decode cX5_checkTargets 4 = .ok (.getfield 61, 3) := by decide +kernel
theorem dX5_checkTargets_7 : decode cX5_checkTargets 7 = .ok (.if_icmp .ge 90, 3) := by decide +kernel
theorem dX5_checkTargets_10 : decode cX5_checkTargets 10 = .ok (.iload_n 2, 1) := by decide +kernel
theorem dX5_checkTargets_11 : decode cX5_checkTargets 11 = .ok (.bipush 8, 2) := by decide +kernel
theorem dX5_checkTargets_13 : decode cX5_checkTargets 13 = .ok (.if_icmp .ge 84, 3) := by decide +kernel
theorem dX5_checkTargets_16 : decode cX5_checkTargets 16 = .ok (.aload_n 1, 1) := by decide +kernel
theorem dX5_checkTargets_17 : decode cX5_checkTargets 17 = .ok (.getfield 67, 3) := by decide +kernel
theorem dX5_checkTargets_20 : decode cX5_checkTargets 20 = .ok (.iload_n 2, 1) := by decide +kernel
theorem dX5_checkTargets_21 : decode cX5_checkTargets 21 = .ok (.aaload, 1) := by decide +kernel
theorem dX5_checkTargets_22 : decode cX5_checkTargets 22 = .ok (.astore_n 3, 1) := by decide +kernel
theorem dX5_checkTargets_23 : decode cX5_checkTargets 23 = .ok (.iconst 0, 1) := by decide +kernel
theorem dX5_checkTargets_24 : decode cX5_checkTargets 24 = .ok (.istore 4, 2) := by decide +kernel
theorem dX5_checkTargets_26 : decode cX5_checkTargets 26 = .ok (.iload 4, 2) := by decide +kernel
theorem dX5_checkTargets_28 : decode cX5_checkTargets 28 = .ok (.aload_n 3, 1) := by decide +kernel
theorem dX5_checkTargets_29 : decode cX5_checkTargets 29 = .ok (.getfield 88, 3) := by decide +kernel
theorem dX5_checkTargets_32 : decode cX5_checkTargets 32 = .ok (.if_icmp .ge 59, 3) := by decide +kernel
theorem dX5_checkTargets_35 : decode cX5_checkTargets 35 = .ok (.aload_n 3, 1) := by decide +kernel
theorem dX5_checkTargets_36 : decode cX5_checkTargets 36 = .ok (.getfield 98, 3) := by decide +kernel
theorem dX5_checkTargets_39 : decode cX5_checkTargets 39 = .ok (.iload 4, 2) := by decide +kernel
theorem dX5_checkTargets_41 : decode cX5_checkTargets 41 = .ok (.iconst 3, 1) := by decide +kernel
theorem dX5_checkTargets_42 : decode cX5_checkTargets 42 = .ok (.imul, 1) := by decide +kernel
theorem dX5_checkTargets_43 : decode cX5_checkTargets 43 = .ok (.iadd, 1) := by decide +kernel
theorem dX5_checkTargets_44 : decode cX5_checkTargets 44 = .ok (.istore 5, 2) := by decide +kernel
theorem dX5_checkTargets_46 : decode cX5_checkTargets 46 = .ok (.aload_n 0, 1) := by decide +kernel
theorem dX5_checkTargets_47 : decode cX5_checkTargets 47 = .ok (.iload 5, 2) := by decide +kernel
theorem dX5_checkTargets_49 : decode cX5_checkTargets 49 = .ok (.invokevirtual 53, 3) := by decide +kernel
theorem dX5_checkTargets_52 : decode cX5_checkTargets 52 = .ok (.istore 6, 2) := by decide +kernel
theorem dX5_checkTargets_54 : decode cX5_checkTargets 54 = .ok (.iload 6, 2) := by decide +kernel
theorem dX5_checkTargets_56 : decode cX5_checkTargets 56 = .ok (.ifCond .ne 15, 3) := by decide +kernel
theorem dX5_checkTargets_59 : decode cX5_checkTargets 59 = .ok (.aload_n 0, 1) := by decide +kernel
theorem dX5_checkTargets_60 : decode cX5_checkTargets 60 = .ok (.aload_n 1, 1) := by decide +kernel
theorem dX5_checkTargets_61 : decode cX5_checkTargets 61 = .ok (.iload 5, 2) := by decide +kernel
theorem dX5_checkTargets_63 : decode cX5_checkTargets 63 = .ok (.iconst 1, 1) := by decide +kernel
theorem dX5_checkTargets_64 : decode cX5_checkTargets 64 = .ok (.iadd, 1) := by decide +kernel
theorem dX5_checkTargets_65 : decode cX5_checkTargets 65 = .ok (.invokevirtual 116, 3) := by decide +kernel
theorem dX5_checkTargets_68 : decode cX5_checkTargets 68 = .ok (.goto 17, 3) := by decide +kernel
theorem dX5_checkTargets_71 : decode cX5_checkTargets 71 = .ok (.iload 6, 2) := by decide +kernel
theorem dX5_checkTargets_73 : decode cX5_checkTargets 73 = .ok (.iconst 4, 1) := by decide +kernel
theorem dX5_checkTargets_74 : decode cX5_checkTargets 74 = .ok (.if_icmp .ne 11, 3) := by decide +kernel
theorem dX5_checkTargets_77 : decode cX5_checkTargets 77 = .ok (.aload_n 0, 1) := by decide +kernel
theorem dX5_checkTargets_78 : decode cX5_checkTargets 78 = .ok (.iload 5, 2) := by decide +kernel
theorem dX5_checkTargets_80 : decode cX5_checkTargets 80 = .ok (.iconst 1, 1) := by decide +kernel
theorem dX5_checkTargets_81 : decode cX5_checkTargets 81 = .ok (.iadd, 1) := by decide +kernel
theorem dX5_checkTargets_82 : decode cX5_checkTargets 82 = .ok (.invokevirtual 120, 3) := by decide +kernel
theorem dX5_checkTargets_85 : decode cX5_checkTargets 85 = .ok (.iinc 4 1, 3) := by decide +kernel
theorem dX5_checkTargets_88 : decode cX5_checkTargets 88 = .ok (.goto (-62), 3) := by decide +kernel
theorem dX5_checkTargets_91 : decode cX5_checkTargets 91 = .ok (.iinc 2 1, 3) := by decide +kernel
theorem dX5_checkTargets_94 : decode cX5_checkTargets 94 = .ok (.goto (-92), 3) := by decide +kernel
theorem dX5_checkTargets_97 : decode cX5_checkTargets 97 = .ok (.iconst 0, 1) := by decide +kernel
theorem dX5_checkTargets_98 : decode cX5_checkTargets 98 = .ok (.istore_n 2, 1) := by decide +kernel
theorem dX5_checkTargets_99 : decode cX5_checkTargets 99 = .ok (.iload_n 2, 1) := by decide +kernel
theorem dX5_checkTargets_100 : decode cX5_checkTargets 100 = .ok (.aload_n 0, 1) := by decide +kernel
theorem dX5_checkTargets_101 : decode cX5_checkTargets 101 = .ok (.getfield 64, 3) := by decide +kernel
theorem dX5_checkTargets_104 : decode cX5_checkTargets 104 = .ok (.if_icmp .ge 22, 3) := by decide +kernel
theorem dX5_checkTargets_107 : decode cX5_checkTargets 107 = .ok (.aload_n 0, 1) := by decide +kernel
theorem dX5_checkTargets_108 : decode cX5_checkTargets 108 = .ok (.aload_n 1, 1) := by decide +kernel
theorem dX5_checkTargets_109 : decode cX5_checkTargets 109 = .ok (.aload_n 0, 1) := by decide +kernel
theorem dX5_checkTargets_110 : decode cX5_checkTargets 110 = .ok (.getfield 74, 3) := by decide +kernel
theorem dX5_checkTargets_113 : decode cX5_checkTargets 113 = .ok (.iload_n 2, 1) := by decide +kernel
theorem dX5_checkTargets_114 : decode cX5_checkTargets 114 = .ok (.iconst 5, 1) := by decide +kernel
theorem dX5_checkTargets_115 : decode cX5_checkTargets 115 = .ok (.imul, 1) := by decide +kernel
theorem dX5_checkTargets_116 : decode cX5_checkTargets 116 = .ok (.iadd, 1) := by decide +kernel
theorem dX5_checkTargets_117 : decode cX5_checkTargets 117 = .ok (.invokevirtual 116, 3) := by decide +kernel
theorem dX5_checkTargets_120 : decode cX5_checkTargets 120 = .ok (.iinc 2 1, 3) := by decide +kernel
theorem dX5_checkTargets_123 : decode cX5_checkTargets 123 = .ok (.goto (-24), 3) := by decide +kernel
theorem dX5_checkTargets_126 : decode cX5_checkTargets 126 = .ok (.return_, 1) := by decide +kernel
theorem dX5_checkCompartment_0 : decode cX5_checkCompartment 0 = .ok (.aload_n 0, 1) := by decide +kernel
theorem dX5_checkCompartment_1 : decode cX5_checkCompartment 1 = .ok (.iload_n 1, 1) := by decide +kernel
theorem dX5_checkCompartment_2 : decode cX5_checkCompartment 2 = .ok (.invokevirtual 53, 3) := by decide +kernel
theorem dX5_checkCompartment_5 : decode cX5_checkCompartment 5 = .ok (.aload_n 0, 1) := by decide +kernel
theorem dX5_checkCompartment_6 : decode cX5_checkCompartment 6 = .ok (.getfield 61, 3) := by decide +kernel
theorem dX5_checkCompartment_9 : decode cX5_checkCompartment 9 = .ok (.if_icmp .lt 9, 3) := by decide +kernel
theorem dX5_checkCompartment_12 : decode cX5_checkCompartment 12 = .ok (.aload_n 0, 1) := by decide +kernel
theorem dX5_checkCompartment_13 : decode cX5_checkCompartment 13 = .ok (.iconst 3, 1) := by decide +kernel
theorem dX5_checkCompartment_14 : decode cX5_checkCompartment 14 = .ok (.iload_n 1, 1) := by decide +kernel
theorem dX5_checkCompartment_15 : decode cX5_checkCompartment 15 = .ok (.invokevirtual 43, 3) := by decide +kernel
theorem dX5_checkCompartment_18 : decode cX5_checkCompartment 18 = .ok (.return_, 1) := by decide +kernel
theorem dX5_checkExport_0 : decode cX5_checkExport 0 = .ok (.aload_n 0, 1) := by decide +kernel
theorem dX5_checkExport_1 : decode cX5_checkExport 1 = .ok (.iload_n 2, 1) := by decide +kernel
theorem dX5_checkExport_2 : decode cX5_checkExport 2 = .ok (.invokevirtual 120, 3) := by decide +kernel
theorem dX5_checkExport_5 : decode cX5_checkExport 5 = .ok (.aload_n 0, 1) := by decide +kernel
theorem dX5_checkExport_6 : decode cX5_checkExport 6 = .ok (.iload_n 2, 1) := by decide +kernel
theorem dX5_checkExport_7 : decode cX5_checkExport 7 = .ok (.invokevirtual 53, 3) := by decide +kernel
theorem dX5_checkExport_10 : decode cX5_checkExport 10 = .ok (.istore_n 3, 1) := by decide +kernel
theorem dX5_checkExport_11 : decode cX5_checkExport 11 = .ok (.iload_n 3, 1) := by decide +kernel
theorem dX5_checkExport_12 : decode cX5_checkExport 12 = .ok (.bipush 8, 2) := by decide +kernel
theorem dX5_checkExport_14 : decode cX5_checkExport 14 = .ok (.if_icmp .ge 30, 3) := by decide +kernel
theorem dX5_checkExport_17 : decode cX5_checkExport 17 = .ok (.aload_n 1, 1) := by decide +kernel
theorem dX5_checkExport_18 : decode cX5_checkExport 18 = .ok (.getfield 67, 3) := by decide +kernel
theorem dX5_checkExport_21 : decode cX5_checkExport 21 = .ok (.iload_n 3, 1) := by decide +kernel
theorem dX5_checkExport_22 : decode cX5_checkExport 22 = .ok (.aaload, 1) := by decide +kernel
theorem dX5_checkExport_23 : decode cX5_checkExport 23 = .ok (.aload_n 0, 1) := by decide +kernel
theorem dX5_checkExport_24 : decode cX5_checkExport 24 = .ok (.iload_n 2, 1) := by decide +kernel
theorem dX5_checkExport_25 : decode cX5_checkExport 25 = .ok (.iconst 1, 1) := by decide +kernel
theorem dX5_checkExport_26 : decode cX5_checkExport 26 = .ok (.iadd, 1) := by decide +kernel
theorem dX5_checkExport_27 : decode cX5_checkExport 27 = .ok (.invokevirtual 53, 3) := by decide +kernel
theorem dX5_checkExport_30 : decode cX5_checkExport 30 = .ok (.invokevirtual 123, 3) := by decide +kernel
theorem dX5_checkExport_33 : decode cX5_checkExport 33 = .ok (.ifCond .ne 11, 3) := by decide +kernel
theorem dX5_checkExport_36 : decode cX5_checkExport 36 = .ok (.aload_n 0, 1) := by decide +kernel
theorem dX5_checkExport_37 : decode cX5_checkExport 37 = .ok (.iconst 3, 1) := by decide +kernel
theorem dX5_checkExport_38 : decode cX5_checkExport 38 = .ok (.iload_n 2, 1) := by decide +kernel
theorem dX5_checkExport_39 : decode cX5_checkExport 39 = .ok (.iconst 1, 1) := by decide +kernel
theorem dX5_checkExport_40 : decode cX5_checkExport 40 = .ok (.iadd, 1) := by decide +kernel
theorem dX5_checkExport_41 : decode cX5_checkExport 41 = .ok (.invokevirtual 43, 3) := by decide +kernel
theorem dX5_checkExport_44 : decode cX5_checkExport 44 = .ok (.return_, 1) := by decide +kernel
theorem dX5_arrange_0 : decode cX5_arrange 0 = .ok (.iconst 0, 1) := by decide +kernel
theorem dX5_arrange_1 : decode cX5_arrange 1 = .ok (.istore_n 2, 1) := by decide +kernel
theorem dX5_arrange_2 : decode cX5_arrange 2 = .ok (.iconst 0, 1) := by decide +kernel
theorem dX5_arrange_3 : decode cX5_arrange 3 = .ok (.istore_n 3, 1) := by decide +kernel
theorem dX5_arrange_4 : decode cX5_arrange 4 = .ok (.iload_n 3, 1) := by decide +kernel
theorem dX5_arrange_5 : decode cX5_arrange 5 = .ok (.aload_n 0, 1) := by decide +kernel
theorem dX5_arrange_6 : decode cX5_arrange 6 = .ok (.getfield 61, 3) := by decide +kernel
theorem dX5_arrange_9 : decode cX5_arrange 9 = .ok (.if_icmp .ge 26, 3) := by decide +kernel
theorem dX5_arrange_12 : decode cX5_arrange 12 = .ok (.iload_n 3, 1) := by decide +kernel
theorem dX5_arrange_13 : decode cX5_arrange 13 = .ok (.bipush 8, 2) := by decide +kernel
theorem dX5_arrange_15 : decode cX5_arrange 15 = .ok (.if_icmp .ge 20, 3) := by decide +kernel
theorem dX5_arrange_18 : decode cX5_arrange 18 = .ok (.aload_n 1, 1) := by decide +kernel
theorem dX5_arrange_19 : decode cX5_arrange 19 = .ok (.getfield 67, 3) := by decide +kernel
theorem dX5_arrange_22 : decode cX5_arrange 22 = .ok (.iload_n 3, 1) := by decide +kernel
theorem dX5_arrange_23 : decode cX5_arrange 23 = .ok (.aaload, 1) := by decide +kernel
theorem dX5_arrange_24 : decode cX5_arrange 24 = .ok (.iload_n 2, 1) := by decide +kernel
theorem dX5_arrange_25 : decode cX5_arrange 25 = .ok (.invokevirtual 127, 3) := by decide +kernel
theorem dX5_arrange_28 : decode cX5_arrange 28 = .ok (.istore_n 2, 1) := by decide +kernel
theorem dX5_arrange_29 : decode cX5_arrange 29 = .ok (.iinc 3 1, 3) := by decide +kernel
theorem dX5_arrange_32 : decode cX5_arrange 32 = .ok (.goto (-28), 3) := by decide +kernel
theorem dX5_arrange_35 : decode cX5_arrange 35 = .ok (.iconst 0, 1) := by decide +kernel
theorem dX5_arrange_36 : decode cX5_arrange 36 = .ok (.istore_n 3, 1) := by decide +kernel
theorem dX5_arrange_37 : decode cX5_arrange 37 = .ok (.iload_n 3, 1) := by decide +kernel
theorem dX5_arrange_38 : decode cX5_arrange 38 = .ok (.aload_n 0, 1) := by decide +kernel
theorem dX5_arrange_39 : decode cX5_arrange 39 = .ok (.getfield 64, 3) := by decide +kernel
theorem dX5_arrange_42 : decode cX5_arrange 42 = .ok (.if_icmp .ge 55, 3) := by decide +kernel
theorem dX5_arrange_45 : decode cX5_arrange 45 = .ok (.iload_n 3, 1) := by decide +kernel
theorem dX5_arrange_46 : decode cX5_arrange 46 = .ok (.bipush 6, 2) := by decide +kernel
theorem dX5_arrange_48 : decode cX5_arrange 48 = .ok (.if_icmp .ge 49, 3) := by decide +kernel
theorem dX5_arrange_51 : decode cX5_arrange 51 = .ok (.aload_n 1, 1) := by decide +kernel
theorem dX5_arrange_52 : decode cX5_arrange 52 = .ok (.getfield 129, 3) := by decide +kernel
theorem dX5_arrange_55 : decode cX5_arrange 55 = .ok (.iload_n 3, 1) := by decide +kernel
theorem dX5_arrange_56 : decode cX5_arrange 56 = .ok (.aaload, 1) := by decide +kernel
theorem dX5_arrange_57 : decode cX5_arrange 57 = .ok (.iload_n 2, 1) := by decide +kernel
theorem dX5_arrange_58 : decode cX5_arrange 58 = .ok (.putfield 132, 3) := by decide +kernel
theorem dX5_arrange_61 : decode cX5_arrange 61 = .ok (.iload_n 2, 1) := by decide +kernel
theorem dX5_arrange_62 : decode cX5_arrange 62 = .ok (.aload_n 0, 1) := by decide +kernel
theorem dX5_arrange_63 : decode cX5_arrange 63 = .ok (.aload_n 0, 1) := by decide +kernel
theorem dX5_arrange_64 : decode cX5_arrange 64 = .ok (.getfield 74, 3) := by decide +kernel
theorem dX5_arrange_67 : decode cX5_arrange 67 = .ok (.iload_n 3, 1) := by decide +kernel
theorem dX5_arrange_68 : decode cX5_arrange 68 = .ok (.iconst 5, 1) := by decide +kernel
theorem dX5_arrange_69 : decode cX5_arrange 69 = .ok (.imul, 1) := by decide +kernel
theorem dX5_arrange_70 : decode cX5_arrange 70 = .ok (.iadd, 1) := by decide +kernel
theorem dX5_arrange_71 : decode cX5_arrange 71 = .ok (.iconst 3, 1) := by decide +kernel
theorem dX5_arrange_72 : decode cX5_arrange 72 = .ok (.iadd, 1) := by decide +kernel
theorem dX5_arrange_73 : decode cX5_arrange 73 = .ok (.invokevirtual 53, 3) := by decide +kernel
theorem dX5_arrange_76 : decode cX5_arrange 76 = .ok (.bipush 16, 2) := by decide +kernel
theorem dX5_arrange_78 : decode cX5_arrange 78 = .ok (.imul, 1) := by decide +kernel
theorem dX5_arrange_79 : decode cX5_arrange 79 = .ok (.iadd, 1) := by decide +kernel
theorem dX5_arrange_80 : decode cX5_arrange 80 = .ok (.istore_n 2, 1) := by decide +kernel
theorem dX5_arrange_81 : decode cX5_arrange 81 = .ok (.aload_n 1, 1) := by decide +kernel
theorem dX5_arrange_82 : decode cX5_arrange 82 = .ok (.getfield 129, 3) := by decide +kernel
theorem dX5_arrange_85 : decode cX5_arrange 85 = .ok (.iload_n 3, 1) := by decide +kernel
theorem dX5_arrange_86 : decode cX5_arrange 86 = .ok (.aaload, 1) := by decide +kernel
theorem dX5_arrange_87 : decode cX5_arrange 87 = .ok (.iload_n 2, 1) := by decide +kernel
theorem dX5_arrange_88 : decode cX5_arrange 88 = .ok (.putfield 137, 3) := by decide +kernel
theorem dX5_arrange_91 : decode cX5_arrange 91 = .ok (.iinc 3 1, 3) := by decide +kernel
theorem dX5_arrange_94 : decode cX5_arrange 94 = .ok (.goto (-57), 3) := by decide +kernel
theorem dX5_arrange_97 : decode cX5_arrange 97 = .ok (.aload_n 0, 1) := by decide +kernel
theorem dX5_arrange_98 : decode cX5_arrange 98 = .ok (.iload_n 2, 1) := by decide +kernel
theorem dX5_arrange_99 : decode cX5_arrange 99 = .ok (.putfield 140, 3) := by decide +kernel
theorem dX5_arrange_102 : decode cX5_arrange 102 = .ok (.aload_n 1, 1) := by decide +kernel
theorem dX5_arrange_103 : decode cX5_arrange 103 = .ok (.getfield 143, 3) := by decide +kernel
theorem dX5_arrange_106 : decode cX5_arrange 106 = .ok (.aload_n 0, 1) := by decide +kernel
theorem dX5_arrange_107 : decode cX5_arrange 107 = .ok (.getfield 140, 3) := by decide +kernel
theorem dX5_arrange_110 : decode cX5_arrange 110 = .ok (.bipush 16, 2) := by decide +kernel
theorem dX5_arrange_112 : decode cX5_arrange 112 = .ok (.invokevirtual 147, 3) := by decide +kernel
theorem dX5_arrange_115 : decode cX5_arrange 115 = .ok (.ifCond .ne 12, 3) := by decide +kernel
theorem dX5_arrange_118 : decode cX5_arrange 118 = .ok (.aload_n 0, 1) := by decide +kernel
theorem dX5_arrange_119 : decode cX5_arrange 119 = .ok (.iconst 5, 1) := by decide +kernel
theorem dX5_arrange_120 : decode cX5_arrange 120 = .ok (.aload_n 0, 1) := by decide +kernel
theorem dX5_arrange_121 : decode cX5_arrange 121 = .ok (.getfield 30, 3) := by decide +kernel
theorem dX5_arrange_124 : decode cX5_arrange 124 = .ok (.invokevirtual 43, 3) := by decide +kernel
theorem dX5_arrange_127 : decode cX5_arrange 127 = .ok (.return_, 1) := by decide +kernel
theorem dX5_build_0 : decode cX5_build 0 = .ok (.aload_n 1, 1) := by decide +kernel
theorem dX5_build_1 : decode cX5_build 1 = .ok (.aload_n 0, 1) := by decide +kernel
theorem dX5_build_2 : decode cX5_build 2 = .ok (.getfield 61, 3) := by decide +kernel
theorem dX5_build_5 : decode cX5_build 5 = .ok (.aload_n 0, 1) := by decide +kernel
theorem dX5_build_6 : decode cX5_build 6 = .ok (.getfield 64, 3) := by decide +kernel
theorem dX5_build_9 : decode cX5_build 9 = .ok (.invokevirtual 153, 3) := by decide +kernel
theorem dX5_build_12 : decode cX5_build 12 = .ok (.aload_n 1, 1) := by decide +kernel
theorem dX5_build_13 : decode cX5_build 13 = .ok (.getfield 156, 3) := by decide +kernel
theorem dX5_build_16 : decode cX5_build 16 = .ok (.aload_n 0, 1) := by decide +kernel
theorem dX5_build_17 : decode cX5_build 17 = .ok (.getfield 140, 3) := by decide +kernel
theorem dX5_build_20 : decode cX5_build 20 = .ok (.bipush 16, 2) := by decide +kernel
theorem dX5_build_22 : decode cX5_build 22 = .ok (.idiv, 1) := by decide +kernel
theorem dX5_build_23 : decode cX5_build 23 = .ok (.invokevirtual 160, 3) := by decide +kernel
theorem dX5_build_26 : decode cX5_build 26 = .ok (.iconst 0, 1) := by decide +kernel
theorem dX5_build_27 : decode cX5_build 27 = .ok (.istore_n 2, 1) := by decide +kernel
theorem dX5_build_28 : decode cX5_build 28 = .ok (.iload_n 2, 1) := by decide +kernel
theorem dX5_build_29 : decode cX5_build 29 = .ok (.aload_n 0, 1) := by decide +kernel
theorem dX5_build_30 : decode cX5_build 30 = .ok (.getfield 61, 3) := by decide +kernel
theorem dX5_build_33 : decode cX5_build 33 = .ok (.if_icmp .ge 128, 3) := by decide +kernel
theorem dX5_build_36 : decode cX5_build 36 = .ok (.iload_n 2, 1) := by decide +kernel
theorem dX5_build_37 : decode cX5_build 37 = .ok (.bipush 8, 2) := by decide +kernel
theorem dX5_build_39 : decode cX5_build 39 = .ok (.if_icmp .ge 122, 3) := by decide +kernel
theorem dX5_build_42 : decode cX5_build 42 = .ok (.aload_n 1, 1) := by decide +kernel
theorem dX5_build_43 : decode cX5_build 43 = .ok (.getfield 67, 3) := by decide +kernel
theorem dX5_build_46 : decode cX5_build 46 = .ok (.iload_n 2, 1) := by decide +kernel
theorem dX5_build_47 : decode cX5_build 47 = .ok (.aaload, 1) := by decide +kernel
theorem dX5_build_48 : decode cX5_build 48 = .ok (.astore_n 3, 1) := by decide +kernel
theorem dX5_build_49 : decode cX5_build 49 = .ok (.iconst 0, 1) := by decide +kernel
theorem dX5_build_50 : decode cX5_build 50 = .ok (.istore 4, 2) := by decide +kernel
theorem dX5_build_52 : decode cX5_build 52 = .ok (.iload 4, 2) := by decide +kernel
theorem dX5_build_54 : decode cX5_build 54 = .ok (.aload_n 3, 1) := by decide +kernel
theorem dX5_build_55 : decode cX5_build 55 = .ok (.getfield 77, 3) := by decide +kernel
theorem dX5_build_58 : decode cX5_build 58 = .ok (.iconst 4, 1) := by decide +kernel
theorem dX5_build_59 : decode cX5_build 59 = .ok (.imul, 1) := by decide +kernel
theorem dX5_build_60 : decode cX5_build 60 = .ok (.if_icmp .ge 35, 3) := by decide +kernel
theorem dX5_build_63 : decode cX5_build 63 = .ok (.aload_n 1, 1) := by decide +kernel
theorem dX5_build_64 : decode cX5_build 64 = .ok (.getfield 143, 3) := by decide +kernel
theorem dX5_build_67 : decode cX5_build 67 = .ok (.aload_n 3, 1) := by decide +kernel
theorem dX5_build_68 : decode cX5_build 68 = .ok (.getfield 164, 3) := by decide +kernel
theorem dX5_build_71 : decode cX5_build 71 = .ok (.iload 4, 2) := by decide +kernel
theorem dX5_build_73 : decode cX5_build 73 = .ok (.iadd, 1) := by decide +kernel
theorem dX5_build_74 : decode cX5_build 74 = .ok (.iconst 1, 1) := by decide +kernel
theorem dX5_build_75 : decode cX5_build 75 = .ok (.aload_n 0, 1) := by decide +kernel
theorem dX5_build_76 : decode cX5_build 76 = .ok (.aload_n 3, 1) := by decide +kernel
theorem dX5_build_77 : decode cX5_build 77 = .ok (.getfield 104, 3) := by decide +kernel
theorem dX5_build_80 : decode cX5_build 80 = .ok (.iload 4, 2) := by decide +kernel
theorem dX5_build_82 : decode cX5_build 82 = .ok (.iadd, 1) := by decide +kernel
theorem dX5_build_83 : decode cX5_build 83 = .ok (.invokevirtual 53, 3) := by decide +kernel
theorem dX5_build_86 : decode cX5_build 86 = .ok (.invokevirtual 167, 3) := by decide +kernel
theorem dX5_build_89 : decode cX5_build 89 = .ok (.iinc 4 1, 3) := by decide +kernel
theorem dX5_build_92 : decode cX5_build 92 = .ok (.goto (-40), 3) := by decide +kernel
theorem dX5_build_95 : decode cX5_build 95 = .ok (.iconst 0, 1) := by decide +kernel
theorem dX5_build_96 : decode cX5_build 96 = .ok (.istore 4, 2) := by decide +kernel
theorem dX5_build_98 : decode cX5_build 98 = .ok (.iload 4, 2) := by decide +kernel
theorem dX5_build_100 : decode cX5_build 100 = .ok (.aload_n 3, 1) := by decide +kernel
theorem dX5_build_101 : decode cX5_build 101 = .ok (.getfield 88, 3) := by decide +kernel
theorem dX5_build_104 : decode cX5_build 104 = .ok (.if_icmp .ge 51, 3) := by decide +kernel
theorem dX5_build_107 : decode cX5_build 107 = .ok (.aload_n 0, 1) := by decide +kernel
theorem dX5_build_108 : decode cX5_build 108 = .ok (.aload_n 1, 1) := by decide +kernel
theorem dX5_build_109 : decode cX5_build 109 = .ok (.aload_n 3, 1) := by decide +kernel
theorem dX5_build_110 : decode cX5_build 110 = .ok (.getfield 98, 3) := by decide +kernel
theorem dX5_build_113 : decode cX5_build 113 = .ok (.iload 4, 2) := by decide +kernel
theorem dX5_build_115 : decode cX5_build 115 = .ok (.iconst 3, 1) := by decide +kernel
theorem dX5_build_116 : decode cX5_build 116 = .ok (.imul, 1) := by decide +kernel
theorem dX5_build_117 : decode cX5_build 117 = .ok (.iadd, 1) := by decide +kernel
theorem dX5_build_118 : decode cX5_build 118 = .ok (.invokevirtual 171, 3) := by decide +kernel
theorem dX5_build_121 : decode cX5_build 121 = .ok (.aload_n 1, 1) := by decide +kernel
theorem dX5_build_122 : decode cX5_build 122 = .ok (.getfield 143, 3) := by decide +kernel
theorem dX5_build_125 : decode cX5_build 125 = .ok (.aload_n 3, 1) := by decide +kernel
theorem dX5_build_126 : decode cX5_build 126 = .ok (.getfield 174, 3) := by decide +kernel
theorem dX5_build_129 : decode cX5_build 129 = .ok (.iload 4, 2) := by decide +kernel
theorem dX5_build_131 : decode cX5_build 131 = .ok (.bipush 16, 2) := by decide +kernel
theorem dX5_build_133 : decode cX5_build 133 = .ok (.imul, 1) := by decide +kernel
theorem dX5_build_134 : decode cX5_build 134 = .ok (.iadd, 1) := by decide +kernel
theorem dX5_build_135 : decode cX5_build 135 = .ok (.aload_n 1, 1) := by decide +kernel
theorem dX5_build_136 : decode cX5_build 136 = .ok (.getfield 177, 3) := by decide +kernel
theorem dX5_build_139 : decode cX5_build 139 = .ok (.aload_n 1, 1) := by decide +kernel
theorem dX5_build_140 : decode cX5_build 140 = .ok (.getfield 177, 3) := by decide +kernel
theorem dX5_build_143 : decode cX5_build 143 = .ok (.getfield 181, 3) := by decide +kernel
theorem dX5_build_146 : decode cX5_build 146 = .ok (.invokevirtual 187, 3) := by decide +kernel
theorem dX5_build_149 : decode cX5_build 149 = .ok (.iinc 4 1, 3) := by decide +kernel
theorem dX5_build_152 : decode cX5_build 152 = .ok (.goto (-54), 3) := by decide +kernel
theorem dX5_build_155 : decode cX5_build 155 = .ok (.iinc 2 1, 3) := by decide +kernel
theorem dX5_build_158 : decode cX5_build 158 = .ok (.goto (-130), 3) := by decide +kernel
theorem dX5_build_161 : decode cX5_build 161 = .ok (.iconst 0, 1) := by decide +kernel
theorem dX5_build_162 : decode cX5_build 162 = .ok (.istore_n 2, 1) := by decide +kernel
theorem dX5_build_163 : decode cX5_build 163 = .ok (.iload_n 2, 1) := by decide +kernel
theorem dX5_build_164 : decode cX5_build 164 = .ok (.aload_n 0, 1) := by decide +kernel
theorem dX5_build_165 : decode cX5_build 165 = .ok (.getfield 64, 3) := by decide +kernel
theorem dX5_build_168 : decode cX5_build 168 = .ok (.if_icmp .ge 34, 3) := by decide +kernel
theorem dX5_build_171 : decode cX5_build 171 = .ok (.iload_n 2, 1) := by decide +kernel
theorem dX5_build_172 : decode cX5_build 172 = .ok (.bipush 6, 2) := by decide +kernel
theorem dX5_build_174 : decode cX5_build 174 = .ok (.if_icmp .ge 28, 3) := by decide +kernel
theorem dX5_build_177 : decode cX5_build 177 = .ok (.aload_n 0, 1) := by decide +kernel
theorem dX5_build_178 : decode cX5_build 178 = .ok (.aload_n 1, 1) := by decide +kernel
theorem dX5_build_179 : decode cX5_build 179 = .ok (.aload_n 1, 1) := by decide +kernel
theorem dX5_build_180 : decode cX5_build 180 = .ok (.getfield 129, 3) := by decide +kernel
theorem dX5_build_183 : decode cX5_build 183 = .ok (.iload_n 2, 1) := by decide +kernel
theorem dX5_build_184 : decode cX5_build 184 = .ok (.aaload, 1) := by decide +kernel
theorem dX5_build_185 : decode cX5_build 185 = .ok (.aload_n 0, 1) := by decide +kernel
theorem dX5_build_186 : decode cX5_build 186 = .ok (.getfield 74, 3) := by decide +kernel
theorem dX5_build_189 : decode cX5_build 189 = .ok (.iload_n 2, 1) := by decide +kernel
theorem dX5_build_190 : decode cX5_build 190 = .ok (.iconst 5, 1) := by decide +kernel
theorem dX5_build_191 : decode cX5_build 191 = .ok (.imul, 1) := by decide +kernel
theorem dX5_build_192 : decode cX5_build 192 = .ok (.iadd, 1) := by decide +kernel
theorem dX5_build_193 : decode cX5_build 193 = .ok (.invokevirtual 191, 3) := by decide +kernel
theorem dX5_build_196 : decode cX5_build 196 = .ok (.iinc 2 1, 3) := by decide +kernel
theorem dX5_build_199 : decode cX5_build 199 = .ok (.goto (-36), 3) := by decide +kernel
theorem dX5_build_202 : decode cX5_build 202 = .ok (.return_, 1) := by decide +kernel
theorem dX5_makeImport_0 : decode cX5_makeImport 0 = .ok (.aload_n 0, 1) := by decide +kernel
theorem dX5_makeImport_1 : decode cX5_makeImport 1 = .ok (.iload_n 2, 1) := by decide +kernel
theorem dX5_makeImport_2 : decode cX5_makeImport 2 = .ok (.iconst 1, 1) := by decide +kernel
theorem dX5_makeImport_3 : decode cX5_makeImport 3 = .ok (.iadd, 1) := by decide +kernel
theorem dX5_makeImport_4 : decode cX5_makeImport 4 = .ok (.invokevirtual 53, 3) := by decide +kernel
theorem dX5_makeImport_7 : decode cX5_makeImport 7 = .ok (.istore_n 3, 1) := by decide +kernel
theorem dX5_makeImport_8 : decode cX5_makeImport 8 = .ok (.aload_n 0, 1) := by decide +kernel
theorem dX5_makeImport_9 : decode cX5_makeImport 9 = .ok (.iload_n 2, 1) := by decide +kernel
theorem dX5_makeImport_10 : decode cX5_makeImport 10 = .ok (.iconst 2, 1) := by decide +kernel
theorem dX5_makeImport_11 : decode cX5_makeImport 11 = .ok (.iadd, 1) := by decide +kernel
theorem dX5_makeImport_12 : decode cX5_makeImport 12 = .ok (.invokevirtual 53, 3) := by decide +kernel
theorem dX5_makeImport_15 : decode cX5_makeImport 15 = .ok (.istore 4, 2) := by decide +kernel
theorem dX5_makeImport_17 : decode cX5_makeImport 17 = .ok (.aload_n 1, 1) := by decide +kernel
theorem dX5_makeImport_18 : decode cX5_makeImport 18 = .ok (.getfield 177, 3) := by decide +kernel
theorem dX5_makeImport_21 : decode cX5_makeImport 21 = .ok (.astore 5, 2) := by decide +kernel
theorem dX5_makeImport_23 : decode cX5_makeImport 23 = .ok (.aload 5, 2) := by decide +kernel
theorem dX5_makeImport_25 : decode cX5_makeImport 25 = .ok (.invokevirtual 195, 3) := by decide +kernel
theorem dX5_makeImport_28 : decode cX5_makeImport 28 = .ok (.aload_n 0, 1) := by decide +kernel
theorem dX5_makeImport_29 : decode cX5_makeImport 29 = .ok (.iload_n 2, 1) := by decide +kernel
theorem dX5_makeImport_30 : decode cX5_makeImport 30 = .ok (.invokevirtual 53, 3) := by decide +kernel
theorem dX5_makeImport_33 : decode cX5_makeImport 33 = .ok (.tableswitch 115 0 3 #[31, 52, 68, 88], 31) := by decide +kernel
theorem dX5_makeImport_64 : decode cX5_makeImport 64 = .ok (.aload 5, 2) := by decide +kernel
theorem dX5_makeImport_66 : decode cX5_makeImport 66 = .ok (.bipush 16, 2) := by decide +kernel
theorem dX5_makeImport_68 : decode cX5_makeImport 68 = .ok (.iload_n 3, 1) := by decide +kernel
theorem dX5_makeImport_69 : decode cX5_makeImport 69 = .ok (.imul, 1) := by decide +kernel
theorem dX5_makeImport_70 : decode cX5_makeImport 70 = .ok (.iload 4, 2) := by decide +kernel
theorem dX5_makeImport_72 : decode cX5_makeImport 72 = .ok (.iadd, 1) := by decide +kernel
theorem dX5_makeImport_73 : decode cX5_makeImport 73 = .ok (.iconst 0, 1) := by decide +kernel
theorem dX5_makeImport_74 : decode cX5_makeImport 74 = .ok (.iconst 0, 1) := by decide +kernel
theorem dX5_makeImport_75 : decode cX5_makeImport 75 = .ok (.bipush 64, 2) := by decide +kernel
theorem dX5_makeImport_77 : decode cX5_makeImport 77 = .ok (.iconst 4, 1) := by decide +kernel
theorem dX5_makeImport_78 : decode cX5_makeImport 78 = .ok (.iconst 1, 1) := by decide +kernel
theorem dX5_makeImport_79 : decode cX5_makeImport 79 = .ok (.invokevirtual 198, 3) := by decide +kernel
theorem dX5_makeImport_82 : decode cX5_makeImport 82 = .ok (.goto 90, 3) := by decide +kernel
theorem dX5_makeImport_85 : decode cX5_makeImport 85 = .ok (.aload 5, 2) := by decide +kernel
theorem dX5_makeImport_87 : decode cX5_makeImport 87 = .ok (.iload_n 3, 1) := by decide +kernel
theorem dX5_makeImport_88 : decode cX5_makeImport 88 = .ok (.iconst 0, 1) := by decide +kernel
theorem dX5_makeImport_89 : decode cX5_makeImport 89 = .ok (.iconst 0, 1) := by decide +kernel
theorem dX5_makeImport_90 : decode cX5_makeImport 90 = .ok (.bipush 64, 2) := by decide +kernel
theorem dX5_makeImport_92 : decode cX5_makeImport 92 = .ok (.bipush 6, 2) := by decide +kernel
theorem dX5_makeImport_94 : decode cX5_makeImport 94 = .ok (.iconst 1, 1) := by decide +kernel
theorem dX5_makeImport_95 : decode cX5_makeImport 95 = .ok (.invokevirtual 198, 3) := by decide +kernel
theorem dX5_makeImport_98 : decode cX5_makeImport 98 = .ok (.goto 74, 3) := by decide +kernel
theorem dX5_makeImport_101 : decode cX5_makeImport 101 = .ok (.aload 5, 2) := by decide +kernel
theorem dX5_makeImport_103 : decode cX5_makeImport 103 = .ok (.ldc 202, 2) := by decide +kernel
theorem dX5_makeImport_105 : decode cX5_makeImport 105 = .ok (.ldc 202, 2) := by decide +kernel
theorem dX5_makeImport_107 : decode cX5_makeImport 107 = .ok (.ldc 203, 2) := by decide +kernel
theorem dX5_makeImport_109 : decode cX5_makeImport 109 = .ok (.iload_n 3, 1) := by decide +kernel
theorem dX5_makeImport_110 : decode cX5_makeImport 110 = .ok (.bipush 64, 2) := by decide +kernel
theorem dX5_makeImport_112 : decode cX5_makeImport 112 = .ok (.ior, 1) := by decide +kernel
theorem dX5_makeImport_113 : decode cX5_makeImport 113 = .ok (.iconst 0, 1) := by decide +kernel
theorem dX5_makeImport_114 : decode cX5_makeImport 114 = .ok (.iconst 1, 1) := by decide +kernel
theorem dX5_makeImport_115 : decode cX5_makeImport 115 = .ok (.invokevirtual 198, 3) := by decide +kernel
theorem dX5_makeImport_118 : decode cX5_makeImport 118 = .ok (.goto 54, 3) := by decide +kernel
theorem dX5_makeImport_121 : decode cX5_makeImport 121 = .ok (.bipush 8, 2) := by decide +kernel
theorem dX5_makeImport_123 : decode cX5_makeImport 123 = .ok (.iload_n 3, 1) := by decide +kernel
theorem dX5_makeImport_124 : decode cX5_makeImport 124 = .ok (.iadd, 1) := by decide +kernel
theorem dX5_makeImport_125 : decode cX5_makeImport 125 = .ok (.istore 6, 2) := by decide +kernel
theorem dX5_makeImport_127 : decode cX5_makeImport 127 = .ok (.aload 5, 2) := by decide +kernel
theorem dX5_makeImport_129 : decode cX5_makeImport 129 = .ok (.iload 6, 2) := by decide +kernel
theorem dX5_makeImport_131 : decode cX5_makeImport 131 = .ok (.iload 6, 2) := by decide +kernel
theorem dX5_makeImport_133 : decode cX5_makeImport 133 = .ok (.iload 6, 2) := by decide +kernel
theorem dX5_makeImport_135 : decode cX5_makeImport 135 = .ok (.iload 4, 2) := by decide +kernel
theorem dX5_makeImport_137 : decode cX5_makeImport 137 = .ok (.iadd, 1) := by decide +kernel
theorem dX5_makeImport_138 : decode cX5_makeImport 138 = .ok (.bipush 96, 2) := by decide +kernel
