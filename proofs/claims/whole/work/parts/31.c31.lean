theorem dX3_draw_0 : decode cX3_draw 0 = .ok (.aload_n 1, 1) := by decide +kernel
theorem dX3_draw_1 : decode cX3_draw 1 = .ok (.aload_n 2, 1) := by decide +kernel
theorem dX3_draw_2 : decode cX3_draw 2 = .ok (.getfield 26, 3) := by decide +kernel
theorem dX3_draw_5 : decode cX3_draw 5 = .ok (.invokevirtual 31, 3) := by decide +kernel
theorem dX3_draw_8 : decode cX3_draw 8 = .ok (.istore 5, 2) := by decide +kernel
theorem dX3_draw_10 : decode cX3_draw 10 = .ok (.iload_n 3, 1) := by decide +kernel
theorem dX3_draw_11 : decode cX3_draw 11 = .ok (.i2l, 1) := by decide +kernel
theorem dX3_draw_12 : decode cX3_draw 12 = .ok (.lstore 6, 2) := by decide +kernel
theorem dX3_draw_14 : decode cX3_draw 14 = .ok (.iconst 0, 1) := by decide +kernel
theorem dX3_draw_15 : decode cX3_draw 15 = .ok (.istore 8, 2) := by decide +kernel
theorem dX3_draw_17 : decode cX3_draw 17 = .ok (.iload 8, 2) := by decide +kernel
theorem dX3_draw_19 : decode cX3_draw 19 = .ok (.aload_n 1, 1) := by decide +kernel
theorem dX3_draw_20 : decode cX3_draw 20 = .ok (.getfield 40, 3) := by decide +kernel
theorem dX3_draw_23 : decode cX3_draw 23 = .ok (.if_icmp .ge 63, 3) := by decide +kernel
theorem dX3_draw_26 : decode cX3_draw 26 = .ok (.iload 5, 2) := by decide +kernel
theorem dX3_draw_28 : decode cX3_draw 28 = .ok (.iload 8, 2) := by decide +kernel
theorem dX3_draw_30 : decode cX3_draw 30 = .ok (.invokestatic 43, 3) := by decide +kernel
theorem dX3_draw_33 : decode cX3_draw 33 = .ok (.ifCond .ne 47, 3) := by decide +kernel
theorem dX3_draw_36 : decode cX3_draw 36 = .ok (.lload 6, 2) := by decide +kernel
theorem dX3_draw_38 : decode cX3_draw 38 = .ok (.ldc2_w 81, 3) := by decide +kernel
theorem dX3_draw_41 : decode cX3_draw 41 = .ok (.lmul, 1) := by decide +kernel
theorem dX3_draw_42 : decode cX3_draw 42 = .ok (.ldc2_w 83, 3) := by decide +kernel
theorem dX3_draw_45 : decode cX3_draw 45 = .ok (.ladd, 1) := by decide +kernel
theorem dX3_draw_46 : decode cX3_draw 46 = .ok (.ldc2_w 85, 3) := by decide +kernel
theorem dX3_draw_49 : decode cX3_draw 49 = .ok (.land, 1) := by decide +kernel
theorem dX3_draw_50 : decode cX3_draw 50 = .ok (.lstore 6, 2) := by decide +kernel
theorem dX3_draw_52 : decode cX3_draw 52 = .ok (.aload_n 2, 1) := by decide +kernel
theorem dX3_draw_53 : decode cX3_draw 53 = .ok (.iload 8, 2) := by decide +kernel
theorem dX3_draw_55 : decode cX3_draw 55 = .ok (.lload 6, 2) := by decide +kernel
theorem dX3_draw_57 : decode cX3_draw 57 = .ok (.ldc2_w 87, 3) := by decide +kernel
theorem dX3_draw_60 : decode cX3_draw 60 = .ok (.ldiv, 1) := by decide +kernel
theorem dX3_draw_61 : decode cX3_draw 61 = .ok (.ldc2_w 89, 3) := by decide +kernel
theorem dX3_draw_64 : decode cX3_draw 64 = .ok (.lrem, 1) := by decide +kernel
theorem dX3_draw_65 : decode cX3_draw 65 = .ok (.iload 4, 2) := by decide +kernel
theorem dX3_draw_67 : decode cX3_draw 67 = .ok (.i2l, 1) := by decide +kernel
theorem dX3_draw_68 : decode cX3_draw 68 = .ok (.lcmp, 1) := by decide +kernel
theorem dX3_draw_69 : decode cX3_draw 69 = .ok (.ifCond .ge 7, 3) := by decide +kernel
theorem dX3_draw_72 : decode cX3_draw 72 = .ok (.iconst 1, 1) := by decide +kernel
theorem dX3_draw_73 : decode cX3_draw 73 = .ok (.goto 4, 3) := by decide +kernel
theorem dX3_draw_76 : decode cX3_draw 76 = .ok (.iconst 0, 1) := by decide +kernel
theorem dX3_draw_77 : decode cX3_draw 77 = .ok (.invokestatic 51, 3) := by decide +kernel
theorem dX3_draw_80 : decode cX3_draw 80 = .ok (.iinc 8 1, 3) := by decide +kernel
theorem dX3_draw_83 : decode cX3_draw 83 = .ok (.goto (-66), 3) := by decide +kernel
theorem dX3_draw_86 : decode cX3_draw 86 = .ok (.lload 6, 2) := by decide +kernel
theorem dX3_draw_88 : decode cX3_draw 88 = .ok (.l2i, 1) := by decide +kernel
theorem dX3_draw_89 : decode cX3_draw 89 = .ok (.ireturn, 1) := by decide +kernel
theorem dX7_everyone_0 : decode cX7_everyone 0 = .ok (.iconst 1, 1) := by decide +kernel
theorem dX7_everyone_1 : decode cX7_everyone 1 = .ok (.aload_n 0, 1) := by decide +kernel
theorem dX7_everyone_2 : decode cX7_everyone 2 = .ok (.getfield 34, 3) := by decide +kernel
theorem dX7_everyone_5 : decode cX7_everyone 5 = .ok (.ishl, 1) := by decide +kernel
theorem dX7_everyone_6 : decode cX7_everyone 6 = .ok (.iconst 1, 1) := by decide +kernel
theorem dX7_everyone_7 : decode cX7_everyone 7 = .ok (.isub, 1) := by decide +kernel
theorem dX7_everyone_8 : decode cX7_everyone 8 = .ok (.ireturn, 1) := by decide +kernel
theorem dX3_shareIfWakingPaid_0 : decode cX3_shareIfWakingPaid 0 = .ok (.aload_n 0, 1) := by decide +kernel
theorem dX3_shareIfWakingPaid_1 : decode cX3_shareIfWakingPaid 1 = .ok (.aload_n 1, 1) := by decide +kernel
theorem dX3_shareIfWakingPaid_2 : decode cX3_shareIfWakingPaid 2 = .ok (.invokevirtual 98, 3) := by decide +kernel
theorem dX3_shareIfWakingPaid_5 : decode cX3_shareIfWakingPaid 5 = .ok (.aload_n 0, 1) := by decide +kernel
theorem dX3_shareIfWakingPaid_6 : decode cX3_shareIfWakingPaid 6 = .ok (.getfield 19, 3) := by decide +kernel
theorem dX3_shareIfWakingPaid_9 : decode cX3_shareIfWakingPaid 9 = .ok (.iconst (-1), 1) := by decide +kernel
theorem dX3_shareIfWakingPaid_10 : decode cX3_shareIfWakingPaid 10 = .ok (.ixor, 1) := by decide +kernel
theorem dX3_shareIfWakingPaid_11 : decode cX3_shareIfWakingPaid 11 = .ok (.iand, 1) := by decide +kernel
theorem dX3_shareIfWakingPaid_12 : decode cX3_shareIfWakingPaid 12 = .ok (.iload_n 2, 1) := by decide +kernel
theorem dX3_shareIfWakingPaid_13 : decode cX3_shareIfWakingPaid 13 = .ok (.invokevirtual 94, 3) := by decide +kernel
theorem dX3_shareIfWakingPaid_16 : decode cX3_shareIfWakingPaid 16 = .ok (.lreturn, 1) := by decide +kernel
theorem dX4_init_0 : decode cX4_init 0 = .ok (.aload_n 0, 1) := by decide +kernel
theorem dX4_init_1 : decode cX4_init 1 = .ok (.invokespecial 1, 3) := by decide +kernel
theorem dX4_init_4 : decode cX4_init 4 = .ok (.iconst 0, 1) := by decide +kernel
theorem dX4_init_5 : decode cX4_init 5 = .ok (.iload_n 2, 1) := by decide +kernel
theorem dX4_init_6 : decode cX4_init 6 = .ok (.aload_n 1, 1) := by decide +kernel
theorem dX4_init_7 : decode cX4_init 7 = .ok (.arraylength, 1) := by decide +kernel
theorem dX4_init_8 : decode cX4_init 8 = .ok (.invokestatic 7, 3) := by decide +kernel
theorem dX4_init_11 : decode cX4_init 11 = .ok (.invokestatic 13, 3) := by decide +kernel
theorem dX4_init_14 : decode cX4_init 14 = .ok (.istore_n 3, 1) := by decide +kernel
theorem dX4_init_15 : decode cX4_init 15 = .ok (.aload_n 0, 1) := by decide +kernel
theorem dX4_init_16 : decode cX4_init 16 = .ok (.iload_n 3, 1) := by decide +kernel
theorem dX4_init_17 : decode cX4_init 17 = .ok (.newarray .int, 2) := by decide +kernel
theorem dX4_init_19 : decode cX4_init 19 = .ok (.putfield 16, 3) := by decide +kernel
theorem dX4_init_22 : decode cX4_init 22 = .ok (.aload_n 1, 1) := by decide +kernel
theorem dX4_init_23 : decode cX4_init 23 = .ok (.iconst 0, 1) := by decide +kernel
theorem dX4_init_24 : decode cX4_init 24 = .ok (.aload_n 0, 1) := by decide +kernel
theorem dX4_init_25 : decode cX4_init 25 = .ok (.getfield 16, 3) := by decide +kernel
theorem dX4_init_28 : decode cX4_init 28 = .ok (.iconst 0, 1) := by decide +kernel
theorem dX4_init_29 : decode cX4_init 29 = .ok (.iload_n 3, 1) := by decide +kernel
theorem dX4_init_30 : decode cX4_init 30 = .ok (.invokestatic 22, 3) := by decide +kernel
theorem dX4_init_33 : decode cX4_init 33 = .ok (.return_, 1) := by decide +kernel
theorem dX5_init_0 : decode cX5_init 0 = .ok (.aload_n 0, 1) := by decide +kernel
theorem dX5_init_1 : decode cX5_init 1 = .ok (.invokespecial 7, 3) := by decide +kernel
theorem dX5_init_4 : decode cX5_init 4 = .ok (.aload_n 0, 1) := by decide +kernel
theorem dX5_init_5 : decode cX5_init 5 = .ok (.sipush 412, 3) := by decide +kernel
theorem dX5_init_8 : decode cX5_init 8 = .ok (.newarray .int, 2) := by decide +kernel
theorem dX5_init_10 : decode cX5_init 10 = .ok (.putfield 13, 3) := by decide +kernel
theorem dX5_init_13 : decode cX5_init 13 = .ok (.aload_n 0, 1) := by decide +kernel
theorem dX5_init_14 : decode cX5_init 14 = .ok (.iconst 0, 1) := by decide +kernel
theorem dX5_init_15 : decode cX5_init 15 = .ok (.putfield 17, 3) := by decide +kernel
theorem dX5_init_18 : decode cX5_init 18 = .ok (.aload_n 0, 1) := by decide +kernel
theorem dX5_init_19 : decode cX5_init 19 = .ok (.iconst 0, 1) := by decide +kernel
theorem dX5_init_20 : decode cX5_init 20 = .ok (.putfield 21, 3) := by decide +kernel
theorem dX5_init_23 : decode cX5_init 23 = .ok (.aload_n 0, 1) := by decide +kernel
theorem dX5_init_24 : decode cX5_init 24 = .ok (.aload_n 1, 1) := by decide +kernel
theorem dX5_init_25 : decode cX5_init 25 = .ok (.putfield 24, 3) := by decide +kernel
theorem dX5_init_28 : decode cX5_init 28 = .ok (.return_, 1) := by decide +kernel
theorem dX5_made_0 : decode cX5_made 0 = .ok (.new 28, 3) := by decide +kernel
theorem dX5_made_3 : decode cX5_made 3 = .ok (.dup, 1) := by decide +kernel
theorem dX5_made_4 : decode cX5_made 4 = .ok (.aload_n 0, 1) := by decide +kernel
theorem dX5_made_5 : decode cX5_made 5 = .ok (.getfield 13, 3) := by decide +kernel
theorem dX5_made_8 : decode cX5_made 8 = .ok (.aload_n 0, 1) := by decide +kernel
theorem dX5_made_9 : decode cX5_made 9 = .ok (.getfield 17, 3) := by decide +kernel
theorem dX5_made_12 : decode cX5_made 12 = .ok (.invokespecial 30, 3) := by decide +kernel
theorem dX5_made_15 : decode cX5_made 15 = .ok (.areturn, 1) := by decide +kernel
theorem dX9_byteAt_0 : decode cX9_byteAt 0 = .ok (.iload_n 1, 1) := by decide +kernel
theorem dX9_byteAt_1 : decode cX9_byteAt 1 = .ok (.ifCond .lt 31, 3) := by decide +kernel
theorem dX9_byteAt_4 : decode cX9_byteAt 4 = .ok (.iload_n 1, 1) := by decide +kernel
theorem dX9_byteAt_5 : decode cX9_byteAt 5 = .ok (.aload_n 0, 1) := by decide +kernel
theorem dX9_byteAt_6 : decode cX9_byteAt 6 = .ok (.getfield 15, 3) := by decide +kernel
theorem dX9_byteAt_9 : decode cX9_byteAt 9 = .ok (.if_icmp .ge 23, 3) := by decide +kernel
theorem dX9_byteAt_12 : decode cX9_byteAt 12 = .ok (.iload_n 1, 1) := by decide +kernel
theorem dX9_byteAt_13 : decode cX9_byteAt 13 = .ok (.sipush 400, 3) := by decide +kernel
theorem dX9_byteAt_16 : decode cX9_byteAt 16 = .ok (.if_icmp .ge 16, 3) := by decide +kernel
theorem dX9_byteAt_19 : decode cX9_byteAt 19 = .ok (.aload_n 0, 1) := by decide +kernel
theorem dX9_byteAt_20 : decode cX9_byteAt 20 = .ok (.getfield 11, 3) := by decide +kernel
theorem dX9_byteAt_23 : decode cX9_byteAt 23 = .ok (.iload_n 1, 1) := by decide +kernel
theorem dX9_byteAt_24 : decode cX9_byteAt 24 = .ok (.baload, 1) := by decide +kernel
theorem dX9_byteAt_25 : decode cX9_byteAt 25 = .ok (.sipush 255, 3) := by decide +kernel
theorem dX9_byteAt_28 : decode cX9_byteAt 28 = .ok (.iand, 1) := by decide +kernel
theorem dX9_byteAt_29 : decode cX9_byteAt 29 = .ok (.goto 4, 3) := by decide +kernel
theorem dX9_byteAt_32 : decode cX9_byteAt 32 = .ok (.iconst (-1), 1) := by decide +kernel
theorem dX9_byteAt_33 : decode cX9_byteAt 33 = .ok (.ireturn, 1) := by decide +kernel
theorem dX9_isDigit_0 : decode cX9_isDigit 0 = .ok (.iload_n 0, 1) := by decide +kernel
theorem dX9_isDigit_1 : decode cX9_isDigit 1 = .ok (.bipush 48, 2) := by decide +kernel
theorem dX9_isDigit_3 : decode cX9_isDigit 3 = .ok (.if_icmp .lt 13, 3) := by decide +kernel
theorem dX9_isDigit_6 : decode cX9_isDigit 6 = .ok (.iload_n 0, 1) := by decide +kernel
theorem dX9_isDigit_7 : decode cX9_isDigit 7 = .ok (.bipush 57, 2) := by decide +kernel
theorem dX9_isDigit_9 : decode cX9_isDigit 9 = .ok (.if_icmp .gt 7, 3) := by decide +kernel
theorem dX9_isDigit_12 : decode cX9_isDigit 12 = .ok (.iconst 1, 1) := by decide +kernel
theorem dX9_isDigit_13 : decode cX9_isDigit 13 = .ok (.goto 4, 3) := by decide +kernel
theorem dX9_isDigit_16 : decode cX9_isDigit 16 = .ok (.iconst 0, 1) := by decide +kernel
theorem dX9_isDigit_17 : decode cX9_isDigit 17 = .ok (.ireturn, 1) := by decide +kernel
theorem dX9_add_0 : decode cX9_add 0 = .ok (.aload_n 0, 1) := by decide +kernel
theorem dX9_add_1 : decode cX9_add 1 = .ok (.getfield 32, 3) := by decide +kernel
theorem dX9_add_4 : decode cX9_add 4 = .ok (.ifCond .lt 53, 3) := by decide +kernel
theorem dX9_add_7 : decode cX9_add 7 = .ok (.aload_n 0, 1) := by decide +kernel
theorem dX9_add_8 : decode cX9_add 8 = .ok (.getfield 32, 3) := by decide +kernel
theorem dX9_add_11 : decode cX9_add 11 = .ok (.sipush 400, 3) := by decide +kernel
theorem dX9_add_14 : decode cX9_add 14 = .ok (.if_icmp .gt 43, 3) := by decide +kernel
theorem dX9_add_17 : decode cX9_add 17 = .ok (.aload_n 0, 1) := by decide +kernel
theorem dX9_add_18 : decode cX9_add 18 = .ok (.getfield 22, 3) := by decide +kernel
theorem dX9_add_21 : decode cX9_add 21 = .ok (.aload_n 0, 1) := by decide +kernel
theorem dX9_add_22 : decode cX9_add 22 = .ok (.getfield 32, 3) := by decide +kernel
theorem dX9_add_25 : decode cX9_add 25 = .ok (.iload_n 1, 1) := by decide +kernel
theorem dX9_add_26 : decode cX9_add 26 = .ok (.iastore, 1) := by decide +kernel
theorem dX9_add_27 : decode cX9_add 27 = .ok (.aload_n 0, 1) := by decide +kernel
theorem dX9_add_28 : decode cX9_add 28 = .ok (.getfield 26, 3) := by decide +kernel
theorem dX9_add_31 : decode cX9_add 31 = .ok (.aload_n 0, 1) := by decide +kernel
theorem dX9_add_32 : decode cX9_add 32 = .ok (.getfield 32, 3) := by decide +kernel
theorem dX9_add_35 : decode cX9_add 35 = .ok (.iload_n 2, 1) := by decide +kernel
theorem dX9_add_36 : decode cX9_add 36 = .ok (.iastore, 1) := by decide +kernel
theorem dX9_add_37 : decode cX9_add 37 = .ok (.aload_n 0, 1) := by decide +kernel
theorem dX9_add_38 : decode cX9_add 38 = .ok (.getfield 29, 3) := by decide +kernel
theorem dX9_add_41 : decode cX9_add 41 = .ok (.aload_n 0, 1) := by decide +kernel
theorem dX9_add_42 : decode cX9_add 42 = .ok (.getfield 32, 3) := by decide +kernel
theorem dX9_add_45 : decode cX9_add 45 = .ok (.iload_n 3, 1) := by decide +kernel
theorem dX9_add_46 : decode cX9_add 46 = .ok (.iastore, 1) := by decide +kernel
theorem dX9_add_47 : decode cX9_add 47 = .ok (.aload_n 0, 1) := by decide +kernel
theorem dX9_add_48 : decode cX9_add 48 = .ok (.dup, 1) := by decide +kernel
theorem dX9_add_49 : decode cX9_add 49 = .ok (.getfield 32, 3) := by decide +kernel
theorem dX9_add_52 : decode cX9_add 52 = .ok (.iconst 1, 1) := by decide +kernel
theorem dX9_add_53 : decode cX9_add 53 = .ok (.iadd, 1) := by decide +kernel
theorem dX9_add_54 : decode cX9_add 54 = .ok (.putfield 32, 3) := by decide +kernel
theorem dX9_add_57 : decode cX9_add 57 = .ok (.return_, 1) := by decide +kernel
theorem dX9_splitNumber_0 : decode cX9_splitNumber 0 = .ok (.iconst 0, 1) := by decide +kernel
theorem dX9_splitNumber_1 : decode cX9_splitNumber 1 = .ok (.istore_n 2, 1) := by decide +kernel
theorem dX9_splitNumber_2 : decode cX9_splitNumber 2 = .ok (.iload_n 1, 1) := by decide +kernel
theorem dX9_splitNumber_3 : decode cX9_splitNumber 3 = .ok (.istore_n 3, 1) := by decide +kernel
theorem dX9_splitNumber_4 : decode cX9_splitNumber 4 = .ok (.iload_n 3, 1) := by decide +kernel
theorem dX9_splitNumber_5 : decode cX9_splitNumber 5 = .ok (.aload_n 0, 1) := by decide +kernel
theorem dX9_splitNumber_6 : decode cX9_splitNumber 6 = .ok (.getfield 15, 3) := by decide +kernel
theorem dX9_splitNumber_9 : decode cX9_splitNumber 9 = .ok (.if_icmp .ge 45, 3) := by decide +kernel
theorem dX9_splitNumber_12 : decode cX9_splitNumber 12 = .ok (.aload_n 0, 1) := by decide +kernel
theorem dX9_splitNumber_13 : decode cX9_splitNumber 13 = .ok (.iload_n 3, 1) := by decide +kernel
theorem dX9_splitNumber_14 : decode cX9_splitNumber 14 = .ok (.invokevirtual 61, 3) := by decide +kernel
theorem dX9_splitNumber_17 : decode cX9_splitNumber 17 = .ok (.invokestatic 64, 3) := by decide +kernel
theorem dX9_splitNumber_20 : decode cX9_splitNumber 20 = .ok (.ifCond .eq 34, 3) := by decide +kernel
theorem dX9_splitNumber_23 : decode cX9_splitNumber 23 = .ok (.iload_n 3, 1) := by decide +kernel
theorem dX9_splitNumber_24 : decode cX9_splitNumber 24 = .ok (.iload_n 1, 1) := by decide +kernel
theorem dX9_splitNumber_25 : decode cX9_splitNumber 25 = .ok (.isub, 1) := by decide +kernel
theorem dX9_splitNumber_26 : decode cX9_splitNumber 26 = .ok (.iconst 5, 1) := by decide +kernel
theorem dX9_splitNumber_27 : decode cX9_splitNumber 27 = .ok (.if_icmp .ge 19, 3) := by decide +kernel
theorem dX9_splitNumber_30 : decode cX9_splitNumber 30 = .ok (.iload_n 2, 1) := by decide +kernel
theorem dX9_splitNumber_31 : decode cX9_splitNumber 31 = .ok (.bipush 10, 2) := by decide +kernel
theorem dX9_splitNumber_33 : decode cX9_splitNumber 33 = .ok (.imul, 1) := by decide +kernel
theorem dX9_splitNumber_34 : decode cX9_splitNumber 34 = .ok (.aload_n 0, 1) := by decide +kernel
theorem dX9_splitNumber_35 : decode cX9_splitNumber 35 = .ok (.iload_n 3, 1) := by decide +kernel
theorem dX9_splitNumber_36 : decode cX9_splitNumber 36 = .ok (.invokevirtual 61, 3) := by decide +kernel
theorem dX9_splitNumber_39 : decode cX9_splitNumber 39 = .ok (.iadd, 1) := by decide +kernel
theorem dX9_splitNumber_40 : decode cX9_splitNumber 40 = .ok (.bipush 48, 2) := by decide +kernel
theorem dX9_splitNumber_42 : decode cX9_splitNumber 42 = .ok (.isub, 1) := by decide +kernel
theorem dX9_splitNumber_43 : decode cX9_splitNumber 43 = .ok (.goto 4, 3) := by decide +kernel
theorem dX9_splitNumber_46 : decode cX9_splitNumber 46 = .ok (.iconst (-1), 1) := by decide +kernel
theorem dX9_splitNumber_47 : decode cX9_splitNumber 47 = .ok (.istore_n 2, 1) := by decide +kernel
theorem dX9_splitNumber_48 : decode cX9_splitNumber 48 = .ok (.iinc 3 1, 3) := by decide +kernel
theorem dX9_splitNumber_51 : decode cX9_splitNumber 51 = .ok (.goto (-47), 3) := by decide +kernel
theorem dX9_splitNumber_54 : decode cX9_splitNumber 54 = .ok (.aload_n 0, 1) := by decide +kernel
theorem dX9_splitNumber_55 : decode cX9_splitNumber 55 = .ok (.iconst 1, 1) := by decide +kernel
theorem dX9_splitNumber_56 : decode cX9_splitNumber 56 = .ok (.iload_n 2, 1) := by decide +kernel
theorem dX9_splitNumber_57 : decode cX9_splitNumber 57 = .ok (.iload_n 1, 1) := by decide +kernel
theorem dX9_splitNumber_58 : decode cX9_splitNumber 58 = .ok (.invokevirtual 54, 3) := by decide +kernel
theorem dX9_splitNumber_61 : decode cX9_splitNumber 61 = .ok (.iload_n 3, 1) := by decide +kernel
theorem dX9_splitNumber_62 : decode cX9_splitNumber 62 = .ok (.ireturn, 1) := by decide +kernel
theorem dX9_isSmall_0 : decode cX9_isSmall 0 = .ok (.iload_n 0, 1) := by decide +kernel
theorem dX9_isSmall_1 : decode cX9_isSmall 1 = .ok (.bipush 97, 2) := by decide +kernel
theorem dX9_isSmall_3 : decode cX9_isSmall 3 = .ok (.if_icmp .lt 13, 3) := by decide +kernel
theorem dX9_isSmall_6 : decode cX9_isSmall 6 = .ok (.iload_n 0, 1) := by decide +kernel
theorem dX9_isSmall_7 : decode cX9_isSmall 7 = .ok (.bipush 122, 2) := by decide +kernel
theorem dX9_isSmall_9 : decode cX9_isSmall 9 = .ok (.if_icmp .gt 7, 3) := by decide +kernel
theorem dX9_isSmall_12 : decode cX9_isSmall 12 = .ok (.iconst 1, 1) := by decide +kernel
theorem dX9_isSmall_13 : decode cX9_isSmall 13 = .ok (.goto 4, 3) := by decide +kernel
theorem dX9_isSmall_16 : decode cX9_isSmall 16 = .ok (.iconst 0, 1) := by decide +kernel
theorem dX9_isSmall_17 : decode cX9_isSmall 17 = .ok (.ireturn, 1) := by decide +kernel
theorem dX9_isSame_0 : decode cX9_isSame 0 = .ok (.iload_n 2, 1) := by decide +kernel
theorem dX9_isSame_1 : decode cX9_isSame 1 = .ok (.istore 4, 2) := by decide +kernel
theorem dX9_isSame_3 : decode cX9_isSame 3 = .ok (.iload 4, 2) := by decide +kernel
theorem dX9_isSame_5 : decode cX9_isSame 5 = .ok (.iload_n 3, 1) := by decide +kernel
theorem dX9_isSame_6 : decode cX9_isSame 6 = .ok (.if_icmp .ge 41, 3) := by decide +kernel
theorem dX9_isSame_9 : decode cX9_isSame 9 = .ok (.iload 4, 2) := by decide +kernel
theorem dX9_isSame_11 : decode cX9_isSame 11 = .ok (.ldc 81, 2) := by decide +kernel
theorem dX9_isSame_13 : decode cX9_isSame 13 = .ok (.invokevirtual 83, 3) := by decide +kernel
theorem dX9_isSame_16 : decode cX9_isSame 16 = .ok (.if_icmp .ge 31, 3) := by decide +kernel
theorem dX9_isSame_19 : decode cX9_isSame 19 = .ok (.ldc 81, 2) := by decide +kernel
theorem dX9_isSame_21 : decode cX9_isSame 21 = .ok (.iload 4, 2) := by decide +kernel
theorem dX9_isSame_23 : decode cX9_isSame 23 = .ok (.invokevirtual 88, 3) := by decide +kernel
theorem dX9_isSame_26 : decode cX9_isSame 26 = .ok (.aload_n 0, 1) := by decide +kernel
theorem dX9_isSame_27 : decode cX9_isSame 27 = .ok (.iload_n 1, 1) := by decide +kernel
theorem dX9_isSame_28 : decode cX9_isSame 28 = .ok (.iload 4, 2) := by decide +kernel
theorem dX9_isSame_30 : decode cX9_isSame 30 = .ok (.iadd, 1) := by decide +kernel
theorem dX9_isSame_31 : decode cX9_isSame 31 = .ok (.iload_n 2, 1) := by decide +kernel
theorem dX9_isSame_32 : decode cX9_isSame 32 = .ok (.isub, 1) := by decide +kernel
theorem dX9_isSame_33 : decode cX9_isSame 33 = .ok (.invokevirtual 61, 3) := by decide +kernel
theorem dX9_isSame_36 : decode cX9_isSame 36 = .ok (.if_icmp .eq 5, 3) := by decide +kernel
theorem dX9_isSame_39 : decode cX9_isSame 39 = .ok (.iconst 0, 1) := by decide +kernel
theorem dX9_isSame_40 : decode cX9_isSame 40 = .ok (.ireturn, 1) := by decide +kernel
theorem dX9_isSame_41 : decode cX9_isSame 41 = .ok (.iinc 4 1, 3) := by decide +kernel
theorem dX9_isSame_44 : decode cX9_isSame 44 = .ok (.goto (-41), 3) := by decide +kernel
theorem dX9_isSame_47 : decode cX9_isSame 47 = .ok (.iconst 1, 1) := by decide +kernel
theorem dX9_isSame_48 : decode cX9_isSame 48 = .ok (.ireturn, 1) := by decide +kernel
theorem dX9_wordBetween_0 : decode cX9_wordBetween 0 = .ok (.iconst 0, 1) := by decide +kernel
theorem dX9_wordBetween_1 : decode cX9_wordBetween 1 = .ok (.istore_n 3, 1) := by decide +kernel
theorem dX9_wordBetween_2 : decode cX9_wordBetween 2 = .ok (.iconst 0, 1) := by decide +kernel
theorem dX9_wordBetween_3 : decode cX9_wordBetween 3 = .ok (.istore 4, 2) := by decide +kernel
theorem dX9_wordBetween_5 : decode cX9_wordBetween 5 = .ok (.iconst 0, 1) := by decide +kernel
theorem dX9_wordBetween_6 : decode cX9_wordBetween 6 = .ok (.istore 5, 2) := by decide +kernel
theorem dX9_wordBetween_8 : decode cX9_wordBetween 8 = .ok (.iload 5, 2) := by decide +kernel
theorem dX9_wordBetween_10 : decode cX9_wordBetween 10 = .ok (.ldc 81, 2) := by decide +kernel
theorem dX9_wordBetween_12 : decode cX9_wordBetween 12 = .ok (.invokevirtual 83, 3) := by decide +kernel
theorem dX9_wordBetween_15 : decode cX9_wordBetween 15 = .ok (.if_icmp .gt 65, 3) := by decide +kernel
theorem dX9_wordBetween_18 : decode cX9_wordBetween 18 = .ok (.iload 5, 2) := by decide +kernel
theorem dX9_wordBetween_20 : decode cX9_wordBetween 20 = .ok (.ldc 81, 2) := by decide +kernel
theorem dX9_wordBetween_22 : decode cX9_wordBetween 22 = .ok (.invokevirtual 83, 3) := by decide +kernel
theorem dX9_wordBetween_25 : decode cX9_wordBetween 25 = .ok (.if_icmp .eq 15, 3) := by decide +kernel
theorem dX9_wordBetween_28 : decode cX9_wordBetween 28 = .ok (.ldc 81, 2) := by decide +kernel
theorem dX9_wordBetween_30 : decode cX9_wordBetween 30 = .ok (.iload 5, 2) := by decide +kernel
theorem dX9_wordBetween_32 : decode cX9_wordBetween 32 = .ok (.invokevirtual 88, 3) := by decide +kernel
theorem dX9_wordBetween_35 : decode cX9_wordBetween 35 = .ok (.bipush 32, 2) := by decide +kernel
theorem dX9_wordBetween_37 : decode cX9_wordBetween 37 = .ok (.if_icmp .ne 37, 3) := by decide +kernel
theorem dX9_wordBetween_40 : decode cX9_wordBetween 40 = .ok (.iload 5, 2) := by decide +kernel
theorem dX9_wordBetween_42 : decode cX9_wordBetween 42 = .ok (.iload 4, 2) := by decide +kernel
theorem dX9_wordBetween_44 : decode cX9_wordBetween 44 = .ok (.isub, 1) := by decide +kernel
theorem dX9_wordBetween_45 : decode cX9_wordBetween 45 = .ok (.iload_n 2, 1) := by decide +kernel
theorem dX9_wordBetween_46 : decode cX9_wordBetween 46 = .ok (.iload_n 1, 1) := by decide +kernel
theorem dX9_wordBetween_47 : decode cX9_wordBetween 47 = .ok (.isub, 1) := by decide +kernel
theorem dX9_wordBetween_48 : decode cX9_wordBetween 48 = .ok (.if_icmp .ne 17, 3) := by decide +kernel
theorem dX9_wordBetween_51 : decode cX9_wordBetween 51 = .ok (.aload_n 0, 1) := by decide +kernel
theorem dX9_wordBetween_52 : decode cX9_wordBetween 52 = .ok (.iload_n 1, 1) := by decide +kernel
theorem dX9_wordBetween_53 : decode cX9_wordBetween 53 = .ok (.iload 4, 2) := by decide +kernel
theorem dX9_wordBetween_55 : decode cX9_wordBetween 55 = .ok (.iload 5, 2) := by decide +kernel
theorem dX9_wordBetween_57 : decode cX9_wordBetween 57 = .ok (.invokevirtual 92, 3) := by decide +kernel
theorem dX9_wordBetween_60 : decode cX9_wordBetween 60 = .ok (.ifCond .eq 5, 3) := by decide +kernel
theorem dX9_wordBetween_63 : decode cX9_wordBetween 63 = .ok (.iload_n 3, 1) := by decide +kernel
theorem dX9_wordBetween_64 : decode cX9_wordBetween 64 = .ok (.ireturn, 1) := by decide +kernel
theorem dX9_wordBetween_65 : decode cX9_wordBetween 65 = .ok (.iinc 3 1, 3) := by decide +kernel
theorem dX9_wordBetween_68 : decode cX9_wordBetween 68 = .ok (.iload 5, 2) := by decide +kernel
theorem dX9_wordBetween_70 : decode cX9_wordBetween 70 = .ok (.iconst 1, 1) := by decide +kernel
theorem dX9_wordBetween_71 : decode cX9_wordBetween 71 = .ok (.iadd, 1) := by decide +kernel
theorem dX9_wordBetween_72 : decode cX9_wordBetween 72 = .ok (.istore 4, 2) := by decide +kernel
theorem dX9_wordBetween_74 : decode cX9_wordBetween 74 = .ok (.iinc 5 1, 3) := by decide +kernel
theorem dX9_wordBetween_77 : decode cX9_wordBetween 77 = .ok (.goto (-69), 3) := by decide +kernel
theorem dX9_wordBetween_80 : decode cX9_wordBetween 80 = .ok (.iconst (-1), 1) := by decide +kernel
theorem dX9_wordBetween_81 : decode cX9_wordBetween 81 = .ok (.ireturn, 1) := by decide +kernel
theorem dX9_splitWord_0 : decode cX9_splitWord 0 = .ok (.iload_n 1, 1) := by decide +kernel
theorem dX9_splitWord_1 : decode cX9_splitWord 1 = .ok (.istore_n 2, 1) := by decide +kernel
theorem dX9_splitWord_2 : decode cX9_splitWord 2 = .ok (.iload_n 2, 1) := by decide +kernel
theorem dX9_splitWord_3 : decode cX9_splitWord 3 = .ok (.aload_n 0, 1) := by decide +kernel
theorem dX9_splitWord_4 : decode cX9_splitWord 4 = .ok (.getfield 15, 3) := by decide +kernel
theorem dX9_splitWord_7 : decode cX9_splitWord 7 = .ok (.if_icmp .ge 20, 3) := by decide +kernel
theorem dX9_splitWord_10 : decode cX9_splitWord 10 = .ok (.aload_n 0, 1) := by decide +kernel
theorem dX9_splitWord_11 : decode cX9_splitWord 11 = .ok (.iload_n 2, 1) := by decide +kernel
theorem dX9_splitWord_12 : decode cX9_splitWord 12 = .ok (.invokevirtual 61, 3) := by decide +kernel
theorem dX9_splitWord_15 : decode cX9_splitWord 15 = .ok (.invokestatic 71, 3) := by decide +kernel
theorem dX9_splitWord_18 : decode cX9_splitWord 18 = .ok (.ifCond .eq 9, 3) := by decide +kernel
theorem dX9_splitWord_21 : decode cX9_splitWord 21 = .ok (.iinc 2 1, 3) := by decide +kernel
theorem dX9_splitWord_24 : decode cX9_splitWord 24 = .ok (.goto (-22), 3) := by decide +kernel
theorem dX9_splitWord_27 : decode cX9_splitWord 27 = .ok (.aload_n 0, 1) := by decide +kernel
theorem dX9_splitWord_28 : decode cX9_splitWord 28 = .ok (.iconst 2, 1) := by decide +kernel
theorem dX9_splitWord_29 : decode cX9_splitWord 29 = .ok (.aload_n 0, 1) := by decide +kernel
theorem dX9_splitWord_30 : decode cX9_splitWord 30 = .ok (.iload_n 1, 1) := by decide +kernel
theorem dX9_splitWord_31 : decode cX9_splitWord 31 = .ok (.iload_n 2, 1) := by decide +kernel
theorem dX9_splitWord_32 : decode cX9_splitWord 32 = .ok (.invokevirtual 77, 3) := by decide +kernel
theorem dX9_splitWord_35 : decode cX9_splitWord 35 = .ok (.iload_n 1, 1) := by decide +kernel
theorem dX9_splitWord_36 : decode cX9_splitWord 36 = .ok (.invokevirtual 54, 3) := by decide +kernel
theorem dX9_splitWord_39 : decode cX9_splitWord 39 = .ok (.iload_n 2, 1) := by decide +kernel
theorem dX9_splitWord_40 : decode cX9_splitWord 40 = .ok (.ireturn, 1) := by decide +kernel
theorem dX9_splitAt_0 : decode cX9_splitAt 0 = .ok (.aload_n 0, 1) := by decide +kernel
theorem dX9_splitAt_1 : decode cX9_splitAt 1 = .ok (.iload_n 1, 1) := by decide +kernel
theorem dX9_splitAt_2 : decode cX9_splitAt 2 = .ok (.invokevirtual 61, 3) := by decide +kernel
theorem dX9_splitAt_5 : decode cX9_splitAt 5 = .ok (.istore_n 2, 1) := by decide +kernel
theorem dX9_splitAt_6 : decode cX9_splitAt 6 = .ok (.iload_n 2, 1) := by decide +kernel
theorem dX9_splitAt_7 : decode cX9_splitAt 7 = .ok (.bipush 32, 2) := by decide +kernel
theorem dX9_splitAt_9 : decode cX9_splitAt 9 = .ok (.if_icmp .ne 7, 3) := by decide +kernel
theorem dX9_splitAt_12 : decode cX9_splitAt 12 = .ok (.iload_n 1, 1) := by decide +kernel
theorem dX9_splitAt_13 : decode cX9_splitAt 13 = .ok (.iconst 1, 1) := by decide +kernel
theorem dX9_splitAt_14 : decode cX9_splitAt 14 = .ok (.iadd, 1) := by decide +kernel
theorem dX9_splitAt_15 : decode cX9_splitAt 15 = .ok (.ireturn, 1) := by decide +kernel
theorem dX9_splitAt_16 : decode cX9_splitAt 16 = .ok (.iload_n 2, 1) := by decide +kernel
theorem dX9_splitAt_17 : decode cX9_splitAt 17 = .ok (.invokestatic 64, 3) := by decide +kernel
theorem dX9_splitAt_20 : decode cX9_splitAt 20 = .ok (.ifCond .eq 9, 3) := by decide +kernel
theorem dX9_splitAt_23 : decode cX9_splitAt 23 = .ok (.aload_n 0, 1) := by decide +kernel
theorem dX9_splitAt_24 : decode cX9_splitAt 24 = .ok (.iload_n 1, 1) := by decide +kernel
theorem dX9_splitAt_25 : decode cX9_splitAt 25 = .ok (.invokevirtual 68, 3) := by decide +kernel
theorem dX9_splitAt_28 : decode cX9_splitAt 28 = .ok (.ireturn, 1) := by decide +kernel
theorem dX9_splitAt_29 : decode cX9_splitAt 29 = .ok (.iload_n 2, 1) := by decide +kernel
theorem dX9_splitAt_30 : decode cX9_splitAt 30 = .ok (.invokestatic 71, 3) := by decide +kernel
theorem dX9_splitAt_33 : decode cX9_splitAt 33 = .ok (.ifCond .eq 9, 3) := by decide +kernel
theorem dX9_splitAt_36 : decode cX9_splitAt 36 = .ok (.aload_n 0, 1) := by decide +kernel
theorem dX9_splitAt_37 : decode cX9_splitAt 37 = .ok (.iload_n 1, 1) := by decide +kernel
theorem dX9_splitAt_38 : decode cX9_splitAt 38 = .ok (.invokevirtual 74, 3) := by decide +kernel
theorem dX9_splitAt_41 : decode cX9_splitAt 41 = .ok (.ireturn, 1) := by decide +kernel
theorem dX9_splitAt_42 : decode cX9_splitAt 42 = .ok (.iload_n 2, 1) := by decide +kernel
theorem dX9_splitAt_43 : decode cX9_splitAt 43 = .ok (.bipush 60, 2) := by decide +kernel
theorem dX9_splitAt_45 : decode cX9_splitAt 45 = .ok (.if_icmp .eq 9, 3) := by decide +kernel
theorem dX9_splitAt_48 : decode cX9_splitAt 48 = .ok (.iload_n 2, 1) := by decide +kernel
theorem dX9_splitAt_49 : decode cX9_splitAt 49 = .ok (.bipush 62, 2) := by decide +kernel
theorem dX9_splitAt_51 : decode cX9_splitAt 51 = .ok (.if_icmp .ne 19, 3) := by decide +kernel
theorem dX9_splitAt_54 : decode cX9_splitAt 54 = .ok (.aload_n 0, 1) := by decide +kernel
theorem dX9_splitAt_55 : decode cX9_splitAt 55 = .ok (.iload_n 1, 1) := by decide +kernel
theorem dX9_splitAt_56 : decode cX9_splitAt 56 = .ok (.iconst 1, 1) := by decide +kernel
theorem dX9_splitAt_57 : decode cX9_splitAt 57 = .ok (.iadd, 1) := by decide +kernel
theorem dX9_splitAt_58 : decode cX9_splitAt 58 = .ok (.invokevirtual 61, 3) := by decide +kernel
theorem dX9_splitAt_61 : decode cX9_splitAt 61 = .ok (.bipush 61, 2) := by decide +kernel
theorem dX9_splitAt_63 : decode cX9_splitAt 63 = .ok (.if_icmp .ne 7, 3) := by decide +kernel
theorem dX9_splitAt_66 : decode cX9_splitAt 66 = .ok (.iconst 1, 1) := by decide +kernel
theorem dX9_splitAt_67 : decode cX9_splitAt 67 = .ok (.goto 4, 3) := by decide +kernel
theorem dX9_splitAt_70 : decode cX9_splitAt 70 = .ok (.iconst 0, 1) := by decide +kernel
theorem dX9_splitAt_71 : decode cX9_splitAt 71 = .ok (.istore_n 3, 1) := by decide +kernel
theorem dX9_splitAt_72 : decode cX9_splitAt 72 = .ok (.aload_n 0, 1) := by decide +kernel
theorem dX9_splitAt_73 : decode cX9_splitAt 73 = .ok (.iconst 3, 1) := by decide +kernel
theorem dX9_splitAt_74 : decode cX9_splitAt 74 = .ok (.iload_n 3, 1) := by decide +kernel
theorem dX9_splitAt_75 : decode cX9_splitAt 75 = .ok (.ifCond .eq 11, 3) := by decide +kernel
theorem dX9_splitAt_78 : decode cX9_splitAt 78 = .ok (.iload_n 2, 1) := by decide +kernel
theorem dX9_splitAt_79 : decode cX9_splitAt 79 = .ok (.sipush 256, 3) := by decide +kernel
theorem dX9_splitAt_82 : decode cX9_splitAt 82 = .ok (.iadd, 1) := by decide +kernel
theorem dX9_splitAt_83 : decode cX9_splitAt 83 = .ok (.goto 4, 3) := by decide +kernel
theorem dX9_splitAt_86 : decode cX9_splitAt 86 = .ok (.iload_n 2, 1) := by decide +kernel
theorem dX9_splitAt_87 : decode cX9_splitAt 87 = .ok (.iload_n 1, 1) := by decide +kernel
theorem dX9_splitAt_88 : decode cX9_splitAt 88 = .ok (.invokevirtual 54, 3) := by decide +kernel
theorem dX9_splitAt_91 : decode cX9_splitAt 91 = .ok (.iload_n 3, 1) := by decide +kernel
theorem dX9_splitAt_92 : decode cX9_splitAt 92 = .ok (.ifCond .eq 9, 3) := by decide +kernel
theorem dX9_splitAt_95 : decode cX9_splitAt 95 = .ok (.iload_n 1, 1) := by decide +kernel
theorem dX9_splitAt_96 : decode cX9_splitAt 96 = .ok (.iconst 2, 1) := by decide +kernel
theorem dX9_splitAt_97 : decode cX9_splitAt 97 = .ok (.iadd, 1) := by decide +kernel
theorem dX9_splitAt_98 : decode cX9_splitAt 98 = .ok (.goto 6, 3) := by decide +kernel
theorem dX9_splitAt_101 : decode cX9_splitAt 101 = .ok (.iload_n 1, 1) := by decide +kernel
theorem dX9_splitAt_102 : decode cX9_splitAt 102 = .ok (.iconst 1, 1) := by decide +kernel
theorem dX9_splitAt_103 : decode cX9_splitAt 103 = .ok (.iadd, 1) := by decide +kernel
theorem dX9_splitAt_104 : decode cX9_splitAt 104 = .ok (.ireturn, 1) := by decide +kernel
theorem dX9_step_0 : decode cX9_step 0 = .ok (.aload_n 0, 1) := by decide +kernel
theorem dX9_step_1 : decode cX9_step 1 = .ok (.getfield 35, 3) := by decide +kernel
theorem dX9_step_4 : decode cX9_step 4 = .ok (.iconst 1, 1) := by decide +kernel
theorem dX9_step_5 : decode cX9_step 5 = .ok (.iadd, 1) := by decide +kernel
theorem dX9_step_6 : decode cX9_step 6 = .ok (.istore_n 1, 1) := by decide +kernel
theorem dX9_step_7 : decode cX9_step 7 = .ok (.iload_n 1, 1) := by decide +kernel
theorem dX9_step_8 : decode cX9_step 8 = .ok (.ifCond .lt 18, 3) := by decide +kernel
theorem dX9_step_11 : decode cX9_step 11 = .ok (.iload_n 1, 1) := by decide +kernel
theorem dX9_step_12 : decode cX9_step 12 = .ok (.aload_n 0, 1) := by decide +kernel
theorem dX9_step_13 : decode cX9_step 13 = .ok (.getfield 32, 3) := by decide +kernel
theorem dX9_step_16 : decode cX9_step 16 = .ok (.if_icmp .ge 10, 3) := by decide +kernel
theorem dX9_step_19 : decode cX9_step 19 = .ok (.iload_n 1, 1) := by decide +kernel
theorem dX9_step_20 : decode cX9_step 20 = .ok (.sipush 400, 3) := by decide +kernel
theorem dX9_step_23 : decode cX9_step 23 = .ok (.if_icmp .le 4, 3) := by decide +kernel
theorem dX9_step_26 : decode cX9_step 26 = .ok (.return_, 1) := by decide +kernel
theorem dX9_step_27 : decode cX9_step 27 = .ok (.aload_n 0, 1) := by decide +kernel
theorem dX9_step_28 : decode cX9_step 28 = .ok (.iload_n 1, 1) := by decide +kernel
theorem dX9_step_29 : decode cX9_step 29 = .ok (.putfield 35, 3) := by decide +kernel
theorem dX9_step_32 : decode cX9_step 32 = .ok (.aload_n 0, 1) := by decide +kernel
theorem dX9_step_33 : decode cX9_step 33 = .ok (.aload_n 0, 1) := by decide +kernel
theorem dX9_step_34 : decode cX9_step 34 = .ok (.getfield 22, 3) := by decide +kernel
theorem dX9_step_37 : decode cX9_step 37 = .ok (.aload_n 0, 1) := by decide +kernel
theorem dX9_step_38 : decode cX9_step 38 = .ok (.getfield 35, 3) := by decide +kernel
theorem dX9_step_41 : decode cX9_step 41 = .ok (.iaload, 1) := by decide +kernel
theorem dX9_step_42 : decode cX9_step 42 = .ok (.putfield 38, 3) := by decide +kernel
theorem dX9_step_45 : decode cX9_step 45 = .ok (.aload_n 0, 1) := by decide +kernel
theorem dX9_step_46 : decode cX9_step 46 = .ok (.aload_n 0, 1) := by decide +kernel
theorem dX9_step_47 : decode cX9_step 47 = .ok (.getfield 38, 3) := by decide +kernel
theorem dX9_step_50 : decode cX9_step 50 = .ok (.iconst 1, 1) := by decide +kernel
theorem dX9_step_51 : decode cX9_step 51 = .ok (.if_icmp .ne 15, 3) := by decide +kernel
theorem dX9_step_54 : decode cX9_step 54 = .ok (.aload_n 0, 1) := by decide +kernel
theorem dX9_step_55 : decode cX9_step 55 = .ok (.getfield 26, 3) := by decide +kernel
theorem dX9_step_58 : decode cX9_step 58 = .ok (.aload_n 0, 1) := by decide +kernel
theorem dX9_step_59 : decode cX9_step 59 = .ok (.getfield 35, 3) := by decide +kernel
theorem dX9_step_62 : decode cX9_step 62 = .ok (.iaload, 1) := by decide +kernel
theorem dX9_step_63 : decode cX9_step 63 = .ok (.goto 4, 3) := by decide +kernel
theorem dX9_step_66 : decode cX9_step 66 = .ok (.iconst (-1), 1) := by decide +kernel
theorem dX9_step_67 : decode cX9_step 67 = .ok (.putfield 41, 3) := by decide +kernel
theorem dX9_step_70 : decode cX9_step 70 = .ok (.aload_n 0, 1) := by decide +kernel
theorem dX9_step_71 : decode cX9_step 71 = .ok (.aload_n 0, 1) := by decide +kernel
theorem dX9_step_72 : decode cX9_step 72 = .ok (.getfield 38, 3) := by decide +kernel
theorem dX9_step_75 : decode cX9_step 75 = .ok (.iconst 2, 1) := by decide +kernel
theorem dX9_step_76 : decode cX9_step 76 = .ok (.if_icmp .ne 15, 3) := by decide +kernel
theorem dX9_step_79 : decode cX9_step 79 = .ok (.aload_n 0, 1) := by decide +kernel
theorem dX9_step_80 : decode cX9_step 80 = .ok (.getfield 26, 3) := by decide +kernel
theorem dX9_step_83 : decode cX9_step 83 = .ok (.aload_n 0, 1) := by decide +kernel
theorem dX9_step_84 : decode cX9_step 84 = .ok (.getfield 35, 3) := by decide +kernel
theorem dX9_step_87 : decode cX9_step 87 = .ok (.iaload, 1) := by decide +kernel
theorem dX9_step_88 : decode cX9_step 88 = .ok (.goto 4, 3) := by decide +kernel
theorem dX9_step_91 : decode cX9_step 91 = .ok (.iconst (-1), 1) := by decide +kernel
theorem dX9_step_92 : decode cX9_step 92 = .ok (.putfield 44, 3) := by decide +kernel
theorem dX9_step_95 : decode cX9_step 95 = .ok (.aload_n 0, 1) := by decide +kernel
theorem dX9_step_96 : decode cX9_step 96 = .ok (.aload_n 0, 1) := by decide +kernel
theorem dX9_step_97 : decode cX9_step 97 = .ok (.getfield 38, 3) := by decide +kernel
theorem dX9_step_100 : decode cX9_step 100 = .ok (.iconst 3, 1) := by decide +kernel
theorem dX9_step_101 : decode cX9_step 101 = .ok (.if_icmp .ne 15, 3) := by decide +kernel
theorem dX9_step_104 : decode cX9_step 104 = .ok (.aload_n 0, 1) := by decide +kernel
theorem dX9_step_105 : decode cX9_step 105 = .ok (.getfield 26, 3) := by decide +kernel
theorem dX9_step_108 : decode cX9_step 108 = .ok (.aload_n 0, 1) := by decide +kernel
theorem dX9_step_109 : decode cX9_step 109 = .ok (.getfield 35, 3) := by decide +kernel
theorem dX9_step_112 : decode cX9_step 112 = .ok (.iaload, 1) := by decide +kernel
theorem dX9_step_113 : decode cX9_step 113 = .ok (.goto 4, 3) := by decide +kernel
theorem dX9_step_116 : decode cX9_step 116 = .ok (.iconst (-1), 1) := by decide +kernel
theorem dX9_step_117 : decode cX9_step 117 = .ok (.putfield 47, 3) := by decide +kernel
theorem dX9_step_120 : decode cX9_step 120 = .ok (.return_, 1) := by decide +kernel
theorem dX9_open_0 : decode cX9_open 0 = .ok (.aload_n 0, 1) := by decide +kernel
theorem dX9_open_1 : decode cX9_open 1 = .ok (.iconst 0, 1) := by decide +kernel
theorem dX9_open_2 : decode cX9_open 2 = .ok (.putfield 32, 3) := by decide +kernel
theorem dX9_open_5 : decode cX9_open 5 = .ok (.aload_n 0, 1) := by decide +kernel
theorem dX9_open_6 : decode cX9_open 6 = .ok (.iconst (-1), 1) := by decide +kernel
theorem dX9_open_7 : decode cX9_open 7 = .ok (.putfield 35, 3) := by decide +kernel
theorem dX9_open_10 : decode cX9_open 10 = .ok (.aload_n 0, 1) := by decide +kernel
theorem dX9_open_11 : decode cX9_open 11 = .ok (.iconst 0, 1) := by decide +kernel
theorem dX9_open_12 : decode cX9_open 12 = .ok (.putfield 19, 3) := by decide +kernel
theorem dX9_open_15 : decode cX9_open 15 = .ok (.iconst 0, 1) := by decide +kernel
theorem dX9_open_16 : decode cX9_open 16 = .ok (.istore_n 1, 1) := by decide +kernel
theorem dX9_open_17 : decode cX9_open 17 = .ok (.iconst 0, 1) := by decide +kernel
theorem dX9_open_18 : decode cX9_open 18 = .ok (.istore_n 2, 1) := by decide +kernel
theorem dX9_open_19 : decode cX9_open 19 = .ok (.iload_n 2, 1) := by decide +kernel
theorem dX9_open_20 : decode cX9_open 20 = .ok (.sipush 400, 3) := by decide +kernel
theorem dX9_open_23 : decode cX9_open 23 = .ok (.if_icmp .ge 23, 3) := by decide +kernel
theorem dX9_open_26 : decode cX9_open 26 = .ok (.iload_n 1, 1) := by decide +kernel
theorem dX9_open_27 : decode cX9_open 27 = .ok (.aload_n 0, 1) := by decide +kernel
theorem dX9_open_28 : decode cX9_open 28 = .ok (.getfield 15, 3) := by decide +kernel
theorem dX9_open_31 : decode cX9_open 31 = .ok (.if_icmp .ge 15, 3) := by decide +kernel
theorem dX9_open_34 : decode cX9_open 34 = .ok (.aload_n 0, 1) := by decide +kernel
theorem dX9_open_35 : decode cX9_open 35 = .ok (.iload_n 1, 1) := by decide +kernel
theorem dX9_open_36 : decode cX9_open 36 = .ok (.invokevirtual 50, 3) := by decide +kernel
theorem dX9_open_39 : decode cX9_open 39 = .ok (.istore_n 1, 1) := by decide +kernel
theorem dX9_open_40 : decode cX9_open 40 = .ok (.iinc 2 1, 3) := by decide +kernel
theorem dX9_open_43 : decode cX9_open 43 = .ok (.goto (-24), 3) := by decide +kernel
theorem dX9_open_46 : decode cX9_open 46 = .ok (.aload_n 0, 1) := by decide +kernel
theorem dX9_open_47 : decode cX9_open 47 = .ok (.iconst 0, 1) := by decide +kernel
theorem dX9_open_48 : decode cX9_open 48 = .ok (.iconst 0, 1) := by decide +kernel
theorem dX9_open_49 : decode cX9_open 49 = .ok (.aload_n 0, 1) := by decide +kernel
theorem dX9_open_50 : decode cX9_open 50 = .ok (.getfield 15, 3) := by decide +kernel
theorem dX9_open_53 : decode cX9_open 53 = .ok (.invokevirtual 54, 3) := by decide +kernel
theorem dX9_open_56 : decode cX9_open 56 = .ok (.aload_n 0, 1) := by decide +kernel
theorem dX9_open_57 : decode cX9_open 57 = .ok (.invokevirtual 58, 3) := by decide +kernel
theorem dX9_open_60 : decode cX9_open 60 = .ok (.return_, 1) := by decide +kernel
theorem dX9_refuse_0 : decode cX9_refuse 0 = .ok (.aload_n 0, 1) := by decide +kernel
theorem dX9_refuse_1 : decode cX9_refuse 1 = .ok (.getfield 35, 3) := by decide +kernel
theorem dX9_refuse_4 : decode cX9_refuse 4 = .ok (.ifCond .lt 25, 3) := by decide +kernel
theorem dX9_refuse_7 : decode cX9_refuse 7 = .ok (.aload_n 0, 1) := by decide +kernel
theorem dX9_refuse_8 : decode cX9_refuse 8 = .ok (.getfield 35, 3) := by decide +kernel
theorem dX9_refuse_11 : decode cX9_refuse 11 = .ok (.sipush 400, 3) := by decide +kernel
theorem dX9_refuse_14 : decode cX9_refuse 14 = .ok (.if_icmp .gt 15, 3) := by decide +kernel
theorem dX9_refuse_17 : decode cX9_refuse 17 = .ok (.aload_n 0, 1) := by decide +kernel
theorem dX9_refuse_18 : decode cX9_refuse 18 = .ok (.getfield 29, 3) := by decide +kernel
theorem dX9_refuse_21 : decode cX9_refuse 21 = .ok (.aload_n 0, 1) := by decide +kernel
theorem dX9_refuse_22 : decode cX9_refuse 22 = .ok (.getfield 35, 3) := by decide +kernel
theorem dX9_refuse_25 : decode cX9_refuse 25 = .ok (.iaload, 1) := by decide +kernel
theorem dX9_refuse_26 : decode cX9_refuse 26 = .ok (.goto 4, 3) := by decide +kernel
theorem dX9_refuse_29 : decode cX9_refuse 29 = .ok (.iconst 0, 1) := by decide +kernel
theorem dX9_refuse_30 : decode cX9_refuse 30 = .ok (.istore_n 2, 1) := by decide +kernel
theorem dX9_refuse_31 : decode cX9_refuse 31 = .ok (.aload_n 0, 1) := by decide +kernel
theorem dX9_refuse_32 : decode cX9_refuse 32 = .ok (.iconst 1, 1) := by decide +kernel
theorem dX9_refuse_33 : decode cX9_refuse 33 = .ok (.bipush 8, 2) := by decide +kernel
theorem dX9_refuse_35 : decode cX9_refuse 35 = .ok (.iload_n 2, 1) := by decide +kernel
theorem dX9_refuse_36 : decode cX9_refuse 36 = .ok (.imul, 1) := by decide +kernel
theorem dX9_refuse_37 : decode cX9_refuse 37 = .ok (.iadd, 1) := by decide +kernel
theorem dX9_refuse_38 : decode cX9_refuse 38 = .ok (.iload_n 1, 1) := by decide +kernel
theorem dX9_refuse_39 : decode cX9_refuse 39 = .ok (.iadd, 1) := by decide +kernel
theorem dX9_refuse_40 : decode cX9_refuse 40 = .ok (.putfield 19, 3) := by decide +kernel
theorem dX9_refuse_43 : decode cX9_refuse 43 = .ok (.iconst 0, 1) := by decide +kernel
theorem dX9_refuse_44 : decode cX9_refuse 44 = .ok (.ireturn, 1) := by decide +kernel
theorem dX5_emit_0 : decode cX5_emit 0 = .ok (.iload_n 1, 1) := by decide +kernel
theorem dX5_emit_1 : decode cX5_emit 1 = .ok (.bipush (-99), 2) := by decide +kernel
theorem dX5_emit_3 : decode cX5_emit 3 = .ok (.if_icmp .eq 40, 3) := by decide +kernel
theorem dX5_emit_6 : decode cX5_emit 6 = .ok (.aload_n 0, 1) := by decide +kernel
theorem dX5_emit_7 : decode cX5_emit 7 = .ok (.getfield 17, 3) := by decide +kernel
theorem dX5_emit_10 : decode cX5_emit 10 = .ok (.ifCond .lt 33, 3) := by decide +kernel
theorem dX5_emit_13 : decode cX5_emit 13 = .ok (.aload_n 0, 1) := by decide +kernel
theorem dX5_emit_14 : decode cX5_emit 14 = .ok (.getfield 17, 3) := by decide +kernel
theorem dX5_emit_17 : decode cX5_emit 17 = .ok (.sipush 412, 3) := by decide +kernel
theorem dX5_emit_20 : decode cX5_emit 20 = .ok (.if_icmp .ge 23, 3) := by decide +kernel
theorem dX5_emit_23 : decode cX5_emit 23 = .ok (.aload_n 0, 1) := by decide +kernel
theorem dX5_emit_24 : decode cX5_emit 24 = .ok (.getfield 13, 3) := by decide +kernel
theorem dX5_emit_27 : decode cX5_emit 27 = .ok (.aload_n 0, 1) := by decide +kernel
theorem dX5_emit_28 : decode cX5_emit 28 = .ok (.getfield 17, 3) := by decide +kernel
theorem dX5_emit_31 : decode cX5_emit 31 = .ok (.iload_n 1, 1) := by decide +kernel
theorem dX5_emit_32 : decode cX5_emit 32 = .ok (.iastore, 1) := by decide +kernel
theorem dX5_emit_33 : decode cX5_emit 33 = .ok (.aload_n 0, 1) := by decide +kernel
theorem dX5_emit_34 : decode cX5_emit 34 = .ok (.dup, 1) := by decide +kernel
theorem dX5_emit_35 : decode cX5_emit 35 = .ok (.getfield 17, 3) := by decide +kernel
theorem dX5_emit_38 : decode cX5_emit 38 = .ok (.iconst 1, 1) := by decide +kernel
theorem dX5_emit_39 : decode cX5_emit 39 = .ok (.iadd, 1) := by decide +kernel
theorem dX5_emit_40 : decode cX5_emit 40 = .ok (.putfield 17, 3) := by decide +kernel
theorem dX5_emit_43 : decode cX5_emit 43 = .ok (.iconst 1, 1) := by decide +kernel
theorem dX5_emit_44 : decode cX5_emit 44 = .ok (.ireturn, 1) := by decide +kernel
theorem dX5_readValue_0 : decode cX5_readValue 0 = .ok (.aload_n 0, 1) := by decide +kernel
theorem dX5_readValue_1 : decode cX5_readValue 1 = .ok (.getfield 24, 3) := by decide +kernel
theorem dX5_readValue_4 : decode cX5_readValue 4 = .ok (.getfield 43, 3) := by decide +kernel
theorem dX5_readValue_7 : decode cX5_readValue 7 = .ok (.iconst 1, 1) := by decide +kernel
theorem dX5_readValue_8 : decode cX5_readValue 8 = .ok (.if_icmp .ne 7, 3) := by decide +kernel
theorem dX5_readValue_11 : decode cX5_readValue 11 = .ok (.iconst 1, 1) := by decide +kernel
theorem dX5_readValue_12 : decode cX5_readValue 12 = .ok (.goto 4, 3) := by decide +kernel
theorem dX5_readValue_15 : decode cX5_readValue 15 = .ok (.iconst 0, 1) := by decide +kernel
theorem dX5_readValue_16 : decode cX5_readValue 16 = .ok (.istore_n 1, 1) := by decide +kernel
theorem dX5_readValue_17 : decode cX5_readValue 17 = .ok (.aload_n 0, 1) := by decide +kernel
theorem dX5_readValue_18 : decode cX5_readValue 18 = .ok (.getfield 24, 3) := by decide +kernel
theorem dX5_readValue_21 : decode cX5_readValue 21 = .ok (.getfield 49, 3) := by decide +kernel
theorem dX5_readValue_24 : decode cX5_readValue 24 = .ok (.ifCond .lt 19, 3) := by decide +kernel
theorem dX5_readValue_27 : decode cX5_readValue 27 = .ok (.aload_n 0, 1) := by decide +kernel
theorem dX5_readValue_28 : decode cX5_readValue 28 = .ok (.getfield 24, 3) := by decide +kernel
theorem dX5_readValue_31 : decode cX5_readValue 31 = .ok (.getfield 49, 3) := by decide +kernel
theorem dX5_readValue_34 : decode cX5_readValue 34 = .ok (.bipush 12, 2) := by decide +kernel
theorem dX5_readValue_36 : decode cX5_readValue 36 = .ok (.if_icmp .gt 7, 3) := by decide +kernel
theorem dX5_readValue_39 : decode cX5_readValue 39 = .ok (.iconst 1, 1) := by decide +kernel
theorem dX5_readValue_40 : decode cX5_readValue 40 = .ok (.goto 4, 3) := by decide +kernel
theorem dX5_readValue_43 : decode cX5_readValue 43 = .ok (.iconst 0, 1) := by decide +kernel
theorem dX5_readValue_44 : decode cX5_readValue 44 = .ok (.istore_n 2, 1) := by decide +kernel
theorem dX5_readValue_45 : decode cX5_readValue 45 = .ok (.iload_n 1, 1) := by decide +kernel
theorem dX5_readValue_46 : decode cX5_readValue 46 = .ok (.ifCond .ne 16, 3) := by decide +kernel
theorem dX5_readValue_49 : decode cX5_readValue 49 = .ok (.iload_n 2, 1) := by decide +kernel
theorem dX5_readValue_50 : decode cX5_readValue 50 = .ok (.ifCond .ne 12, 3) := by decide +kernel
theorem dX5_readValue_53 : decode cX5_readValue 53 = .ok (.aload_n 0, 1) := by decide +kernel
theorem dX5_readValue_54 : decode cX5_readValue 54 = .ok (.getfield 24, 3) := by decide +kernel
theorem dX5_readValue_57 : decode cX5_readValue 57 = .ok (.iconst 0, 1) := by decide +kernel
theorem dX5_readValue_58 : decode cX5_readValue 58 = .ok (.invokevirtual 52, 3) := by decide +kernel
theorem dX5_readValue_61 : decode cX5_readValue 61 = .ok (.ireturn, 1) := by decide +kernel
theorem dX5_readValue_62 : decode cX5_readValue 62 = .ok (.iload_n 1, 1) := by decide +kernel
theorem dX5_readValue_63 : decode cX5_readValue 63 = .ok (.ifCond .eq 23, 3) := by decide +kernel
theorem dX5_readValue_66 : decode cX5_readValue 66 = .ok (.aload_n 0, 1) := by decide +kernel
theorem dX5_readValue_67 : decode cX5_readValue 67 = .ok (.getfield 24, 3) := by decide +kernel
theorem dX5_readValue_70 : decode cX5_readValue 70 = .ok (.getfield 87, 3) := by decide +kernel
theorem dX5_readValue_73 : decode cX5_readValue 73 = .ok (.iconst (-1), 1) := by decide +kernel
theorem dX5_readValue_74 : decode cX5_readValue 74 = .ok (.if_icmp .ne 12, 3) := by decide +kernel
theorem dX5_readValue_77 : decode cX5_readValue 77 = .ok (.aload_n 0, 1) := by decide +kernel
theorem dX5_readValue_78 : decode cX5_readValue 78 = .ok (.getfield 24, 3) := by decide +kernel
theorem dX5_readValue_81 : decode cX5_readValue 81 = .ok (.iconst 1, 1) := by decide +kernel
theorem dX5_readValue_82 : decode cX5_readValue 82 = .ok (.invokevirtual 52, 3) := by decide +kernel
theorem dX5_readValue_85 : decode cX5_readValue 85 = .ok (.ireturn, 1) := by decide +kernel
theorem dX5_readValue_86 : decode cX5_readValue 86 = .ok (.aload_n 0, 1) := by decide +kernel
theorem dX5_readValue_87 : decode cX5_readValue 87 = .ok (.getfield 21, 3) := by decide +kernel
theorem dX5_readValue_90 : decode cX5_readValue 90 = .ok (.bipush 60, 2) := by decide +kernel
theorem dX5_readValue_92 : decode cX5_readValue 92 = .ok (.if_icmp .lt 12, 3) := by decide +kernel
theorem dX5_readValue_95 : decode cX5_readValue 95 = .ok (.aload_n 0, 1) := by decide +kernel
theorem dX5_readValue_96 : decode cX5_readValue 96 = .ok (.getfield 24, 3) := by decide +kernel
theorem dX5_readValue_99 : decode cX5_readValue 99 = .ok (.iconst 3, 1) := by decide +kernel
theorem dX5_readValue_100 : decode cX5_readValue 100 = .ok (.invokevirtual 52, 3) := by decide +kernel
theorem dX5_readValue_103 : decode cX5_readValue 103 = .ok (.ireturn, 1) := by decide +kernel
theorem dX5_readValue_104 : decode cX5_readValue 104 = .ok (.aload_n 0, 1) := by decide +kernel
theorem dX5_readValue_105 : decode cX5_readValue 105 = .ok (.dup, 1) := by decide +kernel
theorem dX5_readValue_106 : decode cX5_readValue 106 = .ok (.getfield 21, 3) := by decide +kernel
theorem dX5_readValue_109 : decode cX5_readValue 109 = .ok (.iconst 1, 1) := by decide +kernel
theorem dX5_readValue_110 : decode cX5_readValue 110 = .ok (.iadd, 1) := by decide +kernel
theorem dX5_readValue_111 : decode cX5_readValue 111 = .ok (.putfield 21, 3) := by decide +kernel
theorem dX5_readValue_114 : decode cX5_readValue 114 = .ok (.aload_n 0, 1) := by decide +kernel
theorem dX5_readValue_115 : decode cX5_readValue 115 = .ok (.iload_n 1, 1) := by decide +kernel
theorem dX5_readValue_116 : decode cX5_readValue 116 = .ok (.ifCond .eq 13, 3) := by decide +kernel
theorem dX5_readValue_119 : decode cX5_readValue 119 = .ok (.aload_n 0, 1) := by decide +kernel
theorem dX5_readValue_120 : decode cX5_readValue 120 = .ok (.getfield 24, 3) := by decide +kernel
theorem dX5_readValue_123 : decode cX5_readValue 123 = .ok (.getfield 87, 3) := by decide +kernel
theorem dX5_readValue_126 : decode cX5_readValue 126 = .ok (.goto 12, 3) := by decide +kernel
theorem dX5_readValue_129 : decode cX5_readValue 129 = .ok (.iconst (-1), 1) := by decide +kernel
theorem dX5_readValue_130 : decode cX5_readValue 130 = .ok (.aload_n 0, 1) := by decide +kernel
theorem dX5_readValue_131 : decode cX5_readValue 131 = .ok (.getfield 24, 3) := by decide +kernel
theorem dX5_readValue_134 : decode cX5_readValue 134 = .ok (.getfield 49, 3) := by decide +kernel
theorem dX5_readValue_137 : decode cX5_readValue 137 = .ok (.isub, 1) := by decide +kernel
theorem dX5_readValue_138 : decode cX5_readValue 138 = .ok (.invokevirtual 62, 3) := by decide +kernel
theorem dX5_readValue_141 : decode cX5_readValue 141 = .ok (.pop, 1) := by decide +kernel
theorem dX5_readValue_142 : decode cX5_readValue 142 = .ok (.aload_n 0, 1) := by decide +kernel
theorem dX5_readValue_143 : decode cX5_readValue 143 = .ok (.getfield 24, 3) := by decide +kernel
theorem dX5_readValue_146 : decode cX5_readValue 146 = .ok (.invokevirtual 55, 3) := by decide +kernel
theorem dX5_readValue_149 : decode cX5_readValue 149 = .ok (.iconst 1, 1) := by decide +kernel
theorem dX5_readValue_150 : decode cX5_readValue 150 = .ok (.ireturn, 1) := by decide +kernel
theorem dX5_factorOf_0 : decode cX5_factorOf 0 = .ok (.iload_n 0, 1) := by decide +kernel
theorem dX5_factorOf_1 : decode cX5_factorOf 1 = .ok (.lookupswitch 44 #[(37, 41), (42, 35), (47, 38)], 35) := by decide +kernel
theorem dX5_factorOf_36 : decode cX5_factorOf 36 = .ok (.bipush (-22), 2) := by decide +kernel
theorem dX5_factorOf_38 : decode cX5_factorOf 38 = .ok (.ireturn, 1) := by decide +kernel
theorem dX5_factorOf_39 : decode cX5_factorOf 39 = .ok (.bipush (-23), 2) := by decide +kernel
theorem dX5_factorOf_41 : decode cX5_factorOf 41 = .ok (.ireturn, 1) := by decide +kernel
theorem dX5_factorOf_42 : decode cX5_factorOf 42 = .ok (.bipush (-24), 2) := by decide +kernel
theorem dX5_factorOf_44 : decode cX5_factorOf 44 = .ok (.ireturn, 1) := by decide +kernel
theorem dX5_factorOf_45 : decode cX5_factorOf 45 = .ok (.bipush (-99), 2) := by decide +kernel
theorem dX5_factorOf_47 : decode cX5_factorOf 47 = .ok (.ireturn, 1) := by decide +kernel
theorem dX5_summandOf_0 : decode cX5_summandOf 0 = .ok (.iload_n 0, 1) := by decide +kernel
theorem dX5_summandOf_1 : decode cX5_summandOf 1 = .ok (.lookupswitch 33 #[(43, 27), (45, 30)], 27) := by decide +kernel
theorem dX5_summandOf_28 : decode cX5_summandOf 28 = .ok (.bipush (-20), 2) := by decide +kernel
theorem dX5_summandOf_30 : decode cX5_summandOf 30 = .ok (.ireturn, 1) := by decide +kernel
theorem dX5_summandOf_31 : decode cX5_summandOf 31 = .ok (.bipush (-21), 2) := by decide +kernel
theorem dX5_summandOf_33 : decode cX5_summandOf 33 = .ok (.ireturn, 1) := by decide +kernel
theorem dX5_summandOf_34 : decode cX5_summandOf 34 = .ok (.bipush (-99), 2) := by decide +kernel
theorem dX5_summandOf_36 : decode cX5_summandOf 36 = .ok (.ireturn, 1) := by decide +kernel
theorem dX5_readSum_0 : decode cX5_readSum 0 = .ok (.bipush (-99), 2) := by decide +kernel
theorem dX5_readSum_2 : decode cX5_readSum 2 = .ok (.istore_n 1, 1) := by decide +kernel
theorem dX5_readSum_3 : decode cX5_readSum 3 = .ok (.bipush (-99), 2) := by decide +kernel
theorem dX5_readSum_5 : decode cX5_readSum 5 = .ok (.istore_n 2, 1) := by decide +kernel
theorem dX5_readSum_6 : decode cX5_readSum 6 = .ok (.iconst 0, 1) := by decide +kernel
theorem dX5_readSum_7 : decode cX5_readSum 7 = .ok (.istore_n 3, 1) := by decide +kernel
theorem dX5_readSum_8 : decode cX5_readSum 8 = .ok (.iload_n 3, 1) := by decide +kernel
theorem dX5_readSum_9 : decode cX5_readSum 9 = .ok (.sipush 400, 3) := by decide +kernel
theorem dX5_readSum_12 : decode cX5_readSum 12 = .ok (.if_icmp .ge 73, 3) := by decide +kernel
theorem dX5_readSum_15 : decode cX5_readSum 15 = .ok (.aload_n 0, 1) := by decide +kernel
theorem dX5_readSum_16 : decode cX5_readSum 16 = .ok (.invokevirtual 78, 3) := by decide +kernel
theorem dX5_readSum_19 : decode cX5_readSum 19 = .ok (.ifCond .ne 5, 3) := by decide +kernel
theorem dX5_readSum_22 : decode cX5_readSum 22 = .ok (.iconst 0, 1) := by decide +kernel
theorem dX5_readSum_23 : decode cX5_readSum 23 = .ok (.ireturn, 1) := by decide +kernel
theorem dX5_readSum_24 : decode cX5_readSum 24 = .ok (.aload_n 0, 1) := by decide +kernel
theorem dX5_readSum_25 : decode cX5_readSum 25 = .ok (.iload_n 2, 1) := by decide +kernel
theorem dX5_readSum_26 : decode cX5_readSum 26 = .ok (.invokevirtual 62, 3) := by decide +kernel
theorem dX5_readSum_29 : decode cX5_readSum 29 = .ok (.pop, 1) := by decide +kernel
theorem dX5_readSum_30 : decode cX5_readSum 30 = .ok (.aload_n 0, 1) := by decide +kernel
theorem dX5_readSum_31 : decode cX5_readSum 31 = .ok (.getfield 24, 3) := by decide +kernel
theorem dX5_readSum_34 : decode cX5_readSum 34 = .ok (.getfield 71, 3) := by decide +kernel
theorem dX5_readSum_37 : decode cX5_readSum 37 = .ok (.invokestatic 81, 3) := by decide +kernel
theorem dX5_readSum_40 : decode cX5_readSum 40 = .ok (.istore_n 2, 1) := by decide +kernel
theorem dX5_readSum_41 : decode cX5_readSum 41 = .ok (.iload_n 2, 1) := by decide +kernel
theorem dX5_readSum_42 : decode cX5_readSum 42 = .ok (.bipush (-99), 2) := by decide +kernel
theorem dX5_readSum_44 : decode cX5_readSum 44 = .ok (.if_icmp .ne 28, 3) := by decide +kernel
theorem dX5_readSum_47 : decode cX5_readSum 47 = .ok (.aload_n 0, 1) := by decide +kernel
theorem dX5_readSum_48 : decode cX5_readSum 48 = .ok (.iload_n 1, 1) := by decide +kernel
theorem dX5_readSum_49 : decode cX5_readSum 49 = .ok (.invokevirtual 62, 3) := by decide +kernel
theorem dX5_readSum_52 : decode cX5_readSum 52 = .ok (.pop, 1) := by decide +kernel
theorem dX5_readSum_53 : decode cX5_readSum 53 = .ok (.aload_n 0, 1) := by decide +kernel
theorem dX5_readSum_54 : decode cX5_readSum 54 = .ok (.getfield 24, 3) := by decide +kernel
theorem dX5_readSum_57 : decode cX5_readSum 57 = .ok (.getfield 71, 3) := by decide +kernel
theorem dX5_readSum_60 : decode cX5_readSum 60 = .ok (.invokestatic 84, 3) := by decide +kernel
theorem dX5_readSum_63 : decode cX5_readSum 63 = .ok (.istore_n 1, 1) := by decide +kernel
theorem dX5_readSum_64 : decode cX5_readSum 64 = .ok (.iload_n 1, 1) := by decide +kernel
theorem dX5_readSum_65 : decode cX5_readSum 65 = .ok (.bipush (-99), 2) := by decide +kernel
theorem dX5_readSum_67 : decode cX5_readSum 67 = .ok (.if_icmp .ne 5, 3) := by decide +kernel
theorem dX5_readSum_70 : decode cX5_readSum 70 = .ok (.iconst 1, 1) := by decide +kernel
theorem dX5_readSum_71 : decode cX5_readSum 71 = .ok (.ireturn, 1) := by decide +kernel
theorem dX5_readSum_72 : decode cX5_readSum 72 = .ok (.aload_n 0, 1) := by decide +kernel
theorem dX5_readSum_73 : decode cX5_readSum 73 = .ok (.getfield 24, 3) := by decide +kernel
theorem dX5_readSum_76 : decode cX5_readSum 76 = .ok (.invokevirtual 55, 3) := by decide +kernel
theorem dX5_readSum_79 : decode cX5_readSum 79 = .ok (.iinc 3 1, 3) := by decide +kernel
theorem dX5_readSum_82 : decode cX5_readSum 82 = .ok (.goto (-74), 3) := by decide +kernel
theorem dX5_readSum_85 : decode cX5_readSum 85 = .ok (.aload_n 0, 1) := by decide +kernel
theorem dX5_readSum_86 : decode cX5_readSum 86 = .ok (.getfield 24, 3) := by decide +kernel
theorem dX5_readSum_89 : decode cX5_readSum 89 = .ok (.iconst 3, 1) := by decide +kernel
theorem dX5_readSum_90 : decode cX5_readSum 90 = .ok (.invokevirtual 52, 3) := by decide +kernel
theorem dX5_readSum_93 : decode cX5_readSum 93 = .ok (.ireturn, 1) := by decide +kernel
theorem dX9_takeSign_0 : decode cX9_takeSign 0 = .ok (.aload_n 0, 1) := by decide +kernel
theorem dX9_takeSign_1 : decode cX9_takeSign 1 = .ok (.getfield 47, 3) := by decide +kernel
theorem dX9_takeSign_4 : decode cX9_takeSign 4 = .ok (.iload_n 1, 1) := by decide +kernel
theorem dX9_takeSign_5 : decode cX9_takeSign 5 = .ok (.if_icmp .eq 9, 3) := by decide +kernel
theorem dX9_takeSign_8 : decode cX9_takeSign 8 = .ok (.aload_n 0, 1) := by decide +kernel
theorem dX9_takeSign_9 : decode cX9_takeSign 9 = .ok (.iconst 0, 1) := by decide +kernel
theorem dX9_takeSign_10 : decode cX9_takeSign 10 = .ok (.invokevirtual 96, 3) := by decide +kernel
theorem dX9_takeSign_13 : decode cX9_takeSign 13 = .ok (.ireturn, 1) := by decide +kernel
theorem dX9_takeSign_14 : decode cX9_takeSign 14 = .ok (.aload_n 0, 1) := by decide +kernel
theorem dX9_takeSign_15 : decode cX9_takeSign 15 = .ok (.invokevirtual 58, 3) := by decide +kernel
theorem dX9_takeSign_18 : decode cX9_takeSign 18 = .ok (.iconst 1, 1) := by decide +kernel
theorem dX9_takeSign_19 : decode cX9_takeSign 19 = .ok (.ireturn, 1) := by decide +kernel
theorem dX5_comparisonOf_0 : decode cX5_comparisonOf 0 = .ok (.iload_n 0, 1) := by decide +kernel
theorem dX5_comparisonOf_1 : decode cX5_comparisonOf 1 = .ok (.lookupswitch 66 #[(60, 51), (61, 57), (62, 63), (316, 54), (318, 60)], 51) := by decide +kernel
theorem dX5_comparisonOf_52 : decode cX5_comparisonOf 52 = .ok (.bipush (-25), 2) := by decide +kernel
theorem dX5_comparisonOf_54 : decode cX5_comparisonOf 54 = .ok (.ireturn, 1) := by decide +kernel
theorem dX5_comparisonOf_55 : decode cX5_comparisonOf 55 = .ok (.bipush (-26), 2) := by decide +kernel
theorem dX5_comparisonOf_57 : decode cX5_comparisonOf 57 = .ok (.ireturn, 1) := by decide +kernel
theorem dX5_comparisonOf_58 : decode cX5_comparisonOf 58 = .ok (.bipush (-27), 2) := by decide +kernel
theorem dX5_comparisonOf_60 : decode cX5_comparisonOf 60 = .ok (.ireturn, 1) := by decide +kernel
theorem dX5_comparisonOf_61 : decode cX5_comparisonOf 61 = .ok (.bipush (-28), 2) := by decide +kernel
theorem dX5_comparisonOf_63 : decode cX5_comparisonOf 63 = .ok (.ireturn, 1) := by decide +kernel
theorem dX5_comparisonOf_64 : decode cX5_comparisonOf 64 = .ok (.bipush (-29), 2) := by decide +kernel
theorem dX5_comparisonOf_66 : decode cX5_comparisonOf 66 = .ok (.ireturn, 1) := by decide +kernel
theorem dX5_comparisonOf_67 : decode cX5_comparisonOf 67 = .ok (.bipush (-99), 2) := by decide +kernel
theorem dX5_comparisonOf_69 : decode cX5_comparisonOf 69 = .ok (.ireturn, 1) := by decide +kernel
theorem dX5_readFact_0 : decode cX5_readFact 0 = .ok (.aload_n 0, 1) := by decide +kernel
theorem dX5_readFact_1 : decode cX5_readFact 1 = .ok (.getfield 24, 3) := by decide +kernel
theorem dX5_readFact_4 : decode cX5_readFact 4 = .ok (.getfield 49, 3) := by decide +kernel
theorem dX5_readFact_7 : decode cX5_readFact 7 = .ok (.bipush 21, 2) := by decide +kernel
theorem dX5_readFact_9 : decode cX5_readFact 9 = .ok (.if_icmp .eq 15, 3) := by decide +kernel
theorem dX5_readFact_12 : decode cX5_readFact 12 = .ok (.aload_n 0, 1) := by decide +kernel
theorem dX5_readFact_13 : decode cX5_readFact 13 = .ok (.getfield 24, 3) := by decide +kernel
theorem dX5_readFact_16 : decode cX5_readFact 16 = .ok (.getfield 71, 3) := by decide +kernel
theorem dX5_readFact_19 : decode cX5_readFact 19 = .ok (.bipush 91, 2) := by decide +kernel
theorem dX5_readFact_21 : decode cX5_readFact 21 = .ok (.if_icmp .ne 7, 3) := by decide +kernel
theorem dX5_readFact_24 : decode cX5_readFact 24 = .ok (.iconst 1, 1) := by decide +kernel
theorem dX5_readFact_25 : decode cX5_readFact 25 = .ok (.goto 4, 3) := by decide +kernel
theorem dX5_readFact_28 : decode cX5_readFact 28 = .ok (.iconst 0, 1) := by decide +kernel
theorem dX5_readFact_29 : decode cX5_readFact 29 = .ok (.istore_n 2, 1) := by decide +kernel
theorem dX5_readFact_30 : decode cX5_readFact 30 = .ok (.iload_n 2, 1) := by decide +kernel
theorem dX5_readFact_31 : decode cX5_readFact 31 = .ok (.ifCond .eq 18, 3) := by decide +kernel
theorem dX5_readFact_34 : decode cX5_readFact 34 = .ok (.iload_n 1, 1) := by decide +kernel
theorem dX5_readFact_35 : decode cX5_readFact 35 = .ok (.bipush 10, 2) := by decide +kernel
theorem dX5_readFact_37 : decode cX5_readFact 37 = .ok (.if_icmp .lt 12, 3) := by decide +kernel
theorem dX5_readFact_40 : decode cX5_readFact 40 = .ok (.aload_n 0, 1) := by decide +kernel
theorem dX5_readFact_41 : decode cX5_readFact 41 = .ok (.getfield 24, 3) := by decide +kernel
theorem dX5_readFact_44 : decode cX5_readFact 44 = .ok (.iconst 2, 1) := by decide +kernel
theorem dX5_readFact_45 : decode cX5_readFact 45 = .ok (.invokevirtual 52, 3) := by decide +kernel
theorem dX5_readFact_48 : decode cX5_readFact 48 = .ok (.ireturn, 1) := by decide +kernel
theorem dX5_readFact_49 : decode cX5_readFact 49 = .ok (.aload_n 0, 1) := by decide +kernel
theorem dX5_readFact_50 : decode cX5_readFact 50 = .ok (.getfield 24, 3) := by decide +kernel
theorem dX5_readFact_53 : decode cX5_readFact 53 = .ok (.getfield 49, 3) := by decide +kernel
theorem dX5_readFact_56 : decode cX5_readFact 56 = .ok (.bipush 21, 2) := by decide +kernel
theorem dX5_readFact_58 : decode cX5_readFact 58 = .ok (.if_icmp .ne 35, 3) := by decide +kernel
theorem dX5_readFact_61 : decode cX5_readFact 61 = .ok (.aload_n 0, 1) := by decide +kernel
theorem dX5_readFact_62 : decode cX5_readFact 62 = .ok (.getfield 24, 3) := by decide +kernel
theorem dX5_readFact_65 : decode cX5_readFact 65 = .ok (.invokevirtual 55, 3) := by decide +kernel
theorem dX5_readFact_68 : decode cX5_readFact 68 = .ok (.aload_n 0, 1) := by decide +kernel
theorem dX5_readFact_69 : decode cX5_readFact 69 = .ok (.iload_n 1, 1) := by decide +kernel
theorem dX5_readFact_70 : decode cX5_readFact 70 = .ok (.iconst 1, 1) := by decide +kernel
theorem dX5_readFact_71 : decode cX5_readFact 71 = .ok (.iadd, 1) := by decide +kernel
theorem dX5_readFact_72 : decode cX5_readFact 72 = .ok (.invokevirtual 68, 3) := by decide +kernel
theorem dX5_readFact_75 : decode cX5_readFact 75 = .ok (.ifCond .eq 16, 3) := by decide +kernel
theorem dX5_readFact_78 : decode cX5_readFact 78 = .ok (.aload_n 0, 1) := by decide +kernel
theorem dX5_readFact_79 : decode cX5_readFact 79 = .ok (.bipush (-32), 2) := by decide +kernel
theorem dX5_readFact_81 : decode cX5_readFact 81 = .ok (.invokevirtual 62, 3) := by decide +kernel
theorem dX5_readFact_84 : decode cX5_readFact 84 = .ok (.ifCond .eq 7, 3) := by decide +kernel
theorem dX5_readFact_87 : decode cX5_readFact 87 = .ok (.iconst 1, 1) := by decide +kernel
theorem dX5_readFact_88 : decode cX5_readFact 88 = .ok (.goto 4, 3) := by decide +kernel
theorem dX5_readFact_91 : decode cX5_readFact 91 = .ok (.iconst 0, 1) := by decide +kernel
theorem dX5_readFact_92 : decode cX5_readFact 92 = .ok (.ireturn, 1) := by decide +kernel
theorem dX5_readFact_93 : decode cX5_readFact 93 = .ok (.aload_n 0, 1) := by decide +kernel
theorem dX5_readFact_94 : decode cX5_readFact 94 = .ok (.getfield 24, 3) := by decide +kernel
theorem dX5_readFact_97 : decode cX5_readFact 97 = .ok (.getfield 71, 3) := by decide +kernel
theorem dX5_readFact_100 : decode cX5_readFact 100 = .ok (.bipush 91, 2) := by decide +kernel
theorem dX5_readFact_102 : decode cX5_readFact 102 = .ok (.if_icmp .ne 38, 3) := by decide +kernel
theorem dX5_readFact_105 : decode cX5_readFact 105 = .ok (.aload_n 0, 1) := by decide +kernel
theorem dX5_readFact_106 : decode cX5_readFact 106 = .ok (.getfield 24, 3) := by decide +kernel
theorem dX5_readFact_109 : decode cX5_readFact 109 = .ok (.invokevirtual 55, 3) := by decide +kernel
theorem dX5_readFact_112 : decode cX5_readFact 112 = .ok (.aload_n 0, 1) := by decide +kernel
theorem dX5_readFact_113 : decode cX5_readFact 113 = .ok (.iload_n 1, 1) := by decide +kernel
theorem dX5_readFact_114 : decode cX5_readFact 114 = .ok (.iconst 1, 1) := by decide +kernel
theorem dX5_readFact_115 : decode cX5_readFact 115 = .ok (.iadd, 1) := by decide +kernel
theorem dX5_readFact_116 : decode cX5_readFact 116 = .ok (.invokevirtual 65, 3) := by decide +kernel
theorem dX5_readFact_119 : decode cX5_readFact 119 = .ok (.ifCond .eq 19, 3) := by decide +kernel
theorem dX5_readFact_122 : decode cX5_readFact 122 = .ok (.aload_n 0, 1) := by decide +kernel
theorem dX5_readFact_123 : decode cX5_readFact 123 = .ok (.getfield 24, 3) := by decide +kernel
theorem dX5_readFact_126 : decode cX5_readFact 126 = .ok (.bipush 93, 2) := by decide +kernel
theorem dX5_readFact_128 : decode cX5_readFact 128 = .ok (.invokevirtual 46, 3) := by decide +kernel
theorem dX5_readFact_131 : decode cX5_readFact 131 = .ok (.ifCond .eq 7, 3) := by decide +kernel
theorem dX5_readFact_134 : decode cX5_readFact 134 = .ok (.iconst 1, 1) := by decide +kernel
theorem dX5_readFact_135 : decode cX5_readFact 135 = .ok (.goto 4, 3) := by decide +kernel
theorem dX5_readFact_138 : decode cX5_readFact 138 = .ok (.iconst 0, 1) := by decide +kernel
theorem dX5_readFact_139 : decode cX5_readFact 139 = .ok (.ireturn, 1) := by decide +kernel
theorem dX5_readFact_140 : decode cX5_readFact 140 = .ok (.aload_n 0, 1) := by decide +kernel
theorem dX5_readFact_141 : decode cX5_readFact 141 = .ok (.invokevirtual 58, 3) := by decide +kernel
theorem dX5_readFact_144 : decode cX5_readFact 144 = .ok (.ifCond .ne 5, 3) := by decide +kernel
theorem dX5_readFact_147 : decode cX5_readFact 147 = .ok (.iconst 0, 1) := by decide +kernel
theorem dX5_readFact_148 : decode cX5_readFact 148 = .ok (.ireturn, 1) := by decide +kernel
theorem dX5_readFact_149 : decode cX5_readFact 149 = .ok (.aload_n 0, 1) := by decide +kernel
theorem dX5_readFact_150 : decode cX5_readFact 150 = .ok (.getfield 24, 3) := by decide +kernel
theorem dX5_readFact_153 : decode cX5_readFact 153 = .ok (.getfield 71, 3) := by decide +kernel
theorem dX5_readFact_156 : decode cX5_readFact 156 = .ok (.invokestatic 74, 3) := by decide +kernel
theorem dX5_readFact_159 : decode cX5_readFact 159 = .ok (.istore_n 3, 1) := by decide +kernel
theorem dX5_readFact_160 : decode cX5_readFact 160 = .ok (.iload_n 3, 1) := by decide +kernel
theorem dX5_readFact_161 : decode cX5_readFact 161 = .ok (.bipush (-99), 2) := by decide +kernel
theorem dX5_readFact_163 : decode cX5_readFact 163 = .ok (.if_icmp .ne 12, 3) := by decide +kernel
theorem dX5_readFact_166 : decode cX5_readFact 166 = .ok (.aload_n 0, 1) := by decide +kernel
theorem dX5_readFact_167 : decode cX5_readFact 167 = .ok (.getfield 24, 3) := by decide +kernel
theorem dX5_readFact_170 : decode cX5_readFact 170 = .ok (.iconst 0, 1) := by decide +kernel
theorem dX5_readFact_171 : decode cX5_readFact 171 = .ok (.invokevirtual 52, 3) := by decide +kernel
theorem dX5_readFact_174 : decode cX5_readFact 174 = .ok (.ireturn, 1) := by decide +kernel
theorem dX5_readFact_175 : decode cX5_readFact 175 = .ok (.aload_n 0, 1) := by decide +kernel
theorem dX5_readFact_176 : decode cX5_readFact 176 = .ok (.getfield 21, 3) := by decide +kernel
theorem dX5_readFact_179 : decode cX5_readFact 179 = .ok (.bipush 60, 2) := by decide +kernel
theorem dX5_readFact_181 : decode cX5_readFact 181 = .ok (.if_icmp .lt 12, 3) := by decide +kernel
theorem dX5_readFact_184 : decode cX5_readFact 184 = .ok (.aload_n 0, 1) := by decide +kernel
theorem dX5_readFact_185 : decode cX5_readFact 185 = .ok (.getfield 24, 3) := by decide +kernel
theorem dX5_readFact_188 : decode cX5_readFact 188 = .ok (.iconst 3, 1) := by decide +kernel
theorem dX5_readFact_189 : decode cX5_readFact 189 = .ok (.invokevirtual 52, 3) := by decide +kernel
theorem dX5_readFact_192 : decode cX5_readFact 192 = .ok (.ireturn, 1) := by decide +kernel
theorem dX5_readFact_193 : decode cX5_readFact 193 = .ok (.aload_n 0, 1) := by decide +kernel
theorem dX5_readFact_194 : decode cX5_readFact 194 = .ok (.dup, 1) := by decide +kernel
theorem dX5_readFact_195 : decode cX5_readFact 195 = .ok (.getfield 21, 3) := by decide +kernel
theorem dX5_readFact_198 : decode cX5_readFact 198 = .ok (.iconst 1, 1) := by decide +kernel
theorem dX5_readFact_199 : decode cX5_readFact 199 = .ok (.iadd, 1) := by decide +kernel
theorem dX5_readFact_200 : decode cX5_readFact 200 = .ok (.putfield 21, 3) := by decide +kernel
theorem dX5_readFact_203 : decode cX5_readFact 203 = .ok (.aload_n 0, 1) := by decide +kernel
theorem dX5_readFact_204 : decode cX5_readFact 204 = .ok (.getfield 24, 3) := by decide +kernel
theorem dX5_readFact_207 : decode cX5_readFact 207 = .ok (.invokevirtual 55, 3) := by decide +kernel
theorem dX5_readFact_210 : decode cX5_readFact 210 = .ok (.aload_n 0, 1) := by decide +kernel
theorem dX5_readFact_211 : decode cX5_readFact 211 = .ok (.invokevirtual 58, 3) := by decide +kernel
theorem dX5_readFact_214 : decode cX5_readFact 214 = .ok (.ifCond .eq 15, 3) := by decide +kernel
theorem dX5_readFact_217 : decode cX5_readFact 217 = .ok (.aload_n 0, 1) := by decide +kernel
theorem dX5_readFact_218 : decode cX5_readFact 218 = .ok (.iload_n 3, 1) := by decide +kernel
theorem dX5_readFact_219 : decode cX5_readFact 219 = .ok (.invokevirtual 62, 3) := by decide +kernel
theorem dX5_readFact_222 : decode cX5_readFact 222 = .ok (.ifCond .eq 7, 3) := by decide +kernel
theorem dX5_readFact_225 : decode cX5_readFact 225 = .ok (.iconst 1, 1) := by decide +kernel
theorem dX5_readFact_226 : decode cX5_readFact 226 = .ok (.goto 4, 3) := by decide +kernel
theorem dX5_readFact_229 : decode cX5_readFact 229 = .ok (.iconst 0, 1) := by decide +kernel
theorem dX5_readFact_230 : decode cX5_readFact 230 = .ok (.ireturn, 1) := by decide +kernel
theorem dX5_readTest_0 : decode cX5_readTest 0 = .ok (.bipush (-99), 2) := by decide +kernel
theorem dX5_readTest_2 : decode cX5_readTest 2 = .ok (.istore_n 2, 1) := by decide +kernel
theorem dX5_readTest_3 : decode cX5_readTest 3 = .ok (.bipush (-99), 2) := by decide +kernel
theorem dX5_readTest_5 : decode cX5_readTest 5 = .ok (.istore_n 3, 1) := by decide +kernel
theorem dX5_readTest_6 : decode cX5_readTest 6 = .ok (.iconst 0, 1) := by decide +kernel
theorem dX5_readTest_7 : decode cX5_readTest 7 = .ok (.istore 4, 2) := by decide +kernel
theorem dX5_readTest_9 : decode cX5_readTest 9 = .ok (.iload 4, 2) := by decide +kernel
theorem dX5_readTest_11 : decode cX5_readTest 11 = .ok (.sipush 400, 3) := by decide +kernel
theorem dX5_readTest_14 : decode cX5_readTest 14 = .ok (.if_icmp .ge 92, 3) := by decide +kernel
theorem dX5_readTest_17 : decode cX5_readTest 17 = .ok (.aload_n 0, 1) := by decide +kernel
theorem dX5_readTest_18 : decode cX5_readTest 18 = .ok (.iload_n 1, 1) := by decide +kernel
theorem dX5_readTest_19 : decode cX5_readTest 19 = .ok (.invokevirtual 68, 3) := by decide +kernel
theorem dX5_readTest_22 : decode cX5_readTest 22 = .ok (.ifCond .ne 5, 3) := by decide +kernel
theorem dX5_readTest_25 : decode cX5_readTest 25 = .ok (.iconst 0, 1) := by decide +kernel
theorem dX5_readTest_26 : decode cX5_readTest 26 = .ok (.ireturn, 1) := by decide +kernel
theorem dX5_readTest_27 : decode cX5_readTest 27 = .ok (.aload_n 0, 1) := by decide +kernel
theorem dX5_readTest_28 : decode cX5_readTest 28 = .ok (.iload_n 3, 1) := by decide +kernel
theorem dX5_readTest_29 : decode cX5_readTest 29 = .ok (.invokevirtual 62, 3) := by decide +kernel
theorem dX5_readTest_32 : decode cX5_readTest 32 = .ok (.pop, 1) := by decide +kernel
theorem dX5_readTest_33 : decode cX5_readTest 33 = .ok (.aload_n 0, 1) := by decide +kernel
theorem dX5_readTest_34 : decode cX5_readTest 34 = .ok (.getfield 24, 3) := by decide +kernel
theorem dX5_readTest_37 : decode cX5_readTest 37 = .ok (.getfield 49, 3) := by decide +kernel
theorem dX5_readTest_40 : decode cX5_readTest 40 = .ok (.bipush 20, 2) := by decide +kernel
theorem dX5_readTest_42 : decode cX5_readTest 42 = .ok (.if_icmp .ne 8, 3) := by decide +kernel
theorem dX5_readTest_45 : decode cX5_readTest 45 = .ok (.bipush (-30), 2) := by decide +kernel
theorem dX5_readTest_47 : decode cX5_readTest 47 = .ok (.goto 5, 3) := by decide +kernel
theorem dX5_readTest_50 : decode cX5_readTest 50 = .ok (.bipush (-99), 2) := by decide +kernel
theorem dX5_readTest_52 : decode cX5_readTest 52 = .ok (.istore_n 3, 1) := by decide +kernel
theorem dX5_readTest_53 : decode cX5_readTest 53 = .ok (.iload_n 3, 1) := by decide +kernel
theorem dX5_readTest_54 : decode cX5_readTest 54 = .ok (.bipush (-99), 2) := by decide +kernel
theorem dX5_readTest_56 : decode cX5_readTest 56 = .ok (.if_icmp .ne 37, 3) := by decide +kernel
theorem dX5_readTest_59 : decode cX5_readTest 59 = .ok (.aload_n 0, 1) := by decide +kernel
theorem dX5_readTest_60 : decode cX5_readTest 60 = .ok (.iload_n 2, 1) := by decide +kernel
theorem dX5_readTest_61 : decode cX5_readTest 61 = .ok (.invokevirtual 62, 3) := by decide +kernel
theorem dX5_readTest_64 : decode cX5_readTest 64 = .ok (.pop, 1) := by decide +kernel
theorem dX5_readTest_65 : decode cX5_readTest 65 = .ok (.aload_n 0, 1) := by decide +kernel
theorem dX5_readTest_66 : decode cX5_readTest 66 = .ok (.getfield 24, 3) := by decide +kernel
theorem dX5_readTest_69 : decode cX5_readTest 69 = .ok (.getfield 49, 3) := by decide +kernel
theorem dX5_readTest_72 : decode cX5_readTest 72 = .ok (.bipush 19, 2) := by decide +kernel
theorem dX5_readTest_74 : decode cX5_readTest 74 = .ok (.if_icmp .ne 8, 3) := by decide +kernel
theorem dX5_readTest_77 : decode cX5_readTest 77 = .ok (.bipush (-31), 2) := by decide +kernel
theorem dX5_readTest_79 : decode cX5_readTest 79 = .ok (.goto 5, 3) := by decide +kernel
theorem dX5_readTest_82 : decode cX5_readTest 82 = .ok (.bipush (-99), 2) := by decide +kernel
theorem dX5_readTest_84 : decode cX5_readTest 84 = .ok (.istore_n 2, 1) := by decide +kernel
theorem dX5_readTest_85 : decode cX5_readTest 85 = .ok (.iload_n 2, 1) := by decide +kernel
theorem dX5_readTest_86 : decode cX5_readTest 86 = .ok (.bipush (-99), 2) := by decide +kernel
theorem dX5_readTest_88 : decode cX5_readTest 88 = .ok (.if_icmp .ne 5, 3) := by decide +kernel
theorem dX5_readTest_91 : decode cX5_readTest 91 = .ok (.iconst 1, 1) := by decide +kernel
theorem dX5_readTest_92 : decode cX5_readTest 92 = .ok (.ireturn, 1) := by decide +kernel
theorem dX5_readTest_93 : decode cX5_readTest 93 = .ok (.aload_n 0, 1) := by decide +kernel
theorem dX5_readTest_94 : decode cX5_readTest 94 = .ok (.getfield 24, 3) := by decide +kernel
theorem dX5_readTest_97 : decode cX5_readTest 97 = .ok (.invokevirtual 55, 3) := by decide +kernel
theorem dX5_readTest_100 : decode cX5_readTest 100 = .ok (.iinc 4 1, 3) := by decide +kernel
theorem dX5_readTest_103 : decode cX5_readTest 103 = .ok (.goto (-94), 3) := by decide +kernel
theorem dX5_readTest_106 : decode cX5_readTest 106 = .ok (.aload_n 0, 1) := by decide +kernel
theorem dX5_readTest_107 : decode cX5_readTest 107 = .ok (.getfield 24, 3) := by decide +kernel
theorem dX5_readTest_110 : decode cX5_readTest 110 = .ok (.iconst 3, 1) := by decide +kernel
theorem dX5_readTest_111 : decode cX5_readTest 111 = .ok (.invokevirtual 52, 3) := by decide +kernel
theorem dX5_readTest_114 : decode cX5_readTest 114 = .ok (.ireturn, 1) := by decide +kernel
theorem dX5_readClause_0 : decode cX5_readClause 0 = .ok (.aload_n 0, 1) := by decide +kernel
theorem dX5_readClause_1 : decode cX5_readClause 1 = .ok (.getfield 24, 3) := by decide +kernel
theorem dX5_readClause_4 : decode cX5_readClause 4 = .ok (.getfield 49, 3) := by decide +kernel
theorem dX5_readClause_7 : decode cX5_readClause 7 = .ok (.bipush 17, 2) := by decide +kernel
theorem dX5_readClause_9 : decode cX5_readClause 9 = .ok (.if_icmp .eq 12, 3) := by decide +kernel
theorem dX5_readClause_12 : decode cX5_readClause 12 = .ok (.aload_n 0, 1) := by decide +kernel
theorem dX5_readClause_13 : decode cX5_readClause 13 = .ok (.getfield 24, 3) := by decide +kernel
theorem dX5_readClause_16 : decode cX5_readClause 16 = .ok (.iconst 0, 1) := by decide +kernel
theorem dX5_readClause_17 : decode cX5_readClause 17 = .ok (.invokevirtual 52, 3) := by decide +kernel
theorem dX5_readClause_20 : decode cX5_readClause 20 = .ok (.ireturn, 1) := by decide +kernel
theorem dX5_readClause_21 : decode cX5_readClause 21 = .ok (.iload_n 1, 1) := by decide +kernel
theorem dX5_readClause_22 : decode cX5_readClause 22 = .ok (.bipush 12, 2) := by decide +kernel
theorem dX5_readClause_24 : decode cX5_readClause 24 = .ok (.if_icmp .lt 12, 3) := by decide +kernel
theorem dX5_readClause_27 : decode cX5_readClause 27 = .ok (.aload_n 0, 1) := by decide +kernel
theorem dX5_readClause_28 : decode cX5_readClause 28 = .ok (.getfield 24, 3) := by decide +kernel
theorem dX5_readClause_31 : decode cX5_readClause 31 = .ok (.iconst 4, 1) := by decide +kernel
theorem dX5_readClause_32 : decode cX5_readClause 32 = .ok (.invokevirtual 52, 3) := by decide +kernel
theorem dX5_readClause_35 : decode cX5_readClause 35 = .ok (.ireturn, 1) := by decide +kernel
theorem dX5_readClause_36 : decode cX5_readClause 36 = .ok (.aload_n 0, 1) := by decide +kernel
theorem dX5_readClause_37 : decode cX5_readClause 37 = .ok (.getfield 24, 3) := by decide +kernel
theorem dX5_readClause_40 : decode cX5_readClause 40 = .ok (.invokevirtual 55, 3) := by decide +kernel
theorem dX5_readClause_43 : decode cX5_readClause 43 = .ok (.aload_n 0, 1) := by decide +kernel
theorem dX5_readClause_44 : decode cX5_readClause 44 = .ok (.invokevirtual 58, 3) := by decide +kernel
theorem dX5_readClause_47 : decode cX5_readClause 47 = .ok (.ifCond .ne 5, 3) := by decide +kernel
theorem dX5_readClause_50 : decode cX5_readClause 50 = .ok (.iconst 0, 1) := by decide +kernel
theorem dX5_readClause_51 : decode cX5_readClause 51 = .ok (.ireturn, 1) := by decide +kernel
theorem dX5_readClause_52 : decode cX5_readClause 52 = .ok (.aload_n 0, 1) := by decide +kernel
theorem dX5_readClause_53 : decode cX5_readClause 53 = .ok (.getfield 24, 3) := by decide +kernel
theorem dX5_readClause_56 : decode cX5_readClause 56 = .ok (.getfield 49, 3) := by decide +kernel
theorem dX5_readClause_59 : decode cX5_readClause 59 = .ok (.bipush 18, 2) := by decide +kernel
theorem dX5_readClause_61 : decode cX5_readClause 61 = .ok (.if_icmp .eq 10, 3) := by decide +kernel
theorem dX5_readClause_64 : decode cX5_readClause 64 = .ok (.aload_n 0, 1) := by decide +kernel
theorem dX5_readClause_65 : decode cX5_readClause 65 = .ok (.bipush (-33), 2) := by decide +kernel
theorem dX5_readClause_67 : decode cX5_readClause 67 = .ok (.invokevirtual 62, 3) := by decide +kernel
theorem dX5_readClause_70 : decode cX5_readClause 70 = .ok (.ireturn, 1) := by decide +kernel
theorem dX5_readClause_71 : decode cX5_readClause 71 = .ok (.aload_n 0, 1) := by decide +kernel
theorem dX5_readClause_72 : decode cX5_readClause 72 = .ok (.getfield 24, 3) := by decide +kernel
theorem dX5_readClause_75 : decode cX5_readClause 75 = .ok (.invokevirtual 55, 3) := by decide +kernel
theorem dX5_readClause_78 : decode cX5_readClause 78 = .ok (.aload_n 0, 1) := by decide +kernel
theorem dX5_readClause_79 : decode cX5_readClause 79 = .ok (.iconst 0, 1) := by decide +kernel
theorem dX5_readClause_80 : decode cX5_readClause 80 = .ok (.invokevirtual 65, 3) := by decide +kernel
theorem dX5_readClause_83 : decode cX5_readClause 83 = .ok (.ifCond .eq 16, 3) := by decide +kernel
theorem dX5_readClause_86 : decode cX5_readClause 86 = .ok (.aload_n 0, 1) := by decide +kernel
theorem dX5_readClause_87 : decode cX5_readClause 87 = .ok (.bipush (-34), 2) := by decide +kernel
theorem dX5_readClause_89 : decode cX5_readClause 89 = .ok (.invokevirtual 62, 3) := by decide +kernel
theorem dX5_readClause_92 : decode cX5_readClause 92 = .ok (.ifCond .eq 7, 3) := by decide +kernel
theorem dX5_readClause_95 : decode cX5_readClause 95 = .ok (.iconst 1, 1) := by decide +kernel
theorem dX5_readClause_96 : decode cX5_readClause 96 = .ok (.goto 4, 3) := by decide +kernel
theorem dX5_readClause_99 : decode cX5_readClause 99 = .ok (.iconst 0, 1) := by decide +kernel
theorem dX5_readClause_100 : decode cX5_readClause 100 = .ok (.ireturn, 1) := by decide +kernel
theorem dX5_readText_0 : decode cX5_readText 0 = .ok (.aload_n 0, 1) := by decide +kernel
theorem dX5_readText_1 : decode cX5_readText 1 = .ok (.iconst 0, 1) := by decide +kernel
theorem dX5_readText_2 : decode cX5_readText 2 = .ok (.putfield 17, 3) := by decide +kernel
theorem dX5_readText_5 : decode cX5_readText 5 = .ok (.aload_n 0, 1) := by decide +kernel
theorem dX5_readText_6 : decode cX5_readText 6 = .ok (.iconst 0, 1) := by decide +kernel
theorem dX5_readText_7 : decode cX5_readText 7 = .ok (.putfield 21, 3) := by decide +kernel
theorem dX5_readText_10 : decode cX5_readText 10 = .ok (.aload_n 0, 1) := by decide +kernel
theorem dX5_readText_11 : decode cX5_readText 11 = .ok (.getfield 24, 3) := by decide +kernel
theorem dX5_readText_14 : decode cX5_readText 14 = .ok (.invokevirtual 33, 3) := by decide +kernel
theorem dX5_readText_17 : decode cX5_readText 17 = .ok (.iconst 0, 1) := by decide +kernel
theorem dX5_readText_18 : decode cX5_readText 18 = .ok (.istore_n 1, 1) := by decide +kernel
theorem dX5_readText_19 : decode cX5_readText 19 = .ok (.iload_n 1, 1) := by decide +kernel
theorem dX5_readText_20 : decode cX5_readText 20 = .ok (.bipush 12, 2) := by decide +kernel
theorem dX5_readText_22 : decode cX5_readText 22 = .ok (.if_icmp .gt 57, 3) := by decide +kernel
theorem dX5_readText_25 : decode cX5_readText 25 = .ok (.aload_n 0, 1) := by decide +kernel
theorem dX5_readText_26 : decode cX5_readText 26 = .ok (.iload_n 1, 1) := by decide +kernel
theorem dX5_readText_27 : decode cX5_readText 27 = .ok (.invokevirtual 36, 3) := by decide +kernel
theorem dX5_readText_30 : decode cX5_readText 30 = .ok (.ifCond .ne 11, 3) := by decide +kernel
theorem dX5_readText_33 : decode cX5_readText 33 = .ok (.aload_n 0, 1) := by decide +kernel
theorem dX5_readText_34 : decode cX5_readText 34 = .ok (.getfield 24, 3) := by decide +kernel
theorem dX5_readText_37 : decode cX5_readText 37 = .ok (.getfield 40, 3) := by decide +kernel
theorem dX5_readText_40 : decode cX5_readText 40 = .ok (.ireturn, 1) := by decide +kernel
theorem dX5_readText_41 : decode cX5_readText 41 = .ok (.aload_n 0, 1) := by decide +kernel
theorem dX5_readText_42 : decode cX5_readText 42 = .ok (.getfield 24, 3) := by decide +kernel
theorem dX5_readText_45 : decode cX5_readText 45 = .ok (.getfield 43, 3) := by decide +kernel
theorem dX5_readText_48 : decode cX5_readText 48 = .ok (.ifCond .ne 5, 3) := by decide +kernel
theorem dX5_readText_51 : decode cX5_readText 51 = .ok (.iconst 0, 1) := by decide +kernel
theorem dX5_readText_52 : decode cX5_readText 52 = .ok (.ireturn, 1) := by decide +kernel
theorem dX5_readText_53 : decode cX5_readText 53 = .ok (.aload_n 0, 1) := by decide +kernel
theorem dX5_readText_54 : decode cX5_readText 54 = .ok (.getfield 24, 3) := by decide +kernel
theorem dX5_readText_57 : decode cX5_readText 57 = .ok (.bipush 59, 2) := by decide +kernel
theorem dX5_readText_59 : decode cX5_readText 59 = .ok (.invokevirtual 46, 3) := by decide +kernel
theorem dX5_readText_62 : decode cX5_readText 62 = .ok (.ifCond .ne 11, 3) := by decide +kernel
theorem dX5_readText_65 : decode cX5_readText 65 = .ok (.aload_n 0, 1) := by decide +kernel
theorem dX5_readText_66 : decode cX5_readText 66 = .ok (.getfield 24, 3) := by decide +kernel
theorem dX5_readText_69 : decode cX5_readText 69 = .ok (.getfield 40, 3) := by decide +kernel
theorem dX5_readText_72 : decode cX5_readText 72 = .ok (.ireturn, 1) := by decide +kernel
theorem dX5_readText_73 : decode cX5_readText 73 = .ok (.iinc 1 1, 3) := by decide +kernel
theorem dX5_readText_76 : decode cX5_readText 76 = .ok (.goto (-57), 3) := by decide +kernel
theorem dX5_readText_79 : decode cX5_readText 79 = .ok (.aload_n 0, 1) := by decide +kernel
theorem dX5_readText_80 : decode cX5_readText 80 = .ok (.getfield 24, 3) := by decide +kernel
theorem dX5_readText_83 : decode cX5_readText 83 = .ok (.getfield 40, 3) := by decide +kernel
theorem dX5_readText_86 : decode cX5_readText 86 = .ok (.ireturn, 1) := by decide +kernel
theorem dX7_init_0 : decode cX7_init 0 = .ok (.aload_n 0, 1) := by decide +kernel
theorem dX7_init_1 : decode cX7_init 1 = .ok (.invokespecial 3, 3) := by decide +kernel
theorem dX7_init_4 : decode cX7_init 4 = .ok (.aload_n 0, 1) := by decide +kernel
theorem dX7_init_5 : decode cX7_init 5 = .ok (.iconst 5, 1) := by decide +kernel
theorem dX7_init_6 : decode cX7_init 6 = .ok (.newarray .int, 2) := by decide +kernel
theorem dX7_init_8 : decode cX7_init 8 = .ok (.putfield 9, 3) := by decide +kernel
theorem dX7_init_11 : decode cX7_init 11 = .ok (.aload_n 0, 1) := by decide +kernel
theorem dX7_init_12 : decode cX7_init 12 = .ok (.iconst 5, 1) := by decide +kernel
theorem dX7_init_13 : decode cX7_init 13 = .ok (.newarray .int, 2) := by decide +kernel
theorem dX7_init_15 : decode cX7_init 15 = .ok (.putfield 15, 3) := by decide +kernel
theorem dX7_init_18 : decode cX7_init 18 = .ok (.aload_n 0, 1) := by decide +kernel
theorem dX7_init_19 : decode cX7_init 19 = .ok (.iconst 5, 1) := by decide +kernel
theorem dX7_init_20 : decode cX7_init 20 = .ok (.newarray .int, 2) := by decide +kernel
theorem dX7_init_22 : decode cX7_init 22 = .ok (.putfield 18, 3) := by decide +kernel
theorem dX7_init_25 : decode cX7_init 25 = .ok (.aload_n 0, 1) := by decide +kernel
theorem dX7_init_26 : decode cX7_init 26 = .ok (.iconst 5, 1) := by decide +kernel
theorem dX7_init_27 : decode cX7_init 27 = .ok (.newarray .int, 2) := by decide +kernel
theorem dX7_init_29 : decode cX7_init 29 = .ok (.putfield 21, 3) := by decide +kernel
theorem dX7_init_32 : decode cX7_init 32 = .ok (.aload_n 0, 1) := by decide +kernel
theorem dX7_init_33 : decode cX7_init 33 = .ok (.bipush 10, 2) := by decide +kernel
theorem dX7_init_35 : decode cX7_init 35 = .ok (.newarray .int, 2) := by decide +kernel
theorem dX7_init_37 : decode cX7_init 37 = .ok (.putfield 24, 3) := by decide +kernel
theorem dX7_init_40 : decode cX7_init 40 = .ok (.aload_n 0, 1) := by decide +kernel
theorem dX7_init_41 : decode cX7_init 41 = .ok (.bipush 10, 2) := by decide +kernel
theorem dX7_init_43 : decode cX7_init 43 = .ok (.newarray .int, 2) := by decide +kernel
theorem dX7_init_45 : decode cX7_init 45 = .ok (.putfield 27, 3) := by decide +kernel
theorem dX7_init_48 : decode cX7_init 48 = .ok (.aload_n 0, 1) := by decide +kernel
theorem dX7_init_49 : decode cX7_init 49 = .ok (.iconst 0, 1) := by decide +kernel
theorem dX7_init_50 : decode cX7_init 50 = .ok (.putfield 30, 3) := by decide +kernel
theorem dX7_init_53 : decode cX7_init 53 = .ok (.aload_n 0, 1) := by decide +kernel
theorem dX7_init_54 : decode cX7_init 54 = .ok (.iconst 0, 1) := by decide +kernel
theorem dX7_init_55 : decode cX7_init 55 = .ok (.putfield 34, 3) := by decide +kernel
theorem dX7_init_58 : decode cX7_init 58 = .ok (.aload_n 0, 1) := by decide +kernel
theorem dX7_init_59 : decode cX7_init 59 = .ok (.iconst 0, 1) := by decide +kernel
theorem dX7_init_60 : decode cX7_init 60 = .ok (.putfield 37, 3) := by decide +kernel
theorem dX7_init_63 : decode cX7_init 63 = .ok (.aload_n 0, 1) := by decide +kernel
theorem dX7_init_64 : decode cX7_init 64 = .ok (.iconst 0, 1) := by decide +kernel
theorem dX7_init_65 : decode cX7_init 65 = .ok (.putfield 40, 3) := by decide +kernel
theorem dX7_init_68 : decode cX7_init 68 = .ok (.aload_n 0, 1) := by decide +kernel
theorem dX7_init_69 : decode cX7_init 69 = .ok (.iconst 0, 1) := by decide +kernel
theorem dX7_init_70 : decode cX7_init 70 = .ok (.putfield 43, 3) := by decide +kernel
theorem dX7_init_73 : decode cX7_init 73 = .ok (.return_, 1) := by decide +kernel
theorem dX6_init_0 : decode cX6_init 0 = .ok (.aload_n 0, 1) := by decide +kernel
theorem dX6_init_1 : decode cX6_init 1 = .ok (.invokespecial 3, 3) := by decide +kernel
theorem dX6_init_4 : decode cX6_init 4 = .ok (.aload_n 0, 1) := by decide +kernel
theorem dX6_init_5 : decode cX6_init 5 = .ok (.new 9, 3) := by decide +kernel
theorem dX6_init_8 : decode cX6_init 8 = .ok (.dup, 1) := by decide +kernel
theorem dX6_init_9 : decode cX6_init 9 = .ok (.invokespecial 11, 3) := by decide +kernel
theorem dX6_init_12 : decode cX6_init 12 = .ok (.putfield 12, 3) := by decide +kernel
theorem dX6_init_15 : decode cX6_init 15 = .ok (.aload_n 0, 1) := by decide +kernel
theorem dX6_init_16 : decode cX6_init 16 = .ok (.new 18, 3) := by decide +kernel
theorem dX6_init_19 : decode cX6_init 19 = .ok (.dup, 1) := by decide +kernel
theorem dX6_init_20 : decode cX6_init 20 = .ok (.invokespecial 20, 3) := by decide +kernel
theorem dX6_init_23 : decode cX6_init 23 = .ok (.putfield 21, 3) := by decide +kernel
theorem dX6_init_26 : decode cX6_init 26 = .ok (.aload_n 0, 1) := by decide +kernel
theorem dX6_init_27 : decode cX6_init 27 = .ok (.new 25, 3) := by decide +kernel
theorem dX6_init_30 : decode cX6_init 30 = .ok (.dup, 1) := by decide +kernel
theorem dX6_init_31 : decode cX6_init 31 = .ok (.invokespecial 27, 3) := by decide +kernel
theorem dX6_init_34 : decode cX6_init 34 = .ok (.putfield 28, 3) := by decide +kernel
theorem dX6_init_37 : decode cX6_init 37 = .ok (.aload_n 0, 1) := by decide +kernel
theorem dX6_init_38 : decode cX6_init 38 = .ok (.iconst (-1), 1) := by decide +kernel
theorem dX6_init_39 : decode cX6_init 39 = .ok (.putfield 32, 3) := by decide +kernel
theorem dX6_init_42 : decode cX6_init 42 = .ok (.aload_n 0, 1) := by decide +kernel
theorem dX6_init_43 : decode cX6_init 43 = .ok (.iconst 0, 1) := by decide +kernel
theorem dX6_init_44 : decode cX6_init 44 = .ok (.putfield 36, 3) := by decide +kernel
theorem dX6_init_47 : decode cX6_init 47 = .ok (.aload_n 0, 1) := by decide +kernel
theorem dX6_init_48 : decode cX6_init 48 = .ok (.iconst 0, 1) := by decide +kernel
theorem dX6_init_49 : decode cX6_init 49 = .ok (.putfield 39, 3) := by decide +kernel
theorem dX6_init_52 : decode cX6_init 52 = .ok (.return_, 1) := by decide +kernel
theorem dX7_copyOf_0 : decode cX7_copyOf 0 = .ok (.aload_n 0, 1) := by decide +kernel
theorem dX7_copyOf_1 : decode cX7_copyOf 1 = .ok (.aload_n 1, 1) := by decide +kernel
theorem dX7_copyOf_2 : decode cX7_copyOf 2 = .ok (.getfield 30, 3) := by decide +kernel
theorem dX7_copyOf_5 : decode cX7_copyOf 5 = .ok (.putfield 30, 3) := by decide +kernel
theorem dX7_copyOf_8 : decode cX7_copyOf 8 = .ok (.aload_n 0, 1) := by decide +kernel
theorem dX7_copyOf_9 : decode cX7_copyOf 9 = .ok (.aload_n 1, 1) := by decide +kernel
theorem dX7_copyOf_10 : decode cX7_copyOf 10 = .ok (.getfield 34, 3) := by decide +kernel
theorem dX7_copyOf_13 : decode cX7_copyOf 13 = .ok (.putfield 34, 3) := by decide +kernel
theorem dX7_copyOf_16 : decode cX7_copyOf 16 = .ok (.aload_n 0, 1) := by decide +kernel
theorem dX7_copyOf_17 : decode cX7_copyOf 17 = .ok (.aload_n 1, 1) := by decide +kernel
theorem dX7_copyOf_18 : decode cX7_copyOf 18 = .ok (.getfield 37, 3) := by decide +kernel
theorem dX7_copyOf_21 : decode cX7_copyOf 21 = .ok (.putfield 37, 3) := by decide +kernel
theorem dX7_copyOf_24 : decode cX7_copyOf 24 = .ok (.aload_n 0, 1) := by decide +kernel
theorem dX7_copyOf_25 : decode cX7_copyOf 25 = .ok (.aload_n 1, 1) := by decide +kernel
theorem dX7_copyOf_26 : decode cX7_copyOf 26 = .ok (.getfield 40, 3) := by decide +kernel
theorem dX7_copyOf_29 : decode cX7_copyOf 29 = .ok (.putfield 40, 3) := by decide +kernel
theorem dX7_copyOf_32 : decode cX7_copyOf 32 = .ok (.aload_n 0, 1) := by decide +kernel
theorem dX7_copyOf_33 : decode cX7_copyOf 33 = .ok (.aload_n 1, 1) := by decide +kernel
theorem dX7_copyOf_34 : decode cX7_copyOf 34 = .ok (.getfield 43, 3) := by decide +kernel
theorem dX7_copyOf_37 : decode cX7_copyOf 37 = .ok (.putfield 43, 3) := by decide +kernel
theorem dX7_copyOf_40 : decode cX7_copyOf 40 = .ok (.aload_n 1, 1) := by decide +kernel
theorem dX7_copyOf_41 : decode cX7_copyOf 41 = .ok (.getfield 9, 3) := by decide +kernel
theorem dX7_copyOf_44 : decode cX7_copyOf 44 = .ok (.iconst 0, 1) := by decide +kernel
theorem dX7_copyOf_45 : decode cX7_copyOf 45 = .ok (.aload_n 0, 1) := by decide +kernel
theorem dX7_copyOf_46 : decode cX7_copyOf 46 = .ok (.getfield 9, 3) := by decide +kernel
theorem dX7_copyOf_49 : decode cX7_copyOf 49 = .ok (.iconst 0, 1) := by decide +kernel
theorem dX7_copyOf_50 : decode cX7_copyOf 50 = .ok (.iconst 5, 1) := by decide +kernel
theorem dX7_copyOf_51 : decode cX7_copyOf 51 = .ok (.invokestatic 46, 3) := by decide +kernel
theorem dX7_copyOf_54 : decode cX7_copyOf 54 = .ok (.aload_n 1, 1) := by decide +kernel
theorem dX7_copyOf_55 : decode cX7_copyOf 55 = .ok (.getfield 15, 3) := by decide +kernel
theorem dX7_copyOf_58 : decode cX7_copyOf 58 = .ok (.iconst 0, 1) := by decide +kernel
theorem dX7_copyOf_59 : decode cX7_copyOf 59 = .ok (.aload_n 0, 1) := by decide +kernel
theorem dX7_copyOf_60 : decode cX7_copyOf 60 = .ok (.getfield 15, 3) := by decide +kernel
theorem dX7_copyOf_63 : decode cX7_copyOf 63 = .ok (.iconst 0, 1) := by decide +kernel
theorem dX7_copyOf_64 : decode cX7_copyOf 64 = .ok (.iconst 5, 1) := by decide +kernel
theorem dX7_copyOf_65 : decode cX7_copyOf 65 = .ok (.invokestatic 46, 3) := by decide +kernel
theorem dX7_copyOf_68 : decode cX7_copyOf 68 = .ok (.aload_n 1, 1) := by decide +kernel
theorem dX7_copyOf_69 : decode cX7_copyOf 69 = .ok (.getfield 18, 3) := by decide +kernel
theorem dX7_copyOf_72 : decode cX7_copyOf 72 = .ok (.iconst 0, 1) := by decide +kernel
theorem dX7_copyOf_73 : decode cX7_copyOf 73 = .ok (.aload_n 0, 1) := by decide +kernel
theorem dX7_copyOf_74 : decode cX7_copyOf 74 = .ok (.getfield 18, 3) := by decide +kernel
theorem dX7_copyOf_77 : decode cX7_copyOf 77 = .ok (.iconst 0, 1) := by decide +kernel
theorem dX7_copyOf_78 : decode cX7_copyOf 78 = .ok (.iconst 5, 1) := by decide +kernel
theorem dX7_copyOf_79 : decode cX7_copyOf 79 = .ok (.invokestatic 46, 3) := by decide +kernel
theorem dX7_copyOf_82 : decode cX7_copyOf 82 = .ok (.aload_n 1, 1) := by decide +kernel
theorem dX7_copyOf_83 : decode cX7_copyOf 83 = .ok (.getfield 21, 3) := by decide +kernel
theorem dX7_copyOf_86 : decode cX7_copyOf 86 = .ok (.iconst 0, 1) := by decide +kernel
theorem dX7_copyOf_87 : decode cX7_copyOf 87 = .ok (.aload_n 0, 1) := by decide +kernel
theorem dX7_copyOf_88 : decode cX7_copyOf 88 = .ok (.getfield 21, 3) := by decide +kernel
theorem dX7_copyOf_91 : decode cX7_copyOf 91 = .ok (.iconst 0, 1) := by decide +kernel
theorem dX7_copyOf_92 : decode cX7_copyOf 92 = .ok (.iconst 5, 1) := by decide +kernel
theorem dX7_copyOf_93 : decode cX7_copyOf 93 = .ok (.invokestatic 46, 3) := by decide +kernel
theorem dX7_copyOf_96 : decode cX7_copyOf 96 = .ok (.aload_n 1, 1) := by decide +kernel
theorem dX7_copyOf_97 : decode cX7_copyOf 97 = .ok (.getfield 24, 3) := by decide +kernel
theorem dX7_copyOf_100 : decode cX7_copyOf 100 = .ok (.iconst 0, 1) := by decide +kernel
theorem dX7_copyOf_101 : decode cX7_copyOf 101 = .ok (.aload_n 0, 1) := by decide +kernel
theorem dX7_copyOf_102 : decode cX7_copyOf 102 = .ok (.getfield 24, 3) := by decide +kernel
theorem dX7_copyOf_105 : decode cX7_copyOf 105 = .ok (.iconst 0, 1) := by decide +kernel
theorem dX7_copyOf_106 : decode cX7_copyOf 106 = .ok (.bipush 10, 2) := by decide +kernel
theorem dX7_copyOf_108 : decode cX7_copyOf 108 = .ok (.invokestatic 46, 3) := by decide +kernel
theorem dX7_copyOf_111 : decode cX7_copyOf 111 = .ok (.aload_n 1, 1) := by decide +kernel
theorem dX7_copyOf_112 : decode cX7_copyOf 112 = .ok (.getfield 27, 3) := by decide +kernel
theorem dX7_copyOf_115 : decode cX7_copyOf 115 = .ok (.iconst 0, 1) := by decide +kernel
theorem dX7_copyOf_116 : decode cX7_copyOf 116 = .ok (.aload_n 0, 1) := by decide +kernel
theorem dX7_copyOf_117 : decode cX7_copyOf 117 = .ok (.getfield 27, 3) := by decide +kernel
theorem dX7_copyOf_120 : decode cX7_copyOf 120 = .ok (.iconst 0, 1) := by decide +kernel
theorem dX7_copyOf_121 : decode cX7_copyOf 121 = .ok (.bipush 10, 2) := by decide +kernel
theorem dX7_copyOf_123 : decode cX7_copyOf 123 = .ok (.invokestatic 46, 3) := by decide +kernel
theorem dX7_copyOf_126 : decode cX7_copyOf 126 = .ok (.return_, 1) := by decide +kernel
theorem dX6_copyOf_0 : decode cX6_copyOf 0 = .ok (.aload_n 0, 1) := by decide +kernel
theorem dX6_copyOf_1 : decode cX6_copyOf 1 = .ok (.getfield 12, 3) := by decide +kernel
theorem dX6_copyOf_4 : decode cX6_copyOf 4 = .ok (.aload_n 1, 1) := by decide +kernel
theorem dX6_copyOf_5 : decode cX6_copyOf 5 = .ok (.getfield 12, 3) := by decide +kernel
theorem dX6_copyOf_8 : decode cX6_copyOf 8 = .ok (.invokevirtual 43, 3) := by decide +kernel
theorem dX6_copyOf_11 : decode cX6_copyOf 11 = .ok (.aload_n 0, 1) := by decide +kernel
theorem dX6_copyOf_12 : decode cX6_copyOf 12 = .ok (.getfield 21, 3) := by decide +kernel
theorem dX6_copyOf_15 : decode cX6_copyOf 15 = .ok (.aload_n 1, 1) := by decide +kernel
theorem dX6_copyOf_16 : decode cX6_copyOf 16 = .ok (.getfield 21, 3) := by decide +kernel
theorem dX6_copyOf_19 : decode cX6_copyOf 19 = .ok (.invokevirtual 47, 3) := by decide +kernel
theorem dX6_copyOf_22 : decode cX6_copyOf 22 = .ok (.aload_n 0, 1) := by decide +kernel
theorem dX6_copyOf_23 : decode cX6_copyOf 23 = .ok (.getfield 28, 3) := by decide +kernel
theorem dX6_copyOf_26 : decode cX6_copyOf 26 = .ok (.aload_n 1, 1) := by decide +kernel
theorem dX6_copyOf_27 : decode cX6_copyOf 27 = .ok (.getfield 28, 3) := by decide +kernel
theorem dX6_copyOf_30 : decode cX6_copyOf 30 = .ok (.invokevirtual 50, 3) := by decide +kernel
theorem dX6_copyOf_33 : decode cX6_copyOf 33 = .ok (.aload_n 0, 1) := by decide +kernel
theorem dX6_copyOf_34 : decode cX6_copyOf 34 = .ok (.aload_n 1, 1) := by decide +kernel
theorem dX6_copyOf_35 : decode cX6_copyOf 35 = .ok (.getfield 32, 3) := by decide +kernel
theorem dX6_copyOf_38 : decode cX6_copyOf 38 = .ok (.putfield 32, 3) := by decide +kernel
theorem dX6_copyOf_41 : decode cX6_copyOf 41 = .ok (.aload_n 0, 1) := by decide +kernel
theorem dX6_copyOf_42 : decode cX6_copyOf 42 = .ok (.aload_n 1, 1) := by decide +kernel
theorem dX6_copyOf_43 : decode cX6_copyOf 43 = .ok (.getfield 36, 3) := by decide +kernel
theorem dX6_copyOf_46 : decode cX6_copyOf 46 = .ok (.putfield 36, 3) := by decide +kernel
theorem dX6_copyOf_49 : decode cX6_copyOf 49 = .ok (.return_, 1) := by decide +kernel
theorem dX7_clear_0 : decode cX7_clear 0 = .ok (.aload_n 0, 1) := by decide +kernel
theorem dX7_clear_1 : decode cX7_clear 1 = .ok (.iconst 0, 1) := by decide +kernel
theorem dX7_clear_2 : decode cX7_clear 2 = .ok (.putfield 30, 3) := by decide +kernel
theorem dX7_clear_5 : decode cX7_clear 5 = .ok (.aload_n 0, 1) := by decide +kernel
theorem dX7_clear_6 : decode cX7_clear 6 = .ok (.iconst 0, 1) := by decide +kernel
theorem dX7_clear_7 : decode cX7_clear 7 = .ok (.putfield 34, 3) := by decide +kernel
theorem dX7_clear_10 : decode cX7_clear 10 = .ok (.aload_n 0, 1) := by decide +kernel
theorem dX7_clear_11 : decode cX7_clear 11 = .ok (.iconst 0, 1) := by decide +kernel
theorem dX7_clear_12 : decode cX7_clear 12 = .ok (.putfield 37, 3) := by decide +kernel
theorem dX7_clear_15 : decode cX7_clear 15 = .ok (.aload_n 0, 1) := by decide +kernel
theorem dX7_clear_16 : decode cX7_clear 16 = .ok (.iconst 0, 1) := by decide +kernel
theorem dX7_clear_17 : decode cX7_clear 17 = .ok (.putfield 40, 3) := by decide +kernel
theorem dX7_clear_20 : decode cX7_clear 20 = .ok (.aload_n 0, 1) := by decide +kernel
theorem dX7_clear_21 : decode cX7_clear 21 = .ok (.iconst 0, 1) := by decide +kernel
theorem dX7_clear_22 : decode cX7_clear 22 = .ok (.putfield 43, 3) := by decide +kernel
theorem dX7_clear_25 : decode cX7_clear 25 = .ok (.iconst 0, 1) := by decide +kernel
theorem dX7_clear_26 : decode cX7_clear 26 = .ok (.istore_n 1, 1) := by decide +kernel
theorem dX7_clear_27 : decode cX7_clear 27 = .ok (.iload_n 1, 1) := by decide +kernel
theorem dX7_clear_28 : decode cX7_clear 28 = .ok (.bipush 10, 2) := by decide +kernel
theorem dX7_clear_30 : decode cX7_clear 30 = .ok (.if_icmp .ge 23, 3) := by decide +kernel
theorem dX7_clear_33 : decode cX7_clear 33 = .ok (.aload_n 0, 1) := by decide +kernel
theorem dX7_clear_34 : decode cX7_clear 34 = .ok (.getfield 24, 3) := by decide +kernel
theorem dX7_clear_37 : decode cX7_clear 37 = .ok (.iload_n 1, 1) := by decide +kernel
theorem dX7_clear_38 : decode cX7_clear 38 = .ok (.iconst 0, 1) := by decide +kernel
theorem dX7_clear_39 : decode cX7_clear 39 = .ok (.iastore, 1) := by decide +kernel
theorem dX7_clear_40 : decode cX7_clear 40 = .ok (.aload_n 0, 1) := by decide +kernel
theorem dX7_clear_41 : decode cX7_clear 41 = .ok (.getfield 27, 3) := by decide +kernel
theorem dX7_clear_44 : decode cX7_clear 44 = .ok (.iload_n 1, 1) := by decide +kernel
theorem dX7_clear_45 : decode cX7_clear 45 = .ok (.iconst 0, 1) := by decide +kernel
theorem dX7_clear_46 : decode cX7_clear 46 = .ok (.iastore, 1) := by decide +kernel
theorem dX7_clear_47 : decode cX7_clear 47 = .ok (.iinc 1 1, 3) := by decide +kernel
theorem dX7_clear_50 : decode cX7_clear 50 = .ok (.goto (-23), 3) := by decide +kernel
theorem dX7_clear_53 : decode cX7_clear 53 = .ok (.return_, 1) := by decide +kernel
theorem dX7_isTold_0 : decode cX7_isTold 0 = .ok (.aload_n 0, 1) := by decide +kernel
theorem dX7_isTold_1 : decode cX7_isTold 1 = .ok (.getfield 30, 3) := by decide +kernel
theorem dX7_isTold_4 : decode cX7_isTold 4 = .ok (.ifCond .le 7, 3) := by decide +kernel
theorem dX7_isTold_7 : decode cX7_isTold 7 = .ok (.iconst 1, 1) := by decide +kernel
theorem dX7_isTold_8 : decode cX7_isTold 8 = .ok (.goto 4, 3) := by decide +kernel
theorem dX7_isTold_11 : decode cX7_isTold 11 = .ok (.iconst 0, 1) := by decide +kernel
theorem dX7_isTold_12 : decode cX7_isTold 12 = .ok (.ireturn, 1) := by decide +kernel
theorem dX7_isPerson_0 : decode cX7_isPerson 0 = .ok (.iload_n 1, 1) := by decide +kernel
theorem dX7_isPerson_1 : decode cX7_isPerson 1 = .ok (.ifCond .lt 20, 3) := by decide +kernel
theorem dX7_isPerson_4 : decode cX7_isPerson 4 = .ok (.iload_n 1, 1) := by decide +kernel
theorem dX7_isPerson_5 : decode cX7_isPerson 5 = .ok (.aload_n 0, 1) := by decide +kernel
theorem dX7_isPerson_6 : decode cX7_isPerson 6 = .ok (.getfield 34, 3) := by decide +kernel
theorem dX7_isPerson_9 : decode cX7_isPerson 9 = .ok (.if_icmp .ge 12, 3) := by decide +kernel
theorem dX7_isPerson_12 : decode cX7_isPerson 12 = .ok (.iload_n 1, 1) := by decide +kernel
theorem dX7_isPerson_13 : decode cX7_isPerson 13 = .ok (.iconst 5, 1) := by decide +kernel
theorem dX7_isPerson_14 : decode cX7_isPerson 14 = .ok (.if_icmp .ge 7, 3) := by decide +kernel
theorem dX7_isPerson_17 : decode cX7_isPerson 17 = .ok (.iconst 1, 1) := by decide +kernel
theorem dX7_isPerson_18 : decode cX7_isPerson 18 = .ok (.goto 4, 3) := by decide +kernel
theorem dX7_isPerson_21 : decode cX7_isPerson 21 = .ok (.iconst 0, 1) := by decide +kernel
theorem dX7_isPerson_22 : decode cX7_isPerson 22 = .ok (.ireturn, 1) := by decide +kernel
theorem dX7_isLamp_0 : decode cX7_isLamp 0 = .ok (.iload_n 1, 1) := by decide +kernel
theorem dX7_isLamp_1 : decode cX7_isLamp 1 = .ok (.ifCond .lt 20, 3) := by decide +kernel
theorem dX7_isLamp_4 : decode cX7_isLamp 4 = .ok (.iload_n 1, 1) := by decide +kernel
theorem dX7_isLamp_5 : decode cX7_isLamp 5 = .ok (.aload_n 0, 1) := by decide +kernel
theorem dX7_isLamp_6 : decode cX7_isLamp 6 = .ok (.getfield 40, 3) := by decide +kernel
theorem dX7_isLamp_9 : decode cX7_isLamp 9 = .ok (.if_icmp .ge 12, 3) := by decide +kernel
theorem dX7_isLamp_12 : decode cX7_isLamp 12 = .ok (.iload_n 1, 1) := by decide +kernel
theorem dX7_isLamp_13 : decode cX7_isLamp 13 = .ok (.iconst 5, 1) := by decide +kernel
theorem dX7_isLamp_14 : decode cX7_isLamp 14 = .ok (.if_icmp .ge 7, 3) := by decide +kernel
theorem dX7_isLamp_17 : decode cX7_isLamp 17 = .ok (.iconst 1, 1) := by decide +kernel
theorem dX7_isLamp_18 : decode cX7_isLamp 18 = .ok (.goto 4, 3) := by decide +kernel
theorem dX7_isLamp_21 : decode cX7_isLamp 21 = .ok (.iconst 0, 1) := by decide +kernel
theorem dX7_isLamp_22 : decode cX7_isLamp 22 = .ok (.ireturn, 1) := by decide +kernel
set_option maxRecDepth 20000 in
def gX3_draw_77 (N : Nat)  (rec17 : Nat → Nat → Int32 → Int32 → Int64 → Int32 → SG → Option (Int32 × SG)) (x1 : Nat) (x2 : Nat) (x4 : Int32) (x5 : Int32) (x6 : Int64) (x8 : Int32) (s0 : Nat) (s1 : Int32) (s2 : Int32) (u : SG) : Option (Int32 × SG) := cl (fX3_setAsleep N s0 s1 s2 u) fun r1 u2 => (rec17 x1 x2 x4 x5 x6 (x8 + (1 : Int32)) u2)
set_option maxRecDepth 20000 in
set_option maxHeartbeats 4000000 in
theorem jgX3_draw_77 {rec17 : Nat → Nat → Int32 → Int32 → Int64 → Int32 → SG → Option (Int32 × SG)}  {X : XT} (hX : Cx X yX3_draw cX3_draw 9 (some .int) 2 0 0) (N : Nat) (hrec17 : ∀ (x1 : Nat) (x2 : Nat) (x4 : Int32) (x5 : Int32) (x6 : Int64) (x8 : Int32)  (u : SG), JF X True 9 0 0 (jQ X vI 0 0) 17 [(1, .ref x1), (2, .ref x2), (4, .int x4), (5, .int x5), (6, .long x6), (8, .int x8)] [] u (rec17 x1 x2 x4 x5 x6 x8  u)) (x1 : Nat) (x2 : Nat) (x4 : Int32) (x5 : Int32) (x6 : Int64) (x8 : Int32) (s0 : Nat) (s1 : Int32) (s2 : Int32) (u : SG) : JF X True 9 0 0 (jQ X vI 0 0) 77 [(1, .ref x1), (2, .ref x2), (4, .int x4), (5, .int x5), (6, .long x6), (8, .int x8)] [.int s2, .int s1, .ref s0] u (gX3_draw_77 N  rec17 x1 x2 x4 x5 x6 x8 s0 s1 s2 u) := by
  unfold gX3_draw_77
  refine jf_callS (As := [.ref s0, .int s1, .int s2]) (st := []) hX mo_X3_setAsleep wml_455 wstat_456 rfl (fun l D cT z0 ks => kX3_setAsleep N l D cT z0 ks s0 s1 s2 u) (by decide) (by decide) (by decide) (by decide) (Nat.le_of_ble_eq_true rfl) rfl rfl dX3_draw_77 (fun r1 u2 => ?_)
  refine jf_iinc (v := 1) (lv' := [(8, .int (x8 + (1 : Int32))), (1, .ref x1), (2, .ref x2), (4, .int x4), (5, .int x5), (6, .long x6)]) hX dX3_draw_80 5 rfl (by decide) (by decide) rfl ?_
  refine jf_goto (tgt := 17) hX dX3_draw_83 (by decide) ?_
  refine jf_lv [1, 2, 3, 4, 5, 0] rfl ?_
  exact hrec17 x1 x2 x4 x5 x6 (x8 + (1 : Int32)) u2
set_option maxRecDepth 20000 in
def gX3_draw_17 (N : Nat)   : Nat → Nat → Nat → Int32 → Int32 → Int64 → Int32 → SG → Option (Int32 × SG)
  | 0, _, _, _, _, _, _, _ => none
  | n + 1, x1, x2, x4, x5, x6, x8, u => if zK u x1 = 8 then (if (zI u x1 7) ≤ x8 then (some (x6.toInt32, u))
  else (cl (fX10_bitOf N x5 x8 u) fun r1 u2 => (if r1 = 0 then (bs (((x6 * (1103515245 : Int64)) + (12345 : Int64)) &&& (2147483647 : Int64)) fun v3 => (if (65536 : Int64) = 0 then none else (if (100 : Int64) = 0 then none else (if 0 ≤ (lg_cmp ((v3 / (65536 : Int64)) - (v3 / (65536 : Int64)) / (100 : Int64) * (100 : Int64)) x4.toInt64) then (gX3_draw_77 N (gX3_draw_17 N  n) x1 x2 x4 x5 v3 x8 x2 x8 (0 : Int32) u2)
  else (gX3_draw_77 N (gX3_draw_17 N  n) x1 x2 x4 x5 v3 x8 x2 x8 (1 : Int32) u2)))))
  else ((gX3_draw_17 N  n) x1 x2 x4 x5 x6 (x8 + (1 : Int32)) u2)))) else none
set_option maxRecDepth 20000 in
set_option maxHeartbeats 4000000 in
theorem jgX3_draw_17   {X : XT} (hX : Cx X yX3_draw cX3_draw 9 (some .int) 2 0 0) (N : Nat)  : ∀ (n : Nat) (x1 : Nat) (x2 : Nat) (x4 : Int32) (x5 : Int32) (x6 : Int64) (x8 : Int32) (u : SG), JF X True 9 0 0 (jQ X vI 0 0) 17 [(1, .ref x1), (2, .ref x2), (4, .int x4), (5, .int x5), (6, .long x6), (8, .int x8)] [] u (gX3_draw_17 N   n x1 x2 x4 x5 x6 x8 u) := by
  intro n
  induction n with
  | zero => intros; intro r u9 h9; exact absurd h9 (by simp [gX3_draw_17])
  | succ n ih =>
    intro x1 x2 x4 x5 x6 x8 u
    have hrec17 := ih
    rw [gX3_draw_17]
    refine jf_iload hX dX3_draw_17 5 rfl ?_
    refine jf_aload_n hX dX3_draw_19 0 rfl ?_
    refine jf_getI hX ck_X7 7 wfl_439 (by decide) rfl dX3_draw_20 ?_
    refine jf_icmp_ge (tgt := 86) hX dX3_draw_23 (by decide) ?_ ?_
    · refine jf_lload hX dX3_draw_86 4 rfl ?_
      refine jf_l2i hX dX3_draw_88 ?_
      exact jf_iret hX rfl (by decide) (by decide) dX3_draw_89
    · refine jf_iload hX dX3_draw_26 3 rfl ?_
      refine jf_iload hX dX3_draw_28 5 rfl ?_
      refine jf_callSN (As := [.int x5, .int x8]) (st := []) hX mo_X10_bitOf wnest_421 wstat_383 rfl (fun l D cT z0 ks => kX10_bitOf N l D cT z0 ks x5 x8 u) (by decide) (by decide) (by decide) (by decide) (Nat.le_of_ble_eq_true rfl) rfl rfl dX3_draw_30 (fun r1 u2 => ?_)
      refine jf_if_ne (tgt := 80) hX dX3_draw_33 (by decide) ?_ ?_
      · refine jf_iinc (v := 1) (lv' := [(8, .int (x8 + (1 : Int32))), (1, .ref x1), (2, .ref x2), (4, .int x4), (5, .int x5), (6, .long x6)]) hX dX3_draw_80 5 rfl (by decide) (by decide) rfl ?_
        refine jf_goto (tgt := 17) hX dX3_draw_83 (by decide) ?_
        refine jf_lv [1, 2, 3, 4, 5, 0] rfl ?_
        exact hrec17 x1 x2 x4 x5 x6 (x8 + (1 : Int32)) u2
      · refine jf_lload hX dX3_draw_36 4 rfl ?_
        refine jf_ldc2 (v := 1103515245) hX dX3_draw_38 wconl_457 ?_
        refine jf_lmul hX dX3_draw_41 ?_
        refine jf_ldc2 (v := 12345) hX dX3_draw_42 wconl_458 ?_
        refine jf_ladd hX dX3_draw_45 ?_
        refine jf_ldc2 (v := 2147483647) hX dX3_draw_46 wconl_459 ?_
        refine jf_land hX dX3_draw_49 ?_
        refine jf_nmL (fun v3 => ?_)
        refine jf_lstore (lv' := [(6, .long v3), (1, .ref x1), (2, .ref x2), (4, .int x4), (5, .int x5), (8, .int x8)]) hX dX3_draw_50 (by decide) rfl ?_
        refine jf_aload_n hX dX3_draw_52 2 rfl ?_
        refine jf_iload hX dX3_draw_53 5 rfl ?_
        refine jf_lload hX dX3_draw_55 0 rfl ?_
        refine jf_ldc2 (v := 65536) hX dX3_draw_57 wconl_460 ?_
        refine jf_ldiv hX dX3_draw_60 ?_
        refine jf_ldc2 (v := 100) hX dX3_draw_61 wconl_461 ?_
        refine jf_lrem hX dX3_draw_64 ?_
        refine jf_iload hX dX3_draw_65 3 rfl ?_
        refine jf_i2l hX dX3_draw_67 ?_
        refine jf_lcmp hX dX3_draw_68 ?_
        refine jf_if_ge (tgt := 76) hX dX3_draw_69 (by decide) ?_ ?_
        · refine jf_iconst (v := 0) hX dX3_draw_76 (by decide) ?_
          refine jf_lv [1, 2, 3, 4, 0, 5] rfl ?_
          exact jgX3_draw_77 hX N hrec17 x1 x2 x4 x5 v3 x8 x2 x8 (0 : Int32) u2
        · refine jf_iconst (v := 1) hX dX3_draw_72 (by decide) ?_
          refine jf_goto (tgt := 77) hX dX3_draw_73 (by decide) ?_
          refine jf_lv [1, 2, 3, 4, 0, 5] rfl ?_
          exact jgX3_draw_77 hX N hrec17 x1 x2 x4 x5 v3 x8 x2 x8 (1 : Int32) u2
set_option maxRecDepth 20000 in
def fX3_draw (N : Nat)  (a0 : Nat) (p1 : Nat) (p2 : Nat) (p3 : Int32) (p4 : Int32) (u : SG) : Option (Int32 × SG) := if zK u p2 = 3 then (if zK u p1 = 8 then cl (fX7_workersAt N p1 (zI u p2 0) u) fun r1 u2 => (bs (p3.toInt64) fun v3 => (gX3_draw_17 N  N p1 p2 p4 r1 v3 (0 : Int32) u2)) else none) else none
set_option maxRecDepth 20000 in
set_option maxHeartbeats 4000000 in
theorem kX3_draw  (N : Nat)  (l : Launch) (D : va_G) (cT : Nat → ClassId) (z0 : Nat) (ks : Nat × Nat) (a0 : Nat) (p1 : Nat) (p2 : Nat) (p3 : Int32) (p4 : Int32) (u : SG) : Ct l D cT z0 ks yX3_draw cX3_draw 9 (some .int) 2 0 0 vI [.ref a0, .ref p1, .ref p2, .int p3, .int p4] u (fX3_draw N  a0 p1 p2 p3 p4 u) := by
  unfold fX3_draw
  refine ct_of (by decide +kernel) (Nat.le_of_ble_eq_true rfl) (fun p e R s m args below meth c hX => ?_)
  show JF _ True 9 0 0 _ 0 [(0, .ref a0), (1, .ref p1), (2, .ref p2), (3, .int p3), (4, .int p4)] [] u _
  refine jf_aload_n hX dX3_draw_0 1 rfl ?_
  refine jf_aload_n hX dX3_draw_1 2 rfl ?_
  refine jf_getI hX ck_X2 0 wfl_407 (by decide) rfl dX3_draw_2 ?_
  refine jf_callV (As := [.int (zI u p2 0)]) (st := []) hX mo_X7_workersAt wml_443 winst_444 wsel_445 7 ck_X7 rfl (fun l D cT z0 ks => kX7_workersAt N l D cT z0 ks p1 (zI u p2 0) u) (by decide) (by decide) (by decide) (by decide) (Nat.le_of_ble_eq_true rfl) rfl rfl dX3_draw_5 (fun r1 u2 => ?_)
  refine jf_istore (lv' := [(5, .int r1), (0, .ref a0), (1, .ref p1), (2, .ref p2), (3, .int p3), (4, .int p4)]) hX dX3_draw_8 (by decide) rfl ?_
  refine jf_iload_n hX dX3_draw_10 4 rfl ?_
  refine jf_i2l hX dX3_draw_11 ?_
  refine jf_nmL (fun v3 => ?_)
  refine jf_lstore (lv' := [(6, .long v3), (5, .int r1), (0, .ref a0), (1, .ref p1), (2, .ref p2), (3, .int p3), (4, .int p4)]) hX dX3_draw_12 (by decide) rfl ?_
  refine jf_iconst (v := 0) hX dX3_draw_14 (by decide) ?_
  refine jf_istore (lv' := [(8, .int (0 : Int32)), (6, .long v3), (5, .int r1), (0, .ref a0), (1, .ref p1), (2, .ref p2), (3, .int p3), (4, .int p4)]) hX dX3_draw_15 (by decide) rfl ?_
  refine jf_lv [4, 5, 7, 2, 1, 0] rfl ?_
  exact jgX3_draw_17 hX N  N p1 p2 p4 r1 v3 (0 : Int32) u2
set_option maxRecDepth 20000 in
def fX7_everyone (N : Nat)  (a0 : Nat) (u : SG) : Option (Int32 × SG) := if zK u a0 = 8 then (some (((1 : Int32) <<< ((zI u a0 7) &&& 31)) - (1 : Int32), u)) else none
set_option maxRecDepth 20000 in
set_option maxHeartbeats 4000000 in
theorem kX7_everyone  (N : Nat)  (l : Launch) (D : va_G) (cT : Nat → ClassId) (z0 : Nat) (ks : Nat × Nat) (a0 : Nat) (u : SG) : Ct l D cT z0 ks yX7_everyone cX7_everyone 1 (some .int) 1 0 0 vI [.ref a0] u (fX7_everyone N  a0 u) := by
  unfold fX7_everyone
  refine ct_of (by decide +kernel) (Nat.le_of_ble_eq_true rfl) (fun p e R s m args below meth c hX => ?_)
  show JF _ True 1 0 0 _ 0 [(0, .ref a0)] [] u _
  refine jf_iconst (v := 1) hX dX7_everyone_0 (by decide) ?_
  refine jf_aload_n hX dX7_everyone_1 0 rfl ?_
  refine jf_getI hX ck_X7 7 wfl_462 (by decide) rfl dX7_everyone_2 ?_
  refine jf_ishl hX dX7_everyone_5 ?_
  refine jf_iconst (v := 1) hX dX7_everyone_6 (by decide) ?_
  refine jf_isub hX dX7_everyone_7 ?_
  exact jf_iret hX rfl (by decide) (by decide) dX7_everyone_8
set_option maxRecDepth 20000 in
def fX3_shareIfWakingPaid (N : Nat)  (a0 : Nat) (p1 : Nat) (p2 : Int32) (u : SG) : Option (Int64 × SG) := if zK u p1 = 8 then cl (fX7_everyone N p1 u) fun r1 u2 => (if zK u2 a0 = 4 then (if zK u2 a0 = 4 then cl (fX3_shareAmong N a0 (r1 &&& ((zI u2 a0 2) ^^^ (-1 : Int32))) p2 u2) fun r3 u4 => (some (r3, u4)) else none) else none) else none
set_option maxRecDepth 20000 in
set_option maxHeartbeats 4000000 in
theorem kX3_shareIfWakingPaid  (N : Nat)  (l : Launch) (D : va_G) (cT : Nat → ClassId) (z0 : Nat) (ks : Nat × Nat) (a0 : Nat) (p1 : Nat) (p2 : Int32) (u : SG) : Ct l D cT z0 ks yX3_shareIfWakingPaid cX3_shareIfWakingPaid 3 (some .long) 3 0 0 vL [.ref a0, .ref p1, .int p2] u (fX3_shareIfWakingPaid N  a0 p1 p2 u) := by
  unfold fX3_shareIfWakingPaid
  refine ct_of (by decide +kernel) (Nat.le_of_ble_eq_true rfl) (fun p e R s m args below meth c hX => ?_)
  show JF _ True 3 0 0 _ 0 [(0, .ref a0), (1, .ref p1), (2, .int p2)] [] u _
  refine jf_aload_n hX dX3_shareIfWakingPaid_0 0 rfl ?_
  refine jf_aload_n hX dX3_shareIfWakingPaid_1 1 rfl ?_
  refine jf_callV (As := []) (st := [.ref a0]) hX mo_X7_everyone wml_463 winst_464 wsel_465 7 ck_X7 rfl (fun l D cT z0 ks => kX7_everyone N l D cT z0 ks p1 u) (by decide) (by decide) (by decide) (by decide) (Nat.le_of_ble_eq_true rfl) rfl rfl dX3_shareIfWakingPaid_2 (fun r1 u2 => ?_)
  refine jf_aload_n hX dX3_shareIfWakingPaid_5 0 rfl ?_
  refine jf_getI hX ck_X3 2 wfl_400 (by decide) rfl dX3_shareIfWakingPaid_6 ?_
  refine jf_iconst (v := -1) hX dX3_shareIfWakingPaid_9 (by decide) ?_
  refine jf_ixor hX dX3_shareIfWakingPaid_10 ?_
  refine jf_iand hX dX3_shareIfWakingPaid_11 ?_
  refine jf_iload_n hX dX3_shareIfWakingPaid_12 2 rfl ?_
  refine jf_callV (As := [.int (r1 &&& ((zI u2 a0 2) ^^^ (-1 : Int32))), .int p2]) (st := []) hX mo_X3_shareAmong wml_440 winst_441 wsel_442 3 ck_X3 rfl (fun l D cT z0 ks => kX3_shareAmong N l D cT z0 ks a0 (r1 &&& ((zI u2 a0 2) ^^^ (-1 : Int32))) p2 u2) (by decide) (by decide) (by decide) (by decide) (Nat.le_of_ble_eq_true rfl) rfl rfl dX3_shareIfWakingPaid_13 (fun r3 u4 => ?_)
  exact jf_lret hX rfl (by decide) (by decide) dX3_shareIfWakingPaid_16
set_option maxRecDepth 20000 in
def fX4_init (N : Nat)  (a0 : Nat) (p1 : Nat) (p2 : Int32) (u : SG) : Option (Unit × SG) := if zK u p1 = 22 then (cl (fJ9_min_7cf53 N p2 (nI (zN u p1)) u) fun r1 u2 => (cl (fJ9_max_7cf53 N (0 : Int32) r1 u2) fun r3 u4 => (if r3 < 0 ∨ 412 < r3.toNatClampNeg then none else nw u4 (sNew u4 22 r3.toNatClampNeg) fun q5 u6 => (if zK u6 a0 = 5 then bs (sR u6 a0 0 (some q5)) fun u7 => (if zK u7 a0 = 5 then (Option.bind (zR u7 a0 0) fun q8 => (if zK u7 p1 = 22 then if zK u7 q8 = 22 then if (0 : Int32) < 0 ∨ (0 : Int32) < 0 ∨ r3 < 0 ∨ zN u7 p1 < (0 : Int32).toNatClampNeg + r3.toNatClampNeg ∨ zN u7 q8 < (0 : Int32).toNatClampNeg + r3.toNatClampNeg then none else bs (sIr u7 q8 (va_cpy (zI u7 p1) (zI u7 q8) (0 : Int32).toNatClampNeg (0 : Int32).toNatClampNeg r3.toNatClampNeg)) fun u9 => (some ((), u9)) else none else none)) else none) else none)))) else none
set_option maxRecDepth 20000 in
set_option maxHeartbeats 4000000 in
theorem kX4_init  (N : Nat)  (l : Launch) (D : va_G) (cT : Nat → ClassId) (z0 : Nat) (ks : Nat × Nat) (a0 : Nat) (p1 : Nat) (p2 : Int32) (u : SG) : Ct l D cT z0 ks yX4_init cX4_init 4 none 2 1 412 vU [.ref a0, .ref p1, .int p2] u (fX4_init N  a0 p1 p2 u) := by
  unfold fX4_init
  refine ct_of (by decide +kernel) (Nat.le_of_ble_eq_true rfl) (fun p e R s m args below meth c hX => ?_)
  show JF _ True 4 0 0 _ 0 [(0, .ref a0), (1, .ref p1), (2, .int p2)] [] u _
  refine jf_aload_n hX dX4_init_0 0 rfl ?_
  refine jf_objInit hX wml_466 winst_17 wcode_18 (by decide) (Nat.le_of_ble_eq_true rfl) dX4_init_1 ?_
  refine jf_iconst (v := 0) hX dX4_init_4 (by decide) ?_
  refine jf_iload_n hX dX4_init_5 2 rfl ?_
  refine jf_aload_n hX dX4_init_6 1 rfl ?_
  refine jf_alen hX 22 1 (by decide) (fun _ => rfl) dX4_init_7 ?_
  refine jf_callS (As := [.int p2, .int (nI (zN u p1))]) (st := [.int (0 : Int32)]) hX mo_J9_min_7cf53 wml_467 wstat_367 rfl (fun l D cT z0 ks => kJ9_min_7cf53 N l D cT z0 ks p2 (nI (zN u p1)) u) (by decide) (by decide) (by decide) (by decide) (Nat.le_of_ble_eq_true rfl) rfl rfl dX4_init_8 (fun r1 u2 => ?_)
  refine jf_callS (As := [.int (0 : Int32), .int r1]) (st := []) hX mo_J9_max_7cf53 wml_468 wstat_396 rfl (fun l D cT z0 ks => kJ9_max_7cf53 N l D cT z0 ks (0 : Int32) r1 u2) (by decide) (by decide) (by decide) (by decide) (Nat.le_of_ble_eq_true rfl) rfl rfl dX4_init_11 (fun r3 u4 => ?_)
  refine jf_istore_n (lv' := [(3, .int r3), (0, .ref a0), (1, .ref p1), (2, .int p2)]) hX dX4_init_14 rfl (by decide) rfl ?_
  refine jf_aload_n hX dX4_init_15 1 rfl ?_
  refine jf_iload_n hX dX4_init_16 0 rfl ?_
  refine jf_newaI hX trivial warrc_21 412 (by decide) (by decide) (by decide) dX4_init_17 (fun q5 u6 => ?_)
  refine jf_putRF (v := some q5) hX trivial ck_X4 0 wfl_469 (by decide) rfl rfl rfl rfl rfl dX4_init_19 (fun u7 => ?_)
  refine jf_aload_n hX dX4_init_22 2 rfl ?_
  refine jf_iconst (v := 0) hX dX4_init_23 (by decide) ?_
  refine jf_aload_n hX dX4_init_24 1 rfl ?_
  refine jf_getR hX ck_X4 0 wfl_469 (by decide) rfl dX4_init_25 ?_
  refine jf_nn (fun q8 => ?_)
  refine jf_iconst (v := 0) hX dX4_init_28 (by decide) ?_
  refine jf_iload_n hX dX4_init_29 0 rfl ?_
  refine jf_cpyi hX trivial wml_470 wnative_360 wstat_361 wini_362 (by decide) (Nat.le_of_ble_eq_true rfl) dX4_init_30 (fun u9 => ?_)
  exact jf_vret hX rfl (by decide) (by decide) dX4_init_33
set_option maxRecDepth 20000 in
def fX5_init (N : Nat)  (a0 : Nat) (p1 : Nat) (u : SG) : Option (Unit × SG) := if (412 : Int32) < 0 ∨ 412 < (412 : Int32).toNatClampNeg then none else nw u (sNew u 22 (412 : Int32).toNatClampNeg) fun q1 u2 => (if zK u2 a0 = 6 then bs (sR u2 a0 1 (some q1)) fun u3 => (if zK u3 a0 = 6 then bs (sI u3 a0 2 (0 : Int32)) fun u4 => (if zK u4 a0 = 6 then bs (sI u4 a0 3 (0 : Int32)) fun u5 => (if zK u5 a0 = 6 then bs (sR u5 a0 0 (some p1)) fun u6 => (some ((), u6)) else none) else none) else none) else none)
set_option maxRecDepth 20000 in
set_option maxHeartbeats 4000000 in
theorem kX5_init  (N : Nat)  (l : Launch) (D : va_G) (cT : Nat → ClassId) (z0 : Nat) (ks : Nat × Nat) (a0 : Nat) (p1 : Nat) (u : SG) : Ct l D cT z0 ks yX5_init cX5_init 2 none 1 1 412 vU [.ref a0, .ref p1] u (fX5_init N  a0 p1 u) := by
  unfold fX5_init
  refine ct_of (by decide +kernel) (Nat.le_of_ble_eq_true rfl) (fun p e R s m args below meth c hX => ?_)
  show JF _ True 2 0 0 _ 0 [(0, .ref a0), (1, .ref p1)] [] u _
  refine jf_aload_n hX dX5_init_0 0 rfl ?_
  refine jf_objInit hX wml_471 winst_17 wcode_18 (by decide) (Nat.le_of_ble_eq_true rfl) dX5_init_1 ?_
  refine jf_aload_n hX dX5_init_4 0 rfl ?_
  refine jf_sipush (v := 412) hX dX5_init_5 (by decide) ?_
  refine jf_newaI hX trivial warrc_21 412 (by decide) (by decide) (by decide) dX5_init_8 (fun q1 u2 => ?_)
  refine jf_putRF (v := some q1) hX trivial ck_X5 1 wfl_472 (by decide) rfl rfl rfl rfl rfl dX5_init_10 (fun u3 => ?_)
  refine jf_aload_n hX dX5_init_13 0 rfl ?_
  refine jf_iconst (v := 0) hX dX5_init_14 (by decide) ?_
  refine jf_putI hX trivial ck_X5 2 wfl_473 (by decide) rfl rfl rfl dX5_init_15 (fun u4 => ?_)
  refine jf_aload_n hX dX5_init_18 0 rfl ?_
  refine jf_iconst (v := 0) hX dX5_init_19 (by decide) ?_
  refine jf_putI hX trivial ck_X5 3 wfl_474 (by decide) rfl rfl rfl dX5_init_20 (fun u5 => ?_)
  refine jf_aload_n hX dX5_init_23 0 rfl ?_
  refine jf_aload_n hX dX5_init_24 1 rfl ?_
  refine jf_putRF (v := some p1) hX trivial ck_X5 0 wfl_475 (by decide) rfl rfl rfl rfl rfl dX5_init_25 (fun u6 => ?_)
  exact jf_vret hX rfl (by decide) (by decide) dX5_init_28
set_option maxRecDepth 20000 in
def fX5_made (N : Nat)  (a0 : Nat) (u : SG) : Option (Option Nat × SG) := nw u (sNew u 5 0) fun q1 u2 => (if zK u2 a0 = 6 then (Option.bind (zR u2 a0 1) fun q3 => (if zK u2 a0 = 6 then (cla (u2.1 + 1) (fX4_init N q1 q3 (zI u2 a0 2) u2) fun r4 u5 => (some (some q1, u5))) else none)) else none)
set_option maxRecDepth 20000 in
set_option maxHeartbeats 4000000 in
theorem kX5_made  (N : Nat)  (l : Launch) (D : va_G) (cT : Nat → ClassId) (z0 : Nat) (ks : Nat × Nat) (a0 : Nat) (u : SG) : Ct l D cT z0 ks yX5_made cX5_made 1 (some (.object "SleepersPay$Rule")) 3 2 413 vR [.ref a0] u (fX5_made N  a0 u) := by
  unfold fX5_made
  refine ct_of (by decide +kernel) (Nat.le_of_ble_eq_true rfl) (fun p e R s m args below meth c hX => ?_)
  show JF _ True 1 0 0 _ 0 [(0, .ref a0)] [] u _
  refine jf_new hX trivial 4 ck_X4 df_X4 wclk_476 winsta_477 wini_478 (by decide) (by decide) dX5_made_0 (fun q1 u2 => ?_)
  refine jf_dup hX dX5_made_3 rfl ?_
  refine jf_aload_n hX dX5_made_4 0 rfl ?_
  refine jf_getR hX ck_X5 1 wfl_472 (by decide) rfl dX5_made_5 ?_
  refine jf_nn (fun q3 => ?_)
  refine jf_aload_n hX dX5_made_8 0 rfl ?_
  refine jf_getI hX ck_X5 2 wfl_473 (by decide) rfl dX5_made_9 ?_
  refine jf_callI (As := [.ref q3, .int (zI u2 a0 2)]) (st := [.ref q1]) hX mo_X4_init wml_479 winst_480 rfl rfl rfl (fun l D cT z0 ks => kX4_init N l D cT z0 ks q1 q3 (zI u2 a0 2) u2) (by decide) (by decide) (by decide) (by decide) (Nat.le_of_ble_eq_true rfl) rfl dX5_made_12 (fun r4 u5 => ?_)
  exact jf_aret (v := some q1) hX rfl (by decide) (by decide) dX5_made_15
set_option maxRecDepth 20000 in
def fX9_byteAt (N : Nat)  (a0 : Nat) (p1 : Int32) (u : SG) : Option (Int32 × SG) := if p1 < 0 then (some ((-1 : Int32), u))
  else (if zK u a0 = 10 then (if (zI u a0 1) ≤ p1 then (some ((-1 : Int32), u))
  else (if (400 : Int32) ≤ p1 then (some ((-1 : Int32), u))
  else (if zK u a0 = 10 then (Option.bind (zR u a0 0) fun q1 => (if zK u q1 = 21 then if p1 < 0 ∨ zN u q1 ≤ p1.toNatClampNeg then none else (some ((zI u q1 p1.toNatClampNeg) &&& (255 : Int32), u)) else none)) else none))) else none)
set_option maxRecDepth 20000 in
set_option maxHeartbeats 4000000 in
theorem kX9_byteAt  (N : Nat)  (l : Launch) (D : va_G) (cT : Nat → ClassId) (z0 : Nat) (ks : Nat × Nat) (a0 : Nat) (p1 : Int32) (u : SG) : Ct l D cT z0 ks yX9_byteAt cX9_byteAt 2 (some .int) 1 0 0 vI [.ref a0, .int p1] u (fX9_byteAt N  a0 p1 u) := by
  unfold fX9_byteAt
  refine ct_of (by decide +kernel) (Nat.le_of_ble_eq_true rfl) (fun p e R s m args below meth c hX => ?_)
  show JF _ True 2 0 0 _ 0 [(0, .ref a0), (1, .int p1)] [] u _
  refine jf_iload_n hX dX9_byteAt_0 1 rfl ?_
  refine jf_if_lt (tgt := 32) hX dX9_byteAt_1 (by decide) ?_ ?_
  · refine jf_iconst (v := -1) hX dX9_byteAt_32 (by decide) ?_
    exact jf_iret hX rfl (by decide) (by decide) dX9_byteAt_33
  · refine jf_iload_n hX dX9_byteAt_4 1 rfl ?_
    refine jf_aload_n hX dX9_byteAt_5 0 rfl ?_
    refine jf_getI hX ck_X9 1 wfl_481 (by decide) rfl dX9_byteAt_6 ?_
    refine jf_icmp_ge (tgt := 32) hX dX9_byteAt_9 (by decide) ?_ ?_
    · refine jf_iconst (v := -1) hX dX9_byteAt_32 (by decide) ?_
      exact jf_iret hX rfl (by decide) (by decide) dX9_byteAt_33
    · refine jf_iload_n hX dX9_byteAt_12 1 rfl ?_
      refine jf_sipush (v := 400) hX dX9_byteAt_13 (by decide) ?_
      refine jf_icmp_ge (tgt := 32) hX dX9_byteAt_16 (by decide) ?_ ?_
      · refine jf_iconst (v := -1) hX dX9_byteAt_32 (by decide) ?_
        exact jf_iret hX rfl (by decide) (by decide) dX9_byteAt_33
      · refine jf_aload_n hX dX9_byteAt_19 0 rfl ?_
        refine jf_getR hX ck_X9 0 wfl_482 (by decide) rfl dX9_byteAt_20 ?_
        refine jf_nn (fun q1 => ?_)
        refine jf_iload_n hX dX9_byteAt_23 1 rfl ?_
        refine jf_bald hX dX9_byteAt_24 ?_
        refine jf_sipush (v := 255) hX dX9_byteAt_25 (by decide) ?_
        refine jf_iand hX dX9_byteAt_28 ?_
        refine jf_goto (tgt := 33) hX dX9_byteAt_29 (by decide) ?_
        exact jf_iret hX rfl (by decide) (by decide) dX9_byteAt_33
set_option maxRecDepth 20000 in
def fX9_isDigit (N : Nat)  (p1 : Int32) (u : SG) : Option (Int32 × SG) := if p1 < (48 : Int32) then (some ((0 : Int32), u))
  else (if (57 : Int32) < p1 then (some ((0 : Int32), u))
  else (some ((1 : Int32), u)))
set_option maxRecDepth 20000 in
set_option maxHeartbeats 4000000 in
theorem kX9_isDigit  (N : Nat)  (l : Launch) (D : va_G) (cT : Nat → ClassId) (z0 : Nat) (ks : Nat × Nat) (p1 : Int32) (u : SG) : Ct l D cT z0 ks yX9_isDigit cX9_isDigit 1 (some .boolean) 1 0 0 vI [.int p1] u (fX9_isDigit N  p1 u) := by
  unfold fX9_isDigit
  refine ct_of (by decide +kernel) (Nat.le_of_ble_eq_true rfl) (fun p e R s m args below meth c hX => ?_)
  show JF _ True 1 0 0 _ 0 [(0, .int p1)] [] u _
  refine jf_iload_n hX dX9_isDigit_0 0 rfl ?_
  refine jf_bipush (v := 48) hX dX9_isDigit_1 (by decide) ?_
  refine jf_icmp_lt (tgt := 16) hX dX9_isDigit_3 (by decide) ?_ ?_
  · refine jf_iconst (v := 0) hX dX9_isDigit_16 (by decide) ?_
    exact jf_zretc hX rfl (by decide) (by decide) (by decide) dX9_isDigit_17
  · refine jf_iload_n hX dX9_isDigit_6 0 rfl ?_
    refine jf_bipush (v := 57) hX dX9_isDigit_7 (by decide) ?_
    refine jf_icmp_gt (tgt := 16) hX dX9_isDigit_9 (by decide) ?_ ?_
    · refine jf_iconst (v := 0) hX dX9_isDigit_16 (by decide) ?_
      exact jf_zretc hX rfl (by decide) (by decide) (by decide) dX9_isDigit_17
    · refine jf_iconst (v := 1) hX dX9_isDigit_12 (by decide) ?_
      refine jf_goto (tgt := 17) hX dX9_isDigit_13 (by decide) ?_
      exact jf_zretc hX rfl (by decide) (by decide) (by decide) dX9_isDigit_17
set_option maxRecDepth 20000 in
def fX9_add (N : Nat)  (a0 : Nat) (p1 : Int32) (p2 : Int32) (p3 : Int32) (u : SG) : Option (Unit × SG) := if zK u a0 = 10 then (if (zI u a0 6) < 0 then (some ((), u))
  else (if zK u a0 = 10 then (if (400 : Int32) < (zI u a0 6) then (some ((), u))
  else (if zK u a0 = 10 then (Option.bind (zR u a0 3) fun q1 => (if zK u a0 = 10 then (if zK u q1 = 22 then if (zI u a0 6) < 0 ∨ zN u q1 ≤ (zI u a0 6).toNatClampNeg then none else bs (sI u q1 (zI u a0 6).toNatClampNeg p1) fun u2 => (if zK u2 a0 = 10 then (Option.bind (zR u2 a0 4) fun q3 => (if zK u2 a0 = 10 then (if zK u2 q3 = 22 then if (zI u2 a0 6) < 0 ∨ zN u2 q3 ≤ (zI u2 a0 6).toNatClampNeg then none else bs (sI u2 q3 (zI u2 a0 6).toNatClampNeg p2) fun u4 => (if zK u4 a0 = 10 then (Option.bind (zR u4 a0 5) fun q5 => (if zK u4 a0 = 10 then (if zK u4 q5 = 22 then if (zI u4 a0 6) < 0 ∨ zN u4 q5 ≤ (zI u4 a0 6).toNatClampNeg then none else bs (sI u4 q5 (zI u4 a0 6).toNatClampNeg p3) fun u6 => (if zK u6 a0 = 10 then (if zK u6 a0 = 10 then bs (sI u6 a0 6 ((zI u6 a0 6) + (1 : Int32))) fun u7 => (some ((), u7)) else none) else none) else none) else none)) else none) else none) else none)) else none) else none) else none)) else none)) else none)) else none
set_option maxRecDepth 20000 in
set_option maxHeartbeats 4000000 in
theorem kX9_add  (N : Nat)  (l : Launch) (D : va_G) (cT : Nat → ClassId) (z0 : Nat) (ks : Nat × Nat) (a0 : Nat) (p1 : Int32) (p2 : Int32) (p3 : Int32) (u : SG) : Ct l D cT z0 ks yX9_add cX9_add 4 none 1 0 0 vU [.ref a0, .int p1, .int p2, .int p3] u (fX9_add N  a0 p1 p2 p3 u) := by
  unfold fX9_add
  refine ct_of (by decide +kernel) (Nat.le_of_ble_eq_true rfl) (fun p e R s m args below meth c hX => ?_)
  show JF _ True 4 0 0 _ 0 [(0, .ref a0), (1, .int p1), (2, .int p2), (3, .int p3)] [] u _
  refine jf_aload_n hX dX9_add_0 0 rfl ?_
  refine jf_getI hX ck_X9 6 wfl_483 (by decide) rfl dX9_add_1 ?_
  refine jf_if_lt (tgt := 57) hX dX9_add_4 (by decide) ?_ ?_
  · exact jf_vret hX rfl (by decide) (by decide) dX9_add_57
  · refine jf_aload_n hX dX9_add_7 0 rfl ?_
    refine jf_getI hX ck_X9 6 wfl_483 (by decide) rfl dX9_add_8 ?_
    refine jf_sipush (v := 400) hX dX9_add_11 (by decide) ?_
    refine jf_icmp_gt (tgt := 57) hX dX9_add_14 (by decide) ?_ ?_
    · exact jf_vret hX rfl (by decide) (by decide) dX9_add_57
    · refine jf_aload_n hX dX9_add_17 0 rfl ?_
      refine jf_getR hX ck_X9 3 wfl_484 (by decide) rfl dX9_add_18 ?_
      refine jf_nn (fun q1 => ?_)
      refine jf_aload_n hX dX9_add_21 0 rfl ?_
      refine jf_getI hX ck_X9 6 wfl_483 (by decide) rfl dX9_add_22 ?_
      refine jf_iload_n hX dX9_add_25 1 rfl ?_
      refine jf_iast hX trivial dX9_add_26 (fun u2 => ?_)
      refine jf_aload_n hX dX9_add_27 0 rfl ?_
      refine jf_getR hX ck_X9 4 wfl_485 (by decide) rfl dX9_add_28 ?_
      refine jf_nn (fun q3 => ?_)
      refine jf_aload_n hX dX9_add_31 0 rfl ?_
      refine jf_getI hX ck_X9 6 wfl_483 (by decide) rfl dX9_add_32 ?_
      refine jf_iload_n hX dX9_add_35 2 rfl ?_
      refine jf_iast hX trivial dX9_add_36 (fun u4 => ?_)
      refine jf_aload_n hX dX9_add_37 0 rfl ?_
      refine jf_getR hX ck_X9 5 wfl_486 (by decide) rfl dX9_add_38 ?_
      refine jf_nn (fun q5 => ?_)
      refine jf_aload_n hX dX9_add_41 0 rfl ?_
      refine jf_getI hX ck_X9 6 wfl_483 (by decide) rfl dX9_add_42 ?_
      refine jf_iload_n hX dX9_add_45 3 rfl ?_
      refine jf_iast hX trivial dX9_add_46 (fun u6 => ?_)
      refine jf_aload_n hX dX9_add_47 0 rfl ?_
      refine jf_dup hX dX9_add_48 rfl ?_
      refine jf_getI hX ck_X9 6 wfl_483 (by decide) rfl dX9_add_49 ?_
      refine jf_iconst (v := 1) hX dX9_add_52 (by decide) ?_
      refine jf_iadd hX dX9_add_53 ?_
      refine jf_putI hX trivial ck_X9 6 wfl_483 (by decide) rfl rfl rfl dX9_add_54 (fun u7 => ?_)
      exact jf_vret hX rfl (by decide) (by decide) dX9_add_57
set_option maxRecDepth 20000 in
def gX9_splitNumber_54 (N : Nat)   (x0 : Nat) (x1 : Int32) (x2 : Int32) (x3 : Int32) (u : SG) : Option (Int32 × SG) := if zK u x0 = 10 then cl (fX9_add N x0 (1 : Int32) x2 x1 u) fun r1 u2 => (some (x3, u2)) else none
set_option maxRecDepth 20000 in
set_option maxHeartbeats 4000000 in
theorem jgX9_splitNumber_54   {X : XT} (hX : Cx X yX9_splitNumber cX9_splitNumber 4 (some .int) 2 0 0) (N : Nat)  (x0 : Nat) (x1 : Int32) (x2 : Int32) (x3 : Int32) (u : SG) : JF X True 4 0 0 (jQ X vI 0 0) 54 [(0, .ref x0), (1, .int x1), (2, .int x2), (3, .int x3)] [] u (gX9_splitNumber_54 N   x0 x1 x2 x3 u) := by
  unfold gX9_splitNumber_54
  refine jf_aload_n hX dX9_splitNumber_54 0 rfl ?_
  refine jf_iconst (v := 1) hX dX9_splitNumber_55 (by decide) ?_
  refine jf_iload_n hX dX9_splitNumber_56 2 rfl ?_
  refine jf_iload_n hX dX9_splitNumber_57 1 rfl ?_
  refine jf_callV (As := [.int (1 : Int32), .int x2, .int x1]) (st := []) hX mo_X9_add wml_492 winst_493 wsel_494 9 ck_X9 rfl (fun l D cT z0 ks => kX9_add N l D cT z0 ks x0 (1 : Int32) x2 x1 u) (by decide) (by decide) (by decide) (by decide) (Nat.le_of_ble_eq_true rfl) rfl rfl dX9_splitNumber_58 (fun r1 u2 => ?_)
  refine jf_iload_n hX dX9_splitNumber_61 3 rfl ?_
  exact jf_iret hX rfl (by decide) (by decide) dX9_splitNumber_62
set_option maxRecDepth 20000 in
def gX9_splitNumber_4 (N : Nat)   : Nat → Nat → Int32 → Int32 → Int32 → SG → Option (Int32 × SG)
  | 0, _, _, _, _, _ => none
  | n + 1, x0, x1, x2, x3, u => if zK u x0 = 10 then (if (zI u x0 1) ≤ x3 then (gX9_splitNumber_54 N  x0 x1 x2 x3 u)
  else (if zK u x0 = 10 then cl (fX9_byteAt N x0 x3 u) fun r1 u2 => (cl (fX9_isDigit N r1 u2) fun r3 u4 => (if r3 = 0 then (gX9_splitNumber_54 N  x0 x1 x2 x3 u4)
  else (if (5 : Int32) ≤ (x3 - x1) then ((gX9_splitNumber_4 N  n) x0 x1 (-1 : Int32) (x3 + (1 : Int32)) u4)
  else (if zK u4 x0 = 10 then cl (fX9_byteAt N x0 x3 u4) fun r5 u6 => (bs (((x2 * (10 : Int32)) + r5) - (48 : Int32)) fun v7 => ((gX9_splitNumber_4 N  n) x0 x1 v7 (x3 + (1 : Int32)) u6)) else none)))) else none)) else none
set_option maxRecDepth 20000 in
set_option maxHeartbeats 4000000 in
theorem jgX9_splitNumber_4   {X : XT} (hX : Cx X yX9_splitNumber cX9_splitNumber 4 (some .int) 2 0 0) (N : Nat)  : ∀ (n : Nat) (x0 : Nat) (x1 : Int32) (x2 : Int32) (x3 : Int32) (u : SG), JF X True 4 0 0 (jQ X vI 0 0) 4 [(0, .ref x0), (1, .int x1), (2, .int x2), (3, .int x3)] [] u (gX9_splitNumber_4 N   n x0 x1 x2 x3 u) := by
  intro n
  induction n with
  | zero => intros; intro r u9 h9; exact absurd h9 (by simp [gX9_splitNumber_4])
  | succ n ih =>
    intro x0 x1 x2 x3 u
    have hrec4 := ih
    rw [gX9_splitNumber_4]
    refine jf_iload_n hX dX9_splitNumber_4 3 rfl ?_
    refine jf_aload_n hX dX9_splitNumber_5 0 rfl ?_
    refine jf_getI hX ck_X9 1 wfl_481 (by decide) rfl dX9_splitNumber_6 ?_
    refine jf_icmp_ge (tgt := 54) hX dX9_splitNumber_9 (by decide) ?_ ?_
    · refine jf_lv [0, 1, 2, 3] rfl ?_
      exact jgX9_splitNumber_54 hX N  x0 x1 x2 x3 u
    · refine jf_aload_n hX dX9_splitNumber_12 0 rfl ?_
      refine jf_iload_n hX dX9_splitNumber_13 3 rfl ?_
      refine jf_callV (As := [.int x3]) (st := []) hX mo_X9_byteAt wml_487 winst_488 wsel_489 9 ck_X9 rfl (fun l D cT z0 ks => kX9_byteAt N l D cT z0 ks x0 x3 u) (by decide) (by decide) (by decide) (by decide) (Nat.le_of_ble_eq_true rfl) rfl rfl dX9_splitNumber_14 (fun r1 u2 => ?_)
      refine jf_callS (As := [.int r1]) (st := []) hX mo_X9_isDigit wml_490 wstat_491 rfl (fun l D cT z0 ks => kX9_isDigit N l D cT z0 ks r1 u2) (by decide) (by decide) (by decide) (by decide) (Nat.le_of_ble_eq_true rfl) rfl rfl dX9_splitNumber_17 (fun r3 u4 => ?_)
      refine jf_if_eq (tgt := 54) hX dX9_splitNumber_20 (by decide) ?_ ?_
      · refine jf_lv [0, 1, 2, 3] rfl ?_
        exact jgX9_splitNumber_54 hX N  x0 x1 x2 x3 u4
      · refine jf_iload_n hX dX9_splitNumber_23 3 rfl ?_
        refine jf_iload_n hX dX9_splitNumber_24 1 rfl ?_
        refine jf_isub hX dX9_splitNumber_25 ?_
        refine jf_iconst (v := 5) hX dX9_splitNumber_26 (by decide) ?_
        refine jf_icmp_ge (tgt := 46) hX dX9_splitNumber_27 (by decide) ?_ ?_
        · refine jf_iconst (v := -1) hX dX9_splitNumber_46 (by decide) ?_
          refine jf_istore_n (lv' := [(2, .int (-1 : Int32)), (0, .ref x0), (1, .int x1), (3, .int x3)]) hX dX9_splitNumber_47 rfl (by decide) rfl ?_
          refine jf_iinc (v := 1) (lv' := [(3, .int (x3 + (1 : Int32))), (2, .int (-1 : Int32)), (0, .ref x0), (1, .int x1)]) hX dX9_splitNumber_48 3 rfl (by decide) (by decide) rfl ?_
          refine jf_goto (tgt := 4) hX dX9_splitNumber_51 (by decide) ?_
          refine jf_lv [2, 3, 1, 0] rfl ?_
          exact hrec4 x0 x1 (-1 : Int32) (x3 + (1 : Int32)) u4
        · refine jf_iload_n hX dX9_splitNumber_30 2 rfl ?_
          refine jf_bipush (v := 10) hX dX9_splitNumber_31 (by decide) ?_
          refine jf_imul hX dX9_splitNumber_33 ?_
          refine jf_aload_n hX dX9_splitNumber_34 0 rfl ?_
          refine jf_iload_n hX dX9_splitNumber_35 3 rfl ?_
          refine jf_callV (As := [.int x3]) (st := [.int (x2 * (10 : Int32))]) hX mo_X9_byteAt wml_487 winst_488 wsel_489 9 ck_X9 rfl (fun l D cT z0 ks => kX9_byteAt N l D cT z0 ks x0 x3 u4) (by decide) (by decide) (by decide) (by decide) (Nat.le_of_ble_eq_true rfl) rfl rfl dX9_splitNumber_36 (fun r5 u6 => ?_)
          refine jf_iadd hX dX9_splitNumber_39 ?_
          refine jf_bipush (v := 48) hX dX9_splitNumber_40 (by decide) ?_
          refine jf_isub hX dX9_splitNumber_42 ?_
          refine jf_goto (tgt := 47) hX dX9_splitNumber_43 (by decide) ?_
          refine jf_nmI (fun v7 => ?_)
          refine jf_istore_n (lv' := [(2, .int v7), (0, .ref x0), (1, .int x1), (3, .int x3)]) hX dX9_splitNumber_47 rfl (by decide) rfl ?_
          refine jf_iinc (v := 1) (lv' := [(3, .int (x3 + (1 : Int32))), (2, .int v7), (0, .ref x0), (1, .int x1)]) hX dX9_splitNumber_48 3 rfl (by decide) (by decide) rfl ?_
          refine jf_goto (tgt := 4) hX dX9_splitNumber_51 (by decide) ?_
          refine jf_lv [2, 3, 1, 0] rfl ?_
          exact hrec4 x0 x1 v7 (x3 + (1 : Int32)) u6
set_option maxRecDepth 20000 in
def fX9_splitNumber (N : Nat)  (a0 : Nat) (p1 : Int32) (u : SG) : Option (Int32 × SG) := gX9_splitNumber_4 N  N a0 p1 (0 : Int32) p1 u
set_option maxRecDepth 20000 in
set_option maxHeartbeats 4000000 in
theorem kX9_splitNumber  (N : Nat)  (l : Launch) (D : va_G) (cT : Nat → ClassId) (z0 : Nat) (ks : Nat × Nat) (a0 : Nat) (p1 : Int32) (u : SG) : Ct l D cT z0 ks yX9_splitNumber cX9_splitNumber 4 (some .int) 2 0 0 vI [.ref a0, .int p1] u (fX9_splitNumber N  a0 p1 u) := by
  unfold fX9_splitNumber
  refine ct_of (by decide +kernel) (Nat.le_of_ble_eq_true rfl) (fun p e R s m args below meth c hX => ?_)
  show JF _ True 4 0 0 _ 0 [(0, .ref a0), (1, .int p1)] [] u _
  refine jf_iconst (v := 0) hX dX9_splitNumber_0 (by decide) ?_
  refine jf_istore_n (lv' := [(2, .int (0 : Int32)), (0, .ref a0), (1, .int p1)]) hX dX9_splitNumber_1 rfl (by decide) rfl ?_
  refine jf_iload_n hX dX9_splitNumber_2 2 rfl ?_
  refine jf_istore_n (lv' := [(3, .int p1), (2, .int (0 : Int32)), (0, .ref a0), (1, .int p1)]) hX dX9_splitNumber_3 rfl (by decide) rfl ?_
  refine jf_lv [2, 3, 1, 0] rfl ?_
  exact jgX9_splitNumber_4 hX N  N a0 p1 (0 : Int32) p1 u
set_option maxRecDepth 20000 in
def fX9_isSmall (N : Nat)  (p1 : Int32) (u : SG) : Option (Int32 × SG) := if p1 < (97 : Int32) then (some ((0 : Int32), u))
  else (if (122 : Int32) < p1 then (some ((0 : Int32), u))
  else (some ((1 : Int32), u)))
set_option maxRecDepth 20000 in
set_option maxHeartbeats 4000000 in
theorem kX9_isSmall  (N : Nat)  (l : Launch) (D : va_G) (cT : Nat → ClassId) (z0 : Nat) (ks : Nat × Nat) (p1 : Int32) (u : SG) : Ct l D cT z0 ks yX9_isSmall cX9_isSmall 1 (some .boolean) 1 0 0 vI [.int p1] u (fX9_isSmall N  p1 u) := by
  unfold fX9_isSmall
  refine ct_of (by decide +kernel) (Nat.le_of_ble_eq_true rfl) (fun p e R s m args below meth c hX => ?_)
  show JF _ True 1 0 0 _ 0 [(0, .int p1)] [] u _
  refine jf_iload_n hX dX9_isSmall_0 0 rfl ?_
  refine jf_bipush (v := 97) hX dX9_isSmall_1 (by decide) ?_
  refine jf_icmp_lt (tgt := 16) hX dX9_isSmall_3 (by decide) ?_ ?_
  · refine jf_iconst (v := 0) hX dX9_isSmall_16 (by decide) ?_
    exact jf_zretc hX rfl (by decide) (by decide) (by decide) dX9_isSmall_17
  · refine jf_iload_n hX dX9_isSmall_6 0 rfl ?_
    refine jf_bipush (v := 122) hX dX9_isSmall_7 (by decide) ?_
    refine jf_icmp_gt (tgt := 16) hX dX9_isSmall_9 (by decide) ?_ ?_
    · refine jf_iconst (v := 0) hX dX9_isSmall_16 (by decide) ?_
      exact jf_zretc hX rfl (by decide) (by decide) (by decide) dX9_isSmall_17
    · refine jf_iconst (v := 1) hX dX9_isSmall_12 (by decide) ?_
      refine jf_goto (tgt := 17) hX dX9_isSmall_13 (by decide) ?_
      exact jf_zretc hX rfl (by decide) (by decide) (by decide) dX9_isSmall_17
set_option maxRecDepth 20000 in
def gX9_isSame_3 (N : Nat)   : Nat → Nat → Int32 → Int32 → Int32 → Int32 → SG → Option (Int32 × SG)
  | 0, _, _, _, _, _, _ => none
  | n + 1, x0, x1, x2, x3, x4, u => if x3 ≤ x4 then (some ((1 : Int32), u))
  else (cl (fJ0_length_8abf5 N  u) fun r1 u2 => (if r1 ≤ x4 then (some ((1 : Int32), u2))
  else (cl (fJ0_charAt_5068e N x4 u2) fun r3 u4 => (if zK u4 x0 = 10 then cl (fX9_byteAt N x0 ((x1 + x4) - x2) u4) fun r5 u6 => (if r3 = r5 then ((gX9_isSame_3 N  n) x0 x1 x2 x3 (x4 + (1 : Int32)) u6)
  else (some ((0 : Int32), u6))) else none))))
set_option maxRecDepth 20000 in
set_option maxHeartbeats 4000000 in
theorem jgX9_isSame_3   {X : XT} (hX : Cx X yX9_isSame cX9_isSame 5 (some .boolean) 6 0 0) (N : Nat)  : ∀ (n : Nat) (x0 : Nat) (x1 : Int32) (x2 : Int32) (x3 : Int32) (x4 : Int32) (u : SG), JF X True 5 0 0 (jQ X vI 0 0) 3 [(0, .ref x0), (1, .int x1), (2, .int x2), (3, .int x3), (4, .int x4)] [] u (gX9_isSame_3 N   n x0 x1 x2 x3 x4 u) := by
  intro n
  induction n with
  | zero => intros; intro r u9 h9; exact absurd h9 (by simp [gX9_isSame_3])
  | succ n ih =>
    intro x0 x1 x2 x3 x4 u
    have hrec3 := ih
    rw [gX9_isSame_3]
    refine jf_iload hX dX9_isSame_3 4 rfl ?_
    refine jf_iload_n hX dX9_isSame_5 3 rfl ?_
    refine jf_icmp_ge (tgt := 47) hX dX9_isSame_6 (by decide) ?_ ?_
    · refine jf_iconst (v := 1) hX dX9_isSame_47 (by decide) ?_
      exact jf_zretc hX rfl (by decide) (by decide) (by decide) dX9_isSame_48
    · refine jf_iload hX dX9_isSame_9 4 rfl ?_
      refine jf_ldcS hX rfl dX9_isSame_11 ?_
      refine jf_callVs (As := []) (st := [.int x4]) hX mo_J0_length_8abf5 wml_495 winst_496 wsel_497 rfl rfl (fun l D cT z0 ks => kJ0_length_8abf5 N l D cT z0 ks  u) (by decide) (by decide) (by decide) (by decide) (Nat.le_of_ble_eq_true rfl) rfl rfl dX9_isSame_13 (fun r1 u2 => ?_)
      refine jf_icmp_ge (tgt := 47) hX dX9_isSame_16 (by decide) ?_ ?_
      · refine jf_iconst (v := 1) hX dX9_isSame_47 (by decide) ?_
        exact jf_zretc hX rfl (by decide) (by decide) (by decide) dX9_isSame_48
      · refine jf_ldcS hX rfl dX9_isSame_19 ?_
        refine jf_iload hX dX9_isSame_21 4 rfl ?_
        refine jf_callVs (As := [.int x4]) (st := []) hX mo_J0_charAt_5068e wml_498 winst_499 wsel_500 rfl rfl (fun l D cT z0 ks => kJ0_charAt_5068e N l D cT z0 ks x4 u2) (by decide) (by decide) (by decide) (by decide) (Nat.le_of_ble_eq_true rfl) rfl rfl dX9_isSame_23 (fun r3 u4 => ?_)
        refine jf_aload_n hX dX9_isSame_26 0 rfl ?_
        refine jf_iload_n hX dX9_isSame_27 1 rfl ?_
        refine jf_iload hX dX9_isSame_28 4 rfl ?_
        refine jf_iadd hX dX9_isSame_30 ?_
        refine jf_iload_n hX dX9_isSame_31 2 rfl ?_
        refine jf_isub hX dX9_isSame_32 ?_
        refine jf_callV (As := [.int ((x1 + x4) - x2)]) (st := [.int r3]) hX mo_X9_byteAt wml_487 winst_488 wsel_489 9 ck_X9 rfl (fun l D cT z0 ks => kX9_byteAt N l D cT z0 ks x0 ((x1 + x4) - x2) u4) (by decide) (by decide) (by decide) (by decide) (Nat.le_of_ble_eq_true rfl) rfl rfl dX9_isSame_33 (fun r5 u6 => ?_)
        refine jf_icmp_eq (tgt := 41) hX dX9_isSame_36 (by decide) ?_ ?_
        · refine jf_iinc (v := 1) (lv' := [(4, .int (x4 + (1 : Int32))), (0, .ref x0), (1, .int x1), (2, .int x2), (3, .int x3)]) hX dX9_isSame_41 4 rfl (by decide) (by decide) rfl ?_
          refine jf_goto (tgt := 3) hX dX9_isSame_44 (by decide) ?_
          refine jf_lv [1, 2, 3, 4, 0] rfl ?_
          exact hrec3 x0 x1 x2 x3 (x4 + (1 : Int32)) u6
        · refine jf_iconst (v := 0) hX dX9_isSame_39 (by decide) ?_
          exact jf_zretc hX rfl (by decide) (by decide) (by decide) dX9_isSame_40
set_option maxRecDepth 20000 in
def fX9_isSame (N : Nat)  (a0 : Nat) (p1 : Int32) (p2 : Int32) (p3 : Int32) (u : SG) : Option (Int32 × SG) := gX9_isSame_3 N  N a0 p1 p2 p3 p2 u
set_option maxRecDepth 20000 in
set_option maxHeartbeats 4000000 in
theorem kX9_isSame  (N : Nat)  (l : Launch) (D : va_G) (cT : Nat → ClassId) (z0 : Nat) (ks : Nat × Nat) (a0 : Nat) (p1 : Int32) (p2 : Int32) (p3 : Int32) (u : SG) : Ct l D cT z0 ks yX9_isSame cX9_isSame 5 (some .boolean) 6 0 0 vI [.ref a0, .int p1, .int p2, .int p3] u (fX9_isSame N  a0 p1 p2 p3 u) := by
  unfold fX9_isSame
  refine ct_of (by decide +kernel) (Nat.le_of_ble_eq_true rfl) (fun p e R s m args below meth c hX => ?_)
  show JF _ True 5 0 0 _ 0 [(0, .ref a0), (1, .int p1), (2, .int p2), (3, .int p3)] [] u _
  refine jf_iload_n hX dX9_isSame_0 2 rfl ?_
  refine jf_istore (lv' := [(4, .int p2), (0, .ref a0), (1, .int p1), (2, .int p2), (3, .int p3)]) hX dX9_isSame_1 (by decide) rfl ?_
  refine jf_lv [1, 2, 3, 4, 0] rfl ?_
  exact jgX9_isSame_3 hX N  N a0 p1 p2 p3 p2 u
set_option maxRecDepth 20000 in
def gX9_wordBetween_40 (N : Nat)  (rec8 : Nat → Int32 → Int32 → Int32 → Int32 → Int32 → SG → Option (Int32 × SG)) (x0 : Nat) (x1 : Int32) (x2 : Int32) (x3 : Int32) (x4 : Int32) (x5 : Int32) (u : SG) : Option (Int32 × SG) := if (x5 - x4) = (x2 - x1) then (if zK u x0 = 10 then cl (fX9_isSame N x0 x1 x4 x5 u) fun r2 u3 => (if r2 = 0 then (bs (x5 + (1 : Int32)) fun v4 => (rec8 x0 x1 x2 (x3 + (1 : Int32)) v4 (x5 + (1 : Int32)) u3))
  else (some (x3, u3))) else none)
  else (bs (x5 + (1 : Int32)) fun v1 => (rec8 x0 x1 x2 (x3 + (1 : Int32)) v1 (x5 + (1 : Int32)) u))
set_option maxRecDepth 20000 in
set_option maxHeartbeats 4000000 in
theorem jgX9_wordBetween_40 {rec8 : Nat → Int32 → Int32 → Int32 → Int32 → Int32 → SG → Option (Int32 × SG)}  {X : XT} (hX : Cx X yX9_wordBetween cX9_wordBetween 6 (some .int) 7 0 0) (N : Nat) (hrec8 : ∀ (x0 : Nat) (x1 : Int32) (x2 : Int32) (x3 : Int32) (x4 : Int32) (x5 : Int32)  (u : SG), JF X True 6 0 0 (jQ X vI 0 0) 8 [(0, .ref x0), (1, .int x1), (2, .int x2), (3, .int x3), (4, .int x4), (5, .int x5)] [] u (rec8 x0 x1 x2 x3 x4 x5  u)) (x0 : Nat) (x1 : Int32) (x2 : Int32) (x3 : Int32) (x4 : Int32) (x5 : Int32) (u : SG) : JF X True 6 0 0 (jQ X vI 0 0) 40 [(0, .ref x0), (1, .int x1), (2, .int x2), (3, .int x3), (4, .int x4), (5, .int x5)] [] u (gX9_wordBetween_40 N  rec8 x0 x1 x2 x3 x4 x5 u) := by
  unfold gX9_wordBetween_40
  refine jf_iload hX dX9_wordBetween_40 5 rfl ?_
  refine jf_iload hX dX9_wordBetween_42 4 rfl ?_
  refine jf_isub hX dX9_wordBetween_44 ?_
  refine jf_iload_n hX dX9_wordBetween_45 2 rfl ?_
  refine jf_iload_n hX dX9_wordBetween_46 1 rfl ?_
  refine jf_isub hX dX9_wordBetween_47 ?_
  refine jf_icmp_ne (tgt := 65) hX dX9_wordBetween_48 (by decide) ?_ ?_
  · refine jf_iinc (v := 1) (lv' := [(3, .int (x3 + (1 : Int32))), (0, .ref x0), (1, .int x1), (2, .int x2), (4, .int x4), (5, .int x5)]) hX dX9_wordBetween_65 3 rfl (by decide) (by decide) rfl ?_
    refine jf_iload hX dX9_wordBetween_68 5 rfl ?_
    refine jf_iconst (v := 1) hX dX9_wordBetween_70 (by decide) ?_
    refine jf_iadd hX dX9_wordBetween_71 ?_
    refine jf_nmI (fun v1 => ?_)
    refine jf_istore (lv' := [(4, .int v1), (3, .int (x3 + (1 : Int32))), (0, .ref x0), (1, .int x1), (2, .int x2), (5, .int x5)]) hX dX9_wordBetween_72 (by decide) rfl ?_
    refine jf_iinc (v := 1) (lv' := [(5, .int (x5 + (1 : Int32))), (4, .int v1), (3, .int (x3 + (1 : Int32))), (0, .ref x0), (1, .int x1), (2, .int x2)]) hX dX9_wordBetween_74 5 rfl (by decide) (by decide) rfl ?_
    refine jf_goto (tgt := 8) hX dX9_wordBetween_77 (by decide) ?_
    refine jf_lv [3, 4, 5, 2, 1, 0] rfl ?_
    exact hrec8 x0 x1 x2 (x3 + (1 : Int32)) v1 (x5 + (1 : Int32)) u
  · refine jf_aload_n hX dX9_wordBetween_51 0 rfl ?_
    refine jf_iload_n hX dX9_wordBetween_52 1 rfl ?_
    refine jf_iload hX dX9_wordBetween_53 4 rfl ?_
    refine jf_iload hX dX9_wordBetween_55 5 rfl ?_
    refine jf_callV (As := [.int x1, .int x4, .int x5]) (st := []) hX mo_X9_isSame wml_501 winst_502 wsel_503 9 ck_X9 rfl (fun l D cT z0 ks => kX9_isSame N l D cT z0 ks x0 x1 x4 x5 u) (by decide) (by decide) (by decide) (by decide) (Nat.le_of_ble_eq_true rfl) rfl rfl dX9_wordBetween_57 (fun r2 u3 => ?_)
    refine jf_if_eq (tgt := 65) hX dX9_wordBetween_60 (by decide) ?_ ?_
    · refine jf_iinc (v := 1) (lv' := [(3, .int (x3 + (1 : Int32))), (0, .ref x0), (1, .int x1), (2, .int x2), (4, .int x4), (5, .int x5)]) hX dX9_wordBetween_65 3 rfl (by decide) (by decide) rfl ?_
      refine jf_iload hX dX9_wordBetween_68 5 rfl ?_
      refine jf_iconst (v := 1) hX dX9_wordBetween_70 (by decide) ?_
      refine jf_iadd hX dX9_wordBetween_71 ?_
      refine jf_nmI (fun v4 => ?_)
      refine jf_istore (lv' := [(4, .int v4), (3, .int (x3 + (1 : Int32))), (0, .ref x0), (1, .int x1), (2, .int x2), (5, .int x5)]) hX dX9_wordBetween_72 (by decide) rfl ?_
      refine jf_iinc (v := 1) (lv' := [(5, .int (x5 + (1 : Int32))), (4, .int v4), (3, .int (x3 + (1 : Int32))), (0, .ref x0), (1, .int x1), (2, .int x2)]) hX dX9_wordBetween_74 5 rfl (by decide) (by decide) rfl ?_
      refine jf_goto (tgt := 8) hX dX9_wordBetween_77 (by decide) ?_
      refine jf_lv [3, 4, 5, 2, 1, 0] rfl ?_
      exact hrec8 x0 x1 x2 (x3 + (1 : Int32)) v4 (x5 + (1 : Int32)) u3
    · refine jf_iload_n hX dX9_wordBetween_63 3 rfl ?_
      exact jf_iret hX rfl (by decide) (by decide) dX9_wordBetween_64
set_option maxRecDepth 20000 in
def gX9_wordBetween_8 (N : Nat)   : Nat → Nat → Int32 → Int32 → Int32 → Int32 → Int32 → SG → Option (Int32 × SG)
  | 0, _, _, _, _, _, _, _ => none
  | n + 1, x0, x1, x2, x3, x4, x5, u => cl (fJ0_length_8abf5 N  u) fun r1 u2 => (if r1 < x5 then (some ((-1 : Int32), u2))
  else (cl (fJ0_length_8abf5 N  u2) fun r3 u4 => (if x5 = r3 then (gX9_wordBetween_40 N (gX9_wordBetween_8 N  n) x0 x1 x2 x3 x4 x5 u4)
  else (cl (fJ0_charAt_5068e N x5 u4) fun r5 u6 => (if r5 = (32 : Int32) then (gX9_wordBetween_40 N (gX9_wordBetween_8 N  n) x0 x1 x2 x3 x4 x5 u6)
  else ((gX9_wordBetween_8 N  n) x0 x1 x2 x3 x4 (x5 + (1 : Int32)) u6))))))
set_option maxRecDepth 20000 in
set_option maxHeartbeats 4000000 in
theorem jgX9_wordBetween_8   {X : XT} (hX : Cx X yX9_wordBetween cX9_wordBetween 6 (some .int) 7 0 0) (N : Nat)  : ∀ (n : Nat) (x0 : Nat) (x1 : Int32) (x2 : Int32) (x3 : Int32) (x4 : Int32) (x5 : Int32) (u : SG), JF X True 6 0 0 (jQ X vI 0 0) 8 [(0, .ref x0), (1, .int x1), (2, .int x2), (3, .int x3), (4, .int x4), (5, .int x5)] [] u (gX9_wordBetween_8 N   n x0 x1 x2 x3 x4 x5 u) := by
  intro n
  induction n with
  | zero => intros; intro r u9 h9; exact absurd h9 (by simp [gX9_wordBetween_8])
  | succ n ih =>
    intro x0 x1 x2 x3 x4 x5 u
    have hrec8 := ih
    rw [gX9_wordBetween_8]
    refine jf_iload hX dX9_wordBetween_8 5 rfl ?_
    refine jf_ldcS hX rfl dX9_wordBetween_10 ?_
    refine jf_callVs (As := []) (st := [.int x5]) hX mo_J0_length_8abf5 wml_495 winst_496 wsel_497 rfl rfl (fun l D cT z0 ks => kJ0_length_8abf5 N l D cT z0 ks  u) (by decide) (by decide) (by decide) (by decide) (Nat.le_of_ble_eq_true rfl) rfl rfl dX9_wordBetween_12 (fun r1 u2 => ?_)
    refine jf_icmp_gt (tgt := 80) hX dX9_wordBetween_15 (by decide) ?_ ?_
    · refine jf_iconst (v := -1) hX dX9_wordBetween_80 (by decide) ?_
      exact jf_iret hX rfl (by decide) (by decide) dX9_wordBetween_81
    · refine jf_iload hX dX9_wordBetween_18 5 rfl ?_
      refine jf_ldcS hX rfl dX9_wordBetween_20 ?_
      refine jf_callVs (As := []) (st := [.int x5]) hX mo_J0_length_8abf5 wml_495 winst_496 wsel_497 rfl rfl (fun l D cT z0 ks => kJ0_length_8abf5 N l D cT z0 ks  u2) (by decide) (by decide) (by decide) (by decide) (Nat.le_of_ble_eq_true rfl) rfl rfl dX9_wordBetween_22 (fun r3 u4 => ?_)
      refine jf_icmp_eq (tgt := 40) hX dX9_wordBetween_25 (by decide) ?_ ?_
      · refine jf_lv [0, 1, 2, 3, 4, 5] rfl ?_
        exact jgX9_wordBetween_40 hX N hrec8 x0 x1 x2 x3 x4 x5 u4
      · refine jf_ldcS hX rfl dX9_wordBetween_28 ?_
        refine jf_iload hX dX9_wordBetween_30 5 rfl ?_
        refine jf_callVs (As := [.int x5]) (st := []) hX mo_J0_charAt_5068e wml_498 winst_499 wsel_500 rfl rfl (fun l D cT z0 ks => kJ0_charAt_5068e N l D cT z0 ks x5 u4) (by decide) (by decide) (by decide) (by decide) (Nat.le_of_ble_eq_true rfl) rfl rfl dX9_wordBetween_32 (fun r5 u6 => ?_)
        refine jf_bipush (v := 32) hX dX9_wordBetween_35 (by decide) ?_
        refine jf_icmp_ne (tgt := 74) hX dX9_wordBetween_37 (by decide) ?_ ?_
        · refine jf_iinc (v := 1) (lv' := [(5, .int (x5 + (1 : Int32))), (0, .ref x0), (1, .int x1), (2, .int x2), (3, .int x3), (4, .int x4)]) hX dX9_wordBetween_74 5 rfl (by decide) (by decide) rfl ?_
          refine jf_goto (tgt := 8) hX dX9_wordBetween_77 (by decide) ?_
          refine jf_lv [1, 2, 3, 4, 5, 0] rfl ?_
          exact hrec8 x0 x1 x2 x3 x4 (x5 + (1 : Int32)) u6
        · refine jf_lv [0, 1, 2, 3, 4, 5] rfl ?_
          exact jgX9_wordBetween_40 hX N hrec8 x0 x1 x2 x3 x4 x5 u6
set_option maxRecDepth 20000 in
def fX9_wordBetween (N : Nat)  (a0 : Nat) (p1 : Int32) (p2 : Int32) (u : SG) : Option (Int32 × SG) := gX9_wordBetween_8 N  N a0 p1 p2 (0 : Int32) (0 : Int32) (0 : Int32) u
set_option maxRecDepth 20000 in
set_option maxHeartbeats 4000000 in
theorem kX9_wordBetween  (N : Nat)  (l : Launch) (D : va_G) (cT : Nat → ClassId) (z0 : Nat) (ks : Nat × Nat) (a0 : Nat) (p1 : Int32) (p2 : Int32) (u : SG) : Ct l D cT z0 ks yX9_wordBetween cX9_wordBetween 6 (some .int) 7 0 0 vI [.ref a0, .int p1, .int p2] u (fX9_wordBetween N  a0 p1 p2 u) := by
  unfold fX9_wordBetween
  refine ct_of (by decide +kernel) (Nat.le_of_ble_eq_true rfl) (fun p e R s m args below meth c hX => ?_)
  show JF _ True 6 0 0 _ 0 [(0, .ref a0), (1, .int p1), (2, .int p2)] [] u _
  refine jf_iconst (v := 0) hX dX9_wordBetween_0 (by decide) ?_
  refine jf_istore_n (lv' := [(3, .int (0 : Int32)), (0, .ref a0), (1, .int p1), (2, .int p2)]) hX dX9_wordBetween_1 rfl (by decide) rfl ?_
  refine jf_iconst (v := 0) hX dX9_wordBetween_2 (by decide) ?_
  refine jf_istore (lv' := [(4, .int (0 : Int32)), (3, .int (0 : Int32)), (0, .ref a0), (1, .int p1), (2, .int p2)]) hX dX9_wordBetween_3 (by decide) rfl ?_
  refine jf_iconst (v := 0) hX dX9_wordBetween_5 (by decide) ?_
  refine jf_istore (lv' := [(5, .int (0 : Int32)), (4, .int (0 : Int32)), (3, .int (0 : Int32)), (0, .ref a0), (1, .int p1), (2, .int p2)]) hX dX9_wordBetween_6 (by decide) rfl ?_
  refine jf_lv [3, 4, 5, 2, 1, 0] rfl ?_
  exact jgX9_wordBetween_8 hX N  N a0 p1 p2 (0 : Int32) (0 : Int32) (0 : Int32) u
set_option maxRecDepth 20000 in
def gX9_splitWord_27 (N : Nat)   (x0 : Nat) (x1 : Int32) (x2 : Int32) (u : SG) : Option (Int32 × SG) := if zK u x0 = 10 then cl (fX9_wordBetween N x0 x1 x2 u) fun r1 u2 => (if zK u2 x0 = 10 then cl (fX9_add N x0 (2 : Int32) r1 x1 u2) fun r3 u4 => (some (x2, u4)) else none) else none
set_option maxRecDepth 20000 in
set_option maxHeartbeats 4000000 in
theorem jgX9_splitWord_27   {X : XT} (hX : Cx X yX9_splitWord cX9_splitWord 3 (some .int) 8 0 0) (N : Nat)  (x0 : Nat) (x1 : Int32) (x2 : Int32) (u : SG) : JF X True 3 0 0 (jQ X vI 0 0) 27 [(0, .ref x0), (1, .int x1), (2, .int x2)] [] u (gX9_splitWord_27 N   x0 x1 x2 u) := by
  unfold gX9_splitWord_27
  refine jf_aload_n hX dX9_splitWord_27 0 rfl ?_
  refine jf_iconst (v := 2) hX dX9_splitWord_28 (by decide) ?_
  refine jf_aload_n hX dX9_splitWord_29 0 rfl ?_
  refine jf_iload_n hX dX9_splitWord_30 1 rfl ?_
  refine jf_iload_n hX dX9_splitWord_31 2 rfl ?_
  refine jf_callV (As := [.int x1, .int x2]) (st := [.int (2 : Int32), .ref x0]) hX mo_X9_wordBetween wml_506 winst_507 wsel_508 9 ck_X9 rfl (fun l D cT z0 ks => kX9_wordBetween N l D cT z0 ks x0 x1 x2 u) (by decide) (by decide) (by decide) (by decide) (Nat.le_of_ble_eq_true rfl) rfl rfl dX9_splitWord_32 (fun r1 u2 => ?_)
  refine jf_iload_n hX dX9_splitWord_35 1 rfl ?_
  refine jf_callV (As := [.int (2 : Int32), .int r1, .int x1]) (st := []) hX mo_X9_add wml_492 winst_493 wsel_494 9 ck_X9 rfl (fun l D cT z0 ks => kX9_add N l D cT z0 ks x0 (2 : Int32) r1 x1 u2) (by decide) (by decide) (by decide) (by decide) (Nat.le_of_ble_eq_true rfl) rfl rfl dX9_splitWord_36 (fun r3 u4 => ?_)
  refine jf_iload_n hX dX9_splitWord_39 2 rfl ?_
  exact jf_iret hX rfl (by decide) (by decide) dX9_splitWord_40
set_option maxRecDepth 20000 in
def gX9_splitWord_2 (N : Nat)   : Nat → Nat → Int32 → Int32 → SG → Option (Int32 × SG)
  | 0, _, _, _, _ => none
  | n + 1, x0, x1, x2, u => if zK u x0 = 10 then (if (zI u x0 1) ≤ x2 then (gX9_splitWord_27 N  x0 x1 x2 u)
  else (if zK u x0 = 10 then cl (fX9_byteAt N x0 x2 u) fun r1 u2 => (cl (fX9_isSmall N r1 u2) fun r3 u4 => (if r3 = 0 then (gX9_splitWord_27 N  x0 x1 x2 u4)
  else ((gX9_splitWord_2 N  n) x0 x1 (x2 + (1 : Int32)) u4))) else none)) else none
set_option maxRecDepth 20000 in
set_option maxHeartbeats 4000000 in
theorem jgX9_splitWord_2   {X : XT} (hX : Cx X yX9_splitWord cX9_splitWord 3 (some .int) 8 0 0) (N : Nat)  : ∀ (n : Nat) (x0 : Nat) (x1 : Int32) (x2 : Int32) (u : SG), JF X True 3 0 0 (jQ X vI 0 0) 2 [(0, .ref x0), (1, .int x1), (2, .int x2)] [] u (gX9_splitWord_2 N   n x0 x1 x2 u) := by
  intro n
  induction n with
  | zero => intros; intro r u9 h9; exact absurd h9 (by simp [gX9_splitWord_2])
  | succ n ih =>
    intro x0 x1 x2 u
    have hrec2 := ih
    rw [gX9_splitWord_2]
    refine jf_iload_n hX dX9_splitWord_2 2 rfl ?_
    refine jf_aload_n hX dX9_splitWord_3 0 rfl ?_
    refine jf_getI hX ck_X9 1 wfl_481 (by decide) rfl dX9_splitWord_4 ?_
    refine jf_icmp_ge (tgt := 27) hX dX9_splitWord_7 (by decide) ?_ ?_
    · refine jf_lv [0, 1, 2] rfl ?_
      exact jgX9_splitWord_27 hX N  x0 x1 x2 u
    · refine jf_aload_n hX dX9_splitWord_10 0 rfl ?_
      refine jf_iload_n hX dX9_splitWord_11 2 rfl ?_
      refine jf_callV (As := [.int x2]) (st := []) hX mo_X9_byteAt wml_487 winst_488 wsel_489 9 ck_X9 rfl (fun l D cT z0 ks => kX9_byteAt N l D cT z0 ks x0 x2 u) (by decide) (by decide) (by decide) (by decide) (Nat.le_of_ble_eq_true rfl) rfl rfl dX9_splitWord_12 (fun r1 u2 => ?_)
      refine jf_callS (As := [.int r1]) (st := []) hX mo_X9_isSmall wml_504 wstat_505 rfl (fun l D cT z0 ks => kX9_isSmall N l D cT z0 ks r1 u2) (by decide) (by decide) (by decide) (by decide) (Nat.le_of_ble_eq_true rfl) rfl rfl dX9_splitWord_15 (fun r3 u4 => ?_)
      refine jf_if_eq (tgt := 27) hX dX9_splitWord_18 (by decide) ?_ ?_
      · refine jf_lv [0, 1, 2] rfl ?_
        exact jgX9_splitWord_27 hX N  x0 x1 x2 u4
      · refine jf_iinc (v := 1) (lv' := [(2, .int (x2 + (1 : Int32))), (0, .ref x0), (1, .int x1)]) hX dX9_splitWord_21 2 rfl (by decide) (by decide) rfl ?_
        refine jf_goto (tgt := 2) hX dX9_splitWord_24 (by decide) ?_
        refine jf_lv [1, 2, 0] rfl ?_
        exact hrec2 x0 x1 (x2 + (1 : Int32)) u4
set_option maxRecDepth 20000 in
def fX9_splitWord (N : Nat)  (a0 : Nat) (p1 : Int32) (u : SG) : Option (Int32 × SG) := gX9_splitWord_2 N  N a0 p1 p1 u
set_option maxRecDepth 20000 in
set_option maxHeartbeats 4000000 in
theorem kX9_splitWord  (N : Nat)  (l : Launch) (D : va_G) (cT : Nat → ClassId) (z0 : Nat) (ks : Nat × Nat) (a0 : Nat) (p1 : Int32) (u : SG) : Ct l D cT z0 ks yX9_splitWord cX9_splitWord 3 (some .int) 8 0 0 vI [.ref a0, .int p1] u (fX9_splitWord N  a0 p1 u) := by
  unfold fX9_splitWord
  refine ct_of (by decide +kernel) (Nat.le_of_ble_eq_true rfl) (fun p e R s m args below meth c hX => ?_)
  show JF _ True 3 0 0 _ 0 [(0, .ref a0), (1, .int p1)] [] u _
  refine jf_iload_n hX dX9_splitWord_0 1 rfl ?_
  refine jf_istore_n (lv' := [(2, .int p1), (0, .ref a0), (1, .int p1)]) hX dX9_splitWord_1 rfl (by decide) rfl ?_
  refine jf_lv [1, 2, 0] rfl ?_
  exact jgX9_splitWord_2 hX N  N a0 p1 p1 u
set_option maxRecDepth 20000 in
def gX9_splitAt_87 (N : Nat)   (x1 : Int32) (x3 : Int32) (s0 : Nat) (s1 : Int32) (s2 : Int32) (u : SG) : Option (Int32 × SG) := if zK u s0 = 10 then cl (fX9_add N s0 s1 s2 x1 u) fun r1 u2 => (if x3 = 0 then (some (x1 + (1 : Int32), u2))
  else (some (x1 + (2 : Int32), u2))) else none
set_option maxRecDepth 20000 in
set_option maxHeartbeats 4000000 in
theorem jgX9_splitAt_87   {X : XT} (hX : Cx X yX9_splitAt cX9_splitAt 4 (some .int) 9 0 0) (N : Nat)  (x1 : Int32) (x3 : Int32) (s0 : Nat) (s1 : Int32) (s2 : Int32) (u : SG) : JF X True 4 0 0 (jQ X vI 0 0) 87 [(1, .int x1), (3, .int x3)] [.int s2, .int s1, .ref s0] u (gX9_splitAt_87 N   x1 x3 s0 s1 s2 u) := by
  unfold gX9_splitAt_87
  refine jf_iload_n hX dX9_splitAt_87 0 rfl ?_
  refine jf_callV (As := [.int s1, .int s2, .int x1]) (st := []) hX mo_X9_add wml_492 winst_493 wsel_494 9 ck_X9 rfl (fun l D cT z0 ks => kX9_add N l D cT z0 ks s0 s1 s2 x1 u) (by decide) (by decide) (by decide) (by decide) (Nat.le_of_ble_eq_true rfl) rfl rfl dX9_splitAt_88 (fun r1 u2 => ?_)
  refine jf_iload_n hX dX9_splitAt_91 1 rfl ?_
  refine jf_if_eq (tgt := 101) hX dX9_splitAt_92 (by decide) ?_ ?_
  · refine jf_iload_n hX dX9_splitAt_101 0 rfl ?_
    refine jf_iconst (v := 1) hX dX9_splitAt_102 (by decide) ?_
    refine jf_iadd hX dX9_splitAt_103 ?_
    exact jf_iret hX rfl (by decide) (by decide) dX9_splitAt_104
  · refine jf_iload_n hX dX9_splitAt_95 0 rfl ?_
    refine jf_iconst (v := 2) hX dX9_splitAt_96 (by decide) ?_
    refine jf_iadd hX dX9_splitAt_97 ?_
    refine jf_goto (tgt := 104) hX dX9_splitAt_98 (by decide) ?_
    exact jf_iret hX rfl (by decide) (by decide) dX9_splitAt_104
set_option maxRecDepth 20000 in
def gX9_splitAt_71 (N : Nat)   (x0 : Nat) (x1 : Int32) (x2 : Int32) (s0 : Int32) (u : SG) : Option (Int32 × SG) := if s0 = 0 then (gX9_splitAt_87 N  x1 s0 x0 (3 : Int32) x2 u)
  else (gX9_splitAt_87 N  x1 s0 x0 (3 : Int32) (x2 + (256 : Int32)) u)
set_option maxRecDepth 20000 in
set_option maxHeartbeats 4000000 in
theorem jgX9_splitAt_71   {X : XT} (hX : Cx X yX9_splitAt cX9_splitAt 4 (some .int) 9 0 0) (N : Nat)  (x0 : Nat) (x1 : Int32) (x2 : Int32) (s0 : Int32) (u : SG) : JF X True 4 0 0 (jQ X vI 0 0) 71 [(0, .ref x0), (1, .int x1), (2, .int x2)] [.int s0] u (gX9_splitAt_71 N   x0 x1 x2 s0 u) := by
  unfold gX9_splitAt_71
  refine jf_istore_n (lv' := [(3, .int s0), (0, .ref x0), (1, .int x1), (2, .int x2)]) hX dX9_splitAt_71 rfl (by decide) rfl ?_
  refine jf_aload_n hX dX9_splitAt_72 1 rfl ?_
  refine jf_iconst (v := 3) hX dX9_splitAt_73 (by decide) ?_
  refine jf_iload_n hX dX9_splitAt_74 0 rfl ?_
  refine jf_if_eq (tgt := 86) hX dX9_splitAt_75 (by decide) ?_ ?_
  · refine jf_iload_n hX dX9_splitAt_86 3 rfl ?_
    refine jf_lv [2, 0] rfl ?_
    exact jgX9_splitAt_87 hX N  x1 s0 x0 (3 : Int32) x2 u
  · refine jf_iload_n hX dX9_splitAt_78 3 rfl ?_
    refine jf_sipush (v := 256) hX dX9_splitAt_79 (by decide) ?_
    refine jf_iadd hX dX9_splitAt_82 ?_
    refine jf_goto (tgt := 87) hX dX9_splitAt_83 (by decide) ?_
    refine jf_lv [2, 0] rfl ?_
    exact jgX9_splitAt_87 hX N  x1 s0 x0 (3 : Int32) (x2 + (256 : Int32)) u
set_option maxRecDepth 20000 in
def gX9_splitAt_70 (N : Nat)   (x0 : Nat) (x1 : Int32) (x2 : Int32) (u : SG) : Option (Int32 × SG) := gX9_splitAt_71 N  x0 x1 x2 (0 : Int32) u
set_option maxRecDepth 20000 in
set_option maxHeartbeats 4000000 in
theorem jgX9_splitAt_70   {X : XT} (hX : Cx X yX9_splitAt cX9_splitAt 4 (some .int) 9 0 0) (N : Nat)  (x0 : Nat) (x1 : Int32) (x2 : Int32) (u : SG) : JF X True 4 0 0 (jQ X vI 0 0) 70 [(0, .ref x0), (1, .int x1), (2, .int x2)] [] u (gX9_splitAt_70 N   x0 x1 x2 u) := by
  unfold gX9_splitAt_70
  refine jf_iconst (v := 0) hX dX9_splitAt_70 (by decide) ?_
  refine jf_lv [0, 1, 2] rfl ?_
  exact jgX9_splitAt_71 hX N  x0 x1 x2 (0 : Int32) u
set_option maxRecDepth 20000 in
def gX9_splitAt_54 (N : Nat)   (x0 : Nat) (x1 : Int32) (x2 : Int32) (u : SG) : Option (Int32 × SG) := if zK u x0 = 10 then cl (fX9_byteAt N x0 (x1 + (1 : Int32)) u) fun r1 u2 => (if r1 = (61 : Int32) then (gX9_splitAt_71 N  x0 x1 x2 (1 : Int32) u2)
  else (gX9_splitAt_70 N  x0 x1 x2 u2)) else none
set_option maxRecDepth 20000 in
set_option maxHeartbeats 4000000 in
theorem jgX9_splitAt_54   {X : XT} (hX : Cx X yX9_splitAt cX9_splitAt 4 (some .int) 9 0 0) (N : Nat)  (x0 : Nat) (x1 : Int32) (x2 : Int32) (u : SG) : JF X True 4 0 0 (jQ X vI 0 0) 54 [(0, .ref x0), (1, .int x1), (2, .int x2)] [] u (gX9_splitAt_54 N   x0 x1 x2 u) := by
  unfold gX9_splitAt_54
  refine jf_aload_n hX dX9_splitAt_54 0 rfl ?_
  refine jf_iload_n hX dX9_splitAt_55 1 rfl ?_
  refine jf_iconst (v := 1) hX dX9_splitAt_56 (by decide) ?_
  refine jf_iadd hX dX9_splitAt_57 ?_
  refine jf_callV (As := [.int (x1 + (1 : Int32))]) (st := []) hX mo_X9_byteAt wml_487 winst_488 wsel_489 9 ck_X9 rfl (fun l D cT z0 ks => kX9_byteAt N l D cT z0 ks x0 (x1 + (1 : Int32)) u) (by decide) (by decide) (by decide) (by decide) (Nat.le_of_ble_eq_true rfl) rfl rfl dX9_splitAt_58 (fun r1 u2 => ?_)
  refine jf_bipush (v := 61) hX dX9_splitAt_61 (by decide) ?_
  refine jf_icmp_ne (tgt := 70) hX dX9_splitAt_63 (by decide) ?_ ?_
  · refine jf_lv [0, 1, 2] rfl ?_
    exact jgX9_splitAt_70 hX N  x0 x1 x2 u2
  · refine jf_iconst (v := 1) hX dX9_splitAt_66 (by decide) ?_
    refine jf_goto (tgt := 71) hX dX9_splitAt_67 (by decide) ?_
    refine jf_lv [0, 1, 2] rfl ?_
    exact jgX9_splitAt_71 hX N  x0 x1 x2 (1 : Int32) u2
set_option maxRecDepth 20000 in
def fX9_splitAt (N : Nat)  (a0 : Nat) (p1 : Int32) (u : SG) : Option (Int32 × SG) := if zK u a0 = 10 then cl (fX9_byteAt N a0 p1 u) fun r1 u2 => (if r1 = (32 : Int32) then (some (p1 + (1 : Int32), u2))
  else (cl (fX9_isDigit N r1 u2) fun r3 u4 => (if r3 = 0 then (cl (fX9_isSmall N r1 u4) fun r5 u6 => (if r5 = 0 then (if r1 = (60 : Int32) then (gX9_splitAt_54 N  a0 p1 r1 u6)
  else (if r1 = (62 : Int32) then (gX9_splitAt_54 N  a0 p1 r1 u6)
  else (gX9_splitAt_70 N  a0 p1 r1 u6)))
  else (if zK u6 a0 = 10 then cl (fX9_splitWord N a0 p1 u6) fun r7 u8 => (some (r7, u8)) else none)))
  else (if zK u4 a0 = 10 then cl (fX9_splitNumber N a0 p1 u4) fun r9 u10 => (some (r9, u10)) else none)))) else none
set_option maxRecDepth 20000 in
set_option maxHeartbeats 4000000 in
theorem kX9_splitAt  (N : Nat)  (l : Launch) (D : va_G) (cT : Nat → ClassId) (z0 : Nat) (ks : Nat × Nat) (a0 : Nat) (p1 : Int32) (u : SG) : Ct l D cT z0 ks yX9_splitAt cX9_splitAt 4 (some .int) 9 0 0 vI [.ref a0, .int p1] u (fX9_splitAt N  a0 p1 u) := by
  unfold fX9_splitAt
  refine ct_of (by decide +kernel) (Nat.le_of_ble_eq_true rfl) (fun p e R s m args below meth c hX => ?_)
  show JF _ True 4 0 0 _ 0 [(0, .ref a0), (1, .int p1)] [] u _
  refine jf_aload_n hX dX9_splitAt_0 0 rfl ?_
  refine jf_iload_n hX dX9_splitAt_1 1 rfl ?_
  refine jf_callV (As := [.int p1]) (st := []) hX mo_X9_byteAt wml_487 winst_488 wsel_489 9 ck_X9 rfl (fun l D cT z0 ks => kX9_byteAt N l D cT z0 ks a0 p1 u) (by decide) (by decide) (by decide) (by decide) (Nat.le_of_ble_eq_true rfl) rfl rfl dX9_splitAt_2 (fun r1 u2 => ?_)
  refine jf_istore_n (lv' := [(2, .int r1), (0, .ref a0), (1, .int p1)]) hX dX9_splitAt_5 rfl (by decide) rfl ?_
  refine jf_iload_n hX dX9_splitAt_6 0 rfl ?_
  refine jf_bipush (v := 32) hX dX9_splitAt_7 (by decide) ?_
  refine jf_icmp_ne (tgt := 16) hX dX9_splitAt_9 (by decide) ?_ ?_
  · refine jf_iload_n hX dX9_splitAt_16 0 rfl ?_
    refine jf_callS (As := [.int r1]) (st := []) hX mo_X9_isDigit wml_490 wstat_491 rfl (fun l D cT z0 ks => kX9_isDigit N l D cT z0 ks r1 u2) (by decide) (by decide) (by decide) (by decide) (Nat.le_of_ble_eq_true rfl) rfl rfl dX9_splitAt_17 (fun r3 u4 => ?_)
    refine jf_if_eq (tgt := 29) hX dX9_splitAt_20 (by decide) ?_ ?_
    · refine jf_iload_n hX dX9_splitAt_29 0 rfl ?_
      refine jf_callS (As := [.int r1]) (st := []) hX mo_X9_isSmall wml_504 wstat_505 rfl (fun l D cT z0 ks => kX9_isSmall N l D cT z0 ks r1 u4) (by decide) (by decide) (by decide) (by decide) (Nat.le_of_ble_eq_true rfl) rfl rfl dX9_splitAt_30 (fun r5 u6 => ?_)
      refine jf_if_eq (tgt := 42) hX dX9_splitAt_33 (by decide) ?_ ?_
      · refine jf_iload_n hX dX9_splitAt_42 0 rfl ?_
        refine jf_bipush (v := 60) hX dX9_splitAt_43 (by decide) ?_
        refine jf_icmp_eq (tgt := 54) hX dX9_splitAt_45 (by decide) ?_ ?_
        · refine jf_lv [1, 2, 0] rfl ?_
          exact jgX9_splitAt_54 hX N  a0 p1 r1 u6
        · refine jf_iload_n hX dX9_splitAt_48 0 rfl ?_
          refine jf_bipush (v := 62) hX dX9_splitAt_49 (by decide) ?_
          refine jf_icmp_ne (tgt := 70) hX dX9_splitAt_51 (by decide) ?_ ?_
          · refine jf_lv [1, 2, 0] rfl ?_
            exact jgX9_splitAt_70 hX N  a0 p1 r1 u6
          · refine jf_lv [1, 2, 0] rfl ?_
            exact jgX9_splitAt_54 hX N  a0 p1 r1 u6
      · refine jf_aload_n hX dX9_splitAt_36 1 rfl ?_
        refine jf_iload_n hX dX9_splitAt_37 2 rfl ?_
        refine jf_callV (As := [.int p1]) (st := []) hX mo_X9_splitWord wml_509 winst_510 wsel_511 9 ck_X9 rfl (fun l D cT z0 ks => kX9_splitWord N l D cT z0 ks a0 p1 u6) (by decide) (by decide) (by decide) (by decide) (Nat.le_of_ble_eq_true rfl) rfl rfl dX9_splitAt_38 (fun r7 u8 => ?_)
        exact jf_iret hX rfl (by decide) (by decide) dX9_splitAt_41
    · refine jf_aload_n hX dX9_splitAt_23 1 rfl ?_
      refine jf_iload_n hX dX9_splitAt_24 2 rfl ?_
      refine jf_callV (As := [.int p1]) (st := []) hX mo_X9_splitNumber wml_512 winst_513 wsel_514 9 ck_X9 rfl (fun l D cT z0 ks => kX9_splitNumber N l D cT z0 ks a0 p1 u4) (by decide) (by decide) (by decide) (by decide) (Nat.le_of_ble_eq_true rfl) rfl rfl dX9_splitAt_25 (fun r9 u10 => ?_)
      exact jf_iret hX rfl (by decide) (by decide) dX9_splitAt_28
  · refine jf_iload_n hX dX9_splitAt_12 2 rfl ?_
    refine jf_iconst (v := 1) hX dX9_splitAt_13 (by decide) ?_
    refine jf_iadd hX dX9_splitAt_14 ?_
    exact jf_iret hX rfl (by decide) (by decide) dX9_splitAt_15
set_option maxRecDepth 20000 in
def gX9_step_92 (N : Nat)   (x0 : Nat) (s0 : Nat) (s1 : Int32) (u : SG) : Option (Unit × SG) := if zK u s0 = 10 then bs (sI u s0 10 s1) fun u1 => (if zK u1 x0 = 10 then (if (zI u1 x0 8) = (3 : Int32) then (if zK u1 x0 = 10 then (Option.bind (zR u1 x0 4) fun q3 => (if zK u1 x0 = 10 then (if zK u1 q3 = 22 then if (zI u1 x0 7) < 0 ∨ zN u1 q3 ≤ (zI u1 x0 7).toNatClampNeg then none else (if zK u1 x0 = 10 then bs (sI u1 x0 11 (zI u1 q3 (zI u1 x0 7).toNatClampNeg)) fun u4 => (some ((), u4)) else none) else none) else none)) else none)
  else (if zK u1 x0 = 10 then bs (sI u1 x0 11 (-1 : Int32)) fun u2 => (some ((), u2)) else none)) else none) else none
set_option maxRecDepth 20000 in
set_option maxHeartbeats 4000000 in
theorem jgX9_step_92   {X : XT} (hX : Cx X yX9_step cX9_step 2 none 1 0 0) (N : Nat)  (x0 : Nat) (s0 : Nat) (s1 : Int32) (u : SG) : JF X True 2 0 0 (jQ X vU 0 0) 92 [(0, .ref x0)] [.int s1, .ref s0] u (gX9_step_92 N   x0 s0 s1 u) := by
  unfold gX9_step_92
  refine jf_putI hX trivial ck_X9 10 wfl_518 (by decide) rfl rfl rfl dX9_step_92 (fun u1 => ?_)
  refine jf_aload_n hX dX9_step_95 0 rfl ?_
  refine jf_aload_n hX dX9_step_96 0 rfl ?_
  refine jf_getI hX ck_X9 8 wfl_516 (by decide) rfl dX9_step_97 ?_
  refine jf_iconst (v := 3) hX dX9_step_100 (by decide) ?_
  refine jf_icmp_ne (tgt := 116) hX dX9_step_101 (by decide) ?_ ?_
  · refine jf_iconst (v := -1) hX dX9_step_116 (by decide) ?_
    refine jf_putI hX trivial ck_X9 11 wfl_519 (by decide) rfl rfl rfl dX9_step_117 (fun u2 => ?_)
    exact jf_vret hX rfl (by decide) (by decide) dX9_step_120
  · refine jf_aload_n hX dX9_step_104 0 rfl ?_
    refine jf_getR hX ck_X9 4 wfl_485 (by decide) rfl dX9_step_105 ?_
    refine jf_nn (fun q3 => ?_)
    refine jf_aload_n hX dX9_step_108 0 rfl ?_
    refine jf_getI hX ck_X9 7 wfl_515 (by decide) rfl dX9_step_109 ?_
    refine jf_iald hX dX9_step_112 ?_
    refine jf_goto (tgt := 117) hX dX9_step_113 (by decide) ?_
    refine jf_putI hX trivial ck_X9 11 wfl_519 (by decide) rfl rfl rfl dX9_step_117 (fun u4 => ?_)
    exact jf_vret hX rfl (by decide) (by decide) dX9_step_120
set_option maxRecDepth 20000 in
def gX9_step_67 (N : Nat)   (x0 : Nat) (s0 : Nat) (s1 : Int32) (u : SG) : Option (Unit × SG) := if zK u s0 = 10 then bs (sI u s0 9 s1) fun u1 => (if zK u1 x0 = 10 then (if (zI u1 x0 8) = (2 : Int32) then (if zK u1 x0 = 10 then (Option.bind (zR u1 x0 4) fun q2 => (if zK u1 x0 = 10 then (if zK u1 q2 = 22 then if (zI u1 x0 7) < 0 ∨ zN u1 q2 ≤ (zI u1 x0 7).toNatClampNeg then none else (gX9_step_92 N  x0 x0 (zI u1 q2 (zI u1 x0 7).toNatClampNeg) u1) else none) else none)) else none)
  else (gX9_step_92 N  x0 x0 (-1 : Int32) u1)) else none) else none
set_option maxRecDepth 20000 in
set_option maxHeartbeats 4000000 in
theorem jgX9_step_67   {X : XT} (hX : Cx X yX9_step cX9_step 2 none 1 0 0) (N : Nat)  (x0 : Nat) (s0 : Nat) (s1 : Int32) (u : SG) : JF X True 2 0 0 (jQ X vU 0 0) 67 [(0, .ref x0)] [.int s1, .ref s0] u (gX9_step_67 N   x0 s0 s1 u) := by
  unfold gX9_step_67
  refine jf_putI hX trivial ck_X9 9 wfl_517 (by decide) rfl rfl rfl dX9_step_67 (fun u1 => ?_)
  refine jf_aload_n hX dX9_step_70 0 rfl ?_
  refine jf_aload_n hX dX9_step_71 0 rfl ?_
  refine jf_getI hX ck_X9 8 wfl_516 (by decide) rfl dX9_step_72 ?_
  refine jf_iconst (v := 2) hX dX9_step_75 (by decide) ?_
  refine jf_icmp_ne (tgt := 91) hX dX9_step_76 (by decide) ?_ ?_
  · refine jf_iconst (v := -1) hX dX9_step_91 (by decide) ?_
    refine jf_lv [0] rfl ?_
    exact jgX9_step_92 hX N  x0 x0 (-1 : Int32) u1
  · refine jf_aload_n hX dX9_step_79 0 rfl ?_
    refine jf_getR hX ck_X9 4 wfl_485 (by decide) rfl dX9_step_80 ?_
    refine jf_nn (fun q2 => ?_)
    refine jf_aload_n hX dX9_step_83 0 rfl ?_
    refine jf_getI hX ck_X9 7 wfl_515 (by decide) rfl dX9_step_84 ?_
    refine jf_iald hX dX9_step_87 ?_
    refine jf_goto (tgt := 92) hX dX9_step_88 (by decide) ?_
    refine jf_lv [0] rfl ?_
    exact jgX9_step_92 hX N  x0 x0 (zI u1 q2 (zI u1 x0 7).toNatClampNeg) u1
set_option maxRecDepth 20000 in
def fX9_step (N : Nat)  (a0 : Nat) (u : SG) : Option (Unit × SG) := if zK u a0 = 10 then (bs ((zI u a0 7) + (1 : Int32)) fun v1 => (if v1 < 0 then (some ((), u))
  else (if zK u a0 = 10 then (if (zI u a0 6) ≤ v1 then (some ((), u))
  else (if v1 ≤ (400 : Int32) then (if zK u a0 = 10 then bs (sI u a0 7 v1) fun u2 => (if zK u2 a0 = 10 then (Option.bind (zR u2 a0 3) fun q3 => (if zK u2 a0 = 10 then (if zK u2 q3 = 22 then if (zI u2 a0 7) < 0 ∨ zN u2 q3 ≤ (zI u2 a0 7).toNatClampNeg then none else (if zK u2 a0 = 10 then bs (sI u2 a0 8 (zI u2 q3 (zI u2 a0 7).toNatClampNeg)) fun u4 => (if zK u4 a0 = 10 then (if (zI u4 a0 8) = (1 : Int32) then (if zK u4 a0 = 10 then (Option.bind (zR u4 a0 4) fun q5 => (if zK u4 a0 = 10 then (if zK u4 q5 = 22 then if (zI u4 a0 7) < 0 ∨ zN u4 q5 ≤ (zI u4 a0 7).toNatClampNeg then none else (gX9_step_67 N  a0 a0 (zI u4 q5 (zI u4 a0 7).toNatClampNeg) u4) else none) else none)) else none)
  else (gX9_step_67 N  a0 a0 (-1 : Int32) u4)) else none) else none) else none) else none)) else none) else none)
  else (some ((), u)))) else none))) else none
set_option maxRecDepth 20000 in
set_option maxHeartbeats 4000000 in
theorem kX9_step  (N : Nat)  (l : Launch) (D : va_G) (cT : Nat → ClassId) (z0 : Nat) (ks : Nat × Nat) (a0 : Nat) (u : SG) : Ct l D cT z0 ks yX9_step cX9_step 2 none 1 0 0 vU [.ref a0] u (fX9_step N  a0 u) := by
  unfold fX9_step
  refine ct_of (by decide +kernel) (Nat.le_of_ble_eq_true rfl) (fun p e R s m args below meth c hX => ?_)
  show JF _ True 2 0 0 _ 0 [(0, .ref a0)] [] u _
  refine jf_aload_n hX dX9_step_0 0 rfl ?_
  refine jf_getI hX ck_X9 7 wfl_515 (by decide) rfl dX9_step_1 ?_
  refine jf_iconst (v := 1) hX dX9_step_4 (by decide) ?_
  refine jf_iadd hX dX9_step_5 ?_
  refine jf_nmI (fun v1 => ?_)
  refine jf_istore_n (lv' := [(1, .int v1), (0, .ref a0)]) hX dX9_step_6 rfl (by decide) rfl ?_
  refine jf_iload_n hX dX9_step_7 0 rfl ?_
  refine jf_if_lt (tgt := 26) hX dX9_step_8 (by decide) ?_ ?_
  · exact jf_vret hX rfl (by decide) (by decide) dX9_step_26
  · refine jf_iload_n hX dX9_step_11 0 rfl ?_
    refine jf_aload_n hX dX9_step_12 1 rfl ?_
    refine jf_getI hX ck_X9 6 wfl_483 (by decide) rfl dX9_step_13 ?_
    refine jf_icmp_ge (tgt := 26) hX dX9_step_16 (by decide) ?_ ?_
    · exact jf_vret hX rfl (by decide) (by decide) dX9_step_26
    · refine jf_iload_n hX dX9_step_19 0 rfl ?_
      refine jf_sipush (v := 400) hX dX9_step_20 (by decide) ?_
      refine jf_icmp_le (tgt := 27) hX dX9_step_23 (by decide) ?_ ?_
      · refine jf_aload_n hX dX9_step_27 1 rfl ?_
        refine jf_iload_n hX dX9_step_28 0 rfl ?_
        refine jf_putI hX trivial ck_X9 7 wfl_515 (by decide) rfl rfl rfl dX9_step_29 (fun u2 => ?_)
        refine jf_aload_n hX dX9_step_32 1 rfl ?_
        refine jf_aload_n hX dX9_step_33 1 rfl ?_
        refine jf_getR hX ck_X9 3 wfl_484 (by decide) rfl dX9_step_34 ?_
        refine jf_nn (fun q3 => ?_)
        refine jf_aload_n hX dX9_step_37 1 rfl ?_
        refine jf_getI hX ck_X9 7 wfl_515 (by decide) rfl dX9_step_38 ?_
        refine jf_iald hX dX9_step_41 ?_
        refine jf_putI hX trivial ck_X9 8 wfl_516 (by decide) rfl rfl rfl dX9_step_42 (fun u4 => ?_)
        refine jf_aload_n hX dX9_step_45 1 rfl ?_
        refine jf_aload_n hX dX9_step_46 1 rfl ?_
        refine jf_getI hX ck_X9 8 wfl_516 (by decide) rfl dX9_step_47 ?_
        refine jf_iconst (v := 1) hX dX9_step_50 (by decide) ?_
        refine jf_icmp_ne (tgt := 66) hX dX9_step_51 (by decide) ?_ ?_
        · refine jf_iconst (v := -1) hX dX9_step_66 (by decide) ?_
          refine jf_lv [1] rfl ?_
          exact jgX9_step_67 hX N  a0 a0 (-1 : Int32) u4
        · refine jf_aload_n hX dX9_step_54 1 rfl ?_
          refine jf_getR hX ck_X9 4 wfl_485 (by decide) rfl dX9_step_55 ?_
          refine jf_nn (fun q5 => ?_)
          refine jf_aload_n hX dX9_step_58 1 rfl ?_
          refine jf_getI hX ck_X9 7 wfl_515 (by decide) rfl dX9_step_59 ?_
          refine jf_iald hX dX9_step_62 ?_
          refine jf_goto (tgt := 67) hX dX9_step_63 (by decide) ?_
          refine jf_lv [1] rfl ?_
          exact jgX9_step_67 hX N  a0 a0 (zI u4 q5 (zI u4 a0 7).toNatClampNeg) u4
      · exact jf_vret hX rfl (by decide) (by decide) dX9_step_26
set_option maxRecDepth 20000 in
def gX9_open_46 (N : Nat)   (x0 : Nat) (u : SG) : Option (Unit × SG) := if zK u x0 = 10 then (if zK u x0 = 10 then cl (fX9_add N x0 (0 : Int32) (0 : Int32) (zI u x0 1) u) fun r1 u2 => (if zK u2 x0 = 10 then cl (fX9_step N x0 u2) fun r3 u4 => (some ((), u4)) else none) else none) else none
set_option maxRecDepth 20000 in
set_option maxHeartbeats 4000000 in
theorem jgX9_open_46   {X : XT} (hX : Cx X yX9_open cX9_open 3 none 10 0 0) (N : Nat)  (x0 : Nat) (u : SG) : JF X True 3 0 0 (jQ X vU 0 0) 46 [(0, .ref x0)] [] u (gX9_open_46 N   x0 u) := by
  unfold gX9_open_46
  refine jf_aload_n hX dX9_open_46 0 rfl ?_
  refine jf_iconst (v := 0) hX dX9_open_47 (by decide) ?_
  refine jf_iconst (v := 0) hX dX9_open_48 (by decide) ?_
  refine jf_aload_n hX dX9_open_49 0 rfl ?_
  refine jf_getI hX ck_X9 1 wfl_481 (by decide) rfl dX9_open_50 ?_
  refine jf_callV (As := [.int (0 : Int32), .int (0 : Int32), .int (zI u x0 1)]) (st := []) hX mo_X9_add wml_492 winst_493 wsel_494 9 ck_X9 rfl (fun l D cT z0 ks => kX9_add N l D cT z0 ks x0 (0 : Int32) (0 : Int32) (zI u x0 1) u) (by decide) (by decide) (by decide) (by decide) (Nat.le_of_ble_eq_true rfl) rfl rfl dX9_open_53 (fun r1 u2 => ?_)
  refine jf_aload_n hX dX9_open_56 0 rfl ?_
  refine jf_callV (As := []) (st := []) hX mo_X9_step wml_524 winst_525 wsel_526 9 ck_X9 rfl (fun l D cT z0 ks => kX9_step N l D cT z0 ks x0 u2) (by decide) (by decide) (by decide) (by decide) (Nat.le_of_ble_eq_true rfl) rfl rfl dX9_open_57 (fun r3 u4 => ?_)
  exact jf_vret hX rfl (by decide) (by decide) dX9_open_60
set_option maxRecDepth 20000 in
def gX9_open_19 (N : Nat)   : Nat → Nat → Int32 → Int32 → SG → Option (Unit × SG)
  | 0, _, _, _, _ => none
  | n + 1, x0, x1, x2, u => if (400 : Int32) ≤ x2 then (gX9_open_46 N  x0 u)
  else (if zK u x0 = 10 then (if (zI u x0 1) ≤ x1 then (gX9_open_46 N  x0 u)
  else (if zK u x0 = 10 then cl (fX9_splitAt N x0 x1 u) fun r1 u2 => ((gX9_open_19 N  n) x0 r1 (x2 + (1 : Int32)) u2) else none)) else none)
set_option maxRecDepth 20000 in
set_option maxHeartbeats 4000000 in
theorem jgX9_open_19   {X : XT} (hX : Cx X yX9_open cX9_open 3 none 10 0 0) (N : Nat)  : ∀ (n : Nat) (x0 : Nat) (x1 : Int32) (x2 : Int32) (u : SG), JF X True 3 0 0 (jQ X vU 0 0) 19 [(0, .ref x0), (1, .int x1), (2, .int x2)] [] u (gX9_open_19 N   n x0 x1 x2 u) := by
  intro n
  induction n with
  | zero => intros; intro r u9 h9; exact absurd h9 (by simp [gX9_open_19])
  | succ n ih =>
    intro x0 x1 x2 u
    have hrec19 := ih
    rw [gX9_open_19]
    refine jf_iload_n hX dX9_open_19 2 rfl ?_
    refine jf_sipush (v := 400) hX dX9_open_20 (by decide) ?_
    refine jf_icmp_ge (tgt := 46) hX dX9_open_23 (by decide) ?_ ?_
    · refine jf_lv [0] rfl ?_
      exact jgX9_open_46 hX N  x0 u
    · refine jf_iload_n hX dX9_open_26 1 rfl ?_
      refine jf_aload_n hX dX9_open_27 0 rfl ?_
      refine jf_getI hX ck_X9 1 wfl_481 (by decide) rfl dX9_open_28 ?_
      refine jf_icmp_ge (tgt := 46) hX dX9_open_31 (by decide) ?_ ?_
      · refine jf_lv [0] rfl ?_
        exact jgX9_open_46 hX N  x0 u
      · refine jf_aload_n hX dX9_open_34 0 rfl ?_
        refine jf_iload_n hX dX9_open_35 1 rfl ?_
        refine jf_callV (As := [.int x1]) (st := []) hX mo_X9_splitAt wml_521 winst_522 wsel_523 9 ck_X9 rfl (fun l D cT z0 ks => kX9_splitAt N l D cT z0 ks x0 x1 u) (by decide) (by decide) (by decide) (by decide) (Nat.le_of_ble_eq_true rfl) rfl rfl dX9_open_36 (fun r1 u2 => ?_)
        refine jf_istore_n (lv' := [(1, .int r1), (0, .ref x0), (2, .int x2)]) hX dX9_open_39 rfl (by decide) rfl ?_
        refine jf_iinc (v := 1) (lv' := [(2, .int (x2 + (1 : Int32))), (1, .int r1), (0, .ref x0)]) hX dX9_open_40 2 rfl (by decide) (by decide) rfl ?_
        refine jf_goto (tgt := 19) hX dX9_open_43 (by decide) ?_
        refine jf_lv [2, 1, 0] rfl ?_
        exact hrec19 x0 r1 (x2 + (1 : Int32)) u2
set_option maxRecDepth 20000 in
def fX9_open (N : Nat)  (a0 : Nat) (u : SG) : Option (Unit × SG) := if zK u a0 = 10 then bs (sI u a0 6 (0 : Int32)) fun u1 => (if zK u1 a0 = 10 then bs (sI u1 a0 7 (-1 : Int32)) fun u2 => (if zK u2 a0 = 10 then bs (sI u2 a0 2 (0 : Int32)) fun u3 => (gX9_open_19 N  N a0 (0 : Int32) (0 : Int32) u3) else none) else none) else none
set_option maxRecDepth 20000 in
set_option maxHeartbeats 4000000 in
theorem kX9_open  (N : Nat)  (l : Launch) (D : va_G) (cT : Nat → ClassId) (z0 : Nat) (ks : Nat × Nat) (a0 : Nat) (u : SG) : Ct l D cT z0 ks yX9_open cX9_open 3 none 10 0 0 vU [.ref a0] u (fX9_open N  a0 u) := by
  unfold fX9_open
  refine ct_of (by decide +kernel) (Nat.le_of_ble_eq_true rfl) (fun p e R s m args below meth c hX => ?_)
  show JF _ True 3 0 0 _ 0 [(0, .ref a0)] [] u _
  refine jf_aload_n hX dX9_open_0 0 rfl ?_
  refine jf_iconst (v := 0) hX dX9_open_1 (by decide) ?_
  refine jf_putI hX trivial ck_X9 6 wfl_483 (by decide) rfl rfl rfl dX9_open_2 (fun u1 => ?_)
  refine jf_aload_n hX dX9_open_5 0 rfl ?_
  refine jf_iconst (v := -1) hX dX9_open_6 (by decide) ?_
  refine jf_putI hX trivial ck_X9 7 wfl_515 (by decide) rfl rfl rfl dX9_open_7 (fun u2 => ?_)
  refine jf_aload_n hX dX9_open_10 0 rfl ?_
  refine jf_iconst (v := 0) hX dX9_open_11 (by decide) ?_
  refine jf_putI hX trivial ck_X9 2 wfl_520 (by decide) rfl rfl rfl dX9_open_12 (fun u3 => ?_)
  refine jf_iconst (v := 0) hX dX9_open_15 (by decide) ?_
  refine jf_istore_n (lv' := [(1, .int (0 : Int32)), (0, .ref a0)]) hX dX9_open_16 rfl (by decide) rfl ?_
  refine jf_iconst (v := 0) hX dX9_open_17 (by decide) ?_
  refine jf_istore_n (lv' := [(2, .int (0 : Int32)), (1, .int (0 : Int32)), (0, .ref a0)]) hX dX9_open_18 rfl (by decide) rfl ?_
  refine jf_lv [2, 1, 0] rfl ?_
  exact jgX9_open_19 hX N  N a0 (0 : Int32) (0 : Int32) u3
set_option maxRecDepth 20000 in
def gX9_refuse_30 (N : Nat)   (x0 : Nat) (x1 : Int32) (s0 : Int32) (u : SG) : Option (Int32 × SG) := if zK u x0 = 10 then bs (sI u x0 2 (((1 : Int32) + ((8 : Int32) * s0)) + x1)) fun u1 => (some ((0 : Int32), u1)) else none
set_option maxRecDepth 20000 in
set_option maxHeartbeats 4000000 in
theorem jgX9_refuse_30   {X : XT} (hX : Cx X yX9_refuse cX9_refuse 3 (some .boolean) 1 0 0) (N : Nat)  (x0 : Nat) (x1 : Int32) (s0 : Int32) (u : SG) : JF X True 3 0 0 (jQ X vI 0 0) 30 [(0, .ref x0), (1, .int x1)] [.int s0] u (gX9_refuse_30 N   x0 x1 s0 u) := by
  unfold gX9_refuse_30
  refine jf_istore_n (lv' := [(2, .int s0), (0, .ref x0), (1, .int x1)]) hX dX9_refuse_30 rfl (by decide) rfl ?_
  refine jf_aload_n hX dX9_refuse_31 1 rfl ?_
  refine jf_iconst (v := 1) hX dX9_refuse_32 (by decide) ?_
  refine jf_bipush (v := 8) hX dX9_refuse_33 (by decide) ?_
  refine jf_iload_n hX dX9_refuse_35 0 rfl ?_
  refine jf_imul hX dX9_refuse_36 ?_
  refine jf_iadd hX dX9_refuse_37 ?_
  refine jf_iload_n hX dX9_refuse_38 2 rfl ?_
  refine jf_iadd hX dX9_refuse_39 ?_
  refine jf_putI hX trivial ck_X9 2 wfl_520 (by decide) rfl rfl rfl dX9_refuse_40 (fun u1 => ?_)
  refine jf_iconst (v := 0) hX dX9_refuse_43 (by decide) ?_
  exact jf_zretc hX rfl (by decide) (by decide) (by decide) dX9_refuse_44
set_option maxRecDepth 20000 in
def gX9_refuse_29 (N : Nat)   (x0 : Nat) (x1 : Int32) (u : SG) : Option (Int32 × SG) := gX9_refuse_30 N  x0 x1 (0 : Int32) u
set_option maxRecDepth 20000 in
set_option maxHeartbeats 4000000 in
theorem jgX9_refuse_29   {X : XT} (hX : Cx X yX9_refuse cX9_refuse 3 (some .boolean) 1 0 0) (N : Nat)  (x0 : Nat) (x1 : Int32) (u : SG) : JF X True 3 0 0 (jQ X vI 0 0) 29 [(0, .ref x0), (1, .int x1)] [] u (gX9_refuse_29 N   x0 x1 u) := by
  unfold gX9_refuse_29
  refine jf_iconst (v := 0) hX dX9_refuse_29 (by decide) ?_
  refine jf_lv [0, 1] rfl ?_
  exact jgX9_refuse_30 hX N  x0 x1 (0 : Int32) u
set_option maxRecDepth 20000 in
def fX9_refuse (N : Nat)  (a0 : Nat) (p1 : Int32) (u : SG) : Option (Int32 × SG) := if zK u a0 = 10 then (if (zI u a0 7) < 0 then (gX9_refuse_29 N  a0 p1 u)
  else (if zK u a0 = 10 then (if (400 : Int32) < (zI u a0 7) then (gX9_refuse_29 N  a0 p1 u)
  else (if zK u a0 = 10 then (Option.bind (zR u a0 5) fun q1 => (if zK u a0 = 10 then (if zK u q1 = 22 then if (zI u a0 7) < 0 ∨ zN u q1 ≤ (zI u a0 7).toNatClampNeg then none else (gX9_refuse_30 N  a0 p1 (zI u q1 (zI u a0 7).toNatClampNeg) u) else none) else none)) else none)) else none)) else none
set_option maxRecDepth 20000 in
set_option maxHeartbeats 4000000 in
theorem kX9_refuse  (N : Nat)  (l : Launch) (D : va_G) (cT : Nat → ClassId) (z0 : Nat) (ks : Nat × Nat) (a0 : Nat) (p1 : Int32) (u : SG) : Ct l D cT z0 ks yX9_refuse cX9_refuse 3 (some .boolean) 1 0 0 vI [.ref a0, .int p1] u (fX9_refuse N  a0 p1 u) := by
  unfold fX9_refuse
  refine ct_of (by decide +kernel) (Nat.le_of_ble_eq_true rfl) (fun p e R s m args below meth c hX => ?_)
  show JF _ True 3 0 0 _ 0 [(0, .ref a0), (1, .int p1)] [] u _
  refine jf_aload_n hX dX9_refuse_0 0 rfl ?_
  refine jf_getI hX ck_X9 7 wfl_515 (by decide) rfl dX9_refuse_1 ?_
  refine jf_if_lt (tgt := 29) hX dX9_refuse_4 (by decide) ?_ ?_
  · refine jf_lv [0, 1] rfl ?_
    exact jgX9_refuse_29 hX N  a0 p1 u
  · refine jf_aload_n hX dX9_refuse_7 0 rfl ?_
    refine jf_getI hX ck_X9 7 wfl_515 (by decide) rfl dX9_refuse_8 ?_
    refine jf_sipush (v := 400) hX dX9_refuse_11 (by decide) ?_
    refine jf_icmp_gt (tgt := 29) hX dX9_refuse_14 (by decide) ?_ ?_
    · refine jf_lv [0, 1] rfl ?_
      exact jgX9_refuse_29 hX N  a0 p1 u
    · refine jf_aload_n hX dX9_refuse_17 0 rfl ?_
      refine jf_getR hX ck_X9 5 wfl_486 (by decide) rfl dX9_refuse_18 ?_
      refine jf_nn (fun q1 => ?_)
      refine jf_aload_n hX dX9_refuse_21 0 rfl ?_
      refine jf_getI hX ck_X9 7 wfl_515 (by decide) rfl dX9_refuse_22 ?_
      refine jf_iald hX dX9_refuse_25 ?_
      refine jf_goto (tgt := 30) hX dX9_refuse_26 (by decide) ?_
      refine jf_lv [0, 1] rfl ?_
      exact jgX9_refuse_30 hX N  a0 p1 (zI u q1 (zI u a0 7).toNatClampNeg) u
set_option maxRecDepth 20000 in
def fX5_emit (N : Nat)  (a0 : Nat) (p1 : Int32) (u : SG) : Option (Int32 × SG) := if p1 = (-99 : Int32) then (some ((1 : Int32), u))
  else (if zK u a0 = 6 then (if (zI u a0 2) < 0 then (some ((1 : Int32), u))
  else (if zK u a0 = 6 then (if (412 : Int32) ≤ (zI u a0 2) then (some ((1 : Int32), u))
  else (if zK u a0 = 6 then (Option.bind (zR u a0 1) fun q1 => (if zK u a0 = 6 then (if zK u q1 = 22 then if (zI u a0 2) < 0 ∨ zN u q1 ≤ (zI u a0 2).toNatClampNeg then none else bs (sI u q1 (zI u a0 2).toNatClampNeg p1) fun u2 => (if zK u2 a0 = 6 then (if zK u2 a0 = 6 then bs (sI u2 a0 2 ((zI u2 a0 2) + (1 : Int32))) fun u3 => (some ((1 : Int32), u3)) else none) else none) else none) else none)) else none)) else none)) else none)
set_option maxRecDepth 20000 in
set_option maxHeartbeats 4000000 in
theorem kX5_emit  (N : Nat)  (l : Launch) (D : va_G) (cT : Nat → ClassId) (z0 : Nat) (ks : Nat × Nat) (a0 : Nat) (p1 : Int32) (u : SG) : Ct l D cT z0 ks yX5_emit cX5_emit 2 (some .boolean) 1 0 0 vI [.ref a0, .int p1] u (fX5_emit N  a0 p1 u) := by
  unfold fX5_emit
  refine ct_of (by decide +kernel) (Nat.le_of_ble_eq_true rfl) (fun p e R s m args below meth c hX => ?_)
  show JF _ True 2 0 0 _ 0 [(0, .ref a0), (1, .int p1)] [] u _
  refine jf_iload_n hX dX5_emit_0 1 rfl ?_
  refine jf_bipush (v := -99) hX dX5_emit_1 (by decide) ?_
  refine jf_icmp_eq (tgt := 43) hX dX5_emit_3 (by decide) ?_ ?_
  · refine jf_iconst (v := 1) hX dX5_emit_43 (by decide) ?_
    exact jf_zretc hX rfl (by decide) (by decide) (by decide) dX5_emit_44
  · refine jf_aload_n hX dX5_emit_6 0 rfl ?_
    refine jf_getI hX ck_X5 2 wfl_473 (by decide) rfl dX5_emit_7 ?_
    refine jf_if_lt (tgt := 43) hX dX5_emit_10 (by decide) ?_ ?_
    · refine jf_iconst (v := 1) hX dX5_emit_43 (by decide) ?_
      exact jf_zretc hX rfl (by decide) (by decide) (by decide) dX5_emit_44
    · refine jf_aload_n hX dX5_emit_13 0 rfl ?_
      refine jf_getI hX ck_X5 2 wfl_473 (by decide) rfl dX5_emit_14 ?_
      refine jf_sipush (v := 412) hX dX5_emit_17 (by decide) ?_
      refine jf_icmp_ge (tgt := 43) hX dX5_emit_20 (by decide) ?_ ?_
      · refine jf_iconst (v := 1) hX dX5_emit_43 (by decide) ?_
        exact jf_zretc hX rfl (by decide) (by decide) (by decide) dX5_emit_44
      · refine jf_aload_n hX dX5_emit_23 0 rfl ?_
        refine jf_getR hX ck_X5 1 wfl_472 (by decide) rfl dX5_emit_24 ?_
        refine jf_nn (fun q1 => ?_)
        refine jf_aload_n hX dX5_emit_27 0 rfl ?_
        refine jf_getI hX ck_X5 2 wfl_473 (by decide) rfl dX5_emit_28 ?_
        refine jf_iload_n hX dX5_emit_31 1 rfl ?_
        refine jf_iast hX trivial dX5_emit_32 (fun u2 => ?_)
        refine jf_aload_n hX dX5_emit_33 0 rfl ?_
        refine jf_dup hX dX5_emit_34 rfl ?_
        refine jf_getI hX ck_X5 2 wfl_473 (by decide) rfl dX5_emit_35 ?_
        refine jf_iconst (v := 1) hX dX5_emit_38 (by decide) ?_
        refine jf_iadd hX dX5_emit_39 ?_
        refine jf_putI hX trivial ck_X5 2 wfl_473 (by decide) rfl rfl rfl dX5_emit_40 (fun u3 => ?_)
        refine jf_iconst (v := 1) hX dX5_emit_43 (by decide) ?_
        exact jf_zretc hX rfl (by decide) (by decide) (by decide) dX5_emit_44
set_option maxRecDepth 20000 in
def gX5_readValue_138 (N : Nat)   (x0 : Nat) (s0 : Nat) (s1 : Int32) (u : SG) : Option (Int32 × SG) := if zK u s0 = 6 then cl (fX5_emit N s0 s1 u) fun r1 u2 => (if zK u2 x0 = 6 then (Option.bind (zR u2 x0 0) fun q3 => (if zK u2 q3 = 10 then cl (fX9_step N q3 u2) fun r4 u5 => (some ((1 : Int32), u5)) else none)) else none) else none
set_option maxRecDepth 20000 in
set_option maxHeartbeats 4000000 in
theorem jgX5_readValue_138   {X : XT} (hX : Cx X yX5_readValue cX5_readValue 3 (some .boolean) 2 0 0) (N : Nat)  (x0 : Nat) (s0 : Nat) (s1 : Int32) (u : SG) : JF X True 3 0 0 (jQ X vI 0 0) 138 [(0, .ref x0)] [.int s1, .ref s0] u (gX5_readValue_138 N   x0 s0 s1 u) := by
  unfold gX5_readValue_138
  refine jf_callV (As := [.int s1]) (st := []) hX mo_X5_emit wml_533 winst_534 wsel_535 5 ck_X5 rfl (fun l D cT z0 ks => kX5_emit N l D cT z0 ks s0 s1 u) (by decide) (by decide) (by decide) (by decide) (Nat.le_of_ble_eq_true rfl) rfl rfl dX5_readValue_138 (fun r1 u2 => ?_)
  refine jf_pop hX dX5_readValue_141 rfl ?_
  refine jf_aload_n hX dX5_readValue_142 0 rfl ?_
  refine jf_getR hX ck_X5 0 wfl_475 (by decide) rfl dX5_readValue_143 ?_
  refine jf_nn (fun q3 => ?_)
  refine jf_callV (As := []) (st := []) hX mo_X9_step wml_536 winst_525 wsel_526 9 ck_X9 rfl (fun l D cT z0 ks => kX9_step N l D cT z0 ks q3 u2) (by decide) (by decide) (by decide) (by decide) (Nat.le_of_ble_eq_true rfl) rfl rfl dX5_readValue_146 (fun r4 u5 => ?_)
  refine jf_iconst (v := 1) hX dX5_readValue_149 (by decide) ?_
  exact jf_zretc hX rfl (by decide) (by decide) (by decide) dX5_readValue_150
set_option maxRecDepth 20000 in
def gX5_readValue_86 (N : Nat)   (x0 : Nat) (x1 : Int32) (u : SG) : Option (Int32 × SG) := if zK u x0 = 6 then (if (zI u x0 3) < (60 : Int32) then (if zK u x0 = 6 then (if zK u x0 = 6 then bs (sI u x0 3 ((zI u x0 3) + (1 : Int32))) fun u1 => (if x1 = 0 then (if zK u1 x0 = 6 then (Option.bind (zR u1 x0 0) fun q2 => (if zK u1 q2 = 10 then (gX5_readValue_138 N  x0 x0 ((-1 : Int32) - (zI u1 q2 10)) u1) else none)) else none)
  else (if zK u1 x0 = 6 then (Option.bind (zR u1 x0 0) fun q3 => (if zK u1 q3 = 10 then (gX5_readValue_138 N  x0 x0 (zI u1 q3 9) u1) else none)) else none)) else none) else none)
  else (if zK u x0 = 6 then (Option.bind (zR u x0 0) fun q4 => (if zK u q4 = 10 then cl (fX9_refuse N q4 (3 : Int32) u) fun r5 u6 => (if r5 = 0 ∨ r5 = 1 then some (r5, u6) else none) else none)) else none)) else none
set_option maxRecDepth 20000 in
set_option maxHeartbeats 4000000 in
theorem jgX5_readValue_86   {X : XT} (hX : Cx X yX5_readValue cX5_readValue 3 (some .boolean) 2 0 0) (N : Nat)  (x0 : Nat) (x1 : Int32) (u : SG) : JF X True 3 0 0 (jQ X vI 0 0) 86 [(0, .ref x0), (1, .int x1)] [] u (gX5_readValue_86 N   x0 x1 u) := by
  unfold gX5_readValue_86
  refine jf_aload_n hX dX5_readValue_86 0 rfl ?_
  refine jf_getI hX ck_X5 3 wfl_474 (by decide) rfl dX5_readValue_87 ?_
  refine jf_bipush (v := 60) hX dX5_readValue_90 (by decide) ?_
  refine jf_icmp_lt (tgt := 104) hX dX5_readValue_92 (by decide) ?_ ?_
  · refine jf_aload_n hX dX5_readValue_104 0 rfl ?_
    refine jf_dup hX dX5_readValue_105 rfl ?_
    refine jf_getI hX ck_X5 3 wfl_474 (by decide) rfl dX5_readValue_106 ?_
    refine jf_iconst (v := 1) hX dX5_readValue_109 (by decide) ?_
    refine jf_iadd hX dX5_readValue_110 ?_
    refine jf_putI hX trivial ck_X5 3 wfl_474 (by decide) rfl rfl rfl dX5_readValue_111 (fun u1 => ?_)
    refine jf_aload_n hX dX5_readValue_114 0 rfl ?_
    refine jf_iload_n hX dX5_readValue_115 1 rfl ?_
    refine jf_if_eq (tgt := 129) hX dX5_readValue_116 (by decide) ?_ ?_
    · refine jf_iconst (v := -1) hX dX5_readValue_129 (by decide) ?_
      refine jf_aload_n hX dX5_readValue_130 0 rfl ?_
      refine jf_getR hX ck_X5 0 wfl_475 (by decide) rfl dX5_readValue_131 ?_
      refine jf_nn (fun q2 => ?_)
      refine jf_getI hX ck_X9 10 wfl_528 (by decide) rfl dX5_readValue_134 ?_
      refine jf_isub hX dX5_readValue_137 ?_
      refine jf_lv [0] rfl ?_
      exact jgX5_readValue_138 hX N  x0 x0 ((-1 : Int32) - (zI u1 q2 10)) u1
    · refine jf_aload_n hX dX5_readValue_119 0 rfl ?_
      refine jf_getR hX ck_X5 0 wfl_475 (by decide) rfl dX5_readValue_120 ?_
      refine jf_nn (fun q3 => ?_)
      refine jf_getI hX ck_X9 9 wfl_532 (by decide) rfl dX5_readValue_123 ?_
      refine jf_goto (tgt := 138) hX dX5_readValue_126 (by decide) ?_
      refine jf_lv [0] rfl ?_
      exact jgX5_readValue_138 hX N  x0 x0 (zI u1 q3 9) u1
  · refine jf_aload_n hX dX5_readValue_95 0 rfl ?_
    refine jf_getR hX ck_X5 0 wfl_475 (by decide) rfl dX5_readValue_96 ?_
    refine jf_nn (fun q4 => ?_)
    refine jf_iconst (v := 3) hX dX5_readValue_99 (by decide) ?_
    refine jf_callV (As := [.int (3 : Int32)]) (st := []) hX mo_X9_refuse wml_529 winst_530 wsel_531 9 ck_X9 rfl (fun l D cT z0 ks => kX9_refuse N l D cT z0 ks q4 (3 : Int32) u) (by decide) (by decide) (by decide) (by decide) (Nat.le_of_ble_eq_true rfl) rfl rfl dX5_readValue_100 (fun r5 u6 => ?_)
    exact jf_zret hX rfl (by decide) (by decide) dX5_readValue_103
set_option maxRecDepth 20000 in
def gX5_readValue_62 (N : Nat)   (x0 : Nat) (x1 : Int32) (u : SG) : Option (Int32 × SG) := if x1 = 0 then (gX5_readValue_86 N  x0 x1 u)
  else (if zK u x0 = 6 then (Option.bind (zR u x0 0) fun q1 => (if zK u q1 = 10 then (if (zI u q1 9) = (-1 : Int32) then (if zK u x0 = 6 then (Option.bind (zR u x0 0) fun q2 => (if zK u q2 = 10 then cl (fX9_refuse N q2 (1 : Int32) u) fun r3 u4 => (if r3 = 0 ∨ r3 = 1 then some (r3, u4) else none) else none)) else none)
  else (gX5_readValue_86 N  x0 x1 u)) else none)) else none)
set_option maxRecDepth 20000 in
set_option maxHeartbeats 4000000 in
theorem jgX5_readValue_62   {X : XT} (hX : Cx X yX5_readValue cX5_readValue 3 (some .boolean) 2 0 0) (N : Nat)  (x0 : Nat) (x1 : Int32) (u : SG) : JF X True 3 0 0 (jQ X vI 0 0) 62 [(0, .ref x0), (1, .int x1)] [] u (gX5_readValue_62 N   x0 x1 u) := by
  unfold gX5_readValue_62
  refine jf_iload_n hX dX5_readValue_62 1 rfl ?_
  refine jf_if_eq (tgt := 86) hX dX5_readValue_63 (by decide) ?_ ?_
  · refine jf_lv [0, 1] rfl ?_
    exact jgX5_readValue_86 hX N  x0 x1 u
  · refine jf_aload_n hX dX5_readValue_66 0 rfl ?_
    refine jf_getR hX ck_X5 0 wfl_475 (by decide) rfl dX5_readValue_67 ?_
    refine jf_nn (fun q1 => ?_)
    refine jf_getI hX ck_X9 9 wfl_532 (by decide) rfl dX5_readValue_70 ?_
    refine jf_iconst (v := -1) hX dX5_readValue_73 (by decide) ?_
    refine jf_icmp_ne (tgt := 86) hX dX5_readValue_74 (by decide) ?_ ?_
    · refine jf_lv [0, 1] rfl ?_
      exact jgX5_readValue_86 hX N  x0 x1 u
    · refine jf_aload_n hX dX5_readValue_77 0 rfl ?_
      refine jf_getR hX ck_X5 0 wfl_475 (by decide) rfl dX5_readValue_78 ?_
      refine jf_nn (fun q2 => ?_)
      refine jf_iconst (v := 1) hX dX5_readValue_81 (by decide) ?_
      refine jf_callV (As := [.int (1 : Int32)]) (st := []) hX mo_X9_refuse wml_529 winst_530 wsel_531 9 ck_X9 rfl (fun l D cT z0 ks => kX9_refuse N l D cT z0 ks q2 (1 : Int32) u) (by decide) (by decide) (by decide) (by decide) (Nat.le_of_ble_eq_true rfl) rfl rfl dX5_readValue_82 (fun r3 u4 => ?_)
      exact jf_zret hX rfl (by decide) (by decide) dX5_readValue_85
set_option maxRecDepth 20000 in
def gX5_readValue_44 (N : Nat)   (x0 : Nat) (x1 : Int32) (s0 : Int32) (u : SG) : Option (Int32 × SG) := if x1 = 0 then (if s0 = 0 then (if zK u x0 = 6 then (Option.bind (zR u x0 0) fun q1 => (if zK u q1 = 10 then cl (fX9_refuse N q1 (0 : Int32) u) fun r2 u3 => (if r2 = 0 ∨ r2 = 1 then some (r2, u3) else none) else none)) else none)
  else (gX5_readValue_62 N  x0 x1 u))
  else (gX5_readValue_62 N  x0 x1 u)
set_option maxRecDepth 20000 in
set_option maxHeartbeats 4000000 in
theorem jgX5_readValue_44   {X : XT} (hX : Cx X yX5_readValue cX5_readValue 3 (some .boolean) 2 0 0) (N : Nat)  (x0 : Nat) (x1 : Int32) (s0 : Int32) (u : SG) : JF X True 3 0 0 (jQ X vI 0 0) 44 [(0, .ref x0), (1, .int x1)] [.int s0] u (gX5_readValue_44 N   x0 x1 s0 u) := by
  unfold gX5_readValue_44
  refine jf_istore_n (lv' := [(2, .int s0), (0, .ref x0), (1, .int x1)]) hX dX5_readValue_44 rfl (by decide) rfl ?_
  refine jf_iload_n hX dX5_readValue_45 2 rfl ?_
  refine jf_if_ne (tgt := 62) hX dX5_readValue_46 (by decide) ?_ ?_
  · refine jf_lv [1, 2] rfl ?_
    exact jgX5_readValue_62 hX N  x0 x1 u
  · refine jf_iload_n hX dX5_readValue_49 0 rfl ?_
    refine jf_if_ne (tgt := 62) hX dX5_readValue_50 (by decide) ?_ ?_
    · refine jf_lv [1, 2] rfl ?_
      exact jgX5_readValue_62 hX N  x0 x1 u
    · refine jf_aload_n hX dX5_readValue_53 1 rfl ?_
      refine jf_getR hX ck_X5 0 wfl_475 (by decide) rfl dX5_readValue_54 ?_
      refine jf_nn (fun q1 => ?_)
      refine jf_iconst (v := 0) hX dX5_readValue_57 (by decide) ?_
      refine jf_callV (As := [.int (0 : Int32)]) (st := []) hX mo_X9_refuse wml_529 winst_530 wsel_531 9 ck_X9 rfl (fun l D cT z0 ks => kX9_refuse N l D cT z0 ks q1 (0 : Int32) u) (by decide) (by decide) (by decide) (by decide) (Nat.le_of_ble_eq_true rfl) rfl rfl dX5_readValue_58 (fun r2 u3 => ?_)
      exact jf_zret hX rfl (by decide) (by decide) dX5_readValue_61
set_option maxRecDepth 20000 in
def gX5_readValue_43 (N : Nat)   (x0 : Nat) (x1 : Int32) (u : SG) : Option (Int32 × SG) := gX5_readValue_44 N  x0 x1 (0 : Int32) u
set_option maxRecDepth 20000 in
set_option maxHeartbeats 4000000 in
theorem jgX5_readValue_43   {X : XT} (hX : Cx X yX5_readValue cX5_readValue 3 (some .boolean) 2 0 0) (N : Nat)  (x0 : Nat) (x1 : Int32) (u : SG) : JF X True 3 0 0 (jQ X vI 0 0) 43 [(0, .ref x0), (1, .int x1)] [] u (gX5_readValue_43 N   x0 x1 u) := by
  unfold gX5_readValue_43
  refine jf_iconst (v := 0) hX dX5_readValue_43 (by decide) ?_
  refine jf_lv [0, 1] rfl ?_
  exact jgX5_readValue_44 hX N  x0 x1 (0 : Int32) u
set_option maxRecDepth 20000 in
def gX5_readValue_16 (N : Nat)   (x0 : Nat) (s0 : Int32) (u : SG) : Option (Int32 × SG) := if zK u x0 = 6 then (Option.bind (zR u x0 0) fun q1 => (if zK u q1 = 10 then (if (zI u q1 10) < 0 then (gX5_readValue_43 N  x0 s0 u)
  else (if zK u x0 = 6 then (Option.bind (zR u x0 0) fun q2 => (if zK u q2 = 10 then (if (12 : Int32) < (zI u q2 10) then (gX5_readValue_43 N  x0 s0 u)
  else (gX5_readValue_44 N  x0 s0 (1 : Int32) u)) else none)) else none)) else none)) else none
set_option maxRecDepth 20000 in
set_option maxHeartbeats 4000000 in
theorem jgX5_readValue_16   {X : XT} (hX : Cx X yX5_readValue cX5_readValue 3 (some .boolean) 2 0 0) (N : Nat)  (x0 : Nat) (s0 : Int32) (u : SG) : JF X True 3 0 0 (jQ X vI 0 0) 16 [(0, .ref x0)] [.int s0] u (gX5_readValue_16 N   x0 s0 u) := by
  unfold gX5_readValue_16
  refine jf_istore_n (lv' := [(1, .int s0), (0, .ref x0)]) hX dX5_readValue_16 rfl (by decide) rfl ?_
  refine jf_aload_n hX dX5_readValue_17 1 rfl ?_
  refine jf_getR hX ck_X5 0 wfl_475 (by decide) rfl dX5_readValue_18 ?_
  refine jf_nn (fun q1 => ?_)
  refine jf_getI hX ck_X9 10 wfl_528 (by decide) rfl dX5_readValue_21 ?_
  refine jf_if_lt (tgt := 43) hX dX5_readValue_24 (by decide) ?_ ?_
  · refine jf_lv [1, 0] rfl ?_
    exact jgX5_readValue_43 hX N  x0 s0 u
  · refine jf_aload_n hX dX5_readValue_27 1 rfl ?_
    refine jf_getR hX ck_X5 0 wfl_475 (by decide) rfl dX5_readValue_28 ?_
    refine jf_nn (fun q2 => ?_)
    refine jf_getI hX ck_X9 10 wfl_528 (by decide) rfl dX5_readValue_31 ?_
    refine jf_bipush (v := 12) hX dX5_readValue_34 (by decide) ?_
    refine jf_icmp_gt (tgt := 43) hX dX5_readValue_36 (by decide) ?_ ?_
    · refine jf_lv [1, 0] rfl ?_
      exact jgX5_readValue_43 hX N  x0 s0 u
    · refine jf_iconst (v := 1) hX dX5_readValue_39 (by decide) ?_
      refine jf_goto (tgt := 44) hX dX5_readValue_40 (by decide) ?_
      refine jf_lv [1, 0] rfl ?_
      exact jgX5_readValue_44 hX N  x0 s0 (1 : Int32) u
set_option maxRecDepth 20000 in
def fX5_readValue (N : Nat)  (a0 : Nat) (u : SG) : Option (Int32 × SG) := if zK u a0 = 6 then (Option.bind (zR u a0 0) fun q1 => (if zK u q1 = 10 then (if (zI u q1 8) = (1 : Int32) then (gX5_readValue_16 N  a0 (1 : Int32) u)
  else (gX5_readValue_16 N  a0 (0 : Int32) u)) else none)) else none
set_option maxRecDepth 20000 in
set_option maxHeartbeats 4000000 in
theorem kX5_readValue  (N : Nat)  (l : Launch) (D : va_G) (cT : Nat → ClassId) (z0 : Nat) (ks : Nat × Nat) (a0 : Nat) (u : SG) : Ct l D cT z0 ks yX5_readValue cX5_readValue 3 (some .boolean) 2 0 0 vI [.ref a0] u (fX5_readValue N  a0 u) := by
  unfold fX5_readValue
  refine ct_of (by decide +kernel) (Nat.le_of_ble_eq_true rfl) (fun p e R s m args below meth c hX => ?_)
  show JF _ True 3 0 0 _ 0 [(0, .ref a0)] [] u _
  refine jf_aload_n hX dX5_readValue_0 0 rfl ?_
  refine jf_getR hX ck_X5 0 wfl_475 (by decide) rfl dX5_readValue_1 ?_
  refine jf_nn (fun q1 => ?_)
  refine jf_getI hX ck_X9 8 wfl_527 (by decide) rfl dX5_readValue_4 ?_
  refine jf_iconst (v := 1) hX dX5_readValue_7 (by decide) ?_
  refine jf_icmp_ne (tgt := 15) hX dX5_readValue_8 (by decide) ?_ ?_
  · refine jf_iconst (v := 0) hX dX5_readValue_15 (by decide) ?_
    refine jf_lv [0] rfl ?_
    exact jgX5_readValue_16 hX N  a0 (0 : Int32) u
  · refine jf_iconst (v := 1) hX dX5_readValue_11 (by decide) ?_
    refine jf_goto (tgt := 16) hX dX5_readValue_12 (by decide) ?_
    refine jf_lv [0] rfl ?_
    exact jgX5_readValue_16 hX N  a0 (1 : Int32) u
set_option maxRecDepth 20000 in
def fX5_factorOf (N : Nat)  (p1 : Int32) (u : SG) : Option (Int32 × SG) := if p1 = (37 : Int32) then (some ((-24 : Int32), u))
  else if p1 = (42 : Int32) then (some ((-22 : Int32), u))
  else if p1 = (47 : Int32) then (some ((-23 : Int32), u))
  else (some ((-99 : Int32), u))
set_option maxRecDepth 20000 in
set_option maxHeartbeats 4000000 in
theorem kX5_factorOf  (N : Nat)  (l : Launch) (D : va_G) (cT : Nat → ClassId) (z0 : Nat) (ks : Nat × Nat) (p1 : Int32) (u : SG) : Ct l D cT z0 ks yX5_factorOf cX5_factorOf 1 (some .int) 1 0 0 vI [.int p1] u (fX5_factorOf N  p1 u) := by
  unfold fX5_factorOf
  refine ct_of (by decide +kernel) (Nat.le_of_ble_eq_true rfl) (fun p e R s m args below meth c hX => ?_)
  show JF _ True 1 0 0 _ 0 [(0, .int p1)] [] u _
  refine jf_iload_n hX dX5_factorOf_0 0 rfl ?_
  refine jf_lcase (k := 37) (kv := 37) (tgt := 42) hX dX5_factorOf_1 rfl rfl rfl (by decide) ?_ (fun hn37 => ?_)
  · refine jf_bipush (v := -24) hX dX5_factorOf_42 (by decide) ?_
    exact jf_iret hX rfl (by decide) (by decide) dX5_factorOf_44
  refine jf_lcase (k := 42) (kv := 42) (tgt := 36) hX dX5_factorOf_1 rfl rfl rfl (by decide) ?_ (fun hn42 => ?_)
  · refine jf_bipush (v := -22) hX dX5_factorOf_36 (by decide) ?_
    exact jf_iret hX rfl (by decide) (by decide) dX5_factorOf_38
  refine jf_lcase (k := 47) (kv := 47) (tgt := 39) hX dX5_factorOf_1 rfl rfl rfl (by decide) ?_ (fun hn47 => ?_)
  · refine jf_bipush (v := -23) hX dX5_factorOf_39 (by decide) ?_
    exact jf_iret hX rfl (by decide) (by decide) dX5_factorOf_41
  refine jf_ldef (tgt := 45) hX dX5_factorOf_1 rfl (by show Op.lookupswitch.offset [(37, 41), (42, 35), (47, 38)] 44 p1.toInt = 44; rw [lv_osw (a := 37) hn37 rfl, lv_osw (a := 42) hn42 rfl, lv_osw (a := 47) hn47 rfl]; rfl) (by decide) ?_
  refine jf_bipush (v := -99) hX dX5_factorOf_45 (by decide) ?_
  exact jf_iret hX rfl (by decide) (by decide) dX5_factorOf_47
set_option maxRecDepth 20000 in
def fX5_summandOf (N : Nat)  (p1 : Int32) (u : SG) : Option (Int32 × SG) := if p1 = (43 : Int32) then (some ((-20 : Int32), u))
  else if p1 = (45 : Int32) then (some ((-21 : Int32), u))
  else (some ((-99 : Int32), u))
set_option maxRecDepth 20000 in
set_option maxHeartbeats 4000000 in
theorem kX5_summandOf  (N : Nat)  (l : Launch) (D : va_G) (cT : Nat → ClassId) (z0 : Nat) (ks : Nat × Nat) (p1 : Int32) (u : SG) : Ct l D cT z0 ks yX5_summandOf cX5_summandOf 1 (some .int) 1 0 0 vI [.int p1] u (fX5_summandOf N  p1 u) := by
  unfold fX5_summandOf
  refine ct_of (by decide +kernel) (Nat.le_of_ble_eq_true rfl) (fun p e R s m args below meth c hX => ?_)
  show JF _ True 1 0 0 _ 0 [(0, .int p1)] [] u _
  refine jf_iload_n hX dX5_summandOf_0 0 rfl ?_
  refine jf_lcase (k := 43) (kv := 43) (tgt := 28) hX dX5_summandOf_1 rfl rfl rfl (by decide) ?_ (fun hn43 => ?_)
  · refine jf_bipush (v := -20) hX dX5_summandOf_28 (by decide) ?_
    exact jf_iret hX rfl (by decide) (by decide) dX5_summandOf_30
  refine jf_lcase (k := 45) (kv := 45) (tgt := 31) hX dX5_summandOf_1 rfl rfl rfl (by decide) ?_ (fun hn45 => ?_)
  · refine jf_bipush (v := -21) hX dX5_summandOf_31 (by decide) ?_
    exact jf_iret hX rfl (by decide) (by decide) dX5_summandOf_33
  refine jf_ldef (tgt := 34) hX dX5_summandOf_1 rfl (by show Op.lookupswitch.offset [(43, 27), (45, 30)] 33 p1.toInt = 33; rw [lv_osw (a := 43) hn43 rfl, lv_osw (a := 45) hn45 rfl]; rfl) (by decide) ?_
  refine jf_bipush (v := -99) hX dX5_summandOf_34 (by decide) ?_
  exact jf_iret hX rfl (by decide) (by decide) dX5_summandOf_36
set_option maxRecDepth 20000 in
def gX5_readSum_72 (N : Nat)  (rec8 : Nat → Int32 → Int32 → Int32 → SG → Option (Int32 × SG)) (x0 : Nat) (x1 : Int32) (x2 : Int32) (x3 : Int32) (u : SG) : Option (Int32 × SG) := if zK u x0 = 6 then (Option.bind (zR u x0 0) fun q1 => (if zK u q1 = 10 then cl (fX9_step N q1 u) fun r2 u3 => (rec8 x0 x1 x2 (x3 + (1 : Int32)) u3) else none)) else none
set_option maxRecDepth 20000 in
set_option maxHeartbeats 4000000 in
theorem jgX5_readSum_72 {rec8 : Nat → Int32 → Int32 → Int32 → SG → Option (Int32 × SG)}  {X : XT} (hX : Cx X yX5_readSum cX5_readSum 4 (some .boolean) 3 0 0) (N : Nat) (hrec8 : ∀ (x0 : Nat) (x1 : Int32) (x2 : Int32) (x3 : Int32)  (u : SG), JF X True 4 0 0 (jQ X vI 0 0) 8 [(0, .ref x0), (1, .int x1), (2, .int x2), (3, .int x3)] [] u (rec8 x0 x1 x2 x3  u)) (x0 : Nat) (x1 : Int32) (x2 : Int32) (x3 : Int32) (u : SG) : JF X True 4 0 0 (jQ X vI 0 0) 72 [(0, .ref x0), (1, .int x1), (2, .int x2), (3, .int x3)] [] u (gX5_readSum_72 N  rec8 x0 x1 x2 x3 u) := by
  unfold gX5_readSum_72
  refine jf_aload_n hX dX5_readSum_72 0 rfl ?_
  refine jf_getR hX ck_X5 0 wfl_475 (by decide) rfl dX5_readSum_73 ?_
  refine jf_nn (fun q1 => ?_)
  refine jf_callV (As := []) (st := []) hX mo_X9_step wml_536 winst_525 wsel_526 9 ck_X9 rfl (fun l D cT z0 ks => kX9_step N l D cT z0 ks q1 u) (by decide) (by decide) (by decide) (by decide) (Nat.le_of_ble_eq_true rfl) rfl rfl dX5_readSum_76 (fun r2 u3 => ?_)
  refine jf_iinc (v := 1) (lv' := [(3, .int (x3 + (1 : Int32))), (0, .ref x0), (1, .int x1), (2, .int x2)]) hX dX5_readSum_79 3 rfl (by decide) (by decide) rfl ?_
  refine jf_goto (tgt := 8) hX dX5_readSum_82 (by decide) ?_
  refine jf_lv [1, 2, 3, 0] rfl ?_
  exact hrec8 x0 x1 x2 (x3 + (1 : Int32)) u3
set_option maxRecDepth 20000 in
def gX5_readSum_8 (N : Nat)   : Nat → Nat → Int32 → Int32 → Int32 → SG → Option (Int32 × SG)
  | 0, _, _, _, _, _ => none
  | n + 1, x0, x1, x2, x3, u => if (400 : Int32) ≤ x3 then (if zK u x0 = 6 then (Option.bind (zR u x0 0) fun q1 => (if zK u q1 = 10 then cl (fX9_refuse N q1 (3 : Int32) u) fun r2 u3 => (if r2 = 0 ∨ r2 = 1 then some (r2, u3) else none) else none)) else none)
  else (if zK u x0 = 6 then cl (fX5_readValue N x0 u) fun r4 u5 => (if r4 = 0 then (some ((0 : Int32), u5))
  else (if zK u5 x0 = 6 then cl (fX5_emit N x0 x2 u5) fun r6 u7 => (if zK u7 x0 = 6 then (Option.bind (zR u7 x0 0) fun q8 => (if zK u7 q8 = 10 then (cl (fX5_factorOf N (zI u7 q8 11) u7) fun r9 u10 => (if r9 = (-99 : Int32) then (if zK u10 x0 = 6 then cl (fX5_emit N x0 x1 u10) fun r11 u12 => (if zK u12 x0 = 6 then (Option.bind (zR u12 x0 0) fun q13 => (if zK u12 q13 = 10 then (cl (fX5_summandOf N (zI u12 q13 11) u12) fun r14 u15 => (if r14 = (-99 : Int32) then (some ((1 : Int32), u15))
  else (gX5_readSum_72 N (gX5_readSum_8 N  n) x0 r14 r9 x3 u15))) else none)) else none) else none)
  else (gX5_readSum_72 N (gX5_readSum_8 N  n) x0 x1 r9 x3 u10))) else none)) else none) else none)) else none)
set_option maxRecDepth 20000 in
set_option maxHeartbeats 4000000 in
theorem jgX5_readSum_8   {X : XT} (hX : Cx X yX5_readSum cX5_readSum 4 (some .boolean) 3 0 0) (N : Nat)  : ∀ (n : Nat) (x0 : Nat) (x1 : Int32) (x2 : Int32) (x3 : Int32) (u : SG), JF X True 4 0 0 (jQ X vI 0 0) 8 [(0, .ref x0), (1, .int x1), (2, .int x2), (3, .int x3)] [] u (gX5_readSum_8 N   n x0 x1 x2 x3 u) := by
  intro n
  induction n with
  | zero => intros; intro r u9 h9; exact absurd h9 (by simp [gX5_readSum_8])
  | succ n ih =>
    intro x0 x1 x2 x3 u
    have hrec8 := ih
    rw [gX5_readSum_8]
    refine jf_iload_n hX dX5_readSum_8 3 rfl ?_
    refine jf_sipush (v := 400) hX dX5_readSum_9 (by decide) ?_
    refine jf_icmp_ge (tgt := 85) hX dX5_readSum_12 (by decide) ?_ ?_
    · refine jf_aload_n hX dX5_readSum_85 0 rfl ?_
      refine jf_getR hX ck_X5 0 wfl_475 (by decide) rfl dX5_readSum_86 ?_
      refine jf_nn (fun q1 => ?_)
      refine jf_iconst (v := 3) hX dX5_readSum_89 (by decide) ?_
      refine jf_callV (As := [.int (3 : Int32)]) (st := []) hX mo_X9_refuse wml_529 winst_530 wsel_531 9 ck_X9 rfl (fun l D cT z0 ks => kX9_refuse N l D cT z0 ks q1 (3 : Int32) u) (by decide) (by decide) (by decide) (by decide) (Nat.le_of_ble_eq_true rfl) rfl rfl dX5_readSum_90 (fun r2 u3 => ?_)
      exact jf_zret hX rfl (by decide) (by decide) dX5_readSum_93
    · refine jf_aload_n hX dX5_readSum_15 0 rfl ?_
      refine jf_callV (As := []) (st := []) hX mo_X5_readValue wml_537 winst_538 wsel_539 5 ck_X5 rfl (fun l D cT z0 ks => kX5_readValue N l D cT z0 ks x0 u) (by decide) (by decide) (by decide) (by decide) (Nat.le_of_ble_eq_true rfl) rfl rfl dX5_readSum_16 (fun r4 u5 => ?_)
      refine jf_if_ne (tgt := 24) hX dX5_readSum_19 (by decide) ?_ ?_
      · refine jf_aload_n hX dX5_readSum_24 0 rfl ?_
        refine jf_iload_n hX dX5_readSum_25 2 rfl ?_
        refine jf_callV (As := [.int x2]) (st := []) hX mo_X5_emit wml_533 winst_534 wsel_535 5 ck_X5 rfl (fun l D cT z0 ks => kX5_emit N l D cT z0 ks x0 x2 u5) (by decide) (by decide) (by decide) (by decide) (Nat.le_of_ble_eq_true rfl) rfl rfl dX5_readSum_26 (fun r6 u7 => ?_)
        refine jf_pop hX dX5_readSum_29 rfl ?_
        refine jf_aload_n hX dX5_readSum_30 0 rfl ?_
        refine jf_getR hX ck_X5 0 wfl_475 (by decide) rfl dX5_readSum_31 ?_
        refine jf_nn (fun q8 => ?_)
        refine jf_getI hX ck_X9 11 wfl_540 (by decide) rfl dX5_readSum_34 ?_
        refine jf_callS (As := [.int (zI u7 q8 11)]) (st := []) hX mo_X5_factorOf wml_541 wstat_542 rfl (fun l D cT z0 ks => kX5_factorOf N l D cT z0 ks (zI u7 q8 11) u7) (by decide) (by decide) (by decide) (by decide) (Nat.le_of_ble_eq_true rfl) rfl rfl dX5_readSum_37 (fun r9 u10 => ?_)
        refine jf_istore_n (lv' := [(2, .int r9), (0, .ref x0), (1, .int x1), (3, .int x3)]) hX dX5_readSum_40 rfl (by decide) rfl ?_
        refine jf_iload_n hX dX5_readSum_41 0 rfl ?_
        refine jf_bipush (v := -99) hX dX5_readSum_42 (by decide) ?_
        refine jf_icmp_ne (tgt := 72) hX dX5_readSum_44 (by decide) ?_ ?_
        · refine jf_lv [1, 2, 0, 3] rfl ?_
          exact jgX5_readSum_72 hX N hrec8 x0 x1 r9 x3 u10
        · refine jf_aload_n hX dX5_readSum_47 1 rfl ?_
          refine jf_iload_n hX dX5_readSum_48 2 rfl ?_
          refine jf_callV (As := [.int x1]) (st := []) hX mo_X5_emit wml_533 winst_534 wsel_535 5 ck_X5 rfl (fun l D cT z0 ks => kX5_emit N l D cT z0 ks x0 x1 u10) (by decide) (by decide) (by decide) (by decide) (Nat.le_of_ble_eq_true rfl) rfl rfl dX5_readSum_49 (fun r11 u12 => ?_)
          refine jf_pop hX dX5_readSum_52 rfl ?_
          refine jf_aload_n hX dX5_readSum_53 1 rfl ?_
          refine jf_getR hX ck_X5 0 wfl_475 (by decide) rfl dX5_readSum_54 ?_
          refine jf_nn (fun q13 => ?_)
          refine jf_getI hX ck_X9 11 wfl_540 (by decide) rfl dX5_readSum_57 ?_
          refine jf_callS (As := [.int (zI u12 q13 11)]) (st := []) hX mo_X5_summandOf wml_543 wstat_544 rfl (fun l D cT z0 ks => kX5_summandOf N l D cT z0 ks (zI u12 q13 11) u12) (by decide) (by decide) (by decide) (by decide) (Nat.le_of_ble_eq_true rfl) rfl rfl dX5_readSum_60 (fun r14 u15 => ?_)
          refine jf_istore_n (lv' := [(1, .int r14), (2, .int r9), (0, .ref x0), (3, .int x3)]) hX dX5_readSum_63 rfl (by decide) rfl ?_
          refine jf_iload_n hX dX5_readSum_64 0 rfl ?_
          refine jf_bipush (v := -99) hX dX5_readSum_65 (by decide) ?_
          refine jf_icmp_ne (tgt := 72) hX dX5_readSum_67 (by decide) ?_ ?_
          · refine jf_lv [2, 0, 1, 3] rfl ?_
            exact jgX5_readSum_72 hX N hrec8 x0 r14 r9 x3 u15
          · refine jf_iconst (v := 1) hX dX5_readSum_70 (by decide) ?_
            exact jf_zretc hX rfl (by decide) (by decide) (by decide) dX5_readSum_71
      · refine jf_iconst (v := 0) hX dX5_readSum_22 (by decide) ?_
        exact jf_zretc hX rfl (by decide) (by decide) (by decide) dX5_readSum_23
set_option maxRecDepth 20000 in
def fX5_readSum (N : Nat)  (a0 : Nat) (u : SG) : Option (Int32 × SG) := gX5_readSum_8 N  N a0 (-99 : Int32) (-99 : Int32) (0 : Int32) u
set_option maxRecDepth 20000 in
set_option maxHeartbeats 4000000 in
theorem kX5_readSum  (N : Nat)  (l : Launch) (D : va_G) (cT : Nat → ClassId) (z0 : Nat) (ks : Nat × Nat) (a0 : Nat) (u : SG) : Ct l D cT z0 ks yX5_readSum cX5_readSum 4 (some .boolean) 3 0 0 vI [.ref a0] u (fX5_readSum N  a0 u) := by
  unfold fX5_readSum
  refine ct_of (by decide +kernel) (Nat.le_of_ble_eq_true rfl) (fun p e R s m args below meth c hX => ?_)
  show JF _ True 4 0 0 _ 0 [(0, .ref a0)] [] u _
  refine jf_bipush (v := -99) hX dX5_readSum_0 (by decide) ?_
  refine jf_istore_n (lv' := [(1, .int (-99 : Int32)), (0, .ref a0)]) hX dX5_readSum_2 rfl (by decide) rfl ?_
  refine jf_bipush (v := -99) hX dX5_readSum_3 (by decide) ?_
  refine jf_istore_n (lv' := [(2, .int (-99 : Int32)), (1, .int (-99 : Int32)), (0, .ref a0)]) hX dX5_readSum_5 rfl (by decide) rfl ?_
  refine jf_iconst (v := 0) hX dX5_readSum_6 (by decide) ?_
  refine jf_istore_n (lv' := [(3, .int (0 : Int32)), (2, .int (-99 : Int32)), (1, .int (-99 : Int32)), (0, .ref a0)]) hX dX5_readSum_7 rfl (by decide) rfl ?_
  refine jf_lv [3, 2, 1, 0] rfl ?_
  exact jgX5_readSum_8 hX N  N a0 (-99 : Int32) (-99 : Int32) (0 : Int32) u
set_option maxRecDepth 20000 in
def fX9_takeSign (N : Nat)  (a0 : Nat) (p1 : Int32) (u : SG) : Option (Int32 × SG) := if zK u a0 = 10 then (if (zI u a0 11) = p1 then (if zK u a0 = 10 then cl (fX9_step N a0 u) fun r1 u2 => (some ((1 : Int32), u2)) else none)
  else (if zK u a0 = 10 then cl (fX9_refuse N a0 (0 : Int32) u) fun r3 u4 => (if r3 = 0 ∨ r3 = 1 then some (r3, u4) else none) else none)) else none
set_option maxRecDepth 20000 in
set_option maxHeartbeats 4000000 in
theorem kX9_takeSign  (N : Nat)  (l : Launch) (D : va_G) (cT : Nat → ClassId) (z0 : Nat) (ks : Nat × Nat) (a0 : Nat) (p1 : Int32) (u : SG) : Ct l D cT z0 ks yX9_takeSign cX9_takeSign 2 (some .boolean) 2 0 0 vI [.ref a0, .int p1] u (fX9_takeSign N  a0 p1 u) := by
  unfold fX9_takeSign
  refine ct_of (by decide +kernel) (Nat.le_of_ble_eq_true rfl) (fun p e R s m args below meth c hX => ?_)
  show JF _ True 2 0 0 _ 0 [(0, .ref a0), (1, .int p1)] [] u _
  refine jf_aload_n hX dX9_takeSign_0 0 rfl ?_
  refine jf_getI hX ck_X9 11 wfl_519 (by decide) rfl dX9_takeSign_1 ?_
  refine jf_iload_n hX dX9_takeSign_4 1 rfl ?_
  refine jf_icmp_eq (tgt := 14) hX dX9_takeSign_5 (by decide) ?_ ?_
  · refine jf_aload_n hX dX9_takeSign_14 0 rfl ?_
    refine jf_callV (As := []) (st := []) hX mo_X9_step wml_524 winst_525 wsel_526 9 ck_X9 rfl (fun l D cT z0 ks => kX9_step N l D cT z0 ks a0 u) (by decide) (by decide) (by decide) (by decide) (Nat.le_of_ble_eq_true rfl) rfl rfl dX9_takeSign_15 (fun r1 u2 => ?_)
    refine jf_iconst (v := 1) hX dX9_takeSign_18 (by decide) ?_
    exact jf_zretc hX rfl (by decide) (by decide) (by decide) dX9_takeSign_19
  · refine jf_aload_n hX dX9_takeSign_8 0 rfl ?_
    refine jf_iconst (v := 0) hX dX9_takeSign_9 (by decide) ?_
    refine jf_callV (As := [.int (0 : Int32)]) (st := []) hX mo_X9_refuse wml_545 winst_530 wsel_531 9 ck_X9 rfl (fun l D cT z0 ks => kX9_refuse N l D cT z0 ks a0 (0 : Int32) u) (by decide) (by decide) (by decide) (by decide) (Nat.le_of_ble_eq_true rfl) rfl rfl dX9_takeSign_10 (fun r3 u4 => ?_)
    exact jf_zret hX rfl (by decide) (by decide) dX9_takeSign_13
set_option maxRecDepth 20000 in
def fX5_comparisonOf (N : Nat)  (p1 : Int32) (u : SG) : Option (Int32 × SG) := if p1 = (60 : Int32) then (some ((-25 : Int32), u))
  else if p1 = (61 : Int32) then (some ((-27 : Int32), u))
  else if p1 = (62 : Int32) then (some ((-29 : Int32), u))
  else if p1 = (316 : Int32) then (some ((-26 : Int32), u))
  else if p1 = (318 : Int32) then (some ((-28 : Int32), u))
  else (some ((-99 : Int32), u))
set_option maxRecDepth 20000 in
set_option maxHeartbeats 4000000 in
theorem kX5_comparisonOf  (N : Nat)  (l : Launch) (D : va_G) (cT : Nat → ClassId) (z0 : Nat) (ks : Nat × Nat) (p1 : Int32) (u : SG) : Ct l D cT z0 ks yX5_comparisonOf cX5_comparisonOf 1 (some .int) 1 0 0 vI [.int p1] u (fX5_comparisonOf N  p1 u) := by
  unfold fX5_comparisonOf
  refine ct_of (by decide +kernel) (Nat.le_of_ble_eq_true rfl) (fun p e R s m args below meth c hX => ?_)
  show JF _ True 1 0 0 _ 0 [(0, .int p1)] [] u _
  refine jf_iload_n hX dX5_comparisonOf_0 0 rfl ?_
  refine jf_lcase (k := 60) (kv := 60) (tgt := 52) hX dX5_comparisonOf_1 rfl rfl rfl (by decide) ?_ (fun hn60 => ?_)
  · refine jf_bipush (v := -25) hX dX5_comparisonOf_52 (by decide) ?_
    exact jf_iret hX rfl (by decide) (by decide) dX5_comparisonOf_54
  refine jf_lcase (k := 61) (kv := 61) (tgt := 58) hX dX5_comparisonOf_1 rfl rfl rfl (by decide) ?_ (fun hn61 => ?_)
  · refine jf_bipush (v := -27) hX dX5_comparisonOf_58 (by decide) ?_
    exact jf_iret hX rfl (by decide) (by decide) dX5_comparisonOf_60
  refine jf_lcase (k := 62) (kv := 62) (tgt := 64) hX dX5_comparisonOf_1 rfl rfl rfl (by decide) ?_ (fun hn62 => ?_)
  · refine jf_bipush (v := -29) hX dX5_comparisonOf_64 (by decide) ?_
    exact jf_iret hX rfl (by decide) (by decide) dX5_comparisonOf_66
  refine jf_lcase (k := 316) (kv := 316) (tgt := 55) hX dX5_comparisonOf_1 rfl rfl rfl (by decide) ?_ (fun hn316 => ?_)
  · refine jf_bipush (v := -26) hX dX5_comparisonOf_55 (by decide) ?_
    exact jf_iret hX rfl (by decide) (by decide) dX5_comparisonOf_57
  refine jf_lcase (k := 318) (kv := 318) (tgt := 61) hX dX5_comparisonOf_1 rfl rfl rfl (by decide) ?_ (fun hn318 => ?_)
  · refine jf_bipush (v := -28) hX dX5_comparisonOf_61 (by decide) ?_
    exact jf_iret hX rfl (by decide) (by decide) dX5_comparisonOf_63
  refine jf_ldef (tgt := 67) hX dX5_comparisonOf_1 rfl (by show Op.lookupswitch.offset [(60, 51), (61, 57), (62, 63), (316, 54), (318, 60)] 66 p1.toInt = 66; rw [lv_osw (a := 60) hn60 rfl, lv_osw (a := 61) hn61 rfl, lv_osw (a := 62) hn62 rfl, lv_osw (a := 316) hn316 rfl, lv_osw (a := 318) hn318 rfl]; rfl) (by decide) ?_
  refine jf_bipush (v := -99) hX dX5_comparisonOf_67 (by decide) ?_
  exact jf_iret hX rfl (by decide) (by decide) dX5_comparisonOf_69
set_option maxRecDepth 20000 in
def gX5_readFact_49 (N : Nat) (calreadFact : Nat → Int32 → SG → Option (Int32 × SG)) (calreadTest : Nat → Int32 → SG → Option (Int32 × SG))  (x0 : Nat) (x1 : Int32) (u : SG) : Option (Int32 × SG) := if zK u x0 = 6 then (Option.bind (zR u x0 0) fun q1 => (if zK u q1 = 10 then (if (zI u q1 10) = (21 : Int32) then (if zK u x0 = 6 then (Option.bind (zR u x0 0) fun q30 => (if zK u q30 = 10 then cl (fX9_step N q30 u) fun r31 u32 => (if zK u32 x0 = 6 then cl (calreadFact x0 (x1 + (1 : Int32)) u32) fun r33 u34 => (if r33 = 0 then (some ((0 : Int32), u34))
  else (if zK u34 x0 = 6 then cl (fX5_emit N x0 (-32 : Int32) u34) fun r35 u36 => (if r35 = 0 then (some ((0 : Int32), u36))
  else (some ((1 : Int32), u36))) else none)) else none) else none)) else none)
  else (if zK u x0 = 6 then (Option.bind (zR u x0 0) fun q2 => (if zK u q2 = 10 then (if (zI u q2 11) = (91 : Int32) then (if zK u x0 = 6 then (Option.bind (zR u x0 0) fun q22 => (if zK u q22 = 10 then cl (fX9_step N q22 u) fun r23 u24 => (if zK u24 x0 = 6 then cl (calreadTest x0 (x1 + (1 : Int32)) u24) fun r25 u26 => (if r25 = 0 then (some ((0 : Int32), u26))
  else (if zK u26 x0 = 6 then (Option.bind (zR u26 x0 0) fun q27 => (if zK u26 q27 = 10 then cl (fX9_takeSign N q27 (93 : Int32) u26) fun r28 u29 => (if r28 = 0 then (some ((0 : Int32), u29))
  else (some ((1 : Int32), u29))) else none)) else none)) else none) else none)) else none)
  else (if zK u x0 = 6 then cl (fX5_readSum N x0 u) fun r3 u4 => (if r3 = 0 then (some ((0 : Int32), u4))
  else (if zK u4 x0 = 6 then (Option.bind (zR u4 x0 0) fun q5 => (if zK u4 q5 = 10 then (cl (fX5_comparisonOf N (zI u4 q5 11) u4) fun r6 u7 => (if r6 = (-99 : Int32) then (if zK u7 x0 = 6 then (Option.bind (zR u7 x0 0) fun q19 => (if zK u7 q19 = 10 then cl (fX9_refuse N q19 (0 : Int32) u7) fun r20 u21 => (if r20 = 0 ∨ r20 = 1 then some (r20, u21) else none) else none)) else none)
  else (if zK u7 x0 = 6 then (if (zI u7 x0 3) < (60 : Int32) then (if zK u7 x0 = 6 then (if zK u7 x0 = 6 then bs (sI u7 x0 3 ((zI u7 x0 3) + (1 : Int32))) fun u8 => (if zK u8 x0 = 6 then (Option.bind (zR u8 x0 0) fun q9 => (if zK u8 q9 = 10 then cl (fX9_step N q9 u8) fun r10 u11 => (if zK u11 x0 = 6 then cl (fX5_readSum N x0 u11) fun r12 u13 => (if r12 = 0 then (some ((0 : Int32), u13))
  else (if zK u13 x0 = 6 then cl (fX5_emit N x0 r6 u13) fun r14 u15 => (if r14 = 0 then (some ((0 : Int32), u15))
  else (some ((1 : Int32), u15))) else none)) else none) else none)) else none) else none) else none)
  else (if zK u7 x0 = 6 then (Option.bind (zR u7 x0 0) fun q16 => (if zK u7 q16 = 10 then cl (fX9_refuse N q16 (3 : Int32) u7) fun r17 u18 => (if r17 = 0 ∨ r17 = 1 then some (r17, u18) else none) else none)) else none)) else none))) else none)) else none)) else none)) else none)) else none)) else none)) else none
set_option maxRecDepth 20000 in
set_option maxHeartbeats 4000000 in
theorem jgX5_readFact_49  {calreadFact : Nat → Int32 → SG → Option (Int32 × SG)} {calreadTest : Nat → Int32 → SG → Option (Int32 × SG)} {X : XT} {ge : Nat} (hX : Cx X yX5_readFact cX5_readFact 4 (some .boolean) (10 + 3 * ge + 3) 0 0) (N : Nat) (_ : Nat) (hcalreadFact : ∀ l D cT z0 ks a0 p1 u, Ct l D cT z0 ks yX5_readFact cX5_readFact 4 (some .boolean) (10 + 3 * ge) 0 0 vI [.ref a0, .int p1] u (calreadFact a0 p1 u)) (hcalreadTest : ∀ l D cT z0 ks a0 p1 u, Ct l D cT z0 ks yX5_readTest cX5_readTest 5 (some .boolean) (10 + 3 * ge + 2) 0 0 vI [.ref a0, .int p1] u (calreadTest a0 p1 u))  (x0 : Nat) (x1 : Int32) (u : SG) : JF X True 4 0 0 (jQ X vI 0 0) 49 [(0, .ref x0), (1, .int x1)] [] u (gX5_readFact_49 N calreadFact calreadTest  x0 x1 u) := by
  unfold gX5_readFact_49
  refine jf_aload_n hX dX5_readFact_49 0 rfl ?_
  refine jf_getR hX ck_X5 0 wfl_475 (by decide) rfl dX5_readFact_50 ?_
  refine jf_nn (fun q1 => ?_)
  refine jf_getI hX ck_X9 10 wfl_528 (by decide) rfl dX5_readFact_53 ?_
  refine jf_bipush (v := 21) hX dX5_readFact_56 (by decide) ?_
  refine jf_icmp_ne (tgt := 93) hX dX5_readFact_58 (by decide) ?_ ?_
  · refine jf_aload_n hX dX5_readFact_93 0 rfl ?_
    refine jf_getR hX ck_X5 0 wfl_475 (by decide) rfl dX5_readFact_94 ?_
    refine jf_nn (fun q2 => ?_)
    refine jf_getI hX ck_X9 11 wfl_540 (by decide) rfl dX5_readFact_97 ?_
    refine jf_bipush (v := 91) hX dX5_readFact_100 (by decide) ?_
    refine jf_icmp_ne (tgt := 140) hX dX5_readFact_102 (by decide) ?_ ?_
    · refine jf_aload_n hX dX5_readFact_140 0 rfl ?_
      refine jf_callV (As := []) (st := []) hX mo_X5_readSum wml_546 winst_547 wsel_548 5 ck_X5 rfl (fun l D cT z0 ks => kX5_readSum N l D cT z0 ks x0 u) (by omega) (by omega) (by decide) (by decide) (Nat.le_of_ble_eq_true rfl) rfl rfl dX5_readFact_141 (fun r3 u4 => ?_)
      refine jf_if_ne (tgt := 149) hX dX5_readFact_144 (by decide) ?_ ?_
      · refine jf_aload_n hX dX5_readFact_149 0 rfl ?_
        refine jf_getR hX ck_X5 0 wfl_475 (by decide) rfl dX5_readFact_150 ?_
        refine jf_nn (fun q5 => ?_)
        refine jf_getI hX ck_X9 11 wfl_540 (by decide) rfl dX5_readFact_153 ?_
        refine jf_callS (As := [.int (zI u4 q5 11)]) (st := []) hX mo_X5_comparisonOf wml_549 wstat_550 rfl (fun l D cT z0 ks => kX5_comparisonOf N l D cT z0 ks (zI u4 q5 11) u4) (by omega) (by omega) (by decide) (by decide) (Nat.le_of_ble_eq_true rfl) rfl rfl dX5_readFact_156 (fun r6 u7 => ?_)
        refine jf_istore_n (lv' := [(3, .int r6), (0, .ref x0), (1, .int x1)]) hX dX5_readFact_159 rfl (by decide) rfl ?_
        refine jf_iload_n hX dX5_readFact_160 0 rfl ?_
        refine jf_bipush (v := -99) hX dX5_readFact_161 (by decide) ?_
        refine jf_icmp_ne (tgt := 175) hX dX5_readFact_163 (by decide) ?_ ?_
        · refine jf_aload_n hX dX5_readFact_175 1 rfl ?_
          refine jf_getI hX ck_X5 3 wfl_474 (by decide) rfl dX5_readFact_176 ?_
          refine jf_bipush (v := 60) hX dX5_readFact_179 (by decide) ?_
          refine jf_icmp_lt (tgt := 193) hX dX5_readFact_181 (by decide) ?_ ?_
          · refine jf_aload_n hX dX5_readFact_193 1 rfl ?_
            refine jf_dup hX dX5_readFact_194 rfl ?_
            refine jf_getI hX ck_X5 3 wfl_474 (by decide) rfl dX5_readFact_195 ?_
            refine jf_iconst (v := 1) hX dX5_readFact_198 (by decide) ?_
            refine jf_iadd hX dX5_readFact_199 ?_
            refine jf_putI hX trivial ck_X5 3 wfl_474 (by decide) rfl rfl rfl dX5_readFact_200 (fun u8 => ?_)
            refine jf_aload_n hX dX5_readFact_203 1 rfl ?_
            refine jf_getR hX ck_X5 0 wfl_475 (by decide) rfl dX5_readFact_204 ?_
            refine jf_nn (fun q9 => ?_)
            refine jf_callV (As := []) (st := []) hX mo_X9_step wml_536 winst_525 wsel_526 9 ck_X9 rfl (fun l D cT z0 ks => kX9_step N l D cT z0 ks q9 u8) (by omega) (by omega) (by decide) (by decide) (Nat.le_of_ble_eq_true rfl) rfl rfl dX5_readFact_207 (fun r10 u11 => ?_)
            refine jf_aload_n hX dX5_readFact_210 1 rfl ?_
            refine jf_callV (As := []) (st := []) hX mo_X5_readSum wml_546 winst_547 wsel_548 5 ck_X5 rfl (fun l D cT z0 ks => kX5_readSum N l D cT z0 ks x0 u11) (by omega) (by omega) (by decide) (by decide) (Nat.le_of_ble_eq_true rfl) rfl rfl dX5_readFact_211 (fun r12 u13 => ?_)
            refine jf_if_eq (tgt := 229) hX dX5_readFact_214 (by decide) ?_ ?_
            · refine jf_iconst (v := 0) hX dX5_readFact_229 (by decide) ?_
              exact jf_zretc hX rfl (by decide) (by decide) (by decide) dX5_readFact_230
            · refine jf_aload_n hX dX5_readFact_217 1 rfl ?_
              refine jf_iload_n hX dX5_readFact_218 0 rfl ?_
              refine jf_callV (As := [.int r6]) (st := []) hX mo_X5_emit wml_533 winst_534 wsel_535 5 ck_X5 rfl (fun l D cT z0 ks => kX5_emit N l D cT z0 ks x0 r6 u13) (by omega) (by omega) (by decide) (by decide) (Nat.le_of_ble_eq_true rfl) rfl rfl dX5_readFact_219 (fun r14 u15 => ?_)
              refine jf_if_eq (tgt := 229) hX dX5_readFact_222 (by decide) ?_ ?_
              · refine jf_iconst (v := 0) hX dX5_readFact_229 (by decide) ?_
                exact jf_zretc hX rfl (by decide) (by decide) (by decide) dX5_readFact_230
              · refine jf_iconst (v := 1) hX dX5_readFact_225 (by decide) ?_
                refine jf_goto (tgt := 230) hX dX5_readFact_226 (by decide) ?_
                exact jf_zretc hX rfl (by decide) (by decide) (by decide) dX5_readFact_230
          · refine jf_aload_n hX dX5_readFact_184 1 rfl ?_
            refine jf_getR hX ck_X5 0 wfl_475 (by decide) rfl dX5_readFact_185 ?_
            refine jf_nn (fun q16 => ?_)
            refine jf_iconst (v := 3) hX dX5_readFact_188 (by decide) ?_
            refine jf_callV (As := [.int (3 : Int32)]) (st := []) hX mo_X9_refuse wml_529 winst_530 wsel_531 9 ck_X9 rfl (fun l D cT z0 ks => kX9_refuse N l D cT z0 ks q16 (3 : Int32) u7) (by omega) (by omega) (by decide) (by decide) (Nat.le_of_ble_eq_true rfl) rfl rfl dX5_readFact_189 (fun r17 u18 => ?_)
            exact jf_zret hX rfl (by decide) (by decide) dX5_readFact_192
        · refine jf_aload_n hX dX5_readFact_166 1 rfl ?_
          refine jf_getR hX ck_X5 0 wfl_475 (by decide) rfl dX5_readFact_167 ?_
          refine jf_nn (fun q19 => ?_)
          refine jf_iconst (v := 0) hX dX5_readFact_170 (by decide) ?_
          refine jf_callV (As := [.int (0 : Int32)]) (st := []) hX mo_X9_refuse wml_529 winst_530 wsel_531 9 ck_X9 rfl (fun l D cT z0 ks => kX9_refuse N l D cT z0 ks q19 (0 : Int32) u7) (by omega) (by omega) (by decide) (by decide) (Nat.le_of_ble_eq_true rfl) rfl rfl dX5_readFact_171 (fun r20 u21 => ?_)
          exact jf_zret hX rfl (by decide) (by decide) dX5_readFact_174
      · refine jf_iconst (v := 0) hX dX5_readFact_147 (by decide) ?_
        exact jf_zretc hX rfl (by decide) (by decide) (by decide) dX5_readFact_148
    · refine jf_aload_n hX dX5_readFact_105 0 rfl ?_
      refine jf_getR hX ck_X5 0 wfl_475 (by decide) rfl dX5_readFact_106 ?_
      refine jf_nn (fun q22 => ?_)
      refine jf_callV (As := []) (st := []) hX mo_X9_step wml_536 winst_525 wsel_526 9 ck_X9 rfl (fun l D cT z0 ks => kX9_step N l D cT z0 ks q22 u) (by omega) (by omega) (by decide) (by decide) (Nat.le_of_ble_eq_true rfl) rfl rfl dX5_readFact_109 (fun r23 u24 => ?_)
      refine jf_aload_n hX dX5_readFact_112 0 rfl ?_
      refine jf_iload_n hX dX5_readFact_113 1 rfl ?_
      refine jf_iconst (v := 1) hX dX5_readFact_114 (by decide) ?_
      refine jf_iadd hX dX5_readFact_115 ?_
      refine jf_callV (As := [.int (x1 + (1 : Int32))]) (st := []) hX mo_X5_readTest wml_551 winst_552 wsel_553 5 ck_X5 rfl (fun l D cT z0 ks => hcalreadTest l D cT z0 ks x0 (x1 + (1 : Int32)) u24) (by omega) (by omega) (by decide) (by decide) (Nat.le_of_ble_eq_true rfl) rfl rfl dX5_readFact_116 (fun r25 u26 => ?_)
      refine jf_if_eq (tgt := 138) hX dX5_readFact_119 (by decide) ?_ ?_
      · refine jf_iconst (v := 0) hX dX5_readFact_138 (by decide) ?_
        exact jf_zretc hX rfl (by decide) (by decide) (by decide) dX5_readFact_139
      · refine jf_aload_n hX dX5_readFact_122 0 rfl ?_
        refine jf_getR hX ck_X5 0 wfl_475 (by decide) rfl dX5_readFact_123 ?_
        refine jf_nn (fun q27 => ?_)
        refine jf_bipush (v := 93) hX dX5_readFact_126 (by decide) ?_
        refine jf_callV (As := [.int (93 : Int32)]) (st := []) hX mo_X9_takeSign wml_554 winst_555 wsel_556 9 ck_X9 rfl (fun l D cT z0 ks => kX9_takeSign N l D cT z0 ks q27 (93 : Int32) u26) (by omega) (by omega) (by decide) (by decide) (Nat.le_of_ble_eq_true rfl) rfl rfl dX5_readFact_128 (fun r28 u29 => ?_)
        refine jf_if_eq (tgt := 138) hX dX5_readFact_131 (by decide) ?_ ?_
        · refine jf_iconst (v := 0) hX dX5_readFact_138 (by decide) ?_
          exact jf_zretc hX rfl (by decide) (by decide) (by decide) dX5_readFact_139
        · refine jf_iconst (v := 1) hX dX5_readFact_134 (by decide) ?_
          refine jf_goto (tgt := 139) hX dX5_readFact_135 (by decide) ?_
          exact jf_zretc hX rfl (by decide) (by decide) (by decide) dX5_readFact_139
  · refine jf_aload_n hX dX5_readFact_61 0 rfl ?_
    refine jf_getR hX ck_X5 0 wfl_475 (by decide) rfl dX5_readFact_62 ?_
    refine jf_nn (fun q30 => ?_)
    refine jf_callV (As := []) (st := []) hX mo_X9_step wml_536 winst_525 wsel_526 9 ck_X9 rfl (fun l D cT z0 ks => kX9_step N l D cT z0 ks q30 u) (by omega) (by omega) (by decide) (by decide) (Nat.le_of_ble_eq_true rfl) rfl rfl dX5_readFact_65 (fun r31 u32 => ?_)
    refine jf_aload_n hX dX5_readFact_68 0 rfl ?_
    refine jf_iload_n hX dX5_readFact_69 1 rfl ?_
    refine jf_iconst (v := 1) hX dX5_readFact_70 (by decide) ?_
    refine jf_iadd hX dX5_readFact_71 ?_
    refine jf_callV (As := [.int (x1 + (1 : Int32))]) (st := []) hX mo_X5_readFact wml_557 winst_558 wsel_559 5 ck_X5 rfl (fun l D cT z0 ks => hcalreadFact l D cT z0 ks x0 (x1 + (1 : Int32)) u32) (by omega) (by omega) (by decide) (by decide) (Nat.le_of_ble_eq_true rfl) rfl rfl dX5_readFact_72 (fun r33 u34 => ?_)
    refine jf_if_eq (tgt := 91) hX dX5_readFact_75 (by decide) ?_ ?_
    · refine jf_iconst (v := 0) hX dX5_readFact_91 (by decide) ?_
      exact jf_zretc hX rfl (by decide) (by decide) (by decide) dX5_readFact_92
    · refine jf_aload_n hX dX5_readFact_78 0 rfl ?_
      refine jf_bipush (v := -32) hX dX5_readFact_79 (by decide) ?_
      refine jf_callV (As := [.int (-32 : Int32)]) (st := []) hX mo_X5_emit wml_533 winst_534 wsel_535 5 ck_X5 rfl (fun l D cT z0 ks => kX5_emit N l D cT z0 ks x0 (-32 : Int32) u34) (by omega) (by omega) (by decide) (by decide) (Nat.le_of_ble_eq_true rfl) rfl rfl dX5_readFact_81 (fun r35 u36 => ?_)
      refine jf_if_eq (tgt := 91) hX dX5_readFact_84 (by decide) ?_ ?_
      · refine jf_iconst (v := 0) hX dX5_readFact_91 (by decide) ?_
        exact jf_zretc hX rfl (by decide) (by decide) (by decide) dX5_readFact_92
      · refine jf_iconst (v := 1) hX dX5_readFact_87 (by decide) ?_
        refine jf_goto (tgt := 92) hX dX5_readFact_88 (by decide) ?_
        exact jf_zretc hX rfl (by decide) (by decide) (by decide) dX5_readFact_92
set_option maxRecDepth 20000 in
def gX5_readFact_29 (N : Nat) (calreadFact : Nat → Int32 → SG → Option (Int32 × SG)) (calreadTest : Nat → Int32 → SG → Option (Int32 × SG))  (x0 : Nat) (x1 : Int32) (s0 : Int32) (u : SG) : Option (Int32 × SG) := if s0 = 0 then (gX5_readFact_49 N calreadFact calreadTest x0 x1 u)
  else (if x1 < (10 : Int32) then (gX5_readFact_49 N calreadFact calreadTest x0 x1 u)
  else (if zK u x0 = 6 then (Option.bind (zR u x0 0) fun q1 => (if zK u q1 = 10 then cl (fX9_refuse N q1 (2 : Int32) u) fun r2 u3 => (if r2 = 0 ∨ r2 = 1 then some (r2, u3) else none) else none)) else none))
set_option maxRecDepth 20000 in
set_option maxHeartbeats 4000000 in
theorem jgX5_readFact_29  {calreadFact : Nat → Int32 → SG → Option (Int32 × SG)} {calreadTest : Nat → Int32 → SG → Option (Int32 × SG)} {X : XT} {ge : Nat} (hX : Cx X yX5_readFact cX5_readFact 4 (some .boolean) (10 + 3 * ge + 3) 0 0) (N : Nat) (_ : Nat) (hcalreadFact : ∀ l D cT z0 ks a0 p1 u, Ct l D cT z0 ks yX5_readFact cX5_readFact 4 (some .boolean) (10 + 3 * ge) 0 0 vI [.ref a0, .int p1] u (calreadFact a0 p1 u)) (hcalreadTest : ∀ l D cT z0 ks a0 p1 u, Ct l D cT z0 ks yX5_readTest cX5_readTest 5 (some .boolean) (10 + 3 * ge + 2) 0 0 vI [.ref a0, .int p1] u (calreadTest a0 p1 u))  (x0 : Nat) (x1 : Int32) (s0 : Int32) (u : SG) : JF X True 4 0 0 (jQ X vI 0 0) 29 [(0, .ref x0), (1, .int x1)] [.int s0] u (gX5_readFact_29 N calreadFact calreadTest  x0 x1 s0 u) := by
  unfold gX5_readFact_29
  refine jf_istore_n (lv' := [(2, .int s0), (0, .ref x0), (1, .int x1)]) hX dX5_readFact_29 rfl (by decide) rfl ?_
  refine jf_iload_n hX dX5_readFact_30 0 rfl ?_
  refine jf_if_eq (tgt := 49) hX dX5_readFact_31 (by decide) ?_ ?_
  · refine jf_lv [1, 2] rfl ?_
    exact jgX5_readFact_49 hX N ge hcalreadFact hcalreadTest x0 x1 u
  · refine jf_iload_n hX dX5_readFact_34 2 rfl ?_
    refine jf_bipush (v := 10) hX dX5_readFact_35 (by decide) ?_
    refine jf_icmp_lt (tgt := 49) hX dX5_readFact_37 (by decide) ?_ ?_
    · refine jf_lv [1, 2] rfl ?_
      exact jgX5_readFact_49 hX N ge hcalreadFact hcalreadTest x0 x1 u
    · refine jf_aload_n hX dX5_readFact_40 1 rfl ?_
      refine jf_getR hX ck_X5 0 wfl_475 (by decide) rfl dX5_readFact_41 ?_
      refine jf_nn (fun q1 => ?_)
      refine jf_iconst (v := 2) hX dX5_readFact_44 (by decide) ?_
      refine jf_callV (As := [.int (2 : Int32)]) (st := []) hX mo_X9_refuse wml_529 winst_530 wsel_531 9 ck_X9 rfl (fun l D cT z0 ks => kX9_refuse N l D cT z0 ks q1 (2 : Int32) u) (by omega) (by omega) (by decide) (by decide) (Nat.le_of_ble_eq_true rfl) rfl rfl dX5_readFact_45 (fun r2 u3 => ?_)
      exact jf_zret hX rfl (by decide) (by decide) dX5_readFact_48
set_option maxRecDepth 20000 in
def gX5_readFact_24 (N : Nat) (calreadFact : Nat → Int32 → SG → Option (Int32 × SG)) (calreadTest : Nat → Int32 → SG → Option (Int32 × SG))  (x0 : Nat) (x1 : Int32) (u : SG) : Option (Int32 × SG) := gX5_readFact_29 N calreadFact calreadTest x0 x1 (1 : Int32) u
set_option maxRecDepth 20000 in
set_option maxHeartbeats 4000000 in
theorem jgX5_readFact_24  {calreadFact : Nat → Int32 → SG → Option (Int32 × SG)} {calreadTest : Nat → Int32 → SG → Option (Int32 × SG)} {X : XT} {ge : Nat} (hX : Cx X yX5_readFact cX5_readFact 4 (some .boolean) (10 + 3 * ge + 3) 0 0) (N : Nat) (_ : Nat) (hcalreadFact : ∀ l D cT z0 ks a0 p1 u, Ct l D cT z0 ks yX5_readFact cX5_readFact 4 (some .boolean) (10 + 3 * ge) 0 0 vI [.ref a0, .int p1] u (calreadFact a0 p1 u)) (hcalreadTest : ∀ l D cT z0 ks a0 p1 u, Ct l D cT z0 ks yX5_readTest cX5_readTest 5 (some .boolean) (10 + 3 * ge + 2) 0 0 vI [.ref a0, .int p1] u (calreadTest a0 p1 u))  (x0 : Nat) (x1 : Int32) (u : SG) : JF X True 4 0 0 (jQ X vI 0 0) 24 [(0, .ref x0), (1, .int x1)] [] u (gX5_readFact_24 N calreadFact calreadTest  x0 x1 u) := by
  unfold gX5_readFact_24
  refine jf_iconst (v := 1) hX dX5_readFact_24 (by decide) ?_
  refine jf_goto (tgt := 29) hX dX5_readFact_25 (by decide) ?_
  refine jf_lv [0, 1] rfl ?_
  exact jgX5_readFact_29 hX N ge hcalreadFact hcalreadTest x0 x1 (1 : Int32) u
set_option maxRecDepth 20000 in
def bX5_readFact (N : Nat) (calreadFact : Nat → Int32 → SG → Option (Int32 × SG)) (calreadTest : Nat → Int32 → SG → Option (Int32 × SG)) (a0 : Nat) (p1 : Int32) (u : SG) : Option (Int32 × SG) := if zK u a0 = 6 then (Option.bind (zR u a0 0) fun q1 => (if zK u q1 = 10 then (if (zI u q1 10) = (21 : Int32) then (gX5_readFact_24 N calreadFact calreadTest a0 p1 u)
  else (if zK u a0 = 6 then (Option.bind (zR u a0 0) fun q2 => (if zK u q2 = 10 then (if (zI u q2 11) = (91 : Int32) then (gX5_readFact_24 N calreadFact calreadTest a0 p1 u)
  else (gX5_readFact_29 N calreadFact calreadTest a0 p1 (0 : Int32) u)) else none)) else none)) else none)) else none
set_option maxRecDepth 20000 in
set_option maxHeartbeats 4000000 in
theorem kbX5_readFact {calreadFact : Nat → Int32 → SG → Option (Int32 × SG)} {calreadTest : Nat → Int32 → SG → Option (Int32 × SG)} (N : Nat)  (ge : Nat) (hcalreadFact : ∀ l D cT z0 ks a0 p1 u, Ct l D cT z0 ks yX5_readFact cX5_readFact 4 (some .boolean) (10 + 3 * ge) 0 0 vI [.ref a0, .int p1] u (calreadFact a0 p1 u)) (hcalreadTest : ∀ l D cT z0 ks a0 p1 u, Ct l D cT z0 ks yX5_readTest cX5_readTest 5 (some .boolean) (10 + 3 * ge + 2) 0 0 vI [.ref a0, .int p1] u (calreadTest a0 p1 u)) (l : Launch) (D : va_G) (cT : Nat → ClassId) (z0 : Nat) (ks : Nat × Nat) (a0 : Nat) (p1 : Int32) (u : SG) : Ct l D cT z0 ks yX5_readFact cX5_readFact 4 (some .boolean) (10 + 3 * ge + 3) 0 0 vI [.ref a0, .int p1] u (bX5_readFact N calreadFact calreadTest a0 p1 u) := by
  unfold bX5_readFact
  refine ct_of (by decide +kernel) (Nat.le_of_ble_eq_true rfl) (fun p e R s m args below meth c hX => ?_)
  show JF _ True 4 0 0 _ 0 [(0, .ref a0), (1, .int p1)] [] u _
  refine jf_aload_n hX dX5_readFact_0 0 rfl ?_
  refine jf_getR hX ck_X5 0 wfl_475 (by decide) rfl dX5_readFact_1 ?_
  refine jf_nn (fun q1 => ?_)
  refine jf_getI hX ck_X9 10 wfl_528 (by decide) rfl dX5_readFact_4 ?_
  refine jf_bipush (v := 21) hX dX5_readFact_7 (by decide) ?_
  refine jf_icmp_eq (tgt := 24) hX dX5_readFact_9 (by decide) ?_ ?_
  · refine jf_lv [0, 1] rfl ?_
    exact jgX5_readFact_24 hX N ge hcalreadFact hcalreadTest a0 p1 u
  · refine jf_aload_n hX dX5_readFact_12 0 rfl ?_
    refine jf_getR hX ck_X5 0 wfl_475 (by decide) rfl dX5_readFact_13 ?_
    refine jf_nn (fun q2 => ?_)
    refine jf_getI hX ck_X9 11 wfl_540 (by decide) rfl dX5_readFact_16 ?_
    refine jf_bipush (v := 91) hX dX5_readFact_19 (by decide) ?_
    refine jf_icmp_ne (tgt := 28) hX dX5_readFact_21 (by decide) ?_ ?_
    · refine jf_iconst (v := 0) hX dX5_readFact_28 (by decide) ?_
      refine jf_lv [0, 1] rfl ?_
      exact jgX5_readFact_29 hX N ge hcalreadFact hcalreadTest a0 p1 (0 : Int32) u
    · refine jf_lv [0, 1] rfl ?_
      exact jgX5_readFact_24 hX N ge hcalreadFact hcalreadTest a0 p1 u
set_option maxRecDepth 20000 in
def gX5_readTest_93 (N : Nat) (calreadFact : Nat → Int32 → SG → Option (Int32 × SG)) (rec9 : Nat → Int32 → Int32 → Int32 → Int32 → SG → Option (Int32 × SG)) (x0 : Nat) (x1 : Int32) (x2 : Int32) (x3 : Int32) (x4 : Int32) (u : SG) : Option (Int32 × SG) := if zK u x0 = 6 then (Option.bind (zR u x0 0) fun q1 => (if zK u q1 = 10 then cl (fX9_step N q1 u) fun r2 u3 => (rec9 x0 x1 x2 x3 (x4 + (1 : Int32)) u3) else none)) else none
set_option maxRecDepth 20000 in
set_option maxHeartbeats 4000000 in
theorem jgX5_readTest_93 {rec9 : Nat → Int32 → Int32 → Int32 → Int32 → SG → Option (Int32 × SG)} {calreadFact : Nat → Int32 → SG → Option (Int32 × SG)} {X : XT} {ge : Nat} (hX : Cx X yX5_readTest cX5_readTest 5 (some .boolean) (10 + 3 * ge + 2) 0 0) (N : Nat) (_ : Nat) (hcalreadFact : ∀ l D cT z0 ks a0 p1 u, Ct l D cT z0 ks yX5_readFact cX5_readFact 4 (some .boolean) (10 + 3 * ge) 0 0 vI [.ref a0, .int p1] u (calreadFact a0 p1 u)) (hrec9 : ∀ (x0 : Nat) (x1 : Int32) (x2 : Int32) (x3 : Int32) (x4 : Int32)  (u : SG), JF X True 5 0 0 (jQ X vI 0 0) 9 [(0, .ref x0), (1, .int x1), (2, .int x2), (3, .int x3), (4, .int x4)] [] u (rec9 x0 x1 x2 x3 x4  u)) (x0 : Nat) (x1 : Int32) (x2 : Int32) (x3 : Int32) (x4 : Int32) (u : SG) : JF X True 5 0 0 (jQ X vI 0 0) 93 [(0, .ref x0), (1, .int x1), (2, .int x2), (3, .int x3), (4, .int x4)] [] u (gX5_readTest_93 N calreadFact rec9 x0 x1 x2 x3 x4 u) := by
  unfold gX5_readTest_93
  refine jf_aload_n hX dX5_readTest_93 0 rfl ?_
  refine jf_getR hX ck_X5 0 wfl_475 (by decide) rfl dX5_readTest_94 ?_
  refine jf_nn (fun q1 => ?_)
  refine jf_callV (As := []) (st := []) hX mo_X9_step wml_536 winst_525 wsel_526 9 ck_X9 rfl (fun l D cT z0 ks => kX9_step N l D cT z0 ks q1 u) (by omega) (by omega) (by decide) (by decide) (Nat.le_of_ble_eq_true rfl) rfl rfl dX5_readTest_97 (fun r2 u3 => ?_)
  refine jf_iinc (v := 1) (lv' := [(4, .int (x4 + (1 : Int32))), (0, .ref x0), (1, .int x1), (2, .int x2), (3, .int x3)]) hX dX5_readTest_100 4 rfl (by decide) (by decide) rfl ?_
  refine jf_goto (tgt := 9) hX dX5_readTest_103 (by decide) ?_
  refine jf_lv [1, 2, 3, 4, 0] rfl ?_
  exact hrec9 x0 x1 x2 x3 (x4 + (1 : Int32)) u3
set_option maxRecDepth 20000 in
def gX5_readTest_84 (N : Nat) (calreadFact : Nat → Int32 → SG → Option (Int32 × SG)) (rec9 : Nat → Int32 → Int32 → Int32 → Int32 → SG → Option (Int32 × SG)) (x0 : Nat) (x1 : Int32) (x3 : Int32) (x4 : Int32) (s0 : Int32) (u : SG) : Option (Int32 × SG) := if s0 = (-99 : Int32) then (some ((1 : Int32), u))
  else (gX5_readTest_93 N calreadFact rec9 x0 x1 s0 x3 x4 u)
set_option maxRecDepth 20000 in
set_option maxHeartbeats 4000000 in
theorem jgX5_readTest_84 {rec9 : Nat → Int32 → Int32 → Int32 → Int32 → SG → Option (Int32 × SG)} {calreadFact : Nat → Int32 → SG → Option (Int32 × SG)} {X : XT} {ge : Nat} (hX : Cx X yX5_readTest cX5_readTest 5 (some .boolean) (10 + 3 * ge + 2) 0 0) (N : Nat) (_ : Nat) (hcalreadFact : ∀ l D cT z0 ks a0 p1 u, Ct l D cT z0 ks yX5_readFact cX5_readFact 4 (some .boolean) (10 + 3 * ge) 0 0 vI [.ref a0, .int p1] u (calreadFact a0 p1 u)) (hrec9 : ∀ (x0 : Nat) (x1 : Int32) (x2 : Int32) (x3 : Int32) (x4 : Int32)  (u : SG), JF X True 5 0 0 (jQ X vI 0 0) 9 [(0, .ref x0), (1, .int x1), (2, .int x2), (3, .int x3), (4, .int x4)] [] u (rec9 x0 x1 x2 x3 x4  u)) (x0 : Nat) (x1 : Int32) (x3 : Int32) (x4 : Int32) (s0 : Int32) (u : SG) : JF X True 5 0 0 (jQ X vI 0 0) 84 [(0, .ref x0), (1, .int x1), (3, .int x3), (4, .int x4)] [.int s0] u (gX5_readTest_84 N calreadFact rec9 x0 x1 x3 x4 s0 u) := by
  unfold gX5_readTest_84
  refine jf_istore_n (lv' := [(2, .int s0), (0, .ref x0), (1, .int x1), (3, .int x3), (4, .int x4)]) hX dX5_readTest_84 rfl (by decide) rfl ?_
  refine jf_iload_n hX dX5_readTest_85 0 rfl ?_
  refine jf_bipush (v := -99) hX dX5_readTest_86 (by decide) ?_
  refine jf_icmp_ne (tgt := 93) hX dX5_readTest_88 (by decide) ?_ ?_
  · refine jf_lv [1, 2, 0, 3, 4] rfl ?_
    exact jgX5_readTest_93 hX N ge hcalreadFact hrec9 x0 x1 s0 x3 x4 u
  · refine jf_iconst (v := 1) hX dX5_readTest_91 (by decide) ?_
    exact jf_zretc hX rfl (by decide) (by decide) (by decide) dX5_readTest_92
set_option maxRecDepth 20000 in
def gX5_readTest_52 (N : Nat) (calreadFact : Nat → Int32 → SG → Option (Int32 × SG)) (rec9 : Nat → Int32 → Int32 → Int32 → Int32 → SG → Option (Int32 × SG)) (x0 : Nat) (x1 : Int32) (x2 : Int32) (x4 : Int32) (s0 : Int32) (u : SG) : Option (Int32 × SG) := if s0 = (-99 : Int32) then (if zK u x0 = 6 then cl (fX5_emit N x0 x2 u) fun r1 u2 => (if zK u2 x0 = 6 then (Option.bind (zR u2 x0 0) fun q3 => (if zK u2 q3 = 10 then (if (zI u2 q3 10) = (19 : Int32) then (gX5_readTest_84 N calreadFact rec9 x0 x1 s0 x4 (-31 : Int32) u2)
  else (gX5_readTest_84 N calreadFact rec9 x0 x1 s0 x4 (-99 : Int32) u2)) else none)) else none) else none)
  else (gX5_readTest_93 N calreadFact rec9 x0 x1 x2 s0 x4 u)
set_option maxRecDepth 20000 in
set_option maxHeartbeats 4000000 in
theorem jgX5_readTest_52 {rec9 : Nat → Int32 → Int32 → Int32 → Int32 → SG → Option (Int32 × SG)} {calreadFact : Nat → Int32 → SG → Option (Int32 × SG)} {X : XT} {ge : Nat} (hX : Cx X yX5_readTest cX5_readTest 5 (some .boolean) (10 + 3 * ge + 2) 0 0) (N : Nat) (_ : Nat) (hcalreadFact : ∀ l D cT z0 ks a0 p1 u, Ct l D cT z0 ks yX5_readFact cX5_readFact 4 (some .boolean) (10 + 3 * ge) 0 0 vI [.ref a0, .int p1] u (calreadFact a0 p1 u)) (hrec9 : ∀ (x0 : Nat) (x1 : Int32) (x2 : Int32) (x3 : Int32) (x4 : Int32)  (u : SG), JF X True 5 0 0 (jQ X vI 0 0) 9 [(0, .ref x0), (1, .int x1), (2, .int x2), (3, .int x3), (4, .int x4)] [] u (rec9 x0 x1 x2 x3 x4  u)) (x0 : Nat) (x1 : Int32) (x2 : Int32) (x4 : Int32) (s0 : Int32) (u : SG) : JF X True 5 0 0 (jQ X vI 0 0) 52 [(0, .ref x0), (1, .int x1), (2, .int x2), (4, .int x4)] [.int s0] u (gX5_readTest_52 N calreadFact rec9 x0 x1 x2 x4 s0 u) := by
  unfold gX5_readTest_52
  refine jf_istore_n (lv' := [(3, .int s0), (0, .ref x0), (1, .int x1), (2, .int x2), (4, .int x4)]) hX dX5_readTest_52 rfl (by decide) rfl ?_
  refine jf_iload_n hX dX5_readTest_53 0 rfl ?_
  refine jf_bipush (v := -99) hX dX5_readTest_54 (by decide) ?_
  refine jf_icmp_ne (tgt := 93) hX dX5_readTest_56 (by decide) ?_ ?_
  · refine jf_lv [1, 2, 3, 0, 4] rfl ?_
    exact jgX5_readTest_93 hX N ge hcalreadFact hrec9 x0 x1 x2 s0 x4 u
  · refine jf_aload_n hX dX5_readTest_59 1 rfl ?_
    refine jf_iload_n hX dX5_readTest_60 3 rfl ?_
    refine jf_callV (As := [.int x2]) (st := []) hX mo_X5_emit wml_533 winst_534 wsel_535 5 ck_X5 rfl (fun l D cT z0 ks => kX5_emit N l D cT z0 ks x0 x2 u) (by omega) (by omega) (by decide) (by decide) (Nat.le_of_ble_eq_true rfl) rfl rfl dX5_readTest_61 (fun r1 u2 => ?_)
    refine jf_pop hX dX5_readTest_64 rfl ?_
    refine jf_aload_n hX dX5_readTest_65 1 rfl ?_
    refine jf_getR hX ck_X5 0 wfl_475 (by decide) rfl dX5_readTest_66 ?_
    refine jf_nn (fun q3 => ?_)
    refine jf_getI hX ck_X9 10 wfl_528 (by decide) rfl dX5_readTest_69 ?_
    refine jf_bipush (v := 19) hX dX5_readTest_72 (by decide) ?_
    refine jf_icmp_ne (tgt := 82) hX dX5_readTest_74 (by decide) ?_ ?_
    · refine jf_bipush (v := -99) hX dX5_readTest_82 (by decide) ?_
      refine jf_lv [1, 2, 0, 4] rfl ?_
      exact jgX5_readTest_84 hX N ge hcalreadFact hrec9 x0 x1 s0 x4 (-99 : Int32) u2
    · refine jf_bipush (v := -31) hX dX5_readTest_77 (by decide) ?_
      refine jf_goto (tgt := 84) hX dX5_readTest_79 (by decide) ?_
      refine jf_lv [1, 2, 0, 4] rfl ?_
      exact jgX5_readTest_84 hX N ge hcalreadFact hrec9 x0 x1 s0 x4 (-31 : Int32) u2
set_option maxRecDepth 20000 in
def gX5_readTest_9 (N : Nat) (calreadFact : Nat → Int32 → SG → Option (Int32 × SG))  : Nat → Nat → Int32 → Int32 → Int32 → Int32 → SG → Option (Int32 × SG)
  | 0, _, _, _, _, _, _ => none
  | n + 1, x0, x1, x2, x3, x4, u => if (400 : Int32) ≤ x4 then (if zK u x0 = 6 then (Option.bind (zR u x0 0) fun q1 => (if zK u q1 = 10 then cl (fX9_refuse N q1 (3 : Int32) u) fun r2 u3 => (if r2 = 0 ∨ r2 = 1 then some (r2, u3) else none) else none)) else none)
  else (if zK u x0 = 6 then cl (calreadFact x0 x1 u) fun r4 u5 => (if r4 = 0 then (some ((0 : Int32), u5))
  else (if zK u5 x0 = 6 then cl (fX5_emit N x0 x3 u5) fun r6 u7 => (if zK u7 x0 = 6 then (Option.bind (zR u7 x0 0) fun q8 => (if zK u7 q8 = 10 then (if (zI u7 q8 10) = (20 : Int32) then (gX5_readTest_52 N calreadFact (gX5_readTest_9 N calreadFact n) x0 x1 x2 x4 (-30 : Int32) u7)
  else (gX5_readTest_52 N calreadFact (gX5_readTest_9 N calreadFact n) x0 x1 x2 x4 (-99 : Int32) u7)) else none)) else none) else none)) else none)
set_option maxRecDepth 20000 in
set_option maxHeartbeats 4000000 in
theorem jgX5_readTest_9  {calreadFact : Nat → Int32 → SG → Option (Int32 × SG)} {X : XT} {ge : Nat} (hX : Cx X yX5_readTest cX5_readTest 5 (some .boolean) (10 + 3 * ge + 2) 0 0) (N : Nat) (_ : Nat) (hcalreadFact : ∀ l D cT z0 ks a0 p1 u, Ct l D cT z0 ks yX5_readFact cX5_readFact 4 (some .boolean) (10 + 3 * ge) 0 0 vI [.ref a0, .int p1] u (calreadFact a0 p1 u))  : ∀ (n : Nat) (x0 : Nat) (x1 : Int32) (x2 : Int32) (x3 : Int32) (x4 : Int32) (u : SG), JF X True 5 0 0 (jQ X vI 0 0) 9 [(0, .ref x0), (1, .int x1), (2, .int x2), (3, .int x3), (4, .int x4)] [] u (gX5_readTest_9 N calreadFact  n x0 x1 x2 x3 x4 u) := by
  intro n
  induction n with
  | zero => intros; intro r u9 h9; exact absurd h9 (by simp [gX5_readTest_9])
  | succ n ih =>
    intro x0 x1 x2 x3 x4 u
    have hrec9 := ih
    rw [gX5_readTest_9]
    refine jf_iload hX dX5_readTest_9 4 rfl ?_
    refine jf_sipush (v := 400) hX dX5_readTest_11 (by decide) ?_
    refine jf_icmp_ge (tgt := 106) hX dX5_readTest_14 (by decide) ?_ ?_
    · refine jf_aload_n hX dX5_readTest_106 0 rfl ?_
      refine jf_getR hX ck_X5 0 wfl_475 (by decide) rfl dX5_readTest_107 ?_
      refine jf_nn (fun q1 => ?_)
      refine jf_iconst (v := 3) hX dX5_readTest_110 (by decide) ?_
      refine jf_callV (As := [.int (3 : Int32)]) (st := []) hX mo_X9_refuse wml_529 winst_530 wsel_531 9 ck_X9 rfl (fun l D cT z0 ks => kX9_refuse N l D cT z0 ks q1 (3 : Int32) u) (by omega) (by omega) (by decide) (by decide) (Nat.le_of_ble_eq_true rfl) rfl rfl dX5_readTest_111 (fun r2 u3 => ?_)
      exact jf_zret hX rfl (by decide) (by decide) dX5_readTest_114
    · refine jf_aload_n hX dX5_readTest_17 0 rfl ?_
      refine jf_iload_n hX dX5_readTest_18 1 rfl ?_
      refine jf_callV (As := [.int x1]) (st := []) hX mo_X5_readFact wml_557 winst_558 wsel_559 5 ck_X5 rfl (fun l D cT z0 ks => hcalreadFact l D cT z0 ks x0 x1 u) (by omega) (by omega) (by decide) (by decide) (Nat.le_of_ble_eq_true rfl) rfl rfl dX5_readTest_19 (fun r4 u5 => ?_)
      refine jf_if_ne (tgt := 27) hX dX5_readTest_22 (by decide) ?_ ?_
      · refine jf_aload_n hX dX5_readTest_27 0 rfl ?_
        refine jf_iload_n hX dX5_readTest_28 3 rfl ?_
        refine jf_callV (As := [.int x3]) (st := []) hX mo_X5_emit wml_533 winst_534 wsel_535 5 ck_X5 rfl (fun l D cT z0 ks => kX5_emit N l D cT z0 ks x0 x3 u5) (by omega) (by omega) (by decide) (by decide) (Nat.le_of_ble_eq_true rfl) rfl rfl dX5_readTest_29 (fun r6 u7 => ?_)
        refine jf_pop hX dX5_readTest_32 rfl ?_
        refine jf_aload_n hX dX5_readTest_33 0 rfl ?_
        refine jf_getR hX ck_X5 0 wfl_475 (by decide) rfl dX5_readTest_34 ?_
        refine jf_nn (fun q8 => ?_)
        refine jf_getI hX ck_X9 10 wfl_528 (by decide) rfl dX5_readTest_37 ?_
        refine jf_bipush (v := 20) hX dX5_readTest_40 (by decide) ?_
        refine jf_icmp_ne (tgt := 50) hX dX5_readTest_42 (by decide) ?_ ?_
        · refine jf_bipush (v := -99) hX dX5_readTest_50 (by decide) ?_
          refine jf_lv [0, 1, 2, 4] rfl ?_
          exact jgX5_readTest_52 hX N ge hcalreadFact hrec9 x0 x1 x2 x4 (-99 : Int32) u7
        · refine jf_bipush (v := -30) hX dX5_readTest_45 (by decide) ?_
          refine jf_goto (tgt := 52) hX dX5_readTest_47 (by decide) ?_
          refine jf_lv [0, 1, 2, 4] rfl ?_
          exact jgX5_readTest_52 hX N ge hcalreadFact hrec9 x0 x1 x2 x4 (-30 : Int32) u7
      · refine jf_iconst (v := 0) hX dX5_readTest_25 (by decide) ?_
        exact jf_zretc hX rfl (by decide) (by decide) (by decide) dX5_readTest_26
set_option maxRecDepth 20000 in
def bX5_readTest (N : Nat) (calreadFact : Nat → Int32 → SG → Option (Int32 × SG)) (a0 : Nat) (p1 : Int32) (u : SG) : Option (Int32 × SG) := gX5_readTest_9 N calreadFact N a0 p1 (-99 : Int32) (-99 : Int32) (0 : Int32) u
set_option maxRecDepth 20000 in
set_option maxHeartbeats 4000000 in
theorem kbX5_readTest {calreadFact : Nat → Int32 → SG → Option (Int32 × SG)} (N : Nat)  (ge : Nat) (hcalreadFact : ∀ l D cT z0 ks a0 p1 u, Ct l D cT z0 ks yX5_readFact cX5_readFact 4 (some .boolean) (10 + 3 * ge) 0 0 vI [.ref a0, .int p1] u (calreadFact a0 p1 u)) (l : Launch) (D : va_G) (cT : Nat → ClassId) (z0 : Nat) (ks : Nat × Nat) (a0 : Nat) (p1 : Int32) (u : SG) : Ct l D cT z0 ks yX5_readTest cX5_readTest 5 (some .boolean) (10 + 3 * ge + 2) 0 0 vI [.ref a0, .int p1] u (bX5_readTest N calreadFact a0 p1 u) := by
  unfold bX5_readTest
  refine ct_of (by decide +kernel) (Nat.le_of_ble_eq_true rfl) (fun p e R s m args below meth c hX => ?_)
  show JF _ True 5 0 0 _ 0 [(0, .ref a0), (1, .int p1)] [] u _
  refine jf_bipush (v := -99) hX dX5_readTest_0 (by decide) ?_
  refine jf_istore_n (lv' := [(2, .int (-99 : Int32)), (0, .ref a0), (1, .int p1)]) hX dX5_readTest_2 rfl (by decide) rfl ?_
  refine jf_bipush (v := -99) hX dX5_readTest_3 (by decide) ?_
  refine jf_istore_n (lv' := [(3, .int (-99 : Int32)), (2, .int (-99 : Int32)), (0, .ref a0), (1, .int p1)]) hX dX5_readTest_5 rfl (by decide) rfl ?_
  refine jf_iconst (v := 0) hX dX5_readTest_6 (by decide) ?_
  refine jf_istore (lv' := [(4, .int (0 : Int32)), (3, .int (-99 : Int32)), (2, .int (-99 : Int32)), (0, .ref a0), (1, .int p1)]) hX dX5_readTest_7 (by decide) rfl ?_
  refine jf_lv [3, 4, 2, 1, 0] rfl ?_
  exact jgX5_readTest_9 hX N ge hcalreadFact N a0 p1 (-99 : Int32) (-99 : Int32) (0 : Int32) u
def rF5 (N : Nat) : Nat → Nat → Int32 → SG → Option (Int32 × SG)
  | 0, _, _, _ => none
  | e + 1, a0, p1, u => bX5_readFact N (rF5 N e) (fun a p w => bX5_readTest N (rF5 N e) a p w) a0 p1 u
def rT5 (N e : Nat) (a0 : Nat) (p1 : Int32) (u : SG) : Option (Int32 × SG) := bX5_readTest N (rF5 N e) a0 p1 u
theorem krF5 (N : Nat) : ∀ (e : Nat) (l : Launch) (D : va_G) (cT : Nat → ClassId) (z0 : Nat) (ks : Nat × Nat) (a0 : Nat) (p1 : Int32) (u : SG), Ct l D cT z0 ks yX5_readFact cX5_readFact 4 (some .boolean) (10 + 3 * e) 0 0 vI [.ref a0, .int p1] u (rF5 N e a0 p1 u) := by
  intro e
  induction e with
  | zero => intro l D cT z0 ks a0 p1 u r u' hf; exact absurd hf (by simp [rF5])
  | succ e ih =>
    intro l D cT z0 ks a0 p1 u
    rw [rF5]
    exact kbX5_readFact N e ih (fun l D cT z0 ks a p w => kbX5_readTest N e ih l D cT z0 ks a p w) l D cT z0 ks a0 p1 u
def fX5_readTest (N : Nat) (a0 : Nat) (p1 : Int32) (u : SG) : Option (Int32 × SG) := rT5 N 12 a0 p1 u
theorem kX5_readTest (N : Nat) (l : Launch) (D : va_G) (cT : Nat → ClassId) (z0 : Nat) (ks : Nat × Nat) (a0 : Nat) (p1 : Int32) (u : SG) : Ct l D cT z0 ks yX5_readTest cX5_readTest 5 (some .boolean) 48 0 0 vI [.ref a0, .int p1] u (fX5_readTest N a0 p1 u) :=
  kbX5_readTest N 12 (krF5 N 12) l D cT z0 ks a0 p1 u
set_option maxRecDepth 20000 in
def fX5_readClause (N : Nat)  (a0 : Nat) (p1 : Int32) (u : SG) : Option (Int32 × SG) := if zK u a0 = 6 then (Option.bind (zR u a0 0) fun q1 => (if zK u q1 = 10 then (if (zI u q1 10) = (17 : Int32) then (if p1 < (12 : Int32) then (if zK u a0 = 6 then (Option.bind (zR u a0 0) fun q2 => (if zK u q2 = 10 then cl (fX9_step N q2 u) fun r3 u4 => (if zK u4 a0 = 6 then cl (fX5_readSum N a0 u4) fun r5 u6 => (if r5 = 0 then (some ((0 : Int32), u6))
  else (if zK u6 a0 = 6 then (Option.bind (zR u6 a0 0) fun q7 => (if zK u6 q7 = 10 then (if (zI u6 q7 10) = (18 : Int32) then (if zK u6 a0 = 6 then (Option.bind (zR u6 a0 0) fun q8 => (if zK u6 q8 = 10 then cl (fX9_step N q8 u6) fun r9 u10 => (if zK u10 a0 = 6 then cl (fX5_readTest N a0 (0 : Int32) u10) fun r11 u12 => (if r11 = 0 then (some ((0 : Int32), u12))
  else (if zK u12 a0 = 6 then cl (fX5_emit N a0 (-34 : Int32) u12) fun r13 u14 => (if r13 = 0 then (some ((0 : Int32), u14))
  else (some ((1 : Int32), u14))) else none)) else none) else none)) else none)
  else (if zK u6 a0 = 6 then cl (fX5_emit N a0 (-33 : Int32) u6) fun r15 u16 => (if r15 = 0 ∨ r15 = 1 then some (r15, u16) else none) else none)) else none)) else none)) else none) else none)) else none)
  else (if zK u a0 = 6 then (Option.bind (zR u a0 0) fun q17 => (if zK u q17 = 10 then cl (fX9_refuse N q17 (4 : Int32) u) fun r18 u19 => (if r18 = 0 ∨ r18 = 1 then some (r18, u19) else none) else none)) else none))
  else (if zK u a0 = 6 then (Option.bind (zR u a0 0) fun q20 => (if zK u q20 = 10 then cl (fX9_refuse N q20 (0 : Int32) u) fun r21 u22 => (if r21 = 0 ∨ r21 = 1 then some (r21, u22) else none) else none)) else none)) else none)) else none
set_option maxRecDepth 20000 in
set_option maxHeartbeats 4000000 in
theorem kX5_readClause  (N : Nat)  (l : Launch) (D : va_G) (cT : Nat → ClassId) (z0 : Nat) (ks : Nat × Nat) (a0 : Nat) (p1 : Int32) (u : SG) : Ct l D cT z0 ks yX5_readClause cX5_readClause 2 (some .boolean) 49 0 0 vI [.ref a0, .int p1] u (fX5_readClause N  a0 p1 u) := by
  unfold fX5_readClause
  refine ct_of (by decide +kernel) (Nat.le_of_ble_eq_true rfl) (fun p e R s m args below meth c hX => ?_)
  show JF _ True 2 0 0 _ 0 [(0, .ref a0), (1, .int p1)] [] u _
  refine jf_aload_n hX dX5_readClause_0 0 rfl ?_
  refine jf_getR hX ck_X5 0 wfl_475 (by decide) rfl dX5_readClause_1 ?_
  refine jf_nn (fun q1 => ?_)
  refine jf_getI hX ck_X9 10 wfl_528 (by decide) rfl dX5_readClause_4 ?_
  refine jf_bipush (v := 17) hX dX5_readClause_7 (by decide) ?_
  refine jf_icmp_eq (tgt := 21) hX dX5_readClause_9 (by decide) ?_ ?_
  · refine jf_iload_n hX dX5_readClause_21 1 rfl ?_
    refine jf_bipush (v := 12) hX dX5_readClause_22 (by decide) ?_
    refine jf_icmp_lt (tgt := 36) hX dX5_readClause_24 (by decide) ?_ ?_
    · refine jf_aload_n hX dX5_readClause_36 0 rfl ?_
      refine jf_getR hX ck_X5 0 wfl_475 (by decide) rfl dX5_readClause_37 ?_
      refine jf_nn (fun q2 => ?_)
      refine jf_callV (As := []) (st := []) hX mo_X9_step wml_536 winst_525 wsel_526 9 ck_X9 rfl (fun l D cT z0 ks => kX9_step N l D cT z0 ks q2 u) (by decide) (by decide) (by decide) (by decide) (Nat.le_of_ble_eq_true rfl) rfl rfl dX5_readClause_40 (fun r3 u4 => ?_)
      refine jf_aload_n hX dX5_readClause_43 0 rfl ?_
      refine jf_callV (As := []) (st := []) hX mo_X5_readSum wml_546 winst_547 wsel_548 5 ck_X5 rfl (fun l D cT z0 ks => kX5_readSum N l D cT z0 ks a0 u4) (by decide) (by decide) (by decide) (by decide) (Nat.le_of_ble_eq_true rfl) rfl rfl dX5_readClause_44 (fun r5 u6 => ?_)
      refine jf_if_ne (tgt := 52) hX dX5_readClause_47 (by decide) ?_ ?_
      · refine jf_aload_n hX dX5_readClause_52 0 rfl ?_
        refine jf_getR hX ck_X5 0 wfl_475 (by decide) rfl dX5_readClause_53 ?_
        refine jf_nn (fun q7 => ?_)
        refine jf_getI hX ck_X9 10 wfl_528 (by decide) rfl dX5_readClause_56 ?_
        refine jf_bipush (v := 18) hX dX5_readClause_59 (by decide) ?_
        refine jf_icmp_eq (tgt := 71) hX dX5_readClause_61 (by decide) ?_ ?_
        · refine jf_aload_n hX dX5_readClause_71 0 rfl ?_
          refine jf_getR hX ck_X5 0 wfl_475 (by decide) rfl dX5_readClause_72 ?_
          refine jf_nn (fun q8 => ?_)
          refine jf_callV (As := []) (st := []) hX mo_X9_step wml_536 winst_525 wsel_526 9 ck_X9 rfl (fun l D cT z0 ks => kX9_step N l D cT z0 ks q8 u6) (by decide) (by decide) (by decide) (by decide) (Nat.le_of_ble_eq_true rfl) rfl rfl dX5_readClause_75 (fun r9 u10 => ?_)
          refine jf_aload_n hX dX5_readClause_78 0 rfl ?_
          refine jf_iconst (v := 0) hX dX5_readClause_79 (by decide) ?_
          refine jf_callV (As := [.int (0 : Int32)]) (st := []) hX mo_X5_readTest wml_551 winst_552 wsel_553 5 ck_X5 rfl (fun l D cT z0 ks => kX5_readTest N l D cT z0 ks a0 (0 : Int32) u10) (by decide) (by decide) (by decide) (by decide) (Nat.le_of_ble_eq_true rfl) rfl rfl dX5_readClause_80 (fun r11 u12 => ?_)
          refine jf_if_eq (tgt := 99) hX dX5_readClause_83 (by decide) ?_ ?_
          · refine jf_iconst (v := 0) hX dX5_readClause_99 (by decide) ?_
            exact jf_zretc hX rfl (by decide) (by decide) (by decide) dX5_readClause_100
          · refine jf_aload_n hX dX5_readClause_86 0 rfl ?_
            refine jf_bipush (v := -34) hX dX5_readClause_87 (by decide) ?_
            refine jf_callV (As := [.int (-34 : Int32)]) (st := []) hX mo_X5_emit wml_533 winst_534 wsel_535 5 ck_X5 rfl (fun l D cT z0 ks => kX5_emit N l D cT z0 ks a0 (-34 : Int32) u12) (by decide) (by decide) (by decide) (by decide) (Nat.le_of_ble_eq_true rfl) rfl rfl dX5_readClause_89 (fun r13 u14 => ?_)
            refine jf_if_eq (tgt := 99) hX dX5_readClause_92 (by decide) ?_ ?_
            · refine jf_iconst (v := 0) hX dX5_readClause_99 (by decide) ?_
              exact jf_zretc hX rfl (by decide) (by decide) (by decide) dX5_readClause_100
            · refine jf_iconst (v := 1) hX dX5_readClause_95 (by decide) ?_
              refine jf_goto (tgt := 100) hX dX5_readClause_96 (by decide) ?_
              exact jf_zretc hX rfl (by decide) (by decide) (by decide) dX5_readClause_100
        · refine jf_aload_n hX dX5_readClause_64 0 rfl ?_
          refine jf_bipush (v := -33) hX dX5_readClause_65 (by decide) ?_
          refine jf_callV (As := [.int (-33 : Int32)]) (st := []) hX mo_X5_emit wml_533 winst_534 wsel_535 5 ck_X5 rfl (fun l D cT z0 ks => kX5_emit N l D cT z0 ks a0 (-33 : Int32) u6) (by decide) (by decide) (by decide) (by decide) (Nat.le_of_ble_eq_true rfl) rfl rfl dX5_readClause_67 (fun r15 u16 => ?_)
          exact jf_zret hX rfl (by decide) (by decide) dX5_readClause_70
      · refine jf_iconst (v := 0) hX dX5_readClause_50 (by decide) ?_
        exact jf_zretc hX rfl (by decide) (by decide) (by decide) dX5_readClause_51
    · refine jf_aload_n hX dX5_readClause_27 0 rfl ?_
      refine jf_getR hX ck_X5 0 wfl_475 (by decide) rfl dX5_readClause_28 ?_
      refine jf_nn (fun q17 => ?_)
      refine jf_iconst (v := 4) hX dX5_readClause_31 (by decide) ?_
      refine jf_callV (As := [.int (4 : Int32)]) (st := []) hX mo_X9_refuse wml_529 winst_530 wsel_531 9 ck_X9 rfl (fun l D cT z0 ks => kX9_refuse N l D cT z0 ks q17 (4 : Int32) u) (by decide) (by decide) (by decide) (by decide) (Nat.le_of_ble_eq_true rfl) rfl rfl dX5_readClause_32 (fun r18 u19 => ?_)
      exact jf_zret hX rfl (by decide) (by decide) dX5_readClause_35
  · refine jf_aload_n hX dX5_readClause_12 0 rfl ?_
    refine jf_getR hX ck_X5 0 wfl_475 (by decide) rfl dX5_readClause_13 ?_
    refine jf_nn (fun q20 => ?_)
    refine jf_iconst (v := 0) hX dX5_readClause_16 (by decide) ?_
    refine jf_callV (As := [.int (0 : Int32)]) (st := []) hX mo_X9_refuse wml_529 winst_530 wsel_531 9 ck_X9 rfl (fun l D cT z0 ks => kX9_refuse N l D cT z0 ks q20 (0 : Int32) u) (by decide) (by decide) (by decide) (by decide) (Nat.le_of_ble_eq_true rfl) rfl rfl dX5_readClause_17 (fun r21 u22 => ?_)
    exact jf_zret hX rfl (by decide) (by decide) dX5_readClause_20
set_option maxRecDepth 20000 in
def gX5_readText_19 (N : Nat)   : Nat → Nat → Int32 → SG → Option (Int32 × SG)
  | 0, _, _, _ => none
  | n + 1, x0, x1, u => if (12 : Int32) < x1 then (if zK u x0 = 6 then (Option.bind (zR u x0 0) fun q1 => (if zK u q1 = 10 then (some (zI u q1 2, u)) else none)) else none)
  else (if zK u x0 = 6 then cl (fX5_readClause N x0 x1 u) fun r2 u3 => (if r2 = 0 then (if zK u3 x0 = 6 then (Option.bind (zR u3 x0 0) fun q9 => (if zK u3 q9 = 10 then (some (zI u3 q9 2, u3)) else none)) else none)
  else (if zK u3 x0 = 6 then (Option.bind (zR u3 x0 0) fun q4 => (if zK u3 q4 = 10 then (if (zI u3 q4 8) = 0 then (some ((0 : Int32), u3))
  else (if zK u3 x0 = 6 then (Option.bind (zR u3 x0 0) fun q5 => (if zK u3 q5 = 10 then cl (fX9_takeSign N q5 (59 : Int32) u3) fun r6 u7 => (if r6 = 0 then (if zK u7 x0 = 6 then (Option.bind (zR u7 x0 0) fun q8 => (if zK u7 q8 = 10 then (some (zI u7 q8 2, u7)) else none)) else none)
  else ((gX5_readText_19 N  n) x0 (x1 + (1 : Int32)) u7)) else none)) else none)) else none)) else none)) else none)
set_option maxRecDepth 20000 in
set_option maxHeartbeats 4000000 in
theorem jgX5_readText_19   {X : XT} (hX : Cx X yX5_readText cX5_readText 2 (some .int) 50 0 0) (N : Nat)  : ∀ (n : Nat) (x0 : Nat) (x1 : Int32) (u : SG), JF X True 2 0 0 (jQ X vI 0 0) 19 [(0, .ref x0), (1, .int x1)] [] u (gX5_readText_19 N   n x0 x1 u) := by
  intro n
  induction n with
  | zero => intros; intro r u9 h9; exact absurd h9 (by simp [gX5_readText_19])
  | succ n ih =>
    intro x0 x1 u
    have hrec19 := ih
    rw [gX5_readText_19]
    refine jf_iload_n hX dX5_readText_19 1 rfl ?_
    refine jf_bipush (v := 12) hX dX5_readText_20 (by decide) ?_
    refine jf_icmp_gt (tgt := 79) hX dX5_readText_22 (by decide) ?_ ?_
    · refine jf_aload_n hX dX5_readText_79 0 rfl ?_
      refine jf_getR hX ck_X5 0 wfl_475 (by decide) rfl dX5_readText_80 ?_
      refine jf_nn (fun q1 => ?_)
      refine jf_getI hX ck_X9 2 wfl_563 (by decide) rfl dX5_readText_83 ?_
      exact jf_iret hX rfl (by decide) (by decide) dX5_readText_86
    · refine jf_aload_n hX dX5_readText_25 0 rfl ?_
      refine jf_iload_n hX dX5_readText_26 1 rfl ?_
      refine jf_callV (As := [.int x1]) (st := []) hX mo_X5_readClause wml_564 winst_565 wsel_566 5 ck_X5 rfl (fun l D cT z0 ks => kX5_readClause N l D cT z0 ks x0 x1 u) (by decide) (by decide) (by decide) (by decide) (Nat.le_of_ble_eq_true rfl) rfl rfl dX5_readText_27 (fun r2 u3 => ?_)
      refine jf_if_ne (tgt := 41) hX dX5_readText_30 (by decide) ?_ ?_
      · refine jf_aload_n hX dX5_readText_41 0 rfl ?_
        refine jf_getR hX ck_X5 0 wfl_475 (by decide) rfl dX5_readText_42 ?_
        refine jf_nn (fun q4 => ?_)
        refine jf_getI hX ck_X9 8 wfl_527 (by decide) rfl dX5_readText_45 ?_
        refine jf_if_ne (tgt := 53) hX dX5_readText_48 (by decide) ?_ ?_
        · refine jf_aload_n hX dX5_readText_53 0 rfl ?_
          refine jf_getR hX ck_X5 0 wfl_475 (by decide) rfl dX5_readText_54 ?_
          refine jf_nn (fun q5 => ?_)
          refine jf_bipush (v := 59) hX dX5_readText_57 (by decide) ?_
          refine jf_callV (As := [.int (59 : Int32)]) (st := []) hX mo_X9_takeSign wml_554 winst_555 wsel_556 9 ck_X9 rfl (fun l D cT z0 ks => kX9_takeSign N l D cT z0 ks q5 (59 : Int32) u3) (by decide) (by decide) (by decide) (by decide) (Nat.le_of_ble_eq_true rfl) rfl rfl dX5_readText_59 (fun r6 u7 => ?_)
          refine jf_if_ne (tgt := 73) hX dX5_readText_62 (by decide) ?_ ?_
          · refine jf_iinc (v := 1) (lv' := [(1, .int (x1 + (1 : Int32))), (0, .ref x0)]) hX dX5_readText_73 1 rfl (by decide) (by decide) rfl ?_
            refine jf_goto (tgt := 19) hX dX5_readText_76 (by decide) ?_
            refine jf_lv [1, 0] rfl ?_
            exact hrec19 x0 (x1 + (1 : Int32)) u7
          · refine jf_aload_n hX dX5_readText_65 0 rfl ?_
            refine jf_getR hX ck_X5 0 wfl_475 (by decide) rfl dX5_readText_66 ?_
            refine jf_nn (fun q8 => ?_)
            refine jf_getI hX ck_X9 2 wfl_563 (by decide) rfl dX5_readText_69 ?_
            exact jf_iret hX rfl (by decide) (by decide) dX5_readText_72
        · refine jf_iconst (v := 0) hX dX5_readText_51 (by decide) ?_
          exact jf_iret hX rfl (by decide) (by decide) dX5_readText_52
      · refine jf_aload_n hX dX5_readText_33 0 rfl ?_
        refine jf_getR hX ck_X5 0 wfl_475 (by decide) rfl dX5_readText_34 ?_
        refine jf_nn (fun q9 => ?_)
        refine jf_getI hX ck_X9 2 wfl_563 (by decide) rfl dX5_readText_37 ?_
        exact jf_iret hX rfl (by decide) (by decide) dX5_readText_40
set_option maxRecDepth 20000 in
def fX5_readText (N : Nat)  (a0 : Nat) (u : SG) : Option (Int32 × SG) := if zK u a0 = 6 then bs (sI u a0 2 (0 : Int32)) fun u1 => (if zK u1 a0 = 6 then bs (sI u1 a0 3 (0 : Int32)) fun u2 => (if zK u2 a0 = 6 then (Option.bind (zR u2 a0 0) fun q3 => (if zK u2 q3 = 10 then cl (fX9_open N q3 u2) fun r4 u5 => (gX5_readText_19 N  N a0 (0 : Int32) u5) else none)) else none) else none) else none
set_option maxRecDepth 20000 in
set_option maxHeartbeats 4000000 in
theorem kX5_readText  (N : Nat)  (l : Launch) (D : va_G) (cT : Nat → ClassId) (z0 : Nat) (ks : Nat × Nat) (a0 : Nat) (u : SG) : Ct l D cT z0 ks yX5_readText cX5_readText 2 (some .int) 50 0 0 vI [.ref a0] u (fX5_readText N  a0 u) := by
  unfold fX5_readText
  refine ct_of (by decide +kernel) (Nat.le_of_ble_eq_true rfl) (fun p e R s m args below meth c hX => ?_)
  show JF _ True 2 0 0 _ 0 [(0, .ref a0)] [] u _
  refine jf_aload_n hX dX5_readText_0 0 rfl ?_
  refine jf_iconst (v := 0) hX dX5_readText_1 (by decide) ?_
  refine jf_putI hX trivial ck_X5 2 wfl_473 (by decide) rfl rfl rfl dX5_readText_2 (fun u1 => ?_)
  refine jf_aload_n hX dX5_readText_5 0 rfl ?_
  refine jf_iconst (v := 0) hX dX5_readText_6 (by decide) ?_
  refine jf_putI hX trivial ck_X5 3 wfl_474 (by decide) rfl rfl rfl dX5_readText_7 (fun u2 => ?_)
  refine jf_aload_n hX dX5_readText_10 0 rfl ?_
  refine jf_getR hX ck_X5 0 wfl_475 (by decide) rfl dX5_readText_11 ?_
  refine jf_nn (fun q3 => ?_)
  refine jf_callV (As := []) (st := []) hX mo_X9_open wml_560 winst_561 wsel_562 9 ck_X9 rfl (fun l D cT z0 ks => kX9_open N l D cT z0 ks q3 u2) (by decide) (by decide) (by decide) (by decide) (Nat.le_of_ble_eq_true rfl) rfl rfl dX5_readText_14 (fun r4 u5 => ?_)
  refine jf_iconst (v := 0) hX dX5_readText_17 (by decide) ?_
  refine jf_istore_n (lv' := [(1, .int (0 : Int32)), (0, .ref a0)]) hX dX5_readText_18 rfl (by decide) rfl ?_
  refine jf_lv [1, 0] rfl ?_
  exact jgX5_readText_19 hX N  N a0 (0 : Int32) u5
set_option maxRecDepth 20000 in
def fX7_init (N : Nat)  (a0 : Nat) (u : SG) : Option (Unit × SG) := if (5 : Int32) < 0 ∨ 5 < (5 : Int32).toNatClampNeg then none else nw u (sNew u 22 (5 : Int32).toNatClampNeg) fun q1 u2 => (if zK u2 a0 = 8 then bs (sR u2 a0 0 (some q1)) fun u3 => (if (5 : Int32) < 0 ∨ 5 < (5 : Int32).toNatClampNeg then none else nw u3 (sNew u3 22 (5 : Int32).toNatClampNeg) fun q4 u5 => (if zK u5 a0 = 8 then bs (sR u5 a0 1 (some q4)) fun u6 => (if (5 : Int32) < 0 ∨ 5 < (5 : Int32).toNatClampNeg then none else nw u6 (sNew u6 22 (5 : Int32).toNatClampNeg) fun q7 u8 => (if zK u8 a0 = 8 then bs (sR u8 a0 2 (some q7)) fun u9 => (if (5 : Int32) < 0 ∨ 5 < (5 : Int32).toNatClampNeg then none else nw u9 (sNew u9 22 (5 : Int32).toNatClampNeg) fun q10 u11 => (if zK u11 a0 = 8 then bs (sR u11 a0 3 (some q10)) fun u12 => (if (10 : Int32) < 0 ∨ 10 < (10 : Int32).toNatClampNeg then none else nw u12 (sNew u12 22 (10 : Int32).toNatClampNeg) fun q13 u14 => (if zK u14 a0 = 8 then bs (sR u14 a0 4 (some q13)) fun u15 => (if (10 : Int32) < 0 ∨ 10 < (10 : Int32).toNatClampNeg then none else nw u15 (sNew u15 22 (10 : Int32).toNatClampNeg) fun q16 u17 => (if zK u17 a0 = 8 then bs (sR u17 a0 5 (some q16)) fun u18 => (if zK u18 a0 = 8 then bs (sI u18 a0 6 (0 : Int32)) fun u19 => (if zK u19 a0 = 8 then bs (sI u19 a0 7 (0 : Int32)) fun u20 => (if zK u20 a0 = 8 then bs (sI u20 a0 8 (0 : Int32)) fun u21 => (if zK u21 a0 = 8 then bs (sI u21 a0 9 (0 : Int32)) fun u22 => (if zK u22 a0 = 8 then bs (sI u22 a0 10 (0 : Int32)) fun u23 => (some ((), u23)) else none) else none) else none) else none) else none) else none)) else none)) else none)) else none)) else none)) else none)
set_option maxRecDepth 20000 in
set_option maxHeartbeats 4000000 in
theorem kX7_init  (N : Nat)  (l : Launch) (D : va_G) (cT : Nat → ClassId) (z0 : Nat) (ks : Nat × Nat) (a0 : Nat) (u : SG) : Ct l D cT z0 ks yX7_init cX7_init 1 none 1 6 40 vU [.ref a0] u (fX7_init N  a0 u) := by
  unfold fX7_init
  refine ct_of (by decide +kernel) (Nat.le_of_ble_eq_true rfl) (fun p e R s m args below meth c hX => ?_)
  show JF _ True 1 0 0 _ 0 [(0, .ref a0)] [] u _
  refine jf_aload_n hX dX7_init_0 0 rfl ?_
  refine jf_objInit hX wml_567 winst_17 wcode_18 (by decide) (Nat.le_of_ble_eq_true rfl) dX7_init_1 ?_
  refine jf_aload_n hX dX7_init_4 0 rfl ?_
  refine jf_iconst (v := 5) hX dX7_init_5 (by decide) ?_
  refine jf_newaI hX trivial warrc_21 5 (by decide) (by decide) (by decide) dX7_init_6 (fun q1 u2 => ?_)
  refine jf_putRF (v := some q1) hX trivial ck_X7 0 wfl_568 (by decide) rfl rfl rfl rfl rfl dX7_init_8 (fun u3 => ?_)
  refine jf_aload_n hX dX7_init_11 0 rfl ?_
  refine jf_iconst (v := 5) hX dX7_init_12 (by decide) ?_
  refine jf_newaI hX trivial warrc_21 5 (by decide) (by decide) (by decide) dX7_init_13 (fun q4 u5 => ?_)
  refine jf_putRF (v := some q4) hX trivial ck_X7 1 wfl_569 (by decide) rfl rfl rfl rfl rfl dX7_init_15 (fun u6 => ?_)
  refine jf_aload_n hX dX7_init_18 0 rfl ?_
  refine jf_iconst (v := 5) hX dX7_init_19 (by decide) ?_
  refine jf_newaI hX trivial warrc_21 5 (by decide) (by decide) (by decide) dX7_init_20 (fun q7 u8 => ?_)
  refine jf_putRF (v := some q7) hX trivial ck_X7 2 wfl_406 (by decide) rfl rfl rfl rfl rfl dX7_init_22 (fun u9 => ?_)
  refine jf_aload_n hX dX7_init_25 0 rfl ?_
  refine jf_iconst (v := 5) hX dX7_init_26 (by decide) ?_
  refine jf_newaI hX trivial warrc_21 5 (by decide) (by decide) (by decide) dX7_init_27 (fun q10 u11 => ?_)
  refine jf_putRF (v := some q10) hX trivial ck_X7 3 wfl_404 (by decide) rfl rfl rfl rfl rfl dX7_init_29 (fun u12 => ?_)
  refine jf_aload_n hX dX7_init_32 0 rfl ?_
  refine jf_bipush (v := 10) hX dX7_init_33 (by decide) ?_
  refine jf_newaI hX trivial warrc_21 10 (by decide) (by decide) (by decide) dX7_init_35 (fun q13 u14 => ?_)
  refine jf_putRF (v := some q13) hX trivial ck_X7 4 wfl_402 (by decide) rfl rfl rfl rfl rfl dX7_init_37 (fun u15 => ?_)
  refine jf_aload_n hX dX7_init_40 0 rfl ?_
  refine jf_bipush (v := 10) hX dX7_init_41 (by decide) ?_
  refine jf_newaI hX trivial warrc_21 10 (by decide) (by decide) (by decide) dX7_init_43 (fun q16 u17 => ?_)
  refine jf_putRF (v := some q16) hX trivial ck_X7 5 wfl_388 (by decide) rfl rfl rfl rfl rfl dX7_init_45 (fun u18 => ?_)
  refine jf_aload_n hX dX7_init_48 0 rfl ?_
  refine jf_iconst (v := 0) hX dX7_init_49 (by decide) ?_
  refine jf_putI hX trivial ck_X7 6 wfl_570 (by decide) rfl rfl rfl dX7_init_50 (fun u19 => ?_)
  refine jf_aload_n hX dX7_init_53 0 rfl ?_
  refine jf_iconst (v := 0) hX dX7_init_54 (by decide) ?_
  refine jf_putI hX trivial ck_X7 7 wfl_462 (by decide) rfl rfl rfl dX7_init_55 (fun u20 => ?_)
  refine jf_aload_n hX dX7_init_58 0 rfl ?_
  refine jf_iconst (v := 0) hX dX7_init_59 (by decide) ?_
  refine jf_putI hX trivial ck_X7 8 wfl_571 (by decide) rfl rfl rfl dX7_init_60 (fun u21 => ?_)
  refine jf_aload_n hX dX7_init_63 0 rfl ?_
  refine jf_iconst (v := 0) hX dX7_init_64 (by decide) ?_
  refine jf_putI hX trivial ck_X7 9 wfl_405 (by decide) rfl rfl rfl dX7_init_65 (fun u22 => ?_)
  refine jf_aload_n hX dX7_init_68 0 rfl ?_
  refine jf_iconst (v := 0) hX dX7_init_69 (by decide) ?_
  refine jf_putI hX trivial ck_X7 10 wfl_572 (by decide) rfl rfl rfl dX7_init_70 (fun u23 => ?_)
  exact jf_vret hX rfl (by decide) (by decide) dX7_init_73
set_option maxRecDepth 20000 in
def fX6_init (N : Nat)  (a0 : Nat) (u : SG) : Option (Unit × SG) := nw u (sNew u 8 0) fun q1 u2 => (cla (u2.1 + 6) (fX7_init N q1 u2) fun r3 u4 => (if zK u4 a0 = 7 then bs (sR u4 a0 0 (some q1)) fun u5 => (nw u5 (sNew u5 3 0) fun q6 u7 => (cla (u7.1 + 3) (fX2_init N q6 u7) fun r8 u9 => (if zK u9 a0 = 7 then bs (sR u9 a0 1 (some q6)) fun u10 => (nw u10 (sNew u10 2 0) fun q11 u12 => (cla (u12.1 + 4) (fX1_init N q11 u12) fun r13 u14 => (if zK u14 a0 = 7 then bs (sR u14 a0 2 (some q11)) fun u15 => (if zK u15 a0 = 7 then bs (sI u15 a0 3 (-1 : Int32)) fun u16 => (if zK u16 a0 = 7 then bs (sI u16 a0 4 (0 : Int32)) fun u17 => (if zK u17 a0 = 7 then if (0 : Int32) = 0 ∨ (0 : Int32) = 1 then bs (sI u17 a0 5 (0 : Int32)) fun u18 => (some ((), u18)) else none else none) else none) else none) else none))) else none))) else none))
set_option maxRecDepth 20000 in
set_option maxHeartbeats 4000000 in
theorem kX6_init  (N : Nat)  (l : Launch) (D : va_G) (cT : Nat → ClassId) (z0 : Nat) (ks : Nat × Nat) (a0 : Nat) (u : SG) : Ct l D cT z0 ks yX6_init cX6_init 1 none 2 16 120 vU [.ref a0] u (fX6_init N  a0 u) := by
  unfold fX6_init
  refine ct_of (by decide +kernel) (Nat.le_of_ble_eq_true rfl) (fun p e R s m args below meth c hX => ?_)
  show JF _ True 1 0 0 _ 0 [(0, .ref a0)] [] u _
  refine jf_aload_n hX dX6_init_0 0 rfl ?_
  refine jf_objInit hX wml_573 winst_17 wcode_18 (by decide) (Nat.le_of_ble_eq_true rfl) dX6_init_1 ?_
  refine jf_aload_n hX dX6_init_4 0 rfl ?_
  refine jf_new hX trivial 7 ck_X7 df_X7 wclk_574 winsta_575 wini_576 (by decide) (by decide) dX6_init_5 (fun q1 u2 => ?_)
  refine jf_dup hX dX6_init_8 rfl ?_
  refine jf_callIN (As := []) (st := [.ref q1, .ref a0]) hX mo_X7_init wnest_577 winst_578 rfl rfl rfl (fun l D cT z0 ks => kX7_init N l D cT z0 ks q1 u2) (by decide) (by decide) (by decide) (by decide) (Nat.le_of_ble_eq_true rfl) rfl dX6_init_9 (fun r3 u4 => ?_)
  refine jf_putRF (v := some q1) hX trivial ck_X6 0 wfl_579 (by decide) rfl rfl rfl rfl rfl dX6_init_12 (fun u5 => ?_)
  refine jf_aload_n hX dX6_init_15 0 rfl ?_
  refine jf_new hX trivial 2 ck_X2 df_X2 wclk_580 winsta_355 wini_356 (by decide) (by decide) dX6_init_16 (fun q6 u7 => ?_)
  refine jf_dup hX dX6_init_19 rfl ?_
  refine jf_callIN (As := []) (st := [.ref q6, .ref a0]) hX mo_X2_init wnest_581 winst_358 rfl rfl rfl (fun l D cT z0 ks => kX2_init N l D cT z0 ks q6 u7) (by decide) (by decide) (by decide) (by decide) (Nat.le_of_ble_eq_true rfl) rfl dX6_init_20 (fun r8 u9 => ?_)
  refine jf_putRF (v := some q6) hX trivial ck_X6 1 wfl_582 (by decide) rfl rfl rfl rfl rfl dX6_init_23 (fun u10 => ?_)
  refine jf_aload_n hX dX6_init_26 0 rfl ?_
  refine jf_new hX trivial 1 ck_X1 df_X1 wclk_583 winsta_584 wini_585 (by decide) (by decide) dX6_init_27 (fun q11 u12 => ?_)
  refine jf_dup hX dX6_init_30 rfl ?_
  refine jf_callIN (As := []) (st := [.ref q11, .ref a0]) hX mo_X1_init wnest_586 winst_587 rfl rfl rfl (fun l D cT z0 ks => kX1_init N l D cT z0 ks q11 u12) (by decide) (by decide) (by decide) (by decide) (Nat.le_of_ble_eq_true rfl) rfl dX6_init_31 (fun r13 u14 => ?_)
  refine jf_putRF (v := some q11) hX trivial ck_X6 2 wfl_588 (by decide) rfl rfl rfl rfl rfl dX6_init_34 (fun u15 => ?_)
  refine jf_aload_n hX dX6_init_37 0 rfl ?_
  refine jf_iconst (v := -1) hX dX6_init_38 (by decide) ?_
  refine jf_putI hX trivial ck_X6 3 wfl_589 (by decide) rfl rfl rfl dX6_init_39 (fun u16 => ?_)
  refine jf_aload_n hX dX6_init_42 0 rfl ?_
  refine jf_iconst (v := 0) hX dX6_init_43 (by decide) ?_
  refine jf_putI hX trivial ck_X6 4 wfl_590 (by decide) rfl rfl rfl dX6_init_44 (fun u17 => ?_)
  refine jf_aload_n hX dX6_init_47 0 rfl ?_
  refine jf_iconst (v := 0) hX dX6_init_48 (by decide) ?_
  refine jf_putZ hX trivial ck_X6 5 wfl_591 (by decide) rfl rfl rfl dX6_init_49 (fun u18 => ?_)
  exact jf_vret hX rfl (by decide) (by decide) dX6_init_52
set_option maxRecDepth 20000 in
def fX7_copyOf (N : Nat)  (a0 : Nat) (p1 : Nat) (u : SG) : Option (Unit × SG) := if zK u p1 = 8 then (if zK u a0 = 8 then bs (sI u a0 6 (zI u p1 6)) fun u1 => (if zK u1 p1 = 8 then (if zK u1 a0 = 8 then bs (sI u1 a0 7 (zI u1 p1 7)) fun u2 => (if zK u2 p1 = 8 then (if zK u2 a0 = 8 then bs (sI u2 a0 8 (zI u2 p1 8)) fun u3 => (if zK u3 p1 = 8 then (if zK u3 a0 = 8 then bs (sI u3 a0 9 (zI u3 p1 9)) fun u4 => (if zK u4 p1 = 8 then (if zK u4 a0 = 8 then bs (sI u4 a0 10 (zI u4 p1 10)) fun u5 => (if zK u5 p1 = 8 then (Option.bind (zR u5 p1 0) fun q6 => (if zK u5 a0 = 8 then (Option.bind (zR u5 a0 0) fun q7 => (if zK u5 q6 = 22 then if zK u5 q7 = 22 then if (0 : Int32) < 0 ∨ (0 : Int32) < 0 ∨ (5 : Int32) < 0 ∨ zN u5 q6 < (0 : Int32).toNatClampNeg + (5 : Int32).toNatClampNeg ∨ zN u5 q7 < (0 : Int32).toNatClampNeg + (5 : Int32).toNatClampNeg then none else bs (sIr u5 q7 (va_cpy (zI u5 q6) (zI u5 q7) (0 : Int32).toNatClampNeg (0 : Int32).toNatClampNeg (5 : Int32).toNatClampNeg)) fun u8 => (if zK u8 p1 = 8 then (Option.bind (zR u8 p1 1) fun q9 => (if zK u8 a0 = 8 then (Option.bind (zR u8 a0 1) fun q10 => (if zK u8 q9 = 22 then if zK u8 q10 = 22 then if (0 : Int32) < 0 ∨ (0 : Int32) < 0 ∨ (5 : Int32) < 0 ∨ zN u8 q9 < (0 : Int32).toNatClampNeg + (5 : Int32).toNatClampNeg ∨ zN u8 q10 < (0 : Int32).toNatClampNeg + (5 : Int32).toNatClampNeg then none else bs (sIr u8 q10 (va_cpy (zI u8 q9) (zI u8 q10) (0 : Int32).toNatClampNeg (0 : Int32).toNatClampNeg (5 : Int32).toNatClampNeg)) fun u11 => (if zK u11 p1 = 8 then (Option.bind (zR u11 p1 2) fun q12 => (if zK u11 a0 = 8 then (Option.bind (zR u11 a0 2) fun q13 => (if zK u11 q12 = 22 then if zK u11 q13 = 22 then if (0 : Int32) < 0 ∨ (0 : Int32) < 0 ∨ (5 : Int32) < 0 ∨ zN u11 q12 < (0 : Int32).toNatClampNeg + (5 : Int32).toNatClampNeg ∨ zN u11 q13 < (0 : Int32).toNatClampNeg + (5 : Int32).toNatClampNeg then none else bs (sIr u11 q13 (va_cpy (zI u11 q12) (zI u11 q13) (0 : Int32).toNatClampNeg (0 : Int32).toNatClampNeg (5 : Int32).toNatClampNeg)) fun u14 => (if zK u14 p1 = 8 then (Option.bind (zR u14 p1 3) fun q15 => (if zK u14 a0 = 8 then (Option.bind (zR u14 a0 3) fun q16 => (if zK u14 q15 = 22 then if zK u14 q16 = 22 then if (0 : Int32) < 0 ∨ (0 : Int32) < 0 ∨ (5 : Int32) < 0 ∨ zN u14 q15 < (0 : Int32).toNatClampNeg + (5 : Int32).toNatClampNeg ∨ zN u14 q16 < (0 : Int32).toNatClampNeg + (5 : Int32).toNatClampNeg then none else bs (sIr u14 q16 (va_cpy (zI u14 q15) (zI u14 q16) (0 : Int32).toNatClampNeg (0 : Int32).toNatClampNeg (5 : Int32).toNatClampNeg)) fun u17 => (if zK u17 p1 = 8 then (Option.bind (zR u17 p1 4) fun q18 => (if zK u17 a0 = 8 then (Option.bind (zR u17 a0 4) fun q19 => (if zK u17 q18 = 22 then if zK u17 q19 = 22 then if (0 : Int32) < 0 ∨ (0 : Int32) < 0 ∨ (10 : Int32) < 0 ∨ zN u17 q18 < (0 : Int32).toNatClampNeg + (10 : Int32).toNatClampNeg ∨ zN u17 q19 < (0 : Int32).toNatClampNeg + (10 : Int32).toNatClampNeg then none else bs (sIr u17 q19 (va_cpy (zI u17 q18) (zI u17 q19) (0 : Int32).toNatClampNeg (0 : Int32).toNatClampNeg (10 : Int32).toNatClampNeg)) fun u20 => (if zK u20 p1 = 8 then (Option.bind (zR u20 p1 5) fun q21 => (if zK u20 a0 = 8 then (Option.bind (zR u20 a0 5) fun q22 => (if zK u20 q21 = 22 then if zK u20 q22 = 22 then if (0 : Int32) < 0 ∨ (0 : Int32) < 0 ∨ (10 : Int32) < 0 ∨ zN u20 q21 < (0 : Int32).toNatClampNeg + (10 : Int32).toNatClampNeg ∨ zN u20 q22 < (0 : Int32).toNatClampNeg + (10 : Int32).toNatClampNeg then none else bs (sIr u20 q22 (va_cpy (zI u20 q21) (zI u20 q22) (0 : Int32).toNatClampNeg (0 : Int32).toNatClampNeg (10 : Int32).toNatClampNeg)) fun u23 => (some ((), u23)) else none else none)) else none)) else none) else none else none)) else none)) else none) else none else none)) else none)) else none) else none else none)) else none)) else none) else none else none)) else none)) else none) else none else none)) else none)) else none) else none) else none) else none) else none) else none) else none) else none) else none) else none) else none
set_option maxRecDepth 20000 in
set_option maxHeartbeats 4000000 in
theorem kX7_copyOf  (N : Nat)  (l : Launch) (D : va_G) (cT : Nat → ClassId) (z0 : Nat) (ks : Nat × Nat) (a0 : Nat) (p1 : Nat) (u : SG) : Ct l D cT z0 ks yX7_copyOf cX7_copyOf 2 none 1 0 0 vU [.ref a0, .ref p1] u (fX7_copyOf N  a0 p1 u) := by
  unfold fX7_copyOf
  refine ct_of (by decide +kernel) (Nat.le_of_ble_eq_true rfl) (fun p e R s m args below meth c hX => ?_)
  show JF _ True 2 0 0 _ 0 [(0, .ref a0), (1, .ref p1)] [] u _
  refine jf_aload_n hX dX7_copyOf_0 0 rfl ?_
  refine jf_aload_n hX dX7_copyOf_1 1 rfl ?_
  refine jf_getI hX ck_X7 6 wfl_570 (by decide) rfl dX7_copyOf_2 ?_
  refine jf_putI hX trivial ck_X7 6 wfl_570 (by decide) rfl rfl rfl dX7_copyOf_5 (fun u1 => ?_)
  refine jf_aload_n hX dX7_copyOf_8 0 rfl ?_
  refine jf_aload_n hX dX7_copyOf_9 1 rfl ?_
  refine jf_getI hX ck_X7 7 wfl_462 (by decide) rfl dX7_copyOf_10 ?_
  refine jf_putI hX trivial ck_X7 7 wfl_462 (by decide) rfl rfl rfl dX7_copyOf_13 (fun u2 => ?_)
  refine jf_aload_n hX dX7_copyOf_16 0 rfl ?_
  refine jf_aload_n hX dX7_copyOf_17 1 rfl ?_
  refine jf_getI hX ck_X7 8 wfl_571 (by decide) rfl dX7_copyOf_18 ?_
  refine jf_putI hX trivial ck_X7 8 wfl_571 (by decide) rfl rfl rfl dX7_copyOf_21 (fun u3 => ?_)
  refine jf_aload_n hX dX7_copyOf_24 0 rfl ?_
  refine jf_aload_n hX dX7_copyOf_25 1 rfl ?_
  refine jf_getI hX ck_X7 9 wfl_405 (by decide) rfl dX7_copyOf_26 ?_
  refine jf_putI hX trivial ck_X7 9 wfl_405 (by decide) rfl rfl rfl dX7_copyOf_29 (fun u4 => ?_)
  refine jf_aload_n hX dX7_copyOf_32 0 rfl ?_
  refine jf_aload_n hX dX7_copyOf_33 1 rfl ?_
  refine jf_getI hX ck_X7 10 wfl_572 (by decide) rfl dX7_copyOf_34 ?_
  refine jf_putI hX trivial ck_X7 10 wfl_572 (by decide) rfl rfl rfl dX7_copyOf_37 (fun u5 => ?_)
  refine jf_aload_n hX dX7_copyOf_40 1 rfl ?_
  refine jf_getR hX ck_X7 0 wfl_568 (by decide) rfl dX7_copyOf_41 ?_
  refine jf_nn (fun q6 => ?_)
  refine jf_iconst (v := 0) hX dX7_copyOf_44 (by decide) ?_
  refine jf_aload_n hX dX7_copyOf_45 0 rfl ?_
  refine jf_getR hX ck_X7 0 wfl_568 (by decide) rfl dX7_copyOf_46 ?_
  refine jf_nn (fun q7 => ?_)
  refine jf_iconst (v := 0) hX dX7_copyOf_49 (by decide) ?_
  refine jf_iconst (v := 5) hX dX7_copyOf_50 (by decide) ?_
  refine jf_cpyi hX trivial wml_592 wnative_360 wstat_361 wini_362 (by decide) (Nat.le_of_ble_eq_true rfl) dX7_copyOf_51 (fun u8 => ?_)
  refine jf_aload_n hX dX7_copyOf_54 1 rfl ?_
  refine jf_getR hX ck_X7 1 wfl_569 (by decide) rfl dX7_copyOf_55 ?_
  refine jf_nn (fun q9 => ?_)
  refine jf_iconst (v := 0) hX dX7_copyOf_58 (by decide) ?_
  refine jf_aload_n hX dX7_copyOf_59 0 rfl ?_
  refine jf_getR hX ck_X7 1 wfl_569 (by decide) rfl dX7_copyOf_60 ?_
  refine jf_nn (fun q10 => ?_)
  refine jf_iconst (v := 0) hX dX7_copyOf_63 (by decide) ?_
  refine jf_iconst (v := 5) hX dX7_copyOf_64 (by decide) ?_
  refine jf_cpyi hX trivial wml_592 wnative_360 wstat_361 wini_362 (by decide) (Nat.le_of_ble_eq_true rfl) dX7_copyOf_65 (fun u11 => ?_)
  refine jf_aload_n hX dX7_copyOf_68 1 rfl ?_
  refine jf_getR hX ck_X7 2 wfl_406 (by decide) rfl dX7_copyOf_69 ?_
  refine jf_nn (fun q12 => ?_)
  refine jf_iconst (v := 0) hX dX7_copyOf_72 (by decide) ?_
  refine jf_aload_n hX dX7_copyOf_73 0 rfl ?_
  refine jf_getR hX ck_X7 2 wfl_406 (by decide) rfl dX7_copyOf_74 ?_
  refine jf_nn (fun q13 => ?_)
  refine jf_iconst (v := 0) hX dX7_copyOf_77 (by decide) ?_
  refine jf_iconst (v := 5) hX dX7_copyOf_78 (by decide) ?_
  refine jf_cpyi hX trivial wml_592 wnative_360 wstat_361 wini_362 (by decide) (Nat.le_of_ble_eq_true rfl) dX7_copyOf_79 (fun u14 => ?_)
  refine jf_aload_n hX dX7_copyOf_82 1 rfl ?_
  refine jf_getR hX ck_X7 3 wfl_404 (by decide) rfl dX7_copyOf_83 ?_
  refine jf_nn (fun q15 => ?_)
  refine jf_iconst (v := 0) hX dX7_copyOf_86 (by decide) ?_
  refine jf_aload_n hX dX7_copyOf_87 0 rfl ?_
  refine jf_getR hX ck_X7 3 wfl_404 (by decide) rfl dX7_copyOf_88 ?_
  refine jf_nn (fun q16 => ?_)
  refine jf_iconst (v := 0) hX dX7_copyOf_91 (by decide) ?_
  refine jf_iconst (v := 5) hX dX7_copyOf_92 (by decide) ?_
  refine jf_cpyi hX trivial wml_592 wnative_360 wstat_361 wini_362 (by decide) (Nat.le_of_ble_eq_true rfl) dX7_copyOf_93 (fun u17 => ?_)
  refine jf_aload_n hX dX7_copyOf_96 1 rfl ?_
  refine jf_getR hX ck_X7 4 wfl_402 (by decide) rfl dX7_copyOf_97 ?_
  refine jf_nn (fun q18 => ?_)
  refine jf_iconst (v := 0) hX dX7_copyOf_100 (by decide) ?_
  refine jf_aload_n hX dX7_copyOf_101 0 rfl ?_
  refine jf_getR hX ck_X7 4 wfl_402 (by decide) rfl dX7_copyOf_102 ?_
  refine jf_nn (fun q19 => ?_)
  refine jf_iconst (v := 0) hX dX7_copyOf_105 (by decide) ?_
  refine jf_bipush (v := 10) hX dX7_copyOf_106 (by decide) ?_
  refine jf_cpyi hX trivial wml_592 wnative_360 wstat_361 wini_362 (by decide) (Nat.le_of_ble_eq_true rfl) dX7_copyOf_108 (fun u20 => ?_)
  refine jf_aload_n hX dX7_copyOf_111 1 rfl ?_
  refine jf_getR hX ck_X7 5 wfl_388 (by decide) rfl dX7_copyOf_112 ?_
  refine jf_nn (fun q21 => ?_)
  refine jf_iconst (v := 0) hX dX7_copyOf_115 (by decide) ?_
  refine jf_aload_n hX dX7_copyOf_116 0 rfl ?_
  refine jf_getR hX ck_X7 5 wfl_388 (by decide) rfl dX7_copyOf_117 ?_
  refine jf_nn (fun q22 => ?_)
  refine jf_iconst (v := 0) hX dX7_copyOf_120 (by decide) ?_
  refine jf_bipush (v := 10) hX dX7_copyOf_121 (by decide) ?_
  refine jf_cpyi hX trivial wml_592 wnative_360 wstat_361 wini_362 (by decide) (Nat.le_of_ble_eq_true rfl) dX7_copyOf_123 (fun u23 => ?_)
  exact jf_vret hX rfl (by decide) (by decide) dX7_copyOf_126
set_option maxRecDepth 20000 in
def fX6_copyOf (N : Nat)  (a0 : Nat) (p1 : Nat) (u : SG) : Option (Unit × SG) := if zK u a0 = 7 then (Option.bind (zR u a0 0) fun q1 => (if zK u p1 = 7 then (Option.bind (zR u p1 0) fun q2 => (if zK u q1 = 8 then cl (fX7_copyOf N q1 q2 u) fun r3 u4 => (if zK u4 a0 = 7 then (Option.bind (zR u4 a0 1) fun q5 => (if zK u4 p1 = 7 then (Option.bind (zR u4 p1 1) fun q6 => (if zK u4 q5 = 3 then cl (fX2_copyOf N q5 q6 u4) fun r7 u8 => (if zK u8 a0 = 7 then (Option.bind (zR u8 a0 2) fun q9 => (if zK u8 p1 = 7 then (Option.bind (zR u8 p1 2) fun q10 => (if zK u8 q9 = 2 then cl (fX1_copyOf N q9 q10 u8) fun r11 u12 => (if zK u12 p1 = 7 then (if zK u12 a0 = 7 then bs (sI u12 a0 3 (zI u12 p1 3)) fun u13 => (if zK u13 p1 = 7 then (if zK u13 a0 = 7 then bs (sI u13 a0 4 (zI u13 p1 4)) fun u14 => (some ((), u14)) else none) else none) else none) else none) else none)) else none)) else none) else none)) else none)) else none) else none)) else none)) else none
set_option maxRecDepth 20000 in
set_option maxHeartbeats 4000000 in
theorem kX6_copyOf  (N : Nat)  (l : Launch) (D : va_G) (cT : Nat → ClassId) (z0 : Nat) (ks : Nat × Nat) (a0 : Nat) (p1 : Nat) (u : SG) : Ct l D cT z0 ks yX6_copyOf cX6_copyOf 2 none 2 0 0 vU [.ref a0, .ref p1] u (fX6_copyOf N  a0 p1 u) := by
  unfold fX6_copyOf
  refine ct_of (by decide +kernel) (Nat.le_of_ble_eq_true rfl) (fun p e R s m args below meth c hX => ?_)
  show JF _ True 2 0 0 _ 0 [(0, .ref a0), (1, .ref p1)] [] u _
  refine jf_aload_n hX dX6_copyOf_0 0 rfl ?_
  refine jf_getR hX ck_X6 0 wfl_579 (by decide) rfl dX6_copyOf_1 ?_
  refine jf_nn (fun q1 => ?_)
  refine jf_aload_n hX dX6_copyOf_4 1 rfl ?_
  refine jf_getR hX ck_X6 0 wfl_579 (by decide) rfl dX6_copyOf_5 ?_
  refine jf_nn (fun q2 => ?_)
  refine jf_callV (As := [.ref q2]) (st := []) hX mo_X7_copyOf wml_593 winst_594 wsel_595 7 ck_X7 rfl (fun l D cT z0 ks => kX7_copyOf N l D cT z0 ks q1 q2 u) (by decide) (by decide) (by decide) (by decide) (Nat.le_of_ble_eq_true rfl) rfl rfl dX6_copyOf_8 (fun r3 u4 => ?_)
  refine jf_aload_n hX dX6_copyOf_11 0 rfl ?_
  refine jf_getR hX ck_X6 1 wfl_582 (by decide) rfl dX6_copyOf_12 ?_
  refine jf_nn (fun q5 => ?_)
  refine jf_aload_n hX dX6_copyOf_15 1 rfl ?_
  refine jf_getR hX ck_X6 1 wfl_582 (by decide) rfl dX6_copyOf_16 ?_
  refine jf_nn (fun q6 => ?_)
  refine jf_callV (As := [.ref q6]) (st := []) hX mo_X2_copyOf wml_596 winst_364 wsel_365 2 ck_X2 rfl (fun l D cT z0 ks => kX2_copyOf N l D cT z0 ks q5 q6 u4) (by decide) (by decide) (by decide) (by decide) (Nat.le_of_ble_eq_true rfl) rfl rfl dX6_copyOf_19 (fun r7 u8 => ?_)
  refine jf_aload_n hX dX6_copyOf_22 0 rfl ?_
  refine jf_getR hX ck_X6 2 wfl_588 (by decide) rfl dX6_copyOf_23 ?_
  refine jf_nn (fun q9 => ?_)
  refine jf_aload_n hX dX6_copyOf_26 1 rfl ?_
  refine jf_getR hX ck_X6 2 wfl_588 (by decide) rfl dX6_copyOf_27 ?_
  refine jf_nn (fun q10 => ?_)
  refine jf_callV (As := [.ref q10]) (st := []) hX mo_X1_copyOf wml_597 winst_598 wsel_599 1 ck_X1 rfl (fun l D cT z0 ks => kX1_copyOf N l D cT z0 ks q9 q10 u8) (by decide) (by decide) (by decide) (by decide) (Nat.le_of_ble_eq_true rfl) rfl rfl dX6_copyOf_30 (fun r11 u12 => ?_)
  refine jf_aload_n hX dX6_copyOf_33 0 rfl ?_
  refine jf_aload_n hX dX6_copyOf_34 1 rfl ?_
  refine jf_getI hX ck_X6 3 wfl_589 (by decide) rfl dX6_copyOf_35 ?_
  refine jf_putI hX trivial ck_X6 3 wfl_589 (by decide) rfl rfl rfl dX6_copyOf_38 (fun u13 => ?_)
  refine jf_aload_n hX dX6_copyOf_41 0 rfl ?_
  refine jf_aload_n hX dX6_copyOf_42 1 rfl ?_
  refine jf_getI hX ck_X6 4 wfl_590 (by decide) rfl dX6_copyOf_43 ?_
  refine jf_putI hX trivial ck_X6 4 wfl_590 (by decide) rfl rfl rfl dX6_copyOf_46 (fun u14 => ?_)
  exact jf_vret hX rfl (by decide) (by decide) dX6_copyOf_49
set_option maxRecDepth 20000 in
def gX7_clear_27 (N : Nat)   : Nat → Nat → Int32 → SG → Option (Unit × SG)
  | 0, _, _, _ => none
  | n + 1, x0, x1, u => if (10 : Int32) ≤ x1 then (some ((), u))
  else (if zK u x0 = 8 then (Option.bind (zR u x0 4) fun q1 => (if zK u q1 = 22 then if x1 < 0 ∨ zN u q1 ≤ x1.toNatClampNeg then none else bs (sI u q1 x1.toNatClampNeg (0 : Int32)) fun u2 => (if zK u2 x0 = 8 then (Option.bind (zR u2 x0 5) fun q3 => (if zK u2 q3 = 22 then if x1 < 0 ∨ zN u2 q3 ≤ x1.toNatClampNeg then none else bs (sI u2 q3 x1.toNatClampNeg (0 : Int32)) fun u4 => ((gX7_clear_27 N  n) x0 (x1 + (1 : Int32)) u4) else none)) else none) else none)) else none)
set_option maxRecDepth 20000 in
set_option maxHeartbeats 4000000 in
theorem jgX7_clear_27   {X : XT} (hX : Cx X yX7_clear cX7_clear 2 none 1 0 0) (N : Nat)  : ∀ (n : Nat) (x0 : Nat) (x1 : Int32) (u : SG), JF X True 2 0 0 (jQ X vU 0 0) 27 [(0, .ref x0), (1, .int x1)] [] u (gX7_clear_27 N   n x0 x1 u) := by
  intro n
  induction n with
  | zero => intros; intro r u9 h9; exact absurd h9 (by simp [gX7_clear_27])
  | succ n ih =>
    intro x0 x1 u
    have hrec27 := ih
    rw [gX7_clear_27]
    refine jf_iload_n hX dX7_clear_27 1 rfl ?_
    refine jf_bipush (v := 10) hX dX7_clear_28 (by decide) ?_
    refine jf_icmp_ge (tgt := 53) hX dX7_clear_30 (by decide) ?_ ?_
    · exact jf_vret hX rfl (by decide) (by decide) dX7_clear_53
    · refine jf_aload_n hX dX7_clear_33 0 rfl ?_
      refine jf_getR hX ck_X7 4 wfl_402 (by decide) rfl dX7_clear_34 ?_
      refine jf_nn (fun q1 => ?_)
      refine jf_iload_n hX dX7_clear_37 1 rfl ?_
      refine jf_iconst (v := 0) hX dX7_clear_38 (by decide) ?_
      refine jf_iast hX trivial dX7_clear_39 (fun u2 => ?_)
      refine jf_aload_n hX dX7_clear_40 0 rfl ?_
      refine jf_getR hX ck_X7 5 wfl_388 (by decide) rfl dX7_clear_41 ?_
      refine jf_nn (fun q3 => ?_)
      refine jf_iload_n hX dX7_clear_44 1 rfl ?_
      refine jf_iconst (v := 0) hX dX7_clear_45 (by decide) ?_
      refine jf_iast hX trivial dX7_clear_46 (fun u4 => ?_)
      refine jf_iinc (v := 1) (lv' := [(1, .int (x1 + (1 : Int32))), (0, .ref x0)]) hX dX7_clear_47 1 rfl (by decide) (by decide) rfl ?_
      refine jf_goto (tgt := 27) hX dX7_clear_50 (by decide) ?_
      refine jf_lv [1, 0] rfl ?_
      exact hrec27 x0 (x1 + (1 : Int32)) u4
set_option maxRecDepth 20000 in
def fX7_clear (N : Nat)  (a0 : Nat) (u : SG) : Option (Unit × SG) := if zK u a0 = 8 then bs (sI u a0 6 (0 : Int32)) fun u1 => (if zK u1 a0 = 8 then bs (sI u1 a0 7 (0 : Int32)) fun u2 => (if zK u2 a0 = 8 then bs (sI u2 a0 8 (0 : Int32)) fun u3 => (if zK u3 a0 = 8 then bs (sI u3 a0 9 (0 : Int32)) fun u4 => (if zK u4 a0 = 8 then bs (sI u4 a0 10 (0 : Int32)) fun u5 => (gX7_clear_27 N  N a0 (0 : Int32) u5) else none) else none) else none) else none) else none
set_option maxRecDepth 20000 in
set_option maxHeartbeats 4000000 in
theorem kX7_clear  (N : Nat)  (l : Launch) (D : va_G) (cT : Nat → ClassId) (z0 : Nat) (ks : Nat × Nat) (a0 : Nat) (u : SG) : Ct l D cT z0 ks yX7_clear cX7_clear 2 none 1 0 0 vU [.ref a0] u (fX7_clear N  a0 u) := by
  unfold fX7_clear
  refine ct_of (by decide +kernel) (Nat.le_of_ble_eq_true rfl) (fun p e R s m args below meth c hX => ?_)
  show JF _ True 2 0 0 _ 0 [(0, .ref a0)] [] u _
  refine jf_aload_n hX dX7_clear_0 0 rfl ?_
  refine jf_iconst (v := 0) hX dX7_clear_1 (by decide) ?_
  refine jf_putI hX trivial ck_X7 6 wfl_570 (by decide) rfl rfl rfl dX7_clear_2 (fun u1 => ?_)
  refine jf_aload_n hX dX7_clear_5 0 rfl ?_
  refine jf_iconst (v := 0) hX dX7_clear_6 (by decide) ?_
  refine jf_putI hX trivial ck_X7 7 wfl_462 (by decide) rfl rfl rfl dX7_clear_7 (fun u2 => ?_)
  refine jf_aload_n hX dX7_clear_10 0 rfl ?_
  refine jf_iconst (v := 0) hX dX7_clear_11 (by decide) ?_
  refine jf_putI hX trivial ck_X7 8 wfl_571 (by decide) rfl rfl rfl dX7_clear_12 (fun u3 => ?_)
  refine jf_aload_n hX dX7_clear_15 0 rfl ?_
  refine jf_iconst (v := 0) hX dX7_clear_16 (by decide) ?_
  refine jf_putI hX trivial ck_X7 9 wfl_405 (by decide) rfl rfl rfl dX7_clear_17 (fun u4 => ?_)
  refine jf_aload_n hX dX7_clear_20 0 rfl ?_
  refine jf_iconst (v := 0) hX dX7_clear_21 (by decide) ?_
  refine jf_putI hX trivial ck_X7 10 wfl_572 (by decide) rfl rfl rfl dX7_clear_22 (fun u5 => ?_)
  refine jf_iconst (v := 0) hX dX7_clear_25 (by decide) ?_
  refine jf_istore_n (lv' := [(1, .int (0 : Int32)), (0, .ref a0)]) hX dX7_clear_26 rfl (by decide) rfl ?_
  refine jf_lv [1, 0] rfl ?_
  exact jgX7_clear_27 hX N  N a0 (0 : Int32) u5
set_option maxRecDepth 20000 in
def fX7_isTold (N : Nat)  (a0 : Nat) (u : SG) : Option (Int32 × SG) := if zK u a0 = 8 then (if (zI u a0 6) ≤ 0 then (some ((0 : Int32), u))
  else (some ((1 : Int32), u))) else none
set_option maxRecDepth 20000 in
set_option maxHeartbeats 4000000 in
theorem kX7_isTold  (N : Nat)  (l : Launch) (D : va_G) (cT : Nat → ClassId) (z0 : Nat) (ks : Nat × Nat) (a0 : Nat) (u : SG) : Ct l D cT z0 ks yX7_isTold cX7_isTold 1 (some .boolean) 1 0 0 vI [.ref a0] u (fX7_isTold N  a0 u) := by
  unfold fX7_isTold
  refine ct_of (by decide +kernel) (Nat.le_of_ble_eq_true rfl) (fun p e R s m args below meth c hX => ?_)
  show JF _ True 1 0 0 _ 0 [(0, .ref a0)] [] u _
  refine jf_aload_n hX dX7_isTold_0 0 rfl ?_
  refine jf_getI hX ck_X7 6 wfl_570 (by decide) rfl dX7_isTold_1 ?_
  refine jf_if_le (tgt := 11) hX dX7_isTold_4 (by decide) ?_ ?_
  · refine jf_iconst (v := 0) hX dX7_isTold_11 (by decide) ?_
    exact jf_zretc hX rfl (by decide) (by decide) (by decide) dX7_isTold_12
  · refine jf_iconst (v := 1) hX dX7_isTold_7 (by decide) ?_
    refine jf_goto (tgt := 12) hX dX7_isTold_8 (by decide) ?_
    exact jf_zretc hX rfl (by decide) (by decide) (by decide) dX7_isTold_12
set_option maxRecDepth 20000 in
def fX7_isPerson (N : Nat)  (a0 : Nat) (p1 : Int32) (u : SG) : Option (Int32 × SG) := if p1 < 0 then (some ((0 : Int32), u))
  else (if zK u a0 = 8 then (if (zI u a0 7) ≤ p1 then (some ((0 : Int32), u))
  else (if (5 : Int32) ≤ p1 then (some ((0 : Int32), u))
  else (some ((1 : Int32), u)))) else none)
set_option maxRecDepth 20000 in
set_option maxHeartbeats 4000000 in
theorem kX7_isPerson  (N : Nat)  (l : Launch) (D : va_G) (cT : Nat → ClassId) (z0 : Nat) (ks : Nat × Nat) (a0 : Nat) (p1 : Int32) (u : SG) : Ct l D cT z0 ks yX7_isPerson cX7_isPerson 2 (some .boolean) 1 0 0 vI [.ref a0, .int p1] u (fX7_isPerson N  a0 p1 u) := by
  unfold fX7_isPerson
  refine ct_of (by decide +kernel) (Nat.le_of_ble_eq_true rfl) (fun p e R s m args below meth c hX => ?_)
  show JF _ True 2 0 0 _ 0 [(0, .ref a0), (1, .int p1)] [] u _
  refine jf_iload_n hX dX7_isPerson_0 1 rfl ?_
  refine jf_if_lt (tgt := 21) hX dX7_isPerson_1 (by decide) ?_ ?_
  · refine jf_iconst (v := 0) hX dX7_isPerson_21 (by decide) ?_
    exact jf_zretc hX rfl (by decide) (by decide) (by decide) dX7_isPerson_22
  · refine jf_iload_n hX dX7_isPerson_4 1 rfl ?_
    refine jf_aload_n hX dX7_isPerson_5 0 rfl ?_
    refine jf_getI hX ck_X7 7 wfl_462 (by decide) rfl dX7_isPerson_6 ?_
    refine jf_icmp_ge (tgt := 21) hX dX7_isPerson_9 (by decide) ?_ ?_
    · refine jf_iconst (v := 0) hX dX7_isPerson_21 (by decide) ?_
      exact jf_zretc hX rfl (by decide) (by decide) (by decide) dX7_isPerson_22
    · refine jf_iload_n hX dX7_isPerson_12 1 rfl ?_
      refine jf_iconst (v := 5) hX dX7_isPerson_13 (by decide) ?_
      refine jf_icmp_ge (tgt := 21) hX dX7_isPerson_14 (by decide) ?_ ?_
      · refine jf_iconst (v := 0) hX dX7_isPerson_21 (by decide) ?_
        exact jf_zretc hX rfl (by decide) (by decide) (by decide) dX7_isPerson_22
      · refine jf_iconst (v := 1) hX dX7_isPerson_17 (by decide) ?_
        refine jf_goto (tgt := 22) hX dX7_isPerson_18 (by decide) ?_
        exact jf_zretc hX rfl (by decide) (by decide) (by decide) dX7_isPerson_22
set_option maxRecDepth 20000 in
def fX7_isLamp (N : Nat)  (a0 : Nat) (p1 : Int32) (u : SG) : Option (Int32 × SG) := if p1 < 0 then (some ((0 : Int32), u))
  else (if zK u a0 = 8 then (if (zI u a0 9) ≤ p1 then (some ((0 : Int32), u))
  else (if (5 : Int32) ≤ p1 then (some ((0 : Int32), u))
  else (some ((1 : Int32), u)))) else none)
set_option maxRecDepth 20000 in
set_option maxHeartbeats 4000000 in
theorem kX7_isLamp  (N : Nat)  (l : Launch) (D : va_G) (cT : Nat → ClassId) (z0 : Nat) (ks : Nat × Nat) (a0 : Nat) (p1 : Int32) (u : SG) : Ct l D cT z0 ks yX7_isLamp cX7_isLamp 2 (some .boolean) 1 0 0 vI [.ref a0, .int p1] u (fX7_isLamp N  a0 p1 u) := by
  unfold fX7_isLamp
  refine ct_of (by decide +kernel) (Nat.le_of_ble_eq_true rfl) (fun p e R s m args below meth c hX => ?_)
  show JF _ True 2 0 0 _ 0 [(0, .ref a0), (1, .int p1)] [] u _
  refine jf_iload_n hX dX7_isLamp_0 1 rfl ?_
  refine jf_if_lt (tgt := 21) hX dX7_isLamp_1 (by decide) ?_ ?_
  · refine jf_iconst (v := 0) hX dX7_isLamp_21 (by decide) ?_
    exact jf_zretc hX rfl (by decide) (by decide) (by decide) dX7_isLamp_22
  · refine jf_iload_n hX dX7_isLamp_4 1 rfl ?_
    refine jf_aload_n hX dX7_isLamp_5 0 rfl ?_
    refine jf_getI hX ck_X7 9 wfl_405 (by decide) rfl dX7_isLamp_6 ?_
    refine jf_icmp_ge (tgt := 21) hX dX7_isLamp_9 (by decide) ?_ ?_
    · refine jf_iconst (v := 0) hX dX7_isLamp_21 (by decide) ?_
      exact jf_zretc hX rfl (by decide) (by decide) (by decide) dX7_isLamp_22
    · refine jf_iload_n hX dX7_isLamp_12 1 rfl ?_
      refine jf_iconst (v := 5) hX dX7_isLamp_13 (by decide) ?_
      refine jf_icmp_ge (tgt := 21) hX dX7_isLamp_14 (by decide) ?_ ?_
      · refine jf_iconst (v := 0) hX dX7_isLamp_21 (by decide) ?_
        exact jf_zretc hX rfl (by decide) (by decide) (by decide) dX7_isLamp_22
      · refine jf_iconst (v := 1) hX dX7_isLamp_17 (by decide) ?_
        refine jf_goto (tgt := 22) hX dX7_isLamp_18 (by decide) ?_
        exact jf_zretc hX rfl (by decide) (by decide) (by decide) dX7_isLamp_22
