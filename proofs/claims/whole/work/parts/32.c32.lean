theorem dX7_addPerson_0 : decode cX7_addPerson 0 = .ok (.aload_n 0, 1) := by decide +kernel
theorem dX7_addPerson_1 : decode cX7_addPerson 1 = .ok (.getfield 34, 3) := by decide +kernel
theorem dX7_addPerson_4 : decode cX7_addPerson 4 = .ok (.ifCond .lt 41, 3) := by decide +kernel
theorem dX7_addPerson_7 : decode cX7_addPerson 7 = .ok (.aload_n 0, 1) := by decide +kernel
theorem dX7_addPerson_8 : decode cX7_addPerson 8 = .ok (.getfield 34, 3) := by decide +kernel
theorem dX7_addPerson_11 : decode cX7_addPerson 11 = .ok (.iconst 5, 1) := by decide +kernel
theorem dX7_addPerson_12 : decode cX7_addPerson 12 = .ok (.if_icmp .ge 33, 3) := by decide +kernel
theorem dX7_addPerson_15 : decode cX7_addPerson 15 = .ok (.aload_n 0, 1) := by decide +kernel
theorem dX7_addPerson_16 : decode cX7_addPerson 16 = .ok (.getfield 9, 3) := by decide +kernel
theorem dX7_addPerson_19 : decode cX7_addPerson 19 = .ok (.aload_n 0, 1) := by decide +kernel
theorem dX7_addPerson_20 : decode cX7_addPerson 20 = .ok (.getfield 34, 3) := by decide +kernel
theorem dX7_addPerson_23 : decode cX7_addPerson 23 = .ok (.iload_n 1, 1) := by decide +kernel
theorem dX7_addPerson_24 : decode cX7_addPerson 24 = .ok (.iastore, 1) := by decide +kernel
theorem dX7_addPerson_25 : decode cX7_addPerson 25 = .ok (.aload_n 0, 1) := by decide +kernel
theorem dX7_addPerson_26 : decode cX7_addPerson 26 = .ok (.getfield 15, 3) := by decide +kernel
theorem dX7_addPerson_29 : decode cX7_addPerson 29 = .ok (.aload_n 0, 1) := by decide +kernel
theorem dX7_addPerson_30 : decode cX7_addPerson 30 = .ok (.getfield 34, 3) := by decide +kernel
theorem dX7_addPerson_33 : decode cX7_addPerson 33 = .ok (.iload_n 2, 1) := by decide +kernel
theorem dX7_addPerson_34 : decode cX7_addPerson 34 = .ok (.iastore, 1) := by decide +kernel
theorem dX7_addPerson_35 : decode cX7_addPerson 35 = .ok (.aload_n 0, 1) := by decide +kernel
theorem dX7_addPerson_36 : decode cX7_addPerson 36 = .ok (.dup, 1) := by decide +kernel
theorem dX7_addPerson_37 : decode cX7_addPerson 37 = .ok (.getfield 34, 3) := by decide +kernel
theorem dX7_addPerson_40 : decode cX7_addPerson 40 = .ok (.iconst 1, 1) := by decide +kernel
theorem dX7_addPerson_41 : decode cX7_addPerson 41 = .ok (.iadd, 1) := by decide +kernel
theorem dX7_addPerson_42 : decode cX7_addPerson 42 = .ok (.putfield 34, 3) := by decide +kernel
theorem dX7_addPerson_45 : decode cX7_addPerson 45 = .ok (.return_, 1) := by decide +kernel
theorem dX7_addLamp_0 : decode cX7_addLamp 0 = .ok (.aload_n 0, 1) := by decide +kernel
theorem dX7_addLamp_1 : decode cX7_addLamp 1 = .ok (.getfield 40, 3) := by decide +kernel
theorem dX7_addLamp_4 : decode cX7_addLamp 4 = .ok (.ifCond .lt 41, 3) := by decide +kernel
theorem dX7_addLamp_7 : decode cX7_addLamp 7 = .ok (.aload_n 0, 1) := by decide +kernel
theorem dX7_addLamp_8 : decode cX7_addLamp 8 = .ok (.getfield 40, 3) := by decide +kernel
theorem dX7_addLamp_11 : decode cX7_addLamp 11 = .ok (.iconst 5, 1) := by decide +kernel
theorem dX7_addLamp_12 : decode cX7_addLamp 12 = .ok (.if_icmp .ge 33, 3) := by decide +kernel
theorem dX7_addLamp_15 : decode cX7_addLamp 15 = .ok (.aload_n 0, 1) := by decide +kernel
theorem dX7_addLamp_16 : decode cX7_addLamp 16 = .ok (.getfield 18, 3) := by decide +kernel
theorem dX7_addLamp_19 : decode cX7_addLamp 19 = .ok (.aload_n 0, 1) := by decide +kernel
theorem dX7_addLamp_20 : decode cX7_addLamp 20 = .ok (.getfield 40, 3) := by decide +kernel
theorem dX7_addLamp_23 : decode cX7_addLamp 23 = .ok (.iload_n 1, 1) := by decide +kernel
theorem dX7_addLamp_24 : decode cX7_addLamp 24 = .ok (.iastore, 1) := by decide +kernel
theorem dX7_addLamp_25 : decode cX7_addLamp 25 = .ok (.aload_n 0, 1) := by decide +kernel
theorem dX7_addLamp_26 : decode cX7_addLamp 26 = .ok (.getfield 21, 3) := by decide +kernel
theorem dX7_addLamp_29 : decode cX7_addLamp 29 = .ok (.aload_n 0, 1) := by decide +kernel
theorem dX7_addLamp_30 : decode cX7_addLamp 30 = .ok (.getfield 40, 3) := by decide +kernel
theorem dX7_addLamp_33 : decode cX7_addLamp 33 = .ok (.iload_n 2, 1) := by decide +kernel
theorem dX7_addLamp_34 : decode cX7_addLamp 34 = .ok (.iastore, 1) := by decide +kernel
theorem dX7_addLamp_35 : decode cX7_addLamp 35 = .ok (.aload_n 0, 1) := by decide +kernel
theorem dX7_addLamp_36 : decode cX7_addLamp 36 = .ok (.dup, 1) := by decide +kernel
theorem dX7_addLamp_37 : decode cX7_addLamp 37 = .ok (.getfield 40, 3) := by decide +kernel
theorem dX7_addLamp_40 : decode cX7_addLamp 40 = .ok (.iconst 1, 1) := by decide +kernel
theorem dX7_addLamp_41 : decode cX7_addLamp 41 = .ok (.iadd, 1) := by decide +kernel
theorem dX7_addLamp_42 : decode cX7_addLamp 42 = .ok (.putfield 40, 3) := by decide +kernel
theorem dX7_addLamp_45 : decode cX7_addLamp 45 = .ok (.return_, 1) := by decide +kernel
theorem dX7_addSpan_0 : decode cX7_addSpan 0 = .ok (.iconst 0, 1) := by decide +kernel
theorem dX7_addSpan_1 : decode cX7_addSpan 1 = .ok (.iload_n 2, 1) := by decide +kernel
theorem dX7_addSpan_2 : decode cX7_addSpan 2 = .ok (.invokestatic 60, 3) := by decide +kernel
theorem dX7_addSpan_5 : decode cX7_addSpan 5 = .ok (.istore 4, 2) := by decide +kernel
theorem dX7_addSpan_7 : decode cX7_addSpan 7 = .ok (.iload 4, 2) := by decide +kernel
theorem dX7_addSpan_9 : decode cX7_addSpan 9 = .ok (.iload_n 3, 1) := by decide +kernel
theorem dX7_addSpan_10 : decode cX7_addSpan 10 = .ok (.if_icmp .gt 26, 3) := by decide +kernel
theorem dX7_addSpan_13 : decode cX7_addSpan 13 = .ok (.iload 4, 2) := by decide +kernel
theorem dX7_addSpan_15 : decode cX7_addSpan 15 = .ok (.aload_n 0, 1) := by decide +kernel
theorem dX7_addSpan_16 : decode cX7_addSpan 16 = .ok (.arraylength, 1) := by decide +kernel
theorem dX7_addSpan_17 : decode cX7_addSpan 17 = .ok (.if_icmp .ge 19, 3) := by decide +kernel
theorem dX7_addSpan_20 : decode cX7_addSpan 20 = .ok (.aload_n 0, 1) := by decide +kernel
theorem dX7_addSpan_21 : decode cX7_addSpan 21 = .ok (.iload 4, 2) := by decide +kernel
theorem dX7_addSpan_23 : decode cX7_addSpan 23 = .ok (.dup2, 1) := by decide +kernel
theorem dX7_addSpan_24 : decode cX7_addSpan 24 = .ok (.iaload, 1) := by decide +kernel
theorem dX7_addSpan_25 : decode cX7_addSpan 25 = .ok (.iconst 1, 1) := by decide +kernel
theorem dX7_addSpan_26 : decode cX7_addSpan 26 = .ok (.iload_n 1, 1) := by decide +kernel
theorem dX7_addSpan_27 : decode cX7_addSpan 27 = .ok (.ishl, 1) := by decide +kernel
theorem dX7_addSpan_28 : decode cX7_addSpan 28 = .ok (.ior, 1) := by decide +kernel
theorem dX7_addSpan_29 : decode cX7_addSpan 29 = .ok (.iastore, 1) := by decide +kernel
theorem dX7_addSpan_30 : decode cX7_addSpan 30 = .ok (.iinc 4 1, 3) := by decide +kernel
theorem dX7_addSpan_33 : decode cX7_addSpan 33 = .ok (.goto (-26), 3) := by decide +kernel
theorem dX7_addSpan_36 : decode cX7_addSpan 36 = .ok (.return_, 1) := by decide +kernel
theorem dX7_addWork_0 : decode cX7_addWork 0 = .ok (.aload_n 0, 1) := by decide +kernel
theorem dX7_addWork_1 : decode cX7_addWork 1 = .ok (.dup, 1) := by decide +kernel
theorem dX7_addWork_2 : decode cX7_addWork 2 = .ok (.getfield 37, 3) := by decide +kernel
theorem dX7_addWork_5 : decode cX7_addWork 5 = .ok (.iconst 1, 1) := by decide +kernel
theorem dX7_addWork_6 : decode cX7_addWork 6 = .ok (.iadd, 1) := by decide +kernel
theorem dX7_addWork_7 : decode cX7_addWork 7 = .ok (.putfield 37, 3) := by decide +kernel
theorem dX7_addWork_10 : decode cX7_addWork 10 = .ok (.aload_n 0, 1) := by decide +kernel
theorem dX7_addWork_11 : decode cX7_addWork 11 = .ok (.getfield 24, 3) := by decide +kernel
theorem dX7_addWork_14 : decode cX7_addWork 14 = .ok (.iload_n 1, 1) := by decide +kernel
theorem dX7_addWork_15 : decode cX7_addWork 15 = .ok (.iload_n 2, 1) := by decide +kernel
theorem dX7_addWork_16 : decode cX7_addWork 16 = .ok (.iload_n 3, 1) := by decide +kernel
theorem dX7_addWork_17 : decode cX7_addWork 17 = .ok (.invokestatic 56, 3) := by decide +kernel
theorem dX7_addWork_20 : decode cX7_addWork 20 = .ok (.return_, 1) := by decide +kernel
theorem dX7_addLit_0 : decode cX7_addLit 0 = .ok (.aload_n 0, 1) := by decide +kernel
theorem dX7_addLit_1 : decode cX7_addLit 1 = .ok (.dup, 1) := by decide +kernel
theorem dX7_addLit_2 : decode cX7_addLit 2 = .ok (.getfield 43, 3) := by decide +kernel
theorem dX7_addLit_5 : decode cX7_addLit 5 = .ok (.iconst 1, 1) := by decide +kernel
theorem dX7_addLit_6 : decode cX7_addLit 6 = .ok (.iadd, 1) := by decide +kernel
theorem dX7_addLit_7 : decode cX7_addLit 7 = .ok (.putfield 43, 3) := by decide +kernel
theorem dX7_addLit_10 : decode cX7_addLit 10 = .ok (.aload_n 0, 1) := by decide +kernel
theorem dX7_addLit_11 : decode cX7_addLit 11 = .ok (.getfield 27, 3) := by decide +kernel
theorem dX7_addLit_14 : decode cX7_addLit 14 = .ok (.iload_n 1, 1) := by decide +kernel
theorem dX7_addLit_15 : decode cX7_addLit 15 = .ok (.iload_n 2, 1) := by decide +kernel
theorem dX7_addLit_16 : decode cX7_addLit 16 = .ok (.iload_n 3, 1) := by decide +kernel
theorem dX7_addLit_17 : decode cX7_addLit 17 = .ok (.invokestatic 56, 3) := by decide +kernel
theorem dX7_addLit_20 : decode cX7_addLit 20 = .ok (.return_, 1) := by decide +kernel
theorem dX8_init_0 : decode cX8_init 0 = .ok (.aload_n 0, 1) := by decide +kernel
theorem dX8_init_1 : decode cX8_init 1 = .ok (.invokespecial 3, 3) := by decide +kernel
theorem dX8_init_4 : decode cX8_init 4 = .ok (.aload_n 0, 1) := by decide +kernel
theorem dX8_init_5 : decode cX8_init 5 = .ok (.aload_n 1, 1) := by decide +kernel
theorem dX8_init_6 : decode cX8_init 6 = .ok (.putfield 9, 3) := by decide +kernel
theorem dX8_init_9 : decode cX8_init 9 = .ok (.return_, 1) := by decide +kernel
theorem dX8_isClause_0 : decode cX8_isClause 0 = .ok (.iload_n 0, 1) := by decide +kernel
theorem dX8_isClause_1 : decode cX8_isClause 1 = .ok (.ifCond .eq 15, 3) := by decide +kernel
theorem dX8_isClause_4 : decode cX8_isClause 4 = .ok (.iload_n 0, 1) := by decide +kernel
theorem dX8_isClause_5 : decode cX8_isClause 5 = .ok (.bipush 13, 2) := by decide +kernel
theorem dX8_isClause_7 : decode cX8_isClause 7 = .ok (.if_icmp .lt 13, 3) := by decide +kernel
theorem dX8_isClause_10 : decode cX8_isClause 10 = .ok (.iload_n 0, 1) := by decide +kernel
theorem dX8_isClause_11 : decode cX8_isClause 11 = .ok (.bipush 16, 2) := by decide +kernel
theorem dX8_isClause_13 : decode cX8_isClause 13 = .ok (.if_icmp .gt 7, 3) := by decide +kernel
theorem dX8_isClause_16 : decode cX8_isClause 16 = .ok (.iconst 1, 1) := by decide +kernel
theorem dX8_isClause_17 : decode cX8_isClause 17 = .ok (.goto 4, 3) := by decide +kernel
theorem dX8_isClause_20 : decode cX8_isClause 20 = .ok (.iconst 0, 1) := by decide +kernel
theorem dX8_isClause_21 : decode cX8_isClause 21 = .ok (.ireturn, 1) := by decide +kernel
theorem dX8_isFull_0 : decode cX8_isFull 0 = .ok (.iload_n 1, 1) := by decide +kernel
theorem dX8_isFull_1 : decode cX8_isFull 1 = .ok (.lookupswitch 101 #[(0, 43), (14, 57), (15, 72), (16, 86)], 43) := by decide +kernel
theorem dX8_isFull_44 : decode cX8_isFull 44 = .ok (.aload_n 0, 1) := by decide +kernel
theorem dX8_isFull_45 : decode cX8_isFull 45 = .ok (.getfield 68, 3) := by decide +kernel
theorem dX8_isFull_48 : decode cX8_isFull 48 = .ok (.iconst 5, 1) := by decide +kernel
theorem dX8_isFull_49 : decode cX8_isFull 49 = .ok (.if_icmp .lt 7, 3) := by decide +kernel
theorem dX8_isFull_52 : decode cX8_isFull 52 = .ok (.iconst 1, 1) := by decide +kernel
theorem dX8_isFull_53 : decode cX8_isFull 53 = .ok (.goto 4, 3) := by decide +kernel
theorem dX8_isFull_56 : decode cX8_isFull 56 = .ok (.iconst 0, 1) := by decide +kernel
theorem dX8_isFull_57 : decode cX8_isFull 57 = .ok (.ireturn, 1) := by decide +kernel
theorem dX8_isFull_58 : decode cX8_isFull 58 = .ok (.aload_n 0, 1) := by decide +kernel
theorem dX8_isFull_59 : decode cX8_isFull 59 = .ok (.getfield 71, 3) := by decide +kernel
theorem dX8_isFull_62 : decode cX8_isFull 62 = .ok (.bipush 8, 2) := by decide +kernel
theorem dX8_isFull_64 : decode cX8_isFull 64 = .ok (.if_icmp .lt 7, 3) := by decide +kernel
theorem dX8_isFull_67 : decode cX8_isFull 67 = .ok (.iconst 1, 1) := by decide +kernel
theorem dX8_isFull_68 : decode cX8_isFull 68 = .ok (.goto 4, 3) := by decide +kernel
theorem dX8_isFull_71 : decode cX8_isFull 71 = .ok (.iconst 0, 1) := by decide +kernel
theorem dX8_isFull_72 : decode cX8_isFull 72 = .ok (.ireturn, 1) := by decide +kernel
theorem dX8_isFull_73 : decode cX8_isFull 73 = .ok (.aload_n 0, 1) := by decide +kernel
theorem dX8_isFull_74 : decode cX8_isFull 74 = .ok (.getfield 74, 3) := by decide +kernel
theorem dX8_isFull_77 : decode cX8_isFull 77 = .ok (.iconst 5, 1) := by decide +kernel
theorem dX8_isFull_78 : decode cX8_isFull 78 = .ok (.if_icmp .lt 7, 3) := by decide +kernel
theorem dX8_isFull_81 : decode cX8_isFull 81 = .ok (.iconst 1, 1) := by decide +kernel
theorem dX8_isFull_82 : decode cX8_isFull 82 = .ok (.goto 4, 3) := by decide +kernel
theorem dX8_isFull_85 : decode cX8_isFull 85 = .ok (.iconst 0, 1) := by decide +kernel
theorem dX8_isFull_86 : decode cX8_isFull 86 = .ok (.ireturn, 1) := by decide +kernel
theorem dX8_isFull_87 : decode cX8_isFull 87 = .ok (.aload_n 0, 1) := by decide +kernel
theorem dX8_isFull_88 : decode cX8_isFull 88 = .ok (.getfield 77, 3) := by decide +kernel
theorem dX8_isFull_91 : decode cX8_isFull 91 = .ok (.bipush 8, 2) := by decide +kernel
theorem dX8_isFull_93 : decode cX8_isFull 93 = .ok (.if_icmp .lt 7, 3) := by decide +kernel
theorem dX8_isFull_96 : decode cX8_isFull 96 = .ok (.iconst 1, 1) := by decide +kernel
theorem dX8_isFull_97 : decode cX8_isFull 97 = .ok (.goto 4, 3) := by decide +kernel
theorem dX8_isFull_100 : decode cX8_isFull 100 = .ok (.iconst 0, 1) := by decide +kernel
theorem dX8_isFull_101 : decode cX8_isFull 101 = .ok (.ireturn, 1) := by decide +kernel
theorem dX8_isFull_102 : decode cX8_isFull 102 = .ok (.iconst 0, 1) := by decide +kernel
theorem dX8_isFull_103 : decode cX8_isFull 103 = .ok (.ireturn, 1) := by decide +kernel
theorem dX9_takeNumber_0 : decode cX9_takeNumber 0 = .ok (.aload_n 0, 1) := by decide +kernel
theorem dX9_takeNumber_1 : decode cX9_takeNumber 1 = .ok (.getfield 41, 3) := by decide +kernel
theorem dX9_takeNumber_4 : decode cX9_takeNumber 4 = .ok (.istore_n 3, 1) := by decide +kernel
theorem dX9_takeNumber_5 : decode cX9_takeNumber 5 = .ok (.aload_n 0, 1) := by decide +kernel
theorem dX9_takeNumber_6 : decode cX9_takeNumber 6 = .ok (.getfield 38, 3) := by decide +kernel
theorem dX9_takeNumber_9 : decode cX9_takeNumber 9 = .ok (.iconst 1, 1) := by decide +kernel
theorem dX9_takeNumber_10 : decode cX9_takeNumber 10 = .ok (.if_icmp .eq 11, 3) := by decide +kernel
theorem dX9_takeNumber_13 : decode cX9_takeNumber 13 = .ok (.aload_n 0, 1) := by decide +kernel
theorem dX9_takeNumber_14 : decode cX9_takeNumber 14 = .ok (.iconst 0, 1) := by decide +kernel
theorem dX9_takeNumber_15 : decode cX9_takeNumber 15 = .ok (.invokevirtual 96, 3) := by decide +kernel
theorem dX9_takeNumber_18 : decode cX9_takeNumber 18 = .ok (.pop, 1) := by decide +kernel
theorem dX9_takeNumber_19 : decode cX9_takeNumber 19 = .ok (.iconst (-1), 1) := by decide +kernel
theorem dX9_takeNumber_20 : decode cX9_takeNumber 20 = .ok (.ireturn, 1) := by decide +kernel
theorem dX9_takeNumber_21 : decode cX9_takeNumber 21 = .ok (.iload_n 3, 1) := by decide +kernel
theorem dX9_takeNumber_22 : decode cX9_takeNumber 22 = .ok (.iload_n 1, 1) := by decide +kernel
theorem dX9_takeNumber_23 : decode cX9_takeNumber 23 = .ok (.if_icmp .lt 8, 3) := by decide +kernel
theorem dX9_takeNumber_26 : decode cX9_takeNumber 26 = .ok (.iload_n 3, 1) := by decide +kernel
theorem dX9_takeNumber_27 : decode cX9_takeNumber 27 = .ok (.iload_n 2, 1) := by decide +kernel
theorem dX9_takeNumber_28 : decode cX9_takeNumber 28 = .ok (.if_icmp .le 11, 3) := by decide +kernel
theorem dX9_takeNumber_31 : decode cX9_takeNumber 31 = .ok (.aload_n 0, 1) := by decide +kernel
theorem dX9_takeNumber_32 : decode cX9_takeNumber 32 = .ok (.iconst 1, 1) := by decide +kernel
theorem dX9_takeNumber_33 : decode cX9_takeNumber 33 = .ok (.invokevirtual 96, 3) := by decide +kernel
theorem dX9_takeNumber_36 : decode cX9_takeNumber 36 = .ok (.pop, 1) := by decide +kernel
theorem dX9_takeNumber_37 : decode cX9_takeNumber 37 = .ok (.iconst (-1), 1) := by decide +kernel
theorem dX9_takeNumber_38 : decode cX9_takeNumber 38 = .ok (.ireturn, 1) := by decide +kernel
theorem dX9_takeNumber_39 : decode cX9_takeNumber 39 = .ok (.aload_n 0, 1) := by decide +kernel
theorem dX9_takeNumber_40 : decode cX9_takeNumber 40 = .ok (.invokevirtual 58, 3) := by decide +kernel
theorem dX9_takeNumber_43 : decode cX9_takeNumber 43 = .ok (.iload_n 3, 1) := by decide +kernel
theorem dX9_takeNumber_44 : decode cX9_takeNumber 44 = .ok (.ireturn, 1) := by decide +kernel
theorem dX8_readHours_0 : decode cX8_readHours 0 = .ok (.aload_n 0, 1) := by decide +kernel
theorem dX8_readHours_1 : decode cX8_readHours 1 = .ok (.getfield 9, 3) := by decide +kernel
theorem dX8_readHours_4 : decode cX8_readHours 4 = .ok (.iconst 2, 1) := by decide +kernel
theorem dX8_readHours_5 : decode cX8_readHours 5 = .ok (.bipush 10, 2) := by decide +kernel
theorem dX8_readHours_7 : decode cX8_readHours 7 = .ok (.invokevirtual 80, 3) := by decide +kernel
theorem dX8_readHours_10 : decode cX8_readHours 10 = .ok (.istore_n 2, 1) := by decide +kernel
theorem dX8_readHours_11 : decode cX8_readHours 11 = .ok (.iload_n 2, 1) := by decide +kernel
theorem dX8_readHours_12 : decode cX8_readHours 12 = .ok (.iconst (-1), 1) := by decide +kernel
theorem dX8_readHours_13 : decode cX8_readHours 13 = .ok (.if_icmp .ne 5, 3) := by decide +kernel
theorem dX8_readHours_16 : decode cX8_readHours 16 = .ok (.iconst 0, 1) := by decide +kernel
theorem dX8_readHours_17 : decode cX8_readHours 17 = .ok (.ireturn, 1) := by decide +kernel
theorem dX8_readHours_18 : decode cX8_readHours 18 = .ok (.aload_n 1, 1) := by decide +kernel
theorem dX8_readHours_19 : decode cX8_readHours 19 = .ok (.iload_n 2, 1) := by decide +kernel
theorem dX8_readHours_20 : decode cX8_readHours 20 = .ok (.putfield 84, 3) := by decide +kernel
theorem dX8_readHours_23 : decode cX8_readHours 23 = .ok (.iconst 1, 1) := by decide +kernel
theorem dX8_readHours_24 : decode cX8_readHours 24 = .ok (.ireturn, 1) := by decide +kernel
theorem dX8_readPerson_0 : decode cX8_readPerson 0 = .ok (.aload_n 0, 1) := by decide +kernel
theorem dX8_readPerson_1 : decode cX8_readPerson 1 = .ok (.getfield 9, 3) := by decide +kernel
theorem dX8_readPerson_4 : decode cX8_readPerson 4 = .ok (.iconst 0, 1) := by decide +kernel
theorem dX8_readPerson_5 : decode cX8_readPerson 5 = .ok (.aload_n 1, 1) := by decide +kernel
theorem dX8_readPerson_6 : decode cX8_readPerson 6 = .ok (.getfield 84, 3) := by decide +kernel
theorem dX8_readPerson_9 : decode cX8_readPerson 9 = .ok (.invokevirtual 80, 3) := by decide +kernel
theorem dX8_readPerson_12 : decode cX8_readPerson 12 = .ok (.istore_n 2, 1) := by decide +kernel
theorem dX8_readPerson_13 : decode cX8_readPerson 13 = .ok (.iload_n 2, 1) := by decide +kernel
theorem dX8_readPerson_14 : decode cX8_readPerson 14 = .ok (.iconst (-1), 1) := by decide +kernel
theorem dX8_readPerson_15 : decode cX8_readPerson 15 = .ok (.if_icmp .ne 5, 3) := by decide +kernel
theorem dX8_readPerson_18 : decode cX8_readPerson 18 = .ok (.iconst 0, 1) := by decide +kernel
theorem dX8_readPerson_19 : decode cX8_readPerson 19 = .ok (.ireturn, 1) := by decide +kernel
theorem dX8_readPerson_20 : decode cX8_readPerson 20 = .ok (.aload_n 0, 1) := by decide +kernel
theorem dX8_readPerson_21 : decode cX8_readPerson 21 = .ok (.getfield 9, 3) := by decide +kernel
theorem dX8_readPerson_24 : decode cX8_readPerson 24 = .ok (.iconst 0, 1) := by decide +kernel
theorem dX8_readPerson_25 : decode cX8_readPerson 25 = .ok (.bipush 60, 2) := by decide +kernel
theorem dX8_readPerson_27 : decode cX8_readPerson 27 = .ok (.invokevirtual 80, 3) := by decide +kernel
theorem dX8_readPerson_30 : decode cX8_readPerson 30 = .ok (.istore_n 3, 1) := by decide +kernel
theorem dX8_readPerson_31 : decode cX8_readPerson 31 = .ok (.iload_n 3, 1) := by decide +kernel
theorem dX8_readPerson_32 : decode cX8_readPerson 32 = .ok (.iconst (-1), 1) := by decide +kernel
theorem dX8_readPerson_33 : decode cX8_readPerson 33 = .ok (.if_icmp .ne 5, 3) := by decide +kernel
theorem dX8_readPerson_36 : decode cX8_readPerson 36 = .ok (.iconst 0, 1) := by decide +kernel
theorem dX8_readPerson_37 : decode cX8_readPerson 37 = .ok (.ireturn, 1) := by decide +kernel
theorem dX8_readPerson_38 : decode cX8_readPerson 38 = .ok (.aload_n 1, 1) := by decide +kernel
theorem dX8_readPerson_39 : decode cX8_readPerson 39 = .ok (.iload_n 2, 1) := by decide +kernel
theorem dX8_readPerson_40 : decode cX8_readPerson 40 = .ok (.iload_n 3, 1) := by decide +kernel
theorem dX8_readPerson_41 : decode cX8_readPerson 41 = .ok (.invokevirtual 87, 3) := by decide +kernel
theorem dX8_readPerson_44 : decode cX8_readPerson 44 = .ok (.iconst 1, 1) := by decide +kernel
theorem dX8_readPerson_45 : decode cX8_readPerson 45 = .ok (.ireturn, 1) := by decide +kernel
theorem dX8_readLamp_0 : decode cX8_readLamp 0 = .ok (.aload_n 0, 1) := by decide +kernel
theorem dX8_readLamp_1 : decode cX8_readLamp 1 = .ok (.getfield 9, 3) := by decide +kernel
theorem dX8_readLamp_4 : decode cX8_readLamp 4 = .ok (.getfield 91, 3) := by decide +kernel
theorem dX8_readLamp_7 : decode cX8_readLamp 7 = .ok (.bipush 9, 2) := by decide +kernel
theorem dX8_readLamp_9 : decode cX8_readLamp 9 = .ok (.if_icmp .ne 8, 3) := by decide +kernel
theorem dX8_readLamp_12 : decode cX8_readLamp 12 = .ok (.bipush 9, 2) := by decide +kernel
theorem dX8_readLamp_14 : decode cX8_readLamp 14 = .ok (.goto 9, 3) := by decide +kernel
theorem dX8_readLamp_17 : decode cX8_readLamp 17 = .ok (.aload_n 1, 1) := by decide +kernel
theorem dX8_readLamp_18 : decode cX8_readLamp 18 = .ok (.getfield 68, 3) := by decide +kernel
theorem dX8_readLamp_21 : decode cX8_readLamp 21 = .ok (.iconst 1, 1) := by decide +kernel
theorem dX8_readLamp_22 : decode cX8_readLamp 22 = .ok (.isub, 1) := by decide +kernel
theorem dX8_readLamp_23 : decode cX8_readLamp 23 = .ok (.istore_n 2, 1) := by decide +kernel
theorem dX8_readLamp_24 : decode cX8_readLamp 24 = .ok (.aload_n 0, 1) := by decide +kernel
theorem dX8_readLamp_25 : decode cX8_readLamp 25 = .ok (.getfield 9, 3) := by decide +kernel
theorem dX8_readLamp_28 : decode cX8_readLamp 28 = .ok (.iconst 0, 1) := by decide +kernel
theorem dX8_readLamp_29 : decode cX8_readLamp 29 = .ok (.iload_n 2, 1) := by decide +kernel
theorem dX8_readLamp_30 : decode cX8_readLamp 30 = .ok (.invokevirtual 80, 3) := by decide +kernel
theorem dX8_readLamp_33 : decode cX8_readLamp 33 = .ok (.istore_n 3, 1) := by decide +kernel
theorem dX8_readLamp_34 : decode cX8_readLamp 34 = .ok (.iload_n 3, 1) := by decide +kernel
theorem dX8_readLamp_35 : decode cX8_readLamp 35 = .ok (.iconst (-1), 1) := by decide +kernel
theorem dX8_readLamp_36 : decode cX8_readLamp 36 = .ok (.if_icmp .ne 5, 3) := by decide +kernel
theorem dX8_readLamp_39 : decode cX8_readLamp 39 = .ok (.iconst 0, 1) := by decide +kernel
theorem dX8_readLamp_40 : decode cX8_readLamp 40 = .ok (.ireturn, 1) := by decide +kernel
theorem dX8_readLamp_41 : decode cX8_readLamp 41 = .ok (.aload_n 0, 1) := by decide +kernel
theorem dX8_readLamp_42 : decode cX8_readLamp 42 = .ok (.getfield 9, 3) := by decide +kernel
theorem dX8_readLamp_45 : decode cX8_readLamp 45 = .ok (.iconst 1, 1) := by decide +kernel
theorem dX8_readLamp_46 : decode cX8_readLamp 46 = .ok (.bipush 60, 2) := by decide +kernel
theorem dX8_readLamp_48 : decode cX8_readLamp 48 = .ok (.invokevirtual 80, 3) := by decide +kernel
theorem dX8_readLamp_51 : decode cX8_readLamp 51 = .ok (.istore 4, 2) := by decide +kernel
theorem dX8_readLamp_53 : decode cX8_readLamp 53 = .ok (.iload 4, 2) := by decide +kernel
theorem dX8_readLamp_55 : decode cX8_readLamp 55 = .ok (.iconst (-1), 1) := by decide +kernel
theorem dX8_readLamp_56 : decode cX8_readLamp 56 = .ok (.if_icmp .ne 5, 3) := by decide +kernel
theorem dX8_readLamp_59 : decode cX8_readLamp 59 = .ok (.iconst 0, 1) := by decide +kernel
theorem dX8_readLamp_60 : decode cX8_readLamp 60 = .ok (.ireturn, 1) := by decide +kernel
theorem dX8_readLamp_61 : decode cX8_readLamp 61 = .ok (.aload_n 1, 1) := by decide +kernel
theorem dX8_readLamp_62 : decode cX8_readLamp 62 = .ok (.iload_n 3, 1) := by decide +kernel
theorem dX8_readLamp_63 : decode cX8_readLamp 63 = .ok (.iload 4, 2) := by decide +kernel
theorem dX8_readLamp_65 : decode cX8_readLamp 65 = .ok (.invokevirtual 94, 3) := by decide +kernel
theorem dX8_readLamp_68 : decode cX8_readLamp 68 = .ok (.iconst 1, 1) := by decide +kernel
theorem dX8_readLamp_69 : decode cX8_readLamp 69 = .ok (.ireturn, 1) := by decide +kernel
theorem dX8_readSpan_0 : decode cX8_readSpan 0 = .ok (.iload_n 2, 1) := by decide +kernel
theorem dX8_readSpan_1 : decode cX8_readSpan 1 = .ok (.bipush 14, 2) := by decide +kernel
theorem dX8_readSpan_3 : decode cX8_readSpan 3 = .ok (.if_icmp .ne 10, 3) := by decide +kernel
theorem dX8_readSpan_6 : decode cX8_readSpan 6 = .ok (.aload_n 1, 1) := by decide +kernel
theorem dX8_readSpan_7 : decode cX8_readSpan 7 = .ok (.getfield 68, 3) := by decide +kernel
theorem dX8_readSpan_10 : decode cX8_readSpan 10 = .ok (.goto 7, 3) := by decide +kernel
theorem dX8_readSpan_13 : decode cX8_readSpan 13 = .ok (.aload_n 1, 1) := by decide +kernel
theorem dX8_readSpan_14 : decode cX8_readSpan 14 = .ok (.getfield 74, 3) := by decide +kernel
theorem dX8_readSpan_17 : decode cX8_readSpan 17 = .ok (.istore_n 3, 1) := by decide +kernel
theorem dX8_readSpan_18 : decode cX8_readSpan 18 = .ok (.aload_n 0, 1) := by decide +kernel
theorem dX8_readSpan_19 : decode cX8_readSpan 19 = .ok (.getfield 9, 3) := by decide +kernel
theorem dX8_readSpan_22 : decode cX8_readSpan 22 = .ok (.iconst 0, 1) := by decide +kernel
theorem dX8_readSpan_23 : decode cX8_readSpan 23 = .ok (.iload_n 3, 1) := by decide +kernel
theorem dX8_readSpan_24 : decode cX8_readSpan 24 = .ok (.iconst 1, 1) := by decide +kernel
theorem dX8_readSpan_25 : decode cX8_readSpan 25 = .ok (.isub, 1) := by decide +kernel
theorem dX8_readSpan_26 : decode cX8_readSpan 26 = .ok (.invokevirtual 80, 3) := by decide +kernel
theorem dX8_readSpan_29 : decode cX8_readSpan 29 = .ok (.istore 4, 2) := by decide +kernel
theorem dX8_readSpan_31 : decode cX8_readSpan 31 = .ok (.iload 4, 2) := by decide +kernel
theorem dX8_readSpan_33 : decode cX8_readSpan 33 = .ok (.iconst (-1), 1) := by decide +kernel
theorem dX8_readSpan_34 : decode cX8_readSpan 34 = .ok (.if_icmp .ne 5, 3) := by decide +kernel
theorem dX8_readSpan_37 : decode cX8_readSpan 37 = .ok (.iconst 0, 1) := by decide +kernel
theorem dX8_readSpan_38 : decode cX8_readSpan 38 = .ok (.ireturn, 1) := by decide +kernel
theorem dX8_readSpan_39 : decode cX8_readSpan 39 = .ok (.aload_n 0, 1) := by decide +kernel
theorem dX8_readSpan_40 : decode cX8_readSpan 40 = .ok (.getfield 9, 3) := by decide +kernel
theorem dX8_readSpan_43 : decode cX8_readSpan 43 = .ok (.iconst 0, 1) := by decide +kernel
theorem dX8_readSpan_44 : decode cX8_readSpan 44 = .ok (.aload_n 1, 1) := by decide +kernel
theorem dX8_readSpan_45 : decode cX8_readSpan 45 = .ok (.getfield 84, 3) := by decide +kernel
theorem dX8_readSpan_48 : decode cX8_readSpan 48 = .ok (.iconst 1, 1) := by decide +kernel
theorem dX8_readSpan_49 : decode cX8_readSpan 49 = .ok (.isub, 1) := by decide +kernel
theorem dX8_readSpan_50 : decode cX8_readSpan 50 = .ok (.invokevirtual 80, 3) := by decide +kernel
theorem dX8_readSpan_53 : decode cX8_readSpan 53 = .ok (.istore 5, 2) := by decide +kernel
theorem dX8_readSpan_55 : decode cX8_readSpan 55 = .ok (.iload 5, 2) := by decide +kernel
theorem dX8_readSpan_57 : decode cX8_readSpan 57 = .ok (.iconst (-1), 1) := by decide +kernel
theorem dX8_readSpan_58 : decode cX8_readSpan 58 = .ok (.if_icmp .ne 5, 3) := by decide +kernel
theorem dX8_readSpan_61 : decode cX8_readSpan 61 = .ok (.iconst 0, 1) := by decide +kernel
theorem dX8_readSpan_62 : decode cX8_readSpan 62 = .ok (.ireturn, 1) := by decide +kernel
theorem dX8_readSpan_63 : decode cX8_readSpan 63 = .ok (.aload_n 0, 1) := by decide +kernel
theorem dX8_readSpan_64 : decode cX8_readSpan 64 = .ok (.getfield 9, 3) := by decide +kernel
theorem dX8_readSpan_67 : decode cX8_readSpan 67 = .ok (.iload 5, 2) := by decide +kernel
theorem dX8_readSpan_69 : decode cX8_readSpan 69 = .ok (.aload_n 1, 1) := by decide +kernel
theorem dX8_readSpan_70 : decode cX8_readSpan 70 = .ok (.getfield 84, 3) := by decide +kernel
theorem dX8_readSpan_73 : decode cX8_readSpan 73 = .ok (.iconst 1, 1) := by decide +kernel
theorem dX8_readSpan_74 : decode cX8_readSpan 74 = .ok (.isub, 1) := by decide +kernel
theorem dX8_readSpan_75 : decode cX8_readSpan 75 = .ok (.invokevirtual 80, 3) := by decide +kernel
theorem dX8_readSpan_78 : decode cX8_readSpan 78 = .ok (.istore 6, 2) := by decide +kernel
theorem dX8_readSpan_80 : decode cX8_readSpan 80 = .ok (.iload 6, 2) := by decide +kernel
theorem dX8_readSpan_82 : decode cX8_readSpan 82 = .ok (.iconst (-1), 1) := by decide +kernel
theorem dX8_readSpan_83 : decode cX8_readSpan 83 = .ok (.if_icmp .ne 5, 3) := by decide +kernel
theorem dX8_readSpan_86 : decode cX8_readSpan 86 = .ok (.iconst 0, 1) := by decide +kernel
theorem dX8_readSpan_87 : decode cX8_readSpan 87 = .ok (.ireturn, 1) := by decide +kernel
theorem dX8_readSpan_88 : decode cX8_readSpan 88 = .ok (.iload_n 2, 1) := by decide +kernel
theorem dX8_readSpan_89 : decode cX8_readSpan 89 = .ok (.bipush 14, 2) := by decide +kernel
theorem dX8_readSpan_91 : decode cX8_readSpan 91 = .ok (.if_icmp .ne 16, 3) := by decide +kernel
theorem dX8_readSpan_94 : decode cX8_readSpan 94 = .ok (.aload_n 1, 1) := by decide +kernel
theorem dX8_readSpan_95 : decode cX8_readSpan 95 = .ok (.iload 4, 2) := by decide +kernel
theorem dX8_readSpan_97 : decode cX8_readSpan 97 = .ok (.iload 5, 2) := by decide +kernel
theorem dX8_readSpan_99 : decode cX8_readSpan 99 = .ok (.iload 6, 2) := by decide +kernel
theorem dX8_readSpan_101 : decode cX8_readSpan 101 = .ok (.invokevirtual 97, 3) := by decide +kernel
theorem dX8_readSpan_104 : decode cX8_readSpan 104 = .ok (.goto 13, 3) := by decide +kernel
theorem dX8_readSpan_107 : decode cX8_readSpan 107 = .ok (.aload_n 1, 1) := by decide +kernel
theorem dX8_readSpan_108 : decode cX8_readSpan 108 = .ok (.iload 4, 2) := by decide +kernel
theorem dX8_readSpan_110 : decode cX8_readSpan 110 = .ok (.iload 5, 2) := by decide +kernel
theorem dX8_readSpan_112 : decode cX8_readSpan 112 = .ok (.iload 6, 2) := by decide +kernel
theorem dX8_readSpan_114 : decode cX8_readSpan 114 = .ok (.invokevirtual 101, 3) := by decide +kernel
theorem dX8_readSpan_117 : decode cX8_readSpan 117 = .ok (.iconst 1, 1) := by decide +kernel
theorem dX8_readSpan_118 : decode cX8_readSpan 118 = .ok (.ireturn, 1) := by decide +kernel
theorem dX8_readClause_0 : decode cX8_readClause 0 = .ok (.aload_n 0, 1) := by decide +kernel
theorem dX8_readClause_1 : decode cX8_readClause 1 = .ok (.getfield 9, 3) := by decide +kernel
theorem dX8_readClause_4 : decode cX8_readClause 4 = .ok (.getfield 40, 3) := by decide +kernel
theorem dX8_readClause_7 : decode cX8_readClause 7 = .ok (.istore_n 3, 1) := by decide +kernel
theorem dX8_readClause_8 : decode cX8_readClause 8 = .ok (.iload_n 3, 1) := by decide +kernel
theorem dX8_readClause_9 : decode cX8_readClause 9 = .ok (.invokestatic 43, 3) := by decide +kernel
theorem dX8_readClause_12 : decode cX8_readClause 12 = .ok (.ifCond .ne 12, 3) := by decide +kernel
theorem dX8_readClause_15 : decode cX8_readClause 15 = .ok (.aload_n 0, 1) := by decide +kernel
theorem dX8_readClause_16 : decode cX8_readClause 16 = .ok (.getfield 9, 3) := by decide +kernel
theorem dX8_readClause_19 : decode cX8_readClause 19 = .ok (.iconst 0, 1) := by decide +kernel
theorem dX8_readClause_20 : decode cX8_readClause 20 = .ok (.invokevirtual 46, 3) := by decide +kernel
theorem dX8_readClause_23 : decode cX8_readClause 23 = .ok (.ireturn, 1) := by decide +kernel
theorem dX8_readClause_24 : decode cX8_readClause 24 = .ok (.iload_n 3, 1) := by decide +kernel
theorem dX8_readClause_25 : decode cX8_readClause 25 = .ok (.bipush 13, 2) := by decide +kernel
theorem dX8_readClause_27 : decode cX8_readClause 27 = .ok (.if_icmp .ne 7, 3) := by decide +kernel
theorem dX8_readClause_30 : decode cX8_readClause 30 = .ok (.iconst 1, 1) := by decide +kernel
theorem dX8_readClause_31 : decode cX8_readClause 31 = .ok (.goto 4, 3) := by decide +kernel
theorem dX8_readClause_34 : decode cX8_readClause 34 = .ok (.iconst 0, 1) := by decide +kernel
theorem dX8_readClause_35 : decode cX8_readClause 35 = .ok (.iload_n 2, 1) := by decide +kernel
theorem dX8_readClause_36 : decode cX8_readClause 36 = .ok (.ifCond .ne 7, 3) := by decide +kernel
theorem dX8_readClause_39 : decode cX8_readClause 39 = .ok (.iconst 1, 1) := by decide +kernel
theorem dX8_readClause_40 : decode cX8_readClause 40 = .ok (.goto 4, 3) := by decide +kernel
theorem dX8_readClause_43 : decode cX8_readClause 43 = .ok (.iconst 0, 1) := by decide +kernel
theorem dX8_readClause_44 : decode cX8_readClause 44 = .ok (.if_icmp .eq 7, 3) := by decide +kernel
theorem dX8_readClause_47 : decode cX8_readClause 47 = .ok (.iconst 1, 1) := by decide +kernel
theorem dX8_readClause_48 : decode cX8_readClause 48 = .ok (.goto 4, 3) := by decide +kernel
theorem dX8_readClause_51 : decode cX8_readClause 51 = .ok (.iconst 0, 1) := by decide +kernel
theorem dX8_readClause_52 : decode cX8_readClause 52 = .ok (.istore 4, 2) := by decide +kernel
theorem dX8_readClause_54 : decode cX8_readClause 54 = .ok (.iload_n 2, 1) := by decide +kernel
theorem dX8_readClause_55 : decode cX8_readClause 55 = .ok (.bipush 40, 2) := by decide +kernel
theorem dX8_readClause_57 : decode cX8_readClause 57 = .ok (.if_icmp .ge 16, 3) := by decide +kernel
theorem dX8_readClause_60 : decode cX8_readClause 60 = .ok (.iload 4, 2) := by decide +kernel
theorem dX8_readClause_62 : decode cX8_readClause 62 = .ok (.ifCond .ne 11, 3) := by decide +kernel
theorem dX8_readClause_65 : decode cX8_readClause 65 = .ok (.aload_n 1, 1) := by decide +kernel
theorem dX8_readClause_66 : decode cX8_readClause 66 = .ok (.iload_n 3, 1) := by decide +kernel
theorem dX8_readClause_67 : decode cX8_readClause 67 = .ok (.invokestatic 49, 3) := by decide +kernel
theorem dX8_readClause_70 : decode cX8_readClause 70 = .ok (.ifCond .eq 12, 3) := by decide +kernel
theorem dX8_readClause_73 : decode cX8_readClause 73 = .ok (.aload_n 0, 1) := by decide +kernel
theorem dX8_readClause_74 : decode cX8_readClause 74 = .ok (.getfield 9, 3) := by decide +kernel
theorem dX8_readClause_77 : decode cX8_readClause 77 = .ok (.iconst 4, 1) := by decide +kernel
theorem dX8_readClause_78 : decode cX8_readClause 78 = .ok (.invokevirtual 46, 3) := by decide +kernel
theorem dX8_readClause_81 : decode cX8_readClause 81 = .ok (.ireturn, 1) := by decide +kernel
theorem dX8_readClause_82 : decode cX8_readClause 82 = .ok (.aload_n 0, 1) := by decide +kernel
theorem dX8_readClause_83 : decode cX8_readClause 83 = .ok (.getfield 9, 3) := by decide +kernel
theorem dX8_readClause_86 : decode cX8_readClause 86 = .ok (.invokevirtual 52, 3) := by decide +kernel
theorem dX8_readClause_89 : decode cX8_readClause 89 = .ok (.iload_n 3, 1) := by decide +kernel
theorem dX8_readClause_90 : decode cX8_readClause 90 = .ok (.lookupswitch 52 #[(0, 40), (13, 34), (15, 46)], 34) := by decide +kernel
theorem dX8_readClause_124 : decode cX8_readClause 124 = .ok (.aload_n 0, 1) := by decide +kernel
theorem dX8_readClause_125 : decode cX8_readClause 125 = .ok (.aload_n 1, 1) := by decide +kernel
theorem dX8_readClause_126 : decode cX8_readClause 126 = .ok (.invokevirtual 55, 3) := by decide +kernel
theorem dX8_readClause_129 : decode cX8_readClause 129 = .ok (.ireturn, 1) := by decide +kernel
theorem dX8_readClause_130 : decode cX8_readClause 130 = .ok (.aload_n 0, 1) := by decide +kernel
theorem dX8_readClause_131 : decode cX8_readClause 131 = .ok (.aload_n 1, 1) := by decide +kernel
theorem dX8_readClause_132 : decode cX8_readClause 132 = .ok (.invokevirtual 59, 3) := by decide +kernel
theorem dX8_readClause_135 : decode cX8_readClause 135 = .ok (.ireturn, 1) := by decide +kernel
theorem dX8_readClause_136 : decode cX8_readClause 136 = .ok (.aload_n 0, 1) := by decide +kernel
theorem dX8_readClause_137 : decode cX8_readClause 137 = .ok (.aload_n 1, 1) := by decide +kernel
theorem dX8_readClause_138 : decode cX8_readClause 138 = .ok (.invokevirtual 62, 3) := by decide +kernel
theorem dX8_readClause_141 : decode cX8_readClause 141 = .ok (.ireturn, 1) := by decide +kernel
theorem dX8_readClause_142 : decode cX8_readClause 142 = .ok (.aload_n 0, 1) := by decide +kernel
theorem dX8_readClause_143 : decode cX8_readClause 143 = .ok (.aload_n 1, 1) := by decide +kernel
theorem dX8_readClause_144 : decode cX8_readClause 144 = .ok (.iload_n 3, 1) := by decide +kernel
theorem dX8_readClause_145 : decode cX8_readClause 145 = .ok (.invokevirtual 65, 3) := by decide +kernel
theorem dX8_readClause_148 : decode cX8_readClause 148 = .ok (.ireturn, 1) := by decide +kernel
theorem dX8_readInto_0 : decode cX8_readInto 0 = .ok (.aload_n 1, 1) := by decide +kernel
theorem dX8_readInto_1 : decode cX8_readInto 1 = .ok (.invokevirtual 15, 3) := by decide +kernel
theorem dX8_readInto_4 : decode cX8_readInto 4 = .ok (.aload_n 0, 1) := by decide +kernel
theorem dX8_readInto_5 : decode cX8_readInto 5 = .ok (.getfield 9, 3) := by decide +kernel
theorem dX8_readInto_8 : decode cX8_readInto 8 = .ok (.invokevirtual 20, 3) := by decide +kernel
theorem dX8_readInto_11 : decode cX8_readInto 11 = .ok (.iconst 0, 1) := by decide +kernel
theorem dX8_readInto_12 : decode cX8_readInto 12 = .ok (.istore_n 2, 1) := by decide +kernel
theorem dX8_readInto_13 : decode cX8_readInto 13 = .ok (.iload_n 2, 1) := by decide +kernel
theorem dX8_readInto_14 : decode cX8_readInto 14 = .ok (.bipush 40, 2) := by decide +kernel
theorem dX8_readInto_16 : decode cX8_readInto 16 = .ok (.if_icmp .gt 58, 3) := by decide +kernel
theorem dX8_readInto_19 : decode cX8_readInto 19 = .ok (.aload_n 0, 1) := by decide +kernel
theorem dX8_readInto_20 : decode cX8_readInto 20 = .ok (.aload_n 1, 1) := by decide +kernel
theorem dX8_readInto_21 : decode cX8_readInto 21 = .ok (.iload_n 2, 1) := by decide +kernel
theorem dX8_readInto_22 : decode cX8_readInto 22 = .ok (.invokevirtual 25, 3) := by decide +kernel
theorem dX8_readInto_25 : decode cX8_readInto 25 = .ok (.ifCond .ne 11, 3) := by decide +kernel
theorem dX8_readInto_28 : decode cX8_readInto 28 = .ok (.aload_n 0, 1) := by decide +kernel
theorem dX8_readInto_29 : decode cX8_readInto 29 = .ok (.getfield 9, 3) := by decide +kernel
theorem dX8_readInto_32 : decode cX8_readInto 32 = .ok (.getfield 29, 3) := by decide +kernel
theorem dX8_readInto_35 : decode cX8_readInto 35 = .ok (.ireturn, 1) := by decide +kernel
theorem dX8_readInto_36 : decode cX8_readInto 36 = .ok (.aload_n 0, 1) := by decide +kernel
theorem dX8_readInto_37 : decode cX8_readInto 37 = .ok (.getfield 9, 3) := by decide +kernel
theorem dX8_readInto_40 : decode cX8_readInto 40 = .ok (.getfield 33, 3) := by decide +kernel
theorem dX8_readInto_43 : decode cX8_readInto 43 = .ok (.ifCond .ne 5, 3) := by decide +kernel
theorem dX8_readInto_46 : decode cX8_readInto 46 = .ok (.iconst 0, 1) := by decide +kernel
theorem dX8_readInto_47 : decode cX8_readInto 47 = .ok (.ireturn, 1) := by decide +kernel
theorem dX8_readInto_48 : decode cX8_readInto 48 = .ok (.aload_n 0, 1) := by decide +kernel
theorem dX8_readInto_49 : decode cX8_readInto 49 = .ok (.getfield 9, 3) := by decide +kernel
theorem dX8_readInto_52 : decode cX8_readInto 52 = .ok (.bipush 59, 2) := by decide +kernel
theorem dX8_readInto_54 : decode cX8_readInto 54 = .ok (.invokevirtual 36, 3) := by decide +kernel
theorem dX8_readInto_57 : decode cX8_readInto 57 = .ok (.ifCond .ne 11, 3) := by decide +kernel
theorem dX8_readInto_60 : decode cX8_readInto 60 = .ok (.aload_n 0, 1) := by decide +kernel
theorem dX8_readInto_61 : decode cX8_readInto 61 = .ok (.getfield 9, 3) := by decide +kernel
theorem dX8_readInto_64 : decode cX8_readInto 64 = .ok (.getfield 29, 3) := by decide +kernel
theorem dX8_readInto_67 : decode cX8_readInto 67 = .ok (.ireturn, 1) := by decide +kernel
theorem dX8_readInto_68 : decode cX8_readInto 68 = .ok (.iinc 2 1, 3) := by decide +kernel
theorem dX8_readInto_71 : decode cX8_readInto 71 = .ok (.goto (-58), 3) := by decide +kernel
theorem dX8_readInto_74 : decode cX8_readInto 74 = .ok (.aload_n 0, 1) := by decide +kernel
theorem dX8_readInto_75 : decode cX8_readInto 75 = .ok (.getfield 9, 3) := by decide +kernel
theorem dX8_readInto_78 : decode cX8_readInto 78 = .ok (.getfield 29, 3) := by decide +kernel
theorem dX8_readInto_81 : decode cX8_readInto 81 = .ok (.ireturn, 1) := by decide +kernel
theorem dX9_init_0 : decode cX9_init 0 = .ok (.aload_n 0, 1) := by decide +kernel
theorem dX9_init_1 : decode cX9_init 1 = .ok (.invokespecial 3, 3) := by decide +kernel
theorem dX9_init_4 : decode cX9_init 4 = .ok (.aload_n 0, 1) := by decide +kernel
theorem dX9_init_5 : decode cX9_init 5 = .ok (.sipush 400, 3) := by decide +kernel
theorem dX9_init_8 : decode cX9_init 8 = .ok (.newarray .byte, 2) := by decide +kernel
theorem dX9_init_10 : decode cX9_init 10 = .ok (.putfield 11, 3) := by decide +kernel
theorem dX9_init_13 : decode cX9_init 13 = .ok (.aload_n 0, 1) := by decide +kernel
theorem dX9_init_14 : decode cX9_init 14 = .ok (.iconst 0, 1) := by decide +kernel
theorem dX9_init_15 : decode cX9_init 15 = .ok (.putfield 15, 3) := by decide +kernel
theorem dX9_init_18 : decode cX9_init 18 = .ok (.aload_n 0, 1) := by decide +kernel
theorem dX9_init_19 : decode cX9_init 19 = .ok (.iconst 0, 1) := by decide +kernel
theorem dX9_init_20 : decode cX9_init 20 = .ok (.putfield 19, 3) := by decide +kernel
theorem dX9_init_23 : decode cX9_init 23 = .ok (.aload_n 0, 1) := by decide +kernel
theorem dX9_init_24 : decode cX9_init 24 = .ok (.sipush 401, 3) := by decide +kernel
theorem dX9_init_27 : decode cX9_init 27 = .ok (.newarray .int, 2) := by decide +kernel
theorem dX9_init_29 : decode cX9_init 29 = .ok (.putfield 22, 3) := by decide +kernel
theorem dX9_init_32 : decode cX9_init 32 = .ok (.aload_n 0, 1) := by decide +kernel
theorem dX9_init_33 : decode cX9_init 33 = .ok (.sipush 401, 3) := by decide +kernel
theorem dX9_init_36 : decode cX9_init 36 = .ok (.newarray .int, 2) := by decide +kernel
theorem dX9_init_38 : decode cX9_init 38 = .ok (.putfield 26, 3) := by decide +kernel
theorem dX9_init_41 : decode cX9_init 41 = .ok (.aload_n 0, 1) := by decide +kernel
theorem dX9_init_42 : decode cX9_init 42 = .ok (.sipush 401, 3) := by decide +kernel
theorem dX9_init_45 : decode cX9_init 45 = .ok (.newarray .int, 2) := by decide +kernel
theorem dX9_init_47 : decode cX9_init 47 = .ok (.putfield 29, 3) := by decide +kernel
theorem dX9_init_50 : decode cX9_init 50 = .ok (.aload_n 0, 1) := by decide +kernel
theorem dX9_init_51 : decode cX9_init 51 = .ok (.iconst 0, 1) := by decide +kernel
theorem dX9_init_52 : decode cX9_init 52 = .ok (.putfield 32, 3) := by decide +kernel
theorem dX9_init_55 : decode cX9_init 55 = .ok (.aload_n 0, 1) := by decide +kernel
theorem dX9_init_56 : decode cX9_init 56 = .ok (.iconst (-1), 1) := by decide +kernel
theorem dX9_init_57 : decode cX9_init 57 = .ok (.putfield 35, 3) := by decide +kernel
theorem dX9_init_60 : decode cX9_init 60 = .ok (.aload_n 0, 1) := by decide +kernel
theorem dX9_init_61 : decode cX9_init 61 = .ok (.iconst 0, 1) := by decide +kernel
theorem dX9_init_62 : decode cX9_init 62 = .ok (.putfield 38, 3) := by decide +kernel
theorem dX9_init_65 : decode cX9_init 65 = .ok (.aload_n 0, 1) := by decide +kernel
theorem dX9_init_66 : decode cX9_init 66 = .ok (.iconst (-1), 1) := by decide +kernel
theorem dX9_init_67 : decode cX9_init 67 = .ok (.putfield 41, 3) := by decide +kernel
theorem dX9_init_70 : decode cX9_init 70 = .ok (.aload_n 0, 1) := by decide +kernel
theorem dX9_init_71 : decode cX9_init 71 = .ok (.iconst (-1), 1) := by decide +kernel
theorem dX9_init_72 : decode cX9_init 72 = .ok (.putfield 44, 3) := by decide +kernel
theorem dX9_init_75 : decode cX9_init 75 = .ok (.aload_n 0, 1) := by decide +kernel
theorem dX9_init_76 : decode cX9_init 76 = .ok (.iconst (-1), 1) := by decide +kernel
theorem dX9_init_77 : decode cX9_init 77 = .ok (.putfield 47, 3) := by decide +kernel
theorem dX9_init_80 : decode cX9_init 80 = .ok (.return_, 1) := by decide +kernel
theorem dX9_hasRoom_0 : decode cX9_hasRoom 0 = .ok (.aload_n 0, 1) := by decide +kernel
theorem dX9_hasRoom_1 : decode cX9_hasRoom 1 = .ok (.getfield 15, 3) := by decide +kernel
theorem dX9_hasRoom_4 : decode cX9_hasRoom 4 = .ok (.iload_n 1, 1) := by decide +kernel
theorem dX9_hasRoom_5 : decode cX9_hasRoom 5 = .ok (.iadd, 1) := by decide +kernel
theorem dX9_hasRoom_6 : decode cX9_hasRoom 6 = .ok (.sipush 400, 3) := by decide +kernel
theorem dX9_hasRoom_9 : decode cX9_hasRoom 9 = .ok (.if_icmp .gt 7, 3) := by decide +kernel
theorem dX9_hasRoom_12 : decode cX9_hasRoom 12 = .ok (.iconst 1, 1) := by decide +kernel
theorem dX9_hasRoom_13 : decode cX9_hasRoom 13 = .ok (.goto 4, 3) := by decide +kernel
theorem dX9_hasRoom_16 : decode cX9_hasRoom 16 = .ok (.iconst 0, 1) := by decide +kernel
theorem dX9_hasRoom_17 : decode cX9_hasRoom 17 = .ok (.ireturn, 1) := by decide +kernel
theorem dX9_append_0 : decode cX9_append 0 = .ok (.bipush 24, 2) := by decide +kernel
theorem dX9_append_2 : decode cX9_append 2 = .ok (.istore_n 2, 1) := by decide +kernel
theorem dX9_append_3 : decode cX9_append 3 = .ok (.iload_n 2, 1) := by decide +kernel
theorem dX9_append_4 : decode cX9_append 4 = .ok (.ifCond .lt 49, 3) := by decide +kernel
theorem dX9_append_7 : decode cX9_append 7 = .ok (.aload_n 0, 1) := by decide +kernel
theorem dX9_append_8 : decode cX9_append 8 = .ok (.getfield 15, 3) := by decide +kernel
theorem dX9_append_11 : decode cX9_append 11 = .ok (.ifCond .lt 36, 3) := by decide +kernel
theorem dX9_append_14 : decode cX9_append 14 = .ok (.aload_n 0, 1) := by decide +kernel
theorem dX9_append_15 : decode cX9_append 15 = .ok (.getfield 15, 3) := by decide +kernel
theorem dX9_append_18 : decode cX9_append 18 = .ok (.sipush 400, 3) := by decide +kernel
theorem dX9_append_21 : decode cX9_append 21 = .ok (.if_icmp .ge 26, 3) := by decide +kernel
theorem dX9_append_24 : decode cX9_append 24 = .ok (.aload_n 0, 1) := by decide +kernel
theorem dX9_append_25 : decode cX9_append 25 = .ok (.getfield 11, 3) := by decide +kernel
theorem dX9_append_28 : decode cX9_append 28 = .ok (.aload_n 0, 1) := by decide +kernel
theorem dX9_append_29 : decode cX9_append 29 = .ok (.getfield 15, 3) := by decide +kernel
theorem dX9_append_32 : decode cX9_append 32 = .ok (.iload_n 1, 1) := by decide +kernel
theorem dX9_append_33 : decode cX9_append 33 = .ok (.iload_n 2, 1) := by decide +kernel
theorem dX9_append_34 : decode cX9_append 34 = .ok (.ishr, 1) := by decide +kernel
theorem dX9_append_35 : decode cX9_append 35 = .ok (.i2b, 1) := by decide +kernel
theorem dX9_append_36 : decode cX9_append 36 = .ok (.bastore, 1) := by decide +kernel
theorem dX9_append_37 : decode cX9_append 37 = .ok (.aload_n 0, 1) := by decide +kernel
theorem dX9_append_38 : decode cX9_append 38 = .ok (.dup, 1) := by decide +kernel
theorem dX9_append_39 : decode cX9_append 39 = .ok (.getfield 15, 3) := by decide +kernel
theorem dX9_append_42 : decode cX9_append 42 = .ok (.iconst 1, 1) := by decide +kernel
theorem dX9_append_43 : decode cX9_append 43 = .ok (.iadd, 1) := by decide +kernel
theorem dX9_append_44 : decode cX9_append 44 = .ok (.putfield 15, 3) := by decide +kernel
theorem dX9_append_47 : decode cX9_append 47 = .ok (.iinc 2 (-8), 3) := by decide +kernel
theorem dX9_append_50 : decode cX9_append 50 = .ok (.goto (-47), 3) := by decide +kernel
theorem dX9_append_53 : decode cX9_append 53 = .ok (.return_, 1) := by decide +kernel
theorem dX10_init_0 : decode cX10_init 0 = .ok (.aload_n 0, 1) := by decide +kernel
theorem dX10_init_1 : decode cX10_init 1 = .ok (.invokespecial 3, 3) := by decide +kernel
theorem dX10_init_4 : decode cX10_init 4 = .ok (.aload_n 0, 1) := by decide +kernel
theorem dX10_init_5 : decode cX10_init 5 = .ok (.new 9, 3) := by decide +kernel
theorem dX10_init_8 : decode cX10_init 8 = .ok (.dup, 1) := by decide +kernel
theorem dX10_init_9 : decode cX10_init 9 = .ok (.invokespecial 11, 3) := by decide +kernel
theorem dX10_init_12 : decode cX10_init 12 = .ok (.putfield 12, 3) := by decide +kernel
theorem dX10_init_15 : decode cX10_init 15 = .ok (.aload_n 0, 1) := by decide +kernel
theorem dX10_init_16 : decode cX10_init 16 = .ok (.new 16, 3) := by decide +kernel
theorem dX10_init_19 : decode cX10_init 19 = .ok (.dup, 1) := by decide +kernel
theorem dX10_init_20 : decode cX10_init 20 = .ok (.aload_n 0, 1) := by decide +kernel
theorem dX10_init_21 : decode cX10_init 21 = .ok (.getfield 12, 3) := by decide +kernel
theorem dX10_init_24 : decode cX10_init 24 = .ok (.invokespecial 18, 3) := by decide +kernel
theorem dX10_init_27 : decode cX10_init 27 = .ok (.putfield 21, 3) := by decide +kernel
theorem dX10_init_30 : decode cX10_init 30 = .ok (.aload_n 0, 1) := by decide +kernel
theorem dX10_init_31 : decode cX10_init 31 = .ok (.new 25, 3) := by decide +kernel
theorem dX10_init_34 : decode cX10_init 34 = .ok (.dup, 1) := by decide +kernel
theorem dX10_init_35 : decode cX10_init 35 = .ok (.aload_n 0, 1) := by decide +kernel
theorem dX10_init_36 : decode cX10_init 36 = .ok (.getfield 12, 3) := by decide +kernel
theorem dX10_init_39 : decode cX10_init 39 = .ok (.invokespecial 27, 3) := by decide +kernel
theorem dX10_init_42 : decode cX10_init 42 = .ok (.putfield 28, 3) := by decide +kernel
theorem dX10_init_45 : decode cX10_init 45 = .ok (.aload_n 0, 1) := by decide +kernel
theorem dX10_init_46 : decode cX10_init 46 = .ok (.new 32, 3) := by decide +kernel
theorem dX10_init_49 : decode cX10_init 49 = .ok (.dup, 1) := by decide +kernel
theorem dX10_init_50 : decode cX10_init 50 = .ok (.invokespecial 34, 3) := by decide +kernel
theorem dX10_init_53 : decode cX10_init 53 = .ok (.putfield 35, 3) := by decide +kernel
theorem dX10_init_56 : decode cX10_init 56 = .ok (.aload_n 0, 1) := by decide +kernel
theorem dX10_init_57 : decode cX10_init 57 = .ok (.bipush 6, 2) := by decide +kernel
theorem dX10_init_59 : decode cX10_init 59 = .ok (.anewarray 39, 3) := by decide +kernel
theorem dX10_init_62 : decode cX10_init 62 = .ok (.putfield 41, 3) := by decide +kernel
theorem dX10_init_65 : decode cX10_init 65 = .ok (.aload_n 0, 1) := by decide +kernel
theorem dX10_init_66 : decode cX10_init 66 = .ok (.iconst 0, 1) := by decide +kernel
theorem dX10_init_67 : decode cX10_init 67 = .ok (.putfield 45, 3) := by decide +kernel
theorem dX10_init_70 : decode cX10_init 70 = .ok (.aload_n 0, 1) := by decide +kernel
theorem dX10_init_71 : decode cX10_init 71 = .ok (.new 49, 3) := by decide +kernel
theorem dX10_init_74 : decode cX10_init 74 = .ok (.dup, 1) := by decide +kernel
theorem dX10_init_75 : decode cX10_init 75 = .ok (.invokespecial 51, 3) := by decide +kernel
theorem dX10_init_78 : decode cX10_init 78 = .ok (.putfield 52, 3) := by decide +kernel
theorem dX10_init_81 : decode cX10_init 81 = .ok (.aload_n 0, 1) := by decide +kernel
theorem dX10_init_82 : decode cX10_init 82 = .ok (.iconst 4, 1) := by decide +kernel
theorem dX10_init_83 : decode cX10_init 83 = .ok (.anewarray 49, 3) := by decide +kernel
theorem dX10_init_86 : decode cX10_init 86 = .ok (.putfield 56, 3) := by decide +kernel
theorem dX10_init_89 : decode cX10_init 89 = .ok (.aload_n 0, 1) := by decide +kernel
theorem dX10_init_90 : decode cX10_init 90 = .ok (.new 60, 3) := by decide +kernel
theorem dX10_init_93 : decode cX10_init 93 = .ok (.dup, 1) := by decide +kernel
theorem dX10_init_94 : decode cX10_init 94 = .ok (.invokespecial 62, 3) := by decide +kernel
theorem dX10_init_97 : decode cX10_init 97 = .ok (.putfield 63, 3) := by decide +kernel
theorem dX10_init_100 : decode cX10_init 100 = .ok (.aload_n 0, 1) := by decide +kernel
theorem dX10_init_101 : decode cX10_init 101 = .ok (.new 67, 3) := by decide +kernel
theorem dX10_init_104 : decode cX10_init 104 = .ok (.dup, 1) := by decide +kernel
theorem dX10_init_105 : decode cX10_init 105 = .ok (.invokespecial 69, 3) := by decide +kernel
theorem dX10_init_108 : decode cX10_init 108 = .ok (.putfield 70, 3) := by decide +kernel
theorem dX10_init_111 : decode cX10_init 111 = .ok (.aload_n 0, 1) := by decide +kernel
theorem dX10_init_112 : decode cX10_init 112 = .ok (.new 74, 3) := by decide +kernel
theorem dX10_init_115 : decode cX10_init 115 = .ok (.dup, 1) := by decide +kernel
theorem dX10_init_116 : decode cX10_init 116 = .ok (.invokespecial 76, 3) := by decide +kernel
theorem dX10_init_119 : decode cX10_init 119 = .ok (.putfield 77, 3) := by decide +kernel
theorem dX10_init_122 : decode cX10_init 122 = .ok (.aload_n 0, 1) := by decide +kernel
theorem dX10_init_123 : decode cX10_init 123 = .ok (.bipush 10, 2) := by decide +kernel
theorem dX10_init_125 : decode cX10_init 125 = .ok (.newarray .int, 2) := by decide +kernel
theorem dX10_init_127 : decode cX10_init 127 = .ok (.putfield 81, 3) := by decide +kernel
theorem dX10_init_130 : decode cX10_init 130 = .ok (.aload_n 0, 1) := by decide +kernel
theorem dX10_init_131 : decode cX10_init 131 = .ok (.bipush 11, 2) := by decide +kernel
theorem dX10_init_133 : decode cX10_init 133 = .ok (.newarray .int, 2) := by decide +kernel
theorem dX10_init_135 : decode cX10_init 135 = .ok (.putfield 85, 3) := by decide +kernel
theorem dX10_init_138 : decode cX10_init 138 = .ok (.iconst 0, 1) := by decide +kernel
theorem dX10_init_139 : decode cX10_init 139 = .ok (.istore_n 1, 1) := by decide +kernel
theorem dX10_init_140 : decode cX10_init 140 = .ok (.iload_n 1, 1) := by decide +kernel
theorem dX10_init_141 : decode cX10_init 141 = .ok (.iconst 4, 1) := by decide +kernel
theorem dX10_init_142 : decode cX10_init 142 = .ok (.if_icmp .ge 22, 3) := by decide +kernel
theorem dX10_init_145 : decode cX10_init 145 = .ok (.aload_n 0, 1) := by decide +kernel
theorem dX10_init_146 : decode cX10_init 146 = .ok (.getfield 56, 3) := by decide +kernel
theorem dX10_init_149 : decode cX10_init 149 = .ok (.iload_n 1, 1) := by decide +kernel
theorem dX10_init_150 : decode cX10_init 150 = .ok (.new 49, 3) := by decide +kernel
theorem dX10_init_153 : decode cX10_init 153 = .ok (.dup, 1) := by decide +kernel
theorem dX10_init_154 : decode cX10_init 154 = .ok (.invokespecial 51, 3) := by decide +kernel
theorem dX10_init_157 : decode cX10_init 157 = .ok (.aastore, 1) := by decide +kernel
theorem dX10_init_158 : decode cX10_init 158 = .ok (.iinc 1 1, 3) := by decide +kernel
theorem dX10_init_161 : decode cX10_init 161 = .ok (.goto (-21), 3) := by decide +kernel
theorem dX10_init_164 : decode cX10_init 164 = .ok (.return_, 1) := by decide +kernel
theorem dX10_feed_0 : decode cX10_feed 0 = .ok (.aload_n 0, 1) := by decide +kernel
theorem dX10_feed_1 : decode cX10_feed 1 = .ok (.getfield 12, 3) := by decide +kernel
theorem dX10_feed_4 : decode cX10_feed 4 = .ok (.bipush 20, 2) := by decide +kernel
theorem dX10_feed_6 : decode cX10_feed 6 = .ok (.invokevirtual 88, 3) := by decide +kernel
theorem dX10_feed_9 : decode cX10_feed 9 = .ok (.ifCond .ne 5, 3) := by decide +kernel
theorem dX10_feed_12 : decode cX10_feed 12 = .ok (.iconst (-1), 1) := by decide +kernel
theorem dX10_feed_13 : decode cX10_feed 13 = .ok (.ireturn, 1) := by decide +kernel
theorem dX10_feed_14 : decode cX10_feed 14 = .ok (.aload_n 0, 1) := by decide +kernel
theorem dX10_feed_15 : decode cX10_feed 15 = .ok (.getfield 12, 3) := by decide +kernel
theorem dX10_feed_18 : decode cX10_feed 18 = .ok (.iload_n 1, 1) := by decide +kernel
theorem dX10_feed_19 : decode cX10_feed 19 = .ok (.invokevirtual 92, 3) := by decide +kernel
theorem dX10_feed_22 : decode cX10_feed 22 = .ok (.aload_n 0, 1) := by decide +kernel
theorem dX10_feed_23 : decode cX10_feed 23 = .ok (.getfield 12, 3) := by decide +kernel
theorem dX10_feed_26 : decode cX10_feed 26 = .ok (.iload_n 2, 1) := by decide +kernel
theorem dX10_feed_27 : decode cX10_feed 27 = .ok (.invokevirtual 92, 3) := by decide +kernel
theorem dX10_feed_30 : decode cX10_feed 30 = .ok (.aload_n 0, 1) := by decide +kernel
theorem dX10_feed_31 : decode cX10_feed 31 = .ok (.getfield 12, 3) := by decide +kernel
theorem dX10_feed_34 : decode cX10_feed 34 = .ok (.iload_n 3, 1) := by decide +kernel
theorem dX10_feed_35 : decode cX10_feed 35 = .ok (.invokevirtual 92, 3) := by decide +kernel
theorem dX10_feed_38 : decode cX10_feed 38 = .ok (.aload_n 0, 1) := by decide +kernel
theorem dX10_feed_39 : decode cX10_feed 39 = .ok (.getfield 12, 3) := by decide +kernel
theorem dX10_feed_42 : decode cX10_feed 42 = .ok (.iload 4, 2) := by decide +kernel
theorem dX10_feed_44 : decode cX10_feed 44 = .ok (.invokevirtual 92, 3) := by decide +kernel
theorem dX10_feed_47 : decode cX10_feed 47 = .ok (.aload_n 0, 1) := by decide +kernel
theorem dX10_feed_48 : decode cX10_feed 48 = .ok (.getfield 12, 3) := by decide +kernel
theorem dX10_feed_51 : decode cX10_feed 51 = .ok (.iload 5, 2) := by decide +kernel
theorem dX10_feed_53 : decode cX10_feed 53 = .ok (.invokevirtual 92, 3) := by decide +kernel
theorem dX10_feed_56 : decode cX10_feed 56 = .ok (.aload_n 0, 1) := by decide +kernel
theorem dX10_feed_57 : decode cX10_feed 57 = .ok (.getfield 12, 3) := by decide +kernel
theorem dX10_feed_60 : decode cX10_feed 60 = .ok (.getfield 96, 3) := by decide +kernel
theorem dX10_feed_63 : decode cX10_feed 63 = .ok (.ireturn, 1) := by decide +kernel
theorem dX10_end_0 : decode cX10_end 0 = .ok (.iload_n 1, 1) := by decide +kernel
theorem dX10_end_1 : decode cX10_end 1 = .ok (.ifCond .lt 14, 3) := by decide +kernel
theorem dX10_end_4 : decode cX10_end 4 = .ok (.iload_n 1, 1) := by decide +kernel
theorem dX10_end_5 : decode cX10_end 5 = .ok (.aload_n 0, 1) := by decide +kernel
theorem dX10_end_6 : decode cX10_end 6 = .ok (.getfield 12, 3) := by decide +kernel
theorem dX10_end_9 : decode cX10_end 9 = .ok (.getfield 96, 3) := by decide +kernel
theorem dX10_end_12 : decode cX10_end 12 = .ok (.if_icmp .le 5, 3) := by decide +kernel
theorem dX10_end_15 : decode cX10_end 15 = .ok (.iconst (-1), 1) := by decide +kernel
theorem dX10_end_16 : decode cX10_end 16 = .ok (.ireturn, 1) := by decide +kernel
theorem dX10_end_17 : decode cX10_end 17 = .ok (.aload_n 0, 1) := by decide +kernel
theorem dX10_end_18 : decode cX10_end 18 = .ok (.getfield 12, 3) := by decide +kernel
theorem dX10_end_21 : decode cX10_end 21 = .ok (.iload_n 1, 1) := by decide +kernel
theorem dX10_end_22 : decode cX10_end 22 = .ok (.putfield 96, 3) := by decide +kernel
theorem dX10_end_25 : decode cX10_end 25 = .ok (.iload_n 1, 1) := by decide +kernel
theorem dX10_end_26 : decode cX10_end 26 = .ok (.ireturn, 1) := by decide +kernel
theorem dX10_street_0 : decode cX10_street 0 = .ok (.aload_n 0, 1) := by decide +kernel
theorem dX10_street_1 : decode cX10_street 1 = .ok (.getfield 21, 3) := by decide +kernel
theorem dX10_street_4 : decode cX10_street 4 = .ok (.aload_n 0, 1) := by decide +kernel
theorem dX10_street_5 : decode cX10_street 5 = .ok (.getfield 35, 3) := by decide +kernel
theorem dX10_street_8 : decode cX10_street 8 = .ok (.invokevirtual 99, 3) := by decide +kernel
theorem dX10_street_11 : decode cX10_street 11 = .ok (.istore_n 1, 1) := by decide +kernel
theorem dX10_street_12 : decode cX10_street 12 = .ok (.aload_n 0, 1) := by decide +kernel
theorem dX10_street_13 : decode cX10_street 13 = .ok (.getfield 12, 3) := by decide +kernel
theorem dX10_street_16 : decode cX10_street 16 = .ok (.iconst 0, 1) := by decide +kernel
theorem dX10_street_17 : decode cX10_street 17 = .ok (.putfield 96, 3) := by decide +kernel
theorem dX10_street_20 : decode cX10_street 20 = .ok (.iload_n 1, 1) := by decide +kernel
theorem dX10_street_21 : decode cX10_street 21 = .ok (.ifCond .eq 8, 3) := by decide +kernel
theorem dX10_street_24 : decode cX10_street 24 = .ok (.bipush (-2), 2) := by decide +kernel
theorem dX10_street_26 : decode cX10_street 26 = .ok (.iload_n 1, 1) := by decide +kernel
theorem dX10_street_27 : decode cX10_street 27 = .ok (.isub, 1) := by decide +kernel
theorem dX10_street_28 : decode cX10_street 28 = .ok (.ireturn, 1) := by decide +kernel
theorem dX10_street_29 : decode cX10_street 29 = .ok (.aload_n 0, 1) := by decide +kernel
theorem dX10_street_30 : decode cX10_street 30 = .ok (.getfield 52, 3) := by decide +kernel
theorem dX10_street_33 : decode cX10_street 33 = .ok (.getfield 103, 3) := by decide +kernel
theorem dX10_street_36 : decode cX10_street 36 = .ok (.aload_n 0, 1) := by decide +kernel
theorem dX10_street_37 : decode cX10_street 37 = .ok (.getfield 35, 3) := by decide +kernel
theorem dX10_street_40 : decode cX10_street 40 = .ok (.invokevirtual 106, 3) := by decide +kernel
theorem dX10_street_43 : decode cX10_street 43 = .ok (.aload_n 0, 1) := by decide +kernel
theorem dX10_street_44 : decode cX10_street 44 = .ok (.getfield 52, 3) := by decide +kernel
theorem dX10_street_47 : decode cX10_street 47 = .ok (.getfield 110, 3) := by decide +kernel
theorem dX10_street_50 : decode cX10_street 50 = .ok (.invokevirtual 113, 3) := by decide +kernel
theorem dX10_street_53 : decode cX10_street 53 = .ok (.aload_n 0, 1) := by decide +kernel
theorem dX10_street_54 : decode cX10_street 54 = .ok (.getfield 52, 3) := by decide +kernel
theorem dX10_street_57 : decode cX10_street 57 = .ok (.getfield 116, 3) := by decide +kernel
theorem dX10_street_60 : decode cX10_street 60 = .ok (.invokevirtual 120, 3) := by decide +kernel
theorem dX10_street_63 : decode cX10_street 63 = .ok (.aload_n 0, 1) := by decide +kernel
theorem dX10_street_64 : decode cX10_street 64 = .ok (.getfield 63, 3) := by decide +kernel
theorem dX10_street_67 : decode cX10_street 67 = .ok (.invokevirtual 123, 3) := by decide +kernel
theorem dX10_street_70 : decode cX10_street 70 = .ok (.aload_n 0, 1) := by decide +kernel
theorem dX10_street_71 : decode cX10_street 71 = .ok (.getfield 52, 3) := by decide +kernel
theorem dX10_street_74 : decode cX10_street 74 = .ok (.getfield 103, 3) := by decide +kernel
theorem dX10_street_77 : decode cX10_street 77 = .ok (.getfield 124, 3) := by decide +kernel
theorem dX10_street_80 : decode cX10_street 80 = .ok (.ireturn, 1) := by decide +kernel
theorem dX10_rule_0 : decode cX10_rule 0 = .ok (.aload_n 0, 1) := by decide +kernel
theorem dX10_rule_1 : decode cX10_rule 1 = .ok (.getfield 45, 3) := by decide +kernel
theorem dX10_rule_4 : decode cX10_rule 4 = .ok (.bipush 6, 2) := by decide +kernel
theorem dX10_rule_6 : decode cX10_rule 6 = .ok (.if_icmp .lt 5, 3) := by decide +kernel
theorem dX10_rule_9 : decode cX10_rule 9 = .ok (.iconst (-1), 1) := by decide +kernel
theorem dX10_rule_10 : decode cX10_rule 10 = .ok (.ireturn, 1) := by decide +kernel
theorem dX10_rule_11 : decode cX10_rule 11 = .ok (.aload_n 0, 1) := by decide +kernel
theorem dX10_rule_12 : decode cX10_rule 12 = .ok (.getfield 28, 3) := by decide +kernel
theorem dX10_rule_15 : decode cX10_rule 15 = .ok (.invokevirtual 127, 3) := by decide +kernel
theorem dX10_rule_18 : decode cX10_rule 18 = .ok (.istore_n 1, 1) := by decide +kernel
theorem dX10_rule_19 : decode cX10_rule 19 = .ok (.aload_n 0, 1) := by decide +kernel
theorem dX10_rule_20 : decode cX10_rule 20 = .ok (.getfield 12, 3) := by decide +kernel
theorem dX10_rule_23 : decode cX10_rule 23 = .ok (.iconst 0, 1) := by decide +kernel
theorem dX10_rule_24 : decode cX10_rule 24 = .ok (.putfield 96, 3) := by decide +kernel
theorem dX10_rule_27 : decode cX10_rule 27 = .ok (.iload_n 1, 1) := by decide +kernel
theorem dX10_rule_28 : decode cX10_rule 28 = .ok (.ifCond .eq 8, 3) := by decide +kernel
theorem dX10_rule_31 : decode cX10_rule 31 = .ok (.bipush (-2), 2) := by decide +kernel
theorem dX10_rule_33 : decode cX10_rule 33 = .ok (.iload_n 1, 1) := by decide +kernel
theorem dX10_rule_34 : decode cX10_rule 34 = .ok (.isub, 1) := by decide +kernel
theorem dX10_rule_35 : decode cX10_rule 35 = .ok (.ireturn, 1) := by decide +kernel
theorem dX10_rule_36 : decode cX10_rule 36 = .ok (.aload_n 0, 1) := by decide +kernel
theorem dX10_rule_37 : decode cX10_rule 37 = .ok (.getfield 41, 3) := by decide +kernel
theorem dX10_rule_40 : decode cX10_rule 40 = .ok (.aload_n 0, 1) := by decide +kernel
theorem dX10_rule_41 : decode cX10_rule 41 = .ok (.getfield 45, 3) := by decide +kernel
theorem dX10_rule_44 : decode cX10_rule 44 = .ok (.aload_n 0, 1) := by decide +kernel
theorem dX10_rule_45 : decode cX10_rule 45 = .ok (.getfield 28, 3) := by decide +kernel
theorem dX10_rule_48 : decode cX10_rule 48 = .ok (.invokevirtual 131, 3) := by decide +kernel
theorem dX10_rule_51 : decode cX10_rule 51 = .ok (.aastore, 1) := by decide +kernel
theorem dX10_rule_52 : decode cX10_rule 52 = .ok (.aload_n 0, 1) := by decide +kernel
theorem dX10_rule_53 : decode cX10_rule 53 = .ok (.dup, 1) := by decide +kernel
theorem dX10_rule_54 : decode cX10_rule 54 = .ok (.getfield 45, 3) := by decide +kernel
theorem dX10_rule_57 : decode cX10_rule 57 = .ok (.iconst 1, 1) := by decide +kernel
theorem dX10_rule_58 : decode cX10_rule 58 = .ok (.iadd, 1) := by decide +kernel
theorem dX10_rule_59 : decode cX10_rule 59 = .ok (.putfield 45, 3) := by decide +kernel
theorem dX10_rule_62 : decode cX10_rule 62 = .ok (.aload_n 0, 1) := by decide +kernel
theorem dX10_rule_63 : decode cX10_rule 63 = .ok (.getfield 45, 3) := by decide +kernel
theorem dX10_rule_66 : decode cX10_rule 66 = .ok (.iconst 1, 1) := by decide +kernel
theorem dX10_rule_67 : decode cX10_rule 67 = .ok (.isub, 1) := by decide +kernel
theorem dX10_rule_68 : decode cX10_rule 68 = .ok (.ireturn, 1) := by decide +kernel
theorem dX10_force_0 : decode cX10_force 0 = .ok (.iload_n 1, 1) := by decide +kernel
theorem dX10_force_1 : decode cX10_force 1 = .ok (.iconst (-1), 1) := by decide +kernel
theorem dX10_force_2 : decode cX10_force 2 = .ok (.if_icmp .lt 11, 3) := by decide +kernel
theorem dX10_force_5 : decode cX10_force 5 = .ok (.iload_n 1, 1) := by decide +kernel
theorem dX10_force_6 : decode cX10_force 6 = .ok (.aload_n 0, 1) := by decide +kernel
theorem dX10_force_7 : decode cX10_force 7 = .ok (.getfield 45, 3) := by decide +kernel
theorem dX10_force_10 : decode cX10_force 10 = .ok (.if_icmp .lt 6, 3) := by decide +kernel
theorem dX10_force_13 : decode cX10_force 13 = .ok (.bipush (-2), 2) := by decide +kernel
theorem dX10_force_15 : decode cX10_force 15 = .ok (.ireturn, 1) := by decide +kernel
theorem dX10_force_16 : decode cX10_force 16 = .ok (.aload_n 0, 1) := by decide +kernel
theorem dX10_force_17 : decode cX10_force 17 = .ok (.getfield 52, 3) := by decide +kernel
theorem dX10_force_20 : decode cX10_force 20 = .ok (.getfield 135, 3) := by decide +kernel
theorem dX10_force_23 : decode cX10_force 23 = .ok (.istore_n 2, 1) := by decide +kernel
theorem dX10_force_24 : decode cX10_force 24 = .ok (.aload_n 0, 1) := by decide +kernel
theorem dX10_force_25 : decode cX10_force 25 = .ok (.getfield 52, 3) := by decide +kernel
theorem dX10_force_28 : decode cX10_force 28 = .ok (.iload_n 1, 1) := by decide +kernel
theorem dX10_force_29 : decode cX10_force 29 = .ok (.putfield 135, 3) := by decide +kernel
theorem dX10_force_32 : decode cX10_force 32 = .ok (.iload_n 2, 1) := by decide +kernel
theorem dX10_force_33 : decode cX10_force 33 = .ok (.ireturn, 1) := by decide +kernel
theorem dX10_workersNow_0 : decode cX10_workersNow 0 = .ok (.aload_n 0, 1) := by decide +kernel
theorem dX10_workersNow_1 : decode cX10_workersNow 1 = .ok (.getfield 52, 3) := by decide +kernel
theorem dX10_workersNow_4 : decode cX10_workersNow 4 = .ok (.getfield 103, 3) := by decide +kernel
theorem dX10_workersNow_7 : decode cX10_workersNow 7 = .ok (.aload_n 0, 1) := by decide +kernel
theorem dX10_workersNow_8 : decode cX10_workersNow 8 = .ok (.getfield 52, 3) := by decide +kernel
theorem dX10_workersNow_11 : decode cX10_workersNow 11 = .ok (.getfield 110, 3) := by decide +kernel
theorem dX10_workersNow_14 : decode cX10_workersNow 14 = .ok (.getfield 308, 3) := by decide +kernel
theorem dX10_workersNow_17 : decode cX10_workersNow 17 = .ok (.invokevirtual 321, 3) := by decide +kernel
theorem dX10_workersNow_20 : decode cX10_workersNow 20 = .ok (.ireturn, 1) := by decide +kernel
theorem dX10_person_0 : decode cX10_person 0 = .ok (.aload_n 0, 1) := by decide +kernel
theorem dX10_person_1 : decode cX10_person 1 = .ok (.getfield 52, 3) := by decide +kernel
theorem dX10_person_4 : decode cX10_person 4 = .ok (.getfield 103, 3) := by decide +kernel
theorem dX10_person_7 : decode cX10_person 7 = .ok (.iload_n 1, 1) := by decide +kernel
theorem dX10_person_8 : decode cX10_person 8 = .ok (.invokevirtual 138, 3) := by decide +kernel
theorem dX10_person_11 : decode cX10_person 11 = .ok (.ifCond .ne 5, 3) := by decide +kernel
theorem dX10_person_14 : decode cX10_person 14 = .ok (.iconst (-1), 1) := by decide +kernel
theorem dX10_person_15 : decode cX10_person 15 = .ok (.ireturn, 1) := by decide +kernel
theorem dX10_person_16 : decode cX10_person 16 = .ok (.iload_n 2, 1) := by decide +kernel
theorem dX10_person_17 : decode cX10_person 17 = .ok (.tableswitch 115 0 5 #[39, 52, 65, 80, 93, 106], 39) := by decide +kernel
theorem dX10_person_56 : decode cX10_person 56 = .ok (.aload_n 0, 1) := by decide +kernel
theorem dX10_person_57 : decode cX10_person 57 = .ok (.getfield 52, 3) := by decide +kernel
theorem dX10_person_60 : decode cX10_person 60 = .ok (.getfield 103, 3) := by decide +kernel
theorem dX10_person_63 : decode cX10_person 63 = .ok (.getfield 141, 3) := by decide +kernel
theorem dX10_person_66 : decode cX10_person 66 = .ok (.iload_n 1, 1) := by decide +kernel
theorem dX10_person_67 : decode cX10_person 67 = .ok (.iaload, 1) := by decide +kernel
theorem dX10_person_68 : decode cX10_person 68 = .ok (.ireturn, 1) := by decide +kernel
theorem dX10_person_69 : decode cX10_person 69 = .ok (.aload_n 0, 1) := by decide +kernel
theorem dX10_person_70 : decode cX10_person 70 = .ok (.getfield 52, 3) := by decide +kernel
theorem dX10_person_73 : decode cX10_person 73 = .ok (.getfield 103, 3) := by decide +kernel
theorem dX10_person_76 : decode cX10_person 76 = .ok (.getfield 144, 3) := by decide +kernel
theorem dX10_person_79 : decode cX10_person 79 = .ok (.iload_n 1, 1) := by decide +kernel
theorem dX10_person_80 : decode cX10_person 80 = .ok (.iaload, 1) := by decide +kernel
theorem dX10_person_81 : decode cX10_person 81 = .ok (.ireturn, 1) := by decide +kernel
theorem dX10_person_82 : decode cX10_person 82 = .ok (.aload_n 0, 1) := by decide +kernel
theorem dX10_person_83 : decode cX10_person 83 = .ok (.getfield 52, 3) := by decide +kernel
theorem dX10_person_86 : decode cX10_person 86 = .ok (.getfield 110, 3) := by decide +kernel
theorem dX10_person_89 : decode cX10_person 89 = .ok (.getfield 147, 3) := by decide +kernel
theorem dX10_person_92 : decode cX10_person 92 = .ok (.iload_n 1, 1) := by decide +kernel
theorem dX10_person_93 : decode cX10_person 93 = .ok (.invokestatic 150, 3) := by decide +kernel
theorem dX10_person_96 : decode cX10_person 96 = .ok (.ireturn, 1) := by decide +kernel
theorem dX10_person_97 : decode cX10_person 97 = .ok (.aload_n 0, 1) := by decide +kernel
theorem dX10_person_98 : decode cX10_person 98 = .ok (.getfield 52, 3) := by decide +kernel
theorem dX10_person_101 : decode cX10_person 101 = .ok (.getfield 110, 3) := by decide +kernel
theorem dX10_person_104 : decode cX10_person 104 = .ok (.getfield 154, 3) := by decide +kernel
theorem dX10_person_107 : decode cX10_person 107 = .ok (.iload_n 1, 1) := by decide +kernel
theorem dX10_person_108 : decode cX10_person 108 = .ok (.iaload, 1) := by decide +kernel
theorem dX10_person_109 : decode cX10_person 109 = .ok (.ireturn, 1) := by decide +kernel
theorem dX10_person_110 : decode cX10_person 110 = .ok (.aload_n 0, 1) := by decide +kernel
theorem dX10_person_111 : decode cX10_person 111 = .ok (.getfield 52, 3) := by decide +kernel
theorem dX10_person_114 : decode cX10_person 114 = .ok (.getfield 110, 3) := by decide +kernel
theorem dX10_person_117 : decode cX10_person 117 = .ok (.getfield 157, 3) := by decide +kernel
theorem dX10_person_120 : decode cX10_person 120 = .ok (.iload_n 1, 1) := by decide +kernel
theorem dX10_person_121 : decode cX10_person 121 = .ok (.iaload, 1) := by decide +kernel
theorem dX10_person_122 : decode cX10_person 122 = .ok (.ireturn, 1) := by decide +kernel
theorem dX10_person_123 : decode cX10_person 123 = .ok (.aload_n 0, 1) := by decide +kernel
theorem dX10_person_124 : decode cX10_person 124 = .ok (.invokevirtual 160, 3) := by decide +kernel
theorem dX10_person_127 : decode cX10_person 127 = .ok (.iload_n 1, 1) := by decide +kernel
theorem dX10_person_128 : decode cX10_person 128 = .ok (.invokestatic 150, 3) := by decide +kernel
theorem dX10_person_131 : decode cX10_person 131 = .ok (.ireturn, 1) := by decide +kernel
theorem dX10_person_132 : decode cX10_person 132 = .ok (.iconst (-1), 1) := by decide +kernel
theorem dX10_person_133 : decode cX10_person 133 = .ok (.ireturn, 1) := by decide +kernel
theorem dX10_burningNow_0 : decode cX10_burningNow 0 = .ok (.aload_n 0, 1) := by decide +kernel
theorem dX10_burningNow_1 : decode cX10_burningNow 1 = .ok (.getfield 52, 3) := by decide +kernel
theorem dX10_burningNow_4 : decode cX10_burningNow 4 = .ok (.getfield 110, 3) := by decide +kernel
theorem dX10_burningNow_7 : decode cX10_burningNow 7 = .ok (.aload_n 0, 1) := by decide +kernel
theorem dX10_burningNow_8 : decode cX10_burningNow 8 = .ok (.getfield 52, 3) := by decide +kernel
theorem dX10_burningNow_11 : decode cX10_burningNow 11 = .ok (.getfield 103, 3) := by decide +kernel
theorem dX10_burningNow_14 : decode cX10_burningNow 14 = .ok (.aload_n 0, 1) := by decide +kernel
theorem dX10_burningNow_15 : decode cX10_burningNow 15 = .ok (.getfield 52, 3) := by decide +kernel
theorem dX10_burningNow_18 : decode cX10_burningNow 18 = .ok (.getfield 110, 3) := by decide +kernel
theorem dX10_burningNow_21 : decode cX10_burningNow 21 = .ok (.getfield 308, 3) := by decide +kernel
theorem dX10_burningNow_24 : decode cX10_burningNow 24 = .ok (.invokevirtual 324, 3) := by decide +kernel
theorem dX10_burningNow_27 : decode cX10_burningNow 27 = .ok (.ireturn, 1) := by decide +kernel
theorem dX10_lamp_0 : decode cX10_lamp 0 = .ok (.aload_n 0, 1) := by decide +kernel
theorem dX10_lamp_1 : decode cX10_lamp 1 = .ok (.getfield 52, 3) := by decide +kernel
theorem dX10_lamp_4 : decode cX10_lamp 4 = .ok (.getfield 103, 3) := by decide +kernel
theorem dX10_lamp_7 : decode cX10_lamp 7 = .ok (.iload_n 1, 1) := by decide +kernel
theorem dX10_lamp_8 : decode cX10_lamp 8 = .ok (.invokevirtual 163, 3) := by decide +kernel
theorem dX10_lamp_11 : decode cX10_lamp 11 = .ok (.ifCond .ne 5, 3) := by decide +kernel
theorem dX10_lamp_14 : decode cX10_lamp 14 = .ok (.iconst (-1), 1) := by decide +kernel
theorem dX10_lamp_15 : decode cX10_lamp 15 = .ok (.ireturn, 1) := by decide +kernel
theorem dX10_lamp_16 : decode cX10_lamp 16 = .ok (.iload_n 2, 1) := by decide +kernel
theorem dX10_lamp_17 : decode cX10_lamp 17 = .ok (.tableswitch 62 0 2 #[27, 40, 53], 27) := by decide +kernel
theorem dX10_lamp_44 : decode cX10_lamp 44 = .ok (.aload_n 0, 1) := by decide +kernel
theorem dX10_lamp_45 : decode cX10_lamp 45 = .ok (.getfield 52, 3) := by decide +kernel
theorem dX10_lamp_48 : decode cX10_lamp 48 = .ok (.getfield 103, 3) := by decide +kernel
theorem dX10_lamp_51 : decode cX10_lamp 51 = .ok (.getfield 166, 3) := by decide +kernel
theorem dX10_lamp_54 : decode cX10_lamp 54 = .ok (.iload_n 1, 1) := by decide +kernel
theorem dX10_lamp_55 : decode cX10_lamp 55 = .ok (.iaload, 1) := by decide +kernel
theorem dX10_lamp_56 : decode cX10_lamp 56 = .ok (.ireturn, 1) := by decide +kernel
theorem dX10_lamp_57 : decode cX10_lamp 57 = .ok (.aload_n 0, 1) := by decide +kernel
theorem dX10_lamp_58 : decode cX10_lamp 58 = .ok (.getfield 52, 3) := by decide +kernel
theorem dX10_lamp_61 : decode cX10_lamp 61 = .ok (.getfield 103, 3) := by decide +kernel
theorem dX10_lamp_64 : decode cX10_lamp 64 = .ok (.getfield 169, 3) := by decide +kernel
theorem dX10_lamp_67 : decode cX10_lamp 67 = .ok (.iload_n 1, 1) := by decide +kernel
theorem dX10_lamp_68 : decode cX10_lamp 68 = .ok (.iaload, 1) := by decide +kernel
theorem dX10_lamp_69 : decode cX10_lamp 69 = .ok (.ireturn, 1) := by decide +kernel
theorem dX10_lamp_70 : decode cX10_lamp 70 = .ok (.aload_n 0, 1) := by decide +kernel
theorem dX10_lamp_71 : decode cX10_lamp 71 = .ok (.invokevirtual 172, 3) := by decide +kernel
theorem dX10_lamp_74 : decode cX10_lamp 74 = .ok (.iload_n 1, 1) := by decide +kernel
theorem dX10_lamp_75 : decode cX10_lamp 75 = .ok (.invokestatic 150, 3) := by decide +kernel
theorem dX10_lamp_78 : decode cX10_lamp 78 = .ok (.ireturn, 1) := by decide +kernel
theorem dX10_lamp_79 : decode cX10_lamp 79 = .ok (.iconst (-1), 1) := by decide +kernel
theorem dX10_lamp_80 : decode cX10_lamp 80 = .ok (.ireturn, 1) := by decide +kernel
theorem dX10_ruleNow_0 : decode cX10_ruleNow 0 = .ok (.aload_n 0, 1) := by decide +kernel
theorem dX10_ruleNow_1 : decode cX10_ruleNow 1 = .ok (.getfield 52, 3) := by decide +kernel
theorem dX10_ruleNow_4 : decode cX10_ruleNow 4 = .ok (.getfield 135, 3) := by decide +kernel
theorem dX10_ruleNow_7 : decode cX10_ruleNow 7 = .ok (.istore_n 1, 1) := by decide +kernel
theorem dX10_ruleNow_8 : decode cX10_ruleNow 8 = .ok (.iload_n 1, 1) := by decide +kernel
theorem dX10_ruleNow_9 : decode cX10_ruleNow 9 = .ok (.ifCond .lt 20, 3) := by decide +kernel
theorem dX10_ruleNow_12 : decode cX10_ruleNow 12 = .ok (.iload_n 1, 1) := by decide +kernel
theorem dX10_ruleNow_13 : decode cX10_ruleNow 13 = .ok (.aload_n 0, 1) := by decide +kernel
theorem dX10_ruleNow_14 : decode cX10_ruleNow 14 = .ok (.getfield 45, 3) := by decide +kernel
theorem dX10_ruleNow_17 : decode cX10_ruleNow 17 = .ok (.if_icmp .ge 12, 3) := by decide +kernel
theorem dX10_ruleNow_20 : decode cX10_ruleNow 20 = .ok (.aload_n 0, 1) := by decide +kernel
theorem dX10_ruleNow_21 : decode cX10_ruleNow 21 = .ok (.getfield 41, 3) := by decide +kernel
theorem dX10_ruleNow_24 : decode cX10_ruleNow 24 = .ok (.iload_n 1, 1) := by decide +kernel
theorem dX10_ruleNow_25 : decode cX10_ruleNow 25 = .ok (.aaload, 1) := by decide +kernel
theorem dX10_ruleNow_26 : decode cX10_ruleNow 26 = .ok (.goto 4, 3) := by decide +kernel
theorem dX10_ruleNow_29 : decode cX10_ruleNow 29 = .ok (.aconst_null, 1) := by decide +kernel
theorem dX10_ruleNow_30 : decode cX10_ruleNow 30 = .ok (.areturn, 1) := by decide +kernel
theorem dX10_hour_0 : decode cX10_hour 0 = .ok (.aload_n 0, 1) := by decide +kernel
theorem dX10_hour_1 : decode cX10_hour 1 = .ok (.getfield 52, 3) := by decide +kernel
theorem dX10_hour_4 : decode cX10_hour 4 = .ok (.getfield 103, 3) := by decide +kernel
theorem dX10_hour_7 : decode cX10_hour 7 = .ok (.invokevirtual 175, 3) := by decide +kernel
theorem dX10_hour_10 : decode cX10_hour 10 = .ok (.ifCond .eq 23, 3) := by decide +kernel
theorem dX10_hour_13 : decode cX10_hour 13 = .ok (.aload_n 0, 1) := by decide +kernel
theorem dX10_hour_14 : decode cX10_hour 14 = .ok (.getfield 52, 3) := by decide +kernel
theorem dX10_hour_17 : decode cX10_hour 17 = .ok (.getfield 110, 3) := by decide +kernel
theorem dX10_hour_20 : decode cX10_hour 20 = .ok (.aload_n 0, 1) := by decide +kernel
theorem dX10_hour_21 : decode cX10_hour 21 = .ok (.getfield 52, 3) := by decide +kernel
theorem dX10_hour_24 : decode cX10_hour 24 = .ok (.getfield 103, 3) := by decide +kernel
theorem dX10_hour_27 : decode cX10_hour 27 = .ok (.invokevirtual 179, 3) := by decide +kernel
theorem dX10_hour_30 : decode cX10_hour 30 = .ok (.ifCond .eq 5, 3) := by decide +kernel
theorem dX10_hour_33 : decode cX10_hour 33 = .ok (.iconst (-1), 1) := by decide +kernel
theorem dX10_hour_34 : decode cX10_hour 34 = .ok (.ireturn, 1) := by decide +kernel
theorem dX10_hour_35 : decode cX10_hour 35 = .ok (.aload_n 0, 1) := by decide +kernel
theorem dX10_hour_36 : decode cX10_hour 36 = .ok (.getfield 63, 3) := by decide +kernel
theorem dX10_hour_39 : decode cX10_hour 39 = .ok (.aload_n 0, 1) := by decide +kernel
theorem dX10_hour_40 : decode cX10_hour 40 = .ok (.getfield 52, 3) := by decide +kernel
theorem dX10_hour_43 : decode cX10_hour 43 = .ok (.getfield 110, 3) := by decide +kernel
theorem dX10_hour_46 : decode cX10_hour 46 = .ok (.invokevirtual 183, 3) := by decide +kernel
theorem dX10_hour_49 : decode cX10_hour 49 = .ok (.aload_n 0, 1) := by decide +kernel
theorem dX10_hour_50 : decode cX10_hour 50 = .ok (.getfield 70, 3) := by decide +kernel
theorem dX10_hour_53 : decode cX10_hour 53 = .ok (.aload_n 0, 1) := by decide +kernel
theorem dX10_hour_54 : decode cX10_hour 54 = .ok (.getfield 52, 3) := by decide +kernel
theorem dX10_hour_57 : decode cX10_hour 57 = .ok (.getfield 103, 3) := by decide +kernel
theorem dX10_hour_60 : decode cX10_hour 60 = .ok (.aload_n 0, 1) := by decide +kernel
theorem dX10_hour_61 : decode cX10_hour 61 = .ok (.getfield 52, 3) := by decide +kernel
theorem dX10_hour_64 : decode cX10_hour 64 = .ok (.getfield 110, 3) := by decide +kernel
theorem dX10_hour_67 : decode cX10_hour 67 = .ok (.aload_n 0, 1) := by decide +kernel
theorem dX10_hour_68 : decode cX10_hour 68 = .ok (.invokevirtual 187, 3) := by decide +kernel
theorem dX10_hour_71 : decode cX10_hour 71 = .ok (.invokevirtual 190, 3) := by decide +kernel
theorem dX10_hour_74 : decode cX10_hour 74 = .ok (.ireturn, 1) := by decide +kernel
theorem dX10_sleep_0 : decode cX10_sleep 0 = .ok (.aload_n 0, 1) := by decide +kernel
theorem dX10_sleep_1 : decode cX10_sleep 1 = .ok (.getfield 52, 3) := by decide +kernel
theorem dX10_sleep_4 : decode cX10_sleep 4 = .ok (.getfield 103, 3) := by decide +kernel
theorem dX10_sleep_7 : decode cX10_sleep 7 = .ok (.iload_n 1, 1) := by decide +kernel
theorem dX10_sleep_8 : decode cX10_sleep 8 = .ok (.invokevirtual 138, 3) := by decide +kernel
theorem dX10_sleep_11 : decode cX10_sleep 11 = .ok (.ifCond .ne 5, 3) := by decide +kernel
theorem dX10_sleep_14 : decode cX10_sleep 14 = .ok (.iconst 0, 1) := by decide +kernel
theorem dX10_sleep_15 : decode cX10_sleep 15 = .ok (.ireturn, 1) := by decide +kernel
theorem dX10_sleep_16 : decode cX10_sleep 16 = .ok (.aload_n 0, 1) := by decide +kernel
theorem dX10_sleep_17 : decode cX10_sleep 17 = .ok (.getfield 52, 3) := by decide +kernel
theorem dX10_sleep_20 : decode cX10_sleep 20 = .ok (.getfield 110, 3) := by decide +kernel
theorem dX10_sleep_23 : decode cX10_sleep 23 = .ok (.getfield 147, 3) := by decide +kernel
theorem dX10_sleep_26 : decode cX10_sleep 26 = .ok (.iload_n 1, 1) := by decide +kernel
theorem dX10_sleep_27 : decode cX10_sleep 27 = .ok (.invokestatic 150, 3) := by decide +kernel
theorem dX10_sleep_30 : decode cX10_sleep 30 = .ok (.iconst 1, 1) := by decide +kernel
theorem dX10_sleep_31 : decode cX10_sleep 31 = .ok (.if_icmp .ne 7, 3) := by decide +kernel
theorem dX10_sleep_34 : decode cX10_sleep 34 = .ok (.iconst 1, 1) := by decide +kernel
theorem dX10_sleep_35 : decode cX10_sleep 35 = .ok (.goto 4, 3) := by decide +kernel
theorem dX10_sleep_38 : decode cX10_sleep 38 = .ok (.iconst 0, 1) := by decide +kernel
theorem dX10_sleep_39 : decode cX10_sleep 39 = .ok (.istore_n 3, 1) := by decide +kernel
theorem dX10_sleep_40 : decode cX10_sleep 40 = .ok (.aload_n 0, 1) := by decide +kernel
theorem dX10_sleep_41 : decode cX10_sleep 41 = .ok (.invokevirtual 160, 3) := by decide +kernel
theorem dX10_sleep_44 : decode cX10_sleep 44 = .ok (.iload_n 1, 1) := by decide +kernel
theorem dX10_sleep_45 : decode cX10_sleep 45 = .ok (.invokestatic 150, 3) := by decide +kernel
theorem dX10_sleep_48 : decode cX10_sleep 48 = .ok (.iconst 1, 1) := by decide +kernel
theorem dX10_sleep_49 : decode cX10_sleep 49 = .ok (.if_icmp .ne 7, 3) := by decide +kernel
theorem dX10_sleep_52 : decode cX10_sleep 52 = .ok (.iconst 1, 1) := by decide +kernel
theorem dX10_sleep_53 : decode cX10_sleep 53 = .ok (.goto 4, 3) := by decide +kernel
theorem dX10_sleep_56 : decode cX10_sleep 56 = .ok (.iconst 0, 1) := by decide +kernel
theorem dX10_sleep_57 : decode cX10_sleep 57 = .ok (.istore 4, 2) := by decide +kernel
theorem dX10_sleep_59 : decode cX10_sleep 59 = .ok (.iload_n 3, 1) := by decide +kernel
theorem dX10_sleep_60 : decode cX10_sleep 60 = .ok (.iload_n 2, 1) := by decide +kernel
theorem dX10_sleep_61 : decode cX10_sleep 61 = .ok (.if_icmp .eq 12, 3) := by decide +kernel
theorem dX10_sleep_64 : decode cX10_sleep 64 = .ok (.iload_n 2, 1) := by decide +kernel
theorem dX10_sleep_65 : decode cX10_sleep 65 = .ok (.ifCond .eq 10, 3) := by decide +kernel
theorem dX10_sleep_68 : decode cX10_sleep 68 = .ok (.iload 4, 2) := by decide +kernel
theorem dX10_sleep_70 : decode cX10_sleep 70 = .ok (.ifCond .eq 5, 3) := by decide +kernel
theorem dX10_sleep_73 : decode cX10_sleep 73 = .ok (.iconst 0, 1) := by decide +kernel
theorem dX10_sleep_74 : decode cX10_sleep 74 = .ok (.ireturn, 1) := by decide +kernel
theorem dX10_sleep_75 : decode cX10_sleep 75 = .ok (.aload_n 0, 1) := by decide +kernel
theorem dX10_sleep_76 : decode cX10_sleep 76 = .ok (.getfield 63, 3) := by decide +kernel
theorem dX10_sleep_79 : decode cX10_sleep 79 = .ok (.aload_n 0, 1) := by decide +kernel
theorem dX10_sleep_80 : decode cX10_sleep 80 = .ok (.getfield 52, 3) := by decide +kernel
theorem dX10_sleep_83 : decode cX10_sleep 83 = .ok (.getfield 110, 3) := by decide +kernel
theorem dX10_sleep_86 : decode cX10_sleep 86 = .ok (.invokevirtual 183, 3) := by decide +kernel
theorem dX10_sleep_89 : decode cX10_sleep 89 = .ok (.aload_n 0, 1) := by decide +kernel
theorem dX10_sleep_90 : decode cX10_sleep 90 = .ok (.getfield 52, 3) := by decide +kernel
theorem dX10_sleep_93 : decode cX10_sleep 93 = .ok (.getfield 110, 3) := by decide +kernel
theorem dX10_sleep_96 : decode cX10_sleep 96 = .ok (.dup, 1) := by decide +kernel
theorem dX10_sleep_97 : decode cX10_sleep 97 = .ok (.getfield 147, 3) := by decide +kernel
theorem dX10_sleep_100 : decode cX10_sleep 100 = .ok (.iconst 1, 1) := by decide +kernel
theorem dX10_sleep_101 : decode cX10_sleep 101 = .ok (.iload_n 1, 1) := by decide +kernel
theorem dX10_sleep_102 : decode cX10_sleep 102 = .ok (.ishl, 1) := by decide +kernel
theorem dX10_sleep_103 : decode cX10_sleep 103 = .ok (.ixor, 1) := by decide +kernel
theorem dX10_sleep_104 : decode cX10_sleep 104 = .ok (.putfield 147, 3) := by decide +kernel
theorem dX10_sleep_107 : decode cX10_sleep 107 = .ok (.iconst 1, 1) := by decide +kernel
theorem dX10_sleep_108 : decode cX10_sleep 108 = .ok (.ireturn, 1) := by decide +kernel
theorem dX10_light_0 : decode cX10_light 0 = .ok (.aload_n 0, 1) := by decide +kernel
theorem dX10_light_1 : decode cX10_light 1 = .ok (.getfield 52, 3) := by decide +kernel
theorem dX10_light_4 : decode cX10_light 4 = .ok (.getfield 103, 3) := by decide +kernel
theorem dX10_light_7 : decode cX10_light 7 = .ok (.iload_n 1, 1) := by decide +kernel
theorem dX10_light_8 : decode cX10_light 8 = .ok (.invokevirtual 163, 3) := by decide +kernel
theorem dX10_light_11 : decode cX10_light 11 = .ok (.ifCond .ne 5, 3) := by decide +kernel
theorem dX10_light_14 : decode cX10_light 14 = .ok (.iconst 0, 1) := by decide +kernel
theorem dX10_light_15 : decode cX10_light 15 = .ok (.ireturn, 1) := by decide +kernel
theorem dX10_light_16 : decode cX10_light 16 = .ok (.aload_n 0, 1) := by decide +kernel
theorem dX10_light_17 : decode cX10_light 17 = .ok (.invokevirtual 172, 3) := by decide +kernel
theorem dX10_light_20 : decode cX10_light 20 = .ok (.iload_n 1, 1) := by decide +kernel
theorem dX10_light_21 : decode cX10_light 21 = .ok (.invokestatic 150, 3) := by decide +kernel
theorem dX10_light_24 : decode cX10_light 24 = .ok (.iconst 1, 1) := by decide +kernel
theorem dX10_light_25 : decode cX10_light 25 = .ok (.if_icmp .ne 7, 3) := by decide +kernel
theorem dX10_light_28 : decode cX10_light 28 = .ok (.iconst 1, 1) := by decide +kernel
theorem dX10_light_29 : decode cX10_light 29 = .ok (.goto 4, 3) := by decide +kernel
theorem dX10_light_32 : decode cX10_light 32 = .ok (.iconst 0, 1) := by decide +kernel
theorem dX10_light_33 : decode cX10_light 33 = .ok (.istore_n 3, 1) := by decide +kernel
theorem dX10_light_34 : decode cX10_light 34 = .ok (.iload_n 3, 1) := by decide +kernel
theorem dX10_light_35 : decode cX10_light 35 = .ok (.iload_n 2, 1) := by decide +kernel
theorem dX10_light_36 : decode cX10_light 36 = .ok (.if_icmp .ne 5, 3) := by decide +kernel
theorem dX10_light_39 : decode cX10_light 39 = .ok (.iconst 0, 1) := by decide +kernel
theorem dX10_light_40 : decode cX10_light 40 = .ok (.ireturn, 1) := by decide +kernel
theorem dX10_light_41 : decode cX10_light 41 = .ok (.aload_n 0, 1) := by decide +kernel
theorem dX10_light_42 : decode cX10_light 42 = .ok (.getfield 63, 3) := by decide +kernel
theorem dX10_light_45 : decode cX10_light 45 = .ok (.aload_n 0, 1) := by decide +kernel
theorem dX10_light_46 : decode cX10_light 46 = .ok (.getfield 52, 3) := by decide +kernel
theorem dX10_light_49 : decode cX10_light 49 = .ok (.getfield 110, 3) := by decide +kernel
theorem dX10_light_52 : decode cX10_light 52 = .ok (.invokevirtual 183, 3) := by decide +kernel
theorem dX10_light_55 : decode cX10_light 55 = .ok (.aload_n 0, 1) := by decide +kernel
theorem dX10_light_56 : decode cX10_light 56 = .ok (.getfield 52, 3) := by decide +kernel
theorem dX10_light_59 : decode cX10_light 59 = .ok (.getfield 110, 3) := by decide +kernel
theorem dX10_light_62 : decode cX10_light 62 = .ok (.iload_n 1, 1) := by decide +kernel
theorem dX10_light_63 : decode cX10_light 63 = .ok (.iload_n 2, 1) := by decide +kernel
theorem dX10_light_64 : decode cX10_light 64 = .ok (.invokevirtual 194, 3) := by decide +kernel
theorem dX10_light_67 : decode cX10_light 67 = .ok (.iconst 1, 1) := by decide +kernel
theorem dX10_light_68 : decode cX10_light 68 = .ok (.ireturn, 1) := by decide +kernel
theorem dX10_undo_0 : decode cX10_undo 0 = .ok (.aload_n 0, 1) := by decide +kernel
theorem dX10_undo_1 : decode cX10_undo 1 = .ok (.getfield 63, 3) := by decide +kernel
theorem dX10_undo_4 : decode cX10_undo 4 = .ok (.aload_n 0, 1) := by decide +kernel
theorem dX10_undo_5 : decode cX10_undo 5 = .ok (.getfield 52, 3) := by decide +kernel
theorem dX10_undo_8 : decode cX10_undo 8 = .ok (.getfield 110, 3) := by decide +kernel
theorem dX10_undo_11 : decode cX10_undo 11 = .ok (.invokevirtual 198, 3) := by decide +kernel
theorem dX10_undo_14 : decode cX10_undo 14 = .ok (.ifCond .eq 13, 3) := by decide +kernel
theorem dX10_undo_17 : decode cX10_undo 17 = .ok (.aload_n 0, 1) := by decide +kernel
theorem dX10_undo_18 : decode cX10_undo 18 = .ok (.getfield 63, 3) := by decide +kernel
theorem dX10_undo_21 : decode cX10_undo 21 = .ok (.getfield 202, 3) := by decide +kernel
theorem dX10_undo_24 : decode cX10_undo 24 = .ok (.goto 4, 3) := by decide +kernel
theorem dX10_undo_27 : decode cX10_undo 27 = .ok (.iconst (-1), 1) := by decide +kernel
theorem dX10_undo_28 : decode cX10_undo 28 = .ok (.ireturn, 1) := by decide +kernel
theorem dX10_isDebtor_0 : decode cX10_isDebtor 0 = .ok (.aload_n 0, 1) := by decide +kernel
theorem dX10_isDebtor_1 : decode cX10_isDebtor 1 = .ok (.getfield 52, 3) := by decide +kernel
theorem dX10_isDebtor_4 : decode cX10_isDebtor 4 = .ok (.getfield 103, 3) := by decide +kernel
theorem dX10_isDebtor_7 : decode cX10_isDebtor 7 = .ok (.invokevirtual 175, 3) := by decide +kernel
theorem dX10_isDebtor_10 : decode cX10_isDebtor 10 = .ok (.ifCond .eq 26, 3) := by decide +kernel
theorem dX10_isDebtor_13 : decode cX10_isDebtor 13 = .ok (.iload_n 1, 1) := by decide +kernel
theorem dX10_isDebtor_14 : decode cX10_isDebtor 14 = .ok (.iconst (-1), 1) := by decide +kernel
theorem dX10_isDebtor_15 : decode cX10_isDebtor 15 = .ok (.if_icmp .eq 17, 3) := by decide +kernel
theorem dX10_isDebtor_18 : decode cX10_isDebtor 18 = .ok (.aload_n 0, 1) := by decide +kernel
theorem dX10_isDebtor_19 : decode cX10_isDebtor 19 = .ok (.getfield 52, 3) := by decide +kernel
theorem dX10_isDebtor_22 : decode cX10_isDebtor 22 = .ok (.getfield 103, 3) := by decide +kernel
theorem dX10_isDebtor_25 : decode cX10_isDebtor 25 = .ok (.iload_n 1, 1) := by decide +kernel
theorem dX10_isDebtor_26 : decode cX10_isDebtor 26 = .ok (.invokevirtual 138, 3) := by decide +kernel
theorem dX10_isDebtor_29 : decode cX10_isDebtor 29 = .ok (.ifCond .eq 7, 3) := by decide +kernel
theorem dX10_isDebtor_32 : decode cX10_isDebtor 32 = .ok (.iconst 1, 1) := by decide +kernel
theorem dX10_isDebtor_33 : decode cX10_isDebtor 33 = .ok (.goto 4, 3) := by decide +kernel
theorem dX10_isDebtor_36 : decode cX10_isDebtor 36 = .ok (.iconst 0, 1) := by decide +kernel
theorem dX10_isDebtor_37 : decode cX10_isDebtor 37 = .ok (.ireturn, 1) := by decide +kernel
theorem dX10_isPart_0 : decode cX10_isPart 0 = .ok (.iload_n 0, 1) := by decide +kernel
theorem dX10_isPart_1 : decode cX10_isPart 1 = .ok (.ifCond .eq 8, 3) := by decide +kernel
theorem dX10_isPart_4 : decode cX10_isPart 4 = .ok (.iload_n 0, 1) := by decide +kernel
theorem dX10_isPart_5 : decode cX10_isPart 5 = .ok (.iconst 1, 1) := by decide +kernel
theorem dX10_isPart_6 : decode cX10_isPart 6 = .ok (.if_icmp .ne 7, 3) := by decide +kernel
theorem dX10_isPart_9 : decode cX10_isPart 9 = .ok (.iconst 1, 1) := by decide +kernel
theorem dX10_isPart_10 : decode cX10_isPart 10 = .ok (.goto 4, 3) := by decide +kernel
theorem dX10_isPart_13 : decode cX10_isPart 13 = .ok (.iconst 0, 1) := by decide +kernel
theorem dX10_isPart_14 : decode cX10_isPart 14 = .ok (.ireturn, 1) := by decide +kernel
theorem dX10_debtorRow_0 : decode cX10_debtorRow 0 = .ok (.iload_n 0, 1) := by decide +kernel
theorem dX10_debtorRow_1 : decode cX10_debtorRow 1 = .ok (.iconst (-1), 1) := by decide +kernel
theorem dX10_debtorRow_2 : decode cX10_debtorRow 2 = .ok (.if_icmp .ne 7, 3) := by decide +kernel
theorem dX10_debtorRow_5 : decode cX10_debtorRow 5 = .ok (.iconst 5, 1) := by decide +kernel
theorem dX10_debtorRow_6 : decode cX10_debtorRow 6 = .ok (.goto 4, 3) := by decide +kernel
theorem dX10_debtorRow_9 : decode cX10_debtorRow 9 = .ok (.iload_n 0, 1) := by decide +kernel
theorem dX10_debtorRow_10 : decode cX10_debtorRow 10 = .ok (.ireturn, 1) := by decide +kernel
theorem dJ9_abs_067f4_0 : decode cJ9_abs_067f4 0 = .ok (.lload_n 0, 1) := by decide +kernel
theorem dJ9_abs_067f4_1 : decode cJ9_abs_067f4 1 = .ok (.lconst 0, 1) := by decide +kernel
theorem dJ9_abs_067f4_2 : decode cJ9_abs_067f4 2 = .ok (.lcmp, 1) := by decide +kernel
theorem dJ9_abs_067f4_3 : decode cJ9_abs_067f4 3 = .ok (.ifCond .ge 8, 3) := by decide +kernel
theorem dJ9_abs_067f4_6 : decode cJ9_abs_067f4 6 = .ok (.lload_n 0, 1) := by decide +kernel
theorem dJ9_abs_067f4_7 : decode cJ9_abs_067f4 7 = .ok (.lneg, 1) := by decide +kernel
theorem dJ9_abs_067f4_8 : decode cJ9_abs_067f4 8 = .ok (.goto 4, 3) := by decide +kernel
theorem dJ9_abs_067f4_11 : decode cJ9_abs_067f4 11 = .ok (.lload_n 0, 1) := by decide +kernel
theorem dJ9_abs_067f4_12 : decode cJ9_abs_067f4 12 = .ok (.lreturn, 1) := by decide +kernel
theorem dX10_fraction_0 : decode cX10_fraction 0 = .ok (.lload_n 2, 1) := by decide +kernel
theorem dX10_fraction_1 : decode cX10_fraction 1 = .ok (.lstore 5, 2) := by decide +kernel
theorem dX10_fraction_3 : decode cX10_fraction 3 = .ok (.lload_n 0, 1) := by decide +kernel
theorem dX10_fraction_4 : decode cX10_fraction 4 = .ok (.invokestatic 328, 3) := by decide +kernel
theorem dX10_fraction_7 : decode cX10_fraction 7 = .ok (.lstore 7, 2) := by decide +kernel
theorem dX10_fraction_9 : decode cX10_fraction 9 = .ok (.iconst 0, 1) := by decide +kernel
theorem dX10_fraction_10 : decode cX10_fraction 10 = .ok (.istore 9, 2) := by decide +kernel
theorem dX10_fraction_12 : decode cX10_fraction 12 = .ok (.iload 9, 2) := by decide +kernel
theorem dX10_fraction_14 : decode cX10_fraction 14 = .ok (.sipush 200, 3) := by decide +kernel
theorem dX10_fraction_17 : decode cX10_fraction 17 = .ok (.if_icmp .ge 31, 3) := by decide +kernel
theorem dX10_fraction_20 : decode cX10_fraction 20 = .ok (.lload 7, 2) := by decide +kernel
theorem dX10_fraction_22 : decode cX10_fraction 22 = .ok (.lconst 0, 1) := by decide +kernel
theorem dX10_fraction_23 : decode cX10_fraction 23 = .ok (.lcmp, 1) := by decide +kernel
theorem dX10_fraction_24 : decode cX10_fraction 24 = .ok (.ifCond .eq 24, 3) := by decide +kernel
theorem dX10_fraction_27 : decode cX10_fraction 27 = .ok (.lload 5, 2) := by decide +kernel
theorem dX10_fraction_29 : decode cX10_fraction 29 = .ok (.lload 7, 2) := by decide +kernel
theorem dX10_fraction_31 : decode cX10_fraction 31 = .ok (.lrem, 1) := by decide +kernel
theorem dX10_fraction_32 : decode cX10_fraction 32 = .ok (.lstore 10, 2) := by decide +kernel
theorem dX10_fraction_34 : decode cX10_fraction 34 = .ok (.lload 7, 2) := by decide +kernel
theorem dX10_fraction_36 : decode cX10_fraction 36 = .ok (.lstore 5, 2) := by decide +kernel
theorem dX10_fraction_38 : decode cX10_fraction 38 = .ok (.lload 10, 2) := by decide +kernel
theorem dX10_fraction_40 : decode cX10_fraction 40 = .ok (.lstore 7, 2) := by decide +kernel
theorem dX10_fraction_42 : decode cX10_fraction 42 = .ok (.iinc 9 1, 3) := by decide +kernel
theorem dX10_fraction_45 : decode cX10_fraction 45 = .ok (.goto (-33), 3) := by decide +kernel
theorem dX10_fraction_48 : decode cX10_fraction 48 = .ok (.lload 5, 2) := by decide +kernel
theorem dX10_fraction_50 : decode cX10_fraction 50 = .ok (.lconst 0, 1) := by decide +kernel
theorem dX10_fraction_51 : decode cX10_fraction 51 = .ok (.lcmp, 1) := by decide +kernel
theorem dX10_fraction_52 : decode cX10_fraction 52 = .ok (.ifCond .ne 5, 3) := by decide +kernel
theorem dX10_fraction_55 : decode cX10_fraction 55 = .ok (.iconst 0, 1) := by decide +kernel
theorem dX10_fraction_56 : decode cX10_fraction 56 = .ok (.ireturn, 1) := by decide +kernel
theorem dX10_fraction_57 : decode cX10_fraction 57 = .ok (.iload 4, 2) := by decide +kernel
theorem dX10_fraction_59 : decode cX10_fraction 59 = .ok (.ifCond .ne 7, 3) := by decide +kernel
theorem dX10_fraction_62 : decode cX10_fraction 62 = .ok (.lload_n 0, 1) := by decide +kernel
theorem dX10_fraction_63 : decode cX10_fraction 63 = .ok (.goto 4, 3) := by decide +kernel
theorem dX10_fraction_66 : decode cX10_fraction 66 = .ok (.lload_n 2, 1) := by decide +kernel
theorem dX10_fraction_67 : decode cX10_fraction 67 = .ok (.lload 5, 2) := by decide +kernel
theorem dX10_fraction_69 : decode cX10_fraction 69 = .ok (.ldiv, 1) := by decide +kernel
theorem dX10_fraction_70 : decode cX10_fraction 70 = .ok (.l2i, 1) := by decide +kernel
theorem dX10_fraction_71 : decode cX10_fraction 71 = .ok (.ireturn, 1) := by decide +kernel
theorem dX10_owed_0 : decode cX10_owed 0 = .ok (.aload_n 0, 1) := by decide +kernel
theorem dX10_owed_1 : decode cX10_owed 1 = .ok (.iload_n 1, 1) := by decide +kernel
theorem dX10_owed_2 : decode cX10_owed 2 = .ok (.invokevirtual 205, 3) := by decide +kernel
theorem dX10_owed_5 : decode cX10_owed 5 = .ok (.ifCond .eq 10, 3) := by decide +kernel
theorem dX10_owed_8 : decode cX10_owed 8 = .ok (.iload_n 2, 1) := by decide +kernel
theorem dX10_owed_9 : decode cX10_owed 9 = .ok (.invokestatic 208, 3) := by decide +kernel
theorem dX10_owed_12 : decode cX10_owed 12 = .ok (.ifCond .ne 5, 3) := by decide +kernel
theorem dX10_owed_15 : decode cX10_owed 15 = .ok (.iconst (-1), 1) := by decide +kernel
theorem dX10_owed_16 : decode cX10_owed 16 = .ok (.ireturn, 1) := by decide +kernel
theorem dX10_owed_17 : decode cX10_owed 17 = .ok (.aload_n 0, 1) := by decide +kernel
theorem dX10_owed_18 : decode cX10_owed 18 = .ok (.getfield 52, 3) := by decide +kernel
theorem dX10_owed_21 : decode cX10_owed 21 = .ok (.getfield 110, 3) := by decide +kernel
theorem dX10_owed_24 : decode cX10_owed 24 = .ok (.getfield 211, 3) := by decide +kernel
theorem dX10_owed_27 : decode cX10_owed 27 = .ok (.iload_n 1, 1) := by decide +kernel
theorem dX10_owed_28 : decode cX10_owed 28 = .ok (.invokestatic 215, 3) := by decide +kernel
theorem dX10_owed_31 : decode cX10_owed 31 = .ok (.laload, 1) := by decide +kernel
theorem dX10_owed_32 : decode cX10_owed 32 = .ok (.ldc2_w 219, 3) := by decide +kernel
theorem dX10_owed_35 : decode cX10_owed 35 = .ok (.iload_n 2, 1) := by decide +kernel
theorem dX10_owed_36 : decode cX10_owed 36 = .ok (.invokestatic 221, 3) := by decide +kernel
theorem dX10_owed_39 : decode cX10_owed 39 = .ok (.ireturn, 1) := by decide +kernel
theorem dX10_playTrial_0 : decode cX10_playTrial 0 = .ok (.iconst 0, 1) := by decide +kernel
theorem dX10_playTrial_1 : decode cX10_playTrial 1 = .ok (.istore_n 2, 1) := by decide +kernel
theorem dX10_playTrial_2 : decode cX10_playTrial 2 = .ok (.iload_n 2, 1) := by decide +kernel
theorem dX10_playTrial_3 : decode cX10_playTrial 3 = .ok (.iload_n 1, 1) := by decide +kernel
theorem dX10_playTrial_4 : decode cX10_playTrial 4 = .ok (.if_icmp .ge 32, 3) := by decide +kernel
theorem dX10_playTrial_7 : decode cX10_playTrial 7 = .ok (.aload_n 0, 1) := by decide +kernel
theorem dX10_playTrial_8 : decode cX10_playTrial 8 = .ok (.getfield 70, 3) := by decide +kernel
theorem dX10_playTrial_11 : decode cX10_playTrial 11 = .ok (.aload_n 0, 1) := by decide +kernel
theorem dX10_playTrial_12 : decode cX10_playTrial 12 = .ok (.getfield 52, 3) := by decide +kernel
theorem dX10_playTrial_15 : decode cX10_playTrial 15 = .ok (.getfield 103, 3) := by decide +kernel
theorem dX10_playTrial_18 : decode cX10_playTrial 18 = .ok (.aload_n 0, 1) := by decide +kernel
theorem dX10_playTrial_19 : decode cX10_playTrial 19 = .ok (.getfield 77, 3) := by decide +kernel
theorem dX10_playTrial_22 : decode cX10_playTrial 22 = .ok (.aload_n 0, 1) := by decide +kernel
theorem dX10_playTrial_23 : decode cX10_playTrial 23 = .ok (.invokevirtual 187, 3) := by decide +kernel
theorem dX10_playTrial_26 : decode cX10_playTrial 26 = .ok (.invokevirtual 190, 3) := by decide +kernel
theorem dX10_playTrial_29 : decode cX10_playTrial 29 = .ok (.pop, 1) := by decide +kernel
theorem dX10_playTrial_30 : decode cX10_playTrial 30 = .ok (.iinc 2 1, 3) := by decide +kernel
theorem dX10_playTrial_33 : decode cX10_playTrial 33 = .ok (.goto (-31), 3) := by decide +kernel
theorem dX10_playTrial_36 : decode cX10_playTrial 36 = .ok (.return_, 1) := by decide +kernel
theorem dX10_ahead_0 : decode cX10_ahead 0 = .ok (.aload_n 0, 1) := by decide +kernel
theorem dX10_ahead_1 : decode cX10_ahead 1 = .ok (.getfield 52, 3) := by decide +kernel
theorem dX10_ahead_4 : decode cX10_ahead 4 = .ok (.getfield 103, 3) := by decide +kernel
theorem dX10_ahead_7 : decode cX10_ahead 7 = .ok (.iload_n 1, 1) := by decide +kernel
theorem dX10_ahead_8 : decode cX10_ahead 8 = .ok (.invokevirtual 138, 3) := by decide +kernel
theorem dX10_ahead_11 : decode cX10_ahead 11 = .ok (.ifCond .eq 13, 3) := by decide +kernel
theorem dX10_ahead_14 : decode cX10_ahead 14 = .ok (.iload_n 2, 1) := by decide +kernel
theorem dX10_ahead_15 : decode cX10_ahead 15 = .ok (.ifCond .lt 9, 3) := by decide +kernel
theorem dX10_ahead_18 : decode cX10_ahead 18 = .ok (.iload_n 2, 1) := by decide +kernel
theorem dX10_ahead_19 : decode cX10_ahead 19 = .ok (.bipush 100, 2) := by decide +kernel
theorem dX10_ahead_21 : decode cX10_ahead 21 = .ok (.if_icmp .le 5, 3) := by decide +kernel
theorem dX10_ahead_24 : decode cX10_ahead 24 = .ok (.iconst (-1), 1) := by decide +kernel
theorem dX10_ahead_25 : decode cX10_ahead 25 = .ok (.ireturn, 1) := by decide +kernel
theorem dX10_ahead_26 : decode cX10_ahead 26 = .ok (.iload_n 3, 1) := by decide +kernel
theorem dX10_ahead_27 : decode cX10_ahead 27 = .ok (.ifCond .lt 8, 3) := by decide +kernel
theorem dX10_ahead_30 : decode cX10_ahead 30 = .ok (.iload_n 3, 1) := by decide +kernel
theorem dX10_ahead_31 : decode cX10_ahead 31 = .ok (.iconst 2, 1) := by decide +kernel
theorem dX10_ahead_32 : decode cX10_ahead 32 = .ok (.if_icmp .le 5, 3) := by decide +kernel
theorem dX10_ahead_35 : decode cX10_ahead 35 = .ok (.iconst (-1), 1) := by decide +kernel
theorem dX10_ahead_36 : decode cX10_ahead 36 = .ok (.ireturn, 1) := by decide +kernel
theorem dX10_ahead_37 : decode cX10_ahead 37 = .ok (.aload_n 0, 1) := by decide +kernel
theorem dX10_ahead_38 : decode cX10_ahead 38 = .ok (.getfield 77, 3) := by decide +kernel
theorem dX10_ahead_41 : decode cX10_ahead 41 = .ok (.aload_n 0, 1) := by decide +kernel
theorem dX10_ahead_42 : decode cX10_ahead 42 = .ok (.getfield 52, 3) := by decide +kernel
theorem dX10_ahead_45 : decode cX10_ahead 45 = .ok (.getfield 110, 3) := by decide +kernel
theorem dX10_ahead_48 : decode cX10_ahead 48 = .ok (.invokevirtual 225, 3) := by decide +kernel
theorem dX10_ahead_51 : decode cX10_ahead 51 = .ok (.aload_n 0, 1) := by decide +kernel
theorem dX10_ahead_52 : decode cX10_ahead 52 = .ok (.iload_n 2, 1) := by decide +kernel
theorem dX10_ahead_53 : decode cX10_ahead 53 = .ok (.invokevirtual 227, 3) := by decide +kernel
theorem dX10_ahead_56 : decode cX10_ahead 56 = .ok (.iload_n 3, 1) := by decide +kernel
theorem dX10_ahead_57 : decode cX10_ahead 57 = .ok (.ifCond .ne 15, 3) := by decide +kernel
theorem dX10_ahead_60 : decode cX10_ahead 60 = .ok (.aload_n 0, 1) := by decide +kernel
theorem dX10_ahead_61 : decode cX10_ahead 61 = .ok (.getfield 77, 3) := by decide +kernel
theorem dX10_ahead_64 : decode cX10_ahead 64 = .ok (.getfield 147, 3) := by decide +kernel
theorem dX10_ahead_67 : decode cX10_ahead 67 = .ok (.iload_n 1, 1) := by decide +kernel
theorem dX10_ahead_68 : decode cX10_ahead 68 = .ok (.invokestatic 150, 3) := by decide +kernel
theorem dX10_ahead_71 : decode cX10_ahead 71 = .ok (.ireturn, 1) := by decide +kernel
theorem dX10_ahead_72 : decode cX10_ahead 72 = .ok (.iload_n 3, 1) := by decide +kernel
theorem dX10_ahead_73 : decode cX10_ahead 73 = .ok (.iconst 1, 1) := by decide +kernel
theorem dX10_ahead_74 : decode cX10_ahead 74 = .ok (.if_icmp .ne 15, 3) := by decide +kernel
theorem dX10_ahead_77 : decode cX10_ahead 77 = .ok (.aload_n 0, 1) := by decide +kernel
theorem dX10_ahead_78 : decode cX10_ahead 78 = .ok (.getfield 77, 3) := by decide +kernel
theorem dX10_ahead_81 : decode cX10_ahead 81 = .ok (.getfield 154, 3) := by decide +kernel
theorem dX10_ahead_84 : decode cX10_ahead 84 = .ok (.iload_n 1, 1) := by decide +kernel
theorem dX10_ahead_85 : decode cX10_ahead 85 = .ok (.iaload, 1) := by decide +kernel
theorem dX10_ahead_86 : decode cX10_ahead 86 = .ok (.goto 12, 3) := by decide +kernel
theorem dX10_ahead_89 : decode cX10_ahead 89 = .ok (.aload_n 0, 1) := by decide +kernel
theorem dX10_ahead_90 : decode cX10_ahead 90 = .ok (.getfield 77, 3) := by decide +kernel
theorem dX10_ahead_93 : decode cX10_ahead 93 = .ok (.getfield 157, 3) := by decide +kernel
theorem dX10_ahead_96 : decode cX10_ahead 96 = .ok (.iload_n 1, 1) := by decide +kernel
theorem dX10_ahead_97 : decode cX10_ahead 97 = .ok (.iaload, 1) := by decide +kernel
theorem dX10_ahead_98 : decode cX10_ahead 98 = .ok (.ireturn, 1) := by decide +kernel
set_option maxRecDepth 20000 in
def fX7_addPerson (N : Nat)  (a0 : Nat) (p1 : Int32) (p2 : Int32) (u : SG) : Option (Unit × SG) := if zK u a0 = 8 then (if (zI u a0 7) < 0 then (some ((), u))
  else (if zK u a0 = 8 then (if (5 : Int32) ≤ (zI u a0 7) then (some ((), u))
  else (if zK u a0 = 8 then (Option.bind (zR u a0 0) fun q1 => (if zK u a0 = 8 then (if zK u q1 = 22 then if (zI u a0 7) < 0 ∨ zN u q1 ≤ (zI u a0 7).toNatClampNeg then none else bs (sI u q1 (zI u a0 7).toNatClampNeg p1) fun u2 => (if zK u2 a0 = 8 then (Option.bind (zR u2 a0 1) fun q3 => (if zK u2 a0 = 8 then (if zK u2 q3 = 22 then if (zI u2 a0 7) < 0 ∨ zN u2 q3 ≤ (zI u2 a0 7).toNatClampNeg then none else bs (sI u2 q3 (zI u2 a0 7).toNatClampNeg p2) fun u4 => (if zK u4 a0 = 8 then (if zK u4 a0 = 8 then bs (sI u4 a0 7 ((zI u4 a0 7) + (1 : Int32))) fun u5 => (some ((), u5)) else none) else none) else none) else none)) else none) else none) else none)) else none)) else none)) else none
set_option maxRecDepth 20000 in
set_option maxHeartbeats 4000000 in
theorem kX7_addPerson  (N : Nat)  (l : Launch) (D : va_G) (cT : Nat → ClassId) (z0 : Nat) (ks : Nat × Nat) (a0 : Nat) (p1 : Int32) (p2 : Int32) (u : SG) : Ct l D cT z0 ks yX7_addPerson cX7_addPerson 3 none 1 0 0 vU [.ref a0, .int p1, .int p2] u (fX7_addPerson N  a0 p1 p2 u) := by
  unfold fX7_addPerson
  refine ct_of (by decide +kernel) (Nat.le_of_ble_eq_true rfl) (fun p e R s m args below meth c hX => ?_)
  show JF _ True 3 0 0 _ 0 [(0, .ref a0), (1, .int p1), (2, .int p2)] [] u _
  refine jf_aload_n hX dX7_addPerson_0 0 rfl ?_
  refine jf_getI hX ck_X7 7 wfl_462 (by decide) rfl dX7_addPerson_1 ?_
  refine jf_if_lt (tgt := 45) hX dX7_addPerson_4 (by decide) ?_ ?_
  · exact jf_vret hX rfl (by decide) (by decide) dX7_addPerson_45
  · refine jf_aload_n hX dX7_addPerson_7 0 rfl ?_
    refine jf_getI hX ck_X7 7 wfl_462 (by decide) rfl dX7_addPerson_8 ?_
    refine jf_iconst (v := 5) hX dX7_addPerson_11 (by decide) ?_
    refine jf_icmp_ge (tgt := 45) hX dX7_addPerson_12 (by decide) ?_ ?_
    · exact jf_vret hX rfl (by decide) (by decide) dX7_addPerson_45
    · refine jf_aload_n hX dX7_addPerson_15 0 rfl ?_
      refine jf_getR hX ck_X7 0 wfl_568 (by decide) rfl dX7_addPerson_16 ?_
      refine jf_nn (fun q1 => ?_)
      refine jf_aload_n hX dX7_addPerson_19 0 rfl ?_
      refine jf_getI hX ck_X7 7 wfl_462 (by decide) rfl dX7_addPerson_20 ?_
      refine jf_iload_n hX dX7_addPerson_23 1 rfl ?_
      refine jf_iast hX trivial dX7_addPerson_24 (fun u2 => ?_)
      refine jf_aload_n hX dX7_addPerson_25 0 rfl ?_
      refine jf_getR hX ck_X7 1 wfl_569 (by decide) rfl dX7_addPerson_26 ?_
      refine jf_nn (fun q3 => ?_)
      refine jf_aload_n hX dX7_addPerson_29 0 rfl ?_
      refine jf_getI hX ck_X7 7 wfl_462 (by decide) rfl dX7_addPerson_30 ?_
      refine jf_iload_n hX dX7_addPerson_33 2 rfl ?_
      refine jf_iast hX trivial dX7_addPerson_34 (fun u4 => ?_)
      refine jf_aload_n hX dX7_addPerson_35 0 rfl ?_
      refine jf_dup hX dX7_addPerson_36 rfl ?_
      refine jf_getI hX ck_X7 7 wfl_462 (by decide) rfl dX7_addPerson_37 ?_
      refine jf_iconst (v := 1) hX dX7_addPerson_40 (by decide) ?_
      refine jf_iadd hX dX7_addPerson_41 ?_
      refine jf_putI hX trivial ck_X7 7 wfl_462 (by decide) rfl rfl rfl dX7_addPerson_42 (fun u5 => ?_)
      exact jf_vret hX rfl (by decide) (by decide) dX7_addPerson_45
set_option maxRecDepth 20000 in
def fX7_addLamp (N : Nat)  (a0 : Nat) (p1 : Int32) (p2 : Int32) (u : SG) : Option (Unit × SG) := if zK u a0 = 8 then (if (zI u a0 9) < 0 then (some ((), u))
  else (if zK u a0 = 8 then (if (5 : Int32) ≤ (zI u a0 9) then (some ((), u))
  else (if zK u a0 = 8 then (Option.bind (zR u a0 2) fun q1 => (if zK u a0 = 8 then (if zK u q1 = 22 then if (zI u a0 9) < 0 ∨ zN u q1 ≤ (zI u a0 9).toNatClampNeg then none else bs (sI u q1 (zI u a0 9).toNatClampNeg p1) fun u2 => (if zK u2 a0 = 8 then (Option.bind (zR u2 a0 3) fun q3 => (if zK u2 a0 = 8 then (if zK u2 q3 = 22 then if (zI u2 a0 9) < 0 ∨ zN u2 q3 ≤ (zI u2 a0 9).toNatClampNeg then none else bs (sI u2 q3 (zI u2 a0 9).toNatClampNeg p2) fun u4 => (if zK u4 a0 = 8 then (if zK u4 a0 = 8 then bs (sI u4 a0 9 ((zI u4 a0 9) + (1 : Int32))) fun u5 => (some ((), u5)) else none) else none) else none) else none)) else none) else none) else none)) else none)) else none)) else none
set_option maxRecDepth 20000 in
set_option maxHeartbeats 4000000 in
theorem kX7_addLamp  (N : Nat)  (l : Launch) (D : va_G) (cT : Nat → ClassId) (z0 : Nat) (ks : Nat × Nat) (a0 : Nat) (p1 : Int32) (p2 : Int32) (u : SG) : Ct l D cT z0 ks yX7_addLamp cX7_addLamp 3 none 1 0 0 vU [.ref a0, .int p1, .int p2] u (fX7_addLamp N  a0 p1 p2 u) := by
  unfold fX7_addLamp
  refine ct_of (by decide +kernel) (Nat.le_of_ble_eq_true rfl) (fun p e R s m args below meth c hX => ?_)
  show JF _ True 3 0 0 _ 0 [(0, .ref a0), (1, .int p1), (2, .int p2)] [] u _
  refine jf_aload_n hX dX7_addLamp_0 0 rfl ?_
  refine jf_getI hX ck_X7 9 wfl_405 (by decide) rfl dX7_addLamp_1 ?_
  refine jf_if_lt (tgt := 45) hX dX7_addLamp_4 (by decide) ?_ ?_
  · exact jf_vret hX rfl (by decide) (by decide) dX7_addLamp_45
  · refine jf_aload_n hX dX7_addLamp_7 0 rfl ?_
    refine jf_getI hX ck_X7 9 wfl_405 (by decide) rfl dX7_addLamp_8 ?_
    refine jf_iconst (v := 5) hX dX7_addLamp_11 (by decide) ?_
    refine jf_icmp_ge (tgt := 45) hX dX7_addLamp_12 (by decide) ?_ ?_
    · exact jf_vret hX rfl (by decide) (by decide) dX7_addLamp_45
    · refine jf_aload_n hX dX7_addLamp_15 0 rfl ?_
      refine jf_getR hX ck_X7 2 wfl_406 (by decide) rfl dX7_addLamp_16 ?_
      refine jf_nn (fun q1 => ?_)
      refine jf_aload_n hX dX7_addLamp_19 0 rfl ?_
      refine jf_getI hX ck_X7 9 wfl_405 (by decide) rfl dX7_addLamp_20 ?_
      refine jf_iload_n hX dX7_addLamp_23 1 rfl ?_
      refine jf_iast hX trivial dX7_addLamp_24 (fun u2 => ?_)
      refine jf_aload_n hX dX7_addLamp_25 0 rfl ?_
      refine jf_getR hX ck_X7 3 wfl_404 (by decide) rfl dX7_addLamp_26 ?_
      refine jf_nn (fun q3 => ?_)
      refine jf_aload_n hX dX7_addLamp_29 0 rfl ?_
      refine jf_getI hX ck_X7 9 wfl_405 (by decide) rfl dX7_addLamp_30 ?_
      refine jf_iload_n hX dX7_addLamp_33 2 rfl ?_
      refine jf_iast hX trivial dX7_addLamp_34 (fun u4 => ?_)
      refine jf_aload_n hX dX7_addLamp_35 0 rfl ?_
      refine jf_dup hX dX7_addLamp_36 rfl ?_
      refine jf_getI hX ck_X7 9 wfl_405 (by decide) rfl dX7_addLamp_37 ?_
      refine jf_iconst (v := 1) hX dX7_addLamp_40 (by decide) ?_
      refine jf_iadd hX dX7_addLamp_41 ?_
      refine jf_putI hX trivial ck_X7 9 wfl_405 (by decide) rfl rfl rfl dX7_addLamp_42 (fun u5 => ?_)
      exact jf_vret hX rfl (by decide) (by decide) dX7_addLamp_45
set_option maxRecDepth 20000 in
def gX7_addSpan_7 (N : Nat)   : Nat → Nat → Int32 → Int32 → Int32 → SG → Option (Unit × SG)
  | 0, _, _, _, _, _ => none
  | n + 1, x0, x1, x3, x4, u => if x3 < x4 then (some ((), u))
  else (if zK u x0 = 22 then (if (nI (zN u x0)) ≤ x4 then (some ((), u))
  else (if zK u x0 = 22 then if x4 < 0 ∨ zN u x0 ≤ x4.toNatClampNeg then none else (if zK u x0 = 22 then if x4 < 0 ∨ zN u x0 ≤ x4.toNatClampNeg then none else bs (sI u x0 x4.toNatClampNeg ((zI u x0 x4.toNatClampNeg) ||| ((1 : Int32) <<< (x1 &&& 31)))) fun u1 => ((gX7_addSpan_7 N  n) x0 x1 x3 (x4 + (1 : Int32)) u1) else none) else none)) else none)
set_option maxRecDepth 20000 in
set_option maxHeartbeats 4000000 in
theorem jgX7_addSpan_7   {X : XT} (hX : Cx X yX7_addSpan cX7_addSpan 5 none 2 0 0) (N : Nat)  : ∀ (n : Nat) (x0 : Nat) (x1 : Int32) (x3 : Int32) (x4 : Int32) (u : SG), JF X True 5 0 0 (jQ X vU 0 0) 7 [(0, .ref x0), (1, .int x1), (3, .int x3), (4, .int x4)] [] u (gX7_addSpan_7 N   n x0 x1 x3 x4 u) := by
  intro n
  induction n with
  | zero => intros; intro r u9 h9; exact absurd h9 (by simp [gX7_addSpan_7])
  | succ n ih =>
    intro x0 x1 x3 x4 u
    have hrec7 := ih
    rw [gX7_addSpan_7]
    refine jf_iload hX dX7_addSpan_7 3 rfl ?_
    refine jf_iload_n hX dX7_addSpan_9 2 rfl ?_
    refine jf_icmp_gt (tgt := 36) hX dX7_addSpan_10 (by decide) ?_ ?_
    · exact jf_vret hX rfl (by decide) (by decide) dX7_addSpan_36
    · refine jf_iload hX dX7_addSpan_13 3 rfl ?_
      refine jf_aload_n hX dX7_addSpan_15 0 rfl ?_
      refine jf_alen hX 22 1 (by decide) (fun _ => rfl) dX7_addSpan_16 ?_
      refine jf_icmp_ge (tgt := 36) hX dX7_addSpan_17 (by decide) ?_ ?_
      · exact jf_vret hX rfl (by decide) (by decide) dX7_addSpan_36
      · refine jf_aload_n hX dX7_addSpan_20 0 rfl ?_
        refine jf_iload hX dX7_addSpan_21 3 rfl ?_
        refine jf_dup2_11 hX dX7_addSpan_23 rfl rfl ?_
        refine jf_iald hX dX7_addSpan_24 ?_
        refine jf_iconst (v := 1) hX dX7_addSpan_25 (by decide) ?_
        refine jf_iload_n hX dX7_addSpan_26 1 rfl ?_
        refine jf_ishl hX dX7_addSpan_27 ?_
        refine jf_ior hX dX7_addSpan_28 ?_
        refine jf_iast hX trivial dX7_addSpan_29 (fun u1 => ?_)
        refine jf_iinc (v := 1) (lv' := [(4, .int (x4 + (1 : Int32))), (0, .ref x0), (1, .int x1), (3, .int x3)]) hX dX7_addSpan_30 3 rfl (by decide) (by decide) rfl ?_
        refine jf_goto (tgt := 7) hX dX7_addSpan_33 (by decide) ?_
        refine jf_lv [1, 2, 3, 0] rfl ?_
        exact hrec7 x0 x1 x3 (x4 + (1 : Int32)) u1
set_option maxRecDepth 20000 in
def fX7_addSpan (N : Nat)  (p1 : Nat) (p2 : Int32) (p3 : Int32) (p4 : Int32) (u : SG) : Option (Unit × SG) := cl (fJ9_max_7cf53 N (0 : Int32) p3 u) fun r1 u2 => (gX7_addSpan_7 N  N p1 p2 p4 r1 u2)
set_option maxRecDepth 20000 in
set_option maxHeartbeats 4000000 in
theorem kX7_addSpan  (N : Nat)  (l : Launch) (D : va_G) (cT : Nat → ClassId) (z0 : Nat) (ks : Nat × Nat) (p1 : Nat) (p2 : Int32) (p3 : Int32) (p4 : Int32) (u : SG) : Ct l D cT z0 ks yX7_addSpan cX7_addSpan 5 none 2 0 0 vU [.ref p1, .int p2, .int p3, .int p4] u (fX7_addSpan N  p1 p2 p3 p4 u) := by
  unfold fX7_addSpan
  refine ct_of (by decide +kernel) (Nat.le_of_ble_eq_true rfl) (fun p e R s m args below meth c hX => ?_)
  show JF _ True 5 0 0 _ 0 [(0, .ref p1), (1, .int p2), (2, .int p3), (3, .int p4)] [] u _
  refine jf_iconst (v := 0) hX dX7_addSpan_0 (by decide) ?_
  refine jf_iload_n hX dX7_addSpan_1 2 rfl ?_
  refine jf_callS (As := [.int (0 : Int32), .int p3]) (st := []) hX mo_J9_max_7cf53 wml_600 wstat_396 rfl (fun l D cT z0 ks => kJ9_max_7cf53 N l D cT z0 ks (0 : Int32) p3 u) (by decide) (by decide) (by decide) (by decide) (Nat.le_of_ble_eq_true rfl) rfl rfl dX7_addSpan_2 (fun r1 u2 => ?_)
  refine jf_istore (lv' := [(4, .int r1), (0, .ref p1), (1, .int p2), (2, .int p3), (3, .int p4)]) hX dX7_addSpan_5 (by decide) rfl ?_
  refine jf_lv [1, 2, 4, 0] rfl ?_
  exact jgX7_addSpan_7 hX N  N p1 p2 p4 r1 u2
set_option maxRecDepth 20000 in
def fX7_addWork (N : Nat)  (a0 : Nat) (p1 : Int32) (p2 : Int32) (p3 : Int32) (u : SG) : Option (Unit × SG) := if zK u a0 = 8 then (if zK u a0 = 8 then bs (sI u a0 8 ((zI u a0 8) + (1 : Int32))) fun u1 => (if zK u1 a0 = 8 then (Option.bind (zR u1 a0 4) fun q2 => (cl (fX7_addSpan N q2 p1 p2 p3 u1) fun r3 u4 => (some ((), u4)))) else none) else none) else none
set_option maxRecDepth 20000 in
set_option maxHeartbeats 4000000 in
theorem kX7_addWork  (N : Nat)  (l : Launch) (D : va_G) (cT : Nat → ClassId) (z0 : Nat) (ks : Nat × Nat) (a0 : Nat) (p1 : Int32) (p2 : Int32) (p3 : Int32) (u : SG) : Ct l D cT z0 ks yX7_addWork cX7_addWork 4 none 3 0 0 vU [.ref a0, .int p1, .int p2, .int p3] u (fX7_addWork N  a0 p1 p2 p3 u) := by
  unfold fX7_addWork
  refine ct_of (by decide +kernel) (Nat.le_of_ble_eq_true rfl) (fun p e R s m args below meth c hX => ?_)
  show JF _ True 4 0 0 _ 0 [(0, .ref a0), (1, .int p1), (2, .int p2), (3, .int p3)] [] u _
  refine jf_aload_n hX dX7_addWork_0 0 rfl ?_
  refine jf_dup hX dX7_addWork_1 rfl ?_
  refine jf_getI hX ck_X7 8 wfl_571 (by decide) rfl dX7_addWork_2 ?_
  refine jf_iconst (v := 1) hX dX7_addWork_5 (by decide) ?_
  refine jf_iadd hX dX7_addWork_6 ?_
  refine jf_putI hX trivial ck_X7 8 wfl_571 (by decide) rfl rfl rfl dX7_addWork_7 (fun u1 => ?_)
  refine jf_aload_n hX dX7_addWork_10 0 rfl ?_
  refine jf_getR hX ck_X7 4 wfl_402 (by decide) rfl dX7_addWork_11 ?_
  refine jf_nn (fun q2 => ?_)
  refine jf_iload_n hX dX7_addWork_14 1 rfl ?_
  refine jf_iload_n hX dX7_addWork_15 2 rfl ?_
  refine jf_iload_n hX dX7_addWork_16 3 rfl ?_
  refine jf_callS (As := [.ref q2, .int p1, .int p2, .int p3]) (st := []) hX mo_X7_addSpan wml_601 wstat_602 rfl (fun l D cT z0 ks => kX7_addSpan N l D cT z0 ks q2 p1 p2 p3 u1) (by decide) (by decide) (by decide) (by decide) (Nat.le_of_ble_eq_true rfl) rfl rfl dX7_addWork_17 (fun r3 u4 => ?_)
  exact jf_vret hX rfl (by decide) (by decide) dX7_addWork_20
set_option maxRecDepth 20000 in
def fX7_addLit (N : Nat)  (a0 : Nat) (p1 : Int32) (p2 : Int32) (p3 : Int32) (u : SG) : Option (Unit × SG) := if zK u a0 = 8 then (if zK u a0 = 8 then bs (sI u a0 10 ((zI u a0 10) + (1 : Int32))) fun u1 => (if zK u1 a0 = 8 then (Option.bind (zR u1 a0 5) fun q2 => (cl (fX7_addSpan N q2 p1 p2 p3 u1) fun r3 u4 => (some ((), u4)))) else none) else none) else none
set_option maxRecDepth 20000 in
set_option maxHeartbeats 4000000 in
theorem kX7_addLit  (N : Nat)  (l : Launch) (D : va_G) (cT : Nat → ClassId) (z0 : Nat) (ks : Nat × Nat) (a0 : Nat) (p1 : Int32) (p2 : Int32) (p3 : Int32) (u : SG) : Ct l D cT z0 ks yX7_addLit cX7_addLit 4 none 3 0 0 vU [.ref a0, .int p1, .int p2, .int p3] u (fX7_addLit N  a0 p1 p2 p3 u) := by
  unfold fX7_addLit
  refine ct_of (by decide +kernel) (Nat.le_of_ble_eq_true rfl) (fun p e R s m args below meth c hX => ?_)
  show JF _ True 4 0 0 _ 0 [(0, .ref a0), (1, .int p1), (2, .int p2), (3, .int p3)] [] u _
  refine jf_aload_n hX dX7_addLit_0 0 rfl ?_
  refine jf_dup hX dX7_addLit_1 rfl ?_
  refine jf_getI hX ck_X7 10 wfl_572 (by decide) rfl dX7_addLit_2 ?_
  refine jf_iconst (v := 1) hX dX7_addLit_5 (by decide) ?_
  refine jf_iadd hX dX7_addLit_6 ?_
  refine jf_putI hX trivial ck_X7 10 wfl_572 (by decide) rfl rfl rfl dX7_addLit_7 (fun u1 => ?_)
  refine jf_aload_n hX dX7_addLit_10 0 rfl ?_
  refine jf_getR hX ck_X7 5 wfl_388 (by decide) rfl dX7_addLit_11 ?_
  refine jf_nn (fun q2 => ?_)
  refine jf_iload_n hX dX7_addLit_14 1 rfl ?_
  refine jf_iload_n hX dX7_addLit_15 2 rfl ?_
  refine jf_iload_n hX dX7_addLit_16 3 rfl ?_
  refine jf_callS (As := [.ref q2, .int p1, .int p2, .int p3]) (st := []) hX mo_X7_addSpan wml_601 wstat_602 rfl (fun l D cT z0 ks => kX7_addSpan N l D cT z0 ks q2 p1 p2 p3 u1) (by decide) (by decide) (by decide) (by decide) (Nat.le_of_ble_eq_true rfl) rfl rfl dX7_addLit_17 (fun r3 u4 => ?_)
  exact jf_vret hX rfl (by decide) (by decide) dX7_addLit_20
set_option maxRecDepth 20000 in
def fX8_init (N : Nat)  (a0 : Nat) (p1 : Nat) (u : SG) : Option (Unit × SG) := if zK u a0 = 9 then bs (sR u a0 0 (some p1)) fun u1 => (some ((), u1)) else none
set_option maxRecDepth 20000 in
set_option maxHeartbeats 4000000 in
theorem kX8_init  (N : Nat)  (l : Launch) (D : va_G) (cT : Nat → ClassId) (z0 : Nat) (ks : Nat × Nat) (a0 : Nat) (p1 : Nat) (u : SG) : Ct l D cT z0 ks yX8_init cX8_init 2 none 1 0 0 vU [.ref a0, .ref p1] u (fX8_init N  a0 p1 u) := by
  unfold fX8_init
  refine ct_of (by decide +kernel) (Nat.le_of_ble_eq_true rfl) (fun p e R s m args below meth c hX => ?_)
  show JF _ True 2 0 0 _ 0 [(0, .ref a0), (1, .ref p1)] [] u _
  refine jf_aload_n hX dX8_init_0 0 rfl ?_
  refine jf_objInit hX wml_603 winst_17 wcode_18 (by decide) (Nat.le_of_ble_eq_true rfl) dX8_init_1 ?_
  refine jf_aload_n hX dX8_init_4 0 rfl ?_
  refine jf_aload_n hX dX8_init_5 1 rfl ?_
  refine jf_putRF (v := some p1) hX trivial ck_X8 0 wfl_604 (by decide) rfl rfl rfl rfl rfl dX8_init_6 (fun u1 => ?_)
  exact jf_vret hX rfl (by decide) (by decide) dX8_init_9
set_option maxRecDepth 20000 in
def fX8_isClause (N : Nat)  (p1 : Int32) (u : SG) : Option (Int32 × SG) := if p1 = 0 then (some ((1 : Int32), u))
  else (if p1 < (13 : Int32) then (some ((0 : Int32), u))
  else (if (16 : Int32) < p1 then (some ((0 : Int32), u))
  else (some ((1 : Int32), u))))
set_option maxRecDepth 20000 in
set_option maxHeartbeats 4000000 in
theorem kX8_isClause  (N : Nat)  (l : Launch) (D : va_G) (cT : Nat → ClassId) (z0 : Nat) (ks : Nat × Nat) (p1 : Int32) (u : SG) : Ct l D cT z0 ks yX8_isClause cX8_isClause 1 (some .boolean) 1 0 0 vI [.int p1] u (fX8_isClause N  p1 u) := by
  unfold fX8_isClause
  refine ct_of (by decide +kernel) (Nat.le_of_ble_eq_true rfl) (fun p e R s m args below meth c hX => ?_)
  show JF _ True 1 0 0 _ 0 [(0, .int p1)] [] u _
  refine jf_iload_n hX dX8_isClause_0 0 rfl ?_
  refine jf_if_eq (tgt := 16) hX dX8_isClause_1 (by decide) ?_ ?_
  · refine jf_iconst (v := 1) hX dX8_isClause_16 (by decide) ?_
    refine jf_goto (tgt := 21) hX dX8_isClause_17 (by decide) ?_
    exact jf_zretc hX rfl (by decide) (by decide) (by decide) dX8_isClause_21
  · refine jf_iload_n hX dX8_isClause_4 0 rfl ?_
    refine jf_bipush (v := 13) hX dX8_isClause_5 (by decide) ?_
    refine jf_icmp_lt (tgt := 20) hX dX8_isClause_7 (by decide) ?_ ?_
    · refine jf_iconst (v := 0) hX dX8_isClause_20 (by decide) ?_
      exact jf_zretc hX rfl (by decide) (by decide) (by decide) dX8_isClause_21
    · refine jf_iload_n hX dX8_isClause_10 0 rfl ?_
      refine jf_bipush (v := 16) hX dX8_isClause_11 (by decide) ?_
      refine jf_icmp_gt (tgt := 20) hX dX8_isClause_13 (by decide) ?_ ?_
      · refine jf_iconst (v := 0) hX dX8_isClause_20 (by decide) ?_
        exact jf_zretc hX rfl (by decide) (by decide) (by decide) dX8_isClause_21
      · refine jf_iconst (v := 1) hX dX8_isClause_16 (by decide) ?_
        refine jf_goto (tgt := 21) hX dX8_isClause_17 (by decide) ?_
        exact jf_zretc hX rfl (by decide) (by decide) (by decide) dX8_isClause_21
set_option maxRecDepth 20000 in
def fX8_isFull (N : Nat)  (p1 : Nat) (p2 : Int32) (u : SG) : Option (Int32 × SG) := if p2 = (0 : Int32) then (if zK u p1 = 8 then (if (zI u p1 7) < (5 : Int32) then (some ((0 : Int32), u))
  else (some ((1 : Int32), u))) else none)
  else if p2 = (14 : Int32) then (if zK u p1 = 8 then (if (zI u p1 8) < (8 : Int32) then (some ((0 : Int32), u))
  else (some ((1 : Int32), u))) else none)
  else if p2 = (15 : Int32) then (if zK u p1 = 8 then (if (zI u p1 9) < (5 : Int32) then (some ((0 : Int32), u))
  else (some ((1 : Int32), u))) else none)
  else if p2 = (16 : Int32) then (if zK u p1 = 8 then (if (zI u p1 10) < (8 : Int32) then (some ((0 : Int32), u))
  else (some ((1 : Int32), u))) else none)
  else (some ((0 : Int32), u))
set_option maxRecDepth 20000 in
set_option maxHeartbeats 4000000 in
theorem kX8_isFull  (N : Nat)  (l : Launch) (D : va_G) (cT : Nat → ClassId) (z0 : Nat) (ks : Nat × Nat) (p1 : Nat) (p2 : Int32) (u : SG) : Ct l D cT z0 ks yX8_isFull cX8_isFull 2 (some .boolean) 1 0 0 vI [.ref p1, .int p2] u (fX8_isFull N  p1 p2 u) := by
  unfold fX8_isFull
  refine ct_of (by decide +kernel) (Nat.le_of_ble_eq_true rfl) (fun p e R s m args below meth c hX => ?_)
  show JF _ True 2 0 0 _ 0 [(0, .ref p1), (1, .int p2)] [] u _
  refine jf_iload_n hX dX8_isFull_0 1 rfl ?_
  refine jf_lcase (k := 0) (kv := 0) (tgt := 44) hX dX8_isFull_1 rfl rfl rfl (by decide) ?_ (fun hn0 => ?_)
  · refine jf_aload_n hX dX8_isFull_44 0 rfl ?_
    refine jf_getI hX ck_X7 7 wfl_605 (by decide) rfl dX8_isFull_45 ?_
    refine jf_iconst (v := 5) hX dX8_isFull_48 (by decide) ?_
    refine jf_icmp_lt (tgt := 56) hX dX8_isFull_49 (by decide) ?_ ?_
    · refine jf_iconst (v := 0) hX dX8_isFull_56 (by decide) ?_
      exact jf_zretc hX rfl (by decide) (by decide) (by decide) dX8_isFull_57
    · refine jf_iconst (v := 1) hX dX8_isFull_52 (by decide) ?_
      refine jf_goto (tgt := 57) hX dX8_isFull_53 (by decide) ?_
      exact jf_zretc hX rfl (by decide) (by decide) (by decide) dX8_isFull_57
  refine jf_lcase (k := 14) (kv := 14) (tgt := 58) hX dX8_isFull_1 rfl rfl rfl (by decide) ?_ (fun hn14 => ?_)
  · refine jf_aload_n hX dX8_isFull_58 0 rfl ?_
    refine jf_getI hX ck_X7 8 wfl_606 (by decide) rfl dX8_isFull_59 ?_
    refine jf_bipush (v := 8) hX dX8_isFull_62 (by decide) ?_
    refine jf_icmp_lt (tgt := 71) hX dX8_isFull_64 (by decide) ?_ ?_
    · refine jf_iconst (v := 0) hX dX8_isFull_71 (by decide) ?_
      exact jf_zretc hX rfl (by decide) (by decide) (by decide) dX8_isFull_72
    · refine jf_iconst (v := 1) hX dX8_isFull_67 (by decide) ?_
      refine jf_goto (tgt := 72) hX dX8_isFull_68 (by decide) ?_
      exact jf_zretc hX rfl (by decide) (by decide) (by decide) dX8_isFull_72
  refine jf_lcase (k := 15) (kv := 15) (tgt := 73) hX dX8_isFull_1 rfl rfl rfl (by decide) ?_ (fun hn15 => ?_)
  · refine jf_aload_n hX dX8_isFull_73 0 rfl ?_
    refine jf_getI hX ck_X7 9 wfl_607 (by decide) rfl dX8_isFull_74 ?_
    refine jf_iconst (v := 5) hX dX8_isFull_77 (by decide) ?_
    refine jf_icmp_lt (tgt := 85) hX dX8_isFull_78 (by decide) ?_ ?_
    · refine jf_iconst (v := 0) hX dX8_isFull_85 (by decide) ?_
      exact jf_zretc hX rfl (by decide) (by decide) (by decide) dX8_isFull_86
    · refine jf_iconst (v := 1) hX dX8_isFull_81 (by decide) ?_
      refine jf_goto (tgt := 86) hX dX8_isFull_82 (by decide) ?_
      exact jf_zretc hX rfl (by decide) (by decide) (by decide) dX8_isFull_86
  refine jf_lcase (k := 16) (kv := 16) (tgt := 87) hX dX8_isFull_1 rfl rfl rfl (by decide) ?_ (fun hn16 => ?_)
  · refine jf_aload_n hX dX8_isFull_87 0 rfl ?_
    refine jf_getI hX ck_X7 10 wfl_608 (by decide) rfl dX8_isFull_88 ?_
    refine jf_bipush (v := 8) hX dX8_isFull_91 (by decide) ?_
    refine jf_icmp_lt (tgt := 100) hX dX8_isFull_93 (by decide) ?_ ?_
    · refine jf_iconst (v := 0) hX dX8_isFull_100 (by decide) ?_
      exact jf_zretc hX rfl (by decide) (by decide) (by decide) dX8_isFull_101
    · refine jf_iconst (v := 1) hX dX8_isFull_96 (by decide) ?_
      refine jf_goto (tgt := 101) hX dX8_isFull_97 (by decide) ?_
      exact jf_zretc hX rfl (by decide) (by decide) (by decide) dX8_isFull_101
  refine jf_ldef (tgt := 102) hX dX8_isFull_1 rfl (by show Op.lookupswitch.offset [(0, 43), (14, 57), (15, 72), (16, 86)] 101 p2.toInt = 101; rw [lv_osw (a := 0) hn0 rfl, lv_osw (a := 14) hn14 rfl, lv_osw (a := 15) hn15 rfl, lv_osw (a := 16) hn16 rfl]; rfl) (by decide) ?_
  refine jf_iconst (v := 0) hX dX8_isFull_102 (by decide) ?_
  exact jf_zretc hX rfl (by decide) (by decide) (by decide) dX8_isFull_103
set_option maxRecDepth 20000 in
def gX9_takeNumber_31 (N : Nat)   (x0 : Nat) (u : SG) : Option (Int32 × SG) := if zK u x0 = 10 then cl (fX9_refuse N x0 (1 : Int32) u) fun r1 u2 => (some ((-1 : Int32), u2)) else none
set_option maxRecDepth 20000 in
set_option maxHeartbeats 4000000 in
theorem jgX9_takeNumber_31   {X : XT} (hX : Cx X yX9_takeNumber cX9_takeNumber 4 (some .int) 2 0 0) (N : Nat)  (x0 : Nat) (u : SG) : JF X True 4 0 0 (jQ X vI 0 0) 31 [(0, .ref x0)] [] u (gX9_takeNumber_31 N   x0 u) := by
  unfold gX9_takeNumber_31
  refine jf_aload_n hX dX9_takeNumber_31 0 rfl ?_
  refine jf_iconst (v := 1) hX dX9_takeNumber_32 (by decide) ?_
  refine jf_callV (As := [.int (1 : Int32)]) (st := []) hX mo_X9_refuse wml_545 winst_530 wsel_531 9 ck_X9 rfl (fun l D cT z0 ks => kX9_refuse N l D cT z0 ks x0 (1 : Int32) u) (by decide) (by decide) (by decide) (by decide) (Nat.le_of_ble_eq_true rfl) rfl rfl dX9_takeNumber_33 (fun r1 u2 => ?_)
  refine jf_pop hX dX9_takeNumber_36 rfl ?_
  refine jf_iconst (v := -1) hX dX9_takeNumber_37 (by decide) ?_
  exact jf_iret hX rfl (by decide) (by decide) dX9_takeNumber_38
set_option maxRecDepth 20000 in
def fX9_takeNumber (N : Nat)  (a0 : Nat) (p1 : Int32) (p2 : Int32) (u : SG) : Option (Int32 × SG) := if zK u a0 = 10 then (bs (zI u a0 9) fun v1 => (if zK u a0 = 10 then (if (zI u a0 8) = (1 : Int32) then (if v1 < p1 then (gX9_takeNumber_31 N  a0 u)
  else (if v1 ≤ p2 then (if zK u a0 = 10 then cl (fX9_step N a0 u) fun r2 u3 => (some (v1, u3)) else none)
  else (gX9_takeNumber_31 N  a0 u)))
  else (if zK u a0 = 10 then cl (fX9_refuse N a0 (0 : Int32) u) fun r4 u5 => (some ((-1 : Int32), u5)) else none)) else none)) else none
set_option maxRecDepth 20000 in
set_option maxHeartbeats 4000000 in
theorem kX9_takeNumber  (N : Nat)  (l : Launch) (D : va_G) (cT : Nat → ClassId) (z0 : Nat) (ks : Nat × Nat) (a0 : Nat) (p1 : Int32) (p2 : Int32) (u : SG) : Ct l D cT z0 ks yX9_takeNumber cX9_takeNumber 4 (some .int) 2 0 0 vI [.ref a0, .int p1, .int p2] u (fX9_takeNumber N  a0 p1 p2 u) := by
  unfold fX9_takeNumber
  refine ct_of (by decide +kernel) (Nat.le_of_ble_eq_true rfl) (fun p e R s m args below meth c hX => ?_)
  show JF _ True 4 0 0 _ 0 [(0, .ref a0), (1, .int p1), (2, .int p2)] [] u _
  refine jf_aload_n hX dX9_takeNumber_0 0 rfl ?_
  refine jf_getI hX ck_X9 9 wfl_517 (by decide) rfl dX9_takeNumber_1 ?_
  refine jf_nmI (fun v1 => ?_)
  refine jf_istore_n (lv' := [(3, .int v1), (0, .ref a0), (1, .int p1), (2, .int p2)]) hX dX9_takeNumber_4 rfl (by decide) rfl ?_
  refine jf_aload_n hX dX9_takeNumber_5 1 rfl ?_
  refine jf_getI hX ck_X9 8 wfl_516 (by decide) rfl dX9_takeNumber_6 ?_
  refine jf_iconst (v := 1) hX dX9_takeNumber_9 (by decide) ?_
  refine jf_icmp_eq (tgt := 21) hX dX9_takeNumber_10 (by decide) ?_ ?_
  · refine jf_iload_n hX dX9_takeNumber_21 0 rfl ?_
    refine jf_iload_n hX dX9_takeNumber_22 2 rfl ?_
    refine jf_icmp_lt (tgt := 31) hX dX9_takeNumber_23 (by decide) ?_ ?_
    · refine jf_lv [1] rfl ?_
      exact jgX9_takeNumber_31 hX N  a0 u
    · refine jf_iload_n hX dX9_takeNumber_26 0 rfl ?_
      refine jf_iload_n hX dX9_takeNumber_27 3 rfl ?_
      refine jf_icmp_le (tgt := 39) hX dX9_takeNumber_28 (by decide) ?_ ?_
      · refine jf_aload_n hX dX9_takeNumber_39 1 rfl ?_
        refine jf_callV (As := []) (st := []) hX mo_X9_step wml_524 winst_525 wsel_526 9 ck_X9 rfl (fun l D cT z0 ks => kX9_step N l D cT z0 ks a0 u) (by decide) (by decide) (by decide) (by decide) (Nat.le_of_ble_eq_true rfl) rfl rfl dX9_takeNumber_40 (fun r2 u3 => ?_)
        refine jf_iload_n hX dX9_takeNumber_43 0 rfl ?_
        exact jf_iret hX rfl (by decide) (by decide) dX9_takeNumber_44
      · refine jf_lv [1] rfl ?_
        exact jgX9_takeNumber_31 hX N  a0 u
  · refine jf_aload_n hX dX9_takeNumber_13 1 rfl ?_
    refine jf_iconst (v := 0) hX dX9_takeNumber_14 (by decide) ?_
    refine jf_callV (As := [.int (0 : Int32)]) (st := []) hX mo_X9_refuse wml_545 winst_530 wsel_531 9 ck_X9 rfl (fun l D cT z0 ks => kX9_refuse N l D cT z0 ks a0 (0 : Int32) u) (by decide) (by decide) (by decide) (by decide) (Nat.le_of_ble_eq_true rfl) rfl rfl dX9_takeNumber_15 (fun r4 u5 => ?_)
    refine jf_pop hX dX9_takeNumber_18 rfl ?_
    refine jf_iconst (v := -1) hX dX9_takeNumber_19 (by decide) ?_
    exact jf_iret hX rfl (by decide) (by decide) dX9_takeNumber_20
set_option maxRecDepth 20000 in
def fX8_readHours (N : Nat)  (a0 : Nat) (p1 : Nat) (u : SG) : Option (Int32 × SG) := if zK u a0 = 9 then (Option.bind (zR u a0 0) fun q1 => (if zK u q1 = 10 then cl (fX9_takeNumber N q1 (2 : Int32) (10 : Int32) u) fun r2 u3 => (if r2 = (-1 : Int32) then (some ((0 : Int32), u3))
  else (if zK u3 p1 = 8 then bs (sI u3 p1 6 r2) fun u4 => (some ((1 : Int32), u4)) else none)) else none)) else none
set_option maxRecDepth 20000 in
set_option maxHeartbeats 4000000 in
theorem kX8_readHours  (N : Nat)  (l : Launch) (D : va_G) (cT : Nat → ClassId) (z0 : Nat) (ks : Nat × Nat) (a0 : Nat) (p1 : Nat) (u : SG) : Ct l D cT z0 ks yX8_readHours cX8_readHours 3 (some .boolean) 3 0 0 vI [.ref a0, .ref p1] u (fX8_readHours N  a0 p1 u) := by
  unfold fX8_readHours
  refine ct_of (by decide +kernel) (Nat.le_of_ble_eq_true rfl) (fun p e R s m args below meth c hX => ?_)
  show JF _ True 3 0 0 _ 0 [(0, .ref a0), (1, .ref p1)] [] u _
  refine jf_aload_n hX dX8_readHours_0 0 rfl ?_
  refine jf_getR hX ck_X8 0 wfl_604 (by decide) rfl dX8_readHours_1 ?_
  refine jf_nn (fun q1 => ?_)
  refine jf_iconst (v := 2) hX dX8_readHours_4 (by decide) ?_
  refine jf_bipush (v := 10) hX dX8_readHours_5 (by decide) ?_
  refine jf_callV (As := [.int (2 : Int32), .int (10 : Int32)]) (st := []) hX mo_X9_takeNumber wml_609 winst_610 wsel_611 9 ck_X9 rfl (fun l D cT z0 ks => kX9_takeNumber N l D cT z0 ks q1 (2 : Int32) (10 : Int32) u) (by decide) (by decide) (by decide) (by decide) (Nat.le_of_ble_eq_true rfl) rfl rfl dX8_readHours_7 (fun r2 u3 => ?_)
  refine jf_istore_n (lv' := [(2, .int r2), (0, .ref a0), (1, .ref p1)]) hX dX8_readHours_10 rfl (by decide) rfl ?_
  refine jf_iload_n hX dX8_readHours_11 0 rfl ?_
  refine jf_iconst (v := -1) hX dX8_readHours_12 (by decide) ?_
  refine jf_icmp_ne (tgt := 18) hX dX8_readHours_13 (by decide) ?_ ?_
  · refine jf_aload_n hX dX8_readHours_18 2 rfl ?_
    refine jf_iload_n hX dX8_readHours_19 0 rfl ?_
    refine jf_putI hX trivial ck_X7 6 wfl_612 (by decide) rfl rfl rfl dX8_readHours_20 (fun u4 => ?_)
    refine jf_iconst (v := 1) hX dX8_readHours_23 (by decide) ?_
    exact jf_zretc hX rfl (by decide) (by decide) (by decide) dX8_readHours_24
  · refine jf_iconst (v := 0) hX dX8_readHours_16 (by decide) ?_
    exact jf_zretc hX rfl (by decide) (by decide) (by decide) dX8_readHours_17
set_option maxRecDepth 20000 in
def fX8_readPerson (N : Nat)  (a0 : Nat) (p1 : Nat) (u : SG) : Option (Int32 × SG) := if zK u a0 = 9 then (Option.bind (zR u a0 0) fun q1 => (if zK u p1 = 8 then (if zK u q1 = 10 then cl (fX9_takeNumber N q1 (0 : Int32) (zI u p1 6) u) fun r2 u3 => (if r2 = (-1 : Int32) then (some ((0 : Int32), u3))
  else (if zK u3 a0 = 9 then (Option.bind (zR u3 a0 0) fun q4 => (if zK u3 q4 = 10 then cl (fX9_takeNumber N q4 (0 : Int32) (60 : Int32) u3) fun r5 u6 => (if r5 = (-1 : Int32) then (some ((0 : Int32), u6))
  else (if zK u6 p1 = 8 then cl (fX7_addPerson N p1 r2 r5 u6) fun r7 u8 => (some ((1 : Int32), u8)) else none)) else none)) else none)) else none) else none)) else none
set_option maxRecDepth 20000 in
set_option maxHeartbeats 4000000 in
theorem kX8_readPerson  (N : Nat)  (l : Launch) (D : va_G) (cT : Nat → ClassId) (z0 : Nat) (ks : Nat × Nat) (a0 : Nat) (p1 : Nat) (u : SG) : Ct l D cT z0 ks yX8_readPerson cX8_readPerson 4 (some .boolean) 3 0 0 vI [.ref a0, .ref p1] u (fX8_readPerson N  a0 p1 u) := by
  unfold fX8_readPerson
  refine ct_of (by decide +kernel) (Nat.le_of_ble_eq_true rfl) (fun p e R s m args below meth c hX => ?_)
  show JF _ True 4 0 0 _ 0 [(0, .ref a0), (1, .ref p1)] [] u _
  refine jf_aload_n hX dX8_readPerson_0 0 rfl ?_
  refine jf_getR hX ck_X8 0 wfl_604 (by decide) rfl dX8_readPerson_1 ?_
  refine jf_nn (fun q1 => ?_)
  refine jf_iconst (v := 0) hX dX8_readPerson_4 (by decide) ?_
  refine jf_aload_n hX dX8_readPerson_5 1 rfl ?_
  refine jf_getI hX ck_X7 6 wfl_612 (by decide) rfl dX8_readPerson_6 ?_
  refine jf_callV (As := [.int (0 : Int32), .int (zI u p1 6)]) (st := []) hX mo_X9_takeNumber wml_609 winst_610 wsel_611 9 ck_X9 rfl (fun l D cT z0 ks => kX9_takeNumber N l D cT z0 ks q1 (0 : Int32) (zI u p1 6) u) (by decide) (by decide) (by decide) (by decide) (Nat.le_of_ble_eq_true rfl) rfl rfl dX8_readPerson_9 (fun r2 u3 => ?_)
  refine jf_istore_n (lv' := [(2, .int r2), (0, .ref a0), (1, .ref p1)]) hX dX8_readPerson_12 rfl (by decide) rfl ?_
  refine jf_iload_n hX dX8_readPerson_13 0 rfl ?_
  refine jf_iconst (v := -1) hX dX8_readPerson_14 (by decide) ?_
  refine jf_icmp_ne (tgt := 20) hX dX8_readPerson_15 (by decide) ?_ ?_
  · refine jf_aload_n hX dX8_readPerson_20 1 rfl ?_
    refine jf_getR hX ck_X8 0 wfl_604 (by decide) rfl dX8_readPerson_21 ?_
    refine jf_nn (fun q4 => ?_)
    refine jf_iconst (v := 0) hX dX8_readPerson_24 (by decide) ?_
    refine jf_bipush (v := 60) hX dX8_readPerson_25 (by decide) ?_
    refine jf_callV (As := [.int (0 : Int32), .int (60 : Int32)]) (st := []) hX mo_X9_takeNumber wml_609 winst_610 wsel_611 9 ck_X9 rfl (fun l D cT z0 ks => kX9_takeNumber N l D cT z0 ks q4 (0 : Int32) (60 : Int32) u3) (by decide) (by decide) (by decide) (by decide) (Nat.le_of_ble_eq_true rfl) rfl rfl dX8_readPerson_27 (fun r5 u6 => ?_)
    refine jf_istore_n (lv' := [(3, .int r5), (2, .int r2), (0, .ref a0), (1, .ref p1)]) hX dX8_readPerson_30 rfl (by decide) rfl ?_
    refine jf_iload_n hX dX8_readPerson_31 0 rfl ?_
    refine jf_iconst (v := -1) hX dX8_readPerson_32 (by decide) ?_
    refine jf_icmp_ne (tgt := 38) hX dX8_readPerson_33 (by decide) ?_ ?_
    · refine jf_aload_n hX dX8_readPerson_38 3 rfl ?_
      refine jf_iload_n hX dX8_readPerson_39 1 rfl ?_
      refine jf_iload_n hX dX8_readPerson_40 0 rfl ?_
      refine jf_callV (As := [.int r2, .int r5]) (st := []) hX mo_X7_addPerson wml_613 winst_614 wsel_615 7 ck_X7 rfl (fun l D cT z0 ks => kX7_addPerson N l D cT z0 ks p1 r2 r5 u6) (by decide) (by decide) (by decide) (by decide) (Nat.le_of_ble_eq_true rfl) rfl rfl dX8_readPerson_41 (fun r7 u8 => ?_)
      refine jf_iconst (v := 1) hX dX8_readPerson_44 (by decide) ?_
      exact jf_zretc hX rfl (by decide) (by decide) (by decide) dX8_readPerson_45
    · refine jf_iconst (v := 0) hX dX8_readPerson_36 (by decide) ?_
      exact jf_zretc hX rfl (by decide) (by decide) (by decide) dX8_readPerson_37
  · refine jf_iconst (v := 0) hX dX8_readPerson_18 (by decide) ?_
    exact jf_zretc hX rfl (by decide) (by decide) (by decide) dX8_readPerson_19
set_option maxRecDepth 20000 in
def gX8_readLamp_23 (N : Nat)   (x0 : Nat) (x1 : Nat) (s0 : Int32) (u : SG) : Option (Int32 × SG) := if zK u x0 = 9 then (Option.bind (zR u x0 0) fun q1 => (if zK u q1 = 10 then cl (fX9_takeNumber N q1 (0 : Int32) s0 u) fun r2 u3 => (if r2 = (-1 : Int32) then (some ((0 : Int32), u3))
  else (if zK u3 x0 = 9 then (Option.bind (zR u3 x0 0) fun q4 => (if zK u3 q4 = 10 then cl (fX9_takeNumber N q4 (1 : Int32) (60 : Int32) u3) fun r5 u6 => (if r5 = (-1 : Int32) then (some ((0 : Int32), u6))
  else (if zK u6 x1 = 8 then cl (fX7_addLamp N x1 r2 r5 u6) fun r7 u8 => (some ((1 : Int32), u8)) else none)) else none)) else none)) else none)) else none
set_option maxRecDepth 20000 in
set_option maxHeartbeats 4000000 in
theorem jgX8_readLamp_23   {X : XT} (hX : Cx X yX8_readLamp cX8_readLamp 5 (some .boolean) 3 0 0) (N : Nat)  (x0 : Nat) (x1 : Nat) (s0 : Int32) (u : SG) : JF X True 5 0 0 (jQ X vI 0 0) 23 [(0, .ref x0), (1, .ref x1)] [.int s0] u (gX8_readLamp_23 N   x0 x1 s0 u) := by
  unfold gX8_readLamp_23
  refine jf_istore_n (lv' := [(2, .int s0), (0, .ref x0), (1, .ref x1)]) hX dX8_readLamp_23 rfl (by decide) rfl ?_
  refine jf_aload_n hX dX8_readLamp_24 1 rfl ?_
  refine jf_getR hX ck_X8 0 wfl_604 (by decide) rfl dX8_readLamp_25 ?_
  refine jf_nn (fun q1 => ?_)
  refine jf_iconst (v := 0) hX dX8_readLamp_28 (by decide) ?_
  refine jf_iload_n hX dX8_readLamp_29 0 rfl ?_
  refine jf_callV (As := [.int (0 : Int32), .int s0]) (st := []) hX mo_X9_takeNumber wml_609 winst_610 wsel_611 9 ck_X9 rfl (fun l D cT z0 ks => kX9_takeNumber N l D cT z0 ks q1 (0 : Int32) s0 u) (by decide) (by decide) (by decide) (by decide) (Nat.le_of_ble_eq_true rfl) rfl rfl dX8_readLamp_30 (fun r2 u3 => ?_)
  refine jf_istore_n (lv' := [(3, .int r2), (2, .int s0), (0, .ref x0), (1, .ref x1)]) hX dX8_readLamp_33 rfl (by decide) rfl ?_
  refine jf_iload_n hX dX8_readLamp_34 0 rfl ?_
  refine jf_iconst (v := -1) hX dX8_readLamp_35 (by decide) ?_
  refine jf_icmp_ne (tgt := 41) hX dX8_readLamp_36 (by decide) ?_ ?_
  · refine jf_aload_n hX dX8_readLamp_41 2 rfl ?_
    refine jf_getR hX ck_X8 0 wfl_604 (by decide) rfl dX8_readLamp_42 ?_
    refine jf_nn (fun q4 => ?_)
    refine jf_iconst (v := 1) hX dX8_readLamp_45 (by decide) ?_
    refine jf_bipush (v := 60) hX dX8_readLamp_46 (by decide) ?_
    refine jf_callV (As := [.int (1 : Int32), .int (60 : Int32)]) (st := []) hX mo_X9_takeNumber wml_609 winst_610 wsel_611 9 ck_X9 rfl (fun l D cT z0 ks => kX9_takeNumber N l D cT z0 ks q4 (1 : Int32) (60 : Int32) u3) (by decide) (by decide) (by decide) (by decide) (Nat.le_of_ble_eq_true rfl) rfl rfl dX8_readLamp_48 (fun r5 u6 => ?_)
    refine jf_istore (lv' := [(4, .int r5), (3, .int r2), (2, .int s0), (0, .ref x0), (1, .ref x1)]) hX dX8_readLamp_51 (by decide) rfl ?_
    refine jf_iload hX dX8_readLamp_53 0 rfl ?_
    refine jf_iconst (v := -1) hX dX8_readLamp_55 (by decide) ?_
    refine jf_icmp_ne (tgt := 61) hX dX8_readLamp_56 (by decide) ?_ ?_
    · refine jf_aload_n hX dX8_readLamp_61 4 rfl ?_
      refine jf_iload_n hX dX8_readLamp_62 1 rfl ?_
      refine jf_iload hX dX8_readLamp_63 0 rfl ?_
      refine jf_callV (As := [.int r2, .int r5]) (st := []) hX mo_X7_addLamp wml_617 winst_618 wsel_619 7 ck_X7 rfl (fun l D cT z0 ks => kX7_addLamp N l D cT z0 ks x1 r2 r5 u6) (by decide) (by decide) (by decide) (by decide) (Nat.le_of_ble_eq_true rfl) rfl rfl dX8_readLamp_65 (fun r7 u8 => ?_)
      refine jf_iconst (v := 1) hX dX8_readLamp_68 (by decide) ?_
      exact jf_zretc hX rfl (by decide) (by decide) (by decide) dX8_readLamp_69
    · refine jf_iconst (v := 0) hX dX8_readLamp_59 (by decide) ?_
      exact jf_zretc hX rfl (by decide) (by decide) (by decide) dX8_readLamp_60
  · refine jf_iconst (v := 0) hX dX8_readLamp_39 (by decide) ?_
    exact jf_zretc hX rfl (by decide) (by decide) (by decide) dX8_readLamp_40
set_option maxRecDepth 20000 in
def fX8_readLamp (N : Nat)  (a0 : Nat) (p1 : Nat) (u : SG) : Option (Int32 × SG) := if zK u a0 = 9 then (Option.bind (zR u a0 0) fun q1 => (if zK u q1 = 10 then (if (zI u q1 9) = (9 : Int32) then (gX8_readLamp_23 N  a0 p1 (9 : Int32) u)
  else (if zK u p1 = 8 then (gX8_readLamp_23 N  a0 p1 ((zI u p1 7) - (1 : Int32)) u) else none)) else none)) else none
set_option maxRecDepth 20000 in
set_option maxHeartbeats 4000000 in
theorem kX8_readLamp  (N : Nat)  (l : Launch) (D : va_G) (cT : Nat → ClassId) (z0 : Nat) (ks : Nat × Nat) (a0 : Nat) (p1 : Nat) (u : SG) : Ct l D cT z0 ks yX8_readLamp cX8_readLamp 5 (some .boolean) 3 0 0 vI [.ref a0, .ref p1] u (fX8_readLamp N  a0 p1 u) := by
  unfold fX8_readLamp
  refine ct_of (by decide +kernel) (Nat.le_of_ble_eq_true rfl) (fun p e R s m args below meth c hX => ?_)
  show JF _ True 5 0 0 _ 0 [(0, .ref a0), (1, .ref p1)] [] u _
  refine jf_aload_n hX dX8_readLamp_0 0 rfl ?_
  refine jf_getR hX ck_X8 0 wfl_604 (by decide) rfl dX8_readLamp_1 ?_
  refine jf_nn (fun q1 => ?_)
  refine jf_getI hX ck_X9 9 wfl_616 (by decide) rfl dX8_readLamp_4 ?_
  refine jf_bipush (v := 9) hX dX8_readLamp_7 (by decide) ?_
  refine jf_icmp_ne (tgt := 17) hX dX8_readLamp_9 (by decide) ?_ ?_
  · refine jf_aload_n hX dX8_readLamp_17 1 rfl ?_
    refine jf_getI hX ck_X7 7 wfl_605 (by decide) rfl dX8_readLamp_18 ?_
    refine jf_iconst (v := 1) hX dX8_readLamp_21 (by decide) ?_
    refine jf_isub hX dX8_readLamp_22 ?_
    refine jf_lv [0, 1] rfl ?_
    exact jgX8_readLamp_23 hX N  a0 p1 ((zI u p1 7) - (1 : Int32)) u
  · refine jf_bipush (v := 9) hX dX8_readLamp_12 (by decide) ?_
    refine jf_goto (tgt := 23) hX dX8_readLamp_14 (by decide) ?_
    refine jf_lv [0, 1] rfl ?_
    exact jgX8_readLamp_23 hX N  a0 p1 (9 : Int32) u
set_option maxRecDepth 20000 in
def gX8_readSpan_17 (N : Nat)   (x0 : Nat) (x1 : Nat) (x2 : Int32) (s0 : Int32) (u : SG) : Option (Int32 × SG) := if zK u x0 = 9 then (Option.bind (zR u x0 0) fun q1 => (if zK u q1 = 10 then cl (fX9_takeNumber N q1 (0 : Int32) (s0 - (1 : Int32)) u) fun r2 u3 => (if r2 = (-1 : Int32) then (some ((0 : Int32), u3))
  else (if zK u3 x0 = 9 then (Option.bind (zR u3 x0 0) fun q4 => (if zK u3 x1 = 8 then (if zK u3 q4 = 10 then cl (fX9_takeNumber N q4 (0 : Int32) ((zI u3 x1 6) - (1 : Int32)) u3) fun r5 u6 => (if r5 = (-1 : Int32) then (some ((0 : Int32), u6))
  else (if zK u6 x0 = 9 then (Option.bind (zR u6 x0 0) fun q7 => (if zK u6 x1 = 8 then (if zK u6 q7 = 10 then cl (fX9_takeNumber N q7 r5 ((zI u6 x1 6) - (1 : Int32)) u6) fun r8 u9 => (if r8 = (-1 : Int32) then (some ((0 : Int32), u9))
  else (if x2 = (14 : Int32) then (if zK u9 x1 = 8 then cl (fX7_addWork N x1 r2 r5 r8 u9) fun r12 u13 => (some ((1 : Int32), u13)) else none)
  else (if zK u9 x1 = 8 then cl (fX7_addLit N x1 r2 r5 r8 u9) fun r10 u11 => (some ((1 : Int32), u11)) else none))) else none) else none)) else none)) else none) else none)) else none)) else none)) else none
set_option maxRecDepth 20000 in
set_option maxHeartbeats 4000000 in
theorem jgX8_readSpan_17   {X : XT} (hX : Cx X yX8_readSpan cX8_readSpan 7 (some .boolean) 4 0 0) (N : Nat)  (x0 : Nat) (x1 : Nat) (x2 : Int32) (s0 : Int32) (u : SG) : JF X True 7 0 0 (jQ X vI 0 0) 17 [(0, .ref x0), (1, .ref x1), (2, .int x2)] [.int s0] u (gX8_readSpan_17 N   x0 x1 x2 s0 u) := by
  unfold gX8_readSpan_17
  refine jf_istore_n (lv' := [(3, .int s0), (0, .ref x0), (1, .ref x1), (2, .int x2)]) hX dX8_readSpan_17 rfl (by decide) rfl ?_
  refine jf_aload_n hX dX8_readSpan_18 1 rfl ?_
  refine jf_getR hX ck_X8 0 wfl_604 (by decide) rfl dX8_readSpan_19 ?_
  refine jf_nn (fun q1 => ?_)
  refine jf_iconst (v := 0) hX dX8_readSpan_22 (by decide) ?_
  refine jf_iload_n hX dX8_readSpan_23 0 rfl ?_
  refine jf_iconst (v := 1) hX dX8_readSpan_24 (by decide) ?_
  refine jf_isub hX dX8_readSpan_25 ?_
  refine jf_callV (As := [.int (0 : Int32), .int (s0 - (1 : Int32))]) (st := []) hX mo_X9_takeNumber wml_609 winst_610 wsel_611 9 ck_X9 rfl (fun l D cT z0 ks => kX9_takeNumber N l D cT z0 ks q1 (0 : Int32) (s0 - (1 : Int32)) u) (by decide) (by decide) (by decide) (by decide) (Nat.le_of_ble_eq_true rfl) rfl rfl dX8_readSpan_26 (fun r2 u3 => ?_)
  refine jf_istore (lv' := [(4, .int r2), (3, .int s0), (0, .ref x0), (1, .ref x1), (2, .int x2)]) hX dX8_readSpan_29 (by decide) rfl ?_
  refine jf_iload hX dX8_readSpan_31 0 rfl ?_
  refine jf_iconst (v := -1) hX dX8_readSpan_33 (by decide) ?_
  refine jf_icmp_ne (tgt := 39) hX dX8_readSpan_34 (by decide) ?_ ?_
  · refine jf_aload_n hX dX8_readSpan_39 2 rfl ?_
    refine jf_getR hX ck_X8 0 wfl_604 (by decide) rfl dX8_readSpan_40 ?_
    refine jf_nn (fun q4 => ?_)
    refine jf_iconst (v := 0) hX dX8_readSpan_43 (by decide) ?_
    refine jf_aload_n hX dX8_readSpan_44 3 rfl ?_
    refine jf_getI hX ck_X7 6 wfl_612 (by decide) rfl dX8_readSpan_45 ?_
    refine jf_iconst (v := 1) hX dX8_readSpan_48 (by decide) ?_
    refine jf_isub hX dX8_readSpan_49 ?_
    refine jf_callV (As := [.int (0 : Int32), .int ((zI u3 x1 6) - (1 : Int32))]) (st := []) hX mo_X9_takeNumber wml_609 winst_610 wsel_611 9 ck_X9 rfl (fun l D cT z0 ks => kX9_takeNumber N l D cT z0 ks q4 (0 : Int32) ((zI u3 x1 6) - (1 : Int32)) u3) (by decide) (by decide) (by decide) (by decide) (Nat.le_of_ble_eq_true rfl) rfl rfl dX8_readSpan_50 (fun r5 u6 => ?_)
    refine jf_istore (lv' := [(5, .int r5), (4, .int r2), (3, .int s0), (0, .ref x0), (1, .ref x1), (2, .int x2)]) hX dX8_readSpan_53 (by decide) rfl ?_
    refine jf_iload hX dX8_readSpan_55 0 rfl ?_
    refine jf_iconst (v := -1) hX dX8_readSpan_57 (by decide) ?_
    refine jf_icmp_ne (tgt := 63) hX dX8_readSpan_58 (by decide) ?_ ?_
    · refine jf_aload_n hX dX8_readSpan_63 3 rfl ?_
      refine jf_getR hX ck_X8 0 wfl_604 (by decide) rfl dX8_readSpan_64 ?_
      refine jf_nn (fun q7 => ?_)
      refine jf_iload hX dX8_readSpan_67 0 rfl ?_
      refine jf_aload_n hX dX8_readSpan_69 4 rfl ?_
      refine jf_getI hX ck_X7 6 wfl_612 (by decide) rfl dX8_readSpan_70 ?_
      refine jf_iconst (v := 1) hX dX8_readSpan_73 (by decide) ?_
      refine jf_isub hX dX8_readSpan_74 ?_
      refine jf_callV (As := [.int r5, .int ((zI u6 x1 6) - (1 : Int32))]) (st := []) hX mo_X9_takeNumber wml_609 winst_610 wsel_611 9 ck_X9 rfl (fun l D cT z0 ks => kX9_takeNumber N l D cT z0 ks q7 r5 ((zI u6 x1 6) - (1 : Int32)) u6) (by decide) (by decide) (by decide) (by decide) (Nat.le_of_ble_eq_true rfl) rfl rfl dX8_readSpan_75 (fun r8 u9 => ?_)
      refine jf_istore (lv' := [(6, .int r8), (5, .int r5), (4, .int r2), (3, .int s0), (0, .ref x0), (1, .ref x1), (2, .int x2)]) hX dX8_readSpan_78 (by decide) rfl ?_
      refine jf_iload hX dX8_readSpan_80 0 rfl ?_
      refine jf_iconst (v := -1) hX dX8_readSpan_82 (by decide) ?_
      refine jf_icmp_ne (tgt := 88) hX dX8_readSpan_83 (by decide) ?_ ?_
      · refine jf_iload_n hX dX8_readSpan_88 6 rfl ?_
        refine jf_bipush (v := 14) hX dX8_readSpan_89 (by decide) ?_
        refine jf_icmp_ne (tgt := 107) hX dX8_readSpan_91 (by decide) ?_ ?_
        · refine jf_aload_n hX dX8_readSpan_107 5 rfl ?_
          refine jf_iload hX dX8_readSpan_108 2 rfl ?_
          refine jf_iload hX dX8_readSpan_110 1 rfl ?_
          refine jf_iload hX dX8_readSpan_112 0 rfl ?_
          refine jf_callV (As := [.int r2, .int r5, .int r8]) (st := []) hX mo_X7_addLit wml_620 winst_621 wsel_622 7 ck_X7 rfl (fun l D cT z0 ks => kX7_addLit N l D cT z0 ks x1 r2 r5 r8 u9) (by decide) (by decide) (by decide) (by decide) (Nat.le_of_ble_eq_true rfl) rfl rfl dX8_readSpan_114 (fun r10 u11 => ?_)
          refine jf_iconst (v := 1) hX dX8_readSpan_117 (by decide) ?_
          exact jf_zretc hX rfl (by decide) (by decide) (by decide) dX8_readSpan_118
        · refine jf_aload_n hX dX8_readSpan_94 5 rfl ?_
          refine jf_iload hX dX8_readSpan_95 2 rfl ?_
          refine jf_iload hX dX8_readSpan_97 1 rfl ?_
          refine jf_iload hX dX8_readSpan_99 0 rfl ?_
          refine jf_callV (As := [.int r2, .int r5, .int r8]) (st := []) hX mo_X7_addWork wml_623 winst_624 wsel_625 7 ck_X7 rfl (fun l D cT z0 ks => kX7_addWork N l D cT z0 ks x1 r2 r5 r8 u9) (by decide) (by decide) (by decide) (by decide) (Nat.le_of_ble_eq_true rfl) rfl rfl dX8_readSpan_101 (fun r12 u13 => ?_)
          refine jf_goto (tgt := 117) hX dX8_readSpan_104 (by decide) ?_
          refine jf_iconst (v := 1) hX dX8_readSpan_117 (by decide) ?_
          exact jf_zretc hX rfl (by decide) (by decide) (by decide) dX8_readSpan_118
      · refine jf_iconst (v := 0) hX dX8_readSpan_86 (by decide) ?_
        exact jf_zretc hX rfl (by decide) (by decide) (by decide) dX8_readSpan_87
    · refine jf_iconst (v := 0) hX dX8_readSpan_61 (by decide) ?_
      exact jf_zretc hX rfl (by decide) (by decide) (by decide) dX8_readSpan_62
  · refine jf_iconst (v := 0) hX dX8_readSpan_37 (by decide) ?_
    exact jf_zretc hX rfl (by decide) (by decide) (by decide) dX8_readSpan_38
set_option maxRecDepth 20000 in
def fX8_readSpan (N : Nat)  (a0 : Nat) (p1 : Nat) (p2 : Int32) (u : SG) : Option (Int32 × SG) := if p2 = (14 : Int32) then (if zK u p1 = 8 then (gX8_readSpan_17 N  a0 p1 p2 (zI u p1 7) u) else none)
  else (if zK u p1 = 8 then (gX8_readSpan_17 N  a0 p1 p2 (zI u p1 9) u) else none)
set_option maxRecDepth 20000 in
set_option maxHeartbeats 4000000 in
theorem kX8_readSpan  (N : Nat)  (l : Launch) (D : va_G) (cT : Nat → ClassId) (z0 : Nat) (ks : Nat × Nat) (a0 : Nat) (p1 : Nat) (p2 : Int32) (u : SG) : Ct l D cT z0 ks yX8_readSpan cX8_readSpan 7 (some .boolean) 4 0 0 vI [.ref a0, .ref p1, .int p2] u (fX8_readSpan N  a0 p1 p2 u) := by
  unfold fX8_readSpan
  refine ct_of (by decide +kernel) (Nat.le_of_ble_eq_true rfl) (fun p e R s m args below meth c hX => ?_)
  show JF _ True 7 0 0 _ 0 [(0, .ref a0), (1, .ref p1), (2, .int p2)] [] u _
  refine jf_iload_n hX dX8_readSpan_0 2 rfl ?_
  refine jf_bipush (v := 14) hX dX8_readSpan_1 (by decide) ?_
  refine jf_icmp_ne (tgt := 13) hX dX8_readSpan_3 (by decide) ?_ ?_
  · refine jf_aload_n hX dX8_readSpan_13 1 rfl ?_
    refine jf_getI hX ck_X7 9 wfl_607 (by decide) rfl dX8_readSpan_14 ?_
    refine jf_lv [0, 1, 2] rfl ?_
    exact jgX8_readSpan_17 hX N  a0 p1 p2 (zI u p1 9) u
  · refine jf_aload_n hX dX8_readSpan_6 1 rfl ?_
    refine jf_getI hX ck_X7 7 wfl_605 (by decide) rfl dX8_readSpan_7 ?_
    refine jf_goto (tgt := 17) hX dX8_readSpan_10 (by decide) ?_
    refine jf_lv [0, 1, 2] rfl ?_
    exact jgX8_readSpan_17 hX N  a0 p1 p2 (zI u p1 7) u
set_option maxRecDepth 20000 in
def gX8_readClause_73 (N : Nat)   (x0 : Nat) (u : SG) : Option (Int32 × SG) := if zK u x0 = 9 then (Option.bind (zR u x0 0) fun q1 => (if zK u q1 = 10 then cl (fX9_refuse N q1 (4 : Int32) u) fun r2 u3 => (if r2 = 0 ∨ r2 = 1 then some (r2, u3) else none) else none)) else none
set_option maxRecDepth 20000 in
set_option maxHeartbeats 4000000 in
theorem jgX8_readClause_73   {X : XT} (hX : Cx X yX8_readClause cX8_readClause 5 (some .boolean) 5 0 0) (N : Nat)  (x0 : Nat) (u : SG) : JF X True 5 0 0 (jQ X vI 0 0) 73 [(0, .ref x0)] [] u (gX8_readClause_73 N   x0 u) := by
  unfold gX8_readClause_73
  refine jf_aload_n hX dX8_readClause_73 0 rfl ?_
  refine jf_getR hX ck_X8 0 wfl_604 (by decide) rfl dX8_readClause_74 ?_
  refine jf_nn (fun q1 => ?_)
  refine jf_iconst (v := 4) hX dX8_readClause_77 (by decide) ?_
  refine jf_callV (As := [.int (4 : Int32)]) (st := []) hX mo_X9_refuse wml_629 winst_530 wsel_531 9 ck_X9 rfl (fun l D cT z0 ks => kX9_refuse N l D cT z0 ks q1 (4 : Int32) u) (by decide) (by decide) (by decide) (by decide) (Nat.le_of_ble_eq_true rfl) rfl rfl dX8_readClause_78 (fun r2 u3 => ?_)
  exact jf_zret hX rfl (by decide) (by decide) dX8_readClause_81
set_option maxRecDepth 20000 in
def gX8_readClause_52 (N : Nat)   (x0 : Nat) (x1 : Nat) (x2 : Int32) (x3 : Int32) (s0 : Int32) (u : SG) : Option (Int32 × SG) := if (40 : Int32) ≤ x2 then (gX8_readClause_73 N  x0 u)
  else (if s0 = 0 then (cl (fX8_isFull N x1 x3 u) fun r1 u2 => (if r1 = 0 then (if zK u2 x0 = 9 then (Option.bind (zR u2 x0 0) fun q3 => (if zK u2 q3 = 10 then cl (fX9_step N q3 u2) fun r4 u5 => (if x3 = (0 : Int32) then (if zK u5 x0 = 9 then cl (fX8_readPerson N x0 x1 u5) fun r6 u7 => (if r6 = 0 ∨ r6 = 1 then some (r6, u7) else none) else none)
  else if x3 = (13 : Int32) then (if zK u5 x0 = 9 then cl (fX8_readHours N x0 x1 u5) fun r8 u9 => (if r8 = 0 ∨ r8 = 1 then some (r8, u9) else none) else none)
  else if x3 = (15 : Int32) then (if zK u5 x0 = 9 then cl (fX8_readLamp N x0 x1 u5) fun r10 u11 => (if r10 = 0 ∨ r10 = 1 then some (r10, u11) else none) else none)
  else (if zK u5 x0 = 9 then cl (fX8_readSpan N x0 x1 x3 u5) fun r12 u13 => (if r12 = 0 ∨ r12 = 1 then some (r12, u13) else none) else none)) else none)) else none)
  else (gX8_readClause_73 N  x0 u2)))
  else (gX8_readClause_73 N  x0 u))
set_option maxRecDepth 20000 in
set_option maxHeartbeats 4000000 in
theorem jgX8_readClause_52   {X : XT} (hX : Cx X yX8_readClause cX8_readClause 5 (some .boolean) 5 0 0) (N : Nat)  (x0 : Nat) (x1 : Nat) (x2 : Int32) (x3 : Int32) (s0 : Int32) (u : SG) : JF X True 5 0 0 (jQ X vI 0 0) 52 [(0, .ref x0), (1, .ref x1), (2, .int x2), (3, .int x3)] [.int s0] u (gX8_readClause_52 N   x0 x1 x2 x3 s0 u) := by
  unfold gX8_readClause_52
  refine jf_istore (lv' := [(4, .int s0), (0, .ref x0), (1, .ref x1), (2, .int x2), (3, .int x3)]) hX dX8_readClause_52 (by decide) rfl ?_
  refine jf_iload_n hX dX8_readClause_54 3 rfl ?_
  refine jf_bipush (v := 40) hX dX8_readClause_55 (by decide) ?_
  refine jf_icmp_ge (tgt := 73) hX dX8_readClause_57 (by decide) ?_ ?_
  · refine jf_lv [1] rfl ?_
    exact jgX8_readClause_73 hX N  x0 u
  · refine jf_iload hX dX8_readClause_60 0 rfl ?_
    refine jf_if_ne (tgt := 73) hX dX8_readClause_62 (by decide) ?_ ?_
    · refine jf_lv [1] rfl ?_
      exact jgX8_readClause_73 hX N  x0 u
    · refine jf_aload_n hX dX8_readClause_65 2 rfl ?_
      refine jf_iload_n hX dX8_readClause_66 4 rfl ?_
      refine jf_callS (As := [.ref x1, .int x3]) (st := []) hX mo_X8_isFull wml_630 wstat_631 rfl (fun l D cT z0 ks => kX8_isFull N l D cT z0 ks x1 x3 u) (by decide) (by decide) (by decide) (by decide) (Nat.le_of_ble_eq_true rfl) rfl rfl dX8_readClause_67 (fun r1 u2 => ?_)
      refine jf_if_eq (tgt := 82) hX dX8_readClause_70 (by decide) ?_ ?_
      · refine jf_aload_n hX dX8_readClause_82 1 rfl ?_
        refine jf_getR hX ck_X8 0 wfl_604 (by decide) rfl dX8_readClause_83 ?_
        refine jf_nn (fun q3 => ?_)
        refine jf_callV (As := []) (st := []) hX mo_X9_step wml_632 winst_525 wsel_526 9 ck_X9 rfl (fun l D cT z0 ks => kX9_step N l D cT z0 ks q3 u2) (by decide) (by decide) (by decide) (by decide) (Nat.le_of_ble_eq_true rfl) rfl rfl dX8_readClause_86 (fun r4 u5 => ?_)
        refine jf_iload_n hX dX8_readClause_89 4 rfl ?_
        refine jf_lcase (k := 0) (kv := 0) (tgt := 130) hX dX8_readClause_90 rfl rfl rfl (by decide) ?_ (fun hn0 => ?_)
        · refine jf_aload_n hX dX8_readClause_130 1 rfl ?_
          refine jf_aload_n hX dX8_readClause_131 2 rfl ?_
          refine jf_callV (As := [.ref x1]) (st := []) hX mo_X8_readPerson wml_633 winst_634 wsel_635 8 ck_X8 rfl (fun l D cT z0 ks => kX8_readPerson N l D cT z0 ks x0 x1 u5) (by decide) (by decide) (by decide) (by decide) (Nat.le_of_ble_eq_true rfl) rfl rfl dX8_readClause_132 (fun r6 u7 => ?_)
          exact jf_zret hX rfl (by decide) (by decide) dX8_readClause_135
        refine jf_lcase (k := 13) (kv := 13) (tgt := 124) hX dX8_readClause_90 rfl rfl rfl (by decide) ?_ (fun hn13 => ?_)
        · refine jf_aload_n hX dX8_readClause_124 1 rfl ?_
          refine jf_aload_n hX dX8_readClause_125 2 rfl ?_
          refine jf_callV (As := [.ref x1]) (st := []) hX mo_X8_readHours wml_636 winst_637 wsel_638 8 ck_X8 rfl (fun l D cT z0 ks => kX8_readHours N l D cT z0 ks x0 x1 u5) (by decide) (by decide) (by decide) (by decide) (Nat.le_of_ble_eq_true rfl) rfl rfl dX8_readClause_126 (fun r8 u9 => ?_)
          exact jf_zret hX rfl (by decide) (by decide) dX8_readClause_129
        refine jf_lcase (k := 15) (kv := 15) (tgt := 136) hX dX8_readClause_90 rfl rfl rfl (by decide) ?_ (fun hn15 => ?_)
        · refine jf_aload_n hX dX8_readClause_136 1 rfl ?_
          refine jf_aload_n hX dX8_readClause_137 2 rfl ?_
          refine jf_callV (As := [.ref x1]) (st := []) hX mo_X8_readLamp wml_639 winst_640 wsel_641 8 ck_X8 rfl (fun l D cT z0 ks => kX8_readLamp N l D cT z0 ks x0 x1 u5) (by decide) (by decide) (by decide) (by decide) (Nat.le_of_ble_eq_true rfl) rfl rfl dX8_readClause_138 (fun r10 u11 => ?_)
          exact jf_zret hX rfl (by decide) (by decide) dX8_readClause_141
        refine jf_ldef (tgt := 142) hX dX8_readClause_90 rfl (by show Op.lookupswitch.offset [(0, 40), (13, 34), (15, 46)] 52 x3.toInt = 52; rw [lv_osw (a := 0) hn0 rfl, lv_osw (a := 13) hn13 rfl, lv_osw (a := 15) hn15 rfl]; rfl) (by decide) ?_
        refine jf_aload_n hX dX8_readClause_142 1 rfl ?_
        refine jf_aload_n hX dX8_readClause_143 2 rfl ?_
        refine jf_iload_n hX dX8_readClause_144 4 rfl ?_
        refine jf_callV (As := [.ref x1, .int x3]) (st := []) hX mo_X8_readSpan wml_642 winst_643 wsel_644 8 ck_X8 rfl (fun l D cT z0 ks => kX8_readSpan N l D cT z0 ks x0 x1 x3 u5) (by decide) (by decide) (by decide) (by decide) (Nat.le_of_ble_eq_true rfl) rfl rfl dX8_readClause_145 (fun r12 u13 => ?_)
        exact jf_zret hX rfl (by decide) (by decide) dX8_readClause_148
      · refine jf_lv [1] rfl ?_
        exact jgX8_readClause_73 hX N  x0 u2
set_option maxRecDepth 20000 in
def gX8_readClause_44 (N : Nat)   (x0 : Nat) (x1 : Nat) (x2 : Int32) (x3 : Int32) (s0 : Int32) (s1 : Int32) (u : SG) : Option (Int32 × SG) := if s0 = s1 then (gX8_readClause_52 N  x0 x1 x2 x3 (0 : Int32) u)
  else (gX8_readClause_52 N  x0 x1 x2 x3 (1 : Int32) u)
set_option maxRecDepth 20000 in
set_option maxHeartbeats 4000000 in
theorem jgX8_readClause_44   {X : XT} (hX : Cx X yX8_readClause cX8_readClause 5 (some .boolean) 5 0 0) (N : Nat)  (x0 : Nat) (x1 : Nat) (x2 : Int32) (x3 : Int32) (s0 : Int32) (s1 : Int32) (u : SG) : JF X True 5 0 0 (jQ X vI 0 0) 44 [(0, .ref x0), (1, .ref x1), (2, .int x2), (3, .int x3)] [.int s1, .int s0] u (gX8_readClause_44 N   x0 x1 x2 x3 s0 s1 u) := by
  unfold gX8_readClause_44
  refine jf_icmp_eq (tgt := 51) hX dX8_readClause_44 (by decide) ?_ ?_
  · refine jf_iconst (v := 0) hX dX8_readClause_51 (by decide) ?_
    refine jf_lv [0, 1, 2, 3] rfl ?_
    exact jgX8_readClause_52 hX N  x0 x1 x2 x3 (0 : Int32) u
  · refine jf_iconst (v := 1) hX dX8_readClause_47 (by decide) ?_
    refine jf_goto (tgt := 52) hX dX8_readClause_48 (by decide) ?_
    refine jf_lv [0, 1, 2, 3] rfl ?_
    exact jgX8_readClause_52 hX N  x0 x1 x2 x3 (1 : Int32) u
set_option maxRecDepth 20000 in
def gX8_readClause_35 (N : Nat)   (x0 : Nat) (x1 : Nat) (x2 : Int32) (x3 : Int32) (s0 : Int32) (u : SG) : Option (Int32 × SG) := if x2 = 0 then (gX8_readClause_44 N  x0 x1 x2 x3 s0 (1 : Int32) u)
  else (gX8_readClause_44 N  x0 x1 x2 x3 s0 (0 : Int32) u)
set_option maxRecDepth 20000 in
set_option maxHeartbeats 4000000 in
theorem jgX8_readClause_35   {X : XT} (hX : Cx X yX8_readClause cX8_readClause 5 (some .boolean) 5 0 0) (N : Nat)  (x0 : Nat) (x1 : Nat) (x2 : Int32) (x3 : Int32) (s0 : Int32) (u : SG) : JF X True 5 0 0 (jQ X vI 0 0) 35 [(0, .ref x0), (1, .ref x1), (2, .int x2), (3, .int x3)] [.int s0] u (gX8_readClause_35 N   x0 x1 x2 x3 s0 u) := by
  unfold gX8_readClause_35
  refine jf_iload_n hX dX8_readClause_35 2 rfl ?_
  refine jf_if_ne (tgt := 43) hX dX8_readClause_36 (by decide) ?_ ?_
  · refine jf_iconst (v := 0) hX dX8_readClause_43 (by decide) ?_
    refine jf_lv [0, 1, 2, 3] rfl ?_
    exact jgX8_readClause_44 hX N  x0 x1 x2 x3 s0 (0 : Int32) u
  · refine jf_iconst (v := 1) hX dX8_readClause_39 (by decide) ?_
    refine jf_goto (tgt := 44) hX dX8_readClause_40 (by decide) ?_
    refine jf_lv [0, 1, 2, 3] rfl ?_
    exact jgX8_readClause_44 hX N  x0 x1 x2 x3 s0 (1 : Int32) u
set_option maxRecDepth 20000 in
def fX8_readClause (N : Nat)  (a0 : Nat) (p1 : Nat) (p2 : Int32) (u : SG) : Option (Int32 × SG) := if zK u a0 = 9 then (Option.bind (zR u a0 0) fun q1 => (if zK u q1 = 10 then (bs (zI u q1 10) fun v2 => (cl (fX8_isClause N v2 u) fun r3 u4 => (if r3 = 0 then (if zK u4 a0 = 9 then (Option.bind (zR u4 a0 0) fun q5 => (if zK u4 q5 = 10 then cl (fX9_refuse N q5 (0 : Int32) u4) fun r6 u7 => (if r6 = 0 ∨ r6 = 1 then some (r6, u7) else none) else none)) else none)
  else (if v2 = (13 : Int32) then (gX8_readClause_35 N  a0 p1 p2 v2 (1 : Int32) u4)
  else (gX8_readClause_35 N  a0 p1 p2 v2 (0 : Int32) u4))))) else none)) else none
set_option maxRecDepth 20000 in
set_option maxHeartbeats 4000000 in
theorem kX8_readClause  (N : Nat)  (l : Launch) (D : va_G) (cT : Nat → ClassId) (z0 : Nat) (ks : Nat × Nat) (a0 : Nat) (p1 : Nat) (p2 : Int32) (u : SG) : Ct l D cT z0 ks yX8_readClause cX8_readClause 5 (some .boolean) 5 0 0 vI [.ref a0, .ref p1, .int p2] u (fX8_readClause N  a0 p1 p2 u) := by
  unfold fX8_readClause
  refine ct_of (by decide +kernel) (Nat.le_of_ble_eq_true rfl) (fun p e R s m args below meth c hX => ?_)
  show JF _ True 5 0 0 _ 0 [(0, .ref a0), (1, .ref p1), (2, .int p2)] [] u _
  refine jf_aload_n hX dX8_readClause_0 0 rfl ?_
  refine jf_getR hX ck_X8 0 wfl_604 (by decide) rfl dX8_readClause_1 ?_
  refine jf_nn (fun q1 => ?_)
  refine jf_getI hX ck_X9 10 wfl_626 (by decide) rfl dX8_readClause_4 ?_
  refine jf_nmI (fun v2 => ?_)
  refine jf_istore_n (lv' := [(3, .int v2), (0, .ref a0), (1, .ref p1), (2, .int p2)]) hX dX8_readClause_7 rfl (by decide) rfl ?_
  refine jf_iload_n hX dX8_readClause_8 0 rfl ?_
  refine jf_callS (As := [.int v2]) (st := []) hX mo_X8_isClause wml_627 wstat_628 rfl (fun l D cT z0 ks => kX8_isClause N l D cT z0 ks v2 u) (by decide) (by decide) (by decide) (by decide) (Nat.le_of_ble_eq_true rfl) rfl rfl dX8_readClause_9 (fun r3 u4 => ?_)
  refine jf_if_ne (tgt := 24) hX dX8_readClause_12 (by decide) ?_ ?_
  · refine jf_iload_n hX dX8_readClause_24 0 rfl ?_
    refine jf_bipush (v := 13) hX dX8_readClause_25 (by decide) ?_
    refine jf_icmp_ne (tgt := 34) hX dX8_readClause_27 (by decide) ?_ ?_
    · refine jf_iconst (v := 0) hX dX8_readClause_34 (by decide) ?_
      refine jf_lv [1, 2, 3, 0] rfl ?_
      exact jgX8_readClause_35 hX N  a0 p1 p2 v2 (0 : Int32) u4
    · refine jf_iconst (v := 1) hX dX8_readClause_30 (by decide) ?_
      refine jf_goto (tgt := 35) hX dX8_readClause_31 (by decide) ?_
      refine jf_lv [1, 2, 3, 0] rfl ?_
      exact jgX8_readClause_35 hX N  a0 p1 p2 v2 (1 : Int32) u4
  · refine jf_aload_n hX dX8_readClause_15 1 rfl ?_
    refine jf_getR hX ck_X8 0 wfl_604 (by decide) rfl dX8_readClause_16 ?_
    refine jf_nn (fun q5 => ?_)
    refine jf_iconst (v := 0) hX dX8_readClause_19 (by decide) ?_
    refine jf_callV (As := [.int (0 : Int32)]) (st := []) hX mo_X9_refuse wml_629 winst_530 wsel_531 9 ck_X9 rfl (fun l D cT z0 ks => kX9_refuse N l D cT z0 ks q5 (0 : Int32) u4) (by decide) (by decide) (by decide) (by decide) (Nat.le_of_ble_eq_true rfl) rfl rfl dX8_readClause_20 (fun r6 u7 => ?_)
    exact jf_zret hX rfl (by decide) (by decide) dX8_readClause_23
set_option maxRecDepth 20000 in
def gX8_readInto_13 (N : Nat)   : Nat → Nat → Nat → Int32 → SG → Option (Int32 × SG)
  | 0, _, _, _, _ => none
  | n + 1, x0, x1, x2, u => if (40 : Int32) < x2 then (if zK u x0 = 9 then (Option.bind (zR u x0 0) fun q1 => (if zK u q1 = 10 then (some (zI u q1 2, u)) else none)) else none)
  else (if zK u x0 = 9 then cl (fX8_readClause N x0 x1 x2 u) fun r2 u3 => (if r2 = 0 then (if zK u3 x0 = 9 then (Option.bind (zR u3 x0 0) fun q9 => (if zK u3 q9 = 10 then (some (zI u3 q9 2, u3)) else none)) else none)
  else (if zK u3 x0 = 9 then (Option.bind (zR u3 x0 0) fun q4 => (if zK u3 q4 = 10 then (if (zI u3 q4 8) = 0 then (some ((0 : Int32), u3))
  else (if zK u3 x0 = 9 then (Option.bind (zR u3 x0 0) fun q5 => (if zK u3 q5 = 10 then cl (fX9_takeSign N q5 (59 : Int32) u3) fun r6 u7 => (if r6 = 0 then (if zK u7 x0 = 9 then (Option.bind (zR u7 x0 0) fun q8 => (if zK u7 q8 = 10 then (some (zI u7 q8 2, u7)) else none)) else none)
  else ((gX8_readInto_13 N  n) x0 x1 (x2 + (1 : Int32)) u7)) else none)) else none)) else none)) else none)) else none)
set_option maxRecDepth 20000 in
set_option maxHeartbeats 4000000 in
theorem jgX8_readInto_13   {X : XT} (hX : Cx X yX8_readInto cX8_readInto 3 (some .int) 11 0 0) (N : Nat)  : ∀ (n : Nat) (x0 : Nat) (x1 : Nat) (x2 : Int32) (u : SG), JF X True 3 0 0 (jQ X vI 0 0) 13 [(0, .ref x0), (1, .ref x1), (2, .int x2)] [] u (gX8_readInto_13 N   n x0 x1 x2 u) := by
  intro n
  induction n with
  | zero => intros; intro r u9 h9; exact absurd h9 (by simp [gX8_readInto_13])
  | succ n ih =>
    intro x0 x1 x2 u
    have hrec13 := ih
    rw [gX8_readInto_13]
    refine jf_iload_n hX dX8_readInto_13 2 rfl ?_
    refine jf_bipush (v := 40) hX dX8_readInto_14 (by decide) ?_
    refine jf_icmp_gt (tgt := 74) hX dX8_readInto_16 (by decide) ?_ ?_
    · refine jf_aload_n hX dX8_readInto_74 0 rfl ?_
      refine jf_getR hX ck_X8 0 wfl_604 (by decide) rfl dX8_readInto_75 ?_
      refine jf_nn (fun q1 => ?_)
      refine jf_getI hX ck_X9 2 wfl_649 (by decide) rfl dX8_readInto_78 ?_
      exact jf_iret hX rfl (by decide) (by decide) dX8_readInto_81
    · refine jf_aload_n hX dX8_readInto_19 0 rfl ?_
      refine jf_aload_n hX dX8_readInto_20 1 rfl ?_
      refine jf_iload_n hX dX8_readInto_21 2 rfl ?_
      refine jf_callV (As := [.ref x1, .int x2]) (st := []) hX mo_X8_readClause wml_650 winst_651 wsel_652 8 ck_X8 rfl (fun l D cT z0 ks => kX8_readClause N l D cT z0 ks x0 x1 x2 u) (by decide) (by decide) (by decide) (by decide) (Nat.le_of_ble_eq_true rfl) rfl rfl dX8_readInto_22 (fun r2 u3 => ?_)
      refine jf_if_ne (tgt := 36) hX dX8_readInto_25 (by decide) ?_ ?_
      · refine jf_aload_n hX dX8_readInto_36 0 rfl ?_
        refine jf_getR hX ck_X8 0 wfl_604 (by decide) rfl dX8_readInto_37 ?_
        refine jf_nn (fun q4 => ?_)
        refine jf_getI hX ck_X9 8 wfl_653 (by decide) rfl dX8_readInto_40 ?_
        refine jf_if_ne (tgt := 48) hX dX8_readInto_43 (by decide) ?_ ?_
        · refine jf_aload_n hX dX8_readInto_48 0 rfl ?_
          refine jf_getR hX ck_X8 0 wfl_604 (by decide) rfl dX8_readInto_49 ?_
          refine jf_nn (fun q5 => ?_)
          refine jf_bipush (v := 59) hX dX8_readInto_52 (by decide) ?_
          refine jf_callV (As := [.int (59 : Int32)]) (st := []) hX mo_X9_takeSign wml_654 winst_555 wsel_556 9 ck_X9 rfl (fun l D cT z0 ks => kX9_takeSign N l D cT z0 ks q5 (59 : Int32) u3) (by decide) (by decide) (by decide) (by decide) (Nat.le_of_ble_eq_true rfl) rfl rfl dX8_readInto_54 (fun r6 u7 => ?_)
          refine jf_if_ne (tgt := 68) hX dX8_readInto_57 (by decide) ?_ ?_
          · refine jf_iinc (v := 1) (lv' := [(2, .int (x2 + (1 : Int32))), (0, .ref x0), (1, .ref x1)]) hX dX8_readInto_68 2 rfl (by decide) (by decide) rfl ?_
            refine jf_goto (tgt := 13) hX dX8_readInto_71 (by decide) ?_
            refine jf_lv [1, 2, 0] rfl ?_
            exact hrec13 x0 x1 (x2 + (1 : Int32)) u7
          · refine jf_aload_n hX dX8_readInto_60 0 rfl ?_
            refine jf_getR hX ck_X8 0 wfl_604 (by decide) rfl dX8_readInto_61 ?_
            refine jf_nn (fun q8 => ?_)
            refine jf_getI hX ck_X9 2 wfl_649 (by decide) rfl dX8_readInto_64 ?_
            exact jf_iret hX rfl (by decide) (by decide) dX8_readInto_67
        · refine jf_iconst (v := 0) hX dX8_readInto_46 (by decide) ?_
          exact jf_iret hX rfl (by decide) (by decide) dX8_readInto_47
      · refine jf_aload_n hX dX8_readInto_28 0 rfl ?_
        refine jf_getR hX ck_X8 0 wfl_604 (by decide) rfl dX8_readInto_29 ?_
        refine jf_nn (fun q9 => ?_)
        refine jf_getI hX ck_X9 2 wfl_649 (by decide) rfl dX8_readInto_32 ?_
        exact jf_iret hX rfl (by decide) (by decide) dX8_readInto_35
set_option maxRecDepth 20000 in
def fX8_readInto (N : Nat)  (a0 : Nat) (p1 : Nat) (u : SG) : Option (Int32 × SG) := if zK u p1 = 8 then cl (fX7_clear N p1 u) fun r1 u2 => (if zK u2 a0 = 9 then (Option.bind (zR u2 a0 0) fun q3 => (if zK u2 q3 = 10 then cl (fX9_open N q3 u2) fun r4 u5 => (gX8_readInto_13 N  N a0 p1 (0 : Int32) u5) else none)) else none) else none
set_option maxRecDepth 20000 in
set_option maxHeartbeats 4000000 in
theorem kX8_readInto  (N : Nat)  (l : Launch) (D : va_G) (cT : Nat → ClassId) (z0 : Nat) (ks : Nat × Nat) (a0 : Nat) (p1 : Nat) (u : SG) : Ct l D cT z0 ks yX8_readInto cX8_readInto 3 (some .int) 11 0 0 vI [.ref a0, .ref p1] u (fX8_readInto N  a0 p1 u) := by
  unfold fX8_readInto
  refine ct_of (by decide +kernel) (Nat.le_of_ble_eq_true rfl) (fun p e R s m args below meth c hX => ?_)
  show JF _ True 3 0 0 _ 0 [(0, .ref a0), (1, .ref p1)] [] u _
  refine jf_aload_n hX dX8_readInto_0 1 rfl ?_
  refine jf_callV (As := []) (st := []) hX mo_X7_clear wml_645 winst_646 wsel_647 7 ck_X7 rfl (fun l D cT z0 ks => kX7_clear N l D cT z0 ks p1 u) (by decide) (by decide) (by decide) (by decide) (Nat.le_of_ble_eq_true rfl) rfl rfl dX8_readInto_1 (fun r1 u2 => ?_)
  refine jf_aload_n hX dX8_readInto_4 0 rfl ?_
  refine jf_getR hX ck_X8 0 wfl_604 (by decide) rfl dX8_readInto_5 ?_
  refine jf_nn (fun q3 => ?_)
  refine jf_callV (As := []) (st := []) hX mo_X9_open wml_648 winst_561 wsel_562 9 ck_X9 rfl (fun l D cT z0 ks => kX9_open N l D cT z0 ks q3 u2) (by decide) (by decide) (by decide) (by decide) (Nat.le_of_ble_eq_true rfl) rfl rfl dX8_readInto_8 (fun r4 u5 => ?_)
  refine jf_iconst (v := 0) hX dX8_readInto_11 (by decide) ?_
  refine jf_istore_n (lv' := [(2, .int (0 : Int32)), (0, .ref a0), (1, .ref p1)]) hX dX8_readInto_12 rfl (by decide) rfl ?_
  refine jf_lv [1, 2, 0] rfl ?_
  exact jgX8_readInto_13 hX N  N a0 p1 (0 : Int32) u5
set_option maxRecDepth 20000 in
def fX9_init (N : Nat)  (a0 : Nat) (u : SG) : Option (Unit × SG) := if (400 : Int32) < 0 ∨ 400 < (400 : Int32).toNatClampNeg then none else nw u (sNew u 21 (400 : Int32).toNatClampNeg) fun q1 u2 => (if zK u2 a0 = 10 then bs (sR u2 a0 0 (some q1)) fun u3 => (if zK u3 a0 = 10 then bs (sI u3 a0 1 (0 : Int32)) fun u4 => (if zK u4 a0 = 10 then bs (sI u4 a0 2 (0 : Int32)) fun u5 => (if (401 : Int32) < 0 ∨ 401 < (401 : Int32).toNatClampNeg then none else nw u5 (sNew u5 22 (401 : Int32).toNatClampNeg) fun q6 u7 => (if zK u7 a0 = 10 then bs (sR u7 a0 3 (some q6)) fun u8 => (if (401 : Int32) < 0 ∨ 401 < (401 : Int32).toNatClampNeg then none else nw u8 (sNew u8 22 (401 : Int32).toNatClampNeg) fun q9 u10 => (if zK u10 a0 = 10 then bs (sR u10 a0 4 (some q9)) fun u11 => (if (401 : Int32) < 0 ∨ 401 < (401 : Int32).toNatClampNeg then none else nw u11 (sNew u11 22 (401 : Int32).toNatClampNeg) fun q12 u13 => (if zK u13 a0 = 10 then bs (sR u13 a0 5 (some q12)) fun u14 => (if zK u14 a0 = 10 then bs (sI u14 a0 6 (0 : Int32)) fun u15 => (if zK u15 a0 = 10 then bs (sI u15 a0 7 (-1 : Int32)) fun u16 => (if zK u16 a0 = 10 then bs (sI u16 a0 8 (0 : Int32)) fun u17 => (if zK u17 a0 = 10 then bs (sI u17 a0 9 (-1 : Int32)) fun u18 => (if zK u18 a0 = 10 then bs (sI u18 a0 10 (-1 : Int32)) fun u19 => (if zK u19 a0 = 10 then bs (sI u19 a0 11 (-1 : Int32)) fun u20 => (some ((), u20)) else none) else none) else none) else none) else none) else none) else none)) else none)) else none)) else none) else none) else none)
set_option maxRecDepth 20000 in
set_option maxHeartbeats 4000000 in
theorem kX9_init  (N : Nat)  (l : Launch) (D : va_G) (cT : Nat → ClassId) (z0 : Nat) (ks : Nat × Nat) (a0 : Nat) (u : SG) : Ct l D cT z0 ks yX9_init cX9_init 1 none 1 4 1603 vU [.ref a0] u (fX9_init N  a0 u) := by
  unfold fX9_init
  refine ct_of (by decide +kernel) (Nat.le_of_ble_eq_true rfl) (fun p e R s m args below meth c hX => ?_)
  show JF _ True 1 0 0 _ 0 [(0, .ref a0)] [] u _
  refine jf_aload_n hX dX9_init_0 0 rfl ?_
  refine jf_objInit hX wml_655 winst_17 wcode_18 (by decide) (Nat.le_of_ble_eq_true rfl) dX9_init_1 ?_
  refine jf_aload_n hX dX9_init_4 0 rfl ?_
  refine jf_sipush (v := 400) hX dX9_init_5 (by decide) ?_
  refine jf_newaB hX trivial warrc_19 400 (by decide) (by decide) (by decide) dX9_init_8 (fun q1 u2 => ?_)
  refine jf_putRF (v := some q1) hX trivial ck_X9 0 wfl_482 (by decide) rfl rfl rfl rfl rfl dX9_init_10 (fun u3 => ?_)
  refine jf_aload_n hX dX9_init_13 0 rfl ?_
  refine jf_iconst (v := 0) hX dX9_init_14 (by decide) ?_
  refine jf_putI hX trivial ck_X9 1 wfl_481 (by decide) rfl rfl rfl dX9_init_15 (fun u4 => ?_)
  refine jf_aload_n hX dX9_init_18 0 rfl ?_
  refine jf_iconst (v := 0) hX dX9_init_19 (by decide) ?_
  refine jf_putI hX trivial ck_X9 2 wfl_520 (by decide) rfl rfl rfl dX9_init_20 (fun u5 => ?_)
  refine jf_aload_n hX dX9_init_23 0 rfl ?_
  refine jf_sipush (v := 401) hX dX9_init_24 (by decide) ?_
  refine jf_newaI hX trivial warrc_21 401 (by decide) (by decide) (by decide) dX9_init_27 (fun q6 u7 => ?_)
  refine jf_putRF (v := some q6) hX trivial ck_X9 3 wfl_484 (by decide) rfl rfl rfl rfl rfl dX9_init_29 (fun u8 => ?_)
  refine jf_aload_n hX dX9_init_32 0 rfl ?_
  refine jf_sipush (v := 401) hX dX9_init_33 (by decide) ?_
  refine jf_newaI hX trivial warrc_21 401 (by decide) (by decide) (by decide) dX9_init_36 (fun q9 u10 => ?_)
  refine jf_putRF (v := some q9) hX trivial ck_X9 4 wfl_485 (by decide) rfl rfl rfl rfl rfl dX9_init_38 (fun u11 => ?_)
  refine jf_aload_n hX dX9_init_41 0 rfl ?_
  refine jf_sipush (v := 401) hX dX9_init_42 (by decide) ?_
  refine jf_newaI hX trivial warrc_21 401 (by decide) (by decide) (by decide) dX9_init_45 (fun q12 u13 => ?_)
  refine jf_putRF (v := some q12) hX trivial ck_X9 5 wfl_486 (by decide) rfl rfl rfl rfl rfl dX9_init_47 (fun u14 => ?_)
  refine jf_aload_n hX dX9_init_50 0 rfl ?_
  refine jf_iconst (v := 0) hX dX9_init_51 (by decide) ?_
  refine jf_putI hX trivial ck_X9 6 wfl_483 (by decide) rfl rfl rfl dX9_init_52 (fun u15 => ?_)
  refine jf_aload_n hX dX9_init_55 0 rfl ?_
  refine jf_iconst (v := -1) hX dX9_init_56 (by decide) ?_
  refine jf_putI hX trivial ck_X9 7 wfl_515 (by decide) rfl rfl rfl dX9_init_57 (fun u16 => ?_)
  refine jf_aload_n hX dX9_init_60 0 rfl ?_
  refine jf_iconst (v := 0) hX dX9_init_61 (by decide) ?_
  refine jf_putI hX trivial ck_X9 8 wfl_516 (by decide) rfl rfl rfl dX9_init_62 (fun u17 => ?_)
  refine jf_aload_n hX dX9_init_65 0 rfl ?_
  refine jf_iconst (v := -1) hX dX9_init_66 (by decide) ?_
  refine jf_putI hX trivial ck_X9 9 wfl_517 (by decide) rfl rfl rfl dX9_init_67 (fun u18 => ?_)
  refine jf_aload_n hX dX9_init_70 0 rfl ?_
  refine jf_iconst (v := -1) hX dX9_init_71 (by decide) ?_
  refine jf_putI hX trivial ck_X9 10 wfl_518 (by decide) rfl rfl rfl dX9_init_72 (fun u19 => ?_)
  refine jf_aload_n hX dX9_init_75 0 rfl ?_
  refine jf_iconst (v := -1) hX dX9_init_76 (by decide) ?_
  refine jf_putI hX trivial ck_X9 11 wfl_519 (by decide) rfl rfl rfl dX9_init_77 (fun u20 => ?_)
  exact jf_vret hX rfl (by decide) (by decide) dX9_init_80
set_option maxRecDepth 20000 in
def fX9_hasRoom (N : Nat)  (a0 : Nat) (p1 : Int32) (u : SG) : Option (Int32 × SG) := if zK u a0 = 10 then (if (400 : Int32) < ((zI u a0 1) + p1) then (some ((0 : Int32), u))
  else (some ((1 : Int32), u))) else none
set_option maxRecDepth 20000 in
set_option maxHeartbeats 4000000 in
theorem kX9_hasRoom  (N : Nat)  (l : Launch) (D : va_G) (cT : Nat → ClassId) (z0 : Nat) (ks : Nat × Nat) (a0 : Nat) (p1 : Int32) (u : SG) : Ct l D cT z0 ks yX9_hasRoom cX9_hasRoom 2 (some .boolean) 1 0 0 vI [.ref a0, .int p1] u (fX9_hasRoom N  a0 p1 u) := by
  unfold fX9_hasRoom
  refine ct_of (by decide +kernel) (Nat.le_of_ble_eq_true rfl) (fun p e R s m args below meth c hX => ?_)
  show JF _ True 2 0 0 _ 0 [(0, .ref a0), (1, .int p1)] [] u _
  refine jf_aload_n hX dX9_hasRoom_0 0 rfl ?_
  refine jf_getI hX ck_X9 1 wfl_481 (by decide) rfl dX9_hasRoom_1 ?_
  refine jf_iload_n hX dX9_hasRoom_4 1 rfl ?_
  refine jf_iadd hX dX9_hasRoom_5 ?_
  refine jf_sipush (v := 400) hX dX9_hasRoom_6 (by decide) ?_
  refine jf_icmp_gt (tgt := 16) hX dX9_hasRoom_9 (by decide) ?_ ?_
  · refine jf_iconst (v := 0) hX dX9_hasRoom_16 (by decide) ?_
    exact jf_zretc hX rfl (by decide) (by decide) (by decide) dX9_hasRoom_17
  · refine jf_iconst (v := 1) hX dX9_hasRoom_12 (by decide) ?_
    refine jf_goto (tgt := 17) hX dX9_hasRoom_13 (by decide) ?_
    exact jf_zretc hX rfl (by decide) (by decide) (by decide) dX9_hasRoom_17
set_option maxRecDepth 20000 in
def gX9_append_3 (N : Nat)   : Nat → Nat → Int32 → Int32 → SG → Option (Unit × SG)
  | 0, _, _, _, _ => none
  | n + 1, x0, x1, x2, u => if x2 < 0 then (some ((), u))
  else (if zK u x0 = 10 then (if (zI u x0 1) < 0 then ((gX9_append_3 N  n) x0 x1 (x2 + (-8 : Int32)) u)
  else (if zK u x0 = 10 then (if (400 : Int32) ≤ (zI u x0 1) then ((gX9_append_3 N  n) x0 x1 (x2 + (-8 : Int32)) u)
  else (if zK u x0 = 10 then (Option.bind (zR u x0 0) fun q1 => (if zK u x0 = 10 then (if zK u q1 = 21 then if (zI u x0 1) < 0 ∨ zN u q1 ≤ (zI u x0 1).toNatClampNeg then none else bs (sI u q1 (zI u x0 1).toNatClampNeg (vp_nar .byte ((x1 >>> (x2 &&& 31)).toInt8.toInt32))) fun u2 => (if zK u2 x0 = 10 then (if zK u2 x0 = 10 then bs (sI u2 x0 1 ((zI u2 x0 1) + (1 : Int32))) fun u3 => ((gX9_append_3 N  n) x0 x1 (x2 + (-8 : Int32)) u3) else none) else none) else none) else none)) else none)) else none)) else none)
set_option maxRecDepth 20000 in
set_option maxHeartbeats 4000000 in
theorem jgX9_append_3   {X : XT} (hX : Cx X yX9_append cX9_append 3 none 1 0 0) (N : Nat)  : ∀ (n : Nat) (x0 : Nat) (x1 : Int32) (x2 : Int32) (u : SG), JF X True 3 0 0 (jQ X vU 0 0) 3 [(0, .ref x0), (1, .int x1), (2, .int x2)] [] u (gX9_append_3 N   n x0 x1 x2 u) := by
  intro n
  induction n with
  | zero => intros; intro r u9 h9; exact absurd h9 (by simp [gX9_append_3])
  | succ n ih =>
    intro x0 x1 x2 u
    have hrec3 := ih
    rw [gX9_append_3]
    refine jf_iload_n hX dX9_append_3 2 rfl ?_
    refine jf_if_lt (tgt := 53) hX dX9_append_4 (by decide) ?_ ?_
    · exact jf_vret hX rfl (by decide) (by decide) dX9_append_53
    · refine jf_aload_n hX dX9_append_7 0 rfl ?_
      refine jf_getI hX ck_X9 1 wfl_481 (by decide) rfl dX9_append_8 ?_
      refine jf_if_lt (tgt := 47) hX dX9_append_11 (by decide) ?_ ?_
      · refine jf_iinc (v := -8) (lv' := [(2, .int (x2 + (-8 : Int32))), (0, .ref x0), (1, .int x1)]) hX dX9_append_47 2 rfl (by decide) (by decide) rfl ?_
        refine jf_goto (tgt := 3) hX dX9_append_50 (by decide) ?_
        refine jf_lv [1, 2, 0] rfl ?_
        exact hrec3 x0 x1 (x2 + (-8 : Int32)) u
      · refine jf_aload_n hX dX9_append_14 0 rfl ?_
        refine jf_getI hX ck_X9 1 wfl_481 (by decide) rfl dX9_append_15 ?_
        refine jf_sipush (v := 400) hX dX9_append_18 (by decide) ?_
        refine jf_icmp_ge (tgt := 47) hX dX9_append_21 (by decide) ?_ ?_
        · refine jf_iinc (v := -8) (lv' := [(2, .int (x2 + (-8 : Int32))), (0, .ref x0), (1, .int x1)]) hX dX9_append_47 2 rfl (by decide) (by decide) rfl ?_
          refine jf_goto (tgt := 3) hX dX9_append_50 (by decide) ?_
          refine jf_lv [1, 2, 0] rfl ?_
          exact hrec3 x0 x1 (x2 + (-8 : Int32)) u
        · refine jf_aload_n hX dX9_append_24 0 rfl ?_
          refine jf_getR hX ck_X9 0 wfl_482 (by decide) rfl dX9_append_25 ?_
          refine jf_nn (fun q1 => ?_)
          refine jf_aload_n hX dX9_append_28 0 rfl ?_
          refine jf_getI hX ck_X9 1 wfl_481 (by decide) rfl dX9_append_29 ?_
          refine jf_iload_n hX dX9_append_32 1 rfl ?_
          refine jf_iload_n hX dX9_append_33 2 rfl ?_
          refine jf_ishr hX dX9_append_34 ?_
          refine jf_i2b hX dX9_append_35 ?_
          refine jf_bast hX trivial dX9_append_36 (fun u2 => ?_)
          refine jf_aload_n hX dX9_append_37 0 rfl ?_
          refine jf_dup hX dX9_append_38 rfl ?_
          refine jf_getI hX ck_X9 1 wfl_481 (by decide) rfl dX9_append_39 ?_
          refine jf_iconst (v := 1) hX dX9_append_42 (by decide) ?_
          refine jf_iadd hX dX9_append_43 ?_
          refine jf_putI hX trivial ck_X9 1 wfl_481 (by decide) rfl rfl rfl dX9_append_44 (fun u3 => ?_)
          refine jf_iinc (v := -8) (lv' := [(2, .int (x2 + (-8 : Int32))), (0, .ref x0), (1, .int x1)]) hX dX9_append_47 2 rfl (by decide) (by decide) rfl ?_
          refine jf_goto (tgt := 3) hX dX9_append_50 (by decide) ?_
          refine jf_lv [1, 2, 0] rfl ?_
          exact hrec3 x0 x1 (x2 + (-8 : Int32)) u3
set_option maxRecDepth 20000 in
def fX9_append (N : Nat)  (a0 : Nat) (p1 : Int32) (u : SG) : Option (Unit × SG) := gX9_append_3 N  N a0 p1 (24 : Int32) u
set_option maxRecDepth 20000 in
set_option maxHeartbeats 4000000 in
theorem kX9_append  (N : Nat)  (l : Launch) (D : va_G) (cT : Nat → ClassId) (z0 : Nat) (ks : Nat × Nat) (a0 : Nat) (p1 : Int32) (u : SG) : Ct l D cT z0 ks yX9_append cX9_append 3 none 1 0 0 vU [.ref a0, .int p1] u (fX9_append N  a0 p1 u) := by
  unfold fX9_append
  refine ct_of (by decide +kernel) (Nat.le_of_ble_eq_true rfl) (fun p e R s m args below meth c hX => ?_)
  show JF _ True 3 0 0 _ 0 [(0, .ref a0), (1, .int p1)] [] u _
  refine jf_bipush (v := 24) hX dX9_append_0 (by decide) ?_
  refine jf_istore_n (lv' := [(2, .int (24 : Int32)), (0, .ref a0), (1, .int p1)]) hX dX9_append_2 rfl (by decide) rfl ?_
  refine jf_lv [1, 2, 0] rfl ?_
  exact jgX9_append_3 hX N  N a0 p1 (24 : Int32) u
set_option maxRecDepth 20000 in
def fX10_init (N : Nat)  (a0 : Nat) (u : SG) : Option (Unit × SG) := nw u (sNew u 10 0) fun q1 u2 => (cla (u2.1 + 4) (fX9_init N q1 u2) fun r3 u4 => (if zK u4 a0 = 11 then bs (sR u4 a0 0 (some q1)) fun u5 => (nw u5 (sNew u5 9 0) fun q6 u7 => (if zK u7 a0 = 11 then (Option.bind (zR u7 a0 0) fun q8 => (cl (fX8_init N q6 q8 u7) fun r9 u10 => (if zK u10 a0 = 11 then bs (sR u10 a0 1 (some q6)) fun u11 => (nw u11 (sNew u11 6 0) fun q12 u13 => (if zK u13 a0 = 11 then (Option.bind (zR u13 a0 0) fun q14 => (cla (u13.1 + 1) (fX5_init N q12 q14 u13) fun r15 u16 => (if zK u16 a0 = 11 then bs (sR u16 a0 2 (some q12)) fun u17 => (nw u17 (sNew u17 8 0) fun q18 u19 => (cla (u19.1 + 6) (fX7_init N q18 u19) fun r20 u21 => (if zK u21 a0 = 11 then bs (sR u21 a0 3 (some q18)) fun u22 => (if (6 : Int32) < 0 ∨ 6 < (6 : Int32).toNatClampNeg then none else nw u22 (sNew u22 26 (6 : Int32).toNatClampNeg) fun q23 u24 => (if zK u24 a0 = 11 then bs (sR u24 a0 4 (some q23)) fun u25 => (if zK u25 a0 = 11 then bs (sI u25 a0 5 (0 : Int32)) fun u26 => (nw u26 (sNew u26 7 0) fun q27 u28 => (cla (u28.1 + 16) (fX6_init N q27 u28) fun r29 u30 => (if zK u30 a0 = 11 then bs (sR u30 a0 6 (some q27)) fun u31 => (if (4 : Int32) < 0 ∨ 4 < (4 : Int32).toNatClampNeg then none else nw u31 (sNew u31 27 (4 : Int32).toNatClampNeg) fun q32 u33 => (if zK u33 a0 = 11 then bs (sR u33 a0 7 (some q32)) fun u34 => (nw u34 (sNew u34 1 0) fun q35 u36 => (cla (u36.1 + 81) (fX0_init N q35 u36) fun r37 u38 => (if zK u38 a0 = 11 then bs (sR u38 a0 8 (some q35)) fun u39 => (nw u39 (sNew u39 4 0) fun q40 u41 => (cla (u41.1 + 1) (fX3_init N q40 u41) fun r42 u43 => (if zK u43 a0 = 11 then bs (sR u43 a0 9 (some q40)) fun u44 => (nw u44 (sNew u44 3 0) fun q45 u46 => (cla (u46.1 + 3) (fX2_init N q45 u46) fun r47 u48 => (if zK u48 a0 = 11 then bs (sR u48 a0 10 (some q45)) fun u49 => (if (10 : Int32) < 0 ∨ 10 < (10 : Int32).toNatClampNeg then none else nw u49 (sNew u49 22 (10 : Int32).toNatClampNeg) fun q50 u51 => (if zK u51 a0 = 11 then bs (sR u51 a0 11 (some q50)) fun u52 => (if (11 : Int32) < 0 ∨ 11 < (11 : Int32).toNatClampNeg then none else nw u52 (sNew u52 22 (11 : Int32).toNatClampNeg) fun q53 u54 => (if zK u54 a0 = 11 then bs (sR u54 a0 12 (some q53)) fun u55 => (if (4 : Int32) ≤ (0 : Int32) then (none)
  else (if zK u55 a0 = 11 then (Option.bind (zR u55 a0 7) fun q56 => (nw u55 (sNew u55 7 0) fun q57 u58 => (cla (u58.1 + 16) (fX6_init N q57 u58) fun r59 u60 => (if zK u60 q56 = 27 then if (0 : Int32) < 0 ∨ zN u60 q56 ≤ (0 : Int32).toNatClampNeg then none else if zK u60 q57 = 7 then bs (sR u60 q56 (0 : Int32).toNatClampNeg (some q57)) fun u61 => (if (4 : Int32) ≤ (1 : Int32) then (none)
  else (if zK u61 a0 = 11 then (Option.bind (zR u61 a0 7) fun q62 => (nw u61 (sNew u61 7 0) fun q63 u64 => (cla (u64.1 + 16) (fX6_init N q63 u64) fun r65 u66 => (if zK u66 q62 = 27 then if (1 : Int32) < 0 ∨ zN u66 q62 ≤ (1 : Int32).toNatClampNeg then none else if zK u66 q63 = 7 then bs (sR u66 q62 (1 : Int32).toNatClampNeg (some q63)) fun u67 => (if (4 : Int32) ≤ (2 : Int32) then (none)
  else (if zK u67 a0 = 11 then (Option.bind (zR u67 a0 7) fun q68 => (nw u67 (sNew u67 7 0) fun q69 u70 => (cla (u70.1 + 16) (fX6_init N q69 u70) fun r71 u72 => (if zK u72 q68 = 27 then if (2 : Int32) < 0 ∨ zN u72 q68 ≤ (2 : Int32).toNatClampNeg then none else if zK u72 q69 = 7 then bs (sR u72 q68 (2 : Int32).toNatClampNeg (some q69)) fun u73 => (if (4 : Int32) ≤ (3 : Int32) then (none)
  else (if zK u73 a0 = 11 then (Option.bind (zR u73 a0 7) fun q74 => (nw u73 (sNew u73 7 0) fun q75 u76 => (cla (u76.1 + 16) (fX6_init N q75 u76) fun r77 u78 => (if zK u78 q74 = 27 then if (3 : Int32) < 0 ∨ zN u78 q74 ≤ (3 : Int32).toNatClampNeg then none else if zK u78 q75 = 7 then bs (sR u78 q74 (3 : Int32).toNatClampNeg (some q75)) fun u79 => (if (4 : Int32) ≤ (4 : Int32) then (some ((), u79))
  else (none)) else none else none)))) else none)) else none else none)))) else none)) else none else none)))) else none)) else none else none)))) else none)) else none)) else none)) else none))) else none))) else none))) else none)) else none))) else none) else none)) else none))) else none))) else none)) else none))) else none)) else none))
set_option maxRecDepth 20000 in
set_option maxHeartbeats 4000000 in
theorem kX10_init  (N : Nat)  (l : Launch) (D : va_G) (cT : Nat → ClassId) (z0 : Nat) (ks : Nat × Nat) (a0 : Nat) (u : SG) : Ct l D cT z0 ks yX10_init cX10_init 2 none 3 192 3339 vU [.ref a0] u (fX10_init N  a0 u) := by
  unfold fX10_init
  refine ct_of (by decide +kernel) (Nat.le_of_ble_eq_true rfl) (fun p e R s m args below meth c hX => ?_)
  show JF _ True 2 0 0 _ 0 [(0, .ref a0)] [] u _
  refine jf_aload_n hX dX10_init_0 0 rfl ?_
  refine jf_objInit hX wml_656 winst_17 wcode_18 (by decide) (Nat.le_of_ble_eq_true rfl) dX10_init_1 ?_
  refine jf_aload_n hX dX10_init_4 0 rfl ?_
  refine jf_new hX trivial 9 ck_X9 df_X9 wclk_657 winsta_658 wini_659 (by decide) (by decide) dX10_init_5 (fun q1 u2 => ?_)
  refine jf_dup hX dX10_init_8 rfl ?_
  refine jf_callIN (As := []) (st := [.ref q1, .ref a0]) hX mo_X9_init wnest_660 winst_661 rfl rfl rfl (fun l D cT z0 ks => kX9_init N l D cT z0 ks q1 u2) (by decide) (by decide) (by decide) (by decide) (Nat.le_of_ble_eq_true rfl) rfl dX10_init_9 (fun r3 u4 => ?_)
  refine jf_putRF (v := some q1) hX trivial ck_X10 0 wfl_662 (by decide) rfl rfl rfl rfl rfl dX10_init_12 (fun u5 => ?_)
  refine jf_aload_n hX dX10_init_15 0 rfl ?_
  refine jf_new hX trivial 8 ck_X8 df_X8 wclk_663 winsta_664 wini_665 (by decide) (by decide) dX10_init_16 (fun q6 u7 => ?_)
  refine jf_dup hX dX10_init_19 rfl ?_
  refine jf_aload_n hX dX10_init_20 0 rfl ?_
  refine jf_getR hX ck_X10 0 wfl_662 (by decide) rfl dX10_init_21 ?_
  refine jf_nn (fun q8 => ?_)
  refine jf_callI0 (As := [.ref q8]) (st := [.ref q6, .ref a0]) hX mo_X8_init wml_666 winst_667 rfl rfl rfl (fun l D cT z0 ks => kX8_init N l D cT z0 ks q6 q8 u7) (by decide) (by decide) (by decide) (by decide) (Nat.le_of_ble_eq_true rfl) rfl rfl dX10_init_24 (fun r9 u10 => ?_)
  refine jf_putRF (v := some q6) hX trivial ck_X10 1 wfl_668 (by decide) rfl rfl rfl rfl rfl dX10_init_27 (fun u11 => ?_)
  refine jf_aload_n hX dX10_init_30 0 rfl ?_
  refine jf_new hX trivial 5 ck_X5 df_X5 wclk_669 winsta_670 wini_671 (by decide) (by decide) dX10_init_31 (fun q12 u13 => ?_)
  refine jf_dup hX dX10_init_34 rfl ?_
  refine jf_aload_n hX dX10_init_35 0 rfl ?_
  refine jf_getR hX ck_X10 0 wfl_662 (by decide) rfl dX10_init_36 ?_
  refine jf_nn (fun q14 => ?_)
  refine jf_callI (As := [.ref q14]) (st := [.ref q12, .ref a0]) hX mo_X5_init wml_672 winst_673 rfl rfl rfl (fun l D cT z0 ks => kX5_init N l D cT z0 ks q12 q14 u13) (by decide) (by decide) (by decide) (by decide) (Nat.le_of_ble_eq_true rfl) rfl dX10_init_39 (fun r15 u16 => ?_)
  refine jf_putRF (v := some q12) hX trivial ck_X10 2 wfl_674 (by decide) rfl rfl rfl rfl rfl dX10_init_42 (fun u17 => ?_)
  refine jf_aload_n hX dX10_init_45 0 rfl ?_
  refine jf_new hX trivial 7 ck_X7 df_X7 wclk_675 winsta_575 wini_576 (by decide) (by decide) dX10_init_46 (fun q18 u19 => ?_)
  refine jf_dup hX dX10_init_49 rfl ?_
  refine jf_callIN (As := []) (st := [.ref q18, .ref a0]) hX mo_X7_init wnest_676 winst_578 rfl rfl rfl (fun l D cT z0 ks => kX7_init N l D cT z0 ks q18 u19) (by decide) (by decide) (by decide) (by decide) (Nat.le_of_ble_eq_true rfl) rfl dX10_init_50 (fun r20 u21 => ?_)
  refine jf_putRF (v := some q18) hX trivial ck_X10 3 wfl_677 (by decide) rfl rfl rfl rfl rfl dX10_init_53 (fun u22 => ?_)
  refine jf_aload_n hX dX10_init_56 0 rfl ?_
  refine jf_bipush (v := 6) hX dX10_init_57 (by decide) ?_
  refine jf_newq26 hX trivial wclk_678 wover_679 6 (by decide) (by decide) (by decide) dX10_init_59 (fun q23 u24 => ?_)
  refine jf_putRF (v := some q23) hX trivial ck_X10 4 wfl_680 (by decide) rfl rfl rfl rfl rfl dX10_init_62 (fun u25 => ?_)
  refine jf_aload_n hX dX10_init_65 0 rfl ?_
  refine jf_iconst (v := 0) hX dX10_init_66 (by decide) ?_
  refine jf_putI hX trivial ck_X10 5 wfl_681 (by decide) rfl rfl rfl dX10_init_67 (fun u26 => ?_)
  refine jf_aload_n hX dX10_init_70 0 rfl ?_
  refine jf_new hX trivial 6 ck_X6 df_X6 wclk_682 winsta_683 wini_684 (by decide) (by decide) dX10_init_71 (fun q27 u28 => ?_)
  refine jf_dup hX dX10_init_74 rfl ?_
  refine jf_callIN (As := []) (st := [.ref q27, .ref a0]) hX mo_X6_init wnest_685 winst_686 rfl rfl rfl (fun l D cT z0 ks => kX6_init N l D cT z0 ks q27 u28) (by decide) (by decide) (by decide) (by decide) (Nat.le_of_ble_eq_true rfl) rfl dX10_init_75 (fun r29 u30 => ?_)
  refine jf_putRF (v := some q27) hX trivial ck_X10 6 wfl_687 (by decide) rfl rfl rfl rfl rfl dX10_init_78 (fun u31 => ?_)
  refine jf_aload_n hX dX10_init_81 0 rfl ?_
  refine jf_iconst (v := 4) hX dX10_init_82 (by decide) ?_
  refine jf_newq27 hX trivial wclk_682 wover_688 4 (by decide) (by decide) (by decide) dX10_init_83 (fun q32 u33 => ?_)
  refine jf_putRF (v := some q32) hX trivial ck_X10 7 wfl_689 (by decide) rfl rfl rfl rfl rfl dX10_init_86 (fun u34 => ?_)
  refine jf_aload_n hX dX10_init_89 0 rfl ?_
  refine jf_new hX trivial 0 ck_X0 df_X0 wclk_690 winsta_691 wini_692 (by decide) (by decide) dX10_init_90 (fun q35 u36 => ?_)
  refine jf_dup hX dX10_init_93 rfl ?_
  refine jf_callI (As := []) (st := [.ref q35, .ref a0]) hX mo_X0_init wml_693 winst_694 rfl rfl rfl (fun l D cT z0 ks => kX0_init N l D cT z0 ks q35 u36) (by decide) (by decide) (by decide) (by decide) (Nat.le_of_ble_eq_true rfl) rfl dX10_init_94 (fun r37 u38 => ?_)
  refine jf_putRF (v := some q35) hX trivial ck_X10 8 wfl_695 (by decide) rfl rfl rfl rfl rfl dX10_init_97 (fun u39 => ?_)
  refine jf_aload_n hX dX10_init_100 0 rfl ?_
  refine jf_new hX trivial 3 ck_X3 df_X3 wclk_696 winsta_697 wini_698 (by decide) (by decide) dX10_init_101 (fun q40 u41 => ?_)
  refine jf_dup hX dX10_init_104 rfl ?_
  refine jf_callIN (As := []) (st := [.ref q40, .ref a0]) hX mo_X3_init wnest_699 winst_700 rfl rfl rfl (fun l D cT z0 ks => kX3_init N l D cT z0 ks q40 u41) (by decide) (by decide) (by decide) (by decide) (Nat.le_of_ble_eq_true rfl) rfl dX10_init_105 (fun r42 u43 => ?_)
  refine jf_putRF (v := some q40) hX trivial ck_X10 9 wfl_701 (by decide) rfl rfl rfl rfl rfl dX10_init_108 (fun u44 => ?_)
  refine jf_aload_n hX dX10_init_111 0 rfl ?_
  refine jf_new hX trivial 2 ck_X2 df_X2 wclk_702 winsta_355 wini_356 (by decide) (by decide) dX10_init_112 (fun q45 u46 => ?_)
  refine jf_dup hX dX10_init_115 rfl ?_
  refine jf_callIN (As := []) (st := [.ref q45, .ref a0]) hX mo_X2_init wnest_703 winst_358 rfl rfl rfl (fun l D cT z0 ks => kX2_init N l D cT z0 ks q45 u46) (by decide) (by decide) (by decide) (by decide) (Nat.le_of_ble_eq_true rfl) rfl dX10_init_116 (fun r47 u48 => ?_)
  refine jf_putRF (v := some q45) hX trivial ck_X10 10 wfl_704 (by decide) rfl rfl rfl rfl rfl dX10_init_119 (fun u49 => ?_)
  refine jf_aload_n hX dX10_init_122 0 rfl ?_
  refine jf_bipush (v := 10) hX dX10_init_123 (by decide) ?_
  refine jf_newaI hX trivial warrc_21 10 (by decide) (by decide) (by decide) dX10_init_125 (fun q50 u51 => ?_)
  refine jf_putRF (v := some q50) hX trivial ck_X10 11 wfl_705 (by decide) rfl rfl rfl rfl rfl dX10_init_127 (fun u52 => ?_)
  refine jf_aload_n hX dX10_init_130 0 rfl ?_
  refine jf_bipush (v := 11) hX dX10_init_131 (by decide) ?_
  refine jf_newaI hX trivial warrc_21 11 (by decide) (by decide) (by decide) dX10_init_133 (fun q53 u54 => ?_)
  refine jf_putRF (v := some q53) hX trivial ck_X10 12 wfl_706 (by decide) rfl rfl rfl rfl rfl dX10_init_135 (fun u55 => ?_)
  refine jf_iconst (v := 0) hX dX10_init_138 (by decide) ?_
  refine jf_istore_n (lv' := [(1, .int (0 : Int32)), (0, .ref a0)]) hX dX10_init_139 rfl (by decide) rfl ?_
  refine jf_iload_n hX dX10_init_140 0 rfl ?_
  refine jf_iconst (v := 4) hX dX10_init_141 (by decide) ?_
  refine jf_icmp_ge (tgt := 164) hX dX10_init_142 (by decide) ?_ ?_
  · exact jf_none
  · refine jf_aload_n hX dX10_init_145 1 rfl ?_
    refine jf_getR hX ck_X10 7 wfl_689 (by decide) rfl dX10_init_146 ?_
    refine jf_nn (fun q56 => ?_)
    refine jf_iload_n hX dX10_init_149 0 rfl ?_
    refine jf_new hX trivial 6 ck_X6 df_X6 wclk_682 winsta_683 wini_684 (by decide) (by decide) dX10_init_150 (fun q57 u58 => ?_)
    refine jf_dup hX dX10_init_153 rfl ?_
    refine jf_callIN (As := []) (st := [.ref q57, .int (0 : Int32), .ref q56]) hX mo_X6_init wnest_685 winst_686 rfl rfl rfl (fun l D cT z0 ks => kX6_init N l D cT z0 ks q57 u58) (by decide) (by decide) (by decide) (by decide) (Nat.le_of_ble_eq_true rfl) rfl dX10_init_154 (fun r59 u60 => ?_)
    refine jf_aast27 hX trivial ck_X6 dX10_init_157 (fun u61 => ?_)
    refine jf_iinc (v := 1) (lv' := [(1, .int (1 : Int32)), (0, .ref a0)]) hX dX10_init_158 0 rfl (by decide) (by decide) rfl ?_
    refine jf_goto (tgt := 140) hX dX10_init_161 (by decide) ?_
    refine jf_iload_n hX dX10_init_140 0 rfl ?_
    refine jf_iconst (v := 4) hX dX10_init_141 (by decide) ?_
    refine jf_icmp_ge (tgt := 164) hX dX10_init_142 (by decide) ?_ ?_
    · exact jf_none
    · refine jf_aload_n hX dX10_init_145 1 rfl ?_
      refine jf_getR hX ck_X10 7 wfl_689 (by decide) rfl dX10_init_146 ?_
      refine jf_nn (fun q62 => ?_)
      refine jf_iload_n hX dX10_init_149 0 rfl ?_
      refine jf_new hX trivial 6 ck_X6 df_X6 wclk_682 winsta_683 wini_684 (by decide) (by decide) dX10_init_150 (fun q63 u64 => ?_)
      refine jf_dup hX dX10_init_153 rfl ?_
      refine jf_callIN (As := []) (st := [.ref q63, .int (1 : Int32), .ref q62]) hX mo_X6_init wnest_685 winst_686 rfl rfl rfl (fun l D cT z0 ks => kX6_init N l D cT z0 ks q63 u64) (by decide) (by decide) (by decide) (by decide) (Nat.le_of_ble_eq_true rfl) rfl dX10_init_154 (fun r65 u66 => ?_)
      refine jf_aast27 hX trivial ck_X6 dX10_init_157 (fun u67 => ?_)
      refine jf_iinc (v := 1) (lv' := [(1, .int (2 : Int32)), (0, .ref a0)]) hX dX10_init_158 0 rfl (by decide) (by decide) rfl ?_
      refine jf_goto (tgt := 140) hX dX10_init_161 (by decide) ?_
      refine jf_iload_n hX dX10_init_140 0 rfl ?_
      refine jf_iconst (v := 4) hX dX10_init_141 (by decide) ?_
      refine jf_icmp_ge (tgt := 164) hX dX10_init_142 (by decide) ?_ ?_
      · exact jf_none
      · refine jf_aload_n hX dX10_init_145 1 rfl ?_
        refine jf_getR hX ck_X10 7 wfl_689 (by decide) rfl dX10_init_146 ?_
        refine jf_nn (fun q68 => ?_)
        refine jf_iload_n hX dX10_init_149 0 rfl ?_
        refine jf_new hX trivial 6 ck_X6 df_X6 wclk_682 winsta_683 wini_684 (by decide) (by decide) dX10_init_150 (fun q69 u70 => ?_)
        refine jf_dup hX dX10_init_153 rfl ?_
        refine jf_callIN (As := []) (st := [.ref q69, .int (2 : Int32), .ref q68]) hX mo_X6_init wnest_685 winst_686 rfl rfl rfl (fun l D cT z0 ks => kX6_init N l D cT z0 ks q69 u70) (by decide) (by decide) (by decide) (by decide) (Nat.le_of_ble_eq_true rfl) rfl dX10_init_154 (fun r71 u72 => ?_)
        refine jf_aast27 hX trivial ck_X6 dX10_init_157 (fun u73 => ?_)
        refine jf_iinc (v := 1) (lv' := [(1, .int (3 : Int32)), (0, .ref a0)]) hX dX10_init_158 0 rfl (by decide) (by decide) rfl ?_
        refine jf_goto (tgt := 140) hX dX10_init_161 (by decide) ?_
        refine jf_iload_n hX dX10_init_140 0 rfl ?_
        refine jf_iconst (v := 4) hX dX10_init_141 (by decide) ?_
        refine jf_icmp_ge (tgt := 164) hX dX10_init_142 (by decide) ?_ ?_
        · exact jf_none
        · refine jf_aload_n hX dX10_init_145 1 rfl ?_
          refine jf_getR hX ck_X10 7 wfl_689 (by decide) rfl dX10_init_146 ?_
          refine jf_nn (fun q74 => ?_)
          refine jf_iload_n hX dX10_init_149 0 rfl ?_
          refine jf_new hX trivial 6 ck_X6 df_X6 wclk_682 winsta_683 wini_684 (by decide) (by decide) dX10_init_150 (fun q75 u76 => ?_)
          refine jf_dup hX dX10_init_153 rfl ?_
          refine jf_callIN (As := []) (st := [.ref q75, .int (3 : Int32), .ref q74]) hX mo_X6_init wnest_685 winst_686 rfl rfl rfl (fun l D cT z0 ks => kX6_init N l D cT z0 ks q75 u76) (by decide) (by decide) (by decide) (by decide) (Nat.le_of_ble_eq_true rfl) rfl dX10_init_154 (fun r77 u78 => ?_)
          refine jf_aast27 hX trivial ck_X6 dX10_init_157 (fun u79 => ?_)
          refine jf_iinc (v := 1) (lv' := [(1, .int (4 : Int32)), (0, .ref a0)]) hX dX10_init_158 0 rfl (by decide) (by decide) rfl ?_
          refine jf_goto (tgt := 140) hX dX10_init_161 (by decide) ?_
          refine jf_iload_n hX dX10_init_140 0 rfl ?_
          refine jf_iconst (v := 4) hX dX10_init_141 (by decide) ?_
          refine jf_icmp_ge (tgt := 164) hX dX10_init_142 (by decide) ?_ ?_
          · exact jf_vret hX rfl (by decide) (by decide) dX10_init_164
          · exact jf_none
set_option maxRecDepth 20000 in
def fX10_feed (N : Nat)  (a0 : Nat) (p1 : Int32) (p2 : Int32) (p3 : Int32) (p4 : Int32) (p5 : Int32) (u : SG) : Option (Int32 × SG) := if zK u a0 = 11 then (Option.bind (zR u a0 0) fun q1 => (if zK u q1 = 10 then cl (fX9_hasRoom N q1 (20 : Int32) u) fun r2 u3 => (if r2 = 0 then (some ((-1 : Int32), u3))
  else (if zK u3 a0 = 11 then (Option.bind (zR u3 a0 0) fun q4 => (if zK u3 q4 = 10 then cl (fX9_append N q4 p1 u3) fun r5 u6 => (if zK u6 a0 = 11 then (Option.bind (zR u6 a0 0) fun q7 => (if zK u6 q7 = 10 then cl (fX9_append N q7 p2 u6) fun r8 u9 => (if zK u9 a0 = 11 then (Option.bind (zR u9 a0 0) fun q10 => (if zK u9 q10 = 10 then cl (fX9_append N q10 p3 u9) fun r11 u12 => (if zK u12 a0 = 11 then (Option.bind (zR u12 a0 0) fun q13 => (if zK u12 q13 = 10 then cl (fX9_append N q13 p4 u12) fun r14 u15 => (if zK u15 a0 = 11 then (Option.bind (zR u15 a0 0) fun q16 => (if zK u15 q16 = 10 then cl (fX9_append N q16 p5 u15) fun r17 u18 => (if zK u18 a0 = 11 then (Option.bind (zR u18 a0 0) fun q19 => (if zK u18 q19 = 10 then (some (zI u18 q19 1, u18)) else none)) else none) else none)) else none) else none)) else none) else none)) else none) else none)) else none) else none)) else none)) else none)) else none
set_option maxRecDepth 20000 in
set_option maxHeartbeats 4000000 in
theorem kX10_feed  (N : Nat)  (l : Launch) (D : va_G) (cT : Nat → ClassId) (z0 : Nat) (ks : Nat × Nat) (a0 : Nat) (p1 : Int32) (p2 : Int32) (p3 : Int32) (p4 : Int32) (p5 : Int32) (u : SG) : Ct l D cT z0 ks yX10_feed cX10_feed 6 (some .int) 2 0 0 vI [.ref a0, .int p1, .int p2, .int p3, .int p4, .int p5] u (fX10_feed N  a0 p1 p2 p3 p4 p5 u) := by
  unfold fX10_feed
  refine ct_of (by decide +kernel) (Nat.le_of_ble_eq_true rfl) (fun p e R s m args below meth c hX => ?_)
  show JF _ True 6 0 0 _ 0 [(0, .ref a0), (1, .int p1), (2, .int p2), (3, .int p3), (4, .int p4), (5, .int p5)] [] u _
  refine jf_aload_n hX dX10_feed_0 0 rfl ?_
  refine jf_getR hX ck_X10 0 wfl_662 (by decide) rfl dX10_feed_1 ?_
  refine jf_nn (fun q1 => ?_)
  refine jf_bipush (v := 20) hX dX10_feed_4 (by decide) ?_
  refine jf_callV (As := [.int (20 : Int32)]) (st := []) hX mo_X9_hasRoom wml_707 winst_708 wsel_709 9 ck_X9 rfl (fun l D cT z0 ks => kX9_hasRoom N l D cT z0 ks q1 (20 : Int32) u) (by decide) (by decide) (by decide) (by decide) (Nat.le_of_ble_eq_true rfl) rfl rfl dX10_feed_6 (fun r2 u3 => ?_)
  refine jf_if_ne (tgt := 14) hX dX10_feed_9 (by decide) ?_ ?_
  · refine jf_aload_n hX dX10_feed_14 0 rfl ?_
    refine jf_getR hX ck_X10 0 wfl_662 (by decide) rfl dX10_feed_15 ?_
    refine jf_nn (fun q4 => ?_)
    refine jf_iload_n hX dX10_feed_18 1 rfl ?_
    refine jf_callV (As := [.int p1]) (st := []) hX mo_X9_append wml_710 winst_711 wsel_712 9 ck_X9 rfl (fun l D cT z0 ks => kX9_append N l D cT z0 ks q4 p1 u3) (by decide) (by decide) (by decide) (by decide) (Nat.le_of_ble_eq_true rfl) rfl rfl dX10_feed_19 (fun r5 u6 => ?_)
    refine jf_aload_n hX dX10_feed_22 0 rfl ?_
    refine jf_getR hX ck_X10 0 wfl_662 (by decide) rfl dX10_feed_23 ?_
    refine jf_nn (fun q7 => ?_)
    refine jf_iload_n hX dX10_feed_26 2 rfl ?_
    refine jf_callV (As := [.int p2]) (st := []) hX mo_X9_append wml_710 winst_711 wsel_712 9 ck_X9 rfl (fun l D cT z0 ks => kX9_append N l D cT z0 ks q7 p2 u6) (by decide) (by decide) (by decide) (by decide) (Nat.le_of_ble_eq_true rfl) rfl rfl dX10_feed_27 (fun r8 u9 => ?_)
    refine jf_aload_n hX dX10_feed_30 0 rfl ?_
    refine jf_getR hX ck_X10 0 wfl_662 (by decide) rfl dX10_feed_31 ?_
    refine jf_nn (fun q10 => ?_)
    refine jf_iload_n hX dX10_feed_34 3 rfl ?_
    refine jf_callV (As := [.int p3]) (st := []) hX mo_X9_append wml_710 winst_711 wsel_712 9 ck_X9 rfl (fun l D cT z0 ks => kX9_append N l D cT z0 ks q10 p3 u9) (by decide) (by decide) (by decide) (by decide) (Nat.le_of_ble_eq_true rfl) rfl rfl dX10_feed_35 (fun r11 u12 => ?_)
    refine jf_aload_n hX dX10_feed_38 0 rfl ?_
    refine jf_getR hX ck_X10 0 wfl_662 (by decide) rfl dX10_feed_39 ?_
    refine jf_nn (fun q13 => ?_)
    refine jf_iload hX dX10_feed_42 4 rfl ?_
    refine jf_callV (As := [.int p4]) (st := []) hX mo_X9_append wml_710 winst_711 wsel_712 9 ck_X9 rfl (fun l D cT z0 ks => kX9_append N l D cT z0 ks q13 p4 u12) (by decide) (by decide) (by decide) (by decide) (Nat.le_of_ble_eq_true rfl) rfl rfl dX10_feed_44 (fun r14 u15 => ?_)
    refine jf_aload_n hX dX10_feed_47 0 rfl ?_
    refine jf_getR hX ck_X10 0 wfl_662 (by decide) rfl dX10_feed_48 ?_
    refine jf_nn (fun q16 => ?_)
    refine jf_iload hX dX10_feed_51 5 rfl ?_
    refine jf_callV (As := [.int p5]) (st := []) hX mo_X9_append wml_710 winst_711 wsel_712 9 ck_X9 rfl (fun l D cT z0 ks => kX9_append N l D cT z0 ks q16 p5 u15) (by decide) (by decide) (by decide) (by decide) (Nat.le_of_ble_eq_true rfl) rfl rfl dX10_feed_53 (fun r17 u18 => ?_)
    refine jf_aload_n hX dX10_feed_56 0 rfl ?_
    refine jf_getR hX ck_X10 0 wfl_662 (by decide) rfl dX10_feed_57 ?_
    refine jf_nn (fun q19 => ?_)
    refine jf_getI hX ck_X9 1 wfl_713 (by decide) rfl dX10_feed_60 ?_
    exact jf_iret hX rfl (by decide) (by decide) dX10_feed_63
  · refine jf_iconst (v := -1) hX dX10_feed_12 (by decide) ?_
    exact jf_iret hX rfl (by decide) (by decide) dX10_feed_13
set_option maxRecDepth 20000 in
def fX10_end (N : Nat)  (a0 : Nat) (p1 : Int32) (u : SG) : Option (Int32 × SG) := if p1 < 0 then (some ((-1 : Int32), u))
  else (if zK u a0 = 11 then (Option.bind (zR u a0 0) fun q1 => (if zK u q1 = 10 then (if p1 ≤ (zI u q1 1) then (if zK u a0 = 11 then (Option.bind (zR u a0 0) fun q2 => (if zK u q2 = 10 then bs (sI u q2 1 p1) fun u3 => (some (p1, u3)) else none)) else none)
  else (some ((-1 : Int32), u))) else none)) else none)
set_option maxRecDepth 20000 in
set_option maxHeartbeats 4000000 in
theorem kX10_end  (N : Nat)  (l : Launch) (D : va_G) (cT : Nat → ClassId) (z0 : Nat) (ks : Nat × Nat) (a0 : Nat) (p1 : Int32) (u : SG) : Ct l D cT z0 ks yX10_end cX10_end 2 (some .int) 1 0 0 vI [.ref a0, .int p1] u (fX10_end N  a0 p1 u) := by
  unfold fX10_end
  refine ct_of (by decide +kernel) (Nat.le_of_ble_eq_true rfl) (fun p e R s m args below meth c hX => ?_)
  show JF _ True 2 0 0 _ 0 [(0, .ref a0), (1, .int p1)] [] u _
  refine jf_iload_n hX dX10_end_0 1 rfl ?_
  refine jf_if_lt (tgt := 15) hX dX10_end_1 (by decide) ?_ ?_
  · refine jf_iconst (v := -1) hX dX10_end_15 (by decide) ?_
    exact jf_iret hX rfl (by decide) (by decide) dX10_end_16
  · refine jf_iload_n hX dX10_end_4 1 rfl ?_
    refine jf_aload_n hX dX10_end_5 0 rfl ?_
    refine jf_getR hX ck_X10 0 wfl_662 (by decide) rfl dX10_end_6 ?_
    refine jf_nn (fun q1 => ?_)
    refine jf_getI hX ck_X9 1 wfl_713 (by decide) rfl dX10_end_9 ?_
    refine jf_icmp_le (tgt := 17) hX dX10_end_12 (by decide) ?_ ?_
    · refine jf_aload_n hX dX10_end_17 0 rfl ?_
      refine jf_getR hX ck_X10 0 wfl_662 (by decide) rfl dX10_end_18 ?_
      refine jf_nn (fun q2 => ?_)
      refine jf_iload_n hX dX10_end_21 1 rfl ?_
      refine jf_putI hX trivial ck_X9 1 wfl_713 (by decide) rfl rfl rfl dX10_end_22 (fun u3 => ?_)
      refine jf_iload_n hX dX10_end_25 1 rfl ?_
      exact jf_iret hX rfl (by decide) (by decide) dX10_end_26
    · refine jf_iconst (v := -1) hX dX10_end_15 (by decide) ?_
      exact jf_iret hX rfl (by decide) (by decide) dX10_end_16
set_option maxRecDepth 20000 in
def fX10_street (N : Nat)  (a0 : Nat) (u : SG) : Option (Int32 × SG) := if zK u a0 = 11 then (Option.bind (zR u a0 1) fun q1 => (if zK u a0 = 11 then (Option.bind (zR u a0 3) fun q2 => (if zK u q1 = 9 then cl (fX8_readInto N q1 q2 u) fun r3 u4 => (if zK u4 a0 = 11 then (Option.bind (zR u4 a0 0) fun q5 => (if zK u4 q5 = 10 then bs (sI u4 q5 1 (0 : Int32)) fun u6 => (if r3 = 0 then (if zK u6 a0 = 11 then (Option.bind (zR u6 a0 6) fun q7 => (if zK u6 q7 = 7 then (Option.bind (zR u6 q7 0) fun q8 => (if zK u6 a0 = 11 then (Option.bind (zR u6 a0 3) fun q9 => (if zK u6 q8 = 8 then cl (fX7_copyOf N q8 q9 u6) fun r10 u11 => (if zK u11 a0 = 11 then (Option.bind (zR u11 a0 6) fun q12 => (if zK u11 q12 = 7 then (Option.bind (zR u11 q12 1) fun q13 => (if zK u11 q13 = 3 then cl (fX2_clear N q13 u11) fun r14 u15 => (if zK u15 a0 = 11 then (Option.bind (zR u15 a0 6) fun q16 => (if zK u15 q16 = 7 then (Option.bind (zR u15 q16 2) fun q17 => (if zK u15 q17 = 2 then cl (fX1_clear N q17 u15) fun r18 u19 => (if zK u19 a0 = 11 then (Option.bind (zR u19 a0 8) fun q20 => (if zK u19 q20 = 1 then cl (fX0_clear N q20 u19) fun r21 u22 => (if zK u22 a0 = 11 then (Option.bind (zR u22 a0 6) fun q23 => (if zK u22 q23 = 7 then (Option.bind (zR u22 q23 0) fun q24 => (if zK u22 q24 = 8 then (some (zI u22 q24 7, u22)) else none)) else none)) else none) else none)) else none) else none)) else none)) else none) else none)) else none)) else none) else none)) else none)) else none)) else none)
  else (some ((-2 : Int32) - r3, u6))) else none)) else none) else none)) else none)) else none
set_option maxRecDepth 20000 in
set_option maxHeartbeats 4000000 in
theorem kX10_street  (N : Nat)  (l : Launch) (D : va_G) (cT : Nat → ClassId) (z0 : Nat) (ks : Nat × Nat) (a0 : Nat) (u : SG) : Ct l D cT z0 ks yX10_street cX10_street 2 (some .int) 12 0 0 vI [.ref a0] u (fX10_street N  a0 u) := by
  unfold fX10_street
  refine ct_of (by decide +kernel) (Nat.le_of_ble_eq_true rfl) (fun p e R s m args below meth c hX => ?_)
  show JF _ True 2 0 0 _ 0 [(0, .ref a0)] [] u _
  refine jf_aload_n hX dX10_street_0 0 rfl ?_
  refine jf_getR hX ck_X10 1 wfl_668 (by decide) rfl dX10_street_1 ?_
  refine jf_nn (fun q1 => ?_)
  refine jf_aload_n hX dX10_street_4 0 rfl ?_
  refine jf_getR hX ck_X10 3 wfl_677 (by decide) rfl dX10_street_5 ?_
  refine jf_nn (fun q2 => ?_)
  refine jf_callV (As := [.ref q2]) (st := []) hX mo_X8_readInto wml_714 winst_715 wsel_716 8 ck_X8 rfl (fun l D cT z0 ks => kX8_readInto N l D cT z0 ks q1 q2 u) (by decide) (by decide) (by decide) (by decide) (Nat.le_of_ble_eq_true rfl) rfl rfl dX10_street_8 (fun r3 u4 => ?_)
  refine jf_istore_n (lv' := [(1, .int r3), (0, .ref a0)]) hX dX10_street_11 rfl (by decide) rfl ?_
  refine jf_aload_n hX dX10_street_12 1 rfl ?_
  refine jf_getR hX ck_X10 0 wfl_662 (by decide) rfl dX10_street_13 ?_
  refine jf_nn (fun q5 => ?_)
  refine jf_iconst (v := 0) hX dX10_street_16 (by decide) ?_
  refine jf_putI hX trivial ck_X9 1 wfl_713 (by decide) rfl rfl rfl dX10_street_17 (fun u6 => ?_)
  refine jf_iload_n hX dX10_street_20 0 rfl ?_
  refine jf_if_eq (tgt := 29) hX dX10_street_21 (by decide) ?_ ?_
  · refine jf_aload_n hX dX10_street_29 1 rfl ?_
    refine jf_getR hX ck_X10 6 wfl_687 (by decide) rfl dX10_street_30 ?_
    refine jf_nn (fun q7 => ?_)
    refine jf_getR hX ck_X6 0 wfl_717 (by decide) rfl dX10_street_33 ?_
    refine jf_nn (fun q8 => ?_)
    refine jf_aload_n hX dX10_street_36 1 rfl ?_
    refine jf_getR hX ck_X10 3 wfl_677 (by decide) rfl dX10_street_37 ?_
    refine jf_nn (fun q9 => ?_)
    refine jf_callV (As := [.ref q9]) (st := []) hX mo_X7_copyOf wml_718 winst_594 wsel_595 7 ck_X7 rfl (fun l D cT z0 ks => kX7_copyOf N l D cT z0 ks q8 q9 u6) (by decide) (by decide) (by decide) (by decide) (Nat.le_of_ble_eq_true rfl) rfl rfl dX10_street_40 (fun r10 u11 => ?_)
    refine jf_aload_n hX dX10_street_43 1 rfl ?_
    refine jf_getR hX ck_X10 6 wfl_687 (by decide) rfl dX10_street_44 ?_
    refine jf_nn (fun q12 => ?_)
    refine jf_getR hX ck_X6 1 wfl_719 (by decide) rfl dX10_street_47 ?_
    refine jf_nn (fun q13 => ?_)
    refine jf_callV (As := []) (st := []) hX mo_X2_clear wml_720 winst_721 wsel_722 2 ck_X2 rfl (fun l D cT z0 ks => kX2_clear N l D cT z0 ks q13 u11) (by decide) (by decide) (by decide) (by decide) (Nat.le_of_ble_eq_true rfl) rfl rfl dX10_street_50 (fun r14 u15 => ?_)
    refine jf_aload_n hX dX10_street_53 1 rfl ?_
    refine jf_getR hX ck_X10 6 wfl_687 (by decide) rfl dX10_street_54 ?_
    refine jf_nn (fun q16 => ?_)
    refine jf_getR hX ck_X6 2 wfl_723 (by decide) rfl dX10_street_57 ?_
    refine jf_nn (fun q17 => ?_)
    refine jf_callV (As := []) (st := []) hX mo_X1_clear wml_724 winst_725 wsel_726 1 ck_X1 rfl (fun l D cT z0 ks => kX1_clear N l D cT z0 ks q17 u15) (by decide) (by decide) (by decide) (by decide) (Nat.le_of_ble_eq_true rfl) rfl rfl dX10_street_60 (fun r18 u19 => ?_)
    refine jf_aload_n hX dX10_street_63 1 rfl ?_
    refine jf_getR hX ck_X10 8 wfl_695 (by decide) rfl dX10_street_64 ?_
    refine jf_nn (fun q20 => ?_)
    refine jf_callV (As := []) (st := []) hX mo_X0_clear wml_727 winst_728 wsel_729 0 ck_X0 rfl (fun l D cT z0 ks => kX0_clear N l D cT z0 ks q20 u19) (by decide) (by decide) (by decide) (by decide) (Nat.le_of_ble_eq_true rfl) rfl rfl dX10_street_67 (fun r21 u22 => ?_)
    refine jf_aload_n hX dX10_street_70 1 rfl ?_
    refine jf_getR hX ck_X10 6 wfl_687 (by decide) rfl dX10_street_71 ?_
    refine jf_nn (fun q23 => ?_)
    refine jf_getR hX ck_X6 0 wfl_717 (by decide) rfl dX10_street_74 ?_
    refine jf_nn (fun q24 => ?_)
    refine jf_getI hX ck_X7 7 wfl_730 (by decide) rfl dX10_street_77 ?_
    exact jf_iret hX rfl (by decide) (by decide) dX10_street_80
  · refine jf_bipush (v := -2) hX dX10_street_24 (by decide) ?_
    refine jf_iload_n hX dX10_street_26 0 rfl ?_
    refine jf_isub hX dX10_street_27 ?_
    exact jf_iret hX rfl (by decide) (by decide) dX10_street_28
set_option maxRecDepth 20000 in
def fX10_rule (N : Nat)  (a0 : Nat) (u : SG) : Option (Int32 × SG) := if zK u a0 = 11 then (if (zI u a0 5) < (6 : Int32) then (if zK u a0 = 11 then (Option.bind (zR u a0 2) fun q1 => (if zK u q1 = 6 then cl (fX5_readText N q1 u) fun r2 u3 => (if zK u3 a0 = 11 then (Option.bind (zR u3 a0 0) fun q4 => (if zK u3 q4 = 10 then bs (sI u3 q4 1 (0 : Int32)) fun u5 => (if r2 = 0 then (if zK u5 a0 = 11 then (Option.bind (zR u5 a0 4) fun q6 => (if zK u5 a0 = 11 then (if zK u5 a0 = 11 then (Option.bind (zR u5 a0 2) fun q7 => (if zK u5 q7 = 6 then cla (u5.1 + 2) (fX5_made N q7 u5) fun r8 u9 => (Option.bind r8 fun q10 => (if zK u9 q6 = 26 then if (zI u5 a0 5) < 0 ∨ zN u9 q6 ≤ (zI u5 a0 5).toNatClampNeg then none else if zK u9 q10 = 5 then bs (sR u9 q6 (zI u5 a0 5).toNatClampNeg (some q10)) fun u11 => (if zK u11 a0 = 11 then (if zK u11 a0 = 11 then bs (sI u11 a0 5 ((zI u11 a0 5) + (1 : Int32))) fun u12 => (if zK u12 a0 = 11 then (some ((zI u12 a0 5) - (1 : Int32), u12)) else none) else none) else none) else none else none)) else none)) else none) else none)) else none)
  else (some ((-2 : Int32) - r2, u5))) else none)) else none) else none)) else none)
  else (some ((-1 : Int32), u))) else none
set_option maxRecDepth 20000 in
set_option maxHeartbeats 4000000 in
theorem kX10_rule  (N : Nat)  (l : Launch) (D : va_G) (cT : Nat → ClassId) (z0 : Nat) (ks : Nat × Nat) (a0 : Nat) (u : SG) : Ct l D cT z0 ks yX10_rule cX10_rule 2 (some .int) 51 2 413 vI [.ref a0] u (fX10_rule N  a0 u) := by
  unfold fX10_rule
  refine ct_of (by decide +kernel) (Nat.le_of_ble_eq_true rfl) (fun p e R s m args below meth c hX => ?_)
  show JF _ True 2 0 0 _ 0 [(0, .ref a0)] [] u _
  refine jf_aload_n hX dX10_rule_0 0 rfl ?_
  refine jf_getI hX ck_X10 5 wfl_681 (by decide) rfl dX10_rule_1 ?_
  refine jf_bipush (v := 6) hX dX10_rule_4 (by decide) ?_
  refine jf_icmp_lt (tgt := 11) hX dX10_rule_6 (by decide) ?_ ?_
  · refine jf_aload_n hX dX10_rule_11 0 rfl ?_
    refine jf_getR hX ck_X10 2 wfl_674 (by decide) rfl dX10_rule_12 ?_
    refine jf_nn (fun q1 => ?_)
    refine jf_callV (As := []) (st := []) hX mo_X5_readText wml_731 winst_732 wsel_733 5 ck_X5 rfl (fun l D cT z0 ks => kX5_readText N l D cT z0 ks q1 u) (by decide) (by decide) (by decide) (by decide) (Nat.le_of_ble_eq_true rfl) rfl rfl dX10_rule_15 (fun r2 u3 => ?_)
    refine jf_istore_n (lv' := [(1, .int r2), (0, .ref a0)]) hX dX10_rule_18 rfl (by decide) rfl ?_
    refine jf_aload_n hX dX10_rule_19 1 rfl ?_
    refine jf_getR hX ck_X10 0 wfl_662 (by decide) rfl dX10_rule_20 ?_
    refine jf_nn (fun q4 => ?_)
    refine jf_iconst (v := 0) hX dX10_rule_23 (by decide) ?_
    refine jf_putI hX trivial ck_X9 1 wfl_713 (by decide) rfl rfl rfl dX10_rule_24 (fun u5 => ?_)
    refine jf_iload_n hX dX10_rule_27 0 rfl ?_
    refine jf_if_eq (tgt := 36) hX dX10_rule_28 (by decide) ?_ ?_
    · refine jf_aload_n hX dX10_rule_36 1 rfl ?_
      refine jf_getR hX ck_X10 4 wfl_680 (by decide) rfl dX10_rule_37 ?_
      refine jf_nn (fun q6 => ?_)
      refine jf_aload_n hX dX10_rule_40 1 rfl ?_
      refine jf_getI hX ck_X10 5 wfl_681 (by decide) rfl dX10_rule_41 ?_
      refine jf_aload_n hX dX10_rule_44 1 rfl ?_
      refine jf_getR hX ck_X10 2 wfl_674 (by decide) rfl dX10_rule_45 ?_
      refine jf_nn (fun q7 => ?_)
      refine jf_callVa (As := []) (st := [.int (zI u5 a0 5), .ref q6]) hX mo_X5_made wml_734 winst_735 wsel_736 5 ck_X5 rfl (fun l D cT z0 ks => kX5_made N l D cT z0 ks q7 u5) (by decide) (by decide) (by decide) (by decide) (Nat.le_of_ble_eq_true rfl) rfl dX10_rule_48 (fun r8 u9 => ?_)
      refine jf_nn (fun q10 => ?_)
      refine jf_aast26 hX trivial ck_X4 dX10_rule_51 (fun u11 => ?_)
      refine jf_aload_n hX dX10_rule_52 1 rfl ?_
      refine jf_dup hX dX10_rule_53 rfl ?_
      refine jf_getI hX ck_X10 5 wfl_681 (by decide) rfl dX10_rule_54 ?_
      refine jf_iconst (v := 1) hX dX10_rule_57 (by decide) ?_
      refine jf_iadd hX dX10_rule_58 ?_
      refine jf_putI hX trivial ck_X10 5 wfl_681 (by decide) rfl rfl rfl dX10_rule_59 (fun u12 => ?_)
      refine jf_aload_n hX dX10_rule_62 1 rfl ?_
      refine jf_getI hX ck_X10 5 wfl_681 (by decide) rfl dX10_rule_63 ?_
      refine jf_iconst (v := 1) hX dX10_rule_66 (by decide) ?_
      refine jf_isub hX dX10_rule_67 ?_
      exact jf_iret hX rfl (by decide) (by decide) dX10_rule_68
    · refine jf_bipush (v := -2) hX dX10_rule_31 (by decide) ?_
      refine jf_iload_n hX dX10_rule_33 0 rfl ?_
      refine jf_isub hX dX10_rule_34 ?_
      exact jf_iret hX rfl (by decide) (by decide) dX10_rule_35
  · refine jf_iconst (v := -1) hX dX10_rule_9 (by decide) ?_
    exact jf_iret hX rfl (by decide) (by decide) dX10_rule_10
set_option maxRecDepth 20000 in
def fX10_force (N : Nat)  (a0 : Nat) (p1 : Int32) (u : SG) : Option (Int32 × SG) := if p1 < (-1 : Int32) then (some ((-2 : Int32), u))
  else (if zK u a0 = 11 then (if p1 < (zI u a0 5) then (if zK u a0 = 11 then (Option.bind (zR u a0 6) fun q1 => (if zK u q1 = 7 then (bs (zI u q1 3) fun v2 => (if zK u a0 = 11 then (Option.bind (zR u a0 6) fun q3 => (if zK u q3 = 7 then bs (sI u q3 3 p1) fun u4 => (some (v2, u4)) else none)) else none)) else none)) else none)
  else (some ((-2 : Int32), u))) else none)
set_option maxRecDepth 20000 in
set_option maxHeartbeats 4000000 in
theorem kX10_force  (N : Nat)  (l : Launch) (D : va_G) (cT : Nat → ClassId) (z0 : Nat) (ks : Nat × Nat) (a0 : Nat) (p1 : Int32) (u : SG) : Ct l D cT z0 ks yX10_force cX10_force 3 (some .int) 1 0 0 vI [.ref a0, .int p1] u (fX10_force N  a0 p1 u) := by
  unfold fX10_force
  refine ct_of (by decide +kernel) (Nat.le_of_ble_eq_true rfl) (fun p e R s m args below meth c hX => ?_)
  show JF _ True 3 0 0 _ 0 [(0, .ref a0), (1, .int p1)] [] u _
  refine jf_iload_n hX dX10_force_0 1 rfl ?_
  refine jf_iconst (v := -1) hX dX10_force_1 (by decide) ?_
  refine jf_icmp_lt (tgt := 13) hX dX10_force_2 (by decide) ?_ ?_
  · refine jf_bipush (v := -2) hX dX10_force_13 (by decide) ?_
    exact jf_iret hX rfl (by decide) (by decide) dX10_force_15
  · refine jf_iload_n hX dX10_force_5 1 rfl ?_
    refine jf_aload_n hX dX10_force_6 0 rfl ?_
    refine jf_getI hX ck_X10 5 wfl_681 (by decide) rfl dX10_force_7 ?_
    refine jf_icmp_lt (tgt := 16) hX dX10_force_10 (by decide) ?_ ?_
    · refine jf_aload_n hX dX10_force_16 0 rfl ?_
      refine jf_getR hX ck_X10 6 wfl_687 (by decide) rfl dX10_force_17 ?_
      refine jf_nn (fun q1 => ?_)
      refine jf_getI hX ck_X6 3 wfl_737 (by decide) rfl dX10_force_20 ?_
      refine jf_nmI (fun v2 => ?_)
      refine jf_istore_n (lv' := [(2, .int v2), (0, .ref a0), (1, .int p1)]) hX dX10_force_23 rfl (by decide) rfl ?_
      refine jf_aload_n hX dX10_force_24 1 rfl ?_
      refine jf_getR hX ck_X10 6 wfl_687 (by decide) rfl dX10_force_25 ?_
      refine jf_nn (fun q3 => ?_)
      refine jf_iload_n hX dX10_force_28 2 rfl ?_
      refine jf_putI hX trivial ck_X6 3 wfl_737 (by decide) rfl rfl rfl dX10_force_29 (fun u4 => ?_)
      refine jf_iload_n hX dX10_force_32 0 rfl ?_
      exact jf_iret hX rfl (by decide) (by decide) dX10_force_33
    · refine jf_bipush (v := -2) hX dX10_force_13 (by decide) ?_
      exact jf_iret hX rfl (by decide) (by decide) dX10_force_15
set_option maxRecDepth 20000 in
def fX10_workersNow (N : Nat)  (a0 : Nat) (u : SG) : Option (Int32 × SG) := if zK u a0 = 11 then (Option.bind (zR u a0 6) fun q1 => (if zK u q1 = 7 then (Option.bind (zR u q1 0) fun q2 => (if zK u a0 = 11 then (Option.bind (zR u a0 6) fun q3 => (if zK u q3 = 7 then (Option.bind (zR u q3 1) fun q4 => (if zK u q4 = 3 then (if zK u q2 = 8 then cl (fX7_workersAt N q2 (zI u q4 0) u) fun r5 u6 => (some (r5, u6)) else none) else none)) else none)) else none)) else none)) else none
set_option maxRecDepth 20000 in
set_option maxHeartbeats 4000000 in
theorem kX10_workersNow  (N : Nat)  (l : Launch) (D : va_G) (cT : Nat → ClassId) (z0 : Nat) (ks : Nat × Nat) (a0 : Nat) (u : SG) : Ct l D cT z0 ks yX10_workersNow cX10_workersNow 1 (some .int) 2 0 0 vI [.ref a0] u (fX10_workersNow N  a0 u) := by
  unfold fX10_workersNow
  refine ct_of (by decide +kernel) (Nat.le_of_ble_eq_true rfl) (fun p e R s m args below meth c hX => ?_)
  show JF _ True 1 0 0 _ 0 [(0, .ref a0)] [] u _
  refine jf_aload_n hX dX10_workersNow_0 0 rfl ?_
  refine jf_getR hX ck_X10 6 wfl_687 (by decide) rfl dX10_workersNow_1 ?_
  refine jf_nn (fun q1 => ?_)
  refine jf_getR hX ck_X6 0 wfl_717 (by decide) rfl dX10_workersNow_4 ?_
  refine jf_nn (fun q2 => ?_)
  refine jf_aload_n hX dX10_workersNow_7 0 rfl ?_
  refine jf_getR hX ck_X10 6 wfl_687 (by decide) rfl dX10_workersNow_8 ?_
  refine jf_nn (fun q3 => ?_)
  refine jf_getR hX ck_X6 1 wfl_719 (by decide) rfl dX10_workersNow_11 ?_
  refine jf_nn (fun q4 => ?_)
  refine jf_getI hX ck_X2 0 wfl_738 (by decide) rfl dX10_workersNow_14 ?_
  refine jf_callV (As := [.int (zI u q4 0)]) (st := []) hX mo_X7_workersAt wml_739 winst_444 wsel_445 7 ck_X7 rfl (fun l D cT z0 ks => kX7_workersAt N l D cT z0 ks q2 (zI u q4 0) u) (by decide) (by decide) (by decide) (by decide) (Nat.le_of_ble_eq_true rfl) rfl rfl dX10_workersNow_17 (fun r5 u6 => ?_)
  exact jf_iret hX rfl (by decide) (by decide) dX10_workersNow_20
set_option maxRecDepth 20000 in
def fX10_person (N : Nat)  (a0 : Nat) (p1 : Int32) (p2 : Int32) (u : SG) : Option (Int32 × SG) := if zK u a0 = 11 then (Option.bind (zR u a0 6) fun q1 => (if zK u q1 = 7 then (Option.bind (zR u q1 0) fun q2 => (if zK u q2 = 8 then cl (fX7_isPerson N q2 p1 u) fun r3 u4 => (if r3 = 0 then (some ((-1 : Int32), u4))
  else (if p2 = (0 : Int32) then (if zK u4 a0 = 11 then (Option.bind (zR u4 a0 6) fun q5 => (if zK u4 q5 = 7 then (Option.bind (zR u4 q5 0) fun q6 => (if zK u4 q6 = 8 then (Option.bind (zR u4 q6 0) fun q7 => (if zK u4 q7 = 22 then if p1 < 0 ∨ zN u4 q7 ≤ p1.toNatClampNeg then none else (some (zI u4 q7 p1.toNatClampNeg, u4)) else none)) else none)) else none)) else none)
  else if p2 = (1 : Int32) then (if zK u4 a0 = 11 then (Option.bind (zR u4 a0 6) fun q8 => (if zK u4 q8 = 7 then (Option.bind (zR u4 q8 0) fun q9 => (if zK u4 q9 = 8 then (Option.bind (zR u4 q9 1) fun q10 => (if zK u4 q10 = 22 then if p1 < 0 ∨ zN u4 q10 ≤ p1.toNatClampNeg then none else (some (zI u4 q10 p1.toNatClampNeg, u4)) else none)) else none)) else none)) else none)
  else if p2 = (2 : Int32) then (if zK u4 a0 = 11 then (Option.bind (zR u4 a0 6) fun q11 => (if zK u4 q11 = 7 then (Option.bind (zR u4 q11 1) fun q12 => (if zK u4 q12 = 3 then (cl (fX10_bitOf N (zI u4 q12 2) p1 u4) fun r13 u14 => (some (r13, u14))) else none)) else none)) else none)
  else if p2 = (3 : Int32) then (if zK u4 a0 = 11 then (Option.bind (zR u4 a0 6) fun q15 => (if zK u4 q15 = 7 then (Option.bind (zR u4 q15 1) fun q16 => (if zK u4 q16 = 3 then (Option.bind (zR u4 q16 5) fun q17 => (if zK u4 q17 = 22 then if p1 < 0 ∨ zN u4 q17 ≤ p1.toNatClampNeg then none else (some (zI u4 q17 p1.toNatClampNeg, u4)) else none)) else none)) else none)) else none)
  else if p2 = (4 : Int32) then (if zK u4 a0 = 11 then (Option.bind (zR u4 a0 6) fun q18 => (if zK u4 q18 = 7 then (Option.bind (zR u4 q18 1) fun q19 => (if zK u4 q19 = 3 then (Option.bind (zR u4 q19 6) fun q20 => (if zK u4 q20 = 22 then if p1 < 0 ∨ zN u4 q20 ≤ p1.toNatClampNeg then none else (some (zI u4 q20 p1.toNatClampNeg, u4)) else none)) else none)) else none)) else none)
  else if p2 = (5 : Int32) then (if zK u4 a0 = 11 then cl (fX10_workersNow N a0 u4) fun r21 u22 => (cl (fX10_bitOf N r21 p1 u22) fun r23 u24 => (some (r23, u24))) else none)
  else (some ((-1 : Int32), u4)))) else none)) else none)) else none
set_option maxRecDepth 20000 in
set_option maxHeartbeats 4000000 in
theorem kX10_person  (N : Nat)  (l : Launch) (D : va_G) (cT : Nat → ClassId) (z0 : Nat) (ks : Nat × Nat) (a0 : Nat) (p1 : Int32) (p2 : Int32) (u : SG) : Ct l D cT z0 ks yX10_person cX10_person 3 (some .int) 3 0 0 vI [.ref a0, .int p1, .int p2] u (fX10_person N  a0 p1 p2 u) := by
  unfold fX10_person
  refine ct_of (by decide +kernel) (Nat.le_of_ble_eq_true rfl) (fun p e R s m args below meth c hX => ?_)
  show JF _ True 3 0 0 _ 0 [(0, .ref a0), (1, .int p1), (2, .int p2)] [] u _
  refine jf_aload_n hX dX10_person_0 0 rfl ?_
  refine jf_getR hX ck_X10 6 wfl_687 (by decide) rfl dX10_person_1 ?_
  refine jf_nn (fun q1 => ?_)
  refine jf_getR hX ck_X6 0 wfl_717 (by decide) rfl dX10_person_4 ?_
  refine jf_nn (fun q2 => ?_)
  refine jf_iload_n hX dX10_person_7 1 rfl ?_
  refine jf_callV (As := [.int p1]) (st := []) hX mo_X7_isPerson wml_740 winst_741 wsel_742 7 ck_X7 rfl (fun l D cT z0 ks => kX7_isPerson N l D cT z0 ks q2 p1 u) (by decide) (by decide) (by decide) (by decide) (Nat.le_of_ble_eq_true rfl) rfl rfl dX10_person_8 (fun r3 u4 => ?_)
  refine jf_if_ne (tgt := 16) hX dX10_person_11 (by decide) ?_ ?_
  · refine jf_iload_n hX dX10_person_16 2 rfl ?_
    refine jf_tcase (k := 0) (kv := 0) (tgt := 56) hX dX10_person_17 rfl (by decide) (by decide) rfl (by decide) ?_ (fun hn0 => ?_)
    · refine jf_aload_n hX dX10_person_56 0 rfl ?_
      refine jf_getR hX ck_X10 6 wfl_687 (by decide) rfl dX10_person_57 ?_
      refine jf_nn (fun q5 => ?_)
      refine jf_getR hX ck_X6 0 wfl_717 (by decide) rfl dX10_person_60 ?_
      refine jf_nn (fun q6 => ?_)
      refine jf_getR hX ck_X7 0 wfl_743 (by decide) rfl dX10_person_63 ?_
      refine jf_nn (fun q7 => ?_)
      refine jf_iload_n hX dX10_person_66 1 rfl ?_
      refine jf_iald hX dX10_person_67 ?_
      exact jf_iret hX rfl (by decide) (by decide) dX10_person_68
    refine jf_tcase (k := 1) (kv := 1) (tgt := 69) hX dX10_person_17 rfl (by decide) (by decide) rfl (by decide) ?_ (fun hn1 => ?_)
    · refine jf_aload_n hX dX10_person_69 0 rfl ?_
      refine jf_getR hX ck_X10 6 wfl_687 (by decide) rfl dX10_person_70 ?_
      refine jf_nn (fun q8 => ?_)
      refine jf_getR hX ck_X6 0 wfl_717 (by decide) rfl dX10_person_73 ?_
      refine jf_nn (fun q9 => ?_)
      refine jf_getR hX ck_X7 1 wfl_744 (by decide) rfl dX10_person_76 ?_
      refine jf_nn (fun q10 => ?_)
      refine jf_iload_n hX dX10_person_79 1 rfl ?_
      refine jf_iald hX dX10_person_80 ?_
      exact jf_iret hX rfl (by decide) (by decide) dX10_person_81
    refine jf_tcase (k := 2) (kv := 2) (tgt := 82) hX dX10_person_17 rfl (by decide) (by decide) rfl (by decide) ?_ (fun hn2 => ?_)
    · refine jf_aload_n hX dX10_person_82 0 rfl ?_
      refine jf_getR hX ck_X10 6 wfl_687 (by decide) rfl dX10_person_83 ?_
      refine jf_nn (fun q11 => ?_)
      refine jf_getR hX ck_X6 1 wfl_719 (by decide) rfl dX10_person_86 ?_
      refine jf_nn (fun q12 => ?_)
      refine jf_getI hX ck_X2 2 wfl_745 (by decide) rfl dX10_person_89 ?_
      refine jf_iload_n hX dX10_person_92 1 rfl ?_
      refine jf_callS (As := [.int (zI u4 q12 2), .int p1]) (st := []) hX mo_X10_bitOf wml_746 wstat_383 rfl (fun l D cT z0 ks => kX10_bitOf N l D cT z0 ks (zI u4 q12 2) p1 u4) (by decide) (by decide) (by decide) (by decide) (Nat.le_of_ble_eq_true rfl) rfl rfl dX10_person_93 (fun r13 u14 => ?_)
      exact jf_iret hX rfl (by decide) (by decide) dX10_person_96
    refine jf_tcase (k := 3) (kv := 3) (tgt := 97) hX dX10_person_17 rfl (by decide) (by decide) rfl (by decide) ?_ (fun hn3 => ?_)
    · refine jf_aload_n hX dX10_person_97 0 rfl ?_
      refine jf_getR hX ck_X10 6 wfl_687 (by decide) rfl dX10_person_98 ?_
      refine jf_nn (fun q15 => ?_)
      refine jf_getR hX ck_X6 1 wfl_719 (by decide) rfl dX10_person_101 ?_
      refine jf_nn (fun q16 => ?_)
      refine jf_getR hX ck_X2 5 wfl_747 (by decide) rfl dX10_person_104 ?_
      refine jf_nn (fun q17 => ?_)
      refine jf_iload_n hX dX10_person_107 1 rfl ?_
      refine jf_iald hX dX10_person_108 ?_
      exact jf_iret hX rfl (by decide) (by decide) dX10_person_109
    refine jf_tcase (k := 4) (kv := 4) (tgt := 110) hX dX10_person_17 rfl (by decide) (by decide) rfl (by decide) ?_ (fun hn4 => ?_)
    · refine jf_aload_n hX dX10_person_110 0 rfl ?_
      refine jf_getR hX ck_X10 6 wfl_687 (by decide) rfl dX10_person_111 ?_
      refine jf_nn (fun q18 => ?_)
      refine jf_getR hX ck_X6 1 wfl_719 (by decide) rfl dX10_person_114 ?_
      refine jf_nn (fun q19 => ?_)
      refine jf_getR hX ck_X2 6 wfl_748 (by decide) rfl dX10_person_117 ?_
      refine jf_nn (fun q20 => ?_)
      refine jf_iload_n hX dX10_person_120 1 rfl ?_
      refine jf_iald hX dX10_person_121 ?_
      exact jf_iret hX rfl (by decide) (by decide) dX10_person_122
    refine jf_tcase (k := 5) (kv := 5) (tgt := 123) hX dX10_person_17 rfl (by decide) (by decide) rfl (by decide) ?_ (fun hn5 => ?_)
    · refine jf_aload_n hX dX10_person_123 0 rfl ?_
      refine jf_callV (As := []) (st := []) hX mo_X10_workersNow wml_749 winst_750 wsel_751 10 ck_X10 rfl (fun l D cT z0 ks => kX10_workersNow N l D cT z0 ks a0 u4) (by decide) (by decide) (by decide) (by decide) (Nat.le_of_ble_eq_true rfl) rfl rfl dX10_person_124 (fun r21 u22 => ?_)
      refine jf_iload_n hX dX10_person_127 1 rfl ?_
      refine jf_callS (As := [.int r21, .int p1]) (st := []) hX mo_X10_bitOf wml_746 wstat_383 rfl (fun l D cT z0 ks => kX10_bitOf N l D cT z0 ks r21 p1 u22) (by decide) (by decide) (by decide) (by decide) (Nat.le_of_ble_eq_true rfl) rfl rfl dX10_person_128 (fun r23 u24 => ?_)
      exact jf_iret hX rfl (by decide) (by decide) dX10_person_131
    refine jf_tdef (tgt := 132) hX dX10_person_17 (by rcases Int.lt_or_le p2.toInt (0) with h9 | h9; exact Or.inl h9; exact Or.inr (istep (istep (istep (istep (istep (istep h9 (lv_neT (a := 0) hn0 rfl)) (lv_neT (a := 1) hn1 rfl)) (lv_neT (a := 2) hn2 rfl)) (lv_neT (a := 3) hn3 rfl)) (lv_neT (a := 4) hn4 rfl)) (lv_neT (a := 5) hn5 rfl))) (by decide) ?_
    refine jf_iconst (v := -1) hX dX10_person_132 (by decide) ?_
    exact jf_iret hX rfl (by decide) (by decide) dX10_person_133
  · refine jf_iconst (v := -1) hX dX10_person_14 (by decide) ?_
    exact jf_iret hX rfl (by decide) (by decide) dX10_person_15
set_option maxRecDepth 20000 in
def fX10_burningNow (N : Nat)  (a0 : Nat) (u : SG) : Option (Int32 × SG) := if zK u a0 = 11 then (Option.bind (zR u a0 6) fun q1 => (if zK u q1 = 7 then (Option.bind (zR u q1 1) fun q2 => (if zK u a0 = 11 then (Option.bind (zR u a0 6) fun q3 => (if zK u q3 = 7 then (Option.bind (zR u q3 0) fun q4 => (if zK u a0 = 11 then (Option.bind (zR u a0 6) fun q5 => (if zK u q5 = 7 then (Option.bind (zR u q5 1) fun q6 => (if zK u q6 = 3 then (if zK u q2 = 3 then cl (fX2_burningAt N q2 q4 (zI u q6 0) u) fun r7 u8 => (some (r7, u8)) else none) else none)) else none)) else none)) else none)) else none)) else none)) else none
set_option maxRecDepth 20000 in
set_option maxHeartbeats 4000000 in
theorem kX10_burningNow  (N : Nat)  (l : Launch) (D : va_G) (cT : Nat → ClassId) (z0 : Nat) (ks : Nat × Nat) (a0 : Nat) (u : SG) : Ct l D cT z0 ks yX10_burningNow cX10_burningNow 1 (some .int) 3 0 0 vI [.ref a0] u (fX10_burningNow N  a0 u) := by
  unfold fX10_burningNow
  refine ct_of (by decide +kernel) (Nat.le_of_ble_eq_true rfl) (fun p e R s m args below meth c hX => ?_)
  show JF _ True 1 0 0 _ 0 [(0, .ref a0)] [] u _
  refine jf_aload_n hX dX10_burningNow_0 0 rfl ?_
  refine jf_getR hX ck_X10 6 wfl_687 (by decide) rfl dX10_burningNow_1 ?_
  refine jf_nn (fun q1 => ?_)
  refine jf_getR hX ck_X6 1 wfl_719 (by decide) rfl dX10_burningNow_4 ?_
  refine jf_nn (fun q2 => ?_)
  refine jf_aload_n hX dX10_burningNow_7 0 rfl ?_
  refine jf_getR hX ck_X10 6 wfl_687 (by decide) rfl dX10_burningNow_8 ?_
  refine jf_nn (fun q3 => ?_)
  refine jf_getR hX ck_X6 0 wfl_717 (by decide) rfl dX10_burningNow_11 ?_
  refine jf_nn (fun q4 => ?_)
  refine jf_aload_n hX dX10_burningNow_14 0 rfl ?_
  refine jf_getR hX ck_X10 6 wfl_687 (by decide) rfl dX10_burningNow_15 ?_
  refine jf_nn (fun q5 => ?_)
  refine jf_getR hX ck_X6 1 wfl_719 (by decide) rfl dX10_burningNow_18 ?_
  refine jf_nn (fun q6 => ?_)
  refine jf_getI hX ck_X2 0 wfl_738 (by decide) rfl dX10_burningNow_21 ?_
  refine jf_callV (As := [.ref q4, .int (zI u q6 0)]) (st := []) hX mo_X2_burningAt wml_752 winst_409 wsel_410 2 ck_X2 rfl (fun l D cT z0 ks => kX2_burningAt N l D cT z0 ks q2 q4 (zI u q6 0) u) (by decide) (by decide) (by decide) (by decide) (Nat.le_of_ble_eq_true rfl) rfl rfl dX10_burningNow_24 (fun r7 u8 => ?_)
  exact jf_iret hX rfl (by decide) (by decide) dX10_burningNow_27
set_option maxRecDepth 20000 in
def fX10_lamp (N : Nat)  (a0 : Nat) (p1 : Int32) (p2 : Int32) (u : SG) : Option (Int32 × SG) := if zK u a0 = 11 then (Option.bind (zR u a0 6) fun q1 => (if zK u q1 = 7 then (Option.bind (zR u q1 0) fun q2 => (if zK u q2 = 8 then cl (fX7_isLamp N q2 p1 u) fun r3 u4 => (if r3 = 0 then (some ((-1 : Int32), u4))
  else (if p2 = (0 : Int32) then (if zK u4 a0 = 11 then (Option.bind (zR u4 a0 6) fun q5 => (if zK u4 q5 = 7 then (Option.bind (zR u4 q5 0) fun q6 => (if zK u4 q6 = 8 then (Option.bind (zR u4 q6 2) fun q7 => (if zK u4 q7 = 22 then if p1 < 0 ∨ zN u4 q7 ≤ p1.toNatClampNeg then none else (some (zI u4 q7 p1.toNatClampNeg, u4)) else none)) else none)) else none)) else none)
  else if p2 = (1 : Int32) then (if zK u4 a0 = 11 then (Option.bind (zR u4 a0 6) fun q8 => (if zK u4 q8 = 7 then (Option.bind (zR u4 q8 0) fun q9 => (if zK u4 q9 = 8 then (Option.bind (zR u4 q9 3) fun q10 => (if zK u4 q10 = 22 then if p1 < 0 ∨ zN u4 q10 ≤ p1.toNatClampNeg then none else (some (zI u4 q10 p1.toNatClampNeg, u4)) else none)) else none)) else none)) else none)
  else if p2 = (2 : Int32) then (if zK u4 a0 = 11 then cl (fX10_burningNow N a0 u4) fun r11 u12 => (cl (fX10_bitOf N r11 p1 u12) fun r13 u14 => (some (r13, u14))) else none)
  else (some ((-1 : Int32), u4)))) else none)) else none)) else none
set_option maxRecDepth 20000 in
set_option maxHeartbeats 4000000 in
theorem kX10_lamp  (N : Nat)  (l : Launch) (D : va_G) (cT : Nat → ClassId) (z0 : Nat) (ks : Nat × Nat) (a0 : Nat) (p1 : Int32) (p2 : Int32) (u : SG) : Ct l D cT z0 ks yX10_lamp cX10_lamp 3 (some .int) 4 0 0 vI [.ref a0, .int p1, .int p2] u (fX10_lamp N  a0 p1 p2 u) := by
  unfold fX10_lamp
  refine ct_of (by decide +kernel) (Nat.le_of_ble_eq_true rfl) (fun p e R s m args below meth c hX => ?_)
  show JF _ True 3 0 0 _ 0 [(0, .ref a0), (1, .int p1), (2, .int p2)] [] u _
  refine jf_aload_n hX dX10_lamp_0 0 rfl ?_
  refine jf_getR hX ck_X10 6 wfl_687 (by decide) rfl dX10_lamp_1 ?_
  refine jf_nn (fun q1 => ?_)
  refine jf_getR hX ck_X6 0 wfl_717 (by decide) rfl dX10_lamp_4 ?_
  refine jf_nn (fun q2 => ?_)
  refine jf_iload_n hX dX10_lamp_7 1 rfl ?_
  refine jf_callV (As := [.int p1]) (st := []) hX mo_X7_isLamp wml_753 winst_754 wsel_755 7 ck_X7 rfl (fun l D cT z0 ks => kX7_isLamp N l D cT z0 ks q2 p1 u) (by decide) (by decide) (by decide) (by decide) (Nat.le_of_ble_eq_true rfl) rfl rfl dX10_lamp_8 (fun r3 u4 => ?_)
  refine jf_if_ne (tgt := 16) hX dX10_lamp_11 (by decide) ?_ ?_
  · refine jf_iload_n hX dX10_lamp_16 2 rfl ?_
    refine jf_tcase (k := 0) (kv := 0) (tgt := 44) hX dX10_lamp_17 rfl (by decide) (by decide) rfl (by decide) ?_ (fun hn0 => ?_)
    · refine jf_aload_n hX dX10_lamp_44 0 rfl ?_
      refine jf_getR hX ck_X10 6 wfl_687 (by decide) rfl dX10_lamp_45 ?_
      refine jf_nn (fun q5 => ?_)
      refine jf_getR hX ck_X6 0 wfl_717 (by decide) rfl dX10_lamp_48 ?_
      refine jf_nn (fun q6 => ?_)
      refine jf_getR hX ck_X7 2 wfl_756 (by decide) rfl dX10_lamp_51 ?_
      refine jf_nn (fun q7 => ?_)
      refine jf_iload_n hX dX10_lamp_54 1 rfl ?_
      refine jf_iald hX dX10_lamp_55 ?_
      exact jf_iret hX rfl (by decide) (by decide) dX10_lamp_56
    refine jf_tcase (k := 1) (kv := 1) (tgt := 57) hX dX10_lamp_17 rfl (by decide) (by decide) rfl (by decide) ?_ (fun hn1 => ?_)
    · refine jf_aload_n hX dX10_lamp_57 0 rfl ?_
      refine jf_getR hX ck_X10 6 wfl_687 (by decide) rfl dX10_lamp_58 ?_
      refine jf_nn (fun q8 => ?_)
      refine jf_getR hX ck_X6 0 wfl_717 (by decide) rfl dX10_lamp_61 ?_
      refine jf_nn (fun q9 => ?_)
      refine jf_getR hX ck_X7 3 wfl_757 (by decide) rfl dX10_lamp_64 ?_
      refine jf_nn (fun q10 => ?_)
      refine jf_iload_n hX dX10_lamp_67 1 rfl ?_
      refine jf_iald hX dX10_lamp_68 ?_
      exact jf_iret hX rfl (by decide) (by decide) dX10_lamp_69
    refine jf_tcase (k := 2) (kv := 2) (tgt := 70) hX dX10_lamp_17 rfl (by decide) (by decide) rfl (by decide) ?_ (fun hn2 => ?_)
    · refine jf_aload_n hX dX10_lamp_70 0 rfl ?_
      refine jf_callV (As := []) (st := []) hX mo_X10_burningNow wml_758 winst_759 wsel_760 10 ck_X10 rfl (fun l D cT z0 ks => kX10_burningNow N l D cT z0 ks a0 u4) (by decide) (by decide) (by decide) (by decide) (Nat.le_of_ble_eq_true rfl) rfl rfl dX10_lamp_71 (fun r11 u12 => ?_)
      refine jf_iload_n hX dX10_lamp_74 1 rfl ?_
      refine jf_callS (As := [.int r11, .int p1]) (st := []) hX mo_X10_bitOf wml_746 wstat_383 rfl (fun l D cT z0 ks => kX10_bitOf N l D cT z0 ks r11 p1 u12) (by decide) (by decide) (by decide) (by decide) (Nat.le_of_ble_eq_true rfl) rfl rfl dX10_lamp_75 (fun r13 u14 => ?_)
      exact jf_iret hX rfl (by decide) (by decide) dX10_lamp_78
    refine jf_tdef (tgt := 79) hX dX10_lamp_17 (by rcases Int.lt_or_le p2.toInt (0) with h9 | h9; exact Or.inl h9; exact Or.inr (istep (istep (istep h9 (lv_neT (a := 0) hn0 rfl)) (lv_neT (a := 1) hn1 rfl)) (lv_neT (a := 2) hn2 rfl))) (by decide) ?_
    refine jf_iconst (v := -1) hX dX10_lamp_79 (by decide) ?_
    exact jf_iret hX rfl (by decide) (by decide) dX10_lamp_80
  · refine jf_iconst (v := -1) hX dX10_lamp_14 (by decide) ?_
    exact jf_iret hX rfl (by decide) (by decide) dX10_lamp_15
set_option maxRecDepth 20000 in
def fX10_ruleNow (N : Nat)  (a0 : Nat) (u : SG) : Option (Option Nat × SG) := if zK u a0 = 11 then (Option.bind (zR u a0 6) fun q1 => (if zK u q1 = 7 then (bs (zI u q1 3) fun v2 => (if v2 < 0 then (some (none, u))
  else (if zK u a0 = 11 then (if (zI u a0 5) ≤ v2 then (some (none, u))
  else (if zK u a0 = 11 then (Option.bind (zR u a0 4) fun q3 => (if zK u q3 = 26 then if v2 < 0 ∨ zN u q3 ≤ v2.toNatClampNeg then none else (some (zR u q3 v2.toNatClampNeg, u)) else none)) else none)) else none))) else none)) else none
set_option maxRecDepth 20000 in
set_option maxHeartbeats 4000000 in
theorem kX10_ruleNow  (N : Nat)  (l : Launch) (D : va_G) (cT : Nat → ClassId) (z0 : Nat) (ks : Nat × Nat) (a0 : Nat) (u : SG) : Ct l D cT z0 ks yX10_ruleNow cX10_ruleNow 2 (some (.object "SleepersPay$Rule")) 1 0 0 vR [.ref a0] u (fX10_ruleNow N  a0 u) := by
  unfold fX10_ruleNow
  refine ct_of (by decide +kernel) (Nat.le_of_ble_eq_true rfl) (fun p e R s m args below meth c hX => ?_)
  show JF _ True 2 0 0 _ 0 [(0, .ref a0)] [] u _
  refine jf_aload_n hX dX10_ruleNow_0 0 rfl ?_
  refine jf_getR hX ck_X10 6 wfl_687 (by decide) rfl dX10_ruleNow_1 ?_
  refine jf_nn (fun q1 => ?_)
  refine jf_getI hX ck_X6 3 wfl_737 (by decide) rfl dX10_ruleNow_4 ?_
  refine jf_nmI (fun v2 => ?_)
  refine jf_istore_n (lv' := [(1, .int v2), (0, .ref a0)]) hX dX10_ruleNow_7 rfl (by decide) rfl ?_
  refine jf_iload_n hX dX10_ruleNow_8 0 rfl ?_
  refine jf_if_lt (tgt := 29) hX dX10_ruleNow_9 (by decide) ?_ ?_
  · refine jf_null hX dX10_ruleNow_29 ?_
    exact jf_aret (v := none) hX rfl (by decide) (by decide) dX10_ruleNow_30
  · refine jf_iload_n hX dX10_ruleNow_12 0 rfl ?_
    refine jf_aload_n hX dX10_ruleNow_13 1 rfl ?_
    refine jf_getI hX ck_X10 5 wfl_681 (by decide) rfl dX10_ruleNow_14 ?_
    refine jf_icmp_ge (tgt := 29) hX dX10_ruleNow_17 (by decide) ?_ ?_
    · refine jf_null hX dX10_ruleNow_29 ?_
      exact jf_aret (v := none) hX rfl (by decide) (by decide) dX10_ruleNow_30
    · refine jf_aload_n hX dX10_ruleNow_20 1 rfl ?_
      refine jf_getR hX ck_X10 4 wfl_680 (by decide) rfl dX10_ruleNow_21 ?_
      refine jf_nn (fun q3 => ?_)
      refine jf_iload_n hX dX10_ruleNow_24 0 rfl ?_
      refine jf_aald26 hX dX10_ruleNow_25 ?_
      refine jf_goto (tgt := 30) hX dX10_ruleNow_26 (by decide) ?_
      exact jf_aret (v := zR u q3 v2.toNatClampNeg) hX rfl (by decide) (by decide) dX10_ruleNow_30
set_option maxRecDepth 20000 in
def fX10_hour (N : Nat)  (a0 : Nat) (u : SG) : Option (Int32 × SG) := if zK u a0 = 11 then (Option.bind (zR u a0 6) fun q1 => (if zK u q1 = 7 then (Option.bind (zR u q1 0) fun q2 => (if zK u q2 = 8 then cl (fX7_isTold N q2 u) fun r3 u4 => (if r3 = 0 then (some ((-1 : Int32), u4))
  else (if zK u4 a0 = 11 then (Option.bind (zR u4 a0 6) fun q5 => (if zK u4 q5 = 7 then (Option.bind (zR u4 q5 1) fun q6 => (if zK u4 a0 = 11 then (Option.bind (zR u4 a0 6) fun q7 => (if zK u4 q7 = 7 then (Option.bind (zR u4 q7 0) fun q8 => (if zK u4 q6 = 3 then cl (fX2_isLast N q6 q8 u4) fun r9 u10 => (if r9 = 0 then (if zK u10 a0 = 11 then (Option.bind (zR u10 a0 8) fun q11 => (if zK u10 a0 = 11 then (Option.bind (zR u10 a0 6) fun q12 => (if zK u10 q12 = 7 then (Option.bind (zR u10 q12 1) fun q13 => (if zK u10 q11 = 1 then cl (fX0_keep N q11 q13 u10) fun r14 u15 => (if zK u15 a0 = 11 then (Option.bind (zR u15 a0 9) fun q16 => (if zK u15 a0 = 11 then (Option.bind (zR u15 a0 6) fun q17 => (if zK u15 q17 = 7 then (Option.bind (zR u15 q17 0) fun q18 => (if zK u15 a0 = 11 then (Option.bind (zR u15 a0 6) fun q19 => (if zK u15 q19 = 7 then (Option.bind (zR u15 q19 1) fun q20 => (if zK u15 a0 = 11 then cl (fX10_ruleNow N a0 u15) fun r21 u22 => (if zK u22 q16 = 4 then cl (fX3_play N q16 q18 q20 r21 u22) fun r23 u24 => (some (r23, u24)) else none) else none)) else none)) else none)) else none)) else none)) else none) else none)) else none)) else none)) else none)
  else (some ((-1 : Int32), u10))) else none)) else none)) else none)) else none)) else none)) else none)) else none)) else none
set_option maxRecDepth 20000 in
set_option maxHeartbeats 4000000 in
theorem kX10_hour  (N : Nat)  (l : Launch) (D : va_G) (cT : Nat → ClassId) (z0 : Nat) (ks : Nat × Nat) (a0 : Nat) (u : SG) : Ct l D cT z0 ks yX10_hour cX10_hour 1 (some .int) 6 0 0 vI [.ref a0] u (fX10_hour N  a0 u) := by
  unfold fX10_hour
  refine ct_of (by decide +kernel) (Nat.le_of_ble_eq_true rfl) (fun p e R s m args below meth c hX => ?_)
  show JF _ True 1 0 0 _ 0 [(0, .ref a0)] [] u _
  refine jf_aload_n hX dX10_hour_0 0 rfl ?_
  refine jf_getR hX ck_X10 6 wfl_687 (by decide) rfl dX10_hour_1 ?_
  refine jf_nn (fun q1 => ?_)
  refine jf_getR hX ck_X6 0 wfl_717 (by decide) rfl dX10_hour_4 ?_
  refine jf_nn (fun q2 => ?_)
  refine jf_callV (As := []) (st := []) hX mo_X7_isTold wml_761 winst_762 wsel_763 7 ck_X7 rfl (fun l D cT z0 ks => kX7_isTold N l D cT z0 ks q2 u) (by decide) (by decide) (by decide) (by decide) (Nat.le_of_ble_eq_true rfl) rfl rfl dX10_hour_7 (fun r3 u4 => ?_)
  refine jf_if_eq (tgt := 33) hX dX10_hour_10 (by decide) ?_ ?_
  · refine jf_iconst (v := -1) hX dX10_hour_33 (by decide) ?_
    exact jf_iret hX rfl (by decide) (by decide) dX10_hour_34
  · refine jf_aload_n hX dX10_hour_13 0 rfl ?_
    refine jf_getR hX ck_X10 6 wfl_687 (by decide) rfl dX10_hour_14 ?_
    refine jf_nn (fun q5 => ?_)
    refine jf_getR hX ck_X6 1 wfl_719 (by decide) rfl dX10_hour_17 ?_
    refine jf_nn (fun q6 => ?_)
    refine jf_aload_n hX dX10_hour_20 0 rfl ?_
    refine jf_getR hX ck_X10 6 wfl_687 (by decide) rfl dX10_hour_21 ?_
    refine jf_nn (fun q7 => ?_)
    refine jf_getR hX ck_X6 0 wfl_717 (by decide) rfl dX10_hour_24 ?_
    refine jf_nn (fun q8 => ?_)
    refine jf_callV (As := [.ref q8]) (st := []) hX mo_X2_isLast wml_764 winst_765 wsel_766 2 ck_X2 rfl (fun l D cT z0 ks => kX2_isLast N l D cT z0 ks q6 q8 u4) (by decide) (by decide) (by decide) (by decide) (Nat.le_of_ble_eq_true rfl) rfl rfl dX10_hour_27 (fun r9 u10 => ?_)
    refine jf_if_eq (tgt := 35) hX dX10_hour_30 (by decide) ?_ ?_
    · refine jf_aload_n hX dX10_hour_35 0 rfl ?_
      refine jf_getR hX ck_X10 8 wfl_695 (by decide) rfl dX10_hour_36 ?_
      refine jf_nn (fun q11 => ?_)
      refine jf_aload_n hX dX10_hour_39 0 rfl ?_
      refine jf_getR hX ck_X10 6 wfl_687 (by decide) rfl dX10_hour_40 ?_
      refine jf_nn (fun q12 => ?_)
      refine jf_getR hX ck_X6 1 wfl_719 (by decide) rfl dX10_hour_43 ?_
      refine jf_nn (fun q13 => ?_)
      refine jf_callV (As := [.ref q13]) (st := []) hX mo_X0_keep wml_767 winst_768 wsel_769 0 ck_X0 rfl (fun l D cT z0 ks => kX0_keep N l D cT z0 ks q11 q13 u10) (by decide) (by decide) (by decide) (by decide) (Nat.le_of_ble_eq_true rfl) rfl rfl dX10_hour_46 (fun r14 u15 => ?_)
      refine jf_aload_n hX dX10_hour_49 0 rfl ?_
      refine jf_getR hX ck_X10 9 wfl_701 (by decide) rfl dX10_hour_50 ?_
      refine jf_nn (fun q16 => ?_)
      refine jf_aload_n hX dX10_hour_53 0 rfl ?_
      refine jf_getR hX ck_X10 6 wfl_687 (by decide) rfl dX10_hour_54 ?_
      refine jf_nn (fun q17 => ?_)
      refine jf_getR hX ck_X6 0 wfl_717 (by decide) rfl dX10_hour_57 ?_
      refine jf_nn (fun q18 => ?_)
      refine jf_aload_n hX dX10_hour_60 0 rfl ?_
      refine jf_getR hX ck_X10 6 wfl_687 (by decide) rfl dX10_hour_61 ?_
      refine jf_nn (fun q19 => ?_)
      refine jf_getR hX ck_X6 1 wfl_719 (by decide) rfl dX10_hour_64 ?_
      refine jf_nn (fun q20 => ?_)
      refine jf_aload_n hX dX10_hour_67 0 rfl ?_
      refine jf_callV (As := []) (st := [.ref q20, .ref q18, .ref q16]) hX mo_X10_ruleNow wml_770 winst_771 wsel_772 10 ck_X10 rfl (fun l D cT z0 ks => kX10_ruleNow N l D cT z0 ks a0 u15) (by decide) (by decide) (by decide) (by decide) (Nat.le_of_ble_eq_true rfl) rfl rfl dX10_hour_68 (fun r21 u22 => ?_)
      refine jf_callV (As := [.ref q18, .ref q20, va_rf r21]) (st := []) hX mo_X3_play wml_773 winst_774 wsel_775 3 ck_X3 rfl (fun l D cT z0 ks => kX3_play N l D cT z0 ks q16 q18 q20 r21 u22) (by decide) (by decide) (by decide) (by decide) (Nat.le_of_ble_eq_true rfl) rfl rfl dX10_hour_71 (fun r23 u24 => ?_)
      exact jf_iret hX rfl (by decide) (by decide) dX10_hour_74
    · refine jf_iconst (v := -1) hX dX10_hour_33 (by decide) ?_
      exact jf_iret hX rfl (by decide) (by decide) dX10_hour_34
set_option maxRecDepth 20000 in
def gX10_sleep_75 (N : Nat)   (x0 : Nat) (x1 : Int32) (u : SG) : Option (Int32 × SG) := if zK u x0 = 11 then (Option.bind (zR u x0 8) fun q1 => (if zK u x0 = 11 then (Option.bind (zR u x0 6) fun q2 => (if zK u q2 = 7 then (Option.bind (zR u q2 1) fun q3 => (if zK u q1 = 1 then cl (fX0_keep N q1 q3 u) fun r4 u5 => (if zK u5 x0 = 11 then (Option.bind (zR u5 x0 6) fun q6 => (if zK u5 q6 = 7 then (Option.bind (zR u5 q6 1) fun q7 => (if zK u5 q7 = 3 then (if zK u5 q7 = 3 then bs (sI u5 q7 2 ((zI u5 q7 2) ^^^ ((1 : Int32) <<< (x1 &&& 31)))) fun u8 => (some ((1 : Int32), u8)) else none) else none)) else none)) else none) else none)) else none)) else none)) else none
set_option maxRecDepth 20000 in
set_option maxHeartbeats 4000000 in
theorem jgX10_sleep_75   {X : XT} (hX : Cx X yX10_sleep cX10_sleep 5 (some .boolean) 3 0 0) (N : Nat)  (x0 : Nat) (x1 : Int32) (u : SG) : JF X True 5 0 0 (jQ X vI 0 0) 75 [(0, .ref x0), (1, .int x1)] [] u (gX10_sleep_75 N   x0 x1 u) := by
  unfold gX10_sleep_75
  refine jf_aload_n hX dX10_sleep_75 0 rfl ?_
  refine jf_getR hX ck_X10 8 wfl_695 (by decide) rfl dX10_sleep_76 ?_
  refine jf_nn (fun q1 => ?_)
  refine jf_aload_n hX dX10_sleep_79 0 rfl ?_
  refine jf_getR hX ck_X10 6 wfl_687 (by decide) rfl dX10_sleep_80 ?_
  refine jf_nn (fun q2 => ?_)
  refine jf_getR hX ck_X6 1 wfl_719 (by decide) rfl dX10_sleep_83 ?_
  refine jf_nn (fun q3 => ?_)
  refine jf_callV (As := [.ref q3]) (st := []) hX mo_X0_keep wml_767 winst_768 wsel_769 0 ck_X0 rfl (fun l D cT z0 ks => kX0_keep N l D cT z0 ks q1 q3 u) (by decide) (by decide) (by decide) (by decide) (Nat.le_of_ble_eq_true rfl) rfl rfl dX10_sleep_86 (fun r4 u5 => ?_)
  refine jf_aload_n hX dX10_sleep_89 0 rfl ?_
  refine jf_getR hX ck_X10 6 wfl_687 (by decide) rfl dX10_sleep_90 ?_
  refine jf_nn (fun q6 => ?_)
  refine jf_getR hX ck_X6 1 wfl_719 (by decide) rfl dX10_sleep_93 ?_
  refine jf_nn (fun q7 => ?_)
  refine jf_dup hX dX10_sleep_96 rfl ?_
  refine jf_getI hX ck_X2 2 wfl_745 (by decide) rfl dX10_sleep_97 ?_
  refine jf_iconst (v := 1) hX dX10_sleep_100 (by decide) ?_
  refine jf_iload_n hX dX10_sleep_101 1 rfl ?_
  refine jf_ishl hX dX10_sleep_102 ?_
  refine jf_ixor hX dX10_sleep_103 ?_
  refine jf_putI hX trivial ck_X2 2 wfl_745 (by decide) rfl rfl rfl dX10_sleep_104 (fun u8 => ?_)
  refine jf_iconst (v := 1) hX dX10_sleep_107 (by decide) ?_
  exact jf_zretc hX rfl (by decide) (by decide) (by decide) dX10_sleep_108
set_option maxRecDepth 20000 in
def gX10_sleep_57 (N : Nat)   (x0 : Nat) (x1 : Int32) (x2 : Int32) (x3 : Int32) (s0 : Int32) (u : SG) : Option (Int32 × SG) := if x3 = x2 then (some ((0 : Int32), u))
  else (if x2 = 0 then (gX10_sleep_75 N  x0 x1 u)
  else (if s0 = 0 then (gX10_sleep_75 N  x0 x1 u)
  else (some ((0 : Int32), u))))
set_option maxRecDepth 20000 in
set_option maxHeartbeats 4000000 in
theorem jgX10_sleep_57   {X : XT} (hX : Cx X yX10_sleep cX10_sleep 5 (some .boolean) 3 0 0) (N : Nat)  (x0 : Nat) (x1 : Int32) (x2 : Int32) (x3 : Int32) (s0 : Int32) (u : SG) : JF X True 5 0 0 (jQ X vI 0 0) 57 [(0, .ref x0), (1, .int x1), (2, .int x2), (3, .int x3)] [.int s0] u (gX10_sleep_57 N   x0 x1 x2 x3 s0 u) := by
  unfold gX10_sleep_57
  refine jf_istore (lv' := [(4, .int s0), (0, .ref x0), (1, .int x1), (2, .int x2), (3, .int x3)]) hX dX10_sleep_57 (by decide) rfl ?_
  refine jf_iload_n hX dX10_sleep_59 4 rfl ?_
  refine jf_iload_n hX dX10_sleep_60 3 rfl ?_
  refine jf_icmp_eq (tgt := 73) hX dX10_sleep_61 (by decide) ?_ ?_
  · refine jf_iconst (v := 0) hX dX10_sleep_73 (by decide) ?_
    exact jf_zretc hX rfl (by decide) (by decide) (by decide) dX10_sleep_74
  · refine jf_iload_n hX dX10_sleep_64 3 rfl ?_
    refine jf_if_eq (tgt := 75) hX dX10_sleep_65 (by decide) ?_ ?_
    · refine jf_lv [1, 2] rfl ?_
      exact jgX10_sleep_75 hX N  x0 x1 u
    · refine jf_iload hX dX10_sleep_68 0 rfl ?_
      refine jf_if_eq (tgt := 75) hX dX10_sleep_70 (by decide) ?_ ?_
      · refine jf_lv [1, 2] rfl ?_
        exact jgX10_sleep_75 hX N  x0 x1 u
      · refine jf_iconst (v := 0) hX dX10_sleep_73 (by decide) ?_
        exact jf_zretc hX rfl (by decide) (by decide) (by decide) dX10_sleep_74
set_option maxRecDepth 20000 in
def gX10_sleep_39 (N : Nat)   (x0 : Nat) (x1 : Int32) (x2 : Int32) (s0 : Int32) (u : SG) : Option (Int32 × SG) := if zK u x0 = 11 then cl (fX10_workersNow N x0 u) fun r1 u2 => (cl (fX10_bitOf N r1 x1 u2) fun r3 u4 => (if r3 = (1 : Int32) then (gX10_sleep_57 N  x0 x1 x2 s0 (1 : Int32) u4)
  else (gX10_sleep_57 N  x0 x1 x2 s0 (0 : Int32) u4))) else none
set_option maxRecDepth 20000 in
set_option maxHeartbeats 4000000 in
theorem jgX10_sleep_39   {X : XT} (hX : Cx X yX10_sleep cX10_sleep 5 (some .boolean) 3 0 0) (N : Nat)  (x0 : Nat) (x1 : Int32) (x2 : Int32) (s0 : Int32) (u : SG) : JF X True 5 0 0 (jQ X vI 0 0) 39 [(0, .ref x0), (1, .int x1), (2, .int x2)] [.int s0] u (gX10_sleep_39 N   x0 x1 x2 s0 u) := by
  unfold gX10_sleep_39
  refine jf_istore_n (lv' := [(3, .int s0), (0, .ref x0), (1, .int x1), (2, .int x2)]) hX dX10_sleep_39 rfl (by decide) rfl ?_
  refine jf_aload_n hX dX10_sleep_40 1 rfl ?_
  refine jf_callV (As := []) (st := []) hX mo_X10_workersNow wml_749 winst_750 wsel_751 10 ck_X10 rfl (fun l D cT z0 ks => kX10_workersNow N l D cT z0 ks x0 u) (by decide) (by decide) (by decide) (by decide) (Nat.le_of_ble_eq_true rfl) rfl rfl dX10_sleep_41 (fun r1 u2 => ?_)
  refine jf_iload_n hX dX10_sleep_44 2 rfl ?_
  refine jf_callS (As := [.int r1, .int x1]) (st := []) hX mo_X10_bitOf wml_746 wstat_383 rfl (fun l D cT z0 ks => kX10_bitOf N l D cT z0 ks r1 x1 u2) (by decide) (by decide) (by decide) (by decide) (Nat.le_of_ble_eq_true rfl) rfl rfl dX10_sleep_45 (fun r3 u4 => ?_)
  refine jf_iconst (v := 1) hX dX10_sleep_48 (by decide) ?_
  refine jf_icmp_ne (tgt := 56) hX dX10_sleep_49 (by decide) ?_ ?_
  · refine jf_iconst (v := 0) hX dX10_sleep_56 (by decide) ?_
    refine jf_lv [1, 2, 3, 0] rfl ?_
    exact jgX10_sleep_57 hX N  x0 x1 x2 s0 (0 : Int32) u4
  · refine jf_iconst (v := 1) hX dX10_sleep_52 (by decide) ?_
    refine jf_goto (tgt := 57) hX dX10_sleep_53 (by decide) ?_
    refine jf_lv [1, 2, 3, 0] rfl ?_
    exact jgX10_sleep_57 hX N  x0 x1 x2 s0 (1 : Int32) u4
set_option maxRecDepth 20000 in
def fX10_sleep (N : Nat)  (a0 : Nat) (p1 : Int32) (p2 : Int32) (u : SG) : Option (Int32 × SG) := if zK u a0 = 11 then (Option.bind (zR u a0 6) fun q1 => (if zK u q1 = 7 then (Option.bind (zR u q1 0) fun q2 => (if zK u q2 = 8 then cl (fX7_isPerson N q2 p1 u) fun r3 u4 => (if r3 = 0 then (some ((0 : Int32), u4))
  else (if zK u4 a0 = 11 then (Option.bind (zR u4 a0 6) fun q5 => (if zK u4 q5 = 7 then (Option.bind (zR u4 q5 1) fun q6 => (if zK u4 q6 = 3 then (cl (fX10_bitOf N (zI u4 q6 2) p1 u4) fun r7 u8 => (if r7 = (1 : Int32) then (gX10_sleep_39 N  a0 p1 p2 (1 : Int32) u8)
  else (gX10_sleep_39 N  a0 p1 p2 (0 : Int32) u8))) else none)) else none)) else none)) else none)) else none)) else none
set_option maxRecDepth 20000 in
set_option maxHeartbeats 4000000 in
theorem kX10_sleep  (N : Nat)  (l : Launch) (D : va_G) (cT : Nat → ClassId) (z0 : Nat) (ks : Nat × Nat) (a0 : Nat) (p1 : Int32) (p2 : Int32) (u : SG) : Ct l D cT z0 ks yX10_sleep cX10_sleep 5 (some .boolean) 3 0 0 vI [.ref a0, .int p1, .int p2] u (fX10_sleep N  a0 p1 p2 u) := by
  unfold fX10_sleep
  refine ct_of (by decide +kernel) (Nat.le_of_ble_eq_true rfl) (fun p e R s m args below meth c hX => ?_)
  show JF _ True 5 0 0 _ 0 [(0, .ref a0), (1, .int p1), (2, .int p2)] [] u _
  refine jf_aload_n hX dX10_sleep_0 0 rfl ?_
  refine jf_getR hX ck_X10 6 wfl_687 (by decide) rfl dX10_sleep_1 ?_
  refine jf_nn (fun q1 => ?_)
  refine jf_getR hX ck_X6 0 wfl_717 (by decide) rfl dX10_sleep_4 ?_
  refine jf_nn (fun q2 => ?_)
  refine jf_iload_n hX dX10_sleep_7 1 rfl ?_
  refine jf_callV (As := [.int p1]) (st := []) hX mo_X7_isPerson wml_740 winst_741 wsel_742 7 ck_X7 rfl (fun l D cT z0 ks => kX7_isPerson N l D cT z0 ks q2 p1 u) (by decide) (by decide) (by decide) (by decide) (Nat.le_of_ble_eq_true rfl) rfl rfl dX10_sleep_8 (fun r3 u4 => ?_)
  refine jf_if_ne (tgt := 16) hX dX10_sleep_11 (by decide) ?_ ?_
  · refine jf_aload_n hX dX10_sleep_16 0 rfl ?_
    refine jf_getR hX ck_X10 6 wfl_687 (by decide) rfl dX10_sleep_17 ?_
    refine jf_nn (fun q5 => ?_)
    refine jf_getR hX ck_X6 1 wfl_719 (by decide) rfl dX10_sleep_20 ?_
    refine jf_nn (fun q6 => ?_)
    refine jf_getI hX ck_X2 2 wfl_745 (by decide) rfl dX10_sleep_23 ?_
    refine jf_iload_n hX dX10_sleep_26 1 rfl ?_
    refine jf_callS (As := [.int (zI u4 q6 2), .int p1]) (st := []) hX mo_X10_bitOf wml_746 wstat_383 rfl (fun l D cT z0 ks => kX10_bitOf N l D cT z0 ks (zI u4 q6 2) p1 u4) (by decide) (by decide) (by decide) (by decide) (Nat.le_of_ble_eq_true rfl) rfl rfl dX10_sleep_27 (fun r7 u8 => ?_)
    refine jf_iconst (v := 1) hX dX10_sleep_30 (by decide) ?_
    refine jf_icmp_ne (tgt := 38) hX dX10_sleep_31 (by decide) ?_ ?_
    · refine jf_iconst (v := 0) hX dX10_sleep_38 (by decide) ?_
      refine jf_lv [0, 1, 2] rfl ?_
      exact jgX10_sleep_39 hX N  a0 p1 p2 (0 : Int32) u8
    · refine jf_iconst (v := 1) hX dX10_sleep_34 (by decide) ?_
      refine jf_goto (tgt := 39) hX dX10_sleep_35 (by decide) ?_
      refine jf_lv [0, 1, 2] rfl ?_
      exact jgX10_sleep_39 hX N  a0 p1 p2 (1 : Int32) u8
  · refine jf_iconst (v := 0) hX dX10_sleep_14 (by decide) ?_
    exact jf_zretc hX rfl (by decide) (by decide) (by decide) dX10_sleep_15
set_option maxRecDepth 20000 in
def gX10_light_33 (N : Nat)   (x0 : Nat) (x1 : Int32) (x2 : Int32) (s0 : Int32) (u : SG) : Option (Int32 × SG) := if s0 = x2 then (some ((0 : Int32), u))
  else (if zK u x0 = 11 then (Option.bind (zR u x0 8) fun q1 => (if zK u x0 = 11 then (Option.bind (zR u x0 6) fun q2 => (if zK u q2 = 7 then (Option.bind (zR u q2 1) fun q3 => (if zK u q1 = 1 then cl (fX0_keep N q1 q3 u) fun r4 u5 => (if zK u5 x0 = 11 then (Option.bind (zR u5 x0 6) fun q6 => (if zK u5 q6 = 7 then (Option.bind (zR u5 q6 1) fun q7 => (if zK u5 q7 = 3 then cl (fX2_setLamp N q7 x1 x2 u5) fun r8 u9 => (some ((1 : Int32), u9)) else none)) else none)) else none) else none)) else none)) else none)) else none)
set_option maxRecDepth 20000 in
set_option maxHeartbeats 4000000 in
theorem jgX10_light_33   {X : XT} (hX : Cx X yX10_light cX10_light 4 (some .boolean) 4 0 0) (N : Nat)  (x0 : Nat) (x1 : Int32) (x2 : Int32) (s0 : Int32) (u : SG) : JF X True 4 0 0 (jQ X vI 0 0) 33 [(0, .ref x0), (1, .int x1), (2, .int x2)] [.int s0] u (gX10_light_33 N   x0 x1 x2 s0 u) := by
  unfold gX10_light_33
  refine jf_istore_n (lv' := [(3, .int s0), (0, .ref x0), (1, .int x1), (2, .int x2)]) hX dX10_light_33 rfl (by decide) rfl ?_
  refine jf_iload_n hX dX10_light_34 0 rfl ?_
  refine jf_iload_n hX dX10_light_35 3 rfl ?_
  refine jf_icmp_ne (tgt := 41) hX dX10_light_36 (by decide) ?_ ?_
  · refine jf_aload_n hX dX10_light_41 1 rfl ?_
    refine jf_getR hX ck_X10 8 wfl_695 (by decide) rfl dX10_light_42 ?_
    refine jf_nn (fun q1 => ?_)
    refine jf_aload_n hX dX10_light_45 1 rfl ?_
    refine jf_getR hX ck_X10 6 wfl_687 (by decide) rfl dX10_light_46 ?_
    refine jf_nn (fun q2 => ?_)
    refine jf_getR hX ck_X6 1 wfl_719 (by decide) rfl dX10_light_49 ?_
    refine jf_nn (fun q3 => ?_)
    refine jf_callV (As := [.ref q3]) (st := []) hX mo_X0_keep wml_767 winst_768 wsel_769 0 ck_X0 rfl (fun l D cT z0 ks => kX0_keep N l D cT z0 ks q1 q3 u) (by decide) (by decide) (by decide) (by decide) (Nat.le_of_ble_eq_true rfl) rfl rfl dX10_light_52 (fun r4 u5 => ?_)
    refine jf_aload_n hX dX10_light_55 1 rfl ?_
    refine jf_getR hX ck_X10 6 wfl_687 (by decide) rfl dX10_light_56 ?_
    refine jf_nn (fun q6 => ?_)
    refine jf_getR hX ck_X6 1 wfl_719 (by decide) rfl dX10_light_59 ?_
    refine jf_nn (fun q7 => ?_)
    refine jf_iload_n hX dX10_light_62 2 rfl ?_
    refine jf_iload_n hX dX10_light_63 3 rfl ?_
    refine jf_callV (As := [.int x1, .int x2]) (st := []) hX mo_X2_setLamp wml_776 winst_777 wsel_778 2 ck_X2 rfl (fun l D cT z0 ks => kX2_setLamp N l D cT z0 ks q7 x1 x2 u5) (by decide) (by decide) (by decide) (by decide) (Nat.le_of_ble_eq_true rfl) rfl rfl dX10_light_64 (fun r8 u9 => ?_)
    refine jf_iconst (v := 1) hX dX10_light_67 (by decide) ?_
    exact jf_zretc hX rfl (by decide) (by decide) (by decide) dX10_light_68
  · refine jf_iconst (v := 0) hX dX10_light_39 (by decide) ?_
    exact jf_zretc hX rfl (by decide) (by decide) (by decide) dX10_light_40
set_option maxRecDepth 20000 in
def fX10_light (N : Nat)  (a0 : Nat) (p1 : Int32) (p2 : Int32) (u : SG) : Option (Int32 × SG) := if zK u a0 = 11 then (Option.bind (zR u a0 6) fun q1 => (if zK u q1 = 7 then (Option.bind (zR u q1 0) fun q2 => (if zK u q2 = 8 then cl (fX7_isLamp N q2 p1 u) fun r3 u4 => (if r3 = 0 then (some ((0 : Int32), u4))
  else (if zK u4 a0 = 11 then cl (fX10_burningNow N a0 u4) fun r5 u6 => (cl (fX10_bitOf N r5 p1 u6) fun r7 u8 => (if r7 = (1 : Int32) then (gX10_light_33 N  a0 p1 p2 (1 : Int32) u8)
  else (gX10_light_33 N  a0 p1 p2 (0 : Int32) u8))) else none)) else none)) else none)) else none
set_option maxRecDepth 20000 in
set_option maxHeartbeats 4000000 in
theorem kX10_light  (N : Nat)  (l : Launch) (D : va_G) (cT : Nat → ClassId) (z0 : Nat) (ks : Nat × Nat) (a0 : Nat) (p1 : Int32) (p2 : Int32) (u : SG) : Ct l D cT z0 ks yX10_light cX10_light 4 (some .boolean) 4 0 0 vI [.ref a0, .int p1, .int p2] u (fX10_light N  a0 p1 p2 u) := by
  unfold fX10_light
  refine ct_of (by decide +kernel) (Nat.le_of_ble_eq_true rfl) (fun p e R s m args below meth c hX => ?_)
  show JF _ True 4 0 0 _ 0 [(0, .ref a0), (1, .int p1), (2, .int p2)] [] u _
  refine jf_aload_n hX dX10_light_0 0 rfl ?_
  refine jf_getR hX ck_X10 6 wfl_687 (by decide) rfl dX10_light_1 ?_
  refine jf_nn (fun q1 => ?_)
  refine jf_getR hX ck_X6 0 wfl_717 (by decide) rfl dX10_light_4 ?_
  refine jf_nn (fun q2 => ?_)
  refine jf_iload_n hX dX10_light_7 1 rfl ?_
  refine jf_callV (As := [.int p1]) (st := []) hX mo_X7_isLamp wml_753 winst_754 wsel_755 7 ck_X7 rfl (fun l D cT z0 ks => kX7_isLamp N l D cT z0 ks q2 p1 u) (by decide) (by decide) (by decide) (by decide) (Nat.le_of_ble_eq_true rfl) rfl rfl dX10_light_8 (fun r3 u4 => ?_)
  refine jf_if_ne (tgt := 16) hX dX10_light_11 (by decide) ?_ ?_
  · refine jf_aload_n hX dX10_light_16 0 rfl ?_
    refine jf_callV (As := []) (st := []) hX mo_X10_burningNow wml_758 winst_759 wsel_760 10 ck_X10 rfl (fun l D cT z0 ks => kX10_burningNow N l D cT z0 ks a0 u4) (by decide) (by decide) (by decide) (by decide) (Nat.le_of_ble_eq_true rfl) rfl rfl dX10_light_17 (fun r5 u6 => ?_)
    refine jf_iload_n hX dX10_light_20 1 rfl ?_
    refine jf_callS (As := [.int r5, .int p1]) (st := []) hX mo_X10_bitOf wml_746 wstat_383 rfl (fun l D cT z0 ks => kX10_bitOf N l D cT z0 ks r5 p1 u6) (by decide) (by decide) (by decide) (by decide) (Nat.le_of_ble_eq_true rfl) rfl rfl dX10_light_21 (fun r7 u8 => ?_)
    refine jf_iconst (v := 1) hX dX10_light_24 (by decide) ?_
    refine jf_icmp_ne (tgt := 32) hX dX10_light_25 (by decide) ?_ ?_
    · refine jf_iconst (v := 0) hX dX10_light_32 (by decide) ?_
      refine jf_lv [0, 1, 2] rfl ?_
      exact jgX10_light_33 hX N  a0 p1 p2 (0 : Int32) u8
    · refine jf_iconst (v := 1) hX dX10_light_28 (by decide) ?_
      refine jf_goto (tgt := 33) hX dX10_light_29 (by decide) ?_
      refine jf_lv [0, 1, 2] rfl ?_
      exact jgX10_light_33 hX N  a0 p1 p2 (1 : Int32) u8
  · refine jf_iconst (v := 0) hX dX10_light_14 (by decide) ?_
    exact jf_zretc hX rfl (by decide) (by decide) (by decide) dX10_light_15
set_option maxRecDepth 20000 in
def fX10_undo (N : Nat)  (a0 : Nat) (u : SG) : Option (Int32 × SG) := if zK u a0 = 11 then (Option.bind (zR u a0 8) fun q1 => (if zK u a0 = 11 then (Option.bind (zR u a0 6) fun q2 => (if zK u q2 = 7 then (Option.bind (zR u q2 1) fun q3 => (if zK u q1 = 1 then cl (fX0_takeBack N q1 q3 u) fun r4 u5 => (if r4 = 0 then (some ((-1 : Int32), u5))
  else (if zK u5 a0 = 11 then (Option.bind (zR u5 a0 8) fun q6 => (if zK u5 q6 = 1 then (some (zI u5 q6 2, u5)) else none)) else none)) else none)) else none)) else none)) else none
set_option maxRecDepth 20000 in
set_option maxHeartbeats 4000000 in
theorem kX10_undo  (N : Nat)  (l : Launch) (D : va_G) (cT : Nat → ClassId) (z0 : Nat) (ks : Nat × Nat) (a0 : Nat) (u : SG) : Ct l D cT z0 ks yX10_undo cX10_undo 1 (some .int) 3 0 0 vI [.ref a0] u (fX10_undo N  a0 u) := by
  unfold fX10_undo
  refine ct_of (by decide +kernel) (Nat.le_of_ble_eq_true rfl) (fun p e R s m args below meth c hX => ?_)
  show JF _ True 1 0 0 _ 0 [(0, .ref a0)] [] u _
  refine jf_aload_n hX dX10_undo_0 0 rfl ?_
  refine jf_getR hX ck_X10 8 wfl_695 (by decide) rfl dX10_undo_1 ?_
  refine jf_nn (fun q1 => ?_)
  refine jf_aload_n hX dX10_undo_4 0 rfl ?_
  refine jf_getR hX ck_X10 6 wfl_687 (by decide) rfl dX10_undo_5 ?_
  refine jf_nn (fun q2 => ?_)
  refine jf_getR hX ck_X6 1 wfl_719 (by decide) rfl dX10_undo_8 ?_
  refine jf_nn (fun q3 => ?_)
  refine jf_callV (As := [.ref q3]) (st := []) hX mo_X0_takeBack wml_779 winst_780 wsel_781 0 ck_X0 rfl (fun l D cT z0 ks => kX0_takeBack N l D cT z0 ks q1 q3 u) (by decide) (by decide) (by decide) (by decide) (Nat.le_of_ble_eq_true rfl) rfl rfl dX10_undo_11 (fun r4 u5 => ?_)
  refine jf_if_eq (tgt := 27) hX dX10_undo_14 (by decide) ?_ ?_
  · refine jf_iconst (v := -1) hX dX10_undo_27 (by decide) ?_
    exact jf_iret hX rfl (by decide) (by decide) dX10_undo_28
  · refine jf_aload_n hX dX10_undo_17 0 rfl ?_
    refine jf_getR hX ck_X10 8 wfl_695 (by decide) rfl dX10_undo_18 ?_
    refine jf_nn (fun q6 => ?_)
    refine jf_getI hX ck_X0 2 wfl_782 (by decide) rfl dX10_undo_21 ?_
    refine jf_goto (tgt := 28) hX dX10_undo_24 (by decide) ?_
    exact jf_iret hX rfl (by decide) (by decide) dX10_undo_28
set_option maxRecDepth 20000 in
def fX10_isDebtor (N : Nat)  (a0 : Nat) (p1 : Int32) (u : SG) : Option (Int32 × SG) := if zK u a0 = 11 then (Option.bind (zR u a0 6) fun q1 => (if zK u q1 = 7 then (Option.bind (zR u q1 0) fun q2 => (if zK u q2 = 8 then cl (fX7_isTold N q2 u) fun r3 u4 => (if r3 = 0 then (some ((0 : Int32), u4))
  else (if p1 = (-1 : Int32) then (some ((1 : Int32), u4))
  else (if zK u4 a0 = 11 then (Option.bind (zR u4 a0 6) fun q5 => (if zK u4 q5 = 7 then (Option.bind (zR u4 q5 0) fun q6 => (if zK u4 q6 = 8 then cl (fX7_isPerson N q6 p1 u4) fun r7 u8 => (if r7 = 0 then (some ((0 : Int32), u8))
  else (some ((1 : Int32), u8))) else none)) else none)) else none))) else none)) else none)) else none
set_option maxRecDepth 20000 in
set_option maxHeartbeats 4000000 in
theorem kX10_isDebtor  (N : Nat)  (l : Launch) (D : va_G) (cT : Nat → ClassId) (z0 : Nat) (ks : Nat × Nat) (a0 : Nat) (p1 : Int32) (u : SG) : Ct l D cT z0 ks yX10_isDebtor cX10_isDebtor 2 (some .boolean) 2 0 0 vI [.ref a0, .int p1] u (fX10_isDebtor N  a0 p1 u) := by
  unfold fX10_isDebtor
  refine ct_of (by decide +kernel) (Nat.le_of_ble_eq_true rfl) (fun p e R s m args below meth c hX => ?_)
  show JF _ True 2 0 0 _ 0 [(0, .ref a0), (1, .int p1)] [] u _
  refine jf_aload_n hX dX10_isDebtor_0 0 rfl ?_
  refine jf_getR hX ck_X10 6 wfl_687 (by decide) rfl dX10_isDebtor_1 ?_
  refine jf_nn (fun q1 => ?_)
  refine jf_getR hX ck_X6 0 wfl_717 (by decide) rfl dX10_isDebtor_4 ?_
  refine jf_nn (fun q2 => ?_)
  refine jf_callV (As := []) (st := []) hX mo_X7_isTold wml_761 winst_762 wsel_763 7 ck_X7 rfl (fun l D cT z0 ks => kX7_isTold N l D cT z0 ks q2 u) (by decide) (by decide) (by decide) (by decide) (Nat.le_of_ble_eq_true rfl) rfl rfl dX10_isDebtor_7 (fun r3 u4 => ?_)
  refine jf_if_eq (tgt := 36) hX dX10_isDebtor_10 (by decide) ?_ ?_
  · refine jf_iconst (v := 0) hX dX10_isDebtor_36 (by decide) ?_
    exact jf_zretc hX rfl (by decide) (by decide) (by decide) dX10_isDebtor_37
  · refine jf_iload_n hX dX10_isDebtor_13 1 rfl ?_
    refine jf_iconst (v := -1) hX dX10_isDebtor_14 (by decide) ?_
    refine jf_icmp_eq (tgt := 32) hX dX10_isDebtor_15 (by decide) ?_ ?_
    · refine jf_iconst (v := 1) hX dX10_isDebtor_32 (by decide) ?_
      refine jf_goto (tgt := 37) hX dX10_isDebtor_33 (by decide) ?_
      exact jf_zretc hX rfl (by decide) (by decide) (by decide) dX10_isDebtor_37
    · refine jf_aload_n hX dX10_isDebtor_18 0 rfl ?_
      refine jf_getR hX ck_X10 6 wfl_687 (by decide) rfl dX10_isDebtor_19 ?_
      refine jf_nn (fun q5 => ?_)
      refine jf_getR hX ck_X6 0 wfl_717 (by decide) rfl dX10_isDebtor_22 ?_
      refine jf_nn (fun q6 => ?_)
      refine jf_iload_n hX dX10_isDebtor_25 1 rfl ?_
      refine jf_callV (As := [.int p1]) (st := []) hX mo_X7_isPerson wml_740 winst_741 wsel_742 7 ck_X7 rfl (fun l D cT z0 ks => kX7_isPerson N l D cT z0 ks q6 p1 u4) (by decide) (by decide) (by decide) (by decide) (Nat.le_of_ble_eq_true rfl) rfl rfl dX10_isDebtor_26 (fun r7 u8 => ?_)
      refine jf_if_eq (tgt := 36) hX dX10_isDebtor_29 (by decide) ?_ ?_
      · refine jf_iconst (v := 0) hX dX10_isDebtor_36 (by decide) ?_
        exact jf_zretc hX rfl (by decide) (by decide) (by decide) dX10_isDebtor_37
      · refine jf_iconst (v := 1) hX dX10_isDebtor_32 (by decide) ?_
        refine jf_goto (tgt := 37) hX dX10_isDebtor_33 (by decide) ?_
        exact jf_zretc hX rfl (by decide) (by decide) (by decide) dX10_isDebtor_37
set_option maxRecDepth 20000 in
def fX10_isPart (N : Nat)  (p1 : Int32) (u : SG) : Option (Int32 × SG) := if p1 = 0 then (some ((1 : Int32), u))
  else (if p1 = (1 : Int32) then (some ((1 : Int32), u))
  else (some ((0 : Int32), u)))
set_option maxRecDepth 20000 in
set_option maxHeartbeats 4000000 in
theorem kX10_isPart  (N : Nat)  (l : Launch) (D : va_G) (cT : Nat → ClassId) (z0 : Nat) (ks : Nat × Nat) (p1 : Int32) (u : SG) : Ct l D cT z0 ks yX10_isPart cX10_isPart 1 (some .boolean) 1 0 0 vI [.int p1] u (fX10_isPart N  p1 u) := by
  unfold fX10_isPart
  refine ct_of (by decide +kernel) (Nat.le_of_ble_eq_true rfl) (fun p e R s m args below meth c hX => ?_)
  show JF _ True 1 0 0 _ 0 [(0, .int p1)] [] u _
  refine jf_iload_n hX dX10_isPart_0 0 rfl ?_
  refine jf_if_eq (tgt := 9) hX dX10_isPart_1 (by decide) ?_ ?_
  · refine jf_iconst (v := 1) hX dX10_isPart_9 (by decide) ?_
    refine jf_goto (tgt := 14) hX dX10_isPart_10 (by decide) ?_
    exact jf_zretc hX rfl (by decide) (by decide) (by decide) dX10_isPart_14
  · refine jf_iload_n hX dX10_isPart_4 0 rfl ?_
    refine jf_iconst (v := 1) hX dX10_isPart_5 (by decide) ?_
    refine jf_icmp_ne (tgt := 13) hX dX10_isPart_6 (by decide) ?_ ?_
    · refine jf_iconst (v := 0) hX dX10_isPart_13 (by decide) ?_
      exact jf_zretc hX rfl (by decide) (by decide) (by decide) dX10_isPart_14
    · refine jf_iconst (v := 1) hX dX10_isPart_9 (by decide) ?_
      refine jf_goto (tgt := 14) hX dX10_isPart_10 (by decide) ?_
      exact jf_zretc hX rfl (by decide) (by decide) (by decide) dX10_isPart_14
set_option maxRecDepth 20000 in
def fX10_debtorRow (N : Nat)  (p1 : Int32) (u : SG) : Option (Int32 × SG) := if p1 = (-1 : Int32) then (some ((5 : Int32), u))
  else (some (p1, u))
set_option maxRecDepth 20000 in
set_option maxHeartbeats 4000000 in
theorem kX10_debtorRow  (N : Nat)  (l : Launch) (D : va_G) (cT : Nat → ClassId) (z0 : Nat) (ks : Nat × Nat) (p1 : Int32) (u : SG) : Ct l D cT z0 ks yX10_debtorRow cX10_debtorRow 1 (some .int) 1 0 0 vI [.int p1] u (fX10_debtorRow N  p1 u) := by
  unfold fX10_debtorRow
  refine ct_of (by decide +kernel) (Nat.le_of_ble_eq_true rfl) (fun p e R s m args below meth c hX => ?_)
  show JF _ True 1 0 0 _ 0 [(0, .int p1)] [] u _
  refine jf_iload_n hX dX10_debtorRow_0 0 rfl ?_
  refine jf_iconst (v := -1) hX dX10_debtorRow_1 (by decide) ?_
  refine jf_icmp_ne (tgt := 9) hX dX10_debtorRow_2 (by decide) ?_ ?_
  · refine jf_iload_n hX dX10_debtorRow_9 0 rfl ?_
    exact jf_iret hX rfl (by decide) (by decide) dX10_debtorRow_10
  · refine jf_iconst (v := 5) hX dX10_debtorRow_5 (by decide) ?_
    refine jf_goto (tgt := 10) hX dX10_debtorRow_6 (by decide) ?_
    exact jf_iret hX rfl (by decide) (by decide) dX10_debtorRow_10
set_option maxRecDepth 20000 in
def fJ9_abs_067f4 (N : Nat)  (p1 : Int64) (u : SG) : Option (Int64 × SG) := if 0 ≤ (lg_cmp p1 (0 : Int64)) then (some (p1, u))
  else (some (0 - p1, u))
set_option maxRecDepth 20000 in
set_option maxHeartbeats 4000000 in
theorem kJ9_abs_067f4  (N : Nat)  (l : Launch) (D : va_G) (cT : Nat → ClassId) (z0 : Nat) (ks : Nat × Nat) (p1 : Int64) (u : SG) : Ct l D cT z0 ks yJ9_abs_067f4 cJ9_abs_067f4 2 (some .long) 1 0 0 vL [.long p1] u (fJ9_abs_067f4 N  p1 u) := by
  unfold fJ9_abs_067f4
  refine ct_of (by decide +kernel) (Nat.le_of_ble_eq_true rfl) (fun p e R s m args below meth c hX => ?_)
  show JF _ True 2 0 0 _ 0 [(0, .long p1)] [] u _
  refine jf_lload_n hX dJ9_abs_067f4_0 0 rfl ?_
  refine jf_lconst (v := 0) hX dJ9_abs_067f4_1 (by decide) ?_
  refine jf_lcmp hX dJ9_abs_067f4_2 ?_
  refine jf_if_ge (tgt := 11) hX dJ9_abs_067f4_3 (by decide) ?_ ?_
  · refine jf_lload_n hX dJ9_abs_067f4_11 0 rfl ?_
    exact jf_lret hX rfl (by decide) (by decide) dJ9_abs_067f4_12
  · refine jf_lload_n hX dJ9_abs_067f4_6 0 rfl ?_
    refine jf_lneg hX dJ9_abs_067f4_7 ?_
    refine jf_goto (tgt := 12) hX dJ9_abs_067f4_8 (by decide) ?_
    exact jf_lret hX rfl (by decide) (by decide) dJ9_abs_067f4_12
set_option maxRecDepth 20000 in
def gX10_fraction_48 (N : Nat)   (x0 : Int64) (x2 : Int64) (x4 : Int32) (x5 : Int64) (u : SG) : Option (Int32 × SG) := if (lg_cmp x5 (0 : Int64)) = 0 then (some ((0 : Int32), u))
  else (if x4 = 0 then (if x5 = 0 then none else (some ((x0 / x5).toInt32, u)))
  else (if x5 = 0 then none else (some ((x2 / x5).toInt32, u))))
set_option maxRecDepth 20000 in
set_option maxHeartbeats 4000000 in
theorem jgX10_fraction_48   {X : XT} (hX : Cx X yX10_fraction cX10_fraction 12 (some .int) 2 0 0) (N : Nat)  (x0 : Int64) (x2 : Int64) (x4 : Int32) (x5 : Int64) (u : SG) : JF X True 12 0 0 (jQ X vI 0 0) 48 [(0, .long x0), (2, .long x2), (4, .int x4), (5, .long x5)] [] u (gX10_fraction_48 N   x0 x2 x4 x5 u) := by
  unfold gX10_fraction_48
  refine jf_lload hX dX10_fraction_48 3 rfl ?_
  refine jf_lconst (v := 0) hX dX10_fraction_50 (by decide) ?_
  refine jf_lcmp hX dX10_fraction_51 ?_
  refine jf_if_ne (tgt := 57) hX dX10_fraction_52 (by decide) ?_ ?_
  · refine jf_iload hX dX10_fraction_57 2 rfl ?_
    refine jf_if_ne (tgt := 66) hX dX10_fraction_59 (by decide) ?_ ?_
    · refine jf_lload_n hX dX10_fraction_66 1 rfl ?_
      refine jf_lload hX dX10_fraction_67 3 rfl ?_
      refine jf_ldiv hX dX10_fraction_69 ?_
      refine jf_l2i hX dX10_fraction_70 ?_
      exact jf_iret hX rfl (by decide) (by decide) dX10_fraction_71
    · refine jf_lload_n hX dX10_fraction_62 0 rfl ?_
      refine jf_goto (tgt := 67) hX dX10_fraction_63 (by decide) ?_
      refine jf_lload hX dX10_fraction_67 3 rfl ?_
      refine jf_ldiv hX dX10_fraction_69 ?_
      refine jf_l2i hX dX10_fraction_70 ?_
      exact jf_iret hX rfl (by decide) (by decide) dX10_fraction_71
  · refine jf_iconst (v := 0) hX dX10_fraction_55 (by decide) ?_
    exact jf_iret hX rfl (by decide) (by decide) dX10_fraction_56
set_option maxRecDepth 20000 in
def gX10_fraction_12 (N : Nat)   : Nat → Int64 → Int64 → Int32 → Int64 → Int64 → Int32 → SG → Option (Int32 × SG)
  | 0, _, _, _, _, _, _, _ => none
  | n + 1, x0, x2, x4, x5, x7, x9, u => if (200 : Int32) ≤ x9 then (gX10_fraction_48 N  x0 x2 x4 x5 u)
  else (if (lg_cmp x7 (0 : Int64)) = 0 then (gX10_fraction_48 N  x0 x2 x4 x5 u)
  else (if x7 = 0 then none else (bs (x5 - x5 / x7 * x7) fun v1 => ((gX10_fraction_12 N  n) x0 x2 x4 x7 v1 (x9 + (1 : Int32)) u))))
set_option maxRecDepth 20000 in
set_option maxHeartbeats 4000000 in
theorem jgX10_fraction_12   {X : XT} (hX : Cx X yX10_fraction cX10_fraction 12 (some .int) 2 0 0) (N : Nat)  : ∀ (n : Nat) (x0 : Int64) (x2 : Int64) (x4 : Int32) (x5 : Int64) (x7 : Int64) (x9 : Int32) (u : SG), JF X True 12 0 0 (jQ X vI 0 0) 12 [(0, .long x0), (2, .long x2), (4, .int x4), (5, .long x5), (7, .long x7), (9, .int x9)] [] u (gX10_fraction_12 N   n x0 x2 x4 x5 x7 x9 u) := by
  intro n
  induction n with
  | zero => intros; intro r u9 h9; exact absurd h9 (by simp [gX10_fraction_12])
  | succ n ih =>
    intro x0 x2 x4 x5 x7 x9 u
    have hrec12 := ih
    rw [gX10_fraction_12]
    refine jf_iload hX dX10_fraction_12 5 rfl ?_
    refine jf_sipush (v := 200) hX dX10_fraction_14 (by decide) ?_
    refine jf_icmp_ge (tgt := 48) hX dX10_fraction_17 (by decide) ?_ ?_
    · refine jf_lv [0, 1, 2, 3] rfl ?_
      exact jgX10_fraction_48 hX N  x0 x2 x4 x5 u
    · refine jf_lload hX dX10_fraction_20 4 rfl ?_
      refine jf_lconst (v := 0) hX dX10_fraction_22 (by decide) ?_
      refine jf_lcmp hX dX10_fraction_23 ?_
      refine jf_if_eq (tgt := 48) hX dX10_fraction_24 (by decide) ?_ ?_
      · refine jf_lv [0, 1, 2, 3] rfl ?_
        exact jgX10_fraction_48 hX N  x0 x2 x4 x5 u
      · refine jf_lload hX dX10_fraction_27 3 rfl ?_
        refine jf_lload hX dX10_fraction_29 4 rfl ?_
        refine jf_lrem hX dX10_fraction_31 ?_
        refine jf_nmL (fun v1 => ?_)
        refine jf_lstore (lv' := [(10, .long v1), (0, .long x0), (2, .long x2), (4, .int x4), (5, .long x5), (7, .long x7), (9, .int x9)]) hX dX10_fraction_32 (by decide) rfl ?_
        refine jf_lload hX dX10_fraction_34 5 rfl ?_
        refine jf_lstore (lv' := [(5, .long x7), (10, .long v1), (0, .long x0), (2, .long x2), (4, .int x4), (7, .long x7), (9, .int x9)]) hX dX10_fraction_36 (by decide) rfl ?_
        refine jf_lload hX dX10_fraction_38 1 rfl ?_
        refine jf_lstore (lv' := [(7, .long v1), (5, .long x7), (10, .long v1), (0, .long x0), (2, .long x2), (4, .int x4), (9, .int x9)]) hX dX10_fraction_40 (by decide) rfl ?_
        refine jf_iinc (v := 1) (lv' := [(9, .int (x9 + (1 : Int32))), (7, .long v1), (5, .long x7), (10, .long v1), (0, .long x0), (2, .long x2), (4, .int x4)]) hX dX10_fraction_42 6 rfl (by decide) (by decide) rfl ?_
        refine jf_goto (tgt := 12) hX dX10_fraction_45 (by decide) ?_
        refine jf_lv [4, 5, 6, 2, 1, 0] rfl ?_
        exact hrec12 x0 x2 x4 x7 v1 (x9 + (1 : Int32)) u
set_option maxRecDepth 20000 in
def fX10_fraction (N : Nat)  (p1 : Int64) (p2 : Int64) (p3 : Int32) (u : SG) : Option (Int32 × SG) := cl (fJ9_abs_067f4 N p1 u) fun r1 u2 => (gX10_fraction_12 N  N p1 p2 p3 p2 r1 (0 : Int32) u2)
set_option maxRecDepth 20000 in
set_option maxHeartbeats 4000000 in
theorem kX10_fraction  (N : Nat)  (l : Launch) (D : va_G) (cT : Nat → ClassId) (z0 : Nat) (ks : Nat × Nat) (p1 : Int64) (p2 : Int64) (p3 : Int32) (u : SG) : Ct l D cT z0 ks yX10_fraction cX10_fraction 12 (some .int) 2 0 0 vI [.long p1, .long p2, .int p3] u (fX10_fraction N  p1 p2 p3 u) := by
  unfold fX10_fraction
  refine ct_of (by decide +kernel) (Nat.le_of_ble_eq_true rfl) (fun p e R s m args below meth c hX => ?_)
  show JF _ True 12 0 0 _ 0 [(0, .long p1), (2, .long p2), (4, .int p3)] [] u _
  refine jf_lload_n hX dX10_fraction_0 1 rfl ?_
  refine jf_lstore (lv' := [(5, .long p2), (0, .long p1), (2, .long p2), (4, .int p3)]) hX dX10_fraction_1 (by decide) rfl ?_
  refine jf_lload_n hX dX10_fraction_3 1 rfl ?_
  refine jf_callS (As := [.long p1]) (st := []) hX mo_J9_abs_067f4 wml_783 wstat_784 rfl (fun l D cT z0 ks => kJ9_abs_067f4 N l D cT z0 ks p1 u) (by decide) (by decide) (by decide) (by decide) (Nat.le_of_ble_eq_true rfl) rfl rfl dX10_fraction_4 (fun r1 u2 => ?_)
  refine jf_lstore (lv' := [(7, .long r1), (5, .long p2), (0, .long p1), (2, .long p2), (4, .int p3)]) hX dX10_fraction_7 (by decide) rfl ?_
  refine jf_iconst (v := 0) hX dX10_fraction_9 (by decide) ?_
  refine jf_istore (lv' := [(9, .int (0 : Int32)), (7, .long r1), (5, .long p2), (0, .long p1), (2, .long p2), (4, .int p3)]) hX dX10_fraction_10 (by decide) rfl ?_
  refine jf_lv [3, 4, 5, 2, 1, 0] rfl ?_
  exact jgX10_fraction_12 hX N  N p1 p2 p3 p2 r1 (0 : Int32) u2
set_option maxRecDepth 20000 in
def fX10_owed (N : Nat)  (a0 : Nat) (p1 : Int32) (p2 : Int32) (u : SG) : Option (Int32 × SG) := if zK u a0 = 11 then cl (fX10_isDebtor N a0 p1 u) fun r1 u2 => (if r1 = 0 then (some ((-1 : Int32), u2))
  else (cl (fX10_isPart N p2 u2) fun r3 u4 => (if r3 = 0 then (some ((-1 : Int32), u4))
  else (if zK u4 a0 = 11 then (Option.bind (zR u4 a0 6) fun q5 => (if zK u4 q5 = 7 then (Option.bind (zR u4 q5 1) fun q6 => (if zK u4 q6 = 3 then (Option.bind (zR u4 q6 7) fun q7 => (cl (fX10_debtorRow N p1 u4) fun r8 u9 => (if zK u9 q7 = 23 then if r8 < 0 ∨ zN u9 q7 ≤ r8.toNatClampNeg then none else (cl (fX10_fraction N (zL u9 q7 r8.toNatClampNeg) (60 : Int64) p2 u9) fun r10 u11 => (some (r10, u11))) else none))) else none)) else none)) else none)))) else none
set_option maxRecDepth 20000 in
set_option maxHeartbeats 4000000 in
theorem kX10_owed  (N : Nat)  (l : Launch) (D : va_G) (cT : Nat → ClassId) (z0 : Nat) (ks : Nat × Nat) (a0 : Nat) (p1 : Int32) (p2 : Int32) (u : SG) : Ct l D cT z0 ks yX10_owed cX10_owed 3 (some .int) 3 0 0 vI [.ref a0, .int p1, .int p2] u (fX10_owed N  a0 p1 p2 u) := by
  unfold fX10_owed
  refine ct_of (by decide +kernel) (Nat.le_of_ble_eq_true rfl) (fun p e R s m args below meth c hX => ?_)
  show JF _ True 3 0 0 _ 0 [(0, .ref a0), (1, .int p1), (2, .int p2)] [] u _
  refine jf_aload_n hX dX10_owed_0 0 rfl ?_
  refine jf_iload_n hX dX10_owed_1 1 rfl ?_
  refine jf_callV (As := [.int p1]) (st := []) hX mo_X10_isDebtor wml_785 winst_786 wsel_787 10 ck_X10 rfl (fun l D cT z0 ks => kX10_isDebtor N l D cT z0 ks a0 p1 u) (by decide) (by decide) (by decide) (by decide) (Nat.le_of_ble_eq_true rfl) rfl rfl dX10_owed_2 (fun r1 u2 => ?_)
  refine jf_if_eq (tgt := 15) hX dX10_owed_5 (by decide) ?_ ?_
  · refine jf_iconst (v := -1) hX dX10_owed_15 (by decide) ?_
    exact jf_iret hX rfl (by decide) (by decide) dX10_owed_16
  · refine jf_iload_n hX dX10_owed_8 2 rfl ?_
    refine jf_callS (As := [.int p2]) (st := []) hX mo_X10_isPart wml_788 wstat_789 rfl (fun l D cT z0 ks => kX10_isPart N l D cT z0 ks p2 u2) (by decide) (by decide) (by decide) (by decide) (Nat.le_of_ble_eq_true rfl) rfl rfl dX10_owed_9 (fun r3 u4 => ?_)
    refine jf_if_ne (tgt := 17) hX dX10_owed_12 (by decide) ?_ ?_
    · refine jf_aload_n hX dX10_owed_17 0 rfl ?_
      refine jf_getR hX ck_X10 6 wfl_687 (by decide) rfl dX10_owed_18 ?_
      refine jf_nn (fun q5 => ?_)
      refine jf_getR hX ck_X6 1 wfl_719 (by decide) rfl dX10_owed_21 ?_
      refine jf_nn (fun q6 => ?_)
      refine jf_getR hX ck_X2 7 wfl_790 (by decide) rfl dX10_owed_24 ?_
      refine jf_nn (fun q7 => ?_)
      refine jf_iload_n hX dX10_owed_27 1 rfl ?_
      refine jf_callS (As := [.int p1]) (st := [.ref q7]) hX mo_X10_debtorRow wml_791 wstat_792 rfl (fun l D cT z0 ks => kX10_debtorRow N l D cT z0 ks p1 u4) (by decide) (by decide) (by decide) (by decide) (Nat.le_of_ble_eq_true rfl) rfl rfl dX10_owed_28 (fun r8 u9 => ?_)
      refine jf_lald hX dX10_owed_31 ?_
      refine jf_ldc2 (v := 60) hX dX10_owed_32 wconl_793 ?_
      refine jf_iload_n hX dX10_owed_35 2 rfl ?_
      refine jf_callS (As := [.long (zL u9 q7 r8.toNatClampNeg), .long (60 : Int64), .int p2]) (st := []) hX mo_X10_fraction wml_794 wstat_795 rfl (fun l D cT z0 ks => kX10_fraction N l D cT z0 ks (zL u9 q7 r8.toNatClampNeg) (60 : Int64) p2 u9) (by decide) (by decide) (by decide) (by decide) (Nat.le_of_ble_eq_true rfl) rfl rfl dX10_owed_36 (fun r10 u11 => ?_)
      exact jf_iret hX rfl (by decide) (by decide) dX10_owed_39
    · refine jf_iconst (v := -1) hX dX10_owed_15 (by decide) ?_
      exact jf_iret hX rfl (by decide) (by decide) dX10_owed_16
set_option maxRecDepth 20000 in
def gX10_playTrial_2 (N : Nat)   : Nat → Nat → Int32 → Int32 → SG → Option (Unit × SG)
  | 0, _, _, _, _ => none
  | n + 1, x0, x1, x2, u => if x1 ≤ x2 then (some ((), u))
  else (if zK u x0 = 11 then (Option.bind (zR u x0 9) fun q1 => (if zK u x0 = 11 then (Option.bind (zR u x0 6) fun q2 => (if zK u q2 = 7 then (Option.bind (zR u q2 0) fun q3 => (if zK u x0 = 11 then (Option.bind (zR u x0 10) fun q4 => (if zK u x0 = 11 then cl (fX10_ruleNow N x0 u) fun r5 u6 => (if zK u6 q1 = 4 then cl (fX3_play N q1 q3 q4 r5 u6) fun r7 u8 => ((gX10_playTrial_2 N  n) x0 x1 (x2 + (1 : Int32)) u8) else none) else none)) else none)) else none)) else none)) else none)
set_option maxRecDepth 20000 in
set_option maxHeartbeats 4000000 in
theorem jgX10_playTrial_2   {X : XT} (hX : Cx X yX10_playTrial cX10_playTrial 3 none 6 0 0) (N : Nat)  : ∀ (n : Nat) (x0 : Nat) (x1 : Int32) (x2 : Int32) (u : SG), JF X True 3 0 0 (jQ X vU 0 0) 2 [(0, .ref x0), (1, .int x1), (2, .int x2)] [] u (gX10_playTrial_2 N   n x0 x1 x2 u) := by
  intro n
  induction n with
  | zero => intros; intro r u9 h9; exact absurd h9 (by simp [gX10_playTrial_2])
  | succ n ih =>
    intro x0 x1 x2 u
    have hrec2 := ih
    rw [gX10_playTrial_2]
    refine jf_iload_n hX dX10_playTrial_2 2 rfl ?_
    refine jf_iload_n hX dX10_playTrial_3 1 rfl ?_
    refine jf_icmp_ge (tgt := 36) hX dX10_playTrial_4 (by decide) ?_ ?_
    · exact jf_vret hX rfl (by decide) (by decide) dX10_playTrial_36
    · refine jf_aload_n hX dX10_playTrial_7 0 rfl ?_
      refine jf_getR hX ck_X10 9 wfl_701 (by decide) rfl dX10_playTrial_8 ?_
      refine jf_nn (fun q1 => ?_)
      refine jf_aload_n hX dX10_playTrial_11 0 rfl ?_
      refine jf_getR hX ck_X10 6 wfl_687 (by decide) rfl dX10_playTrial_12 ?_
      refine jf_nn (fun q2 => ?_)
      refine jf_getR hX ck_X6 0 wfl_717 (by decide) rfl dX10_playTrial_15 ?_
      refine jf_nn (fun q3 => ?_)
      refine jf_aload_n hX dX10_playTrial_18 0 rfl ?_
      refine jf_getR hX ck_X10 10 wfl_704 (by decide) rfl dX10_playTrial_19 ?_
      refine jf_nn (fun q4 => ?_)
      refine jf_aload_n hX dX10_playTrial_22 0 rfl ?_
      refine jf_callV (As := []) (st := [.ref q4, .ref q3, .ref q1]) hX mo_X10_ruleNow wml_770 winst_771 wsel_772 10 ck_X10 rfl (fun l D cT z0 ks => kX10_ruleNow N l D cT z0 ks x0 u) (by decide) (by decide) (by decide) (by decide) (Nat.le_of_ble_eq_true rfl) rfl rfl dX10_playTrial_23 (fun r5 u6 => ?_)
      refine jf_callV (As := [.ref q3, .ref q4, va_rf r5]) (st := []) hX mo_X3_play wml_773 winst_774 wsel_775 3 ck_X3 rfl (fun l D cT z0 ks => kX3_play N l D cT z0 ks q1 q3 q4 r5 u6) (by decide) (by decide) (by decide) (by decide) (Nat.le_of_ble_eq_true rfl) rfl rfl dX10_playTrial_26 (fun r7 u8 => ?_)
      refine jf_pop hX dX10_playTrial_29 rfl ?_
      refine jf_iinc (v := 1) (lv' := [(2, .int (x2 + (1 : Int32))), (0, .ref x0), (1, .int x1)]) hX dX10_playTrial_30 2 rfl (by decide) (by decide) rfl ?_
      refine jf_goto (tgt := 2) hX dX10_playTrial_33 (by decide) ?_
      refine jf_lv [1, 2, 0] rfl ?_
      exact hrec2 x0 x1 (x2 + (1 : Int32)) u8
set_option maxRecDepth 20000 in
def fX10_playTrial (N : Nat)  (a0 : Nat) (p1 : Int32) (u : SG) : Option (Unit × SG) := gX10_playTrial_2 N  N a0 p1 (0 : Int32) u
set_option maxRecDepth 20000 in
set_option maxHeartbeats 4000000 in
theorem kX10_playTrial  (N : Nat)  (l : Launch) (D : va_G) (cT : Nat → ClassId) (z0 : Nat) (ks : Nat × Nat) (a0 : Nat) (p1 : Int32) (u : SG) : Ct l D cT z0 ks yX10_playTrial cX10_playTrial 3 none 6 0 0 vU [.ref a0, .int p1] u (fX10_playTrial N  a0 p1 u) := by
  unfold fX10_playTrial
  refine ct_of (by decide +kernel) (Nat.le_of_ble_eq_true rfl) (fun p e R s m args below meth c hX => ?_)
  show JF _ True 3 0 0 _ 0 [(0, .ref a0), (1, .int p1)] [] u _
  refine jf_iconst (v := 0) hX dX10_playTrial_0 (by decide) ?_
  refine jf_istore_n (lv' := [(2, .int (0 : Int32)), (0, .ref a0), (1, .int p1)]) hX dX10_playTrial_1 rfl (by decide) rfl ?_
  refine jf_lv [1, 2, 0] rfl ?_
  exact jgX10_playTrial_2 hX N  N a0 p1 (0 : Int32) u
set_option maxRecDepth 20000 in
def fX10_ahead (N : Nat)  (a0 : Nat) (p1 : Int32) (p2 : Int32) (p3 : Int32) (u : SG) : Option (Int32 × SG) := if zK u a0 = 11 then (Option.bind (zR u a0 6) fun q1 => (if zK u q1 = 7 then (Option.bind (zR u q1 0) fun q2 => (if zK u q2 = 8 then cl (fX7_isPerson N q2 p1 u) fun r3 u4 => (if r3 = 0 then (some ((-1 : Int32), u4))
  else (if p2 < 0 then (some ((-1 : Int32), u4))
  else (if p2 ≤ (100 : Int32) then (if p3 < 0 then (some ((-1 : Int32), u4))
  else (if p3 ≤ (2 : Int32) then (if zK u4 a0 = 11 then (Option.bind (zR u4 a0 10) fun q5 => (if zK u4 a0 = 11 then (Option.bind (zR u4 a0 6) fun q6 => (if zK u4 q6 = 7 then (Option.bind (zR u4 q6 1) fun q7 => (if zK u4 q5 = 3 then cl (fX2_copyOf N q5 q7 u4) fun r8 u9 => (if zK u9 a0 = 11 then cl (fX10_playTrial N a0 p2 u9) fun r10 u11 => (if p3 = 0 then (if zK u11 a0 = 11 then (Option.bind (zR u11 a0 10) fun q16 => (if zK u11 q16 = 3 then (cl (fX10_bitOf N (zI u11 q16 2) p1 u11) fun r17 u18 => (some (r17, u18))) else none)) else none)
  else (if p3 = (1 : Int32) then (if zK u11 a0 = 11 then (Option.bind (zR u11 a0 10) fun q14 => (if zK u11 q14 = 3 then (Option.bind (zR u11 q14 5) fun q15 => (if zK u11 q15 = 22 then if p1 < 0 ∨ zN u11 q15 ≤ p1.toNatClampNeg then none else (some (zI u11 q15 p1.toNatClampNeg, u11)) else none)) else none)) else none)
  else (if zK u11 a0 = 11 then (Option.bind (zR u11 a0 10) fun q12 => (if zK u11 q12 = 3 then (Option.bind (zR u11 q12 6) fun q13 => (if zK u11 q13 = 22 then if p1 < 0 ∨ zN u11 q13 ≤ p1.toNatClampNeg then none else (some (zI u11 q13 p1.toNatClampNeg, u11)) else none)) else none)) else none))) else none) else none)) else none)) else none)) else none)
  else (some ((-1 : Int32), u4))))
  else (some ((-1 : Int32), u4))))) else none)) else none)) else none
set_option maxRecDepth 20000 in
set_option maxHeartbeats 4000000 in
theorem kX10_ahead  (N : Nat)  (l : Launch) (D : va_G) (cT : Nat → ClassId) (z0 : Nat) (ks : Nat × Nat) (a0 : Nat) (p1 : Int32) (p2 : Int32) (p3 : Int32) (u : SG) : Ct l D cT z0 ks yX10_ahead cX10_ahead 4 (some .int) 7 0 0 vI [.ref a0, .int p1, .int p2, .int p3] u (fX10_ahead N  a0 p1 p2 p3 u) := by
  unfold fX10_ahead
  refine ct_of (by decide +kernel) (Nat.le_of_ble_eq_true rfl) (fun p e R s m args below meth c hX => ?_)
  show JF _ True 4 0 0 _ 0 [(0, .ref a0), (1, .int p1), (2, .int p2), (3, .int p3)] [] u _
  refine jf_aload_n hX dX10_ahead_0 0 rfl ?_
  refine jf_getR hX ck_X10 6 wfl_687 (by decide) rfl dX10_ahead_1 ?_
  refine jf_nn (fun q1 => ?_)
  refine jf_getR hX ck_X6 0 wfl_717 (by decide) rfl dX10_ahead_4 ?_
  refine jf_nn (fun q2 => ?_)
  refine jf_iload_n hX dX10_ahead_7 1 rfl ?_
  refine jf_callV (As := [.int p1]) (st := []) hX mo_X7_isPerson wml_740 winst_741 wsel_742 7 ck_X7 rfl (fun l D cT z0 ks => kX7_isPerson N l D cT z0 ks q2 p1 u) (by decide) (by decide) (by decide) (by decide) (Nat.le_of_ble_eq_true rfl) rfl rfl dX10_ahead_8 (fun r3 u4 => ?_)
  refine jf_if_eq (tgt := 24) hX dX10_ahead_11 (by decide) ?_ ?_
  · refine jf_iconst (v := -1) hX dX10_ahead_24 (by decide) ?_
    exact jf_iret hX rfl (by decide) (by decide) dX10_ahead_25
  · refine jf_iload_n hX dX10_ahead_14 2 rfl ?_
    refine jf_if_lt (tgt := 24) hX dX10_ahead_15 (by decide) ?_ ?_
    · refine jf_iconst (v := -1) hX dX10_ahead_24 (by decide) ?_
      exact jf_iret hX rfl (by decide) (by decide) dX10_ahead_25
    · refine jf_iload_n hX dX10_ahead_18 2 rfl ?_
      refine jf_bipush (v := 100) hX dX10_ahead_19 (by decide) ?_
      refine jf_icmp_le (tgt := 26) hX dX10_ahead_21 (by decide) ?_ ?_
      · refine jf_iload_n hX dX10_ahead_26 3 rfl ?_
        refine jf_if_lt (tgt := 35) hX dX10_ahead_27 (by decide) ?_ ?_
        · refine jf_iconst (v := -1) hX dX10_ahead_35 (by decide) ?_
          exact jf_iret hX rfl (by decide) (by decide) dX10_ahead_36
        · refine jf_iload_n hX dX10_ahead_30 3 rfl ?_
          refine jf_iconst (v := 2) hX dX10_ahead_31 (by decide) ?_
          refine jf_icmp_le (tgt := 37) hX dX10_ahead_32 (by decide) ?_ ?_
          · refine jf_aload_n hX dX10_ahead_37 0 rfl ?_
            refine jf_getR hX ck_X10 10 wfl_704 (by decide) rfl dX10_ahead_38 ?_
            refine jf_nn (fun q5 => ?_)
            refine jf_aload_n hX dX10_ahead_41 0 rfl ?_
            refine jf_getR hX ck_X10 6 wfl_687 (by decide) rfl dX10_ahead_42 ?_
            refine jf_nn (fun q6 => ?_)
            refine jf_getR hX ck_X6 1 wfl_719 (by decide) rfl dX10_ahead_45 ?_
            refine jf_nn (fun q7 => ?_)
            refine jf_callV (As := [.ref q7]) (st := []) hX mo_X2_copyOf wml_796 winst_364 wsel_365 2 ck_X2 rfl (fun l D cT z0 ks => kX2_copyOf N l D cT z0 ks q5 q7 u4) (by decide) (by decide) (by decide) (by decide) (Nat.le_of_ble_eq_true rfl) rfl rfl dX10_ahead_48 (fun r8 u9 => ?_)
            refine jf_aload_n hX dX10_ahead_51 0 rfl ?_
            refine jf_iload_n hX dX10_ahead_52 2 rfl ?_
            refine jf_callV (As := [.int p2]) (st := []) hX mo_X10_playTrial wml_797 winst_798 wsel_799 10 ck_X10 rfl (fun l D cT z0 ks => kX10_playTrial N l D cT z0 ks a0 p2 u9) (by decide) (by decide) (by decide) (by decide) (Nat.le_of_ble_eq_true rfl) rfl rfl dX10_ahead_53 (fun r10 u11 => ?_)
            refine jf_iload_n hX dX10_ahead_56 3 rfl ?_
            refine jf_if_ne (tgt := 72) hX dX10_ahead_57 (by decide) ?_ ?_
            · refine jf_iload_n hX dX10_ahead_72 3 rfl ?_
              refine jf_iconst (v := 1) hX dX10_ahead_73 (by decide) ?_
              refine jf_icmp_ne (tgt := 89) hX dX10_ahead_74 (by decide) ?_ ?_
              · refine jf_aload_n hX dX10_ahead_89 0 rfl ?_
                refine jf_getR hX ck_X10 10 wfl_704 (by decide) rfl dX10_ahead_90 ?_
                refine jf_nn (fun q12 => ?_)
                refine jf_getR hX ck_X2 6 wfl_748 (by decide) rfl dX10_ahead_93 ?_
                refine jf_nn (fun q13 => ?_)
                refine jf_iload_n hX dX10_ahead_96 1 rfl ?_
                refine jf_iald hX dX10_ahead_97 ?_
                exact jf_iret hX rfl (by decide) (by decide) dX10_ahead_98
              · refine jf_aload_n hX dX10_ahead_77 0 rfl ?_
                refine jf_getR hX ck_X10 10 wfl_704 (by decide) rfl dX10_ahead_78 ?_
                refine jf_nn (fun q14 => ?_)
                refine jf_getR hX ck_X2 5 wfl_747 (by decide) rfl dX10_ahead_81 ?_
                refine jf_nn (fun q15 => ?_)
                refine jf_iload_n hX dX10_ahead_84 1 rfl ?_
                refine jf_iald hX dX10_ahead_85 ?_
                refine jf_goto (tgt := 98) hX dX10_ahead_86 (by decide) ?_
                exact jf_iret hX rfl (by decide) (by decide) dX10_ahead_98
            · refine jf_aload_n hX dX10_ahead_60 0 rfl ?_
              refine jf_getR hX ck_X10 10 wfl_704 (by decide) rfl dX10_ahead_61 ?_
              refine jf_nn (fun q16 => ?_)
              refine jf_getI hX ck_X2 2 wfl_745 (by decide) rfl dX10_ahead_64 ?_
              refine jf_iload_n hX dX10_ahead_67 1 rfl ?_
              refine jf_callS (As := [.int (zI u11 q16 2), .int p1]) (st := []) hX mo_X10_bitOf wml_746 wstat_383 rfl (fun l D cT z0 ks => kX10_bitOf N l D cT z0 ks (zI u11 q16 2) p1 u11) (by decide) (by decide) (by decide) (by decide) (Nat.le_of_ble_eq_true rfl) rfl rfl dX10_ahead_68 (fun r17 u18 => ?_)
              exact jf_iret hX rfl (by decide) (by decide) dX10_ahead_71
          · refine jf_iconst (v := -1) hX dX10_ahead_35 (by decide) ?_
            exact jf_iret hX rfl (by decide) (by decide) dX10_ahead_36
      · refine jf_iconst (v := -1) hX dX10_ahead_24 (by decide) ?_
        exact jf_iret hX rfl (by decide) (by decide) dX10_ahead_25
