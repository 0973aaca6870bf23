theorem dX11_isPersonHere_0 : decode cX11_isPersonHere 0 = .ok (.aload_n 0, 1) := by decide +kernel
theorem dX11_isPersonHere_1 : decode cX11_isPersonHere 1 = .ok (.getfield 26, 3) := by decide +kernel
theorem dX11_isPersonHere_4 : decode cX11_isPersonHere 4 = .ok (.iconst 1, 1) := by decide +kernel
theorem dX11_isPersonHere_5 : decode cX11_isPersonHere 5 = .ok (.iaload, 1) := by decide +kernel
theorem dX11_isPersonHere_6 : decode cX11_isPersonHere 6 = .ok (.iconst 5, 1) := by decide +kernel
theorem dX11_isPersonHere_7 : decode cX11_isPersonHere 7 = .ok (.if_icmp .ne 10, 3) := by decide +kernel
theorem dX11_isPersonHere_10 : decode cX11_isPersonHere 10 = .ok (.aload_n 0, 1) := by decide +kernel
theorem dX11_isPersonHere_11 : decode cX11_isPersonHere 11 = .ok (.iconst 4, 1) := by decide +kernel
theorem dX11_isPersonHere_12 : decode cX11_isPersonHere 12 = .ok (.iload_n 1, 1) := by decide +kernel
theorem dX11_isPersonHere_13 : decode cX11_isPersonHere 13 = .ok (.invokevirtual 105, 3) := by decide +kernel
theorem dX11_isPersonHere_16 : decode cX11_isPersonHere 16 = .ok (.ireturn, 1) := by decide +kernel
theorem dX11_isPersonHere_17 : decode cX11_isPersonHere 17 = .ok (.aload_n 0, 1) := by decide +kernel
theorem dX11_isPersonHere_18 : decode cX11_isPersonHere 18 = .ok (.invokevirtual 99, 3) := by decide +kernel
theorem dX11_isPersonHere_21 : decode cX11_isPersonHere 21 = .ok (.bipush 10, 2) := by decide +kernel
theorem dX11_isPersonHere_23 : decode cX11_isPersonHere 23 = .ok (.bipush 6, 2) := by decide +kernel
theorem dX11_isPersonHere_25 : decode cX11_isPersonHere 25 = .ok (.aload_n 0, 1) := by decide +kernel
theorem dX11_isPersonHere_26 : decode cX11_isPersonHere 26 = .ok (.getfield 26, 3) := by decide +kernel
theorem dX11_isPersonHere_29 : decode cX11_isPersonHere 29 = .ok (.iconst 1, 1) := by decide +kernel
theorem dX11_isPersonHere_30 : decode cX11_isPersonHere 30 = .ok (.iaload, 1) := by decide +kernel
theorem dX11_isPersonHere_31 : decode cX11_isPersonHere 31 = .ok (.imul, 1) := by decide +kernel
theorem dX11_isPersonHere_32 : decode cX11_isPersonHere 32 = .ok (.iadd, 1) := by decide +kernel
theorem dX11_isPersonHere_33 : decode cX11_isPersonHere 33 = .ok (.istore_n 2, 1) := by decide +kernel
theorem dX11_isPersonHere_34 : decode cX11_isPersonHere 34 = .ok (.aload_n 0, 1) := by decide +kernel
theorem dX11_isPersonHere_35 : decode cX11_isPersonHere 35 = .ok (.iload_n 2, 1) := by decide +kernel
theorem dX11_isPersonHere_36 : decode cX11_isPersonHere 36 = .ok (.iconst 0, 1) := by decide +kernel
theorem dX11_isPersonHere_37 : decode cX11_isPersonHere 37 = .ok (.aload_n 0, 1) := by decide +kernel
theorem dX11_isPersonHere_38 : decode cX11_isPersonHere 38 = .ok (.getfield 26, 3) := by decide +kernel
theorem dX11_isPersonHere_41 : decode cX11_isPersonHere 41 = .ok (.iconst 0, 1) := by decide +kernel
theorem dX11_isPersonHere_42 : decode cX11_isPersonHere 42 = .ok (.iaload, 1) := by decide +kernel
theorem dX11_isPersonHere_43 : decode cX11_isPersonHere 43 = .ok (.invokevirtual 214, 3) := by decide +kernel
theorem dX11_isPersonHere_46 : decode cX11_isPersonHere 46 = .ok (.ifCond .eq 16, 3) := by decide +kernel
theorem dX11_isPersonHere_49 : decode cX11_isPersonHere 49 = .ok (.aload_n 0, 1) := by decide +kernel
theorem dX11_isPersonHere_50 : decode cX11_isPersonHere 50 = .ok (.iload_n 2, 1) := by decide +kernel
theorem dX11_isPersonHere_51 : decode cX11_isPersonHere 51 = .ok (.iconst 1, 1) := by decide +kernel
theorem dX11_isPersonHere_52 : decode cX11_isPersonHere 52 = .ok (.iadd, 1) := by decide +kernel
theorem dX11_isPersonHere_53 : decode cX11_isPersonHere 53 = .ok (.iconst 0, 1) := by decide +kernel
theorem dX11_isPersonHere_54 : decode cX11_isPersonHere 54 = .ok (.bipush 60, 2) := by decide +kernel
theorem dX11_isPersonHere_56 : decode cX11_isPersonHere 56 = .ok (.invokevirtual 214, 3) := by decide +kernel
theorem dX11_isPersonHere_59 : decode cX11_isPersonHere 59 = .ok (.ifCond .ne 5, 3) := by decide +kernel
theorem dX11_isPersonHere_62 : decode cX11_isPersonHere 62 = .ok (.iconst 0, 1) := by decide +kernel
theorem dX11_isPersonHere_63 : decode cX11_isPersonHere 63 = .ok (.ireturn, 1) := by decide +kernel
theorem dX11_isPersonHere_64 : decode cX11_isPersonHere 64 = .ok (.iconst 2, 1) := by decide +kernel
theorem dX11_isPersonHere_65 : decode cX11_isPersonHere 65 = .ok (.istore_n 3, 1) := by decide +kernel
theorem dX11_isPersonHere_66 : decode cX11_isPersonHere 66 = .ok (.iload_n 3, 1) := by decide +kernel
theorem dX11_isPersonHere_67 : decode cX11_isPersonHere 67 = .ok (.bipush 6, 2) := by decide +kernel
theorem dX11_isPersonHere_69 : decode cX11_isPersonHere 69 = .ok (.if_icmp .ge 18, 3) := by decide +kernel
theorem dX11_isPersonHere_72 : decode cX11_isPersonHere 72 = .ok (.aload_n 0, 1) := by decide +kernel
theorem dX11_isPersonHere_73 : decode cX11_isPersonHere 73 = .ok (.getfield 26, 3) := by decide +kernel
theorem dX11_isPersonHere_76 : decode cX11_isPersonHere 76 = .ok (.iload_n 2, 1) := by decide +kernel
theorem dX11_isPersonHere_77 : decode cX11_isPersonHere 77 = .ok (.iload_n 3, 1) := by decide +kernel
theorem dX11_isPersonHere_78 : decode cX11_isPersonHere 78 = .ok (.iadd, 1) := by decide +kernel
theorem dX11_isPersonHere_79 : decode cX11_isPersonHere 79 = .ok (.iconst 0, 1) := by decide +kernel
theorem dX11_isPersonHere_80 : decode cX11_isPersonHere 80 = .ok (.iastore, 1) := by decide +kernel
theorem dX11_isPersonHere_81 : decode cX11_isPersonHere 81 = .ok (.iinc 3 1, 3) := by decide +kernel
theorem dX11_isPersonHere_84 : decode cX11_isPersonHere 84 = .ok (.goto (-18), 3) := by decide +kernel
theorem dX11_isPersonHere_87 : decode cX11_isPersonHere 87 = .ok (.aload_n 0, 1) := by decide +kernel
theorem dX11_isPersonHere_88 : decode cX11_isPersonHere 88 = .ok (.getfield 26, 3) := by decide +kernel
theorem dX11_isPersonHere_91 : decode cX11_isPersonHere 91 = .ok (.iconst 1, 1) := by decide +kernel
theorem dX11_isPersonHere_92 : decode cX11_isPersonHere 92 = .ok (.dup2, 1) := by decide +kernel
theorem dX11_isPersonHere_93 : decode cX11_isPersonHere 93 = .ok (.iaload, 1) := by decide +kernel
theorem dX11_isPersonHere_94 : decode cX11_isPersonHere 94 = .ok (.iconst 1, 1) := by decide +kernel
theorem dX11_isPersonHere_95 : decode cX11_isPersonHere 95 = .ok (.iadd, 1) := by decide +kernel
theorem dX11_isPersonHere_96 : decode cX11_isPersonHere 96 = .ok (.iastore, 1) := by decide +kernel
theorem dX11_isPersonHere_97 : decode cX11_isPersonHere 97 = .ok (.iconst 1, 1) := by decide +kernel
theorem dX11_isPersonHere_98 : decode cX11_isPersonHere 98 = .ok (.ireturn, 1) := by decide +kernel
theorem dX11_isSpanHere_0 : decode cX11_isSpanHere 0 = .ok (.aload_n 0, 1) := by decide +kernel
theorem dX11_isSpanHere_1 : decode cX11_isSpanHere 1 = .ok (.invokevirtual 99, 3) := by decide +kernel
theorem dX11_isSpanHere_4 : decode cX11_isSpanHere 4 = .ok (.aload_n 0, 1) := by decide +kernel
theorem dX11_isSpanHere_5 : decode cX11_isSpanHere 5 = .ok (.iload_n 1, 1) := by decide +kernel
theorem dX11_isSpanHere_6 : decode cX11_isSpanHere 6 = .ok (.iconst 0, 1) := by decide +kernel
theorem dX11_isSpanHere_7 : decode cX11_isSpanHere 7 = .ok (.iload_n 2, 1) := by decide +kernel
theorem dX11_isSpanHere_8 : decode cX11_isSpanHere 8 = .ok (.iconst 1, 1) := by decide +kernel
theorem dX11_isSpanHere_9 : decode cX11_isSpanHere 9 = .ok (.isub, 1) := by decide +kernel
theorem dX11_isSpanHere_10 : decode cX11_isSpanHere 10 = .ok (.invokevirtual 214, 3) := by decide +kernel
theorem dX11_isSpanHere_13 : decode cX11_isSpanHere 13 = .ok (.ifCond .eq 52, 3) := by decide +kernel
theorem dX11_isSpanHere_16 : decode cX11_isSpanHere 16 = .ok (.aload_n 0, 1) := by decide +kernel
theorem dX11_isSpanHere_17 : decode cX11_isSpanHere 17 = .ok (.iload_n 1, 1) := by decide +kernel
theorem dX11_isSpanHere_18 : decode cX11_isSpanHere 18 = .ok (.iconst 1, 1) := by decide +kernel
theorem dX11_isSpanHere_19 : decode cX11_isSpanHere 19 = .ok (.iadd, 1) := by decide +kernel
theorem dX11_isSpanHere_20 : decode cX11_isSpanHere 20 = .ok (.iconst 0, 1) := by decide +kernel
theorem dX11_isSpanHere_21 : decode cX11_isSpanHere 21 = .ok (.aload_n 0, 1) := by decide +kernel
theorem dX11_isSpanHere_22 : decode cX11_isSpanHere 22 = .ok (.getfield 26, 3) := by decide +kernel
theorem dX11_isSpanHere_25 : decode cX11_isSpanHere 25 = .ok (.iconst 0, 1) := by decide +kernel
theorem dX11_isSpanHere_26 : decode cX11_isSpanHere 26 = .ok (.iaload, 1) := by decide +kernel
theorem dX11_isSpanHere_27 : decode cX11_isSpanHere 27 = .ok (.iconst 1, 1) := by decide +kernel
theorem dX11_isSpanHere_28 : decode cX11_isSpanHere 28 = .ok (.isub, 1) := by decide +kernel
theorem dX11_isSpanHere_29 : decode cX11_isSpanHere 29 = .ok (.invokevirtual 214, 3) := by decide +kernel
theorem dX11_isSpanHere_32 : decode cX11_isSpanHere 32 = .ok (.ifCond .eq 33, 3) := by decide +kernel
theorem dX11_isSpanHere_35 : decode cX11_isSpanHere 35 = .ok (.aload_n 0, 1) := by decide +kernel
theorem dX11_isSpanHere_36 : decode cX11_isSpanHere 36 = .ok (.iload_n 1, 1) := by decide +kernel
theorem dX11_isSpanHere_37 : decode cX11_isSpanHere 37 = .ok (.iconst 2, 1) := by decide +kernel
theorem dX11_isSpanHere_38 : decode cX11_isSpanHere 38 = .ok (.iadd, 1) := by decide +kernel
theorem dX11_isSpanHere_39 : decode cX11_isSpanHere 39 = .ok (.aload_n 0, 1) := by decide +kernel
theorem dX11_isSpanHere_40 : decode cX11_isSpanHere 40 = .ok (.getfield 26, 3) := by decide +kernel
theorem dX11_isSpanHere_43 : decode cX11_isSpanHere 43 = .ok (.iload_n 1, 1) := by decide +kernel
theorem dX11_isSpanHere_44 : decode cX11_isSpanHere 44 = .ok (.iconst 1, 1) := by decide +kernel
theorem dX11_isSpanHere_45 : decode cX11_isSpanHere 45 = .ok (.iadd, 1) := by decide +kernel
theorem dX11_isSpanHere_46 : decode cX11_isSpanHere 46 = .ok (.iaload, 1) := by decide +kernel
theorem dX11_isSpanHere_47 : decode cX11_isSpanHere 47 = .ok (.aload_n 0, 1) := by decide +kernel
theorem dX11_isSpanHere_48 : decode cX11_isSpanHere 48 = .ok (.getfield 26, 3) := by decide +kernel
theorem dX11_isSpanHere_51 : decode cX11_isSpanHere 51 = .ok (.iconst 0, 1) := by decide +kernel
theorem dX11_isSpanHere_52 : decode cX11_isSpanHere 52 = .ok (.iaload, 1) := by decide +kernel
theorem dX11_isSpanHere_53 : decode cX11_isSpanHere 53 = .ok (.iconst 1, 1) := by decide +kernel
theorem dX11_isSpanHere_54 : decode cX11_isSpanHere 54 = .ok (.isub, 1) := by decide +kernel
theorem dX11_isSpanHere_55 : decode cX11_isSpanHere 55 = .ok (.invokevirtual 214, 3) := by decide +kernel
theorem dX11_isSpanHere_58 : decode cX11_isSpanHere 58 = .ok (.ifCond .eq 7, 3) := by decide +kernel
theorem dX11_isSpanHere_61 : decode cX11_isSpanHere 61 = .ok (.iconst 1, 1) := by decide +kernel
theorem dX11_isSpanHere_62 : decode cX11_isSpanHere 62 = .ok (.goto 4, 3) := by decide +kernel
theorem dX11_isSpanHere_65 : decode cX11_isSpanHere 65 = .ok (.iconst 0, 1) := by decide +kernel
theorem dX11_isSpanHere_66 : decode cX11_isSpanHere 66 = .ok (.ireturn, 1) := by decide +kernel
theorem dX11_isWorkHere_0 : decode cX11_isWorkHere 0 = .ok (.aload_n 0, 1) := by decide +kernel
theorem dX11_isWorkHere_1 : decode cX11_isWorkHere 1 = .ok (.getfield 26, 3) := by decide +kernel
theorem dX11_isWorkHere_4 : decode cX11_isWorkHere 4 = .ok (.iconst 2, 1) := by decide +kernel
theorem dX11_isWorkHere_5 : decode cX11_isWorkHere 5 = .ok (.iaload, 1) := by decide +kernel
theorem dX11_isWorkHere_6 : decode cX11_isWorkHere 6 = .ok (.bipush 8, 2) := by decide +kernel
theorem dX11_isWorkHere_8 : decode cX11_isWorkHere 8 = .ok (.if_icmp .ne 10, 3) := by decide +kernel
theorem dX11_isWorkHere_11 : decode cX11_isWorkHere 11 = .ok (.aload_n 0, 1) := by decide +kernel
theorem dX11_isWorkHere_12 : decode cX11_isWorkHere 12 = .ok (.iconst 4, 1) := by decide +kernel
theorem dX11_isWorkHere_13 : decode cX11_isWorkHere 13 = .ok (.iload_n 1, 1) := by decide +kernel
theorem dX11_isWorkHere_14 : decode cX11_isWorkHere 14 = .ok (.invokevirtual 105, 3) := by decide +kernel
theorem dX11_isWorkHere_17 : decode cX11_isWorkHere 17 = .ok (.ireturn, 1) := by decide +kernel
theorem dX11_isWorkHere_18 : decode cX11_isWorkHere 18 = .ok (.aload_n 0, 1) := by decide +kernel
theorem dX11_isWorkHere_19 : decode cX11_isWorkHere 19 = .ok (.bipush 45, 2) := by decide +kernel
theorem dX11_isWorkHere_21 : decode cX11_isWorkHere 21 = .ok (.iconst 3, 1) := by decide +kernel
theorem dX11_isWorkHere_22 : decode cX11_isWorkHere 22 = .ok (.aload_n 0, 1) := by decide +kernel
theorem dX11_isWorkHere_23 : decode cX11_isWorkHere 23 = .ok (.getfield 26, 3) := by decide +kernel
theorem dX11_isWorkHere_26 : decode cX11_isWorkHere 26 = .ok (.iconst 2, 1) := by decide +kernel
theorem dX11_isWorkHere_27 : decode cX11_isWorkHere 27 = .ok (.iaload, 1) := by decide +kernel
theorem dX11_isWorkHere_28 : decode cX11_isWorkHere 28 = .ok (.imul, 1) := by decide +kernel
theorem dX11_isWorkHere_29 : decode cX11_isWorkHere 29 = .ok (.iadd, 1) := by decide +kernel
theorem dX11_isWorkHere_30 : decode cX11_isWorkHere 30 = .ok (.aload_n 0, 1) := by decide +kernel
theorem dX11_isWorkHere_31 : decode cX11_isWorkHere 31 = .ok (.getfield 26, 3) := by decide +kernel
theorem dX11_isWorkHere_34 : decode cX11_isWorkHere 34 = .ok (.iconst 1, 1) := by decide +kernel
theorem dX11_isWorkHere_35 : decode cX11_isWorkHere 35 = .ok (.iaload, 1) := by decide +kernel
theorem dX11_isWorkHere_36 : decode cX11_isWorkHere 36 = .ok (.invokevirtual 218, 3) := by decide +kernel
theorem dX11_isWorkHere_39 : decode cX11_isWorkHere 39 = .ok (.ifCond .ne 5, 3) := by decide +kernel
theorem dX11_isWorkHere_42 : decode cX11_isWorkHere 42 = .ok (.iconst 0, 1) := by decide +kernel
theorem dX11_isWorkHere_43 : decode cX11_isWorkHere 43 = .ok (.ireturn, 1) := by decide +kernel
theorem dX11_isWorkHere_44 : decode cX11_isWorkHere 44 = .ok (.aload_n 0, 1) := by decide +kernel
theorem dX11_isWorkHere_45 : decode cX11_isWorkHere 45 = .ok (.getfield 26, 3) := by decide +kernel
theorem dX11_isWorkHere_48 : decode cX11_isWorkHere 48 = .ok (.iconst 2, 1) := by decide +kernel
theorem dX11_isWorkHere_49 : decode cX11_isWorkHere 49 = .ok (.dup2, 1) := by decide +kernel
theorem dX11_isWorkHere_50 : decode cX11_isWorkHere 50 = .ok (.iaload, 1) := by decide +kernel
theorem dX11_isWorkHere_51 : decode cX11_isWorkHere 51 = .ok (.iconst 1, 1) := by decide +kernel
theorem dX11_isWorkHere_52 : decode cX11_isWorkHere 52 = .ok (.iadd, 1) := by decide +kernel
theorem dX11_isWorkHere_53 : decode cX11_isWorkHere 53 = .ok (.iastore, 1) := by decide +kernel
theorem dX11_isWorkHere_54 : decode cX11_isWorkHere 54 = .ok (.iconst 1, 1) := by decide +kernel
theorem dX11_isWorkHere_55 : decode cX11_isWorkHere 55 = .ok (.ireturn, 1) := by decide +kernel
theorem dX11_isLampHere_0 : decode cX11_isLampHere 0 = .ok (.aload_n 0, 1) := by decide +kernel
theorem dX11_isLampHere_1 : decode cX11_isLampHere 1 = .ok (.getfield 26, 3) := by decide +kernel
theorem dX11_isLampHere_4 : decode cX11_isLampHere 4 = .ok (.iconst 3, 1) := by decide +kernel
theorem dX11_isLampHere_5 : decode cX11_isLampHere 5 = .ok (.iaload, 1) := by decide +kernel
theorem dX11_isLampHere_6 : decode cX11_isLampHere 6 = .ok (.iconst 5, 1) := by decide +kernel
theorem dX11_isLampHere_7 : decode cX11_isLampHere 7 = .ok (.if_icmp .ne 10, 3) := by decide +kernel
theorem dX11_isLampHere_10 : decode cX11_isLampHere 10 = .ok (.aload_n 0, 1) := by decide +kernel
theorem dX11_isLampHere_11 : decode cX11_isLampHere 11 = .ok (.iconst 4, 1) := by decide +kernel
theorem dX11_isLampHere_12 : decode cX11_isLampHere 12 = .ok (.iload_n 1, 1) := by decide +kernel
theorem dX11_isLampHere_13 : decode cX11_isLampHere 13 = .ok (.invokevirtual 105, 3) := by decide +kernel
theorem dX11_isLampHere_16 : decode cX11_isLampHere 16 = .ok (.ireturn, 1) := by decide +kernel
theorem dX11_isLampHere_17 : decode cX11_isLampHere 17 = .ok (.aload_n 0, 1) := by decide +kernel
theorem dX11_isLampHere_18 : decode cX11_isLampHere 18 = .ok (.invokevirtual 99, 3) := by decide +kernel
theorem dX11_isLampHere_21 : decode cX11_isLampHere 21 = .ok (.aload_n 0, 1) := by decide +kernel
theorem dX11_isLampHere_22 : decode cX11_isLampHere 22 = .ok (.invokevirtual 87, 3) := by decide +kernel
theorem dX11_isLampHere_25 : decode cX11_isLampHere 25 = .ok (.pop, 1) := by decide +kernel
theorem dX11_isLampHere_26 : decode cX11_isLampHere 26 = .ok (.aload_n 0, 1) := by decide +kernel
theorem dX11_isLampHere_27 : decode cX11_isLampHere 27 = .ok (.getfield 84, 3) := by decide +kernel
theorem dX11_isLampHere_30 : decode cX11_isLampHere 30 = .ok (.istore_n 2, 1) := by decide +kernel
theorem dX11_isLampHere_31 : decode cX11_isLampHere 31 = .ok (.bipush 69, 2) := by decide +kernel
theorem dX11_isLampHere_33 : decode cX11_isLampHere 33 = .ok (.iconst 2, 1) := by decide +kernel
theorem dX11_isLampHere_34 : decode cX11_isLampHere 34 = .ok (.aload_n 0, 1) := by decide +kernel
theorem dX11_isLampHere_35 : decode cX11_isLampHere 35 = .ok (.getfield 26, 3) := by decide +kernel
theorem dX11_isLampHere_38 : decode cX11_isLampHere 38 = .ok (.iconst 3, 1) := by decide +kernel
theorem dX11_isLampHere_39 : decode cX11_isLampHere 39 = .ok (.iaload, 1) := by decide +kernel
theorem dX11_isLampHere_40 : decode cX11_isLampHere 40 = .ok (.imul, 1) := by decide +kernel
theorem dX11_isLampHere_41 : decode cX11_isLampHere 41 = .ok (.iadd, 1) := by decide +kernel
theorem dX11_isLampHere_42 : decode cX11_isLampHere 42 = .ok (.istore_n 3, 1) := by decide +kernel
theorem dX11_isLampHere_43 : decode cX11_isLampHere 43 = .ok (.aload_n 0, 1) := by decide +kernel
theorem dX11_isLampHere_44 : decode cX11_isLampHere 44 = .ok (.iload_n 3, 1) := by decide +kernel
theorem dX11_isLampHere_45 : decode cX11_isLampHere 45 = .ok (.iconst 0, 1) := by decide +kernel
theorem dX11_isLampHere_46 : decode cX11_isLampHere 46 = .ok (.bipush 9, 2) := by decide +kernel
theorem dX11_isLampHere_48 : decode cX11_isLampHere 48 = .ok (.invokevirtual 214, 3) := by decide +kernel
theorem dX11_isLampHere_51 : decode cX11_isLampHere 51 = .ok (.ifCond .ne 5, 3) := by decide +kernel
theorem dX11_isLampHere_54 : decode cX11_isLampHere 54 = .ok (.iconst 0, 1) := by decide +kernel
theorem dX11_isLampHere_55 : decode cX11_isLampHere 55 = .ok (.ireturn, 1) := by decide +kernel
theorem dX11_isLampHere_56 : decode cX11_isLampHere 56 = .ok (.aload_n 0, 1) := by decide +kernel
theorem dX11_isLampHere_57 : decode cX11_isLampHere 57 = .ok (.getfield 26, 3) := by decide +kernel
theorem dX11_isLampHere_60 : decode cX11_isLampHere 60 = .ok (.iload_n 3, 1) := by decide +kernel
theorem dX11_isLampHere_61 : decode cX11_isLampHere 61 = .ok (.iaload, 1) := by decide +kernel
theorem dX11_isLampHere_62 : decode cX11_isLampHere 62 = .ok (.bipush 9, 2) := by decide +kernel
theorem dX11_isLampHere_64 : decode cX11_isLampHere 64 = .ok (.if_icmp .eq 25, 3) := by decide +kernel
theorem dX11_isLampHere_67 : decode cX11_isLampHere 67 = .ok (.aload_n 0, 1) := by decide +kernel
theorem dX11_isLampHere_68 : decode cX11_isLampHere 68 = .ok (.getfield 26, 3) := by decide +kernel
theorem dX11_isLampHere_71 : decode cX11_isLampHere 71 = .ok (.iload_n 3, 1) := by decide +kernel
theorem dX11_isLampHere_72 : decode cX11_isLampHere 72 = .ok (.iaload, 1) := by decide +kernel
theorem dX11_isLampHere_73 : decode cX11_isLampHere 73 = .ok (.aload_n 0, 1) := by decide +kernel
theorem dX11_isLampHere_74 : decode cX11_isLampHere 74 = .ok (.getfield 26, 3) := by decide +kernel
theorem dX11_isLampHere_77 : decode cX11_isLampHere 77 = .ok (.iconst 1, 1) := by decide +kernel
theorem dX11_isLampHere_78 : decode cX11_isLampHere 78 = .ok (.iaload, 1) := by decide +kernel
theorem dX11_isLampHere_79 : decode cX11_isLampHere 79 = .ok (.if_icmp .lt 10, 3) := by decide +kernel
theorem dX11_isLampHere_82 : decode cX11_isLampHere 82 = .ok (.aload_n 0, 1) := by decide +kernel
theorem dX11_isLampHere_83 : decode cX11_isLampHere 83 = .ok (.iconst 1, 1) := by decide +kernel
theorem dX11_isLampHere_84 : decode cX11_isLampHere 84 = .ok (.iload_n 2, 1) := by decide +kernel
theorem dX11_isLampHere_85 : decode cX11_isLampHere 85 = .ok (.invokevirtual 105, 3) := by decide +kernel
theorem dX11_isLampHere_88 : decode cX11_isLampHere 88 = .ok (.ireturn, 1) := by decide +kernel
theorem dX11_isLampHere_89 : decode cX11_isLampHere 89 = .ok (.aload_n 0, 1) := by decide +kernel
theorem dX11_isLampHere_90 : decode cX11_isLampHere 90 = .ok (.iload_n 3, 1) := by decide +kernel
theorem dX11_isLampHere_91 : decode cX11_isLampHere 91 = .ok (.iconst 1, 1) := by decide +kernel
theorem dX11_isLampHere_92 : decode cX11_isLampHere 92 = .ok (.iadd, 1) := by decide +kernel
theorem dX11_isLampHere_93 : decode cX11_isLampHere 93 = .ok (.iconst 1, 1) := by decide +kernel
theorem dX11_isLampHere_94 : decode cX11_isLampHere 94 = .ok (.bipush 60, 2) := by decide +kernel
theorem dX11_isLampHere_96 : decode cX11_isLampHere 96 = .ok (.invokevirtual 214, 3) := by decide +kernel
theorem dX11_isLampHere_99 : decode cX11_isLampHere 99 = .ok (.ifCond .ne 5, 3) := by decide +kernel
theorem dX11_isLampHere_102 : decode cX11_isLampHere 102 = .ok (.iconst 0, 1) := by decide +kernel
theorem dX11_isLampHere_103 : decode cX11_isLampHere 103 = .ok (.ireturn, 1) := by decide +kernel
theorem dX11_isLampHere_104 : decode cX11_isLampHere 104 = .ok (.aload_n 0, 1) := by decide +kernel
theorem dX11_isLampHere_105 : decode cX11_isLampHere 105 = .ok (.getfield 26, 3) := by decide +kernel
theorem dX11_isLampHere_108 : decode cX11_isLampHere 108 = .ok (.iconst 3, 1) := by decide +kernel
theorem dX11_isLampHere_109 : decode cX11_isLampHere 109 = .ok (.dup2, 1) := by decide +kernel
theorem dX11_isLampHere_110 : decode cX11_isLampHere 110 = .ok (.iaload, 1) := by decide +kernel
theorem dX11_isLampHere_111 : decode cX11_isLampHere 111 = .ok (.iconst 1, 1) := by decide +kernel
theorem dX11_isLampHere_112 : decode cX11_isLampHere 112 = .ok (.iadd, 1) := by decide +kernel
theorem dX11_isLampHere_113 : decode cX11_isLampHere 113 = .ok (.iastore, 1) := by decide +kernel
theorem dX11_isLampHere_114 : decode cX11_isLampHere 114 = .ok (.iconst 1, 1) := by decide +kernel
theorem dX11_isLampHere_115 : decode cX11_isLampHere 115 = .ok (.ireturn, 1) := by decide +kernel
theorem dX11_isLitHere_0 : decode cX11_isLitHere 0 = .ok (.aload_n 0, 1) := by decide +kernel
theorem dX11_isLitHere_1 : decode cX11_isLitHere 1 = .ok (.getfield 26, 3) := by decide +kernel
theorem dX11_isLitHere_4 : decode cX11_isLitHere 4 = .ok (.iconst 4, 1) := by decide +kernel
theorem dX11_isLitHere_5 : decode cX11_isLitHere 5 = .ok (.iaload, 1) := by decide +kernel
theorem dX11_isLitHere_6 : decode cX11_isLitHere 6 = .ok (.bipush 8, 2) := by decide +kernel
theorem dX11_isLitHere_8 : decode cX11_isLitHere 8 = .ok (.if_icmp .ne 10, 3) := by decide +kernel
theorem dX11_isLitHere_11 : decode cX11_isLitHere 11 = .ok (.aload_n 0, 1) := by decide +kernel
theorem dX11_isLitHere_12 : decode cX11_isLitHere 12 = .ok (.iconst 4, 1) := by decide +kernel
theorem dX11_isLitHere_13 : decode cX11_isLitHere 13 = .ok (.iload_n 1, 1) := by decide +kernel
theorem dX11_isLitHere_14 : decode cX11_isLitHere 14 = .ok (.invokevirtual 105, 3) := by decide +kernel
theorem dX11_isLitHere_17 : decode cX11_isLitHere 17 = .ok (.ireturn, 1) := by decide +kernel
theorem dX11_isLitHere_18 : decode cX11_isLitHere 18 = .ok (.aload_n 0, 1) := by decide +kernel
theorem dX11_isLitHere_19 : decode cX11_isLitHere 19 = .ok (.bipush 79, 2) := by decide +kernel
theorem dX11_isLitHere_21 : decode cX11_isLitHere 21 = .ok (.iconst 3, 1) := by decide +kernel
theorem dX11_isLitHere_22 : decode cX11_isLitHere 22 = .ok (.aload_n 0, 1) := by decide +kernel
theorem dX11_isLitHere_23 : decode cX11_isLitHere 23 = .ok (.getfield 26, 3) := by decide +kernel
theorem dX11_isLitHere_26 : decode cX11_isLitHere 26 = .ok (.iconst 4, 1) := by decide +kernel
theorem dX11_isLitHere_27 : decode cX11_isLitHere 27 = .ok (.iaload, 1) := by decide +kernel
theorem dX11_isLitHere_28 : decode cX11_isLitHere 28 = .ok (.imul, 1) := by decide +kernel
theorem dX11_isLitHere_29 : decode cX11_isLitHere 29 = .ok (.iadd, 1) := by decide +kernel
theorem dX11_isLitHere_30 : decode cX11_isLitHere 30 = .ok (.aload_n 0, 1) := by decide +kernel
theorem dX11_isLitHere_31 : decode cX11_isLitHere 31 = .ok (.getfield 26, 3) := by decide +kernel
theorem dX11_isLitHere_34 : decode cX11_isLitHere 34 = .ok (.iconst 3, 1) := by decide +kernel
theorem dX11_isLitHere_35 : decode cX11_isLitHere 35 = .ok (.iaload, 1) := by decide +kernel
theorem dX11_isLitHere_36 : decode cX11_isLitHere 36 = .ok (.invokevirtual 218, 3) := by decide +kernel
theorem dX11_isLitHere_39 : decode cX11_isLitHere 39 = .ok (.ifCond .ne 5, 3) := by decide +kernel
theorem dX11_isLitHere_42 : decode cX11_isLitHere 42 = .ok (.iconst 0, 1) := by decide +kernel
theorem dX11_isLitHere_43 : decode cX11_isLitHere 43 = .ok (.ireturn, 1) := by decide +kernel
theorem dX11_isLitHere_44 : decode cX11_isLitHere 44 = .ok (.aload_n 0, 1) := by decide +kernel
theorem dX11_isLitHere_45 : decode cX11_isLitHere 45 = .ok (.getfield 26, 3) := by decide +kernel
theorem dX11_isLitHere_48 : decode cX11_isLitHere 48 = .ok (.iconst 4, 1) := by decide +kernel
theorem dX11_isLitHere_49 : decode cX11_isLitHere 49 = .ok (.dup2, 1) := by decide +kernel
theorem dX11_isLitHere_50 : decode cX11_isLitHere 50 = .ok (.iaload, 1) := by decide +kernel
theorem dX11_isLitHere_51 : decode cX11_isLitHere 51 = .ok (.iconst 1, 1) := by decide +kernel
theorem dX11_isLitHere_52 : decode cX11_isLitHere 52 = .ok (.iadd, 1) := by decide +kernel
theorem dX11_isLitHere_53 : decode cX11_isLitHere 53 = .ok (.iastore, 1) := by decide +kernel
theorem dX11_isLitHere_54 : decode cX11_isLitHere 54 = .ok (.iconst 1, 1) := by decide +kernel
theorem dX11_isLitHere_55 : decode cX11_isLitHere 55 = .ok (.ireturn, 1) := by decide +kernel
theorem dX11_streetLineHere_0 : decode cX11_streetLineHere 0 = .ok (.aload_n 0, 1) := by decide +kernel
theorem dX11_streetLineHere_1 : decode cX11_streetLineHere 1 = .ok (.ldc2_w 221, 3) := by decide +kernel
theorem dX11_streetLineHere_4 : decode cX11_streetLineHere 4 = .ok (.invokevirtual 95, 3) := by decide +kernel
theorem dX11_streetLineHere_7 : decode cX11_streetLineHere 7 = .ok (.ifCond .eq 9, 3) := by decide +kernel
theorem dX11_streetLineHere_10 : decode cX11_streetLineHere 10 = .ok (.aload_n 0, 1) := by decide +kernel
theorem dX11_streetLineHere_11 : decode cX11_streetLineHere 11 = .ok (.iload_n 1, 1) := by decide +kernel
theorem dX11_streetLineHere_12 : decode cX11_streetLineHere 12 = .ok (.invokevirtual 223, 3) := by decide +kernel
theorem dX11_streetLineHere_15 : decode cX11_streetLineHere 15 = .ok (.ireturn, 1) := by decide +kernel
theorem dX11_streetLineHere_16 : decode cX11_streetLineHere 16 = .ok (.aload_n 0, 1) := by decide +kernel
theorem dX11_streetLineHere_17 : decode cX11_streetLineHere 17 = .ok (.getfield 26, 3) := by decide +kernel
theorem dX11_streetLineHere_20 : decode cX11_streetLineHere 20 = .ok (.iconst 0, 1) := by decide +kernel
theorem dX11_streetLineHere_21 : decode cX11_streetLineHere 21 = .ok (.iaload, 1) := by decide +kernel
theorem dX11_streetLineHere_22 : decode cX11_streetLineHere 22 = .ok (.ifCond .ne 10, 3) := by decide +kernel
theorem dX11_streetLineHere_25 : decode cX11_streetLineHere 25 = .ok (.aload_n 0, 1) := by decide +kernel
theorem dX11_streetLineHere_26 : decode cX11_streetLineHere 26 = .ok (.iconst 4, 1) := by decide +kernel
theorem dX11_streetLineHere_27 : decode cX11_streetLineHere 27 = .ok (.iload_n 1, 1) := by decide +kernel
theorem dX11_streetLineHere_28 : decode cX11_streetLineHere 28 = .ok (.invokevirtual 105, 3) := by decide +kernel
theorem dX11_streetLineHere_31 : decode cX11_streetLineHere 31 = .ok (.ireturn, 1) := by decide +kernel
theorem dX11_streetLineHere_32 : decode cX11_streetLineHere 32 = .ok (.aload_n 0, 1) := by decide +kernel
theorem dX11_streetLineHere_33 : decode cX11_streetLineHere 33 = .ok (.ldc2_w 116, 3) := by decide +kernel
theorem dX11_streetLineHere_36 : decode cX11_streetLineHere 36 = .ok (.invokevirtual 95, 3) := by decide +kernel
theorem dX11_streetLineHere_39 : decode cX11_streetLineHere 39 = .ok (.ifCond .eq 9, 3) := by decide +kernel
theorem dX11_streetLineHere_42 : decode cX11_streetLineHere 42 = .ok (.aload_n 0, 1) := by decide +kernel
theorem dX11_streetLineHere_43 : decode cX11_streetLineHere 43 = .ok (.iload_n 1, 1) := by decide +kernel
theorem dX11_streetLineHere_44 : decode cX11_streetLineHere 44 = .ok (.invokevirtual 226, 3) := by decide +kernel
theorem dX11_streetLineHere_47 : decode cX11_streetLineHere 47 = .ok (.ireturn, 1) := by decide +kernel
theorem dX11_streetLineHere_48 : decode cX11_streetLineHere 48 = .ok (.aload_n 0, 1) := by decide +kernel
theorem dX11_streetLineHere_49 : decode cX11_streetLineHere 49 = .ok (.ldc2_w 229, 3) := by decide +kernel
theorem dX11_streetLineHere_52 : decode cX11_streetLineHere 52 = .ok (.invokevirtual 95, 3) := by decide +kernel
theorem dX11_streetLineHere_55 : decode cX11_streetLineHere 55 = .ok (.ifCond .eq 9, 3) := by decide +kernel
theorem dX11_streetLineHere_58 : decode cX11_streetLineHere 58 = .ok (.aload_n 0, 1) := by decide +kernel
theorem dX11_streetLineHere_59 : decode cX11_streetLineHere 59 = .ok (.iload_n 1, 1) := by decide +kernel
theorem dX11_streetLineHere_60 : decode cX11_streetLineHere 60 = .ok (.invokevirtual 231, 3) := by decide +kernel
theorem dX11_streetLineHere_63 : decode cX11_streetLineHere 63 = .ok (.ireturn, 1) := by decide +kernel
theorem dX11_streetLineHere_64 : decode cX11_streetLineHere 64 = .ok (.aload_n 0, 1) := by decide +kernel
theorem dX11_streetLineHere_65 : decode cX11_streetLineHere 65 = .ok (.ldc2_w 234, 3) := by decide +kernel
theorem dX11_streetLineHere_68 : decode cX11_streetLineHere 68 = .ok (.invokevirtual 95, 3) := by decide +kernel
theorem dX11_streetLineHere_71 : decode cX11_streetLineHere 71 = .ok (.ifCond .eq 11, 3) := by decide +kernel
theorem dX11_streetLineHere_74 : decode cX11_streetLineHere 74 = .ok (.aload_n 0, 1) := by decide +kernel
theorem dX11_streetLineHere_75 : decode cX11_streetLineHere 75 = .ok (.iload_n 1, 1) := by decide +kernel
theorem dX11_streetLineHere_76 : decode cX11_streetLineHere 76 = .ok (.invokevirtual 236, 3) := by decide +kernel
theorem dX11_streetLineHere_79 : decode cX11_streetLineHere 79 = .ok (.goto 8, 3) := by decide +kernel
theorem dX11_streetLineHere_82 : decode cX11_streetLineHere 82 = .ok (.aload_n 0, 1) := by decide +kernel
theorem dX11_streetLineHere_83 : decode cX11_streetLineHere 83 = .ok (.iload_n 1, 1) := by decide +kernel
theorem dX11_streetLineHere_84 : decode cX11_streetLineHere 84 = .ok (.invokevirtual 239, 3) := by decide +kernel
theorem dX11_streetLineHere_87 : decode cX11_streetLineHere 87 = .ok (.ireturn, 1) := by decide +kernel
theorem dX11_isStreetWord_0 : decode cX11_isStreetWord 0 = .ok (.aload_n 0, 1) := by decide +kernel
theorem dX11_isStreetWord_1 : decode cX11_isStreetWord 1 = .ok (.ldc2_w 221, 3) := by decide +kernel
theorem dX11_isStreetWord_4 : decode cX11_isStreetWord 4 = .ok (.invokevirtual 95, 3) := by decide +kernel
theorem dX11_isStreetWord_7 : decode cX11_isStreetWord 7 = .ok (.ifCond .ne 43, 3) := by decide +kernel
theorem dX11_isStreetWord_10 : decode cX11_isStreetWord 10 = .ok (.aload_n 0, 1) := by decide +kernel
theorem dX11_isStreetWord_11 : decode cX11_isStreetWord 11 = .ok (.ldc2_w 116, 3) := by decide +kernel
theorem dX11_isStreetWord_14 : decode cX11_isStreetWord 14 = .ok (.invokevirtual 95, 3) := by decide +kernel
theorem dX11_isStreetWord_17 : decode cX11_isStreetWord 17 = .ok (.ifCond .ne 33, 3) := by decide +kernel
theorem dX11_isStreetWord_20 : decode cX11_isStreetWord 20 = .ok (.aload_n 0, 1) := by decide +kernel
theorem dX11_isStreetWord_21 : decode cX11_isStreetWord 21 = .ok (.ldc2_w 229, 3) := by decide +kernel
theorem dX11_isStreetWord_24 : decode cX11_isStreetWord 24 = .ok (.invokevirtual 95, 3) := by decide +kernel
theorem dX11_isStreetWord_27 : decode cX11_isStreetWord 27 = .ok (.ifCond .ne 23, 3) := by decide +kernel
theorem dX11_isStreetWord_30 : decode cX11_isStreetWord 30 = .ok (.aload_n 0, 1) := by decide +kernel
theorem dX11_isStreetWord_31 : decode cX11_isStreetWord 31 = .ok (.ldc2_w 234, 3) := by decide +kernel
theorem dX11_isStreetWord_34 : decode cX11_isStreetWord 34 = .ok (.invokevirtual 95, 3) := by decide +kernel
theorem dX11_isStreetWord_37 : decode cX11_isStreetWord 37 = .ok (.ifCond .ne 13, 3) := by decide +kernel
theorem dX11_isStreetWord_40 : decode cX11_isStreetWord 40 = .ok (.aload_n 0, 1) := by decide +kernel
theorem dX11_isStreetWord_41 : decode cX11_isStreetWord 41 = .ok (.ldc2_w 242, 3) := by decide +kernel
theorem dX11_isStreetWord_44 : decode cX11_isStreetWord 44 = .ok (.invokevirtual 95, 3) := by decide +kernel
theorem dX11_isStreetWord_47 : decode cX11_isStreetWord 47 = .ok (.ifCond .eq 7, 3) := by decide +kernel
theorem dX11_isStreetWord_50 : decode cX11_isStreetWord 50 = .ok (.iconst 1, 1) := by decide +kernel
theorem dX11_isStreetWord_51 : decode cX11_isStreetWord 51 = .ok (.goto 4, 3) := by decide +kernel
theorem dX11_isStreetWord_54 : decode cX11_isStreetWord 54 = .ok (.iconst 0, 1) := by decide +kernel
theorem dX11_isStreetWord_55 : decode cX11_isStreetWord 55 = .ok (.ireturn, 1) := by decide +kernel
theorem dX11_clauseHere_0 : decode cX11_clauseHere 0 = .ok (.aload_n 0, 1) := by decide +kernel
theorem dX11_clauseHere_1 : decode cX11_clauseHere 1 = .ok (.invokevirtual 87, 3) := by decide +kernel
theorem dX11_clauseHere_4 : decode cX11_clauseHere 4 = .ok (.pop, 1) := by decide +kernel
theorem dX11_clauseHere_5 : decode cX11_clauseHere 5 = .ok (.aload_n 0, 1) := by decide +kernel
theorem dX11_clauseHere_6 : decode cX11_clauseHere 6 = .ok (.getfield 84, 3) := by decide +kernel
theorem dX11_clauseHere_9 : decode cX11_clauseHere 9 = .ok (.istore_n 1, 1) := by decide +kernel
theorem dX11_clauseHere_10 : decode cX11_clauseHere 10 = .ok (.aload_n 0, 1) := by decide +kernel
theorem dX11_clauseHere_11 : decode cX11_clauseHere 11 = .ok (.getfield 142, 3) := by decide +kernel
theorem dX11_clauseHere_14 : decode cX11_clauseHere 14 = .ok (.bipush 6, 2) := by decide +kernel
theorem dX11_clauseHere_16 : decode cX11_clauseHere 16 = .ok (.if_icmp .ne 7, 3) := by decide +kernel
theorem dX11_clauseHere_19 : decode cX11_clauseHere 19 = .ok (.iconst 1, 1) := by decide +kernel
theorem dX11_clauseHere_20 : decode cX11_clauseHere 20 = .ok (.goto 4, 3) := by decide +kernel
theorem dX11_clauseHere_23 : decode cX11_clauseHere 23 = .ok (.iconst 0, 1) := by decide +kernel
theorem dX11_clauseHere_24 : decode cX11_clauseHere 24 = .ok (.istore_n 2, 1) := by decide +kernel
theorem dX11_clauseHere_25 : decode cX11_clauseHere 25 = .ok (.iload_n 2, 1) := by decide +kernel
theorem dX11_clauseHere_26 : decode cX11_clauseHere 26 = .ok (.ifCond .eq 13, 3) := by decide +kernel
theorem dX11_clauseHere_29 : decode cX11_clauseHere 29 = .ok (.aload_n 0, 1) := by decide +kernel
theorem dX11_clauseHere_30 : decode cX11_clauseHere 30 = .ok (.invokevirtual 244, 3) := by decide +kernel
theorem dX11_clauseHere_33 : decode cX11_clauseHere 33 = .ok (.ifCond .ne 23, 3) := by decide +kernel
theorem dX11_clauseHere_36 : decode cX11_clauseHere 36 = .ok (.goto 13, 3) := by decide +kernel
theorem dX11_clauseHere_39 : decode cX11_clauseHere 39 = .ok (.aload_n 0, 1) := by decide +kernel
theorem dX11_clauseHere_40 : decode cX11_clauseHere 40 = .ok (.ldc2_w 247, 3) := by decide +kernel
theorem dX11_clauseHere_43 : decode cX11_clauseHere 43 = .ok (.invokevirtual 95, 3) := by decide +kernel
theorem dX11_clauseHere_46 : decode cX11_clauseHere 46 = .ok (.ifCond .ne 10, 3) := by decide +kernel
theorem dX11_clauseHere_49 : decode cX11_clauseHere 49 = .ok (.aload_n 0, 1) := by decide +kernel
theorem dX11_clauseHere_50 : decode cX11_clauseHere 50 = .ok (.iconst 0, 1) := by decide +kernel
theorem dX11_clauseHere_51 : decode cX11_clauseHere 51 = .ok (.iload_n 1, 1) := by decide +kernel
theorem dX11_clauseHere_52 : decode cX11_clauseHere 52 = .ok (.invokevirtual 105, 3) := by decide +kernel
theorem dX11_clauseHere_55 : decode cX11_clauseHere 55 = .ok (.ireturn, 1) := by decide +kernel
theorem dX11_clauseHere_56 : decode cX11_clauseHere 56 = .ok (.aload_n 0, 1) := by decide +kernel
theorem dX11_clauseHere_57 : decode cX11_clauseHere 57 = .ok (.getfield 249, 3) := by decide +kernel
theorem dX11_clauseHere_60 : decode cX11_clauseHere 60 = .ok (.iload_n 2, 1) := by decide +kernel
theorem dX11_clauseHere_61 : decode cX11_clauseHere 61 = .ok (.ifCond .eq 8, 3) := by decide +kernel
theorem dX11_clauseHere_64 : decode cX11_clauseHere 64 = .ok (.bipush 40, 2) := by decide +kernel
theorem dX11_clauseHere_66 : decode cX11_clauseHere 66 = .ok (.goto 5, 3) := by decide +kernel
theorem dX11_clauseHere_69 : decode cX11_clauseHere 69 = .ok (.bipush 12, 2) := by decide +kernel
theorem dX11_clauseHere_71 : decode cX11_clauseHere 71 = .ok (.if_icmp .ne 10, 3) := by decide +kernel
theorem dX11_clauseHere_74 : decode cX11_clauseHere 74 = .ok (.aload_n 0, 1) := by decide +kernel
theorem dX11_clauseHere_75 : decode cX11_clauseHere 75 = .ok (.iconst 4, 1) := by decide +kernel
theorem dX11_clauseHere_76 : decode cX11_clauseHere 76 = .ok (.iload_n 1, 1) := by decide +kernel
theorem dX11_clauseHere_77 : decode cX11_clauseHere 77 = .ok (.invokevirtual 105, 3) := by decide +kernel
theorem dX11_clauseHere_80 : decode cX11_clauseHere 80 = .ok (.ireturn, 1) := by decide +kernel
theorem dX11_clauseHere_81 : decode cX11_clauseHere 81 = .ok (.aload_n 0, 1) := by decide +kernel
theorem dX11_clauseHere_82 : decode cX11_clauseHere 82 = .ok (.dup, 1) := by decide +kernel
theorem dX11_clauseHere_83 : decode cX11_clauseHere 83 = .ok (.getfield 249, 3) := by decide +kernel
theorem dX11_clauseHere_86 : decode cX11_clauseHere 86 = .ok (.iconst 1, 1) := by decide +kernel
theorem dX11_clauseHere_87 : decode cX11_clauseHere 87 = .ok (.iadd, 1) := by decide +kernel
theorem dX11_clauseHere_88 : decode cX11_clauseHere 88 = .ok (.putfield 249, 3) := by decide +kernel
theorem dX11_clauseHere_91 : decode cX11_clauseHere 91 = .ok (.iload_n 2, 1) := by decide +kernel
theorem dX11_clauseHere_92 : decode cX11_clauseHere 92 = .ok (.ifCond .eq 11, 3) := by decide +kernel
theorem dX11_clauseHere_95 : decode cX11_clauseHere 95 = .ok (.aload_n 0, 1) := by decide +kernel
theorem dX11_clauseHere_96 : decode cX11_clauseHere 96 = .ok (.iload_n 1, 1) := by decide +kernel
theorem dX11_clauseHere_97 : decode cX11_clauseHere 97 = .ok (.invokevirtual 252, 3) := by decide +kernel
theorem dX11_clauseHere_100 : decode cX11_clauseHere 100 = .ok (.goto 7, 3) := by decide +kernel
theorem dX11_clauseHere_103 : decode cX11_clauseHere 103 = .ok (.aload_n 0, 1) := by decide +kernel
theorem dX11_clauseHere_104 : decode cX11_clauseHere 104 = .ok (.invokevirtual 255, 3) := by decide +kernel
theorem dX11_clauseHere_107 : decode cX11_clauseHere 107 = .ok (.ireturn, 1) := by decide +kernel
theorem dX11_readsAll_0 : decode cX11_readsAll 0 = .ok (.aload_n 0, 1) := by decide +kernel
theorem dX11_readsAll_1 : decode cX11_readsAll 1 = .ok (.getfield 17, 3) := by decide +kernel
theorem dX11_readsAll_4 : decode cX11_readsAll 4 = .ok (.aload_n 0, 1) := by decide +kernel
theorem dX11_readsAll_5 : decode cX11_readsAll 5 = .ok (.getfield 142, 3) := by decide +kernel
theorem dX11_readsAll_8 : decode cX11_readsAll 8 = .ok (.iconst 0, 1) := by decide +kernel
theorem dX11_readsAll_9 : decode cX11_readsAll 9 = .ok (.iastore, 1) := by decide +kernel
theorem dX11_readsAll_10 : decode cX11_readsAll 10 = .ok (.aload_n 0, 1) := by decide +kernel
theorem dX11_readsAll_11 : decode cX11_readsAll 11 = .ok (.iconst 0, 1) := by decide +kernel
theorem dX11_readsAll_12 : decode cX11_readsAll 12 = .ok (.putfield 249, 3) := by decide +kernel
theorem dX11_readsAll_15 : decode cX11_readsAll 15 = .ok (.aload_n 0, 1) := by decide +kernel
theorem dX11_readsAll_16 : decode cX11_readsAll 16 = .ok (.iconst 0, 1) := by decide +kernel
theorem dX11_readsAll_17 : decode cX11_readsAll 17 = .ok (.putfield 84, 3) := by decide +kernel
theorem dX11_readsAll_20 : decode cX11_readsAll 20 = .ok (.aload_n 0, 1) := by decide +kernel
theorem dX11_readsAll_21 : decode cX11_readsAll 21 = .ok (.iconst 0, 1) := by decide +kernel
theorem dX11_readsAll_22 : decode cX11_readsAll 22 = .ok (.putfield 81, 3) := by decide +kernel
theorem dX11_readsAll_25 : decode cX11_readsAll 25 = .ok (.aload_n 0, 1) := by decide +kernel
theorem dX11_readsAll_26 : decode cX11_readsAll 26 = .ok (.iconst 0, 1) := by decide +kernel
theorem dX11_readsAll_27 : decode cX11_readsAll 27 = .ok (.putfield 145, 3) := by decide +kernel
theorem dX11_readsAll_30 : decode cX11_readsAll 30 = .ok (.aload_n 0, 1) := by decide +kernel
theorem dX11_readsAll_31 : decode cX11_readsAll 31 = .ok (.invokevirtual 258, 3) := by decide +kernel
theorem dX11_readsAll_34 : decode cX11_readsAll 34 = .ok (.istore_n 1, 1) := by decide +kernel
theorem dX11_readsAll_35 : decode cX11_readsAll 35 = .ok (.iload_n 1, 1) := by decide +kernel
theorem dX11_readsAll_36 : decode cX11_readsAll 36 = .ok (.ifCond .eq 30, 3) := by decide +kernel
theorem dX11_readsAll_39 : decode cX11_readsAll 39 = .ok (.aload_n 0, 1) := by decide +kernel
theorem dX11_readsAll_40 : decode cX11_readsAll 40 = .ok (.invokevirtual 87, 3) := by decide +kernel
theorem dX11_readsAll_43 : decode cX11_readsAll 43 = .ok (.bipush 59, 2) := by decide +kernel
theorem dX11_readsAll_45 : decode cX11_readsAll 45 = .ok (.if_icmp .ne 21, 3) := by decide +kernel
theorem dX11_readsAll_48 : decode cX11_readsAll 48 = .ok (.aload_n 0, 1) := by decide +kernel
theorem dX11_readsAll_49 : decode cX11_readsAll 49 = .ok (.dup, 1) := by decide +kernel
theorem dX11_readsAll_50 : decode cX11_readsAll 50 = .ok (.getfield 84, 3) := by decide +kernel
theorem dX11_readsAll_53 : decode cX11_readsAll 53 = .ok (.iconst 1, 1) := by decide +kernel
theorem dX11_readsAll_54 : decode cX11_readsAll 54 = .ok (.iadd, 1) := by decide +kernel
theorem dX11_readsAll_55 : decode cX11_readsAll 55 = .ok (.putfield 84, 3) := by decide +kernel
theorem dX11_readsAll_58 : decode cX11_readsAll 58 = .ok (.aload_n 0, 1) := by decide +kernel
theorem dX11_readsAll_59 : decode cX11_readsAll 59 = .ok (.invokevirtual 258, 3) := by decide +kernel
theorem dX11_readsAll_62 : decode cX11_readsAll 62 = .ok (.istore_n 1, 1) := by decide +kernel
theorem dX11_readsAll_63 : decode cX11_readsAll 63 = .ok (.goto (-28), 3) := by decide +kernel
theorem dX11_readsAll_66 : decode cX11_readsAll 66 = .ok (.iload_n 1, 1) := by decide +kernel
theorem dX11_readsAll_67 : decode cX11_readsAll 67 = .ok (.ifCond .eq 21, 3) := by decide +kernel
theorem dX11_readsAll_70 : decode cX11_readsAll 70 = .ok (.aload_n 0, 1) := by decide +kernel
theorem dX11_readsAll_71 : decode cX11_readsAll 71 = .ok (.invokevirtual 87, 3) := by decide +kernel
theorem dX11_readsAll_74 : decode cX11_readsAll 74 = .ok (.iconst (-1), 1) := by decide +kernel
theorem dX11_readsAll_75 : decode cX11_readsAll 75 = .ok (.if_icmp .eq 13, 3) := by decide +kernel
theorem dX11_readsAll_78 : decode cX11_readsAll 78 = .ok (.aload_n 0, 1) := by decide +kernel
theorem dX11_readsAll_79 : decode cX11_readsAll 79 = .ok (.iconst 0, 1) := by decide +kernel
theorem dX11_readsAll_80 : decode cX11_readsAll 80 = .ok (.aload_n 0, 1) := by decide +kernel
theorem dX11_readsAll_81 : decode cX11_readsAll 81 = .ok (.getfield 84, 3) := by decide +kernel
theorem dX11_readsAll_84 : decode cX11_readsAll 84 = .ok (.invokevirtual 105, 3) := by decide +kernel
theorem dX11_readsAll_87 : decode cX11_readsAll 87 = .ok (.pop, 1) := by decide +kernel
theorem dX11_readsAll_88 : decode cX11_readsAll 88 = .ok (.aload_n 0, 1) := by decide +kernel
theorem dX11_readsAll_89 : decode cX11_readsAll 89 = .ok (.iconst 0, 1) := by decide +kernel
theorem dX11_readsAll_90 : decode cX11_readsAll 90 = .ok (.putfield 74, 3) := by decide +kernel
theorem dX11_readsAll_93 : decode cX11_readsAll 93 = .ok (.aload_n 0, 1) := by decide +kernel
theorem dX11_readsAll_94 : decode cX11_readsAll 94 = .ok (.getfield 81, 3) := by decide +kernel
theorem dX11_readsAll_97 : decode cX11_readsAll 97 = .ok (.ifCond .ne 7, 3) := by decide +kernel
theorem dX11_readsAll_100 : decode cX11_readsAll 100 = .ok (.iconst 1, 1) := by decide +kernel
theorem dX11_readsAll_101 : decode cX11_readsAll 101 = .ok (.goto 4, 3) := by decide +kernel
theorem dX11_readsAll_104 : decode cX11_readsAll 104 = .ok (.iconst 0, 1) := by decide +kernel
theorem dX11_readsAll_105 : decode cX11_readsAll 105 = .ok (.ireturn, 1) := by decide +kernel
theorem dX11_rule_0 : decode cX11_rule 0 = .ok (.aload_n 0, 1) := by decide +kernel
theorem dX11_rule_1 : decode cX11_rule 1 = .ok (.getfield 261, 3) := by decide +kernel
theorem dX11_rule_4 : decode cX11_rule 4 = .ok (.bipush 6, 2) := by decide +kernel
theorem dX11_rule_6 : decode cX11_rule 6 = .ok (.if_icmp .ne 5, 3) := by decide +kernel
theorem dX11_rule_9 : decode cX11_rule 9 = .ok (.iconst (-1), 1) := by decide +kernel
theorem dX11_rule_10 : decode cX11_rule 10 = .ok (.ireturn, 1) := by decide +kernel
theorem dX11_rule_11 : decode cX11_rule 11 = .ok (.aload_n 0, 1) := by decide +kernel
theorem dX11_rule_12 : decode cX11_rule 12 = .ok (.aload_n 0, 1) := by decide +kernel
theorem dX11_rule_13 : decode cX11_rule 13 = .ok (.getfield 261, 3) := by decide +kernel
theorem dX11_rule_16 : decode cX11_rule 16 = .ok (.putfield 142, 3) := by decide +kernel
theorem dX11_rule_19 : decode cX11_rule 19 = .ok (.aload_n 0, 1) := by decide +kernel
theorem dX11_rule_20 : decode cX11_rule 20 = .ok (.getfield 23, 3) := by decide +kernel
theorem dX11_rule_23 : decode cX11_rule 23 = .ok (.aload_n 0, 1) := by decide +kernel
theorem dX11_rule_24 : decode cX11_rule 24 = .ok (.getfield 142, 3) := by decide +kernel
theorem dX11_rule_27 : decode cX11_rule 27 = .ok (.iconst 0, 1) := by decide +kernel
theorem dX11_rule_28 : decode cX11_rule 28 = .ok (.iastore, 1) := by decide +kernel
theorem dX11_rule_29 : decode cX11_rule 29 = .ok (.aload_n 0, 1) := by decide +kernel
theorem dX11_rule_30 : decode cX11_rule 30 = .ok (.invokevirtual 264, 3) := by decide +kernel
theorem dX11_rule_33 : decode cX11_rule 33 = .ok (.ifCond .ne 11, 3) := by decide +kernel
theorem dX11_rule_36 : decode cX11_rule 36 = .ok (.bipush (-2), 2) := by decide +kernel
theorem dX11_rule_38 : decode cX11_rule 38 = .ok (.aload_n 0, 1) := by decide +kernel
theorem dX11_rule_39 : decode cX11_rule 39 = .ok (.getfield 81, 3) := by decide +kernel
theorem dX11_rule_42 : decode cX11_rule 42 = .ok (.isub, 1) := by decide +kernel
theorem dX11_rule_43 : decode cX11_rule 43 = .ok (.ireturn, 1) := by decide +kernel
theorem dX11_rule_44 : decode cX11_rule 44 = .ok (.aload_n 0, 1) := by decide +kernel
theorem dX11_rule_45 : decode cX11_rule 45 = .ok (.dup, 1) := by decide +kernel
theorem dX11_rule_46 : decode cX11_rule 46 = .ok (.getfield 261, 3) := by decide +kernel
theorem dX11_rule_49 : decode cX11_rule 49 = .ok (.iconst 1, 1) := by decide +kernel
theorem dX11_rule_50 : decode cX11_rule 50 = .ok (.iadd, 1) := by decide +kernel
theorem dX11_rule_51 : decode cX11_rule 51 = .ok (.putfield 261, 3) := by decide +kernel
theorem dX11_rule_54 : decode cX11_rule 54 = .ok (.aload_n 0, 1) := by decide +kernel
theorem dX11_rule_55 : decode cX11_rule 55 = .ok (.getfield 261, 3) := by decide +kernel
theorem dX11_rule_58 : decode cX11_rule 58 = .ok (.iconst 1, 1) := by decide +kernel
theorem dX11_rule_59 : decode cX11_rule 59 = .ok (.isub, 1) := by decide +kernel
theorem dX11_rule_60 : decode cX11_rule 60 = .ok (.ireturn, 1) := by decide +kernel
theorem dX11_street_0 : decode cX11_street 0 = .ok (.aload_n 0, 1) := by decide +kernel
theorem dX11_street_1 : decode cX11_street 1 = .ok (.bipush 6, 2) := by decide +kernel
theorem dX11_street_3 : decode cX11_street 3 = .ok (.putfield 142, 3) := by decide +kernel
theorem dX11_street_6 : decode cX11_street 6 = .ok (.iconst 0, 1) := by decide +kernel
theorem dX11_street_7 : decode cX11_street 7 = .ok (.istore_n 1, 1) := by decide +kernel
theorem dX11_street_8 : decode cX11_street 8 = .ok (.iload_n 1, 1) := by decide +kernel
theorem dX11_street_9 : decode cX11_street 9 = .ok (.bipush 10, 2) := by decide +kernel
theorem dX11_street_11 : decode cX11_street 11 = .ok (.if_icmp .ge 16, 3) := by decide +kernel
theorem dX11_street_14 : decode cX11_street 14 = .ok (.aload_n 0, 1) := by decide +kernel
theorem dX11_street_15 : decode cX11_street 15 = .ok (.getfield 26, 3) := by decide +kernel
theorem dX11_street_18 : decode cX11_street 18 = .ok (.iload_n 1, 1) := by decide +kernel
theorem dX11_street_19 : decode cX11_street 19 = .ok (.iconst 0, 1) := by decide +kernel
theorem dX11_street_20 : decode cX11_street 20 = .ok (.iastore, 1) := by decide +kernel
theorem dX11_street_21 : decode cX11_street 21 = .ok (.iinc 1 1, 3) := by decide +kernel
theorem dX11_street_24 : decode cX11_street 24 = .ok (.goto (-16), 3) := by decide +kernel
theorem dX11_street_27 : decode cX11_street 27 = .ok (.aload_n 0, 1) := by decide +kernel
theorem dX11_street_28 : decode cX11_street 28 = .ok (.invokevirtual 264, 3) := by decide +kernel
theorem dX11_street_31 : decode cX11_street 31 = .ok (.ifCond .ne 11, 3) := by decide +kernel
theorem dX11_street_34 : decode cX11_street 34 = .ok (.bipush (-2), 2) := by decide +kernel
theorem dX11_street_36 : decode cX11_street 36 = .ok (.aload_n 0, 1) := by decide +kernel
theorem dX11_street_37 : decode cX11_street 37 = .ok (.getfield 81, 3) := by decide +kernel
theorem dX11_street_40 : decode cX11_street 40 = .ok (.isub, 1) := by decide +kernel
theorem dX11_street_41 : decode cX11_street 41 = .ok (.ireturn, 1) := by decide +kernel
theorem dX11_street_42 : decode cX11_street 42 = .ok (.iconst 0, 1) := by decide +kernel
theorem dX11_street_43 : decode cX11_street 43 = .ok (.istore_n 1, 1) := by decide +kernel
theorem dX11_street_44 : decode cX11_street 44 = .ok (.iload_n 1, 1) := by decide +kernel
theorem dX11_street_45 : decode cX11_street 45 = .ok (.sipush 144, 3) := by decide +kernel
theorem dX11_street_48 : decode cX11_street 48 = .ok (.if_icmp .ge 31, 3) := by decide +kernel
theorem dX11_street_51 : decode cX11_street 51 = .ok (.aload_n 0, 1) := by decide +kernel
theorem dX11_street_52 : decode cX11_street 52 = .ok (.getfield 39, 3) := by decide +kernel
theorem dX11_street_55 : decode cX11_street 55 = .ok (.iload_n 1, 1) := by decide +kernel
theorem dX11_street_56 : decode cX11_street 56 = .ok (.iload_n 1, 1) := by decide +kernel
theorem dX11_street_57 : decode cX11_street 57 = .ok (.bipush 103, 2) := by decide +kernel
theorem dX11_street_59 : decode cX11_street 59 = .ok (.if_icmp .ge 12, 3) := by decide +kernel
theorem dX11_street_62 : decode cX11_street 62 = .ok (.aload_n 0, 1) := by decide +kernel
theorem dX11_street_63 : decode cX11_street 63 = .ok (.getfield 26, 3) := by decide +kernel
theorem dX11_street_66 : decode cX11_street 66 = .ok (.iload_n 1, 1) := by decide +kernel
theorem dX11_street_67 : decode cX11_street 67 = .ok (.iaload, 1) := by decide +kernel
theorem dX11_street_68 : decode cX11_street 68 = .ok (.goto 4, 3) := by decide +kernel
theorem dX11_street_71 : decode cX11_street 71 = .ok (.iconst 0, 1) := by decide +kernel
theorem dX11_street_72 : decode cX11_street 72 = .ok (.iastore, 1) := by decide +kernel
theorem dX11_street_73 : decode cX11_street 73 = .ok (.iinc 1 1, 3) := by decide +kernel
theorem dX11_street_76 : decode cX11_street 76 = .ok (.goto (-32), 3) := by decide +kernel
theorem dX11_street_79 : decode cX11_street 79 = .ok (.iconst 0, 1) := by decide +kernel
theorem dX11_street_80 : decode cX11_street 80 = .ok (.istore_n 1, 1) := by decide +kernel
theorem dX11_street_81 : decode cX11_street 81 = .ok (.iload_n 1, 1) := by decide +kernel
theorem dX11_street_82 : decode cX11_street 82 = .ok (.iconst 5, 1) := by decide +kernel
theorem dX11_street_83 : decode cX11_street 83 = .ok (.if_icmp .ge 19, 3) := by decide +kernel
theorem dX11_street_86 : decode cX11_street 86 = .ok (.aload_n 0, 1) := by decide +kernel
theorem dX11_street_87 : decode cX11_street 87 = .ok (.getfield 39, 3) := by decide +kernel
theorem dX11_street_90 : decode cX11_street 90 = .ok (.bipush 40, 2) := by decide +kernel
theorem dX11_street_92 : decode cX11_street 92 = .ok (.iload_n 1, 1) := by decide +kernel
theorem dX11_street_93 : decode cX11_street 93 = .ok (.iadd, 1) := by decide +kernel
theorem dX11_street_94 : decode cX11_street 94 = .ok (.iconst 0, 1) := by decide +kernel
theorem dX11_street_95 : decode cX11_street 95 = .ok (.iastore, 1) := by decide +kernel
theorem dX11_street_96 : decode cX11_street 96 = .ok (.iinc 1 1, 3) := by decide +kernel
theorem dX11_street_99 : decode cX11_street 99 = .ok (.goto (-18), 3) := by decide +kernel
theorem dX11_street_102 : decode cX11_street 102 = .ok (.aload_n 0, 1) := by decide +kernel
theorem dX11_street_103 : decode cX11_street 103 = .ok (.iconst 0, 1) := by decide +kernel
theorem dX11_street_104 : decode cX11_street 104 = .ok (.putfield 267, 3) := by decide +kernel
theorem dX11_street_107 : decode cX11_street 107 = .ok (.aload_n 0, 1) := by decide +kernel
theorem dX11_street_108 : decode cX11_street 108 = .ok (.getfield 39, 3) := by decide +kernel
theorem dX11_street_111 : decode cX11_street 111 = .ok (.iconst 1, 1) := by decide +kernel
theorem dX11_street_112 : decode cX11_street 112 = .ok (.iaload, 1) := by decide +kernel
theorem dX11_street_113 : decode cX11_street 113 = .ok (.ireturn, 1) := by decide +kernel
theorem dX11_isRule_0 : decode cX11_isRule 0 = .ok (.iload_n 1, 1) := by decide +kernel
theorem dX11_isRule_1 : decode cX11_isRule 1 = .ok (.ifCond .lt 15, 3) := by decide +kernel
theorem dX11_isRule_4 : decode cX11_isRule 4 = .ok (.iload_n 1, 1) := by decide +kernel
theorem dX11_isRule_5 : decode cX11_isRule 5 = .ok (.aload_n 0, 1) := by decide +kernel
theorem dX11_isRule_6 : decode cX11_isRule 6 = .ok (.getfield 261, 3) := by decide +kernel
theorem dX11_isRule_9 : decode cX11_isRule 9 = .ok (.if_icmp .ge 7, 3) := by decide +kernel
theorem dX11_isRule_12 : decode cX11_isRule 12 = .ok (.iconst 1, 1) := by decide +kernel
theorem dX11_isRule_13 : decode cX11_isRule 13 = .ok (.goto 4, 3) := by decide +kernel
theorem dX11_isRule_16 : decode cX11_isRule 16 = .ok (.iconst 0, 1) := by decide +kernel
theorem dX11_isRule_17 : decode cX11_isRule 17 = .ok (.ireturn, 1) := by decide +kernel
theorem dX11_push_0 : decode cX11_push 0 = .ok (.aload_n 0, 1) := by decide +kernel
theorem dX11_push_1 : decode cX11_push 1 = .ok (.getfield 32, 3) := by decide +kernel
theorem dX11_push_4 : decode cX11_push 4 = .ok (.aload_n 0, 1) := by decide +kernel
theorem dX11_push_5 : decode cX11_push 5 = .ok (.getfield 270, 3) := by decide +kernel
theorem dX11_push_8 : decode cX11_push 8 = .ok (.lload_n 1, 1) := by decide +kernel
theorem dX11_push_9 : decode cX11_push 9 = .ok (.lastore, 1) := by decide +kernel
theorem dX11_push_10 : decode cX11_push 10 = .ok (.aload_n 0, 1) := by decide +kernel
theorem dX11_push_11 : decode cX11_push 11 = .ok (.dup, 1) := by decide +kernel
theorem dX11_push_12 : decode cX11_push 12 = .ok (.getfield 270, 3) := by decide +kernel
theorem dX11_push_15 : decode cX11_push 15 = .ok (.iconst 1, 1) := by decide +kernel
theorem dX11_push_16 : decode cX11_push 16 = .ok (.iadd, 1) := by decide +kernel
theorem dX11_push_17 : decode cX11_push 17 = .ok (.putfield 270, 3) := by decide +kernel
theorem dX11_push_20 : decode cX11_push 20 = .ok (.return_, 1) := by decide +kernel
theorem dX11_pop_0 : decode cX11_pop 0 = .ok (.aload_n 0, 1) := by decide +kernel
theorem dX11_pop_1 : decode cX11_pop 1 = .ok (.dup, 1) := by decide +kernel
theorem dX11_pop_2 : decode cX11_pop 2 = .ok (.getfield 270, 3) := by decide +kernel
theorem dX11_pop_5 : decode cX11_pop 5 = .ok (.iconst 1, 1) := by decide +kernel
theorem dX11_pop_6 : decode cX11_pop 6 = .ok (.isub, 1) := by decide +kernel
theorem dX11_pop_7 : decode cX11_pop 7 = .ok (.putfield 270, 3) := by decide +kernel
theorem dX11_pop_10 : decode cX11_pop 10 = .ok (.aload_n 0, 1) := by decide +kernel
theorem dX11_pop_11 : decode cX11_pop 11 = .ok (.getfield 32, 3) := by decide +kernel
theorem dX11_pop_14 : decode cX11_pop 14 = .ok (.aload_n 0, 1) := by decide +kernel
theorem dX11_pop_15 : decode cX11_pop 15 = .ok (.getfield 270, 3) := by decide +kernel
theorem dX11_pop_18 : decode cX11_pop 18 = .ok (.laload, 1) := by decide +kernel
theorem dX11_pop_19 : decode cX11_pop 19 = .ok (.lreturn, 1) := by decide +kernel
theorem dX11_one_0 : decode cX11_one 0 = .ok (.iload_n 0, 1) := by decide +kernel
theorem dX11_one_1 : decode cX11_one 1 = .ok (.tableswitch 171 2 14 #[67, 71, 75, 79, 107, 119, 131, 143, 155, 171, 167, 171, 93], 67) := by decide +kernel
theorem dX11_one_68 : decode cX11_one 68 = .ok (.lload_n 1, 1) := by decide +kernel
theorem dX11_one_69 : decode cX11_one 69 = .ok (.lload_n 3, 1) := by decide +kernel
theorem dX11_one_70 : decode cX11_one 70 = .ok (.ladd, 1) := by decide +kernel
theorem dX11_one_71 : decode cX11_one 71 = .ok (.lreturn, 1) := by decide +kernel
theorem dX11_one_72 : decode cX11_one 72 = .ok (.lload_n 1, 1) := by decide +kernel
theorem dX11_one_73 : decode cX11_one 73 = .ok (.lload_n 3, 1) := by decide +kernel
theorem dX11_one_74 : decode cX11_one 74 = .ok (.lsub, 1) := by decide +kernel
theorem dX11_one_75 : decode cX11_one 75 = .ok (.lreturn, 1) := by decide +kernel
theorem dX11_one_76 : decode cX11_one 76 = .ok (.lload_n 1, 1) := by decide +kernel
theorem dX11_one_77 : decode cX11_one 77 = .ok (.lload_n 3, 1) := by decide +kernel
theorem dX11_one_78 : decode cX11_one 78 = .ok (.lmul, 1) := by decide +kernel
theorem dX11_one_79 : decode cX11_one 79 = .ok (.lreturn, 1) := by decide +kernel
theorem dX11_one_80 : decode cX11_one 80 = .ok (.lload_n 3, 1) := by decide +kernel
theorem dX11_one_81 : decode cX11_one 81 = .ok (.lconst 0, 1) := by decide +kernel
theorem dX11_one_82 : decode cX11_one 82 = .ok (.lcmp, 1) := by decide +kernel
theorem dX11_one_83 : decode cX11_one 83 = .ok (.ifCond .ne 7, 3) := by decide +kernel
theorem dX11_one_86 : decode cX11_one 86 = .ok (.lconst 0, 1) := by decide +kernel
theorem dX11_one_87 : decode cX11_one 87 = .ok (.goto 6, 3) := by decide +kernel
theorem dX11_one_90 : decode cX11_one 90 = .ok (.lload_n 1, 1) := by decide +kernel
theorem dX11_one_91 : decode cX11_one 91 = .ok (.lload_n 3, 1) := by decide +kernel
theorem dX11_one_92 : decode cX11_one 92 = .ok (.ldiv, 1) := by decide +kernel
theorem dX11_one_93 : decode cX11_one 93 = .ok (.lreturn, 1) := by decide +kernel
theorem dX11_one_94 : decode cX11_one 94 = .ok (.lload_n 3, 1) := by decide +kernel
theorem dX11_one_95 : decode cX11_one 95 = .ok (.lconst 0, 1) := by decide +kernel
theorem dX11_one_96 : decode cX11_one 96 = .ok (.lcmp, 1) := by decide +kernel
theorem dX11_one_97 : decode cX11_one 97 = .ok (.ifCond .ne 7, 3) := by decide +kernel
theorem dX11_one_100 : decode cX11_one 100 = .ok (.lconst 0, 1) := by decide +kernel
theorem dX11_one_101 : decode cX11_one 101 = .ok (.goto 6, 3) := by decide +kernel
theorem dX11_one_104 : decode cX11_one 104 = .ok (.lload_n 1, 1) := by decide +kernel
theorem dX11_one_105 : decode cX11_one 105 = .ok (.lload_n 3, 1) := by decide +kernel
theorem dX11_one_106 : decode cX11_one 106 = .ok (.lrem, 1) := by decide +kernel
theorem dX11_one_107 : decode cX11_one 107 = .ok (.lreturn, 1) := by decide +kernel
theorem dX11_one_108 : decode cX11_one 108 = .ok (.lload_n 1, 1) := by decide +kernel
theorem dX11_one_109 : decode cX11_one 109 = .ok (.lload_n 3, 1) := by decide +kernel
theorem dX11_one_110 : decode cX11_one 110 = .ok (.lcmp, 1) := by decide +kernel
theorem dX11_one_111 : decode cX11_one 111 = .ok (.ifCond .ge 7, 3) := by decide +kernel
theorem dX11_one_114 : decode cX11_one 114 = .ok (.lconst 1, 1) := by decide +kernel
theorem dX11_one_115 : decode cX11_one 115 = .ok (.goto 4, 3) := by decide +kernel
theorem dX11_one_118 : decode cX11_one 118 = .ok (.lconst 0, 1) := by decide +kernel
theorem dX11_one_119 : decode cX11_one 119 = .ok (.lreturn, 1) := by decide +kernel
theorem dX11_one_120 : decode cX11_one 120 = .ok (.lload_n 1, 1) := by decide +kernel
theorem dX11_one_121 : decode cX11_one 121 = .ok (.lload_n 3, 1) := by decide +kernel
theorem dX11_one_122 : decode cX11_one 122 = .ok (.lcmp, 1) := by decide +kernel
theorem dX11_one_123 : decode cX11_one 123 = .ok (.ifCond .gt 7, 3) := by decide +kernel
theorem dX11_one_126 : decode cX11_one 126 = .ok (.lconst 1, 1) := by decide +kernel
theorem dX11_one_127 : decode cX11_one 127 = .ok (.goto 4, 3) := by decide +kernel
theorem dX11_one_130 : decode cX11_one 130 = .ok (.lconst 0, 1) := by decide +kernel
theorem dX11_one_131 : decode cX11_one 131 = .ok (.lreturn, 1) := by decide +kernel
theorem dX11_one_132 : decode cX11_one 132 = .ok (.lload_n 1, 1) := by decide +kernel
theorem dX11_one_133 : decode cX11_one 133 = .ok (.lload_n 3, 1) := by decide +kernel
theorem dX11_one_134 : decode cX11_one 134 = .ok (.lcmp, 1) := by decide +kernel
theorem dX11_one_135 : decode cX11_one 135 = .ok (.ifCond .ne 7, 3) := by decide +kernel
theorem dX11_one_138 : decode cX11_one 138 = .ok (.lconst 1, 1) := by decide +kernel
theorem dX11_one_139 : decode cX11_one 139 = .ok (.goto 4, 3) := by decide +kernel
theorem dX11_one_142 : decode cX11_one 142 = .ok (.lconst 0, 1) := by decide +kernel
theorem dX11_one_143 : decode cX11_one 143 = .ok (.lreturn, 1) := by decide +kernel
theorem dX11_one_144 : decode cX11_one 144 = .ok (.lload_n 1, 1) := by decide +kernel
theorem dX11_one_145 : decode cX11_one 145 = .ok (.lload_n 3, 1) := by decide +kernel
theorem dX11_one_146 : decode cX11_one 146 = .ok (.lcmp, 1) := by decide +kernel
theorem dX11_one_147 : decode cX11_one 147 = .ok (.ifCond .lt 7, 3) := by decide +kernel
theorem dX11_one_150 : decode cX11_one 150 = .ok (.lconst 1, 1) := by decide +kernel
theorem dX11_one_151 : decode cX11_one 151 = .ok (.goto 4, 3) := by decide +kernel
theorem dX11_one_154 : decode cX11_one 154 = .ok (.lconst 0, 1) := by decide +kernel
theorem dX11_one_155 : decode cX11_one 155 = .ok (.lreturn, 1) := by decide +kernel
theorem dX11_one_156 : decode cX11_one 156 = .ok (.lload_n 1, 1) := by decide +kernel
theorem dX11_one_157 : decode cX11_one 157 = .ok (.lload_n 3, 1) := by decide +kernel
theorem dX11_one_158 : decode cX11_one 158 = .ok (.lcmp, 1) := by decide +kernel
theorem dX11_one_159 : decode cX11_one 159 = .ok (.ifCond .le 7, 3) := by decide +kernel
theorem dX11_one_162 : decode cX11_one 162 = .ok (.lconst 1, 1) := by decide +kernel
theorem dX11_one_163 : decode cX11_one 163 = .ok (.goto 4, 3) := by decide +kernel
theorem dX11_one_166 : decode cX11_one 166 = .ok (.lconst 0, 1) := by decide +kernel
theorem dX11_one_167 : decode cX11_one 167 = .ok (.lreturn, 1) := by decide +kernel
theorem dX11_one_168 : decode cX11_one 168 = .ok (.lload_n 1, 1) := by decide +kernel
theorem dX11_one_169 : decode cX11_one 169 = .ok (.lload_n 3, 1) := by decide +kernel
theorem dX11_one_170 : decode cX11_one 170 = .ok (.land, 1) := by decide +kernel
theorem dX11_one_171 : decode cX11_one 171 = .ok (.lreturn, 1) := by decide +kernel
theorem dX11_one_172 : decode cX11_one 172 = .ok (.lload_n 1, 1) := by decide +kernel
theorem dX11_one_173 : decode cX11_one 173 = .ok (.lload_n 3, 1) := by decide +kernel
theorem dX11_one_174 : decode cX11_one 174 = .ok (.lor, 1) := by decide +kernel
theorem dX11_one_175 : decode cX11_one 175 = .ok (.lreturn, 1) := by decide +kernel
theorem dX11_reckons_0 : decode cX11_reckons 0 = .ok (.aload_n 0, 1) := by decide +kernel
theorem dX11_reckons_1 : decode cX11_reckons 1 = .ok (.iconst 0, 1) := by decide +kernel
theorem dX11_reckons_2 : decode cX11_reckons 2 = .ok (.putfield 270, 3) := by decide +kernel
theorem dX11_reckons_5 : decode cX11_reckons 5 = .ok (.iload_n 2, 1) := by decide +kernel
theorem dX11_reckons_6 : decode cX11_reckons 6 = .ok (.istore 4, 2) := by decide +kernel
theorem dX11_reckons_8 : decode cX11_reckons 8 = .ok (.iload 4, 2) := by decide +kernel
theorem dX11_reckons_10 : decode cX11_reckons 10 = .ok (.iload_n 3, 1) := by decide +kernel
theorem dX11_reckons_11 : decode cX11_reckons 11 = .ok (.if_icmp .ge 124, 3) := by decide +kernel
theorem dX11_reckons_14 : decode cX11_reckons 14 = .ok (.aload_n 0, 1) := by decide +kernel
theorem dX11_reckons_15 : decode cX11_reckons 15 = .ok (.getfield 13, 3) := by decide +kernel
theorem dX11_reckons_18 : decode cX11_reckons 18 = .ok (.sipush 400, 3) := by decide +kernel
theorem dX11_reckons_21 : decode cX11_reckons 21 = .ok (.iload_n 1, 1) := by decide +kernel
theorem dX11_reckons_22 : decode cX11_reckons 22 = .ok (.imul, 1) := by decide +kernel
theorem dX11_reckons_23 : decode cX11_reckons 23 = .ok (.iload 4, 2) := by decide +kernel
theorem dX11_reckons_25 : decode cX11_reckons 25 = .ok (.iadd, 1) := by decide +kernel
theorem dX11_reckons_26 : decode cX11_reckons 26 = .ok (.iaload, 1) := by decide +kernel
theorem dX11_reckons_27 : decode cX11_reckons 27 = .ok (.bipush 15, 2) := by decide +kernel
theorem dX11_reckons_29 : decode cX11_reckons 29 = .ok (.iand, 1) := by decide +kernel
theorem dX11_reckons_30 : decode cX11_reckons 30 = .ok (.istore 5, 2) := by decide +kernel
theorem dX11_reckons_32 : decode cX11_reckons 32 = .ok (.aload_n 0, 1) := by decide +kernel
theorem dX11_reckons_33 : decode cX11_reckons 33 = .ok (.getfield 13, 3) := by decide +kernel
theorem dX11_reckons_36 : decode cX11_reckons 36 = .ok (.sipush 400, 3) := by decide +kernel
theorem dX11_reckons_39 : decode cX11_reckons 39 = .ok (.iload_n 1, 1) := by decide +kernel
theorem dX11_reckons_40 : decode cX11_reckons 40 = .ok (.imul, 1) := by decide +kernel
theorem dX11_reckons_41 : decode cX11_reckons 41 = .ok (.iload 4, 2) := by decide +kernel
theorem dX11_reckons_43 : decode cX11_reckons 43 = .ok (.iadd, 1) := by decide +kernel
theorem dX11_reckons_44 : decode cX11_reckons 44 = .ok (.iaload, 1) := by decide +kernel
theorem dX11_reckons_45 : decode cX11_reckons 45 = .ok (.iconst 4, 1) := by decide +kernel
theorem dX11_reckons_46 : decode cX11_reckons 46 = .ok (.ishr, 1) := by decide +kernel
theorem dX11_reckons_47 : decode cX11_reckons 47 = .ok (.istore 6, 2) := by decide +kernel
theorem dX11_reckons_49 : decode cX11_reckons 49 = .ok (.iload 5, 2) := by decide +kernel
theorem dX11_reckons_51 : decode cX11_reckons 51 = .ok (.ifCond .ne 13, 3) := by decide +kernel
theorem dX11_reckons_54 : decode cX11_reckons 54 = .ok (.aload_n 0, 1) := by decide +kernel
theorem dX11_reckons_55 : decode cX11_reckons 55 = .ok (.iload 6, 2) := by decide +kernel
theorem dX11_reckons_57 : decode cX11_reckons 57 = .ok (.i2l, 1) := by decide +kernel
theorem dX11_reckons_58 : decode cX11_reckons 58 = .ok (.invokevirtual 273, 3) := by decide +kernel
theorem dX11_reckons_61 : decode cX11_reckons 61 = .ok (.goto 68, 3) := by decide +kernel
theorem dX11_reckons_64 : decode cX11_reckons 64 = .ok (.iload 5, 2) := by decide +kernel
theorem dX11_reckons_66 : decode cX11_reckons 66 = .ok (.iconst 1, 1) := by decide +kernel
theorem dX11_reckons_67 : decode cX11_reckons 67 = .ok (.if_icmp .ne 17, 3) := by decide +kernel
theorem dX11_reckons_70 : decode cX11_reckons 70 = .ok (.aload_n 0, 1) := by decide +kernel
theorem dX11_reckons_71 : decode cX11_reckons 71 = .ok (.aload_n 0, 1) := by decide +kernel
theorem dX11_reckons_72 : decode cX11_reckons 72 = .ok (.getfield 36, 3) := by decide +kernel
theorem dX11_reckons_75 : decode cX11_reckons 75 = .ok (.iload 6, 2) := by decide +kernel
theorem dX11_reckons_77 : decode cX11_reckons 77 = .ok (.laload, 1) := by decide +kernel
theorem dX11_reckons_78 : decode cX11_reckons 78 = .ok (.invokevirtual 273, 3) := by decide +kernel
theorem dX11_reckons_81 : decode cX11_reckons 81 = .ok (.goto 48, 3) := by decide +kernel
theorem dX11_reckons_84 : decode cX11_reckons 84 = .ok (.iload 5, 2) := by decide +kernel
theorem dX11_reckons_86 : decode cX11_reckons 86 = .ok (.bipush 11, 2) := by decide +kernel
theorem dX11_reckons_88 : decode cX11_reckons 88 = .ok (.if_icmp .ne 16, 3) := by decide +kernel
theorem dX11_reckons_91 : decode cX11_reckons 91 = .ok (.aload_n 0, 1) := by decide +kernel
theorem dX11_reckons_92 : decode cX11_reckons 92 = .ok (.lconst 1, 1) := by decide +kernel
theorem dX11_reckons_93 : decode cX11_reckons 93 = .ok (.aload_n 0, 1) := by decide +kernel
theorem dX11_reckons_94 : decode cX11_reckons 94 = .ok (.invokevirtual 277, 3) := by decide +kernel
theorem dX11_reckons_97 : decode cX11_reckons 97 = .ok (.lsub, 1) := by decide +kernel
theorem dX11_reckons_98 : decode cX11_reckons 98 = .ok (.invokevirtual 273, 3) := by decide +kernel
theorem dX11_reckons_101 : decode cX11_reckons 101 = .ok (.goto 28, 3) := by decide +kernel
theorem dX11_reckons_104 : decode cX11_reckons 104 = .ok (.aload_n 0, 1) := by decide +kernel
theorem dX11_reckons_105 : decode cX11_reckons 105 = .ok (.invokevirtual 277, 3) := by decide +kernel
theorem dX11_reckons_108 : decode cX11_reckons 108 = .ok (.lstore 7, 2) := by decide +kernel
theorem dX11_reckons_110 : decode cX11_reckons 110 = .ok (.aload_n 0, 1) := by decide +kernel
theorem dX11_reckons_111 : decode cX11_reckons 111 = .ok (.invokevirtual 277, 3) := by decide +kernel
theorem dX11_reckons_114 : decode cX11_reckons 114 = .ok (.lstore 9, 2) := by decide +kernel
theorem dX11_reckons_116 : decode cX11_reckons 116 = .ok (.aload_n 0, 1) := by decide +kernel
theorem dX11_reckons_117 : decode cX11_reckons 117 = .ok (.iload 5, 2) := by decide +kernel
theorem dX11_reckons_119 : decode cX11_reckons 119 = .ok (.lload 9, 2) := by decide +kernel
theorem dX11_reckons_121 : decode cX11_reckons 121 = .ok (.lload 7, 2) := by decide +kernel
theorem dX11_reckons_123 : decode cX11_reckons 123 = .ok (.invokestatic 281, 3) := by decide +kernel
theorem dX11_reckons_126 : decode cX11_reckons 126 = .ok (.invokevirtual 273, 3) := by decide +kernel
theorem dX11_reckons_129 : decode cX11_reckons 129 = .ok (.iinc 4 1, 3) := by decide +kernel
theorem dX11_reckons_132 : decode cX11_reckons 132 = .ok (.goto (-124), 3) := by decide +kernel
theorem dX11_reckons_135 : decode cX11_reckons 135 = .ok (.aload_n 0, 1) := by decide +kernel
theorem dX11_reckons_136 : decode cX11_reckons 136 = .ok (.invokevirtual 277, 3) := by decide +kernel
theorem dX11_reckons_139 : decode cX11_reckons 139 = .ok (.lreturn, 1) := by decide +kernel
theorem dX11_isStreet_0 : decode cX11_isStreet 0 = .ok (.aload_n 0, 1) := by decide +kernel
theorem dX11_isStreet_1 : decode cX11_isStreet 1 = .ok (.getfield 39, 3) := by decide +kernel
theorem dX11_isStreet_4 : decode cX11_isStreet 4 = .ok (.iconst 0, 1) := by decide +kernel
theorem dX11_isStreet_5 : decode cX11_isStreet 5 = .ok (.iaload, 1) := by decide +kernel
theorem dX11_isStreet_6 : decode cX11_isStreet 6 = .ok (.ifCond .le 7, 3) := by decide +kernel
theorem dX11_isStreet_9 : decode cX11_isStreet 9 = .ok (.iconst 1, 1) := by decide +kernel
theorem dX11_isStreet_10 : decode cX11_isStreet 10 = .ok (.goto 4, 3) := by decide +kernel
theorem dX11_isStreet_13 : decode cX11_isStreet 13 = .ok (.iconst 0, 1) := by decide +kernel
theorem dX11_isStreet_14 : decode cX11_isStreet 14 = .ok (.ireturn, 1) := by decide +kernel
theorem dX11_isPerson_0 : decode cX11_isPerson 0 = .ok (.iload_n 1, 1) := by decide +kernel
theorem dX11_isPerson_1 : decode cX11_isPerson 1 = .ok (.ifCond .lt 17, 3) := by decide +kernel
theorem dX11_isPerson_4 : decode cX11_isPerson 4 = .ok (.iload_n 1, 1) := by decide +kernel
theorem dX11_isPerson_5 : decode cX11_isPerson 5 = .ok (.aload_n 0, 1) := by decide +kernel
theorem dX11_isPerson_6 : decode cX11_isPerson 6 = .ok (.getfield 39, 3) := by decide +kernel
theorem dX11_isPerson_9 : decode cX11_isPerson 9 = .ok (.iconst 1, 1) := by decide +kernel
theorem dX11_isPerson_10 : decode cX11_isPerson 10 = .ok (.iaload, 1) := by decide +kernel
theorem dX11_isPerson_11 : decode cX11_isPerson 11 = .ok (.if_icmp .ge 7, 3) := by decide +kernel
theorem dX11_isPerson_14 : decode cX11_isPerson 14 = .ok (.iconst 1, 1) := by decide +kernel
theorem dX11_isPerson_15 : decode cX11_isPerson 15 = .ok (.goto 4, 3) := by decide +kernel
theorem dX11_isPerson_18 : decode cX11_isPerson 18 = .ok (.iconst 0, 1) := by decide +kernel
theorem dX11_isPerson_19 : decode cX11_isPerson 19 = .ok (.ireturn, 1) := by decide +kernel
theorem dX11_isLamp_0 : decode cX11_isLamp 0 = .ok (.iload_n 1, 1) := by decide +kernel
theorem dX11_isLamp_1 : decode cX11_isLamp 1 = .ok (.ifCond .lt 17, 3) := by decide +kernel
theorem dX11_isLamp_4 : decode cX11_isLamp 4 = .ok (.iload_n 1, 1) := by decide +kernel
theorem dX11_isLamp_5 : decode cX11_isLamp 5 = .ok (.aload_n 0, 1) := by decide +kernel
theorem dX11_isLamp_6 : decode cX11_isLamp 6 = .ok (.getfield 39, 3) := by decide +kernel
theorem dX11_isLamp_9 : decode cX11_isLamp 9 = .ok (.iconst 3, 1) := by decide +kernel
theorem dX11_isLamp_10 : decode cX11_isLamp 10 = .ok (.iaload, 1) := by decide +kernel
theorem dX11_isLamp_11 : decode cX11_isLamp 11 = .ok (.if_icmp .ge 7, 3) := by decide +kernel
theorem dX11_isLamp_14 : decode cX11_isLamp 14 = .ok (.iconst 1, 1) := by decide +kernel
theorem dX11_isLamp_15 : decode cX11_isLamp 15 = .ok (.goto 4, 3) := by decide +kernel
theorem dX11_isLamp_18 : decode cX11_isLamp 18 = .ok (.iconst 0, 1) := by decide +kernel
theorem dX11_isLamp_19 : decode cX11_isLamp 19 = .ok (.ireturn, 1) := by decide +kernel
theorem dX11_personOf_0 : decode cX11_personOf 0 = .ok (.aload_n 0, 1) := by decide +kernel
theorem dX11_personOf_1 : decode cX11_personOf 1 = .ok (.getfield 39, 3) := by decide +kernel
theorem dX11_personOf_4 : decode cX11_personOf 4 = .ok (.bipush 10, 2) := by decide +kernel
theorem dX11_personOf_6 : decode cX11_personOf 6 = .ok (.bipush 6, 2) := by decide +kernel
theorem dX11_personOf_8 : decode cX11_personOf 8 = .ok (.iload_n 1, 1) := by decide +kernel
theorem dX11_personOf_9 : decode cX11_personOf 9 = .ok (.imul, 1) := by decide +kernel
theorem dX11_personOf_10 : decode cX11_personOf 10 = .ok (.iadd, 1) := by decide +kernel
theorem dX11_personOf_11 : decode cX11_personOf 11 = .ok (.iload_n 2, 1) := by decide +kernel
theorem dX11_personOf_12 : decode cX11_personOf 12 = .ok (.iadd, 1) := by decide +kernel
theorem dX11_personOf_13 : decode cX11_personOf 13 = .ok (.iaload, 1) := by decide +kernel
theorem dX11_personOf_14 : decode cX11_personOf 14 = .ok (.ireturn, 1) := by decide +kernel
theorem dX11_worksIn_0 : decode cX11_worksIn 0 = .ok (.iconst 0, 1) := by decide +kernel
theorem dX11_worksIn_1 : decode cX11_worksIn 1 = .ok (.istore_n 3, 1) := by decide +kernel
theorem dX11_worksIn_2 : decode cX11_worksIn 2 = .ok (.iload_n 3, 1) := by decide +kernel
theorem dX11_worksIn_3 : decode cX11_worksIn 3 = .ok (.aload_n 0, 1) := by decide +kernel
theorem dX11_worksIn_4 : decode cX11_worksIn 4 = .ok (.getfield 39, 3) := by decide +kernel
theorem dX11_worksIn_7 : decode cX11_worksIn 7 = .ok (.iconst 2, 1) := by decide +kernel
theorem dX11_worksIn_8 : decode cX11_worksIn 8 = .ok (.iaload, 1) := by decide +kernel
theorem dX11_worksIn_9 : decode cX11_worksIn 9 = .ok (.if_icmp .ge 56, 3) := by decide +kernel
theorem dX11_worksIn_12 : decode cX11_worksIn 12 = .ok (.bipush 45, 2) := by decide +kernel
theorem dX11_worksIn_14 : decode cX11_worksIn 14 = .ok (.iconst 3, 1) := by decide +kernel
theorem dX11_worksIn_15 : decode cX11_worksIn 15 = .ok (.iload_n 3, 1) := by decide +kernel
theorem dX11_worksIn_16 : decode cX11_worksIn 16 = .ok (.imul, 1) := by decide +kernel
theorem dX11_worksIn_17 : decode cX11_worksIn 17 = .ok (.iadd, 1) := by decide +kernel
theorem dX11_worksIn_18 : decode cX11_worksIn 18 = .ok (.istore 4, 2) := by decide +kernel
theorem dX11_worksIn_20 : decode cX11_worksIn 20 = .ok (.aload_n 0, 1) := by decide +kernel
theorem dX11_worksIn_21 : decode cX11_worksIn 21 = .ok (.getfield 39, 3) := by decide +kernel
theorem dX11_worksIn_24 : decode cX11_worksIn 24 = .ok (.iload 4, 2) := by decide +kernel
theorem dX11_worksIn_26 : decode cX11_worksIn 26 = .ok (.iaload, 1) := by decide +kernel
theorem dX11_worksIn_27 : decode cX11_worksIn 27 = .ok (.iload_n 1, 1) := by decide +kernel
theorem dX11_worksIn_28 : decode cX11_worksIn 28 = .ok (.if_icmp .ne 31, 3) := by decide +kernel
theorem dX11_worksIn_31 : decode cX11_worksIn 31 = .ok (.iload_n 2, 1) := by decide +kernel
theorem dX11_worksIn_32 : decode cX11_worksIn 32 = .ok (.aload_n 0, 1) := by decide +kernel
theorem dX11_worksIn_33 : decode cX11_worksIn 33 = .ok (.getfield 39, 3) := by decide +kernel
theorem dX11_worksIn_36 : decode cX11_worksIn 36 = .ok (.iload 4, 2) := by decide +kernel
theorem dX11_worksIn_38 : decode cX11_worksIn 38 = .ok (.iconst 1, 1) := by decide +kernel
theorem dX11_worksIn_39 : decode cX11_worksIn 39 = .ok (.iadd, 1) := by decide +kernel
theorem dX11_worksIn_40 : decode cX11_worksIn 40 = .ok (.iaload, 1) := by decide +kernel
theorem dX11_worksIn_41 : decode cX11_worksIn 41 = .ok (.if_icmp .lt 18, 3) := by decide +kernel
theorem dX11_worksIn_44 : decode cX11_worksIn 44 = .ok (.iload_n 2, 1) := by decide +kernel
theorem dX11_worksIn_45 : decode cX11_worksIn 45 = .ok (.aload_n 0, 1) := by decide +kernel
theorem dX11_worksIn_46 : decode cX11_worksIn 46 = .ok (.getfield 39, 3) := by decide +kernel
theorem dX11_worksIn_49 : decode cX11_worksIn 49 = .ok (.iload 4, 2) := by decide +kernel
theorem dX11_worksIn_51 : decode cX11_worksIn 51 = .ok (.iconst 2, 1) := by decide +kernel
theorem dX11_worksIn_52 : decode cX11_worksIn 52 = .ok (.iadd, 1) := by decide +kernel
theorem dX11_worksIn_53 : decode cX11_worksIn 53 = .ok (.iaload, 1) := by decide +kernel
theorem dX11_worksIn_54 : decode cX11_worksIn 54 = .ok (.if_icmp .gt 5, 3) := by decide +kernel
theorem dX11_worksIn_57 : decode cX11_worksIn 57 = .ok (.iconst 1, 1) := by decide +kernel
theorem dX11_worksIn_58 : decode cX11_worksIn 58 = .ok (.ireturn, 1) := by decide +kernel
theorem dX11_worksIn_59 : decode cX11_worksIn 59 = .ok (.iinc 3 1, 3) := by decide +kernel
theorem dX11_worksIn_62 : decode cX11_worksIn 62 = .ok (.goto (-60), 3) := by decide +kernel
theorem dX11_worksIn_65 : decode cX11_worksIn 65 = .ok (.iconst 0, 1) := by decide +kernel
theorem dX11_worksIn_66 : decode cX11_worksIn 66 = .ok (.ireturn, 1) := by decide +kernel
theorem dX11_isLitIn_0 : decode cX11_isLitIn 0 = .ok (.iconst 0, 1) := by decide +kernel
theorem dX11_isLitIn_1 : decode cX11_isLitIn 1 = .ok (.istore_n 3, 1) := by decide +kernel
theorem dX11_isLitIn_2 : decode cX11_isLitIn 2 = .ok (.iload_n 3, 1) := by decide +kernel
theorem dX11_isLitIn_3 : decode cX11_isLitIn 3 = .ok (.aload_n 0, 1) := by decide +kernel
theorem dX11_isLitIn_4 : decode cX11_isLitIn 4 = .ok (.getfield 39, 3) := by decide +kernel
theorem dX11_isLitIn_7 : decode cX11_isLitIn 7 = .ok (.iconst 4, 1) := by decide +kernel
theorem dX11_isLitIn_8 : decode cX11_isLitIn 8 = .ok (.iaload, 1) := by decide +kernel
theorem dX11_isLitIn_9 : decode cX11_isLitIn 9 = .ok (.if_icmp .ge 56, 3) := by decide +kernel
theorem dX11_isLitIn_12 : decode cX11_isLitIn 12 = .ok (.bipush 79, 2) := by decide +kernel
theorem dX11_isLitIn_14 : decode cX11_isLitIn 14 = .ok (.iconst 3, 1) := by decide +kernel
theorem dX11_isLitIn_15 : decode cX11_isLitIn 15 = .ok (.iload_n 3, 1) := by decide +kernel
theorem dX11_isLitIn_16 : decode cX11_isLitIn 16 = .ok (.imul, 1) := by decide +kernel
theorem dX11_isLitIn_17 : decode cX11_isLitIn 17 = .ok (.iadd, 1) := by decide +kernel
theorem dX11_isLitIn_18 : decode cX11_isLitIn 18 = .ok (.istore 4, 2) := by decide +kernel
theorem dX11_isLitIn_20 : decode cX11_isLitIn 20 = .ok (.aload_n 0, 1) := by decide +kernel
theorem dX11_isLitIn_21 : decode cX11_isLitIn 21 = .ok (.getfield 39, 3) := by decide +kernel
theorem dX11_isLitIn_24 : decode cX11_isLitIn 24 = .ok (.iload 4, 2) := by decide +kernel
theorem dX11_isLitIn_26 : decode cX11_isLitIn 26 = .ok (.iaload, 1) := by decide +kernel
theorem dX11_isLitIn_27 : decode cX11_isLitIn 27 = .ok (.iload_n 1, 1) := by decide +kernel
theorem dX11_isLitIn_28 : decode cX11_isLitIn 28 = .ok (.if_icmp .ne 31, 3) := by decide +kernel
theorem dX11_isLitIn_31 : decode cX11_isLitIn 31 = .ok (.iload_n 2, 1) := by decide +kernel
theorem dX11_isLitIn_32 : decode cX11_isLitIn 32 = .ok (.aload_n 0, 1) := by decide +kernel
theorem dX11_isLitIn_33 : decode cX11_isLitIn 33 = .ok (.getfield 39, 3) := by decide +kernel
theorem dX11_isLitIn_36 : decode cX11_isLitIn 36 = .ok (.iload 4, 2) := by decide +kernel
theorem dX11_isLitIn_38 : decode cX11_isLitIn 38 = .ok (.iconst 1, 1) := by decide +kernel
theorem dX11_isLitIn_39 : decode cX11_isLitIn 39 = .ok (.iadd, 1) := by decide +kernel
theorem dX11_isLitIn_40 : decode cX11_isLitIn 40 = .ok (.iaload, 1) := by decide +kernel
theorem dX11_isLitIn_41 : decode cX11_isLitIn 41 = .ok (.if_icmp .lt 18, 3) := by decide +kernel
theorem dX11_isLitIn_44 : decode cX11_isLitIn 44 = .ok (.iload_n 2, 1) := by decide +kernel
theorem dX11_isLitIn_45 : decode cX11_isLitIn 45 = .ok (.aload_n 0, 1) := by decide +kernel
theorem dX11_isLitIn_46 : decode cX11_isLitIn 46 = .ok (.getfield 39, 3) := by decide +kernel
theorem dX11_isLitIn_49 : decode cX11_isLitIn 49 = .ok (.iload 4, 2) := by decide +kernel
theorem dX11_isLitIn_51 : decode cX11_isLitIn 51 = .ok (.iconst 2, 1) := by decide +kernel
theorem dX11_isLitIn_52 : decode cX11_isLitIn 52 = .ok (.iadd, 1) := by decide +kernel
theorem dX11_isLitIn_53 : decode cX11_isLitIn 53 = .ok (.iaload, 1) := by decide +kernel
theorem dX11_isLitIn_54 : decode cX11_isLitIn 54 = .ok (.if_icmp .gt 5, 3) := by decide +kernel
theorem dX11_isLitIn_57 : decode cX11_isLitIn 57 = .ok (.iconst 1, 1) := by decide +kernel
theorem dX11_isLitIn_58 : decode cX11_isLitIn 58 = .ok (.ireturn, 1) := by decide +kernel
theorem dX11_isLitIn_59 : decode cX11_isLitIn 59 = .ok (.iinc 3 1, 3) := by decide +kernel
theorem dX11_isLitIn_62 : decode cX11_isLitIn 62 = .ok (.goto (-60), 3) := by decide +kernel
theorem dX11_isLitIn_65 : decode cX11_isLitIn 65 = .ok (.iconst 0, 1) := by decide +kernel
theorem dX11_isLitIn_66 : decode cX11_isLitIn 66 = .ok (.ireturn, 1) := by decide +kernel
theorem dX11_burnsIn_0 : decode cX11_burnsIn 0 = .ok (.aload_n 0, 1) := by decide +kernel
theorem dX11_burnsIn_1 : decode cX11_burnsIn 1 = .ok (.getfield 39, 3) := by decide +kernel
theorem dX11_burnsIn_4 : decode cX11_burnsIn 4 = .ok (.bipush 40, 2) := by decide +kernel
theorem dX11_burnsIn_6 : decode cX11_burnsIn 6 = .ok (.iload_n 1, 1) := by decide +kernel
theorem dX11_burnsIn_7 : decode cX11_burnsIn 7 = .ok (.iadd, 1) := by decide +kernel
theorem dX11_burnsIn_8 : decode cX11_burnsIn 8 = .ok (.iaload, 1) := by decide +kernel
theorem dX11_burnsIn_9 : decode cX11_burnsIn 9 = .ok (.istore_n 3, 1) := by decide +kernel
theorem dX11_burnsIn_10 : decode cX11_burnsIn 10 = .ok (.iload_n 3, 1) := by decide +kernel
theorem dX11_burnsIn_11 : decode cX11_burnsIn 11 = .ok (.iconst 1, 1) := by decide +kernel
theorem dX11_burnsIn_12 : decode cX11_burnsIn 12 = .ok (.if_icmp .eq 16, 3) := by decide +kernel
theorem dX11_burnsIn_15 : decode cX11_burnsIn 15 = .ok (.iload_n 3, 1) := by decide +kernel
theorem dX11_burnsIn_16 : decode cX11_burnsIn 16 = .ok (.ifCond .ne 16, 3) := by decide +kernel
theorem dX11_burnsIn_19 : decode cX11_burnsIn 19 = .ok (.aload_n 0, 1) := by decide +kernel
theorem dX11_burnsIn_20 : decode cX11_burnsIn 20 = .ok (.iload_n 1, 1) := by decide +kernel
theorem dX11_burnsIn_21 : decode cX11_burnsIn 21 = .ok (.iload_n 2, 1) := by decide +kernel
theorem dX11_burnsIn_22 : decode cX11_burnsIn 22 = .ok (.invokevirtual 285, 3) := by decide +kernel
theorem dX11_burnsIn_25 : decode cX11_burnsIn 25 = .ok (.ifCond .eq 7, 3) := by decide +kernel
theorem dX11_burnsIn_28 : decode cX11_burnsIn 28 = .ok (.iconst 1, 1) := by decide +kernel
theorem dX11_burnsIn_29 : decode cX11_burnsIn 29 = .ok (.goto 4, 3) := by decide +kernel
theorem dX11_burnsIn_32 : decode cX11_burnsIn 32 = .ok (.iconst 0, 1) := by decide +kernel
theorem dX11_burnsIn_33 : decode cX11_burnsIn 33 = .ok (.ireturn, 1) := by decide +kernel
theorem dX11_costOf_0 : decode cX11_costOf 0 = .ok (.aload_n 0, 1) := by decide +kernel
theorem dX11_costOf_1 : decode cX11_costOf 1 = .ok (.getfield 39, 3) := by decide +kernel
theorem dX11_costOf_4 : decode cX11_costOf 4 = .ok (.bipush 69, 2) := by decide +kernel
theorem dX11_costOf_6 : decode cX11_costOf 6 = .ok (.iconst 2, 1) := by decide +kernel
theorem dX11_costOf_7 : decode cX11_costOf 7 = .ok (.iload_n 1, 1) := by decide +kernel
theorem dX11_costOf_8 : decode cX11_costOf 8 = .ok (.imul, 1) := by decide +kernel
theorem dX11_costOf_9 : decode cX11_costOf 9 = .ok (.iadd, 1) := by decide +kernel
theorem dX11_costOf_10 : decode cX11_costOf 10 = .ok (.iconst 1, 1) := by decide +kernel
theorem dX11_costOf_11 : decode cX11_costOf 11 = .ok (.iadd, 1) := by decide +kernel
theorem dX11_costOf_12 : decode cX11_costOf 12 = .ok (.iaload, 1) := by decide +kernel
theorem dX11_costOf_13 : decode cX11_costOf 13 = .ok (.ireturn, 1) := by decide +kernel
theorem dX11_costIn_0 : decode cX11_costIn 0 = .ok (.iconst 0, 1) := by decide +kernel
theorem dX11_costIn_1 : decode cX11_costIn 1 = .ok (.istore_n 2, 1) := by decide +kernel
theorem dX11_costIn_2 : decode cX11_costIn 2 = .ok (.iconst 0, 1) := by decide +kernel
theorem dX11_costIn_3 : decode cX11_costIn 3 = .ok (.istore_n 3, 1) := by decide +kernel
theorem dX11_costIn_4 : decode cX11_costIn 4 = .ok (.iload_n 3, 1) := by decide +kernel
theorem dX11_costIn_5 : decode cX11_costIn 5 = .ok (.aload_n 0, 1) := by decide +kernel
theorem dX11_costIn_6 : decode cX11_costIn 6 = .ok (.getfield 39, 3) := by decide +kernel
theorem dX11_costIn_9 : decode cX11_costIn 9 = .ok (.iconst 3, 1) := by decide +kernel
theorem dX11_costIn_10 : decode cX11_costIn 10 = .ok (.iaload, 1) := by decide +kernel
theorem dX11_costIn_11 : decode cX11_costIn 11 = .ok (.if_icmp .ge 30, 3) := by decide +kernel
theorem dX11_costIn_14 : decode cX11_costIn 14 = .ok (.iload_n 2, 1) := by decide +kernel
theorem dX11_costIn_15 : decode cX11_costIn 15 = .ok (.aload_n 0, 1) := by decide +kernel
theorem dX11_costIn_16 : decode cX11_costIn 16 = .ok (.iload_n 3, 1) := by decide +kernel
theorem dX11_costIn_17 : decode cX11_costIn 17 = .ok (.iload_n 1, 1) := by decide +kernel
theorem dX11_costIn_18 : decode cX11_costIn 18 = .ok (.invokevirtual 288, 3) := by decide +kernel
theorem dX11_costIn_21 : decode cX11_costIn 21 = .ok (.ifCond .eq 11, 3) := by decide +kernel
theorem dX11_costIn_24 : decode cX11_costIn 24 = .ok (.aload_n 0, 1) := by decide +kernel
theorem dX11_costIn_25 : decode cX11_costIn 25 = .ok (.iload_n 3, 1) := by decide +kernel
theorem dX11_costIn_26 : decode cX11_costIn 26 = .ok (.invokevirtual 291, 3) := by decide +kernel
theorem dX11_costIn_29 : decode cX11_costIn 29 = .ok (.goto 4, 3) := by decide +kernel
theorem dX11_costIn_32 : decode cX11_costIn 32 = .ok (.iconst 0, 1) := by decide +kernel
theorem dX11_costIn_33 : decode cX11_costIn 33 = .ok (.iadd, 1) := by decide +kernel
theorem dX11_costIn_34 : decode cX11_costIn 34 = .ok (.istore_n 2, 1) := by decide +kernel
theorem dX11_costIn_35 : decode cX11_costIn 35 = .ok (.iinc 3 1, 3) := by decide +kernel
theorem dX11_costIn_38 : decode cX11_costIn 38 = .ok (.goto (-34), 3) := by decide +kernel
theorem dX11_costIn_41 : decode cX11_costIn 41 = .ok (.iload_n 2, 1) := by decide +kernel
theorem dX11_costIn_42 : decode cX11_costIn 42 = .ok (.ireturn, 1) := by decide +kernel
theorem dX11_sleepers_0 : decode cX11_sleepers 0 = .ok (.iconst 0, 1) := by decide +kernel
theorem dX11_sleepers_1 : decode cX11_sleepers 1 = .ok (.istore_n 1, 1) := by decide +kernel
theorem dX11_sleepers_2 : decode cX11_sleepers 2 = .ok (.iconst 0, 1) := by decide +kernel
theorem dX11_sleepers_3 : decode cX11_sleepers 3 = .ok (.istore_n 2, 1) := by decide +kernel
theorem dX11_sleepers_4 : decode cX11_sleepers 4 = .ok (.iload_n 2, 1) := by decide +kernel
theorem dX11_sleepers_5 : decode cX11_sleepers 5 = .ok (.aload_n 0, 1) := by decide +kernel
theorem dX11_sleepers_6 : decode cX11_sleepers 6 = .ok (.getfield 39, 3) := by decide +kernel
theorem dX11_sleepers_9 : decode cX11_sleepers 9 = .ok (.iconst 1, 1) := by decide +kernel
theorem dX11_sleepers_10 : decode cX11_sleepers 10 = .ok (.iaload, 1) := by decide +kernel
theorem dX11_sleepers_11 : decode cX11_sleepers 11 = .ok (.if_icmp .ge 29, 3) := by decide +kernel
theorem dX11_sleepers_14 : decode cX11_sleepers 14 = .ok (.iload_n 1, 1) := by decide +kernel
theorem dX11_sleepers_15 : decode cX11_sleepers 15 = .ok (.aload_n 0, 1) := by decide +kernel
theorem dX11_sleepers_16 : decode cX11_sleepers 16 = .ok (.iload_n 2, 1) := by decide +kernel
theorem dX11_sleepers_17 : decode cX11_sleepers 17 = .ok (.iconst 2, 1) := by decide +kernel
theorem dX11_sleepers_18 : decode cX11_sleepers 18 = .ok (.invokevirtual 294, 3) := by decide +kernel
theorem dX11_sleepers_21 : decode cX11_sleepers 21 = .ok (.iconst 1, 1) := by decide +kernel
theorem dX11_sleepers_22 : decode cX11_sleepers 22 = .ok (.if_icmp .ne 9, 3) := by decide +kernel
theorem dX11_sleepers_25 : decode cX11_sleepers 25 = .ok (.iconst 1, 1) := by decide +kernel
theorem dX11_sleepers_26 : decode cX11_sleepers 26 = .ok (.iload_n 2, 1) := by decide +kernel
theorem dX11_sleepers_27 : decode cX11_sleepers 27 = .ok (.ishl, 1) := by decide +kernel
theorem dX11_sleepers_28 : decode cX11_sleepers 28 = .ok (.goto 4, 3) := by decide +kernel
theorem dX11_sleepers_31 : decode cX11_sleepers 31 = .ok (.iconst 0, 1) := by decide +kernel
theorem dX11_sleepers_32 : decode cX11_sleepers 32 = .ok (.ior, 1) := by decide +kernel
theorem dX11_sleepers_33 : decode cX11_sleepers 33 = .ok (.istore_n 1, 1) := by decide +kernel
theorem dX11_sleepers_34 : decode cX11_sleepers 34 = .ok (.iinc 2 1, 3) := by decide +kernel
theorem dX11_sleepers_37 : decode cX11_sleepers 37 = .ok (.goto (-33), 3) := by decide +kernel
theorem dX11_sleepers_40 : decode cX11_sleepers 40 = .ok (.iload_n 1, 1) := by decide +kernel
theorem dX11_sleepers_41 : decode cX11_sleepers 41 = .ok (.ireturn, 1) := by decide +kernel
theorem dX11_burning_0 : decode cX11_burning 0 = .ok (.iconst 0, 1) := by decide +kernel
theorem dX11_burning_1 : decode cX11_burning 1 = .ok (.istore_n 1, 1) := by decide +kernel
theorem dX11_burning_2 : decode cX11_burning 2 = .ok (.iconst 0, 1) := by decide +kernel
theorem dX11_burning_3 : decode cX11_burning 3 = .ok (.istore_n 2, 1) := by decide +kernel
theorem dX11_burning_4 : decode cX11_burning 4 = .ok (.iload_n 2, 1) := by decide +kernel
theorem dX11_burning_5 : decode cX11_burning 5 = .ok (.aload_n 0, 1) := by decide +kernel
theorem dX11_burning_6 : decode cX11_burning 6 = .ok (.getfield 39, 3) := by decide +kernel
theorem dX11_burning_9 : decode cX11_burning 9 = .ok (.iconst 3, 1) := by decide +kernel
theorem dX11_burning_10 : decode cX11_burning 10 = .ok (.iaload, 1) := by decide +kernel
theorem dX11_burning_11 : decode cX11_burning 11 = .ok (.if_icmp .ge 33, 3) := by decide +kernel
theorem dX11_burning_14 : decode cX11_burning 14 = .ok (.iload_n 1, 1) := by decide +kernel
theorem dX11_burning_15 : decode cX11_burning 15 = .ok (.aload_n 0, 1) := by decide +kernel
theorem dX11_burning_16 : decode cX11_burning 16 = .ok (.iload_n 2, 1) := by decide +kernel
theorem dX11_burning_17 : decode cX11_burning 17 = .ok (.aload_n 0, 1) := by decide +kernel
theorem dX11_burning_18 : decode cX11_burning 18 = .ok (.getfield 39, 3) := by decide +kernel
theorem dX11_burning_21 : decode cX11_burning 21 = .ok (.iconst 5, 1) := by decide +kernel
theorem dX11_burning_22 : decode cX11_burning 22 = .ok (.iaload, 1) := by decide +kernel
theorem dX11_burning_23 : decode cX11_burning 23 = .ok (.invokevirtual 288, 3) := by decide +kernel
theorem dX11_burning_26 : decode cX11_burning 26 = .ok (.ifCond .eq 9, 3) := by decide +kernel
theorem dX11_burning_29 : decode cX11_burning 29 = .ok (.iconst 1, 1) := by decide +kernel
theorem dX11_burning_30 : decode cX11_burning 30 = .ok (.iload_n 2, 1) := by decide +kernel
theorem dX11_burning_31 : decode cX11_burning 31 = .ok (.ishl, 1) := by decide +kernel
theorem dX11_burning_32 : decode cX11_burning 32 = .ok (.goto 4, 3) := by decide +kernel
theorem dX11_burning_35 : decode cX11_burning 35 = .ok (.iconst 0, 1) := by decide +kernel
theorem dX11_burning_36 : decode cX11_burning 36 = .ok (.ior, 1) := by decide +kernel
theorem dX11_burning_37 : decode cX11_burning 37 = .ok (.istore_n 1, 1) := by decide +kernel
theorem dX11_burning_38 : decode cX11_burning 38 = .ok (.iinc 2 1, 3) := by decide +kernel
theorem dX11_burning_41 : decode cX11_burning 41 = .ok (.goto (-37), 3) := by decide +kernel
theorem dX11_burning_44 : decode cX11_burning 44 = .ok (.iload_n 1, 1) := by decide +kernel
theorem dX11_burning_45 : decode cX11_burning 45 = .ok (.ireturn, 1) := by decide +kernel
theorem dX11_idle_0 : decode cX11_idle 0 = .ok (.iconst 0, 1) := by decide +kernel
theorem dX11_idle_1 : decode cX11_idle 1 = .ok (.istore_n 1, 1) := by decide +kernel
theorem dX11_idle_2 : decode cX11_idle 2 = .ok (.iconst 0, 1) := by decide +kernel
theorem dX11_idle_3 : decode cX11_idle 3 = .ok (.istore_n 2, 1) := by decide +kernel
theorem dX11_idle_4 : decode cX11_idle 4 = .ok (.iload_n 2, 1) := by decide +kernel
theorem dX11_idle_5 : decode cX11_idle 5 = .ok (.aload_n 0, 1) := by decide +kernel
theorem dX11_idle_6 : decode cX11_idle 6 = .ok (.getfield 39, 3) := by decide +kernel
theorem dX11_idle_9 : decode cX11_idle 9 = .ok (.iconst 1, 1) := by decide +kernel
theorem dX11_idle_10 : decode cX11_idle 10 = .ok (.iaload, 1) := by decide +kernel
theorem dX11_idle_11 : decode cX11_idle 11 = .ok (.if_icmp .ge 33, 3) := by decide +kernel
theorem dX11_idle_14 : decode cX11_idle 14 = .ok (.iload_n 1, 1) := by decide +kernel
theorem dX11_idle_15 : decode cX11_idle 15 = .ok (.aload_n 0, 1) := by decide +kernel
theorem dX11_idle_16 : decode cX11_idle 16 = .ok (.iload_n 2, 1) := by decide +kernel
theorem dX11_idle_17 : decode cX11_idle 17 = .ok (.aload_n 0, 1) := by decide +kernel
theorem dX11_idle_18 : decode cX11_idle 18 = .ok (.getfield 39, 3) := by decide +kernel
theorem dX11_idle_21 : decode cX11_idle 21 = .ok (.iconst 5, 1) := by decide +kernel
theorem dX11_idle_22 : decode cX11_idle 22 = .ok (.iaload, 1) := by decide +kernel
theorem dX11_idle_23 : decode cX11_idle 23 = .ok (.invokevirtual 298, 3) := by decide +kernel
theorem dX11_idle_26 : decode cX11_idle 26 = .ok (.ifCond .eq 7, 3) := by decide +kernel
theorem dX11_idle_29 : decode cX11_idle 29 = .ok (.iconst 0, 1) := by decide +kernel
theorem dX11_idle_30 : decode cX11_idle 30 = .ok (.goto 6, 3) := by decide +kernel
theorem dX11_idle_33 : decode cX11_idle 33 = .ok (.iconst 1, 1) := by decide +kernel
theorem dX11_idle_34 : decode cX11_idle 34 = .ok (.iload_n 2, 1) := by decide +kernel
theorem dX11_idle_35 : decode cX11_idle 35 = .ok (.ishl, 1) := by decide +kernel
theorem dX11_idle_36 : decode cX11_idle 36 = .ok (.ior, 1) := by decide +kernel
theorem dX11_idle_37 : decode cX11_idle 37 = .ok (.istore_n 1, 1) := by decide +kernel
theorem dX11_idle_38 : decode cX11_idle 38 = .ok (.iinc 2 1, 3) := by decide +kernel
theorem dX11_idle_41 : decode cX11_idle 41 = .ok (.goto (-37), 3) := by decide +kernel
theorem dX11_idle_44 : decode cX11_idle 44 = .ok (.iload_n 1, 1) := by decide +kernel
theorem dX11_idle_45 : decode cX11_idle 45 = .ok (.ireturn, 1) := by decide +kernel
theorem dX11_force_0 : decode cX11_force 0 = .ok (.iload_n 1, 1) := by decide +kernel
theorem dX11_force_1 : decode cX11_force 1 = .ok (.iconst (-1), 1) := by decide +kernel
theorem dX11_force_2 : decode cX11_force 2 = .ok (.if_icmp .eq 14, 3) := by decide +kernel
theorem dX11_force_5 : decode cX11_force 5 = .ok (.aload_n 0, 1) := by decide +kernel
theorem dX11_force_6 : decode cX11_force 6 = .ok (.iload_n 1, 1) := by decide +kernel
theorem dX11_force_7 : decode cX11_force 7 = .ok (.invokevirtual 301, 3) := by decide +kernel
theorem dX11_force_10 : decode cX11_force 10 = .ok (.ifCond .ne 6, 3) := by decide +kernel
theorem dX11_force_13 : decode cX11_force 13 = .ok (.bipush (-2), 2) := by decide +kernel
theorem dX11_force_15 : decode cX11_force 15 = .ok (.ireturn, 1) := by decide +kernel
theorem dX11_force_16 : decode cX11_force 16 = .ok (.aload_n 0, 1) := by decide +kernel
theorem dX11_force_17 : decode cX11_force 17 = .ok (.getfield 42, 3) := by decide +kernel
theorem dX11_force_20 : decode cX11_force 20 = .ok (.istore_n 2, 1) := by decide +kernel
theorem dX11_force_21 : decode cX11_force 21 = .ok (.aload_n 0, 1) := by decide +kernel
theorem dX11_force_22 : decode cX11_force 22 = .ok (.iload_n 1, 1) := by decide +kernel
theorem dX11_force_23 : decode cX11_force 23 = .ok (.putfield 42, 3) := by decide +kernel
theorem dX11_force_26 : decode cX11_force 26 = .ok (.iload_n 2, 1) := by decide +kernel
theorem dX11_force_27 : decode cX11_force 27 = .ok (.ireturn, 1) := by decide +kernel
theorem dX11_person_0 : decode cX11_person 0 = .ok (.aload_n 0, 1) := by decide +kernel
theorem dX11_person_1 : decode cX11_person 1 = .ok (.iload_n 1, 1) := by decide +kernel
theorem dX11_person_2 : decode cX11_person 2 = .ok (.invokevirtual 304, 3) := by decide +kernel
theorem dX11_person_5 : decode cX11_person 5 = .ok (.ifCond .eq 15, 3) := by decide +kernel
theorem dX11_person_8 : decode cX11_person 8 = .ok (.iload_n 2, 1) := by decide +kernel
theorem dX11_person_9 : decode cX11_person 9 = .ok (.i2l, 1) := by decide +kernel
theorem dX11_person_10 : decode cX11_person 10 = .ok (.lconst 0, 1) := by decide +kernel
theorem dX11_person_11 : decode cX11_person 11 = .ok (.ldc2_w 307, 3) := by decide +kernel
theorem dX11_person_14 : decode cX11_person 14 = .ok (.invokestatic 112, 3) := by decide +kernel
theorem dX11_person_17 : decode cX11_person 17 = .ok (.ifCond .ne 5, 3) := by decide +kernel
theorem dX11_person_20 : decode cX11_person 20 = .ok (.iconst (-1), 1) := by decide +kernel
theorem dX11_person_21 : decode cX11_person 21 = .ok (.ireturn, 1) := by decide +kernel
theorem dX11_person_22 : decode cX11_person 22 = .ok (.iload_n 2, 1) := by decide +kernel
theorem dX11_person_23 : decode cX11_person 23 = .ok (.iconst 5, 1) := by decide +kernel
theorem dX11_person_24 : decode cX11_person 24 = .ok (.if_icmp .ge 12, 3) := by decide +kernel
theorem dX11_person_27 : decode cX11_person 27 = .ok (.aload_n 0, 1) := by decide +kernel
theorem dX11_person_28 : decode cX11_person 28 = .ok (.iload_n 1, 1) := by decide +kernel
theorem dX11_person_29 : decode cX11_person 29 = .ok (.iload_n 2, 1) := by decide +kernel
theorem dX11_person_30 : decode cX11_person 30 = .ok (.invokevirtual 294, 3) := by decide +kernel
theorem dX11_person_33 : decode cX11_person 33 = .ok (.goto 22, 3) := by decide +kernel
theorem dX11_person_36 : decode cX11_person 36 = .ok (.aload_n 0, 1) := by decide +kernel
theorem dX11_person_37 : decode cX11_person 37 = .ok (.iload_n 1, 1) := by decide +kernel
theorem dX11_person_38 : decode cX11_person 38 = .ok (.aload_n 0, 1) := by decide +kernel
theorem dX11_person_39 : decode cX11_person 39 = .ok (.getfield 39, 3) := by decide +kernel
theorem dX11_person_42 : decode cX11_person 42 = .ok (.iconst 5, 1) := by decide +kernel
theorem dX11_person_43 : decode cX11_person 43 = .ok (.iaload, 1) := by decide +kernel
theorem dX11_person_44 : decode cX11_person 44 = .ok (.invokevirtual 298, 3) := by decide +kernel
theorem dX11_person_47 : decode cX11_person 47 = .ok (.ifCond .eq 7, 3) := by decide +kernel
theorem dX11_person_50 : decode cX11_person 50 = .ok (.iconst 1, 1) := by decide +kernel
theorem dX11_person_51 : decode cX11_person 51 = .ok (.goto 4, 3) := by decide +kernel
theorem dX11_person_54 : decode cX11_person 54 = .ok (.iconst 0, 1) := by decide +kernel
theorem dX11_person_55 : decode cX11_person 55 = .ok (.ireturn, 1) := by decide +kernel
theorem dX11_lamp_0 : decode cX11_lamp 0 = .ok (.aload_n 0, 1) := by decide +kernel
theorem dX11_lamp_1 : decode cX11_lamp 1 = .ok (.iload_n 1, 1) := by decide +kernel
theorem dX11_lamp_2 : decode cX11_lamp 2 = .ok (.invokevirtual 309, 3) := by decide +kernel
theorem dX11_lamp_5 : decode cX11_lamp 5 = .ok (.ifCond .eq 15, 3) := by decide +kernel
theorem dX11_lamp_8 : decode cX11_lamp 8 = .ok (.iload_n 2, 1) := by decide +kernel
theorem dX11_lamp_9 : decode cX11_lamp 9 = .ok (.i2l, 1) := by decide +kernel
theorem dX11_lamp_10 : decode cX11_lamp 10 = .ok (.lconst 0, 1) := by decide +kernel
theorem dX11_lamp_11 : decode cX11_lamp 11 = .ok (.ldc2_w 312, 3) := by decide +kernel
theorem dX11_lamp_14 : decode cX11_lamp 14 = .ok (.invokestatic 112, 3) := by decide +kernel
theorem dX11_lamp_17 : decode cX11_lamp 17 = .ok (.ifCond .ne 5, 3) := by decide +kernel
theorem dX11_lamp_20 : decode cX11_lamp 20 = .ok (.iconst (-1), 1) := by decide +kernel
theorem dX11_lamp_21 : decode cX11_lamp 21 = .ok (.ireturn, 1) := by decide +kernel
theorem dX11_lamp_22 : decode cX11_lamp 22 = .ok (.iload_n 2, 1) := by decide +kernel
theorem dX11_lamp_23 : decode cX11_lamp 23 = .ok (.iconst 2, 1) := by decide +kernel
theorem dX11_lamp_24 : decode cX11_lamp 24 = .ok (.if_icmp .ge 19, 3) := by decide +kernel
theorem dX11_lamp_27 : decode cX11_lamp 27 = .ok (.aload_n 0, 1) := by decide +kernel
theorem dX11_lamp_28 : decode cX11_lamp 28 = .ok (.getfield 39, 3) := by decide +kernel
theorem dX11_lamp_31 : decode cX11_lamp 31 = .ok (.bipush 69, 2) := by decide +kernel
theorem dX11_lamp_33 : decode cX11_lamp 33 = .ok (.iconst 2, 1) := by decide +kernel
theorem dX11_lamp_34 : decode cX11_lamp 34 = .ok (.iload_n 1, 1) := by decide +kernel
theorem dX11_lamp_35 : decode cX11_lamp 35 = .ok (.imul, 1) := by decide +kernel
theorem dX11_lamp_36 : decode cX11_lamp 36 = .ok (.iadd, 1) := by decide +kernel
theorem dX11_lamp_37 : decode cX11_lamp 37 = .ok (.iload_n 2, 1) := by decide +kernel
theorem dX11_lamp_38 : decode cX11_lamp 38 = .ok (.iadd, 1) := by decide +kernel
theorem dX11_lamp_39 : decode cX11_lamp 39 = .ok (.iaload, 1) := by decide +kernel
theorem dX11_lamp_40 : decode cX11_lamp 40 = .ok (.goto 22, 3) := by decide +kernel
theorem dX11_lamp_43 : decode cX11_lamp 43 = .ok (.aload_n 0, 1) := by decide +kernel
theorem dX11_lamp_44 : decode cX11_lamp 44 = .ok (.iload_n 1, 1) := by decide +kernel
theorem dX11_lamp_45 : decode cX11_lamp 45 = .ok (.aload_n 0, 1) := by decide +kernel
theorem dX11_lamp_46 : decode cX11_lamp 46 = .ok (.getfield 39, 3) := by decide +kernel
theorem dX11_lamp_49 : decode cX11_lamp 49 = .ok (.iconst 5, 1) := by decide +kernel
theorem dX11_lamp_50 : decode cX11_lamp 50 = .ok (.iaload, 1) := by decide +kernel
theorem dX11_lamp_51 : decode cX11_lamp 51 = .ok (.invokevirtual 288, 3) := by decide +kernel
theorem dX11_lamp_54 : decode cX11_lamp 54 = .ok (.ifCond .eq 7, 3) := by decide +kernel
theorem dX11_lamp_57 : decode cX11_lamp 57 = .ok (.iconst 1, 1) := by decide +kernel
theorem dX11_lamp_58 : decode cX11_lamp 58 = .ok (.goto 4, 3) := by decide +kernel
theorem dX11_lamp_61 : decode cX11_lamp 61 = .ok (.iconst 0, 1) := by decide +kernel
theorem dX11_lamp_62 : decode cX11_lamp 62 = .ok (.ireturn, 1) := by decide +kernel
theorem dX11_ownCost_0 : decode cX11_ownCost 0 = .ok (.iconst 0, 1) := by decide +kernel
theorem dX11_ownCost_1 : decode cX11_ownCost 1 = .ok (.istore_n 2, 1) := by decide +kernel
theorem dX11_ownCost_2 : decode cX11_ownCost 2 = .ok (.iconst 0, 1) := by decide +kernel
theorem dX11_ownCost_3 : decode cX11_ownCost 3 = .ok (.istore_n 3, 1) := by decide +kernel
theorem dX11_ownCost_4 : decode cX11_ownCost 4 = .ok (.iload_n 3, 1) := by decide +kernel
theorem dX11_ownCost_5 : decode cX11_ownCost 5 = .ok (.aload_n 0, 1) := by decide +kernel
theorem dX11_ownCost_6 : decode cX11_ownCost 6 = .ok (.getfield 39, 3) := by decide +kernel
theorem dX11_ownCost_9 : decode cX11_ownCost 9 = .ok (.iconst 3, 1) := by decide +kernel
theorem dX11_ownCost_10 : decode cX11_ownCost 10 = .ok (.iaload, 1) := by decide +kernel
theorem dX11_ownCost_11 : decode cX11_ownCost 11 = .ok (.if_icmp .ge 50, 3) := by decide +kernel
theorem dX11_ownCost_14 : decode cX11_ownCost 14 = .ok (.iload_n 2, 1) := by decide +kernel
theorem dX11_ownCost_15 : decode cX11_ownCost 15 = .ok (.aload_n 0, 1) := by decide +kernel
theorem dX11_ownCost_16 : decode cX11_ownCost 16 = .ok (.getfield 39, 3) := by decide +kernel
theorem dX11_ownCost_19 : decode cX11_ownCost 19 = .ok (.bipush 69, 2) := by decide +kernel
theorem dX11_ownCost_21 : decode cX11_ownCost 21 = .ok (.iconst 2, 1) := by decide +kernel
theorem dX11_ownCost_22 : decode cX11_ownCost 22 = .ok (.iload_n 3, 1) := by decide +kernel
theorem dX11_ownCost_23 : decode cX11_ownCost 23 = .ok (.imul, 1) := by decide +kernel
theorem dX11_ownCost_24 : decode cX11_ownCost 24 = .ok (.iadd, 1) := by decide +kernel
theorem dX11_ownCost_25 : decode cX11_ownCost 25 = .ok (.iaload, 1) := by decide +kernel
theorem dX11_ownCost_26 : decode cX11_ownCost 26 = .ok (.iload_n 1, 1) := by decide +kernel
theorem dX11_ownCost_27 : decode cX11_ownCost 27 = .ok (.if_icmp .ne 25, 3) := by decide +kernel
theorem dX11_ownCost_30 : decode cX11_ownCost 30 = .ok (.aload_n 0, 1) := by decide +kernel
theorem dX11_ownCost_31 : decode cX11_ownCost 31 = .ok (.iload_n 3, 1) := by decide +kernel
theorem dX11_ownCost_32 : decode cX11_ownCost 32 = .ok (.aload_n 0, 1) := by decide +kernel
theorem dX11_ownCost_33 : decode cX11_ownCost 33 = .ok (.getfield 39, 3) := by decide +kernel
theorem dX11_ownCost_36 : decode cX11_ownCost 36 = .ok (.iconst 5, 1) := by decide +kernel
theorem dX11_ownCost_37 : decode cX11_ownCost 37 = .ok (.iaload, 1) := by decide +kernel
theorem dX11_ownCost_38 : decode cX11_ownCost 38 = .ok (.invokevirtual 288, 3) := by decide +kernel
theorem dX11_ownCost_41 : decode cX11_ownCost 41 = .ok (.ifCond .eq 11, 3) := by decide +kernel
theorem dX11_ownCost_44 : decode cX11_ownCost 44 = .ok (.aload_n 0, 1) := by decide +kernel
theorem dX11_ownCost_45 : decode cX11_ownCost 45 = .ok (.iload_n 3, 1) := by decide +kernel
theorem dX11_ownCost_46 : decode cX11_ownCost 46 = .ok (.invokevirtual 291, 3) := by decide +kernel
theorem dX11_ownCost_49 : decode cX11_ownCost 49 = .ok (.goto 4, 3) := by decide +kernel
theorem dX11_ownCost_52 : decode cX11_ownCost 52 = .ok (.iconst 0, 1) := by decide +kernel
theorem dX11_ownCost_53 : decode cX11_ownCost 53 = .ok (.iadd, 1) := by decide +kernel
theorem dX11_ownCost_54 : decode cX11_ownCost 54 = .ok (.istore_n 2, 1) := by decide +kernel
theorem dX11_ownCost_55 : decode cX11_ownCost 55 = .ok (.iinc 3 1, 3) := by decide +kernel
theorem dX11_ownCost_58 : decode cX11_ownCost 58 = .ok (.goto (-54), 3) := by decide +kernel
theorem dX11_ownCost_61 : decode cX11_ownCost 61 = .ok (.iload_n 2, 1) := by decide +kernel
theorem dX11_ownCost_62 : decode cX11_ownCost 62 = .ok (.ireturn, 1) := by decide +kernel
set_option maxRecDepth 20000 in
def gX11_isPersonHere_66 (N : Nat)   : Nat → Nat → Int32 → Int32 → SG → Option (Int32 × SG)
  | 0, _, _, _, _ => none
  | n + 1, x0, x2, x3, u => if (6 : Int32) ≤ x3 then (if zK u x0 = 12 then (Option.bind (zR u x0 7) fun q1 => (if zK u q1 = 22 then if zN u q1 ≤ 1 then none else (if zK u q1 = 22 then if zN u q1 ≤ 1 then none else bs (sI u q1 1 ((zI u q1 1) + (1 : Int32))) fun u2 => (some ((1 : Int32), u2)) else none) else none)) else none)
  else (if zK u x0 = 12 then (Option.bind (zR u x0 7) fun q3 => (if zK u q3 = 22 then if (x2 + x3) < 0 ∨ zN u q3 ≤ (x2 + x3).toNatClampNeg then none else bs (sI u q3 (x2 + x3).toNatClampNeg (0 : Int32)) fun u4 => ((gX11_isPersonHere_66 N  n) x0 x2 (x3 + (1 : Int32)) u4) else none)) else none)
set_option maxRecDepth 20000 in
set_option maxHeartbeats 4000000 in
theorem jgX11_isPersonHere_66   {X : XT} (hX : Cx X yX11_isPersonHere cX11_isPersonHere 4 (some .boolean) 4 0 0) (N : Nat)  : ∀ (n : Nat) (x0 : Nat) (x2 : Int32) (x3 : Int32) (u : SG), JF X True 4 0 0 (jQ X vI 0 0) 66 [(0, .ref x0), (2, .int x2), (3, .int x3)] [] u (gX11_isPersonHere_66 N   n x0 x2 x3 u) := by
  intro n
  induction n with
  | zero => intros; intro r u9 h9; exact absurd h9 (by simp [gX11_isPersonHere_66])
  | succ n ih =>
    intro x0 x2 x3 u
    have hrec66 := ih
    rw [gX11_isPersonHere_66]
    refine jf_iload_n hX dX11_isPersonHere_66 2 rfl ?_
    refine jf_bipush (v := 6) hX dX11_isPersonHere_67 (by decide) ?_
    refine jf_icmp_ge (tgt := 87) hX dX11_isPersonHere_69 (by decide) ?_ ?_
    · refine jf_aload_n hX dX11_isPersonHere_87 0 rfl ?_
      refine jf_getR hX ck_X11 7 wfl_26 (by decide) rfl dX11_isPersonHere_88 ?_
      refine jf_nn (fun q1 => ?_)
      refine jf_iconst (v := 1) hX dX11_isPersonHere_91 (by decide) ?_
      refine jf_dup2_11 hX dX11_isPersonHere_92 rfl rfl ?_
      refine jf_ialdc 1 hX (by decide) (by decide) dX11_isPersonHere_93 ?_
      refine jf_iconst (v := 1) hX dX11_isPersonHere_94 (by decide) ?_
      refine jf_iadd hX dX11_isPersonHere_95 ?_
      refine jf_iastc 1 hX trivial (by decide) (by decide) dX11_isPersonHere_96 (fun u2 => ?_)
      refine jf_iconst (v := 1) hX dX11_isPersonHere_97 (by decide) ?_
      exact jf_zretc hX rfl (by decide) (by decide) (by decide) dX11_isPersonHere_98
    · refine jf_aload_n hX dX11_isPersonHere_72 0 rfl ?_
      refine jf_getR hX ck_X11 7 wfl_26 (by decide) rfl dX11_isPersonHere_73 ?_
      refine jf_nn (fun q3 => ?_)
      refine jf_iload_n hX dX11_isPersonHere_76 1 rfl ?_
      refine jf_iload_n hX dX11_isPersonHere_77 2 rfl ?_
      refine jf_iadd hX dX11_isPersonHere_78 ?_
      refine jf_iconst (v := 0) hX dX11_isPersonHere_79 (by decide) ?_
      refine jf_iast hX trivial dX11_isPersonHere_80 (fun u4 => ?_)
      refine jf_iinc (v := 1) (lv' := [(3, .int (x3 + (1 : Int32))), (0, .ref x0), (2, .int x2)]) hX dX11_isPersonHere_81 2 rfl (by decide) (by decide) rfl ?_
      refine jf_goto (tgt := 66) hX dX11_isPersonHere_84 (by decide) ?_
      refine jf_lv [1, 2, 0] rfl ?_
      exact hrec66 x0 x2 (x3 + (1 : Int32)) u4
set_option maxRecDepth 20000 in
def fX11_isPersonHere (N : Nat)  (a0 : Nat) (p1 : Int32) (u : SG) : Option (Int32 × SG) := if zK u a0 = 12 then (Option.bind (zR u a0 7) fun q1 => (if zK u q1 = 22 then if zN u q1 ≤ 1 then none else (if (zI u q1 1) = (5 : Int32) then (if zK u a0 = 12 then cl (fX11_fails N a0 (4 : Int32) p1 u) fun r11 u12 => (if r11 = 0 ∨ r11 = 1 then some (r11, u12) else none) else none)
  else (if zK u a0 = 12 then cl (fX11_passWord N a0 u) fun r2 u3 => (if zK u3 a0 = 12 then (Option.bind (zR u3 a0 7) fun q4 => (if zK u3 q4 = 22 then if zN u3 q4 ≤ 1 then none else (bs ((10 : Int32) + ((6 : Int32) * (zI u3 q4 1))) fun v5 => (if zK u3 a0 = 12 then (Option.bind (zR u3 a0 7) fun q6 => (if zK u3 q6 = 22 then if zN u3 q6 ≤ 0 then none else (if zK u3 a0 = 12 then cl (fX11_cellHere N a0 v5 (0 : Int32) (zI u3 q6 0) u3) fun r7 u8 => (if r7 = 0 then (some ((0 : Int32), u8))
  else (if zK u8 a0 = 12 then cl (fX11_cellHere N a0 (v5 + (1 : Int32)) (0 : Int32) (60 : Int32) u8) fun r9 u10 => (if r9 = 0 then (some ((0 : Int32), u10))
  else (gX11_isPersonHere_66 N  N a0 v5 (2 : Int32) u10)) else none)) else none) else none)) else none)) else none)) else none) else none)) else none)) else none
set_option maxRecDepth 20000 in
set_option maxHeartbeats 4000000 in
theorem kX11_isPersonHere  (N : Nat)  (l : Launch) (D : va_G) (cT : Nat → ClassId) (z0 : Nat) (ks : Nat × Nat) (a0 : Nat) (p1 : Int32) (u : SG) : Ct l D cT z0 ks yX11_isPersonHere cX11_isPersonHere 4 (some .boolean) 4 0 0 vI [.ref a0, .int p1] u (fX11_isPersonHere N  a0 p1 u) := by
  unfold fX11_isPersonHere
  refine ct_of (by decide +kernel) (Nat.le_of_ble_eq_true rfl) (fun p e R s m args below meth c hX => ?_)
  show JF _ True 4 0 0 _ 0 [(0, .ref a0), (1, .int p1)] [] u _
  refine jf_aload_n hX dX11_isPersonHere_0 0 rfl ?_
  refine jf_getR hX ck_X11 7 wfl_26 (by decide) rfl dX11_isPersonHere_1 ?_
  refine jf_nn (fun q1 => ?_)
  refine jf_iconst (v := 1) hX dX11_isPersonHere_4 (by decide) ?_
  refine jf_ialdc 1 hX (by decide) (by decide) dX11_isPersonHere_5 ?_
  refine jf_iconst (v := 5) hX dX11_isPersonHere_6 (by decide) ?_
  refine jf_icmp_ne (tgt := 17) hX dX11_isPersonHere_7 (by decide) ?_ ?_
  · refine jf_aload_n hX dX11_isPersonHere_17 0 rfl ?_
    refine jf_callV (As := []) (st := []) hX mo_X11_passWord wml_58 winst_59 wsel_60 11 ck_X11 rfl (fun l D cT z0 ks => kX11_passWord N l D cT z0 ks a0 u) (by decide) (by decide) (by decide) (by decide) (Nat.le_of_ble_eq_true rfl) rfl rfl dX11_isPersonHere_18 (fun r2 u3 => ?_)
    refine jf_bipush (v := 10) hX dX11_isPersonHere_21 (by decide) ?_
    refine jf_bipush (v := 6) hX dX11_isPersonHere_23 (by decide) ?_
    refine jf_aload_n hX dX11_isPersonHere_25 0 rfl ?_
    refine jf_getR hX ck_X11 7 wfl_26 (by decide) rfl dX11_isPersonHere_26 ?_
    refine jf_nn (fun q4 => ?_)
    refine jf_iconst (v := 1) hX dX11_isPersonHere_29 (by decide) ?_
    refine jf_ialdc 1 hX (by decide) (by decide) dX11_isPersonHere_30 ?_
    refine jf_imul hX dX11_isPersonHere_31 ?_
    refine jf_iadd hX dX11_isPersonHere_32 ?_
    refine jf_nmI (fun v5 => ?_)
    refine jf_istore_n (lv' := [(2, .int v5), (0, .ref a0), (1, .int p1)]) hX dX11_isPersonHere_33 rfl (by decide) rfl ?_
    refine jf_aload_n hX dX11_isPersonHere_34 1 rfl ?_
    refine jf_iload_n hX dX11_isPersonHere_35 0 rfl ?_
    refine jf_iconst (v := 0) hX dX11_isPersonHere_36 (by decide) ?_
    refine jf_aload_n hX dX11_isPersonHere_37 1 rfl ?_
    refine jf_getR hX ck_X11 7 wfl_26 (by decide) rfl dX11_isPersonHere_38 ?_
    refine jf_nn (fun q6 => ?_)
    refine jf_iconst (v := 0) hX dX11_isPersonHere_41 (by decide) ?_
    refine jf_ialdc 0 hX (by decide) (by decide) dX11_isPersonHere_42 ?_
    refine jf_callV (As := [.int v5, .int (0 : Int32), .int (zI u3 q6 0)]) (st := []) hX mo_X11_cellHere wml_139 winst_140 wsel_141 11 ck_X11 rfl (fun l D cT z0 ks => kX11_cellHere N l D cT z0 ks a0 v5 (0 : Int32) (zI u3 q6 0) u3) (by decide) (by decide) (by decide) (by decide) (Nat.le_of_ble_eq_true rfl) rfl rfl dX11_isPersonHere_43 (fun r7 u8 => ?_)
    refine jf_if_eq (tgt := 62) hX dX11_isPersonHere_46 (by decide) ?_ ?_
    · refine jf_iconst (v := 0) hX dX11_isPersonHere_62 (by decide) ?_
      exact jf_zretc hX rfl (by decide) (by decide) (by decide) dX11_isPersonHere_63
    · refine jf_aload_n hX dX11_isPersonHere_49 1 rfl ?_
      refine jf_iload_n hX dX11_isPersonHere_50 0 rfl ?_
      refine jf_iconst (v := 1) hX dX11_isPersonHere_51 (by decide) ?_
      refine jf_iadd hX dX11_isPersonHere_52 ?_
      refine jf_iconst (v := 0) hX dX11_isPersonHere_53 (by decide) ?_
      refine jf_bipush (v := 60) hX dX11_isPersonHere_54 (by decide) ?_
      refine jf_callV (As := [.int (v5 + (1 : Int32)), .int (0 : Int32), .int (60 : Int32)]) (st := []) hX mo_X11_cellHere wml_139 winst_140 wsel_141 11 ck_X11 rfl (fun l D cT z0 ks => kX11_cellHere N l D cT z0 ks a0 (v5 + (1 : Int32)) (0 : Int32) (60 : Int32) u8) (by decide) (by decide) (by decide) (by decide) (Nat.le_of_ble_eq_true rfl) rfl rfl dX11_isPersonHere_56 (fun r9 u10 => ?_)
      refine jf_if_ne (tgt := 64) hX dX11_isPersonHere_59 (by decide) ?_ ?_
      · refine jf_iconst (v := 2) hX dX11_isPersonHere_64 (by decide) ?_
        refine jf_istore_n (lv' := [(3, .int (2 : Int32)), (2, .int v5), (0, .ref a0), (1, .int p1)]) hX dX11_isPersonHere_65 rfl (by decide) rfl ?_
        refine jf_lv [2, 1, 0] rfl ?_
        exact jgX11_isPersonHere_66 hX N  N a0 v5 (2 : Int32) u10
      · refine jf_iconst (v := 0) hX dX11_isPersonHere_62 (by decide) ?_
        exact jf_zretc hX rfl (by decide) (by decide) (by decide) dX11_isPersonHere_63
  · refine jf_aload_n hX dX11_isPersonHere_10 0 rfl ?_
    refine jf_iconst (v := 4) hX dX11_isPersonHere_11 (by decide) ?_
    refine jf_iload_n hX dX11_isPersonHere_12 1 rfl ?_
    refine jf_callV (As := [.int (4 : Int32), .int p1]) (st := []) hX mo_X11_fails wml_64 winst_65 wsel_66 11 ck_X11 rfl (fun l D cT z0 ks => kX11_fails N l D cT z0 ks a0 (4 : Int32) p1 u) (by decide) (by decide) (by decide) (by decide) (Nat.le_of_ble_eq_true rfl) rfl rfl dX11_isPersonHere_13 (fun r11 u12 => ?_)
    exact jf_zret hX rfl (by decide) (by decide) dX11_isPersonHere_16
set_option maxRecDepth 20000 in
def fX11_isSpanHere (N : Nat)  (a0 : Nat) (p1 : Int32) (p2 : Int32) (u : SG) : Option (Int32 × SG) := if zK u a0 = 12 then cl (fX11_passWord N a0 u) fun r1 u2 => (if zK u2 a0 = 12 then cl (fX11_cellHere N a0 p1 (0 : Int32) (p2 - (1 : Int32)) u2) fun r3 u4 => (if r3 = 0 then (some ((0 : Int32), u4))
  else (if zK u4 a0 = 12 then (Option.bind (zR u4 a0 7) fun q5 => (if zK u4 q5 = 22 then if zN u4 q5 ≤ 0 then none else (if zK u4 a0 = 12 then cl (fX11_cellHere N a0 (p1 + (1 : Int32)) (0 : Int32) ((zI u4 q5 0) - (1 : Int32)) u4) fun r6 u7 => (if r6 = 0 then (some ((0 : Int32), u7))
  else (if zK u7 a0 = 12 then (Option.bind (zR u7 a0 7) fun q8 => (if zK u7 q8 = 22 then if (p1 + (1 : Int32)) < 0 ∨ zN u7 q8 ≤ (p1 + (1 : Int32)).toNatClampNeg then none else (if zK u7 a0 = 12 then (Option.bind (zR u7 a0 7) fun q9 => (if zK u7 q9 = 22 then if zN u7 q9 ≤ 0 then none else (if zK u7 a0 = 12 then cl (fX11_cellHere N a0 (p1 + (2 : Int32)) (zI u7 q8 (p1 + (1 : Int32)).toNatClampNeg) ((zI u7 q9 0) - (1 : Int32)) u7) fun r10 u11 => (if r10 = 0 then (some ((0 : Int32), u11))
  else (some ((1 : Int32), u11))) else none) else none)) else none) else none)) else none)) else none) else none)) else none)) else none) else none
set_option maxRecDepth 20000 in
set_option maxHeartbeats 4000000 in
theorem kX11_isSpanHere  (N : Nat)  (l : Launch) (D : va_G) (cT : Nat → ClassId) (z0 : Nat) (ks : Nat × Nat) (a0 : Nat) (p1 : Int32) (p2 : Int32) (u : SG) : Ct l D cT z0 ks yX11_isSpanHere cX11_isSpanHere 3 (some .boolean) 4 0 0 vI [.ref a0, .int p1, .int p2] u (fX11_isSpanHere N  a0 p1 p2 u) := by
  unfold fX11_isSpanHere
  refine ct_of (by decide +kernel) (Nat.le_of_ble_eq_true rfl) (fun p e R s m args below meth c hX => ?_)
  show JF _ True 3 0 0 _ 0 [(0, .ref a0), (1, .int p1), (2, .int p2)] [] u _
  refine jf_aload_n hX dX11_isSpanHere_0 0 rfl ?_
  refine jf_callV (As := []) (st := []) hX mo_X11_passWord wml_58 winst_59 wsel_60 11 ck_X11 rfl (fun l D cT z0 ks => kX11_passWord N l D cT z0 ks a0 u) (by decide) (by decide) (by decide) (by decide) (Nat.le_of_ble_eq_true rfl) rfl rfl dX11_isSpanHere_1 (fun r1 u2 => ?_)
  refine jf_aload_n hX dX11_isSpanHere_4 0 rfl ?_
  refine jf_iload_n hX dX11_isSpanHere_5 1 rfl ?_
  refine jf_iconst (v := 0) hX dX11_isSpanHere_6 (by decide) ?_
  refine jf_iload_n hX dX11_isSpanHere_7 2 rfl ?_
  refine jf_iconst (v := 1) hX dX11_isSpanHere_8 (by decide) ?_
  refine jf_isub hX dX11_isSpanHere_9 ?_
  refine jf_callV (As := [.int p1, .int (0 : Int32), .int (p2 - (1 : Int32))]) (st := []) hX mo_X11_cellHere wml_139 winst_140 wsel_141 11 ck_X11 rfl (fun l D cT z0 ks => kX11_cellHere N l D cT z0 ks a0 p1 (0 : Int32) (p2 - (1 : Int32)) u2) (by decide) (by decide) (by decide) (by decide) (Nat.le_of_ble_eq_true rfl) rfl rfl dX11_isSpanHere_10 (fun r3 u4 => ?_)
  refine jf_if_eq (tgt := 65) hX dX11_isSpanHere_13 (by decide) ?_ ?_
  · refine jf_iconst (v := 0) hX dX11_isSpanHere_65 (by decide) ?_
    exact jf_zretc hX rfl (by decide) (by decide) (by decide) dX11_isSpanHere_66
  · refine jf_aload_n hX dX11_isSpanHere_16 0 rfl ?_
    refine jf_iload_n hX dX11_isSpanHere_17 1 rfl ?_
    refine jf_iconst (v := 1) hX dX11_isSpanHere_18 (by decide) ?_
    refine jf_iadd hX dX11_isSpanHere_19 ?_
    refine jf_iconst (v := 0) hX dX11_isSpanHere_20 (by decide) ?_
    refine jf_aload_n hX dX11_isSpanHere_21 0 rfl ?_
    refine jf_getR hX ck_X11 7 wfl_26 (by decide) rfl dX11_isSpanHere_22 ?_
    refine jf_nn (fun q5 => ?_)
    refine jf_iconst (v := 0) hX dX11_isSpanHere_25 (by decide) ?_
    refine jf_ialdc 0 hX (by decide) (by decide) dX11_isSpanHere_26 ?_
    refine jf_iconst (v := 1) hX dX11_isSpanHere_27 (by decide) ?_
    refine jf_isub hX dX11_isSpanHere_28 ?_
    refine jf_callV (As := [.int (p1 + (1 : Int32)), .int (0 : Int32), .int ((zI u4 q5 0) - (1 : Int32))]) (st := []) hX mo_X11_cellHere wml_139 winst_140 wsel_141 11 ck_X11 rfl (fun l D cT z0 ks => kX11_cellHere N l D cT z0 ks a0 (p1 + (1 : Int32)) (0 : Int32) ((zI u4 q5 0) - (1 : Int32)) u4) (by decide) (by decide) (by decide) (by decide) (Nat.le_of_ble_eq_true rfl) rfl rfl dX11_isSpanHere_29 (fun r6 u7 => ?_)
    refine jf_if_eq (tgt := 65) hX dX11_isSpanHere_32 (by decide) ?_ ?_
    · refine jf_iconst (v := 0) hX dX11_isSpanHere_65 (by decide) ?_
      exact jf_zretc hX rfl (by decide) (by decide) (by decide) dX11_isSpanHere_66
    · refine jf_aload_n hX dX11_isSpanHere_35 0 rfl ?_
      refine jf_iload_n hX dX11_isSpanHere_36 1 rfl ?_
      refine jf_iconst (v := 2) hX dX11_isSpanHere_37 (by decide) ?_
      refine jf_iadd hX dX11_isSpanHere_38 ?_
      refine jf_aload_n hX dX11_isSpanHere_39 0 rfl ?_
      refine jf_getR hX ck_X11 7 wfl_26 (by decide) rfl dX11_isSpanHere_40 ?_
      refine jf_nn (fun q8 => ?_)
      refine jf_iload_n hX dX11_isSpanHere_43 1 rfl ?_
      refine jf_iconst (v := 1) hX dX11_isSpanHere_44 (by decide) ?_
      refine jf_iadd hX dX11_isSpanHere_45 ?_
      refine jf_iald hX dX11_isSpanHere_46 ?_
      refine jf_aload_n hX dX11_isSpanHere_47 0 rfl ?_
      refine jf_getR hX ck_X11 7 wfl_26 (by decide) rfl dX11_isSpanHere_48 ?_
      refine jf_nn (fun q9 => ?_)
      refine jf_iconst (v := 0) hX dX11_isSpanHere_51 (by decide) ?_
      refine jf_ialdc 0 hX (by decide) (by decide) dX11_isSpanHere_52 ?_
      refine jf_iconst (v := 1) hX dX11_isSpanHere_53 (by decide) ?_
      refine jf_isub hX dX11_isSpanHere_54 ?_
      refine jf_callV (As := [.int (p1 + (2 : Int32)), .int (zI u7 q8 (p1 + (1 : Int32)).toNatClampNeg), .int ((zI u7 q9 0) - (1 : Int32))]) (st := []) hX mo_X11_cellHere wml_139 winst_140 wsel_141 11 ck_X11 rfl (fun l D cT z0 ks => kX11_cellHere N l D cT z0 ks a0 (p1 + (2 : Int32)) (zI u7 q8 (p1 + (1 : Int32)).toNatClampNeg) ((zI u7 q9 0) - (1 : Int32)) u7) (by decide) (by decide) (by decide) (by decide) (Nat.le_of_ble_eq_true rfl) rfl rfl dX11_isSpanHere_55 (fun r10 u11 => ?_)
      refine jf_if_eq (tgt := 65) hX dX11_isSpanHere_58 (by decide) ?_ ?_
      · refine jf_iconst (v := 0) hX dX11_isSpanHere_65 (by decide) ?_
        exact jf_zretc hX rfl (by decide) (by decide) (by decide) dX11_isSpanHere_66
      · refine jf_iconst (v := 1) hX dX11_isSpanHere_61 (by decide) ?_
        refine jf_goto (tgt := 66) hX dX11_isSpanHere_62 (by decide) ?_
        exact jf_zretc hX rfl (by decide) (by decide) (by decide) dX11_isSpanHere_66
set_option maxRecDepth 20000 in
def fX11_isWorkHere (N : Nat)  (a0 : Nat) (p1 : Int32) (u : SG) : Option (Int32 × SG) := if zK u a0 = 12 then (Option.bind (zR u a0 7) fun q1 => (if zK u q1 = 22 then if zN u q1 ≤ 2 then none else (if (zI u q1 2) = (8 : Int32) then (if zK u a0 = 12 then cl (fX11_fails N a0 (4 : Int32) p1 u) fun r8 u9 => (if r8 = 0 ∨ r8 = 1 then some (r8, u9) else none) else none)
  else (if zK u a0 = 12 then (Option.bind (zR u a0 7) fun q2 => (if zK u q2 = 22 then if zN u q2 ≤ 2 then none else (if zK u a0 = 12 then (Option.bind (zR u a0 7) fun q3 => (if zK u q3 = 22 then if zN u q3 ≤ 1 then none else (if zK u a0 = 12 then cl (fX11_isSpanHere N a0 ((45 : Int32) + ((3 : Int32) * (zI u q2 2))) (zI u q3 1) u) fun r4 u5 => (if r4 = 0 then (some ((0 : Int32), u5))
  else (if zK u5 a0 = 12 then (Option.bind (zR u5 a0 7) fun q6 => (if zK u5 q6 = 22 then if zN u5 q6 ≤ 2 then none else (if zK u5 q6 = 22 then if zN u5 q6 ≤ 2 then none else bs (sI u5 q6 2 ((zI u5 q6 2) + (1 : Int32))) fun u7 => (some ((1 : Int32), u7)) else none) else none)) else none)) else none) else none)) else none) else none)) else none)) else none)) else none
set_option maxRecDepth 20000 in
set_option maxHeartbeats 4000000 in
theorem kX11_isWorkHere  (N : Nat)  (l : Launch) (D : va_G) (cT : Nat → ClassId) (z0 : Nat) (ks : Nat × Nat) (a0 : Nat) (p1 : Int32) (u : SG) : Ct l D cT z0 ks yX11_isWorkHere cX11_isWorkHere 2 (some .boolean) 5 0 0 vI [.ref a0, .int p1] u (fX11_isWorkHere N  a0 p1 u) := by
  unfold fX11_isWorkHere
  refine ct_of (by decide +kernel) (Nat.le_of_ble_eq_true rfl) (fun p e R s m args below meth c hX => ?_)
  show JF _ True 2 0 0 _ 0 [(0, .ref a0), (1, .int p1)] [] u _
  refine jf_aload_n hX dX11_isWorkHere_0 0 rfl ?_
  refine jf_getR hX ck_X11 7 wfl_26 (by decide) rfl dX11_isWorkHere_1 ?_
  refine jf_nn (fun q1 => ?_)
  refine jf_iconst (v := 2) hX dX11_isWorkHere_4 (by decide) ?_
  refine jf_ialdc 2 hX (by decide) (by decide) dX11_isWorkHere_5 ?_
  refine jf_bipush (v := 8) hX dX11_isWorkHere_6 (by decide) ?_
  refine jf_icmp_ne (tgt := 18) hX dX11_isWorkHere_8 (by decide) ?_ ?_
  · refine jf_aload_n hX dX11_isWorkHere_18 0 rfl ?_
    refine jf_bipush (v := 45) hX dX11_isWorkHere_19 (by decide) ?_
    refine jf_iconst (v := 3) hX dX11_isWorkHere_21 (by decide) ?_
    refine jf_aload_n hX dX11_isWorkHere_22 0 rfl ?_
    refine jf_getR hX ck_X11 7 wfl_26 (by decide) rfl dX11_isWorkHere_23 ?_
    refine jf_nn (fun q2 => ?_)
    refine jf_iconst (v := 2) hX dX11_isWorkHere_26 (by decide) ?_
    refine jf_ialdc 2 hX (by decide) (by decide) dX11_isWorkHere_27 ?_
    refine jf_imul hX dX11_isWorkHere_28 ?_
    refine jf_iadd hX dX11_isWorkHere_29 ?_
    refine jf_aload_n hX dX11_isWorkHere_30 0 rfl ?_
    refine jf_getR hX ck_X11 7 wfl_26 (by decide) rfl dX11_isWorkHere_31 ?_
    refine jf_nn (fun q3 => ?_)
    refine jf_iconst (v := 1) hX dX11_isWorkHere_34 (by decide) ?_
    refine jf_ialdc 1 hX (by decide) (by decide) dX11_isWorkHere_35 ?_
    refine jf_callV (As := [.int ((45 : Int32) + ((3 : Int32) * (zI u q2 2))), .int (zI u q3 1)]) (st := []) hX mo_X11_isSpanHere wml_142 winst_143 wsel_144 11 ck_X11 rfl (fun l D cT z0 ks => kX11_isSpanHere N l D cT z0 ks a0 ((45 : Int32) + ((3 : Int32) * (zI u q2 2))) (zI u q3 1) u) (by decide) (by decide) (by decide) (by decide) (Nat.le_of_ble_eq_true rfl) rfl rfl dX11_isWorkHere_36 (fun r4 u5 => ?_)
    refine jf_if_ne (tgt := 44) hX dX11_isWorkHere_39 (by decide) ?_ ?_
    · refine jf_aload_n hX dX11_isWorkHere_44 0 rfl ?_
      refine jf_getR hX ck_X11 7 wfl_26 (by decide) rfl dX11_isWorkHere_45 ?_
      refine jf_nn (fun q6 => ?_)
      refine jf_iconst (v := 2) hX dX11_isWorkHere_48 (by decide) ?_
      refine jf_dup2_11 hX dX11_isWorkHere_49 rfl rfl ?_
      refine jf_ialdc 2 hX (by decide) (by decide) dX11_isWorkHere_50 ?_
      refine jf_iconst (v := 1) hX dX11_isWorkHere_51 (by decide) ?_
      refine jf_iadd hX dX11_isWorkHere_52 ?_
      refine jf_iastc 2 hX trivial (by decide) (by decide) dX11_isWorkHere_53 (fun u7 => ?_)
      refine jf_iconst (v := 1) hX dX11_isWorkHere_54 (by decide) ?_
      exact jf_zretc hX rfl (by decide) (by decide) (by decide) dX11_isWorkHere_55
    · refine jf_iconst (v := 0) hX dX11_isWorkHere_42 (by decide) ?_
      exact jf_zretc hX rfl (by decide) (by decide) (by decide) dX11_isWorkHere_43
  · refine jf_aload_n hX dX11_isWorkHere_11 0 rfl ?_
    refine jf_iconst (v := 4) hX dX11_isWorkHere_12 (by decide) ?_
    refine jf_iload_n hX dX11_isWorkHere_13 1 rfl ?_
    refine jf_callV (As := [.int (4 : Int32), .int p1]) (st := []) hX mo_X11_fails wml_64 winst_65 wsel_66 11 ck_X11 rfl (fun l D cT z0 ks => kX11_fails N l D cT z0 ks a0 (4 : Int32) p1 u) (by decide) (by decide) (by decide) (by decide) (Nat.le_of_ble_eq_true rfl) rfl rfl dX11_isWorkHere_14 (fun r8 u9 => ?_)
    exact jf_zret hX rfl (by decide) (by decide) dX11_isWorkHere_17
set_option maxRecDepth 20000 in
def gX11_isLampHere_89 (N : Nat)   (x0 : Nat) (x3 : Int32) (u : SG) : Option (Int32 × SG) := if zK u x0 = 12 then cl (fX11_cellHere N x0 (x3 + (1 : Int32)) (1 : Int32) (60 : Int32) u) fun r1 u2 => (if r1 = 0 then (some ((0 : Int32), u2))
  else (if zK u2 x0 = 12 then (Option.bind (zR u2 x0 7) fun q3 => (if zK u2 q3 = 22 then if zN u2 q3 ≤ 3 then none else (if zK u2 q3 = 22 then if zN u2 q3 ≤ 3 then none else bs (sI u2 q3 3 ((zI u2 q3 3) + (1 : Int32))) fun u4 => (some ((1 : Int32), u4)) else none) else none)) else none)) else none
set_option maxRecDepth 20000 in
set_option maxHeartbeats 4000000 in
theorem jgX11_isLampHere_89   {X : XT} (hX : Cx X yX11_isLampHere cX11_isLampHere 4 (some .boolean) 4 0 0) (N : Nat)  (x0 : Nat) (x3 : Int32) (u : SG) : JF X True 4 0 0 (jQ X vI 0 0) 89 [(0, .ref x0), (3, .int x3)] [] u (gX11_isLampHere_89 N   x0 x3 u) := by
  unfold gX11_isLampHere_89
  refine jf_aload_n hX dX11_isLampHere_89 0 rfl ?_
  refine jf_iload_n hX dX11_isLampHere_90 1 rfl ?_
  refine jf_iconst (v := 1) hX dX11_isLampHere_91 (by decide) ?_
  refine jf_iadd hX dX11_isLampHere_92 ?_
  refine jf_iconst (v := 1) hX dX11_isLampHere_93 (by decide) ?_
  refine jf_bipush (v := 60) hX dX11_isLampHere_94 (by decide) ?_
  refine jf_callV (As := [.int (x3 + (1 : Int32)), .int (1 : Int32), .int (60 : Int32)]) (st := []) hX mo_X11_cellHere wml_139 winst_140 wsel_141 11 ck_X11 rfl (fun l D cT z0 ks => kX11_cellHere N l D cT z0 ks x0 (x3 + (1 : Int32)) (1 : Int32) (60 : Int32) u) (by decide) (by decide) (by decide) (by decide) (Nat.le_of_ble_eq_true rfl) rfl rfl dX11_isLampHere_96 (fun r1 u2 => ?_)
  refine jf_if_ne (tgt := 104) hX dX11_isLampHere_99 (by decide) ?_ ?_
  · refine jf_aload_n hX dX11_isLampHere_104 0 rfl ?_
    refine jf_getR hX ck_X11 7 wfl_26 (by decide) rfl dX11_isLampHere_105 ?_
    refine jf_nn (fun q3 => ?_)
    refine jf_iconst (v := 3) hX dX11_isLampHere_108 (by decide) ?_
    refine jf_dup2_11 hX dX11_isLampHere_109 rfl rfl ?_
    refine jf_ialdc 3 hX (by decide) (by decide) dX11_isLampHere_110 ?_
    refine jf_iconst (v := 1) hX dX11_isLampHere_111 (by decide) ?_
    refine jf_iadd hX dX11_isLampHere_112 ?_
    refine jf_iastc 3 hX trivial (by decide) (by decide) dX11_isLampHere_113 (fun u4 => ?_)
    refine jf_iconst (v := 1) hX dX11_isLampHere_114 (by decide) ?_
    exact jf_zretc hX rfl (by decide) (by decide) (by decide) dX11_isLampHere_115
  · refine jf_iconst (v := 0) hX dX11_isLampHere_102 (by decide) ?_
    exact jf_zretc hX rfl (by decide) (by decide) (by decide) dX11_isLampHere_103
set_option maxRecDepth 20000 in
def fX11_isLampHere (N : Nat)  (a0 : Nat) (p1 : Int32) (u : SG) : Option (Int32 × SG) := if zK u a0 = 12 then (Option.bind (zR u a0 7) fun q1 => (if zK u q1 = 22 then if zN u q1 ≤ 3 then none else (if (zI u q1 3) = (5 : Int32) then (if zK u a0 = 12 then cl (fX11_fails N a0 (4 : Int32) p1 u) fun r16 u17 => (if r16 = 0 ∨ r16 = 1 then some (r16, u17) else none) else none)
  else (if zK u a0 = 12 then cl (fX11_passWord N a0 u) fun r2 u3 => (if zK u3 a0 = 12 then cl (fX11_see N a0 u3) fun r4 u5 => (if zK u5 a0 = 12 then (bs (zI u5 a0 8) fun v6 => (if zK u5 a0 = 12 then (Option.bind (zR u5 a0 7) fun q7 => (if zK u5 q7 = 22 then if zN u5 q7 ≤ 3 then none else (bs ((69 : Int32) + ((2 : Int32) * (zI u5 q7 3))) fun v8 => (if zK u5 a0 = 12 then cl (fX11_cellHere N a0 v8 (0 : Int32) (9 : Int32) u5) fun r9 u10 => (if r9 = 0 then (some ((0 : Int32), u10))
  else (if zK u10 a0 = 12 then (Option.bind (zR u10 a0 7) fun q11 => (if zK u10 q11 = 22 then if v8 < 0 ∨ zN u10 q11 ≤ v8.toNatClampNeg then none else (if (zI u10 q11 v8.toNatClampNeg) = (9 : Int32) then (gX11_isLampHere_89 N  a0 v8 u10)
  else (if zK u10 a0 = 12 then (Option.bind (zR u10 a0 7) fun q12 => (if zK u10 q12 = 22 then if v8 < 0 ∨ zN u10 q12 ≤ v8.toNatClampNeg then none else (if zK u10 a0 = 12 then (Option.bind (zR u10 a0 7) fun q13 => (if zK u10 q13 = 22 then if zN u10 q13 ≤ 1 then none else (if (zI u10 q12 v8.toNatClampNeg) < (zI u10 q13 1) then (gX11_isLampHere_89 N  a0 v8 u10)
  else (if zK u10 a0 = 12 then cl (fX11_fails N a0 (1 : Int32) v6 u10) fun r14 u15 => (if r14 = 0 ∨ r14 = 1 then some (r14, u15) else none) else none)) else none)) else none) else none)) else none)) else none)) else none)) else none)) else none)) else none)) else none) else none) else none)) else none)) else none
set_option maxRecDepth 20000 in
set_option maxHeartbeats 4000000 in
theorem kX11_isLampHere  (N : Nat)  (l : Launch) (D : va_G) (cT : Nat → ClassId) (z0 : Nat) (ks : Nat × Nat) (a0 : Nat) (p1 : Int32) (u : SG) : Ct l D cT z0 ks yX11_isLampHere cX11_isLampHere 4 (some .boolean) 4 0 0 vI [.ref a0, .int p1] u (fX11_isLampHere N  a0 p1 u) := by
  unfold fX11_isLampHere
  refine ct_of (by decide +kernel) (Nat.le_of_ble_eq_true rfl) (fun p e R s m args below meth c hX => ?_)
  show JF _ True 4 0 0 _ 0 [(0, .ref a0), (1, .int p1)] [] u _
  refine jf_aload_n hX dX11_isLampHere_0 0 rfl ?_
  refine jf_getR hX ck_X11 7 wfl_26 (by decide) rfl dX11_isLampHere_1 ?_
  refine jf_nn (fun q1 => ?_)
  refine jf_iconst (v := 3) hX dX11_isLampHere_4 (by decide) ?_
  refine jf_ialdc 3 hX (by decide) (by decide) dX11_isLampHere_5 ?_
  refine jf_iconst (v := 5) hX dX11_isLampHere_6 (by decide) ?_
  refine jf_icmp_ne (tgt := 17) hX dX11_isLampHere_7 (by decide) ?_ ?_
  · refine jf_aload_n hX dX11_isLampHere_17 0 rfl ?_
    refine jf_callV (As := []) (st := []) hX mo_X11_passWord wml_58 winst_59 wsel_60 11 ck_X11 rfl (fun l D cT z0 ks => kX11_passWord N l D cT z0 ks a0 u) (by decide) (by decide) (by decide) (by decide) (Nat.le_of_ble_eq_true rfl) rfl rfl dX11_isLampHere_18 (fun r2 u3 => ?_)
    refine jf_aload_n hX dX11_isLampHere_21 0 rfl ?_
    refine jf_callV (As := []) (st := []) hX mo_X11_see wml_49 winst_50 wsel_51 11 ck_X11 rfl (fun l D cT z0 ks => kX11_see N l D cT z0 ks a0 u3) (by decide) (by decide) (by decide) (by decide) (Nat.le_of_ble_eq_true rfl) rfl rfl dX11_isLampHere_22 (fun r4 u5 => ?_)
    refine jf_pop hX dX11_isLampHere_25 rfl ?_
    refine jf_aload_n hX dX11_isLampHere_26 0 rfl ?_
    refine jf_getI hX ck_X11 8 wfl_48 (by decide) rfl dX11_isLampHere_27 ?_
    refine jf_nmI (fun v6 => ?_)
    refine jf_istore_n (lv' := [(2, .int v6), (0, .ref a0), (1, .int p1)]) hX dX11_isLampHere_30 rfl (by decide) rfl ?_
    refine jf_bipush (v := 69) hX dX11_isLampHere_31 (by decide) ?_
    refine jf_iconst (v := 2) hX dX11_isLampHere_33 (by decide) ?_
    refine jf_aload_n hX dX11_isLampHere_34 1 rfl ?_
    refine jf_getR hX ck_X11 7 wfl_26 (by decide) rfl dX11_isLampHere_35 ?_
    refine jf_nn (fun q7 => ?_)
    refine jf_iconst (v := 3) hX dX11_isLampHere_38 (by decide) ?_
    refine jf_ialdc 3 hX (by decide) (by decide) dX11_isLampHere_39 ?_
    refine jf_imul hX dX11_isLampHere_40 ?_
    refine jf_iadd hX dX11_isLampHere_41 ?_
    refine jf_nmI (fun v8 => ?_)
    refine jf_istore_n (lv' := [(3, .int v8), (2, .int v6), (0, .ref a0), (1, .int p1)]) hX dX11_isLampHere_42 rfl (by decide) rfl ?_
    refine jf_aload_n hX dX11_isLampHere_43 2 rfl ?_
    refine jf_iload_n hX dX11_isLampHere_44 0 rfl ?_
    refine jf_iconst (v := 0) hX dX11_isLampHere_45 (by decide) ?_
    refine jf_bipush (v := 9) hX dX11_isLampHere_46 (by decide) ?_
    refine jf_callV (As := [.int v8, .int (0 : Int32), .int (9 : Int32)]) (st := []) hX mo_X11_cellHere wml_139 winst_140 wsel_141 11 ck_X11 rfl (fun l D cT z0 ks => kX11_cellHere N l D cT z0 ks a0 v8 (0 : Int32) (9 : Int32) u5) (by decide) (by decide) (by decide) (by decide) (Nat.le_of_ble_eq_true rfl) rfl rfl dX11_isLampHere_48 (fun r9 u10 => ?_)
    refine jf_if_ne (tgt := 56) hX dX11_isLampHere_51 (by decide) ?_ ?_
    · refine jf_aload_n hX dX11_isLampHere_56 2 rfl ?_
      refine jf_getR hX ck_X11 7 wfl_26 (by decide) rfl dX11_isLampHere_57 ?_
      refine jf_nn (fun q11 => ?_)
      refine jf_iload_n hX dX11_isLampHere_60 0 rfl ?_
      refine jf_iald hX dX11_isLampHere_61 ?_
      refine jf_bipush (v := 9) hX dX11_isLampHere_62 (by decide) ?_
      refine jf_icmp_eq (tgt := 89) hX dX11_isLampHere_64 (by decide) ?_ ?_
      · refine jf_lv [2, 0] rfl ?_
        exact jgX11_isLampHere_89 hX N  a0 v8 u10
      · refine jf_aload_n hX dX11_isLampHere_67 2 rfl ?_
        refine jf_getR hX ck_X11 7 wfl_26 (by decide) rfl dX11_isLampHere_68 ?_
        refine jf_nn (fun q12 => ?_)
        refine jf_iload_n hX dX11_isLampHere_71 0 rfl ?_
        refine jf_iald hX dX11_isLampHere_72 ?_
        refine jf_aload_n hX dX11_isLampHere_73 2 rfl ?_
        refine jf_getR hX ck_X11 7 wfl_26 (by decide) rfl dX11_isLampHere_74 ?_
        refine jf_nn (fun q13 => ?_)
        refine jf_iconst (v := 1) hX dX11_isLampHere_77 (by decide) ?_
        refine jf_ialdc 1 hX (by decide) (by decide) dX11_isLampHere_78 ?_
        refine jf_icmp_lt (tgt := 89) hX dX11_isLampHere_79 (by decide) ?_ ?_
        · refine jf_lv [2, 0] rfl ?_
          exact jgX11_isLampHere_89 hX N  a0 v8 u10
        · refine jf_aload_n hX dX11_isLampHere_82 2 rfl ?_
          refine jf_iconst (v := 1) hX dX11_isLampHere_83 (by decide) ?_
          refine jf_iload_n hX dX11_isLampHere_84 1 rfl ?_
          refine jf_callV (As := [.int (1 : Int32), .int v6]) (st := []) hX mo_X11_fails wml_64 winst_65 wsel_66 11 ck_X11 rfl (fun l D cT z0 ks => kX11_fails N l D cT z0 ks a0 (1 : Int32) v6 u10) (by decide) (by decide) (by decide) (by decide) (Nat.le_of_ble_eq_true rfl) rfl rfl dX11_isLampHere_85 (fun r14 u15 => ?_)
          exact jf_zret hX rfl (by decide) (by decide) dX11_isLampHere_88
    · refine jf_iconst (v := 0) hX dX11_isLampHere_54 (by decide) ?_
      exact jf_zretc hX rfl (by decide) (by decide) (by decide) dX11_isLampHere_55
  · refine jf_aload_n hX dX11_isLampHere_10 0 rfl ?_
    refine jf_iconst (v := 4) hX dX11_isLampHere_11 (by decide) ?_
    refine jf_iload_n hX dX11_isLampHere_12 1 rfl ?_
    refine jf_callV (As := [.int (4 : Int32), .int p1]) (st := []) hX mo_X11_fails wml_64 winst_65 wsel_66 11 ck_X11 rfl (fun l D cT z0 ks => kX11_fails N l D cT z0 ks a0 (4 : Int32) p1 u) (by decide) (by decide) (by decide) (by decide) (Nat.le_of_ble_eq_true rfl) rfl rfl dX11_isLampHere_13 (fun r16 u17 => ?_)
    exact jf_zret hX rfl (by decide) (by decide) dX11_isLampHere_16
set_option maxRecDepth 20000 in
def fX11_isLitHere (N : Nat)  (a0 : Nat) (p1 : Int32) (u : SG) : Option (Int32 × SG) := if zK u a0 = 12 then (Option.bind (zR u a0 7) fun q1 => (if zK u q1 = 22 then if zN u q1 ≤ 4 then none else (if (zI u q1 4) = (8 : Int32) then (if zK u a0 = 12 then cl (fX11_fails N a0 (4 : Int32) p1 u) fun r8 u9 => (if r8 = 0 ∨ r8 = 1 then some (r8, u9) else none) else none)
  else (if zK u a0 = 12 then (Option.bind (zR u a0 7) fun q2 => (if zK u q2 = 22 then if zN u q2 ≤ 4 then none else (if zK u a0 = 12 then (Option.bind (zR u a0 7) fun q3 => (if zK u q3 = 22 then if zN u q3 ≤ 3 then none else (if zK u a0 = 12 then cl (fX11_isSpanHere N a0 ((79 : Int32) + ((3 : Int32) * (zI u q2 4))) (zI u q3 3) u) fun r4 u5 => (if r4 = 0 then (some ((0 : Int32), u5))
  else (if zK u5 a0 = 12 then (Option.bind (zR u5 a0 7) fun q6 => (if zK u5 q6 = 22 then if zN u5 q6 ≤ 4 then none else (if zK u5 q6 = 22 then if zN u5 q6 ≤ 4 then none else bs (sI u5 q6 4 ((zI u5 q6 4) + (1 : Int32))) fun u7 => (some ((1 : Int32), u7)) else none) else none)) else none)) else none) else none)) else none) else none)) else none)) else none)) else none
set_option maxRecDepth 20000 in
set_option maxHeartbeats 4000000 in
theorem kX11_isLitHere  (N : Nat)  (l : Launch) (D : va_G) (cT : Nat → ClassId) (z0 : Nat) (ks : Nat × Nat) (a0 : Nat) (p1 : Int32) (u : SG) : Ct l D cT z0 ks yX11_isLitHere cX11_isLitHere 2 (some .boolean) 5 0 0 vI [.ref a0, .int p1] u (fX11_isLitHere N  a0 p1 u) := by
  unfold fX11_isLitHere
  refine ct_of (by decide +kernel) (Nat.le_of_ble_eq_true rfl) (fun p e R s m args below meth c hX => ?_)
  show JF _ True 2 0 0 _ 0 [(0, .ref a0), (1, .int p1)] [] u _
  refine jf_aload_n hX dX11_isLitHere_0 0 rfl ?_
  refine jf_getR hX ck_X11 7 wfl_26 (by decide) rfl dX11_isLitHere_1 ?_
  refine jf_nn (fun q1 => ?_)
  refine jf_iconst (v := 4) hX dX11_isLitHere_4 (by decide) ?_
  refine jf_ialdc 4 hX (by decide) (by decide) dX11_isLitHere_5 ?_
  refine jf_bipush (v := 8) hX dX11_isLitHere_6 (by decide) ?_
  refine jf_icmp_ne (tgt := 18) hX dX11_isLitHere_8 (by decide) ?_ ?_
  · refine jf_aload_n hX dX11_isLitHere_18 0 rfl ?_
    refine jf_bipush (v := 79) hX dX11_isLitHere_19 (by decide) ?_
    refine jf_iconst (v := 3) hX dX11_isLitHere_21 (by decide) ?_
    refine jf_aload_n hX dX11_isLitHere_22 0 rfl ?_
    refine jf_getR hX ck_X11 7 wfl_26 (by decide) rfl dX11_isLitHere_23 ?_
    refine jf_nn (fun q2 => ?_)
    refine jf_iconst (v := 4) hX dX11_isLitHere_26 (by decide) ?_
    refine jf_ialdc 4 hX (by decide) (by decide) dX11_isLitHere_27 ?_
    refine jf_imul hX dX11_isLitHere_28 ?_
    refine jf_iadd hX dX11_isLitHere_29 ?_
    refine jf_aload_n hX dX11_isLitHere_30 0 rfl ?_
    refine jf_getR hX ck_X11 7 wfl_26 (by decide) rfl dX11_isLitHere_31 ?_
    refine jf_nn (fun q3 => ?_)
    refine jf_iconst (v := 3) hX dX11_isLitHere_34 (by decide) ?_
    refine jf_ialdc 3 hX (by decide) (by decide) dX11_isLitHere_35 ?_
    refine jf_callV (As := [.int ((79 : Int32) + ((3 : Int32) * (zI u q2 4))), .int (zI u q3 3)]) (st := []) hX mo_X11_isSpanHere wml_142 winst_143 wsel_144 11 ck_X11 rfl (fun l D cT z0 ks => kX11_isSpanHere N l D cT z0 ks a0 ((79 : Int32) + ((3 : Int32) * (zI u q2 4))) (zI u q3 3) u) (by decide) (by decide) (by decide) (by decide) (Nat.le_of_ble_eq_true rfl) rfl rfl dX11_isLitHere_36 (fun r4 u5 => ?_)
    refine jf_if_ne (tgt := 44) hX dX11_isLitHere_39 (by decide) ?_ ?_
    · refine jf_aload_n hX dX11_isLitHere_44 0 rfl ?_
      refine jf_getR hX ck_X11 7 wfl_26 (by decide) rfl dX11_isLitHere_45 ?_
      refine jf_nn (fun q6 => ?_)
      refine jf_iconst (v := 4) hX dX11_isLitHere_48 (by decide) ?_
      refine jf_dup2_11 hX dX11_isLitHere_49 rfl rfl ?_
      refine jf_ialdc 4 hX (by decide) (by decide) dX11_isLitHere_50 ?_
      refine jf_iconst (v := 1) hX dX11_isLitHere_51 (by decide) ?_
      refine jf_iadd hX dX11_isLitHere_52 ?_
      refine jf_iastc 4 hX trivial (by decide) (by decide) dX11_isLitHere_53 (fun u7 => ?_)
      refine jf_iconst (v := 1) hX dX11_isLitHere_54 (by decide) ?_
      exact jf_zretc hX rfl (by decide) (by decide) (by decide) dX11_isLitHere_55
    · refine jf_iconst (v := 0) hX dX11_isLitHere_42 (by decide) ?_
      exact jf_zretc hX rfl (by decide) (by decide) (by decide) dX11_isLitHere_43
  · refine jf_aload_n hX dX11_isLitHere_11 0 rfl ?_
    refine jf_iconst (v := 4) hX dX11_isLitHere_12 (by decide) ?_
    refine jf_iload_n hX dX11_isLitHere_13 1 rfl ?_
    refine jf_callV (As := [.int (4 : Int32), .int p1]) (st := []) hX mo_X11_fails wml_64 winst_65 wsel_66 11 ck_X11 rfl (fun l D cT z0 ks => kX11_fails N l D cT z0 ks a0 (4 : Int32) p1 u) (by decide) (by decide) (by decide) (by decide) (Nat.le_of_ble_eq_true rfl) rfl rfl dX11_isLitHere_14 (fun r8 u9 => ?_)
    exact jf_zret hX rfl (by decide) (by decide) dX11_isLitHere_17
set_option maxRecDepth 20000 in
def fX11_streetLineHere (N : Nat)  (a0 : Nat) (p1 : Int32) (u : SG) : Option (Int32 × SG) := if zK u a0 = 12 then cl (fX11_isWord N a0 (126943972648308 : Int64) u) fun r1 u2 => (if r1 = 0 then (if zK u2 a0 = 12 then (Option.bind (zR u2 a0 7) fun q3 => (if zK u2 q3 = 22 then if zN u2 q3 ≤ 0 then none else (if (zI u2 q3 0) = 0 then (if zK u2 a0 = 12 then cl (fX11_fails N a0 (4 : Int32) p1 u2) fun r18 u19 => (if r18 = 0 ∨ r18 = 1 then some (r18, u19) else none) else none)
  else (if zK u2 a0 = 12 then cl (fX11_isWord N a0 (123581014175598 : Int64) u2) fun r4 u5 => (if r4 = 0 then (if zK u5 a0 = 12 then cl (fX11_isWord N a0 (2003792491 : Int64) u5) fun r6 u7 => (if r6 = 0 then (if zK u7 a0 = 12 then cl (fX11_isWord N a0 (1818324336 : Int64) u7) fun r8 u9 => (if r8 = 0 then (if zK u9 a0 = 12 then cl (fX11_isLitHere N a0 p1 u9) fun r10 u11 => (if r10 = 0 ∨ r10 = 1 then some (r10, u11) else none) else none)
  else (if zK u9 a0 = 12 then cl (fX11_isLampHere N a0 p1 u9) fun r12 u13 => (if r12 = 0 ∨ r12 = 1 then some (r12, u13) else none) else none)) else none)
  else (if zK u7 a0 = 12 then cl (fX11_isWorkHere N a0 p1 u7) fun r14 u15 => (if r14 = 0 ∨ r14 = 1 then some (r14, u15) else none) else none)) else none)
  else (if zK u5 a0 = 12 then cl (fX11_isPersonHere N a0 p1 u5) fun r16 u17 => (if r16 = 0 ∨ r16 = 1 then some (r16, u17) else none) else none)) else none)) else none)) else none)
  else (if zK u2 a0 = 12 then cl (fX11_isStreetHere N a0 p1 u2) fun r20 u21 => (if r20 = 0 ∨ r20 = 1 then some (r20, u21) else none) else none)) else none
set_option maxRecDepth 20000 in
set_option maxHeartbeats 4000000 in
theorem kX11_streetLineHere  (N : Nat)  (l : Launch) (D : va_G) (cT : Nat → ClassId) (z0 : Nat) (ks : Nat × Nat) (a0 : Nat) (p1 : Int32) (u : SG) : Ct l D cT z0 ks yX11_streetLineHere cX11_streetLineHere 2 (some .boolean) 6 0 0 vI [.ref a0, .int p1] u (fX11_streetLineHere N  a0 p1 u) := by
  unfold fX11_streetLineHere
  refine ct_of (by decide +kernel) (Nat.le_of_ble_eq_true rfl) (fun p e R s m args below meth c hX => ?_)
  show JF _ True 2 0 0 _ 0 [(0, .ref a0), (1, .int p1)] [] u _
  refine jf_aload_n hX dX11_streetLineHere_0 0 rfl ?_
  refine jf_ldc2 (v := 126943972648308) hX dX11_streetLineHere_1 wconl_145 ?_
  refine jf_callV (As := [.long (126943972648308 : Int64)]) (st := []) hX mo_X11_isWord wml_55 winst_56 wsel_57 11 ck_X11 rfl (fun l D cT z0 ks => kX11_isWord N l D cT z0 ks a0 (126943972648308 : Int64) u) (by decide) (by decide) (by decide) (by decide) (Nat.le_of_ble_eq_true rfl) rfl rfl dX11_streetLineHere_4 (fun r1 u2 => ?_)
  refine jf_if_eq (tgt := 16) hX dX11_streetLineHere_7 (by decide) ?_ ?_
  · refine jf_aload_n hX dX11_streetLineHere_16 0 rfl ?_
    refine jf_getR hX ck_X11 7 wfl_26 (by decide) rfl dX11_streetLineHere_17 ?_
    refine jf_nn (fun q3 => ?_)
    refine jf_iconst (v := 0) hX dX11_streetLineHere_20 (by decide) ?_
    refine jf_ialdc 0 hX (by decide) (by decide) dX11_streetLineHere_21 ?_
    refine jf_if_ne (tgt := 32) hX dX11_streetLineHere_22 (by decide) ?_ ?_
    · refine jf_aload_n hX dX11_streetLineHere_32 0 rfl ?_
      refine jf_ldc2 (v := 123581014175598) hX dX11_streetLineHere_33 wconl_70 ?_
      refine jf_callV (As := [.long (123581014175598 : Int64)]) (st := []) hX mo_X11_isWord wml_55 winst_56 wsel_57 11 ck_X11 rfl (fun l D cT z0 ks => kX11_isWord N l D cT z0 ks a0 (123581014175598 : Int64) u2) (by decide) (by decide) (by decide) (by decide) (Nat.le_of_ble_eq_true rfl) rfl rfl dX11_streetLineHere_36 (fun r4 u5 => ?_)
      refine jf_if_eq (tgt := 48) hX dX11_streetLineHere_39 (by decide) ?_ ?_
      · refine jf_aload_n hX dX11_streetLineHere_48 0 rfl ?_
        refine jf_ldc2 (v := 2003792491) hX dX11_streetLineHere_49 wconl_146 ?_
        refine jf_callV (As := [.long (2003792491 : Int64)]) (st := []) hX mo_X11_isWord wml_55 winst_56 wsel_57 11 ck_X11 rfl (fun l D cT z0 ks => kX11_isWord N l D cT z0 ks a0 (2003792491 : Int64) u5) (by decide) (by decide) (by decide) (by decide) (Nat.le_of_ble_eq_true rfl) rfl rfl dX11_streetLineHere_52 (fun r6 u7 => ?_)
        refine jf_if_eq (tgt := 64) hX dX11_streetLineHere_55 (by decide) ?_ ?_
        · refine jf_aload_n hX dX11_streetLineHere_64 0 rfl ?_
          refine jf_ldc2 (v := 1818324336) hX dX11_streetLineHere_65 wconl_147 ?_
          refine jf_callV (As := [.long (1818324336 : Int64)]) (st := []) hX mo_X11_isWord wml_55 winst_56 wsel_57 11 ck_X11 rfl (fun l D cT z0 ks => kX11_isWord N l D cT z0 ks a0 (1818324336 : Int64) u7) (by decide) (by decide) (by decide) (by decide) (Nat.le_of_ble_eq_true rfl) rfl rfl dX11_streetLineHere_68 (fun r8 u9 => ?_)
          refine jf_if_eq (tgt := 82) hX dX11_streetLineHere_71 (by decide) ?_ ?_
          · refine jf_aload_n hX dX11_streetLineHere_82 0 rfl ?_
            refine jf_iload_n hX dX11_streetLineHere_83 1 rfl ?_
            refine jf_callV (As := [.int p1]) (st := []) hX mo_X11_isLitHere wml_148 winst_149 wsel_150 11 ck_X11 rfl (fun l D cT z0 ks => kX11_isLitHere N l D cT z0 ks a0 p1 u9) (by decide) (by decide) (by decide) (by decide) (Nat.le_of_ble_eq_true rfl) rfl rfl dX11_streetLineHere_84 (fun r10 u11 => ?_)
            exact jf_zret hX rfl (by decide) (by decide) dX11_streetLineHere_87
          · refine jf_aload_n hX dX11_streetLineHere_74 0 rfl ?_
            refine jf_iload_n hX dX11_streetLineHere_75 1 rfl ?_
            refine jf_callV (As := [.int p1]) (st := []) hX mo_X11_isLampHere wml_151 winst_152 wsel_153 11 ck_X11 rfl (fun l D cT z0 ks => kX11_isLampHere N l D cT z0 ks a0 p1 u9) (by decide) (by decide) (by decide) (by decide) (Nat.le_of_ble_eq_true rfl) rfl rfl dX11_streetLineHere_76 (fun r12 u13 => ?_)
            refine jf_goto (tgt := 87) hX dX11_streetLineHere_79 (by decide) ?_
            exact jf_zret hX rfl (by decide) (by decide) dX11_streetLineHere_87
        · refine jf_aload_n hX dX11_streetLineHere_58 0 rfl ?_
          refine jf_iload_n hX dX11_streetLineHere_59 1 rfl ?_
          refine jf_callV (As := [.int p1]) (st := []) hX mo_X11_isWorkHere wml_154 winst_155 wsel_156 11 ck_X11 rfl (fun l D cT z0 ks => kX11_isWorkHere N l D cT z0 ks a0 p1 u7) (by decide) (by decide) (by decide) (by decide) (Nat.le_of_ble_eq_true rfl) rfl rfl dX11_streetLineHere_60 (fun r14 u15 => ?_)
          exact jf_zret hX rfl (by decide) (by decide) dX11_streetLineHere_63
      · refine jf_aload_n hX dX11_streetLineHere_42 0 rfl ?_
        refine jf_iload_n hX dX11_streetLineHere_43 1 rfl ?_
        refine jf_callV (As := [.int p1]) (st := []) hX mo_X11_isPersonHere wml_157 winst_158 wsel_159 11 ck_X11 rfl (fun l D cT z0 ks => kX11_isPersonHere N l D cT z0 ks a0 p1 u5) (by decide) (by decide) (by decide) (by decide) (Nat.le_of_ble_eq_true rfl) rfl rfl dX11_streetLineHere_44 (fun r16 u17 => ?_)
        exact jf_zret hX rfl (by decide) (by decide) dX11_streetLineHere_47
    · refine jf_aload_n hX dX11_streetLineHere_25 0 rfl ?_
      refine jf_iconst (v := 4) hX dX11_streetLineHere_26 (by decide) ?_
      refine jf_iload_n hX dX11_streetLineHere_27 1 rfl ?_
      refine jf_callV (As := [.int (4 : Int32), .int p1]) (st := []) hX mo_X11_fails wml_64 winst_65 wsel_66 11 ck_X11 rfl (fun l D cT z0 ks => kX11_fails N l D cT z0 ks a0 (4 : Int32) p1 u2) (by decide) (by decide) (by decide) (by decide) (Nat.le_of_ble_eq_true rfl) rfl rfl dX11_streetLineHere_28 (fun r18 u19 => ?_)
      exact jf_zret hX rfl (by decide) (by decide) dX11_streetLineHere_31
  · refine jf_aload_n hX dX11_streetLineHere_10 0 rfl ?_
    refine jf_iload_n hX dX11_streetLineHere_11 1 rfl ?_
    refine jf_callV (As := [.int p1]) (st := []) hX mo_X11_isStreetHere wml_160 winst_161 wsel_162 11 ck_X11 rfl (fun l D cT z0 ks => kX11_isStreetHere N l D cT z0 ks a0 p1 u2) (by decide) (by decide) (by decide) (by decide) (Nat.le_of_ble_eq_true rfl) rfl rfl dX11_streetLineHere_12 (fun r20 u21 => ?_)
    exact jf_zret hX rfl (by decide) (by decide) dX11_streetLineHere_15
set_option maxRecDepth 20000 in
def fX11_isStreetWord (N : Nat)  (a0 : Nat) (u : SG) : Option (Int32 × SG) := if zK u a0 = 12 then cl (fX11_isWord N a0 (126943972648308 : Int64) u) fun r1 u2 => (if r1 = 0 then (if zK u2 a0 = 12 then cl (fX11_isWord N a0 (123581014175598 : Int64) u2) fun r3 u4 => (if r3 = 0 then (if zK u4 a0 = 12 then cl (fX11_isWord N a0 (2003792491 : Int64) u4) fun r5 u6 => (if r5 = 0 then (if zK u6 a0 = 12 then cl (fX11_isWord N a0 (1818324336 : Int64) u6) fun r7 u8 => (if r7 = 0 then (if zK u8 a0 = 12 then cl (fX11_isWord N a0 (7104884 : Int64) u8) fun r9 u10 => (if r9 = 0 then (some ((0 : Int32), u10))
  else (some ((1 : Int32), u10))) else none)
  else (some ((1 : Int32), u8))) else none)
  else (some ((1 : Int32), u6))) else none)
  else (some ((1 : Int32), u4))) else none)
  else (some ((1 : Int32), u2))) else none
set_option maxRecDepth 20000 in
set_option maxHeartbeats 4000000 in
theorem kX11_isStreetWord  (N : Nat)  (l : Launch) (D : va_G) (cT : Nat → ClassId) (z0 : Nat) (ks : Nat × Nat) (a0 : Nat) (u : SG) : Ct l D cT z0 ks yX11_isStreetWord cX11_isStreetWord 1 (some .boolean) 3 0 0 vI [.ref a0] u (fX11_isStreetWord N  a0 u) := by
  unfold fX11_isStreetWord
  refine ct_of (by decide +kernel) (Nat.le_of_ble_eq_true rfl) (fun p e R s m args below meth c hX => ?_)
  show JF _ True 1 0 0 _ 0 [(0, .ref a0)] [] u _
  refine jf_aload_n hX dX11_isStreetWord_0 0 rfl ?_
  refine jf_ldc2 (v := 126943972648308) hX dX11_isStreetWord_1 wconl_145 ?_
  refine jf_callV (As := [.long (126943972648308 : Int64)]) (st := []) hX mo_X11_isWord wml_55 winst_56 wsel_57 11 ck_X11 rfl (fun l D cT z0 ks => kX11_isWord N l D cT z0 ks a0 (126943972648308 : Int64) u) (by decide) (by decide) (by decide) (by decide) (Nat.le_of_ble_eq_true rfl) rfl rfl dX11_isStreetWord_4 (fun r1 u2 => ?_)
  refine jf_if_ne (tgt := 50) hX dX11_isStreetWord_7 (by decide) ?_ ?_
  · refine jf_iconst (v := 1) hX dX11_isStreetWord_50 (by decide) ?_
    refine jf_goto (tgt := 55) hX dX11_isStreetWord_51 (by decide) ?_
    exact jf_zretc hX rfl (by decide) (by decide) (by decide) dX11_isStreetWord_55
  · refine jf_aload_n hX dX11_isStreetWord_10 0 rfl ?_
    refine jf_ldc2 (v := 123581014175598) hX dX11_isStreetWord_11 wconl_70 ?_
    refine jf_callV (As := [.long (123581014175598 : Int64)]) (st := []) hX mo_X11_isWord wml_55 winst_56 wsel_57 11 ck_X11 rfl (fun l D cT z0 ks => kX11_isWord N l D cT z0 ks a0 (123581014175598 : Int64) u2) (by decide) (by decide) (by decide) (by decide) (Nat.le_of_ble_eq_true rfl) rfl rfl dX11_isStreetWord_14 (fun r3 u4 => ?_)
    refine jf_if_ne (tgt := 50) hX dX11_isStreetWord_17 (by decide) ?_ ?_
    · refine jf_iconst (v := 1) hX dX11_isStreetWord_50 (by decide) ?_
      refine jf_goto (tgt := 55) hX dX11_isStreetWord_51 (by decide) ?_
      exact jf_zretc hX rfl (by decide) (by decide) (by decide) dX11_isStreetWord_55
    · refine jf_aload_n hX dX11_isStreetWord_20 0 rfl ?_
      refine jf_ldc2 (v := 2003792491) hX dX11_isStreetWord_21 wconl_146 ?_
      refine jf_callV (As := [.long (2003792491 : Int64)]) (st := []) hX mo_X11_isWord wml_55 winst_56 wsel_57 11 ck_X11 rfl (fun l D cT z0 ks => kX11_isWord N l D cT z0 ks a0 (2003792491 : Int64) u4) (by decide) (by decide) (by decide) (by decide) (Nat.le_of_ble_eq_true rfl) rfl rfl dX11_isStreetWord_24 (fun r5 u6 => ?_)
      refine jf_if_ne (tgt := 50) hX dX11_isStreetWord_27 (by decide) ?_ ?_
      · refine jf_iconst (v := 1) hX dX11_isStreetWord_50 (by decide) ?_
        refine jf_goto (tgt := 55) hX dX11_isStreetWord_51 (by decide) ?_
        exact jf_zretc hX rfl (by decide) (by decide) (by decide) dX11_isStreetWord_55
      · refine jf_aload_n hX dX11_isStreetWord_30 0 rfl ?_
        refine jf_ldc2 (v := 1818324336) hX dX11_isStreetWord_31 wconl_147 ?_
        refine jf_callV (As := [.long (1818324336 : Int64)]) (st := []) hX mo_X11_isWord wml_55 winst_56 wsel_57 11 ck_X11 rfl (fun l D cT z0 ks => kX11_isWord N l D cT z0 ks a0 (1818324336 : Int64) u6) (by decide) (by decide) (by decide) (by decide) (Nat.le_of_ble_eq_true rfl) rfl rfl dX11_isStreetWord_34 (fun r7 u8 => ?_)
        refine jf_if_ne (tgt := 50) hX dX11_isStreetWord_37 (by decide) ?_ ?_
        · refine jf_iconst (v := 1) hX dX11_isStreetWord_50 (by decide) ?_
          refine jf_goto (tgt := 55) hX dX11_isStreetWord_51 (by decide) ?_
          exact jf_zretc hX rfl (by decide) (by decide) (by decide) dX11_isStreetWord_55
        · refine jf_aload_n hX dX11_isStreetWord_40 0 rfl ?_
          refine jf_ldc2 (v := 7104884) hX dX11_isStreetWord_41 wconl_163 ?_
          refine jf_callV (As := [.long (7104884 : Int64)]) (st := []) hX mo_X11_isWord wml_55 winst_56 wsel_57 11 ck_X11 rfl (fun l D cT z0 ks => kX11_isWord N l D cT z0 ks a0 (7104884 : Int64) u8) (by decide) (by decide) (by decide) (by decide) (Nat.le_of_ble_eq_true rfl) rfl rfl dX11_isStreetWord_44 (fun r9 u10 => ?_)
          refine jf_if_eq (tgt := 54) hX dX11_isStreetWord_47 (by decide) ?_ ?_
          · refine jf_iconst (v := 0) hX dX11_isStreetWord_54 (by decide) ?_
            exact jf_zretc hX rfl (by decide) (by decide) (by decide) dX11_isStreetWord_55
          · refine jf_iconst (v := 1) hX dX11_isStreetWord_50 (by decide) ?_
            refine jf_goto (tgt := 55) hX dX11_isStreetWord_51 (by decide) ?_
            exact jf_zretc hX rfl (by decide) (by decide) (by decide) dX11_isStreetWord_55
set_option maxRecDepth 20000 in
def gX11_clauseHere_71 (N : Nat)   (x0 : Nat) (x1 : Int32) (x2 : Int32) (s0 : Int32) (s1 : Int32) (u : SG) : Option (Int32 × SG) := if s0 = s1 then (if zK u x0 = 12 then cl (fX11_fails N x0 (4 : Int32) x1 u) fun r6 u7 => (if r6 = 0 ∨ r6 = 1 then some (r6, u7) else none) else none)
  else (if zK u x0 = 12 then (if zK u x0 = 12 then bs (sI u x0 14 ((zI u x0 14) + (1 : Int32))) fun u1 => (if x2 = 0 then (if zK u1 x0 = 12 then cl (fX11_isSleepHere N x0 u1) fun r2 u3 => (if r2 = 0 ∨ r2 = 1 then some (r2, u3) else none) else none)
  else (if zK u1 x0 = 12 then cl (fX11_streetLineHere N x0 x1 u1) fun r4 u5 => (if r4 = 0 ∨ r4 = 1 then some (r4, u5) else none) else none)) else none) else none)
set_option maxRecDepth 20000 in
set_option maxHeartbeats 4000000 in
theorem jgX11_clauseHere_71   {X : XT} (hX : Cx X yX11_clauseHere cX11_clauseHere 3 (some .boolean) 11 0 0) (N : Nat)  (x0 : Nat) (x1 : Int32) (x2 : Int32) (s0 : Int32) (s1 : Int32) (u : SG) : JF X True 3 0 0 (jQ X vI 0 0) 71 [(0, .ref x0), (1, .int x1), (2, .int x2)] [.int s1, .int s0] u (gX11_clauseHere_71 N   x0 x1 x2 s0 s1 u) := by
  unfold gX11_clauseHere_71
  refine jf_icmp_ne (tgt := 81) hX dX11_clauseHere_71 (by decide) ?_ ?_
  · refine jf_aload_n hX dX11_clauseHere_81 0 rfl ?_
    refine jf_dup hX dX11_clauseHere_82 rfl ?_
    refine jf_getI hX ck_X11 14 wfl_168 (by decide) rfl dX11_clauseHere_83 ?_
    refine jf_iconst (v := 1) hX dX11_clauseHere_86 (by decide) ?_
    refine jf_iadd hX dX11_clauseHere_87 ?_
    refine jf_putI hX trivial ck_X11 14 wfl_168 (by decide) rfl rfl rfl dX11_clauseHere_88 (fun u1 => ?_)
    refine jf_iload_n hX dX11_clauseHere_91 2 rfl ?_
    refine jf_if_eq (tgt := 103) hX dX11_clauseHere_92 (by decide) ?_ ?_
    · refine jf_aload_n hX dX11_clauseHere_103 0 rfl ?_
      refine jf_callV (As := []) (st := []) hX mo_X11_isSleepHere wml_169 winst_170 wsel_171 11 ck_X11 rfl (fun l D cT z0 ks => kX11_isSleepHere N l D cT z0 ks x0 u1) (by decide) (by decide) (by decide) (by decide) (Nat.le_of_ble_eq_true rfl) rfl rfl dX11_clauseHere_104 (fun r2 u3 => ?_)
      exact jf_zret hX rfl (by decide) (by decide) dX11_clauseHere_107
    · refine jf_aload_n hX dX11_clauseHere_95 0 rfl ?_
      refine jf_iload_n hX dX11_clauseHere_96 1 rfl ?_
      refine jf_callV (As := [.int x1]) (st := []) hX mo_X11_streetLineHere wml_172 winst_173 wsel_174 11 ck_X11 rfl (fun l D cT z0 ks => kX11_streetLineHere N l D cT z0 ks x0 x1 u1) (by decide) (by decide) (by decide) (by decide) (Nat.le_of_ble_eq_true rfl) rfl rfl dX11_clauseHere_97 (fun r4 u5 => ?_)
      refine jf_goto (tgt := 107) hX dX11_clauseHere_100 (by decide) ?_
      exact jf_zret hX rfl (by decide) (by decide) dX11_clauseHere_107
  · refine jf_aload_n hX dX11_clauseHere_74 0 rfl ?_
    refine jf_iconst (v := 4) hX dX11_clauseHere_75 (by decide) ?_
    refine jf_iload_n hX dX11_clauseHere_76 1 rfl ?_
    refine jf_callV (As := [.int (4 : Int32), .int x1]) (st := []) hX mo_X11_fails wml_64 winst_65 wsel_66 11 ck_X11 rfl (fun l D cT z0 ks => kX11_fails N l D cT z0 ks x0 (4 : Int32) x1 u) (by decide) (by decide) (by decide) (by decide) (Nat.le_of_ble_eq_true rfl) rfl rfl dX11_clauseHere_77 (fun r6 u7 => ?_)
    exact jf_zret hX rfl (by decide) (by decide) dX11_clauseHere_80
set_option maxRecDepth 20000 in
def gX11_clauseHere_56 (N : Nat)   (x0 : Nat) (x1 : Int32) (x2 : Int32) (u : SG) : Option (Int32 × SG) := if zK u x0 = 12 then (if x2 = 0 then (gX11_clauseHere_71 N  x0 x1 x2 (zI u x0 14) (12 : Int32) u)
  else (gX11_clauseHere_71 N  x0 x1 x2 (zI u x0 14) (40 : Int32) u)) else none
set_option maxRecDepth 20000 in
set_option maxHeartbeats 4000000 in
theorem jgX11_clauseHere_56   {X : XT} (hX : Cx X yX11_clauseHere cX11_clauseHere 3 (some .boolean) 11 0 0) (N : Nat)  (x0 : Nat) (x1 : Int32) (x2 : Int32) (u : SG) : JF X True 3 0 0 (jQ X vI 0 0) 56 [(0, .ref x0), (1, .int x1), (2, .int x2)] [] u (gX11_clauseHere_56 N   x0 x1 x2 u) := by
  unfold gX11_clauseHere_56
  refine jf_aload_n hX dX11_clauseHere_56 0 rfl ?_
  refine jf_getI hX ck_X11 14 wfl_168 (by decide) rfl dX11_clauseHere_57 ?_
  refine jf_iload_n hX dX11_clauseHere_60 2 rfl ?_
  refine jf_if_eq (tgt := 69) hX dX11_clauseHere_61 (by decide) ?_ ?_
  · refine jf_bipush (v := 12) hX dX11_clauseHere_69 (by decide) ?_
    refine jf_lv [0, 1, 2] rfl ?_
    exact jgX11_clauseHere_71 hX N  x0 x1 x2 (zI u x0 14) (12 : Int32) u
  · refine jf_bipush (v := 40) hX dX11_clauseHere_64 (by decide) ?_
    refine jf_goto (tgt := 71) hX dX11_clauseHere_66 (by decide) ?_
    refine jf_lv [0, 1, 2] rfl ?_
    exact jgX11_clauseHere_71 hX N  x0 x1 x2 (zI u x0 14) (40 : Int32) u
set_option maxRecDepth 20000 in
def gX11_clauseHere_49 (N : Nat)   (x0 : Nat) (x1 : Int32) (u : SG) : Option (Int32 × SG) := if zK u x0 = 12 then cl (fX11_fails N x0 (0 : Int32) x1 u) fun r1 u2 => (if r1 = 0 ∨ r1 = 1 then some (r1, u2) else none) else none
set_option maxRecDepth 20000 in
set_option maxHeartbeats 4000000 in
theorem jgX11_clauseHere_49   {X : XT} (hX : Cx X yX11_clauseHere cX11_clauseHere 3 (some .boolean) 11 0 0) (N : Nat)  (x0 : Nat) (x1 : Int32) (u : SG) : JF X True 3 0 0 (jQ X vI 0 0) 49 [(0, .ref x0), (1, .int x1)] [] u (gX11_clauseHere_49 N   x0 x1 u) := by
  unfold gX11_clauseHere_49
  refine jf_aload_n hX dX11_clauseHere_49 0 rfl ?_
  refine jf_iconst (v := 0) hX dX11_clauseHere_50 (by decide) ?_
  refine jf_iload_n hX dX11_clauseHere_51 1 rfl ?_
  refine jf_callV (As := [.int (0 : Int32), .int x1]) (st := []) hX mo_X11_fails wml_64 winst_65 wsel_66 11 ck_X11 rfl (fun l D cT z0 ks => kX11_fails N l D cT z0 ks x0 (0 : Int32) x1 u) (by decide) (by decide) (by decide) (by decide) (Nat.le_of_ble_eq_true rfl) rfl rfl dX11_clauseHere_52 (fun r1 u2 => ?_)
  exact jf_zret hX rfl (by decide) (by decide) dX11_clauseHere_55
set_option maxRecDepth 20000 in
def gX11_clauseHere_24 (N : Nat)   (x0 : Nat) (x1 : Int32) (s0 : Int32) (u : SG) : Option (Int32 × SG) := if s0 = 0 then (if zK u x0 = 12 then cl (fX11_isWord N x0 (495739823472 : Int64) u) fun r1 u2 => (if r1 = 0 then (gX11_clauseHere_49 N  x0 x1 u2)
  else (gX11_clauseHere_56 N  x0 x1 s0 u2)) else none)
  else (if zK u x0 = 12 then cl (fX11_isStreetWord N x0 u) fun r3 u4 => (if r3 = 0 then (gX11_clauseHere_49 N  x0 x1 u4)
  else (gX11_clauseHere_56 N  x0 x1 s0 u4)) else none)
set_option maxRecDepth 20000 in
set_option maxHeartbeats 4000000 in
theorem jgX11_clauseHere_24   {X : XT} (hX : Cx X yX11_clauseHere cX11_clauseHere 3 (some .boolean) 11 0 0) (N : Nat)  (x0 : Nat) (x1 : Int32) (s0 : Int32) (u : SG) : JF X True 3 0 0 (jQ X vI 0 0) 24 [(0, .ref x0), (1, .int x1)] [.int s0] u (gX11_clauseHere_24 N   x0 x1 s0 u) := by
  unfold gX11_clauseHere_24
  refine jf_istore_n (lv' := [(2, .int s0), (0, .ref x0), (1, .int x1)]) hX dX11_clauseHere_24 rfl (by decide) rfl ?_
  refine jf_iload_n hX dX11_clauseHere_25 0 rfl ?_
  refine jf_if_eq (tgt := 39) hX dX11_clauseHere_26 (by decide) ?_ ?_
  · refine jf_aload_n hX dX11_clauseHere_39 1 rfl ?_
    refine jf_ldc2 (v := 495739823472) hX dX11_clauseHere_40 wconl_164 ?_
    refine jf_callV (As := [.long (495739823472 : Int64)]) (st := []) hX mo_X11_isWord wml_55 winst_56 wsel_57 11 ck_X11 rfl (fun l D cT z0 ks => kX11_isWord N l D cT z0 ks x0 (495739823472 : Int64) u) (by decide) (by decide) (by decide) (by decide) (Nat.le_of_ble_eq_true rfl) rfl rfl dX11_clauseHere_43 (fun r1 u2 => ?_)
    refine jf_if_ne (tgt := 56) hX dX11_clauseHere_46 (by decide) ?_ ?_
    · refine jf_lv [1, 2, 0] rfl ?_
      exact jgX11_clauseHere_56 hX N  x0 x1 s0 u2
    · refine jf_lv [1, 2] rfl ?_
      exact jgX11_clauseHere_49 hX N  x0 x1 u2
  · refine jf_aload_n hX dX11_clauseHere_29 1 rfl ?_
    refine jf_callV (As := []) (st := []) hX mo_X11_isStreetWord wml_165 winst_166 wsel_167 11 ck_X11 rfl (fun l D cT z0 ks => kX11_isStreetWord N l D cT z0 ks x0 u) (by decide) (by decide) (by decide) (by decide) (Nat.le_of_ble_eq_true rfl) rfl rfl dX11_clauseHere_30 (fun r3 u4 => ?_)
    refine jf_if_ne (tgt := 56) hX dX11_clauseHere_33 (by decide) ?_ ?_
    · refine jf_lv [1, 2, 0] rfl ?_
      exact jgX11_clauseHere_56 hX N  x0 x1 s0 u4
    · refine jf_goto (tgt := 49) hX dX11_clauseHere_36 (by decide) ?_
      refine jf_lv [1, 2] rfl ?_
      exact jgX11_clauseHere_49 hX N  x0 x1 u4
set_option maxRecDepth 20000 in
def fX11_clauseHere (N : Nat)  (a0 : Nat) (u : SG) : Option (Int32 × SG) := if zK u a0 = 12 then cl (fX11_see N a0 u) fun r1 u2 => (if zK u2 a0 = 12 then (bs (zI u2 a0 8) fun v3 => (if zK u2 a0 = 12 then (if (zI u2 a0 11) = (6 : Int32) then (gX11_clauseHere_24 N  a0 v3 (1 : Int32) u2)
  else (gX11_clauseHere_24 N  a0 v3 (0 : Int32) u2)) else none)) else none) else none
set_option maxRecDepth 20000 in
set_option maxHeartbeats 4000000 in
theorem kX11_clauseHere  (N : Nat)  (l : Launch) (D : va_G) (cT : Nat → ClassId) (z0 : Nat) (ks : Nat × Nat) (a0 : Nat) (u : SG) : Ct l D cT z0 ks yX11_clauseHere cX11_clauseHere 3 (some .boolean) 11 0 0 vI [.ref a0] u (fX11_clauseHere N  a0 u) := by
  unfold fX11_clauseHere
  refine ct_of (by decide +kernel) (Nat.le_of_ble_eq_true rfl) (fun p e R s m args below meth c hX => ?_)
  show JF _ True 3 0 0 _ 0 [(0, .ref a0)] [] u _
  refine jf_aload_n hX dX11_clauseHere_0 0 rfl ?_
  refine jf_callV (As := []) (st := []) hX mo_X11_see wml_49 winst_50 wsel_51 11 ck_X11 rfl (fun l D cT z0 ks => kX11_see N l D cT z0 ks a0 u) (by decide) (by decide) (by decide) (by decide) (Nat.le_of_ble_eq_true rfl) rfl rfl dX11_clauseHere_1 (fun r1 u2 => ?_)
  refine jf_pop hX dX11_clauseHere_4 rfl ?_
  refine jf_aload_n hX dX11_clauseHere_5 0 rfl ?_
  refine jf_getI hX ck_X11 8 wfl_48 (by decide) rfl dX11_clauseHere_6 ?_
  refine jf_nmI (fun v3 => ?_)
  refine jf_istore_n (lv' := [(1, .int v3), (0, .ref a0)]) hX dX11_clauseHere_9 rfl (by decide) rfl ?_
  refine jf_aload_n hX dX11_clauseHere_10 1 rfl ?_
  refine jf_getI hX ck_X11 11 wfl_83 (by decide) rfl dX11_clauseHere_11 ?_
  refine jf_bipush (v := 6) hX dX11_clauseHere_14 (by decide) ?_
  refine jf_icmp_ne (tgt := 23) hX dX11_clauseHere_16 (by decide) ?_ ?_
  · refine jf_iconst (v := 0) hX dX11_clauseHere_23 (by decide) ?_
    refine jf_lv [1, 0] rfl ?_
    exact jgX11_clauseHere_24 hX N  a0 v3 (0 : Int32) u2
  · refine jf_iconst (v := 1) hX dX11_clauseHere_19 (by decide) ?_
    refine jf_goto (tgt := 24) hX dX11_clauseHere_20 (by decide) ?_
    refine jf_lv [1, 0] rfl ?_
    exact jgX11_clauseHere_24 hX N  a0 v3 (1 : Int32) u2
set_option maxRecDepth 20000 in
def gX11_readsAll_88 (N : Nat)   (x0 : Nat) (u : SG) : Option (Int32 × SG) := if zK u x0 = 12 then bs (sI u x0 1 (0 : Int32)) fun u1 => (if zK u1 x0 = 12 then (if (zI u1 x0 9) = 0 then (some ((1 : Int32), u1))
  else (some ((0 : Int32), u1))) else none) else none
set_option maxRecDepth 20000 in
set_option maxHeartbeats 4000000 in
theorem jgX11_readsAll_88   {X : XT} (hX : Cx X yX11_readsAll cX11_readsAll 2 (some .boolean) 12 0 0) (N : Nat)  (x0 : Nat) (u : SG) : JF X True 2 0 0 (jQ X vI 0 0) 88 [(0, .ref x0)] [] u (gX11_readsAll_88 N   x0 u) := by
  unfold gX11_readsAll_88
  refine jf_aload_n hX dX11_readsAll_88 0 rfl ?_
  refine jf_iconst (v := 0) hX dX11_readsAll_89 (by decide) ?_
  refine jf_putI hX trivial ck_X11 1 wfl_43 (by decide) rfl rfl rfl dX11_readsAll_90 (fun u1 => ?_)
  refine jf_aload_n hX dX11_readsAll_93 0 rfl ?_
  refine jf_getI hX ck_X11 9 wfl_47 (by decide) rfl dX11_readsAll_94 ?_
  refine jf_if_ne (tgt := 104) hX dX11_readsAll_97 (by decide) ?_ ?_
  · refine jf_iconst (v := 0) hX dX11_readsAll_104 (by decide) ?_
    exact jf_zretc hX rfl (by decide) (by decide) (by decide) dX11_readsAll_105
  · refine jf_iconst (v := 1) hX dX11_readsAll_100 (by decide) ?_
    refine jf_goto (tgt := 105) hX dX11_readsAll_101 (by decide) ?_
    exact jf_zretc hX rfl (by decide) (by decide) (by decide) dX11_readsAll_105
set_option maxRecDepth 20000 in
def gX11_readsAll_66 (N : Nat)   (x0 : Nat) (x1 : Int32) (u : SG) : Option (Int32 × SG) := if x1 = 0 then (gX11_readsAll_88 N  x0 u)
  else (if zK u x0 = 12 then cl (fX11_see N x0 u) fun r1 u2 => (if r1 = (-1 : Int32) then (gX11_readsAll_88 N  x0 u2)
  else (if zK u2 x0 = 12 then (if zK u2 x0 = 12 then cl (fX11_fails N x0 (0 : Int32) (zI u2 x0 8) u2) fun r3 u4 => (gX11_readsAll_88 N  x0 u4) else none) else none)) else none)
set_option maxRecDepth 20000 in
set_option maxHeartbeats 4000000 in
theorem jgX11_readsAll_66   {X : XT} (hX : Cx X yX11_readsAll cX11_readsAll 2 (some .boolean) 12 0 0) (N : Nat)  (x0 : Nat) (x1 : Int32) (u : SG) : JF X True 2 0 0 (jQ X vI 0 0) 66 [(0, .ref x0), (1, .int x1)] [] u (gX11_readsAll_66 N   x0 x1 u) := by
  unfold gX11_readsAll_66
  refine jf_iload_n hX dX11_readsAll_66 1 rfl ?_
  refine jf_if_eq (tgt := 88) hX dX11_readsAll_67 (by decide) ?_ ?_
  · refine jf_lv [0] rfl ?_
    exact jgX11_readsAll_88 hX N  x0 u
  · refine jf_aload_n hX dX11_readsAll_70 0 rfl ?_
    refine jf_callV (As := []) (st := []) hX mo_X11_see wml_49 winst_50 wsel_51 11 ck_X11 rfl (fun l D cT z0 ks => kX11_see N l D cT z0 ks x0 u) (by decide) (by decide) (by decide) (by decide) (Nat.le_of_ble_eq_true rfl) rfl rfl dX11_readsAll_71 (fun r1 u2 => ?_)
    refine jf_iconst (v := -1) hX dX11_readsAll_74 (by decide) ?_
    refine jf_icmp_eq (tgt := 88) hX dX11_readsAll_75 (by decide) ?_ ?_
    · refine jf_lv [0] rfl ?_
      exact jgX11_readsAll_88 hX N  x0 u2
    · refine jf_aload_n hX dX11_readsAll_78 0 rfl ?_
      refine jf_iconst (v := 0) hX dX11_readsAll_79 (by decide) ?_
      refine jf_aload_n hX dX11_readsAll_80 0 rfl ?_
      refine jf_getI hX ck_X11 8 wfl_48 (by decide) rfl dX11_readsAll_81 ?_
      refine jf_callV (As := [.int (0 : Int32), .int (zI u2 x0 8)]) (st := []) hX mo_X11_fails wml_64 winst_65 wsel_66 11 ck_X11 rfl (fun l D cT z0 ks => kX11_fails N l D cT z0 ks x0 (0 : Int32) (zI u2 x0 8) u2) (by decide) (by decide) (by decide) (by decide) (Nat.le_of_ble_eq_true rfl) rfl rfl dX11_readsAll_84 (fun r3 u4 => ?_)
      refine jf_pop hX dX11_readsAll_87 rfl ?_
      refine jf_lv [0] rfl ?_
      exact jgX11_readsAll_88 hX N  x0 u4
set_option maxRecDepth 20000 in
def gX11_readsAll_35 (N : Nat)   : Nat → Nat → Int32 → SG → Option (Int32 × SG)
  | 0, _, _, _ => none
  | n + 1, x0, x1, u => if x1 = 0 then (gX11_readsAll_66 N  x0 x1 u)
  else (if zK u x0 = 12 then cl (fX11_see N x0 u) fun r1 u2 => (if r1 = (59 : Int32) then (if zK u2 x0 = 12 then (if zK u2 x0 = 12 then bs (sI u2 x0 8 ((zI u2 x0 8) + (1 : Int32))) fun u3 => (if zK u3 x0 = 12 then cl (fX11_clauseHere N x0 u3) fun r4 u5 => ((gX11_readsAll_35 N  n) x0 r4 u5) else none) else none) else none)
  else (gX11_readsAll_66 N  x0 x1 u2)) else none)
set_option maxRecDepth 20000 in
set_option maxHeartbeats 4000000 in
theorem jgX11_readsAll_35   {X : XT} (hX : Cx X yX11_readsAll cX11_readsAll 2 (some .boolean) 12 0 0) (N : Nat)  : ∀ (n : Nat) (x0 : Nat) (x1 : Int32) (u : SG), JF X True 2 0 0 (jQ X vI 0 0) 35 [(0, .ref x0), (1, .int x1)] [] u (gX11_readsAll_35 N   n x0 x1 u) := by
  intro n
  induction n with
  | zero => intros; intro r u9 h9; exact absurd h9 (by simp [gX11_readsAll_35])
  | succ n ih =>
    intro x0 x1 u
    have hrec35 := ih
    rw [gX11_readsAll_35]
    refine jf_iload_n hX dX11_readsAll_35 1 rfl ?_
    refine jf_if_eq (tgt := 66) hX dX11_readsAll_36 (by decide) ?_ ?_
    · refine jf_lv [0, 1] rfl ?_
      exact jgX11_readsAll_66 hX N  x0 x1 u
    · refine jf_aload_n hX dX11_readsAll_39 0 rfl ?_
      refine jf_callV (As := []) (st := []) hX mo_X11_see wml_49 winst_50 wsel_51 11 ck_X11 rfl (fun l D cT z0 ks => kX11_see N l D cT z0 ks x0 u) (by decide) (by decide) (by decide) (by decide) (Nat.le_of_ble_eq_true rfl) rfl rfl dX11_readsAll_40 (fun r1 u2 => ?_)
      refine jf_bipush (v := 59) hX dX11_readsAll_43 (by decide) ?_
      refine jf_icmp_ne (tgt := 66) hX dX11_readsAll_45 (by decide) ?_ ?_
      · refine jf_lv [0, 1] rfl ?_
        exact jgX11_readsAll_66 hX N  x0 x1 u2
      · refine jf_aload_n hX dX11_readsAll_48 0 rfl ?_
        refine jf_dup hX dX11_readsAll_49 rfl ?_
        refine jf_getI hX ck_X11 8 wfl_48 (by decide) rfl dX11_readsAll_50 ?_
        refine jf_iconst (v := 1) hX dX11_readsAll_53 (by decide) ?_
        refine jf_iadd hX dX11_readsAll_54 ?_
        refine jf_putI hX trivial ck_X11 8 wfl_48 (by decide) rfl rfl rfl dX11_readsAll_55 (fun u3 => ?_)
        refine jf_aload_n hX dX11_readsAll_58 0 rfl ?_
        refine jf_callV (As := []) (st := []) hX mo_X11_clauseHere wml_175 winst_176 wsel_177 11 ck_X11 rfl (fun l D cT z0 ks => kX11_clauseHere N l D cT z0 ks x0 u3) (by decide) (by decide) (by decide) (by decide) (Nat.le_of_ble_eq_true rfl) rfl rfl dX11_readsAll_59 (fun r4 u5 => ?_)
        refine jf_istore_n (lv' := [(1, .int r4), (0, .ref x0)]) hX dX11_readsAll_62 rfl (by decide) rfl ?_
        refine jf_goto (tgt := 35) hX dX11_readsAll_63 (by decide) ?_
        refine jf_lv [1, 0] rfl ?_
        exact hrec35 x0 r4 u5
set_option maxRecDepth 20000 in
def fX11_readsAll (N : Nat)  (a0 : Nat) (u : SG) : Option (Int32 × SG) := if zK u a0 = 12 then (Option.bind (zR u a0 4) fun q1 => (if zK u a0 = 12 then (if zK u q1 = 22 then if (zI u a0 11) < 0 ∨ zN u q1 ≤ (zI u a0 11).toNatClampNeg then none else bs (sI u q1 (zI u a0 11).toNatClampNeg (0 : Int32)) fun u2 => (if zK u2 a0 = 12 then bs (sI u2 a0 14 (0 : Int32)) fun u3 => (if zK u3 a0 = 12 then bs (sI u3 a0 8 (0 : Int32)) fun u4 => (if zK u4 a0 = 12 then bs (sI u4 a0 9 (0 : Int32)) fun u5 => (if zK u5 a0 = 12 then bs (sI u5 a0 12 (0 : Int32)) fun u6 => (if zK u6 a0 = 12 then cl (fX11_clauseHere N a0 u6) fun r7 u8 => (gX11_readsAll_35 N  N a0 r7 u8) else none) else none) else none) else none) else none) else none) else none)) else none
set_option maxRecDepth 20000 in
set_option maxHeartbeats 4000000 in
theorem kX11_readsAll  (N : Nat)  (l : Launch) (D : va_G) (cT : Nat → ClassId) (z0 : Nat) (ks : Nat × Nat) (a0 : Nat) (u : SG) : Ct l D cT z0 ks yX11_readsAll cX11_readsAll 2 (some .boolean) 12 0 0 vI [.ref a0] u (fX11_readsAll N  a0 u) := by
  unfold fX11_readsAll
  refine ct_of (by decide +kernel) (Nat.le_of_ble_eq_true rfl) (fun p e R s m args below meth c hX => ?_)
  show JF _ True 2 0 0 _ 0 [(0, .ref a0)] [] u _
  refine jf_aload_n hX dX11_readsAll_0 0 rfl ?_
  refine jf_getR hX ck_X11 4 wfl_23 (by decide) rfl dX11_readsAll_1 ?_
  refine jf_nn (fun q1 => ?_)
  refine jf_aload_n hX dX11_readsAll_4 0 rfl ?_
  refine jf_getI hX ck_X11 11 wfl_83 (by decide) rfl dX11_readsAll_5 ?_
  refine jf_iconst (v := 0) hX dX11_readsAll_8 (by decide) ?_
  refine jf_iast hX trivial dX11_readsAll_9 (fun u2 => ?_)
  refine jf_aload_n hX dX11_readsAll_10 0 rfl ?_
  refine jf_iconst (v := 0) hX dX11_readsAll_11 (by decide) ?_
  refine jf_putI hX trivial ck_X11 14 wfl_168 (by decide) rfl rfl rfl dX11_readsAll_12 (fun u3 => ?_)
  refine jf_aload_n hX dX11_readsAll_15 0 rfl ?_
  refine jf_iconst (v := 0) hX dX11_readsAll_16 (by decide) ?_
  refine jf_putI hX trivial ck_X11 8 wfl_48 (by decide) rfl rfl rfl dX11_readsAll_17 (fun u4 => ?_)
  refine jf_aload_n hX dX11_readsAll_20 0 rfl ?_
  refine jf_iconst (v := 0) hX dX11_readsAll_21 (by decide) ?_
  refine jf_putI hX trivial ck_X11 9 wfl_47 (by decide) rfl rfl rfl dX11_readsAll_22 (fun u5 => ?_)
  refine jf_aload_n hX dX11_readsAll_25 0 rfl ?_
  refine jf_iconst (v := 0) hX dX11_readsAll_26 (by decide) ?_
  refine jf_putI hX trivial ck_X11 12 wfl_84 (by decide) rfl rfl rfl dX11_readsAll_27 (fun u6 => ?_)
  refine jf_aload_n hX dX11_readsAll_30 0 rfl ?_
  refine jf_callV (As := []) (st := []) hX mo_X11_clauseHere wml_175 winst_176 wsel_177 11 ck_X11 rfl (fun l D cT z0 ks => kX11_clauseHere N l D cT z0 ks a0 u6) (by decide) (by decide) (by decide) (by decide) (Nat.le_of_ble_eq_true rfl) rfl rfl dX11_readsAll_31 (fun r7 u8 => ?_)
  refine jf_istore_n (lv' := [(1, .int r7), (0, .ref a0)]) hX dX11_readsAll_34 rfl (by decide) rfl ?_
  refine jf_lv [1, 0] rfl ?_
  exact jgX11_readsAll_35 hX N  N a0 r7 u8
set_option maxRecDepth 20000 in
def fX11_rule (N : Nat)  (a0 : Nat) (u : SG) : Option (Int32 × SG) := if zK u a0 = 12 then (if (zI u a0 2) = (6 : Int32) then (some ((-1 : Int32), u))
  else (if zK u a0 = 12 then (if zK u a0 = 12 then bs (sI u a0 11 (zI u a0 2)) fun u1 => (if zK u1 a0 = 12 then (Option.bind (zR u1 a0 6) fun q2 => (if zK u1 a0 = 12 then (if zK u1 q2 = 22 then if (zI u1 a0 11) < 0 ∨ zN u1 q2 ≤ (zI u1 a0 11).toNatClampNeg then none else bs (sI u1 q2 (zI u1 a0 11).toNatClampNeg (0 : Int32)) fun u3 => (if zK u3 a0 = 12 then cl (fX11_readsAll N a0 u3) fun r4 u5 => (if r4 = 0 then (if zK u5 a0 = 12 then (some ((-2 : Int32) - (zI u5 a0 9), u5)) else none)
  else (if zK u5 a0 = 12 then (if zK u5 a0 = 12 then bs (sI u5 a0 2 ((zI u5 a0 2) + (1 : Int32))) fun u6 => (if zK u6 a0 = 12 then (some ((zI u6 a0 2) - (1 : Int32), u6)) else none) else none) else none)) else none) else none) else none)) else none) else none) else none)) else none
set_option maxRecDepth 20000 in
set_option maxHeartbeats 4000000 in
theorem kX11_rule  (N : Nat)  (l : Launch) (D : va_G) (cT : Nat → ClassId) (z0 : Nat) (ks : Nat × Nat) (a0 : Nat) (u : SG) : Ct l D cT z0 ks yX11_rule cX11_rule 1 (some .int) 13 0 0 vI [.ref a0] u (fX11_rule N  a0 u) := by
  unfold fX11_rule
  refine ct_of (by decide +kernel) (Nat.le_of_ble_eq_true rfl) (fun p e R s m args below meth c hX => ?_)
  show JF _ True 1 0 0 _ 0 [(0, .ref a0)] [] u _
  refine jf_aload_n hX dX11_rule_0 0 rfl ?_
  refine jf_getI hX ck_X11 2 wfl_178 (by decide) rfl dX11_rule_1 ?_
  refine jf_bipush (v := 6) hX dX11_rule_4 (by decide) ?_
  refine jf_icmp_ne (tgt := 11) hX dX11_rule_6 (by decide) ?_ ?_
  · refine jf_aload_n hX dX11_rule_11 0 rfl ?_
    refine jf_aload_n hX dX11_rule_12 0 rfl ?_
    refine jf_getI hX ck_X11 2 wfl_178 (by decide) rfl dX11_rule_13 ?_
    refine jf_putI hX trivial ck_X11 11 wfl_83 (by decide) rfl rfl rfl dX11_rule_16 (fun u1 => ?_)
    refine jf_aload_n hX dX11_rule_19 0 rfl ?_
    refine jf_getR hX ck_X11 6 wfl_25 (by decide) rfl dX11_rule_20 ?_
    refine jf_nn (fun q2 => ?_)
    refine jf_aload_n hX dX11_rule_23 0 rfl ?_
    refine jf_getI hX ck_X11 11 wfl_83 (by decide) rfl dX11_rule_24 ?_
    refine jf_iconst (v := 0) hX dX11_rule_27 (by decide) ?_
    refine jf_iast hX trivial dX11_rule_28 (fun u3 => ?_)
    refine jf_aload_n hX dX11_rule_29 0 rfl ?_
    refine jf_callV (As := []) (st := []) hX mo_X11_readsAll wml_179 winst_180 wsel_181 11 ck_X11 rfl (fun l D cT z0 ks => kX11_readsAll N l D cT z0 ks a0 u3) (by decide) (by decide) (by decide) (by decide) (Nat.le_of_ble_eq_true rfl) rfl rfl dX11_rule_30 (fun r4 u5 => ?_)
    refine jf_if_ne (tgt := 44) hX dX11_rule_33 (by decide) ?_ ?_
    · refine jf_aload_n hX dX11_rule_44 0 rfl ?_
      refine jf_dup hX dX11_rule_45 rfl ?_
      refine jf_getI hX ck_X11 2 wfl_178 (by decide) rfl dX11_rule_46 ?_
      refine jf_iconst (v := 1) hX dX11_rule_49 (by decide) ?_
      refine jf_iadd hX dX11_rule_50 ?_
      refine jf_putI hX trivial ck_X11 2 wfl_178 (by decide) rfl rfl rfl dX11_rule_51 (fun u6 => ?_)
      refine jf_aload_n hX dX11_rule_54 0 rfl ?_
      refine jf_getI hX ck_X11 2 wfl_178 (by decide) rfl dX11_rule_55 ?_
      refine jf_iconst (v := 1) hX dX11_rule_58 (by decide) ?_
      refine jf_isub hX dX11_rule_59 ?_
      exact jf_iret hX rfl (by decide) (by decide) dX11_rule_60
    · refine jf_bipush (v := -2) hX dX11_rule_36 (by decide) ?_
      refine jf_aload_n hX dX11_rule_38 0 rfl ?_
      refine jf_getI hX ck_X11 9 wfl_47 (by decide) rfl dX11_rule_39 ?_
      refine jf_isub hX dX11_rule_42 ?_
      exact jf_iret hX rfl (by decide) (by decide) dX11_rule_43
  · refine jf_iconst (v := -1) hX dX11_rule_9 (by decide) ?_
    exact jf_iret hX rfl (by decide) (by decide) dX11_rule_10
set_option maxRecDepth 20000 in
def gX11_street_81 (N : Nat)   : Nat → Nat → Int32 → SG → Option (Int32 × SG)
  | 0, _, _, _ => none
  | n + 1, x0, x1, u => if (5 : Int32) ≤ x1 then (if zK u x0 = 12 then bs (sI u x0 25 (0 : Int32)) fun u1 => (if zK u1 x0 = 12 then (Option.bind (zR u1 x0 20) fun q2 => (if zK u1 q2 = 22 then if zN u1 q2 ≤ 1 then none else (some (zI u1 q2 1, u1)) else none)) else none) else none)
  else (if zK u x0 = 12 then (Option.bind (zR u x0 20) fun q3 => (if zK u q3 = 22 then if ((40 : Int32) + x1) < 0 ∨ zN u q3 ≤ ((40 : Int32) + x1).toNatClampNeg then none else bs (sI u q3 ((40 : Int32) + x1).toNatClampNeg (0 : Int32)) fun u4 => ((gX11_street_81 N  n) x0 (x1 + (1 : Int32)) u4) else none)) else none)
set_option maxRecDepth 20000 in
set_option maxHeartbeats 4000000 in
theorem jgX11_street_81   {X : XT} (hX : Cx X yX11_street cX11_street 2 (some .int) 13 0 0) (N : Nat)  : ∀ (n : Nat) (x0 : Nat) (x1 : Int32) (u : SG), JF X True 2 0 0 (jQ X vI 0 0) 81 [(0, .ref x0), (1, .int x1)] [] u (gX11_street_81 N   n x0 x1 u) := by
  intro n
  induction n with
  | zero => intros; intro r u9 h9; exact absurd h9 (by simp [gX11_street_81])
  | succ n ih =>
    intro x0 x1 u
    have hrec81 := ih
    rw [gX11_street_81]
    refine jf_iload_n hX dX11_street_81 1 rfl ?_
    refine jf_iconst (v := 5) hX dX11_street_82 (by decide) ?_
    refine jf_icmp_ge (tgt := 102) hX dX11_street_83 (by decide) ?_ ?_
    · refine jf_aload_n hX dX11_street_102 0 rfl ?_
      refine jf_iconst (v := 0) hX dX11_street_103 (by decide) ?_
      refine jf_putI hX trivial ck_X11 25 wfl_182 (by decide) rfl rfl rfl dX11_street_104 (fun u1 => ?_)
      refine jf_aload_n hX dX11_street_107 0 rfl ?_
      refine jf_getR hX ck_X11 20 wfl_31 (by decide) rfl dX11_street_108 ?_
      refine jf_nn (fun q2 => ?_)
      refine jf_iconst (v := 1) hX dX11_street_111 (by decide) ?_
      refine jf_ialdc 1 hX (by decide) (by decide) dX11_street_112 ?_
      exact jf_iret hX rfl (by decide) (by decide) dX11_street_113
    · refine jf_aload_n hX dX11_street_86 0 rfl ?_
      refine jf_getR hX ck_X11 20 wfl_31 (by decide) rfl dX11_street_87 ?_
      refine jf_nn (fun q3 => ?_)
      refine jf_bipush (v := 40) hX dX11_street_90 (by decide) ?_
      refine jf_iload_n hX dX11_street_92 1 rfl ?_
      refine jf_iadd hX dX11_street_93 ?_
      refine jf_iconst (v := 0) hX dX11_street_94 (by decide) ?_
      refine jf_iast hX trivial dX11_street_95 (fun u4 => ?_)
      refine jf_iinc (v := 1) (lv' := [(1, .int (x1 + (1 : Int32))), (0, .ref x0)]) hX dX11_street_96 1 rfl (by decide) (by decide) rfl ?_
      refine jf_goto (tgt := 81) hX dX11_street_99 (by decide) ?_
      refine jf_lv [1, 0] rfl ?_
      exact hrec81 x0 (x1 + (1 : Int32)) u4
set_option maxRecDepth 20000 in
def gX11_street_44 (N : Nat)   : Nat → Nat → Int32 → SG → Option (Int32 × SG)
  | 0, _, _, _ => none
  | n + 1, x0, x1, u => if (144 : Int32) ≤ x1 then (gX11_street_81 N  N x0 (0 : Int32) u)
  else (if zK u x0 = 12 then (Option.bind (zR u x0 20) fun q1 => (if (103 : Int32) ≤ x1 then (if zK u q1 = 22 then if x1 < 0 ∨ zN u q1 ≤ x1.toNatClampNeg then none else bs (sI u q1 x1.toNatClampNeg (0 : Int32)) fun u2 => ((gX11_street_44 N  n) x0 (x1 + (1 : Int32)) u2) else none)
  else (if zK u x0 = 12 then (Option.bind (zR u x0 7) fun q3 => (if zK u q3 = 22 then if x1 < 0 ∨ zN u q3 ≤ x1.toNatClampNeg then none else (if zK u q1 = 22 then if x1 < 0 ∨ zN u q1 ≤ x1.toNatClampNeg then none else bs (sI u q1 x1.toNatClampNeg (zI u q3 x1.toNatClampNeg)) fun u4 => ((gX11_street_44 N  n) x0 (x1 + (1 : Int32)) u4) else none) else none)) else none))) else none)
set_option maxRecDepth 20000 in
set_option maxHeartbeats 4000000 in
theorem jgX11_street_44   {X : XT} (hX : Cx X yX11_street cX11_street 2 (some .int) 13 0 0) (N : Nat)  : ∀ (n : Nat) (x0 : Nat) (x1 : Int32) (u : SG), JF X True 2 0 0 (jQ X vI 0 0) 44 [(0, .ref x0), (1, .int x1)] [] u (gX11_street_44 N   n x0 x1 u) := by
  intro n
  induction n with
  | zero => intros; intro r u9 h9; exact absurd h9 (by simp [gX11_street_44])
  | succ n ih =>
    intro x0 x1 u
    have hrec44 := ih
    rw [gX11_street_44]
    refine jf_iload_n hX dX11_street_44 1 rfl ?_
    refine jf_sipush (v := 144) hX dX11_street_45 (by decide) ?_
    refine jf_icmp_ge (tgt := 79) hX dX11_street_48 (by decide) ?_ ?_
    · refine jf_iconst (v := 0) hX dX11_street_79 (by decide) ?_
      refine jf_istore_n (lv' := [(1, .int (0 : Int32)), (0, .ref x0)]) hX dX11_street_80 rfl (by decide) rfl ?_
      refine jf_lv [1, 0] rfl ?_
      exact jgX11_street_81 hX N  N x0 (0 : Int32) u
    · refine jf_aload_n hX dX11_street_51 0 rfl ?_
      refine jf_getR hX ck_X11 20 wfl_31 (by decide) rfl dX11_street_52 ?_
      refine jf_nn (fun q1 => ?_)
      refine jf_iload_n hX dX11_street_55 1 rfl ?_
      refine jf_iload_n hX dX11_street_56 1 rfl ?_
      refine jf_bipush (v := 103) hX dX11_street_57 (by decide) ?_
      refine jf_icmp_ge (tgt := 71) hX dX11_street_59 (by decide) ?_ ?_
      · refine jf_iconst (v := 0) hX dX11_street_71 (by decide) ?_
        refine jf_iast hX trivial dX11_street_72 (fun u2 => ?_)
        refine jf_iinc (v := 1) (lv' := [(1, .int (x1 + (1 : Int32))), (0, .ref x0)]) hX dX11_street_73 1 rfl (by decide) (by decide) rfl ?_
        refine jf_goto (tgt := 44) hX dX11_street_76 (by decide) ?_
        refine jf_lv [1, 0] rfl ?_
        exact hrec44 x0 (x1 + (1 : Int32)) u2
      · refine jf_aload_n hX dX11_street_62 0 rfl ?_
        refine jf_getR hX ck_X11 7 wfl_26 (by decide) rfl dX11_street_63 ?_
        refine jf_nn (fun q3 => ?_)
        refine jf_iload_n hX dX11_street_66 1 rfl ?_
        refine jf_iald hX dX11_street_67 ?_
        refine jf_goto (tgt := 72) hX dX11_street_68 (by decide) ?_
        refine jf_iast hX trivial dX11_street_72 (fun u4 => ?_)
        refine jf_iinc (v := 1) (lv' := [(1, .int (x1 + (1 : Int32))), (0, .ref x0)]) hX dX11_street_73 1 rfl (by decide) (by decide) rfl ?_
        refine jf_goto (tgt := 44) hX dX11_street_76 (by decide) ?_
        refine jf_lv [1, 0] rfl ?_
        exact hrec44 x0 (x1 + (1 : Int32)) u4
set_option maxRecDepth 20000 in
def gX11_street_8 (N : Nat)   : Nat → Nat → Int32 → SG → Option (Int32 × SG)
  | 0, _, _, _ => none
  | n + 1, x0, x1, u => if (10 : Int32) ≤ x1 then (if zK u x0 = 12 then cl (fX11_readsAll N x0 u) fun r1 u2 => (if r1 = 0 then (if zK u2 x0 = 12 then (some ((-2 : Int32) - (zI u2 x0 9), u2)) else none)
  else (gX11_street_44 N  N x0 (0 : Int32) u2)) else none)
  else (if zK u x0 = 12 then (Option.bind (zR u x0 7) fun q3 => (if zK u q3 = 22 then if x1 < 0 ∨ zN u q3 ≤ x1.toNatClampNeg then none else bs (sI u q3 x1.toNatClampNeg (0 : Int32)) fun u4 => ((gX11_street_8 N  n) x0 (x1 + (1 : Int32)) u4) else none)) else none)
set_option maxRecDepth 20000 in
set_option maxHeartbeats 4000000 in
theorem jgX11_street_8   {X : XT} (hX : Cx X yX11_street cX11_street 2 (some .int) 13 0 0) (N : Nat)  : ∀ (n : Nat) (x0 : Nat) (x1 : Int32) (u : SG), JF X True 2 0 0 (jQ X vI 0 0) 8 [(0, .ref x0), (1, .int x1)] [] u (gX11_street_8 N   n x0 x1 u) := by
  intro n
  induction n with
  | zero => intros; intro r u9 h9; exact absurd h9 (by simp [gX11_street_8])
  | succ n ih =>
    intro x0 x1 u
    have hrec8 := ih
    rw [gX11_street_8]
    refine jf_iload_n hX dX11_street_8 1 rfl ?_
    refine jf_bipush (v := 10) hX dX11_street_9 (by decide) ?_
    refine jf_icmp_ge (tgt := 27) hX dX11_street_11 (by decide) ?_ ?_
    · refine jf_aload_n hX dX11_street_27 0 rfl ?_
      refine jf_callV (As := []) (st := []) hX mo_X11_readsAll wml_179 winst_180 wsel_181 11 ck_X11 rfl (fun l D cT z0 ks => kX11_readsAll N l D cT z0 ks x0 u) (by decide) (by decide) (by decide) (by decide) (Nat.le_of_ble_eq_true rfl) rfl rfl dX11_street_28 (fun r1 u2 => ?_)
      refine jf_if_ne (tgt := 42) hX dX11_street_31 (by decide) ?_ ?_
      · refine jf_iconst (v := 0) hX dX11_street_42 (by decide) ?_
        refine jf_istore_n (lv' := [(1, .int (0 : Int32)), (0, .ref x0)]) hX dX11_street_43 rfl (by decide) rfl ?_
        refine jf_lv [1, 0] rfl ?_
        exact jgX11_street_44 hX N  N x0 (0 : Int32) u2
      · refine jf_bipush (v := -2) hX dX11_street_34 (by decide) ?_
        refine jf_aload_n hX dX11_street_36 0 rfl ?_
        refine jf_getI hX ck_X11 9 wfl_47 (by decide) rfl dX11_street_37 ?_
        refine jf_isub hX dX11_street_40 ?_
        exact jf_iret hX rfl (by decide) (by decide) dX11_street_41
    · refine jf_aload_n hX dX11_street_14 0 rfl ?_
      refine jf_getR hX ck_X11 7 wfl_26 (by decide) rfl dX11_street_15 ?_
      refine jf_nn (fun q3 => ?_)
      refine jf_iload_n hX dX11_street_18 1 rfl ?_
      refine jf_iconst (v := 0) hX dX11_street_19 (by decide) ?_
      refine jf_iast hX trivial dX11_street_20 (fun u4 => ?_)
      refine jf_iinc (v := 1) (lv' := [(1, .int (x1 + (1 : Int32))), (0, .ref x0)]) hX dX11_street_21 1 rfl (by decide) (by decide) rfl ?_
      refine jf_goto (tgt := 8) hX dX11_street_24 (by decide) ?_
      refine jf_lv [1, 0] rfl ?_
      exact hrec8 x0 (x1 + (1 : Int32)) u4
set_option maxRecDepth 20000 in
def fX11_street (N : Nat)  (a0 : Nat) (u : SG) : Option (Int32 × SG) := if zK u a0 = 12 then bs (sI u a0 11 (6 : Int32)) fun u1 => (gX11_street_8 N  N a0 (0 : Int32) u1) else none
set_option maxRecDepth 20000 in
set_option maxHeartbeats 4000000 in
theorem kX11_street  (N : Nat)  (l : Launch) (D : va_G) (cT : Nat → ClassId) (z0 : Nat) (ks : Nat × Nat) (a0 : Nat) (u : SG) : Ct l D cT z0 ks yX11_street cX11_street 2 (some .int) 13 0 0 vI [.ref a0] u (fX11_street N  a0 u) := by
  unfold fX11_street
  refine ct_of (by decide +kernel) (Nat.le_of_ble_eq_true rfl) (fun p e R s m args below meth c hX => ?_)
  show JF _ True 2 0 0 _ 0 [(0, .ref a0)] [] u _
  refine jf_aload_n hX dX11_street_0 0 rfl ?_
  refine jf_bipush (v := 6) hX dX11_street_1 (by decide) ?_
  refine jf_putI hX trivial ck_X11 11 wfl_83 (by decide) rfl rfl rfl dX11_street_3 (fun u1 => ?_)
  refine jf_iconst (v := 0) hX dX11_street_6 (by decide) ?_
  refine jf_istore_n (lv' := [(1, .int (0 : Int32)), (0, .ref a0)]) hX dX11_street_7 rfl (by decide) rfl ?_
  refine jf_lv [1, 0] rfl ?_
  exact jgX11_street_8 hX N  N a0 (0 : Int32) u1
set_option maxRecDepth 20000 in
def fX11_isRule (N : Nat)  (a0 : Nat) (p1 : Int32) (u : SG) : Option (Int32 × SG) := if p1 < 0 then (some ((0 : Int32), u))
  else (if zK u a0 = 12 then (if (zI u a0 2) ≤ p1 then (some ((0 : Int32), u))
  else (some ((1 : Int32), u))) else none)
set_option maxRecDepth 20000 in
set_option maxHeartbeats 4000000 in
theorem kX11_isRule  (N : Nat)  (l : Launch) (D : va_G) (cT : Nat → ClassId) (z0 : Nat) (ks : Nat × Nat) (a0 : Nat) (p1 : Int32) (u : SG) : Ct l D cT z0 ks yX11_isRule cX11_isRule 2 (some .boolean) 1 0 0 vI [.ref a0, .int p1] u (fX11_isRule N  a0 p1 u) := by
  unfold fX11_isRule
  refine ct_of (by decide +kernel) (Nat.le_of_ble_eq_true rfl) (fun p e R s m args below meth c hX => ?_)
  show JF _ True 2 0 0 _ 0 [(0, .ref a0), (1, .int p1)] [] u _
  refine jf_iload_n hX dX11_isRule_0 1 rfl ?_
  refine jf_if_lt (tgt := 16) hX dX11_isRule_1 (by decide) ?_ ?_
  · refine jf_iconst (v := 0) hX dX11_isRule_16 (by decide) ?_
    exact jf_zretc hX rfl (by decide) (by decide) (by decide) dX11_isRule_17
  · refine jf_iload_n hX dX11_isRule_4 1 rfl ?_
    refine jf_aload_n hX dX11_isRule_5 0 rfl ?_
    refine jf_getI hX ck_X11 2 wfl_178 (by decide) rfl dX11_isRule_6 ?_
    refine jf_icmp_ge (tgt := 16) hX dX11_isRule_9 (by decide) ?_ ?_
    · refine jf_iconst (v := 0) hX dX11_isRule_16 (by decide) ?_
      exact jf_zretc hX rfl (by decide) (by decide) (by decide) dX11_isRule_17
    · refine jf_iconst (v := 1) hX dX11_isRule_12 (by decide) ?_
      refine jf_goto (tgt := 17) hX dX11_isRule_13 (by decide) ?_
      exact jf_zretc hX rfl (by decide) (by decide) (by decide) dX11_isRule_17
set_option maxRecDepth 20000 in
def fX11_push (N : Nat)  (a0 : Nat) (p1 : Int64) (u : SG) : Option (Unit × SG) := if zK u a0 = 12 then (Option.bind (zR u a0 17) fun q1 => (if zK u a0 = 12 then (if zK u q1 = 23 then if (zI u a0 18) < 0 ∨ zN u q1 ≤ (zI u a0 18).toNatClampNeg then none else bs (sL u q1 (zI u a0 18).toNatClampNeg p1) fun u2 => (if zK u2 a0 = 12 then (if zK u2 a0 = 12 then bs (sI u2 a0 18 ((zI u2 a0 18) + (1 : Int32))) fun u3 => (some ((), u3)) else none) else none) else none) else none)) else none
set_option maxRecDepth 20000 in
set_option maxHeartbeats 4000000 in
theorem kX11_push  (N : Nat)  (l : Launch) (D : va_G) (cT : Nat → ClassId) (z0 : Nat) (ks : Nat × Nat) (a0 : Nat) (p1 : Int64) (u : SG) : Ct l D cT z0 ks yX11_push cX11_push 3 none 1 0 0 vU [.ref a0, .long p1] u (fX11_push N  a0 p1 u) := by
  unfold fX11_push
  refine ct_of (by decide +kernel) (Nat.le_of_ble_eq_true rfl) (fun p e R s m args below meth c hX => ?_)
  show JF _ True 3 0 0 _ 0 [(0, .ref a0), (1, .long p1)] [] u _
  refine jf_aload_n hX dX11_push_0 0 rfl ?_
  refine jf_getR hX ck_X11 17 wfl_29 (by decide) rfl dX11_push_1 ?_
  refine jf_nn (fun q1 => ?_)
  refine jf_aload_n hX dX11_push_4 0 rfl ?_
  refine jf_getI hX ck_X11 18 wfl_183 (by decide) rfl dX11_push_5 ?_
  refine jf_lload_n hX dX11_push_8 1 rfl ?_
  refine jf_last hX trivial dX11_push_9 (fun u2 => ?_)
  refine jf_aload_n hX dX11_push_10 0 rfl ?_
  refine jf_dup hX dX11_push_11 rfl ?_
  refine jf_getI hX ck_X11 18 wfl_183 (by decide) rfl dX11_push_12 ?_
  refine jf_iconst (v := 1) hX dX11_push_15 (by decide) ?_
  refine jf_iadd hX dX11_push_16 ?_
  refine jf_putI hX trivial ck_X11 18 wfl_183 (by decide) rfl rfl rfl dX11_push_17 (fun u3 => ?_)
  exact jf_vret hX rfl (by decide) (by decide) dX11_push_20
set_option maxRecDepth 20000 in
def fX11_pop (N : Nat)  (a0 : Nat) (u : SG) : Option (Int64 × SG) := if zK u a0 = 12 then (if zK u a0 = 12 then bs (sI u a0 18 ((zI u a0 18) - (1 : Int32))) fun u1 => (if zK u1 a0 = 12 then (Option.bind (zR u1 a0 17) fun q2 => (if zK u1 a0 = 12 then (if zK u1 q2 = 23 then if (zI u1 a0 18) < 0 ∨ zN u1 q2 ≤ (zI u1 a0 18).toNatClampNeg then none else (some (zL u1 q2 (zI u1 a0 18).toNatClampNeg, u1)) else none) else none)) else none) else none) else none
set_option maxRecDepth 20000 in
set_option maxHeartbeats 4000000 in
theorem kX11_pop  (N : Nat)  (l : Launch) (D : va_G) (cT : Nat → ClassId) (z0 : Nat) (ks : Nat × Nat) (a0 : Nat) (u : SG) : Ct l D cT z0 ks yX11_pop cX11_pop 1 (some .long) 1 0 0 vL [.ref a0] u (fX11_pop N  a0 u) := by
  unfold fX11_pop
  refine ct_of (by decide +kernel) (Nat.le_of_ble_eq_true rfl) (fun p e R s m args below meth c hX => ?_)
  show JF _ True 1 0 0 _ 0 [(0, .ref a0)] [] u _
  refine jf_aload_n hX dX11_pop_0 0 rfl ?_
  refine jf_dup hX dX11_pop_1 rfl ?_
  refine jf_getI hX ck_X11 18 wfl_183 (by decide) rfl dX11_pop_2 ?_
  refine jf_iconst (v := 1) hX dX11_pop_5 (by decide) ?_
  refine jf_isub hX dX11_pop_6 ?_
  refine jf_putI hX trivial ck_X11 18 wfl_183 (by decide) rfl rfl rfl dX11_pop_7 (fun u1 => ?_)
  refine jf_aload_n hX dX11_pop_10 0 rfl ?_
  refine jf_getR hX ck_X11 17 wfl_29 (by decide) rfl dX11_pop_11 ?_
  refine jf_nn (fun q2 => ?_)
  refine jf_aload_n hX dX11_pop_14 0 rfl ?_
  refine jf_getI hX ck_X11 18 wfl_183 (by decide) rfl dX11_pop_15 ?_
  refine jf_lald hX dX11_pop_18 ?_
  exact jf_lret hX rfl (by decide) (by decide) dX11_pop_19
set_option maxRecDepth 20000 in
def fX11_one (N : Nat)  (p1 : Int32) (p2 : Int64) (p3 : Int64) (u : SG) : Option (Int64 × SG) := if p1 = (2 : Int32) then (some (p2 + p3, u))
  else if p1 = (3 : Int32) then (some (p2 - p3, u))
  else if p1 = (4 : Int32) then (some (p2 * p3, u))
  else if p1 = (5 : Int32) then (if (lg_cmp p3 (0 : Int64)) = 0 then (some ((0 : Int64), u))
  else (if p3 = 0 then none else (some (p2 / p3, u))))
  else if p1 = (6 : Int32) then (if 0 ≤ (lg_cmp p2 p3) then (some ((0 : Int64), u))
  else (some ((1 : Int64), u)))
  else if p1 = (7 : Int32) then (if 0 < (lg_cmp p2 p3) then (some ((0 : Int64), u))
  else (some ((1 : Int64), u)))
  else if p1 = (8 : Int32) then (if (lg_cmp p2 p3) = 0 then (some ((1 : Int64), u))
  else (some ((0 : Int64), u)))
  else if p1 = (9 : Int32) then (if (lg_cmp p2 p3) < 0 then (some ((0 : Int64), u))
  else (some ((1 : Int64), u)))
  else if p1 = (10 : Int32) then (if (lg_cmp p2 p3) ≤ 0 then (some ((0 : Int64), u))
  else (some ((1 : Int64), u)))
  else if p1 = (11 : Int32) then (some (p2 ||| p3, u))
  else if p1 = (12 : Int32) then (some (p2 &&& p3, u))
  else if p1 = (13 : Int32) then (some (p2 ||| p3, u))
  else if p1 = (14 : Int32) then (if (lg_cmp p3 (0 : Int64)) = 0 then (some ((0 : Int64), u))
  else (if p3 = 0 then none else (some (p2 - p2 / p3 * p3, u))))
  else (some (p2 ||| p3, u))
set_option maxRecDepth 20000 in
set_option maxHeartbeats 4000000 in
theorem kX11_one  (N : Nat)  (l : Launch) (D : va_G) (cT : Nat → ClassId) (z0 : Nat) (ks : Nat × Nat) (p1 : Int32) (p2 : Int64) (p3 : Int64) (u : SG) : Ct l D cT z0 ks yX11_one cX11_one 5 (some .long) 1 0 0 vL [.int p1, .long p2, .long p3] u (fX11_one N  p1 p2 p3 u) := by
  unfold fX11_one
  refine ct_of (by decide +kernel) (Nat.le_of_ble_eq_true rfl) (fun p e R s m args below meth c hX => ?_)
  show JF _ True 5 0 0 _ 0 [(0, .int p1), (1, .long p2), (3, .long p3)] [] u _
  refine jf_iload_n hX dX11_one_0 0 rfl ?_
  refine jf_tcase (k := 2) (kv := 2) (tgt := 68) hX dX11_one_1 rfl (by decide) (by decide) rfl (by decide) ?_ (fun hn2 => ?_)
  · refine jf_lload_n hX dX11_one_68 1 rfl ?_
    refine jf_lload_n hX dX11_one_69 2 rfl ?_
    refine jf_ladd hX dX11_one_70 ?_
    exact jf_lret hX rfl (by decide) (by decide) dX11_one_71
  refine jf_tcase (k := 3) (kv := 3) (tgt := 72) hX dX11_one_1 rfl (by decide) (by decide) rfl (by decide) ?_ (fun hn3 => ?_)
  · refine jf_lload_n hX dX11_one_72 1 rfl ?_
    refine jf_lload_n hX dX11_one_73 2 rfl ?_
    refine jf_lsub hX dX11_one_74 ?_
    exact jf_lret hX rfl (by decide) (by decide) dX11_one_75
  refine jf_tcase (k := 4) (kv := 4) (tgt := 76) hX dX11_one_1 rfl (by decide) (by decide) rfl (by decide) ?_ (fun hn4 => ?_)
  · refine jf_lload_n hX dX11_one_76 1 rfl ?_
    refine jf_lload_n hX dX11_one_77 2 rfl ?_
    refine jf_lmul hX dX11_one_78 ?_
    exact jf_lret hX rfl (by decide) (by decide) dX11_one_79
  refine jf_tcase (k := 5) (kv := 5) (tgt := 80) hX dX11_one_1 rfl (by decide) (by decide) rfl (by decide) ?_ (fun hn5 => ?_)
  · refine jf_lload_n hX dX11_one_80 2 rfl ?_
    refine jf_lconst (v := 0) hX dX11_one_81 (by decide) ?_
    refine jf_lcmp hX dX11_one_82 ?_
    refine jf_if_ne (tgt := 90) hX dX11_one_83 (by decide) ?_ ?_
    · refine jf_lload_n hX dX11_one_90 1 rfl ?_
      refine jf_lload_n hX dX11_one_91 2 rfl ?_
      refine jf_ldiv hX dX11_one_92 ?_
      exact jf_lret hX rfl (by decide) (by decide) dX11_one_93
    · refine jf_lconst (v := 0) hX dX11_one_86 (by decide) ?_
      refine jf_goto (tgt := 93) hX dX11_one_87 (by decide) ?_
      exact jf_lret hX rfl (by decide) (by decide) dX11_one_93
  refine jf_tcase (k := 6) (kv := 6) (tgt := 108) hX dX11_one_1 rfl (by decide) (by decide) rfl (by decide) ?_ (fun hn6 => ?_)
  · refine jf_lload_n hX dX11_one_108 1 rfl ?_
    refine jf_lload_n hX dX11_one_109 2 rfl ?_
    refine jf_lcmp hX dX11_one_110 ?_
    refine jf_if_ge (tgt := 118) hX dX11_one_111 (by decide) ?_ ?_
    · refine jf_lconst (v := 0) hX dX11_one_118 (by decide) ?_
      exact jf_lret hX rfl (by decide) (by decide) dX11_one_119
    · refine jf_lconst (v := 1) hX dX11_one_114 (by decide) ?_
      refine jf_goto (tgt := 119) hX dX11_one_115 (by decide) ?_
      exact jf_lret hX rfl (by decide) (by decide) dX11_one_119
  refine jf_tcase (k := 7) (kv := 7) (tgt := 120) hX dX11_one_1 rfl (by decide) (by decide) rfl (by decide) ?_ (fun hn7 => ?_)
  · refine jf_lload_n hX dX11_one_120 1 rfl ?_
    refine jf_lload_n hX dX11_one_121 2 rfl ?_
    refine jf_lcmp hX dX11_one_122 ?_
    refine jf_if_gt (tgt := 130) hX dX11_one_123 (by decide) ?_ ?_
    · refine jf_lconst (v := 0) hX dX11_one_130 (by decide) ?_
      exact jf_lret hX rfl (by decide) (by decide) dX11_one_131
    · refine jf_lconst (v := 1) hX dX11_one_126 (by decide) ?_
      refine jf_goto (tgt := 131) hX dX11_one_127 (by decide) ?_
      exact jf_lret hX rfl (by decide) (by decide) dX11_one_131
  refine jf_tcase (k := 8) (kv := 8) (tgt := 132) hX dX11_one_1 rfl (by decide) (by decide) rfl (by decide) ?_ (fun hn8 => ?_)
  · refine jf_lload_n hX dX11_one_132 1 rfl ?_
    refine jf_lload_n hX dX11_one_133 2 rfl ?_
    refine jf_lcmp hX dX11_one_134 ?_
    refine jf_if_ne (tgt := 142) hX dX11_one_135 (by decide) ?_ ?_
    · refine jf_lconst (v := 0) hX dX11_one_142 (by decide) ?_
      exact jf_lret hX rfl (by decide) (by decide) dX11_one_143
    · refine jf_lconst (v := 1) hX dX11_one_138 (by decide) ?_
      refine jf_goto (tgt := 143) hX dX11_one_139 (by decide) ?_
      exact jf_lret hX rfl (by decide) (by decide) dX11_one_143
  refine jf_tcase (k := 9) (kv := 9) (tgt := 144) hX dX11_one_1 rfl (by decide) (by decide) rfl (by decide) ?_ (fun hn9 => ?_)
  · refine jf_lload_n hX dX11_one_144 1 rfl ?_
    refine jf_lload_n hX dX11_one_145 2 rfl ?_
    refine jf_lcmp hX dX11_one_146 ?_
    refine jf_if_lt (tgt := 154) hX dX11_one_147 (by decide) ?_ ?_
    · refine jf_lconst (v := 0) hX dX11_one_154 (by decide) ?_
      exact jf_lret hX rfl (by decide) (by decide) dX11_one_155
    · refine jf_lconst (v := 1) hX dX11_one_150 (by decide) ?_
      refine jf_goto (tgt := 155) hX dX11_one_151 (by decide) ?_
      exact jf_lret hX rfl (by decide) (by decide) dX11_one_155
  refine jf_tcase (k := 10) (kv := 10) (tgt := 156) hX dX11_one_1 rfl (by decide) (by decide) rfl (by decide) ?_ (fun hn10 => ?_)
  · refine jf_lload_n hX dX11_one_156 1 rfl ?_
    refine jf_lload_n hX dX11_one_157 2 rfl ?_
    refine jf_lcmp hX dX11_one_158 ?_
    refine jf_if_le (tgt := 166) hX dX11_one_159 (by decide) ?_ ?_
    · refine jf_lconst (v := 0) hX dX11_one_166 (by decide) ?_
      exact jf_lret hX rfl (by decide) (by decide) dX11_one_167
    · refine jf_lconst (v := 1) hX dX11_one_162 (by decide) ?_
      refine jf_goto (tgt := 167) hX dX11_one_163 (by decide) ?_
      exact jf_lret hX rfl (by decide) (by decide) dX11_one_167
  refine jf_tcase (k := 11) (kv := 11) (tgt := 172) hX dX11_one_1 rfl (by decide) (by decide) rfl (by decide) ?_ (fun hn11 => ?_)
  · refine jf_lload_n hX dX11_one_172 1 rfl ?_
    refine jf_lload_n hX dX11_one_173 2 rfl ?_
    refine jf_lor hX dX11_one_174 ?_
    exact jf_lret hX rfl (by decide) (by decide) dX11_one_175
  refine jf_tcase (k := 12) (kv := 12) (tgt := 168) hX dX11_one_1 rfl (by decide) (by decide) rfl (by decide) ?_ (fun hn12 => ?_)
  · refine jf_lload_n hX dX11_one_168 1 rfl ?_
    refine jf_lload_n hX dX11_one_169 2 rfl ?_
    refine jf_land hX dX11_one_170 ?_
    exact jf_lret hX rfl (by decide) (by decide) dX11_one_171
  refine jf_tcase (k := 13) (kv := 13) (tgt := 172) hX dX11_one_1 rfl (by decide) (by decide) rfl (by decide) ?_ (fun hn13 => ?_)
  · refine jf_lload_n hX dX11_one_172 1 rfl ?_
    refine jf_lload_n hX dX11_one_173 2 rfl ?_
    refine jf_lor hX dX11_one_174 ?_
    exact jf_lret hX rfl (by decide) (by decide) dX11_one_175
  refine jf_tcase (k := 14) (kv := 14) (tgt := 94) hX dX11_one_1 rfl (by decide) (by decide) rfl (by decide) ?_ (fun hn14 => ?_)
  · refine jf_lload_n hX dX11_one_94 2 rfl ?_
    refine jf_lconst (v := 0) hX dX11_one_95 (by decide) ?_
    refine jf_lcmp hX dX11_one_96 ?_
    refine jf_if_ne (tgt := 104) hX dX11_one_97 (by decide) ?_ ?_
    · refine jf_lload_n hX dX11_one_104 1 rfl ?_
      refine jf_lload_n hX dX11_one_105 2 rfl ?_
      refine jf_lrem hX dX11_one_106 ?_
      exact jf_lret hX rfl (by decide) (by decide) dX11_one_107
    · refine jf_lconst (v := 0) hX dX11_one_100 (by decide) ?_
      refine jf_goto (tgt := 107) hX dX11_one_101 (by decide) ?_
      exact jf_lret hX rfl (by decide) (by decide) dX11_one_107
  refine jf_tdef (tgt := 172) hX dX11_one_1 (by rcases Int.lt_or_le p1.toInt (2) with h9 | h9; exact Or.inl h9; exact Or.inr (istep (istep (istep (istep (istep (istep (istep (istep (istep (istep (istep (istep (istep h9 (lv_neT (a := 2) hn2 rfl)) (lv_neT (a := 3) hn3 rfl)) (lv_neT (a := 4) hn4 rfl)) (lv_neT (a := 5) hn5 rfl)) (lv_neT (a := 6) hn6 rfl)) (lv_neT (a := 7) hn7 rfl)) (lv_neT (a := 8) hn8 rfl)) (lv_neT (a := 9) hn9 rfl)) (lv_neT (a := 10) hn10 rfl)) (lv_neT (a := 11) hn11 rfl)) (lv_neT (a := 12) hn12 rfl)) (lv_neT (a := 13) hn13 rfl)) (lv_neT (a := 14) hn14 rfl))) (by decide) ?_
  refine jf_lload_n hX dX11_one_172 1 rfl ?_
  refine jf_lload_n hX dX11_one_173 2 rfl ?_
  refine jf_lor hX dX11_one_174 ?_
  exact jf_lret hX rfl (by decide) (by decide) dX11_one_175
set_option maxRecDepth 20000 in
def gX11_reckons_8 (N : Nat)   : Nat → Nat → Int32 → Int32 → Int32 → SG → Option (Int64 × SG)
  | 0, _, _, _, _, _ => none
  | n + 1, x0, x1, x3, x4, u => if x3 ≤ x4 then (if zK u x0 = 12 then cl (fX11_pop N x0 u) fun r1 u2 => (some (r1, u2)) else none)
  else (if zK u x0 = 12 then (Option.bind (zR u x0 3) fun q3 => (if zK u q3 = 22 then if (((400 : Int32) * x1) + x4) < 0 ∨ zN u q3 ≤ (((400 : Int32) * x1) + x4).toNatClampNeg then none else (bs ((zI u q3 (((400 : Int32) * x1) + x4).toNatClampNeg) &&& (15 : Int32)) fun v4 => (if zK u x0 = 12 then (Option.bind (zR u x0 3) fun q5 => (if zK u q5 = 22 then if (((400 : Int32) * x1) + x4) < 0 ∨ zN u q5 ≤ (((400 : Int32) * x1) + x4).toNatClampNeg then none else (bs ((zI u q5 (((400 : Int32) * x1) + x4).toNatClampNeg) >>> ((4 : Int32) &&& 31)) fun v6 => (if v4 = 0 then (if zK u x0 = 12 then cl (fX11_push N x0 v6.toInt64 u) fun r22 u23 => ((gX11_reckons_8 N  n) x0 x1 x3 (x4 + (1 : Int32)) u23) else none)
  else (if v4 = (1 : Int32) then (if zK u x0 = 12 then (Option.bind (zR u x0 19) fun q19 => (if zK u q19 = 23 then if v6 < 0 ∨ zN u q19 ≤ v6.toNatClampNeg then none else (if zK u x0 = 12 then cl (fX11_push N x0 (zL u q19 v6.toNatClampNeg) u) fun r20 u21 => ((gX11_reckons_8 N  n) x0 x1 x3 (x4 + (1 : Int32)) u21) else none) else none)) else none)
  else (if v4 = (11 : Int32) then (if zK u x0 = 12 then cl (fX11_pop N x0 u) fun r15 u16 => (if zK u16 x0 = 12 then cl (fX11_push N x0 ((1 : Int64) - r15) u16) fun r17 u18 => ((gX11_reckons_8 N  n) x0 x1 x3 (x4 + (1 : Int32)) u18) else none) else none)
  else (if zK u x0 = 12 then cl (fX11_pop N x0 u) fun r7 u8 => (if zK u8 x0 = 12 then cl (fX11_pop N x0 u8) fun r9 u10 => (cl (fX11_one N v4 r9 r7 u10) fun r11 u12 => (if zK u12 x0 = 12 then cl (fX11_push N x0 r11 u12) fun r13 u14 => ((gX11_reckons_8 N  n) x0 x1 x3 (x4 + (1 : Int32)) u14) else none)) else none) else none))))) else none)) else none)) else none)) else none)
set_option maxRecDepth 20000 in
set_option maxHeartbeats 4000000 in
theorem jgX11_reckons_8   {X : XT} (hX : Cx X yX11_reckons cX11_reckons 11 (some .long) 2 0 0) (N : Nat)  : ∀ (n : Nat) (x0 : Nat) (x1 : Int32) (x3 : Int32) (x4 : Int32) (u : SG), JF X True 11 0 0 (jQ X vL 0 0) 8 [(0, .ref x0), (1, .int x1), (3, .int x3), (4, .int x4)] [] u (gX11_reckons_8 N   n x0 x1 x3 x4 u) := by
  intro n
  induction n with
  | zero => intros; intro r u9 h9; exact absurd h9 (by simp [gX11_reckons_8])
  | succ n ih =>
    intro x0 x1 x3 x4 u
    have hrec8 := ih
    rw [gX11_reckons_8]
    refine jf_iload hX dX11_reckons_8 3 rfl ?_
    refine jf_iload_n hX dX11_reckons_10 2 rfl ?_
    refine jf_icmp_ge (tgt := 135) hX dX11_reckons_11 (by decide) ?_ ?_
    · refine jf_aload_n hX dX11_reckons_135 0 rfl ?_
      refine jf_callV (As := []) (st := []) hX mo_X11_pop wml_184 winst_185 wsel_186 11 ck_X11 rfl (fun l D cT z0 ks => kX11_pop N l D cT z0 ks x0 u) (by decide) (by decide) (by decide) (by decide) (Nat.le_of_ble_eq_true rfl) rfl rfl dX11_reckons_136 (fun r1 u2 => ?_)
      exact jf_lret hX rfl (by decide) (by decide) dX11_reckons_139
    · refine jf_aload_n hX dX11_reckons_14 0 rfl ?_
      refine jf_getR hX ck_X11 3 wfl_22 (by decide) rfl dX11_reckons_15 ?_
      refine jf_nn (fun q3 => ?_)
      refine jf_sipush (v := 400) hX dX11_reckons_18 (by decide) ?_
      refine jf_iload_n hX dX11_reckons_21 1 rfl ?_
      refine jf_imul hX dX11_reckons_22 ?_
      refine jf_iload hX dX11_reckons_23 3 rfl ?_
      refine jf_iadd hX dX11_reckons_25 ?_
      refine jf_iald hX dX11_reckons_26 ?_
      refine jf_bipush (v := 15) hX dX11_reckons_27 (by decide) ?_
      refine jf_iand hX dX11_reckons_29 ?_
      refine jf_nmI (fun v4 => ?_)
      refine jf_istore (lv' := [(5, .int v4), (0, .ref x0), (1, .int x1), (3, .int x3), (4, .int x4)]) hX dX11_reckons_30 (by decide) rfl ?_
      refine jf_aload_n hX dX11_reckons_32 1 rfl ?_
      refine jf_getR hX ck_X11 3 wfl_22 (by decide) rfl dX11_reckons_33 ?_
      refine jf_nn (fun q5 => ?_)
      refine jf_sipush (v := 400) hX dX11_reckons_36 (by decide) ?_
      refine jf_iload_n hX dX11_reckons_39 2 rfl ?_
      refine jf_imul hX dX11_reckons_40 ?_
      refine jf_iload hX dX11_reckons_41 4 rfl ?_
      refine jf_iadd hX dX11_reckons_43 ?_
      refine jf_iald hX dX11_reckons_44 ?_
      refine jf_iconst (v := 4) hX dX11_reckons_45 (by decide) ?_
      refine jf_ishr hX dX11_reckons_46 ?_
      refine jf_nmI (fun v6 => ?_)
      refine jf_istore (lv' := [(6, .int v6), (5, .int v4), (0, .ref x0), (1, .int x1), (3, .int x3), (4, .int x4)]) hX dX11_reckons_47 (by decide) rfl ?_
      refine jf_iload hX dX11_reckons_49 1 rfl ?_
      refine jf_if_ne (tgt := 64) hX dX11_reckons_51 (by decide) ?_ ?_
      · refine jf_iload hX dX11_reckons_64 1 rfl ?_
        refine jf_iconst (v := 1) hX dX11_reckons_66 (by decide) ?_
        refine jf_icmp_ne (tgt := 84) hX dX11_reckons_67 (by decide) ?_ ?_
        · refine jf_iload hX dX11_reckons_84 1 rfl ?_
          refine jf_bipush (v := 11) hX dX11_reckons_86 (by decide) ?_
          refine jf_icmp_ne (tgt := 104) hX dX11_reckons_88 (by decide) ?_ ?_
          · refine jf_aload_n hX dX11_reckons_104 2 rfl ?_
            refine jf_callV (As := []) (st := []) hX mo_X11_pop wml_184 winst_185 wsel_186 11 ck_X11 rfl (fun l D cT z0 ks => kX11_pop N l D cT z0 ks x0 u) (by decide) (by decide) (by decide) (by decide) (Nat.le_of_ble_eq_true rfl) rfl rfl dX11_reckons_105 (fun r7 u8 => ?_)
            refine jf_lstore (lv' := [(7, .long r7), (6, .int v6), (5, .int v4), (0, .ref x0), (1, .int x1), (3, .int x3), (4, .int x4)]) hX dX11_reckons_108 (by decide) rfl ?_
            refine jf_aload_n hX dX11_reckons_110 3 rfl ?_
            refine jf_callV (As := []) (st := []) hX mo_X11_pop wml_184 winst_185 wsel_186 11 ck_X11 rfl (fun l D cT z0 ks => kX11_pop N l D cT z0 ks x0 u8) (by decide) (by decide) (by decide) (by decide) (Nat.le_of_ble_eq_true rfl) rfl rfl dX11_reckons_111 (fun r9 u10 => ?_)
            refine jf_lstore (lv' := [(9, .long r9), (7, .long r7), (6, .int v6), (5, .int v4), (0, .ref x0), (1, .int x1), (3, .int x3), (4, .int x4)]) hX dX11_reckons_114 (by decide) rfl ?_
            refine jf_aload_n hX dX11_reckons_116 4 rfl ?_
            refine jf_iload hX dX11_reckons_117 3 rfl ?_
            refine jf_lload hX dX11_reckons_119 0 rfl ?_
            refine jf_lload hX dX11_reckons_121 1 rfl ?_
            refine jf_callS (As := [.int v4, .long r9, .long r7]) (st := [.ref x0]) hX mo_X11_one wml_187 wstat_188 rfl (fun l D cT z0 ks => kX11_one N l D cT z0 ks v4 r9 r7 u10) (by decide) (by decide) (by decide) (by decide) (Nat.le_of_ble_eq_true rfl) rfl rfl dX11_reckons_123 (fun r11 u12 => ?_)
            refine jf_callV (As := [.long r11]) (st := []) hX mo_X11_push wml_189 winst_190 wsel_191 11 ck_X11 rfl (fun l D cT z0 ks => kX11_push N l D cT z0 ks x0 r11 u12) (by decide) (by decide) (by decide) (by decide) (Nat.le_of_ble_eq_true rfl) rfl rfl dX11_reckons_126 (fun r13 u14 => ?_)
            refine jf_iinc (v := 1) (lv' := [(4, .int (x4 + (1 : Int32))), (9, .long r9), (7, .long r7), (6, .int v6), (5, .int v4), (0, .ref x0), (1, .int x1), (3, .int x3)]) hX dX11_reckons_129 7 rfl (by decide) (by decide) rfl ?_
            refine jf_goto (tgt := 8) hX dX11_reckons_132 (by decide) ?_
            refine jf_lv [5, 6, 7, 0] rfl ?_
            exact hrec8 x0 x1 x3 (x4 + (1 : Int32)) u14
          · refine jf_aload_n hX dX11_reckons_91 2 rfl ?_
            refine jf_lconst (v := 1) hX dX11_reckons_92 (by decide) ?_
            refine jf_aload_n hX dX11_reckons_93 2 rfl ?_
            refine jf_callV (As := []) (st := [.long (1 : Int64), .ref x0]) hX mo_X11_pop wml_184 winst_185 wsel_186 11 ck_X11 rfl (fun l D cT z0 ks => kX11_pop N l D cT z0 ks x0 u) (by decide) (by decide) (by decide) (by decide) (Nat.le_of_ble_eq_true rfl) rfl rfl dX11_reckons_94 (fun r15 u16 => ?_)
            refine jf_lsub hX dX11_reckons_97 ?_
            refine jf_callV (As := [.long ((1 : Int64) - r15)]) (st := []) hX mo_X11_push wml_189 winst_190 wsel_191 11 ck_X11 rfl (fun l D cT z0 ks => kX11_push N l D cT z0 ks x0 ((1 : Int64) - r15) u16) (by decide) (by decide) (by decide) (by decide) (Nat.le_of_ble_eq_true rfl) rfl rfl dX11_reckons_98 (fun r17 u18 => ?_)
            refine jf_goto (tgt := 129) hX dX11_reckons_101 (by decide) ?_
            refine jf_iinc (v := 1) (lv' := [(4, .int (x4 + (1 : Int32))), (6, .int v6), (5, .int v4), (0, .ref x0), (1, .int x1), (3, .int x3)]) hX dX11_reckons_129 5 rfl (by decide) (by decide) rfl ?_
            refine jf_goto (tgt := 8) hX dX11_reckons_132 (by decide) ?_
            refine jf_lv [3, 4, 5, 0] rfl ?_
            exact hrec8 x0 x1 x3 (x4 + (1 : Int32)) u18
        · refine jf_aload_n hX dX11_reckons_70 2 rfl ?_
          refine jf_aload_n hX dX11_reckons_71 2 rfl ?_
          refine jf_getR hX ck_X11 19 wfl_30 (by decide) rfl dX11_reckons_72 ?_
          refine jf_nn (fun q19 => ?_)
          refine jf_iload hX dX11_reckons_75 0 rfl ?_
          refine jf_lald hX dX11_reckons_77 ?_
          refine jf_callV (As := [.long (zL u q19 v6.toNatClampNeg)]) (st := []) hX mo_X11_push wml_189 winst_190 wsel_191 11 ck_X11 rfl (fun l D cT z0 ks => kX11_push N l D cT z0 ks x0 (zL u q19 v6.toNatClampNeg) u) (by decide) (by decide) (by decide) (by decide) (Nat.le_of_ble_eq_true rfl) rfl rfl dX11_reckons_78 (fun r20 u21 => ?_)
          refine jf_goto (tgt := 129) hX dX11_reckons_81 (by decide) ?_
          refine jf_iinc (v := 1) (lv' := [(4, .int (x4 + (1 : Int32))), (6, .int v6), (5, .int v4), (0, .ref x0), (1, .int x1), (3, .int x3)]) hX dX11_reckons_129 5 rfl (by decide) (by decide) rfl ?_
          refine jf_goto (tgt := 8) hX dX11_reckons_132 (by decide) ?_
          refine jf_lv [3, 4, 5, 0] rfl ?_
          exact hrec8 x0 x1 x3 (x4 + (1 : Int32)) u21
      · refine jf_aload_n hX dX11_reckons_54 2 rfl ?_
        refine jf_iload hX dX11_reckons_55 0 rfl ?_
        refine jf_i2l hX dX11_reckons_57 ?_
        refine jf_callV (As := [.long v6.toInt64]) (st := []) hX mo_X11_push wml_189 winst_190 wsel_191 11 ck_X11 rfl (fun l D cT z0 ks => kX11_push N l D cT z0 ks x0 v6.toInt64 u) (by decide) (by decide) (by decide) (by decide) (Nat.le_of_ble_eq_true rfl) rfl rfl dX11_reckons_58 (fun r22 u23 => ?_)
        refine jf_goto (tgt := 129) hX dX11_reckons_61 (by decide) ?_
        refine jf_iinc (v := 1) (lv' := [(4, .int (x4 + (1 : Int32))), (6, .int v6), (5, .int v4), (0, .ref x0), (1, .int x1), (3, .int x3)]) hX dX11_reckons_129 5 rfl (by decide) (by decide) rfl ?_
        refine jf_goto (tgt := 8) hX dX11_reckons_132 (by decide) ?_
        refine jf_lv [3, 4, 5, 0] rfl ?_
        exact hrec8 x0 x1 x3 (x4 + (1 : Int32)) u23
set_option maxRecDepth 20000 in
def fX11_reckons (N : Nat)  (a0 : Nat) (p1 : Int32) (p2 : Int32) (p3 : Int32) (u : SG) : Option (Int64 × SG) := if zK u a0 = 12 then bs (sI u a0 18 (0 : Int32)) fun u1 => (gX11_reckons_8 N  N a0 p1 p3 p2 u1) else none
set_option maxRecDepth 20000 in
set_option maxHeartbeats 4000000 in
theorem kX11_reckons  (N : Nat)  (l : Launch) (D : va_G) (cT : Nat → ClassId) (z0 : Nat) (ks : Nat × Nat) (a0 : Nat) (p1 : Int32) (p2 : Int32) (p3 : Int32) (u : SG) : Ct l D cT z0 ks yX11_reckons cX11_reckons 11 (some .long) 2 0 0 vL [.ref a0, .int p1, .int p2, .int p3] u (fX11_reckons N  a0 p1 p2 p3 u) := by
  unfold fX11_reckons
  refine ct_of (by decide +kernel) (Nat.le_of_ble_eq_true rfl) (fun p e R s m args below meth c hX => ?_)
  show JF _ True 11 0 0 _ 0 [(0, .ref a0), (1, .int p1), (2, .int p2), (3, .int p3)] [] u _
  refine jf_aload_n hX dX11_reckons_0 0 rfl ?_
  refine jf_iconst (v := 0) hX dX11_reckons_1 (by decide) ?_
  refine jf_putI hX trivial ck_X11 18 wfl_183 (by decide) rfl rfl rfl dX11_reckons_2 (fun u1 => ?_)
  refine jf_iload_n hX dX11_reckons_5 2 rfl ?_
  refine jf_istore (lv' := [(4, .int p2), (0, .ref a0), (1, .int p1), (2, .int p2), (3, .int p3)]) hX dX11_reckons_6 (by decide) rfl ?_
  refine jf_lv [1, 2, 4, 0] rfl ?_
  exact jgX11_reckons_8 hX N  N a0 p1 p3 p2 u1
set_option maxRecDepth 20000 in
def fX11_isStreet (N : Nat)  (a0 : Nat) (u : SG) : Option (Int32 × SG) := if zK u a0 = 12 then (Option.bind (zR u a0 20) fun q1 => (if zK u q1 = 22 then if zN u q1 ≤ 0 then none else (if (zI u q1 0) ≤ 0 then (some ((0 : Int32), u))
  else (some ((1 : Int32), u))) else none)) else none
set_option maxRecDepth 20000 in
set_option maxHeartbeats 4000000 in
theorem kX11_isStreet  (N : Nat)  (l : Launch) (D : va_G) (cT : Nat → ClassId) (z0 : Nat) (ks : Nat × Nat) (a0 : Nat) (u : SG) : Ct l D cT z0 ks yX11_isStreet cX11_isStreet 1 (some .boolean) 1 0 0 vI [.ref a0] u (fX11_isStreet N  a0 u) := by
  unfold fX11_isStreet
  refine ct_of (by decide +kernel) (Nat.le_of_ble_eq_true rfl) (fun p e R s m args below meth c hX => ?_)
  show JF _ True 1 0 0 _ 0 [(0, .ref a0)] [] u _
  refine jf_aload_n hX dX11_isStreet_0 0 rfl ?_
  refine jf_getR hX ck_X11 20 wfl_31 (by decide) rfl dX11_isStreet_1 ?_
  refine jf_nn (fun q1 => ?_)
  refine jf_iconst (v := 0) hX dX11_isStreet_4 (by decide) ?_
  refine jf_ialdc 0 hX (by decide) (by decide) dX11_isStreet_5 ?_
  refine jf_if_le (tgt := 13) hX dX11_isStreet_6 (by decide) ?_ ?_
  · refine jf_iconst (v := 0) hX dX11_isStreet_13 (by decide) ?_
    exact jf_zretc hX rfl (by decide) (by decide) (by decide) dX11_isStreet_14
  · refine jf_iconst (v := 1) hX dX11_isStreet_9 (by decide) ?_
    refine jf_goto (tgt := 14) hX dX11_isStreet_10 (by decide) ?_
    exact jf_zretc hX rfl (by decide) (by decide) (by decide) dX11_isStreet_14
set_option maxRecDepth 20000 in
def fX11_isPerson (N : Nat)  (a0 : Nat) (p1 : Int32) (u : SG) : Option (Int32 × SG) := if p1 < 0 then (some ((0 : Int32), u))
  else (if zK u a0 = 12 then (Option.bind (zR u a0 20) fun q1 => (if zK u q1 = 22 then if zN u q1 ≤ 1 then none else (if (zI u q1 1) ≤ p1 then (some ((0 : Int32), u))
  else (some ((1 : Int32), u))) else none)) else none)
set_option maxRecDepth 20000 in
set_option maxHeartbeats 4000000 in
theorem kX11_isPerson  (N : Nat)  (l : Launch) (D : va_G) (cT : Nat → ClassId) (z0 : Nat) (ks : Nat × Nat) (a0 : Nat) (p1 : Int32) (u : SG) : Ct l D cT z0 ks yX11_isPerson cX11_isPerson 2 (some .boolean) 1 0 0 vI [.ref a0, .int p1] u (fX11_isPerson N  a0 p1 u) := by
  unfold fX11_isPerson
  refine ct_of (by decide +kernel) (Nat.le_of_ble_eq_true rfl) (fun p e R s m args below meth c hX => ?_)
  show JF _ True 2 0 0 _ 0 [(0, .ref a0), (1, .int p1)] [] u _
  refine jf_iload_n hX dX11_isPerson_0 1 rfl ?_
  refine jf_if_lt (tgt := 18) hX dX11_isPerson_1 (by decide) ?_ ?_
  · refine jf_iconst (v := 0) hX dX11_isPerson_18 (by decide) ?_
    exact jf_zretc hX rfl (by decide) (by decide) (by decide) dX11_isPerson_19
  · refine jf_iload_n hX dX11_isPerson_4 1 rfl ?_
    refine jf_aload_n hX dX11_isPerson_5 0 rfl ?_
    refine jf_getR hX ck_X11 20 wfl_31 (by decide) rfl dX11_isPerson_6 ?_
    refine jf_nn (fun q1 => ?_)
    refine jf_iconst (v := 1) hX dX11_isPerson_9 (by decide) ?_
    refine jf_ialdc 1 hX (by decide) (by decide) dX11_isPerson_10 ?_
    refine jf_icmp_ge (tgt := 18) hX dX11_isPerson_11 (by decide) ?_ ?_
    · refine jf_iconst (v := 0) hX dX11_isPerson_18 (by decide) ?_
      exact jf_zretc hX rfl (by decide) (by decide) (by decide) dX11_isPerson_19
    · refine jf_iconst (v := 1) hX dX11_isPerson_14 (by decide) ?_
      refine jf_goto (tgt := 19) hX dX11_isPerson_15 (by decide) ?_
      exact jf_zretc hX rfl (by decide) (by decide) (by decide) dX11_isPerson_19
set_option maxRecDepth 20000 in
def fX11_isLamp (N : Nat)  (a0 : Nat) (p1 : Int32) (u : SG) : Option (Int32 × SG) := if p1 < 0 then (some ((0 : Int32), u))
  else (if zK u a0 = 12 then (Option.bind (zR u a0 20) fun q1 => (if zK u q1 = 22 then if zN u q1 ≤ 3 then none else (if (zI u q1 3) ≤ p1 then (some ((0 : Int32), u))
  else (some ((1 : Int32), u))) else none)) else none)
set_option maxRecDepth 20000 in
set_option maxHeartbeats 4000000 in
theorem kX11_isLamp  (N : Nat)  (l : Launch) (D : va_G) (cT : Nat → ClassId) (z0 : Nat) (ks : Nat × Nat) (a0 : Nat) (p1 : Int32) (u : SG) : Ct l D cT z0 ks yX11_isLamp cX11_isLamp 2 (some .boolean) 1 0 0 vI [.ref a0, .int p1] u (fX11_isLamp N  a0 p1 u) := by
  unfold fX11_isLamp
  refine ct_of (by decide +kernel) (Nat.le_of_ble_eq_true rfl) (fun p e R s m args below meth c hX => ?_)
  show JF _ True 2 0 0 _ 0 [(0, .ref a0), (1, .int p1)] [] u _
  refine jf_iload_n hX dX11_isLamp_0 1 rfl ?_
  refine jf_if_lt (tgt := 18) hX dX11_isLamp_1 (by decide) ?_ ?_
  · refine jf_iconst (v := 0) hX dX11_isLamp_18 (by decide) ?_
    exact jf_zretc hX rfl (by decide) (by decide) (by decide) dX11_isLamp_19
  · refine jf_iload_n hX dX11_isLamp_4 1 rfl ?_
    refine jf_aload_n hX dX11_isLamp_5 0 rfl ?_
    refine jf_getR hX ck_X11 20 wfl_31 (by decide) rfl dX11_isLamp_6 ?_
    refine jf_nn (fun q1 => ?_)
    refine jf_iconst (v := 3) hX dX11_isLamp_9 (by decide) ?_
    refine jf_ialdc 3 hX (by decide) (by decide) dX11_isLamp_10 ?_
    refine jf_icmp_ge (tgt := 18) hX dX11_isLamp_11 (by decide) ?_ ?_
    · refine jf_iconst (v := 0) hX dX11_isLamp_18 (by decide) ?_
      exact jf_zretc hX rfl (by decide) (by decide) (by decide) dX11_isLamp_19
    · refine jf_iconst (v := 1) hX dX11_isLamp_14 (by decide) ?_
      refine jf_goto (tgt := 19) hX dX11_isLamp_15 (by decide) ?_
      exact jf_zretc hX rfl (by decide) (by decide) (by decide) dX11_isLamp_19
set_option maxRecDepth 20000 in
def fX11_personOf (N : Nat)  (a0 : Nat) (p1 : Int32) (p2 : Int32) (u : SG) : Option (Int32 × SG) := if zK u a0 = 12 then (Option.bind (zR u a0 20) fun q1 => (if zK u q1 = 22 then if (((10 : Int32) + ((6 : Int32) * p1)) + p2) < 0 ∨ zN u q1 ≤ (((10 : Int32) + ((6 : Int32) * p1)) + p2).toNatClampNeg then none else (some (zI u q1 (((10 : Int32) + ((6 : Int32) * p1)) + p2).toNatClampNeg, u)) else none)) else none
set_option maxRecDepth 20000 in
set_option maxHeartbeats 4000000 in
theorem kX11_personOf  (N : Nat)  (l : Launch) (D : va_G) (cT : Nat → ClassId) (z0 : Nat) (ks : Nat × Nat) (a0 : Nat) (p1 : Int32) (p2 : Int32) (u : SG) : Ct l D cT z0 ks yX11_personOf cX11_personOf 3 (some .int) 1 0 0 vI [.ref a0, .int p1, .int p2] u (fX11_personOf N  a0 p1 p2 u) := by
  unfold fX11_personOf
  refine ct_of (by decide +kernel) (Nat.le_of_ble_eq_true rfl) (fun p e R s m args below meth c hX => ?_)
  show JF _ True 3 0 0 _ 0 [(0, .ref a0), (1, .int p1), (2, .int p2)] [] u _
  refine jf_aload_n hX dX11_personOf_0 0 rfl ?_
  refine jf_getR hX ck_X11 20 wfl_31 (by decide) rfl dX11_personOf_1 ?_
  refine jf_nn (fun q1 => ?_)
  refine jf_bipush (v := 10) hX dX11_personOf_4 (by decide) ?_
  refine jf_bipush (v := 6) hX dX11_personOf_6 (by decide) ?_
  refine jf_iload_n hX dX11_personOf_8 1 rfl ?_
  refine jf_imul hX dX11_personOf_9 ?_
  refine jf_iadd hX dX11_personOf_10 ?_
  refine jf_iload_n hX dX11_personOf_11 2 rfl ?_
  refine jf_iadd hX dX11_personOf_12 ?_
  refine jf_iald hX dX11_personOf_13 ?_
  exact jf_iret hX rfl (by decide) (by decide) dX11_personOf_14
set_option maxRecDepth 20000 in
def gX11_worksIn_2 (N : Nat)   : Nat → Nat → Int32 → Int32 → Int32 → SG → Option (Int32 × SG)
  | 0, _, _, _, _, _ => none
  | n + 1, x0, x1, x2, x3, u => if zK u x0 = 12 then (Option.bind (zR u x0 20) fun q1 => (if zK u q1 = 22 then if zN u q1 ≤ 2 then none else (if (zI u q1 2) ≤ x3 then (some ((0 : Int32), u))
  else (bs ((45 : Int32) + ((3 : Int32) * x3)) fun v2 => (if zK u x0 = 12 then (Option.bind (zR u x0 20) fun q3 => (if zK u q3 = 22 then if v2 < 0 ∨ zN u q3 ≤ v2.toNatClampNeg then none else (if (zI u q3 v2.toNatClampNeg) = x1 then (if zK u x0 = 12 then (Option.bind (zR u x0 20) fun q4 => (if zK u q4 = 22 then if (v2 + (1 : Int32)) < 0 ∨ zN u q4 ≤ (v2 + (1 : Int32)).toNatClampNeg then none else (if x2 < (zI u q4 (v2 + (1 : Int32)).toNatClampNeg) then ((gX11_worksIn_2 N  n) x0 x1 x2 (x3 + (1 : Int32)) u)
  else (if zK u x0 = 12 then (Option.bind (zR u x0 20) fun q5 => (if zK u q5 = 22 then if (v2 + (2 : Int32)) < 0 ∨ zN u q5 ≤ (v2 + (2 : Int32)).toNatClampNeg then none else (if (zI u q5 (v2 + (2 : Int32)).toNatClampNeg) < x2 then ((gX11_worksIn_2 N  n) x0 x1 x2 (x3 + (1 : Int32)) u)
  else (some ((1 : Int32), u))) else none)) else none)) else none)) else none)
  else ((gX11_worksIn_2 N  n) x0 x1 x2 (x3 + (1 : Int32)) u)) else none)) else none))) else none)) else none
set_option maxRecDepth 20000 in
set_option maxHeartbeats 4000000 in
theorem jgX11_worksIn_2   {X : XT} (hX : Cx X yX11_worksIn cX11_worksIn 5 (some .boolean) 1 0 0) (N : Nat)  : ∀ (n : Nat) (x0 : Nat) (x1 : Int32) (x2 : Int32) (x3 : Int32) (u : SG), JF X True 5 0 0 (jQ X vI 0 0) 2 [(0, .ref x0), (1, .int x1), (2, .int x2), (3, .int x3)] [] u (gX11_worksIn_2 N   n x0 x1 x2 x3 u) := by
  intro n
  induction n with
  | zero => intros; intro r u9 h9; exact absurd h9 (by simp [gX11_worksIn_2])
  | succ n ih =>
    intro x0 x1 x2 x3 u
    have hrec2 := ih
    rw [gX11_worksIn_2]
    refine jf_iload_n hX dX11_worksIn_2 3 rfl ?_
    refine jf_aload_n hX dX11_worksIn_3 0 rfl ?_
    refine jf_getR hX ck_X11 20 wfl_31 (by decide) rfl dX11_worksIn_4 ?_
    refine jf_nn (fun q1 => ?_)
    refine jf_iconst (v := 2) hX dX11_worksIn_7 (by decide) ?_
    refine jf_ialdc 2 hX (by decide) (by decide) dX11_worksIn_8 ?_
    refine jf_icmp_ge (tgt := 65) hX dX11_worksIn_9 (by decide) ?_ ?_
    · refine jf_iconst (v := 0) hX dX11_worksIn_65 (by decide) ?_
      exact jf_zretc hX rfl (by decide) (by decide) (by decide) dX11_worksIn_66
    · refine jf_bipush (v := 45) hX dX11_worksIn_12 (by decide) ?_
      refine jf_iconst (v := 3) hX dX11_worksIn_14 (by decide) ?_
      refine jf_iload_n hX dX11_worksIn_15 3 rfl ?_
      refine jf_imul hX dX11_worksIn_16 ?_
      refine jf_iadd hX dX11_worksIn_17 ?_
      refine jf_nmI (fun v2 => ?_)
      refine jf_istore (lv' := [(4, .int v2), (0, .ref x0), (1, .int x1), (2, .int x2), (3, .int x3)]) hX dX11_worksIn_18 (by decide) rfl ?_
      refine jf_aload_n hX dX11_worksIn_20 1 rfl ?_
      refine jf_getR hX ck_X11 20 wfl_31 (by decide) rfl dX11_worksIn_21 ?_
      refine jf_nn (fun q3 => ?_)
      refine jf_iload hX dX11_worksIn_24 0 rfl ?_
      refine jf_iald hX dX11_worksIn_26 ?_
      refine jf_iload_n hX dX11_worksIn_27 2 rfl ?_
      refine jf_icmp_ne (tgt := 59) hX dX11_worksIn_28 (by decide) ?_ ?_
      · refine jf_iinc (v := 1) (lv' := [(3, .int (x3 + (1 : Int32))), (4, .int v2), (0, .ref x0), (1, .int x1), (2, .int x2)]) hX dX11_worksIn_59 4 rfl (by decide) (by decide) rfl ?_
        refine jf_goto (tgt := 2) hX dX11_worksIn_62 (by decide) ?_
        refine jf_lv [2, 3, 4, 0] rfl ?_
        exact hrec2 x0 x1 x2 (x3 + (1 : Int32)) u
      · refine jf_iload_n hX dX11_worksIn_31 3 rfl ?_
        refine jf_aload_n hX dX11_worksIn_32 1 rfl ?_
        refine jf_getR hX ck_X11 20 wfl_31 (by decide) rfl dX11_worksIn_33 ?_
        refine jf_nn (fun q4 => ?_)
        refine jf_iload hX dX11_worksIn_36 0 rfl ?_
        refine jf_iconst (v := 1) hX dX11_worksIn_38 (by decide) ?_
        refine jf_iadd hX dX11_worksIn_39 ?_
        refine jf_iald hX dX11_worksIn_40 ?_
        refine jf_icmp_lt (tgt := 59) hX dX11_worksIn_41 (by decide) ?_ ?_
        · refine jf_iinc (v := 1) (lv' := [(3, .int (x3 + (1 : Int32))), (4, .int v2), (0, .ref x0), (1, .int x1), (2, .int x2)]) hX dX11_worksIn_59 4 rfl (by decide) (by decide) rfl ?_
          refine jf_goto (tgt := 2) hX dX11_worksIn_62 (by decide) ?_
          refine jf_lv [2, 3, 4, 0] rfl ?_
          exact hrec2 x0 x1 x2 (x3 + (1 : Int32)) u
        · refine jf_iload_n hX dX11_worksIn_44 3 rfl ?_
          refine jf_aload_n hX dX11_worksIn_45 1 rfl ?_
          refine jf_getR hX ck_X11 20 wfl_31 (by decide) rfl dX11_worksIn_46 ?_
          refine jf_nn (fun q5 => ?_)
          refine jf_iload hX dX11_worksIn_49 0 rfl ?_
          refine jf_iconst (v := 2) hX dX11_worksIn_51 (by decide) ?_
          refine jf_iadd hX dX11_worksIn_52 ?_
          refine jf_iald hX dX11_worksIn_53 ?_
          refine jf_icmp_gt (tgt := 59) hX dX11_worksIn_54 (by decide) ?_ ?_
          · refine jf_iinc (v := 1) (lv' := [(3, .int (x3 + (1 : Int32))), (4, .int v2), (0, .ref x0), (1, .int x1), (2, .int x2)]) hX dX11_worksIn_59 4 rfl (by decide) (by decide) rfl ?_
            refine jf_goto (tgt := 2) hX dX11_worksIn_62 (by decide) ?_
            refine jf_lv [2, 3, 4, 0] rfl ?_
            exact hrec2 x0 x1 x2 (x3 + (1 : Int32)) u
          · refine jf_iconst (v := 1) hX dX11_worksIn_57 (by decide) ?_
            exact jf_zretc hX rfl (by decide) (by decide) (by decide) dX11_worksIn_58
set_option maxRecDepth 20000 in
def fX11_worksIn (N : Nat)  (a0 : Nat) (p1 : Int32) (p2 : Int32) (u : SG) : Option (Int32 × SG) := gX11_worksIn_2 N  N a0 p1 p2 (0 : Int32) u
set_option maxRecDepth 20000 in
set_option maxHeartbeats 4000000 in
theorem kX11_worksIn  (N : Nat)  (l : Launch) (D : va_G) (cT : Nat → ClassId) (z0 : Nat) (ks : Nat × Nat) (a0 : Nat) (p1 : Int32) (p2 : Int32) (u : SG) : Ct l D cT z0 ks yX11_worksIn cX11_worksIn 5 (some .boolean) 1 0 0 vI [.ref a0, .int p1, .int p2] u (fX11_worksIn N  a0 p1 p2 u) := by
  unfold fX11_worksIn
  refine ct_of (by decide +kernel) (Nat.le_of_ble_eq_true rfl) (fun p e R s m args below meth c hX => ?_)
  show JF _ True 5 0 0 _ 0 [(0, .ref a0), (1, .int p1), (2, .int p2)] [] u _
  refine jf_iconst (v := 0) hX dX11_worksIn_0 (by decide) ?_
  refine jf_istore_n (lv' := [(3, .int (0 : Int32)), (0, .ref a0), (1, .int p1), (2, .int p2)]) hX dX11_worksIn_1 rfl (by decide) rfl ?_
  refine jf_lv [1, 2, 3, 0] rfl ?_
  exact jgX11_worksIn_2 hX N  N a0 p1 p2 (0 : Int32) u
set_option maxRecDepth 20000 in
def gX11_isLitIn_2 (N : Nat)   : Nat → Nat → Int32 → Int32 → Int32 → SG → Option (Int32 × SG)
  | 0, _, _, _, _, _ => none
  | n + 1, x0, x1, x2, x3, u => if zK u x0 = 12 then (Option.bind (zR u x0 20) fun q1 => (if zK u q1 = 22 then if zN u q1 ≤ 4 then none else (if (zI u q1 4) ≤ x3 then (some ((0 : Int32), u))
  else (bs ((79 : Int32) + ((3 : Int32) * x3)) fun v2 => (if zK u x0 = 12 then (Option.bind (zR u x0 20) fun q3 => (if zK u q3 = 22 then if v2 < 0 ∨ zN u q3 ≤ v2.toNatClampNeg then none else (if (zI u q3 v2.toNatClampNeg) = x1 then (if zK u x0 = 12 then (Option.bind (zR u x0 20) fun q4 => (if zK u q4 = 22 then if (v2 + (1 : Int32)) < 0 ∨ zN u q4 ≤ (v2 + (1 : Int32)).toNatClampNeg then none else (if x2 < (zI u q4 (v2 + (1 : Int32)).toNatClampNeg) then ((gX11_isLitIn_2 N  n) x0 x1 x2 (x3 + (1 : Int32)) u)
  else (if zK u x0 = 12 then (Option.bind (zR u x0 20) fun q5 => (if zK u q5 = 22 then if (v2 + (2 : Int32)) < 0 ∨ zN u q5 ≤ (v2 + (2 : Int32)).toNatClampNeg then none else (if (zI u q5 (v2 + (2 : Int32)).toNatClampNeg) < x2 then ((gX11_isLitIn_2 N  n) x0 x1 x2 (x3 + (1 : Int32)) u)
  else (some ((1 : Int32), u))) else none)) else none)) else none)) else none)
  else ((gX11_isLitIn_2 N  n) x0 x1 x2 (x3 + (1 : Int32)) u)) else none)) else none))) else none)) else none
set_option maxRecDepth 20000 in
set_option maxHeartbeats 4000000 in
theorem jgX11_isLitIn_2   {X : XT} (hX : Cx X yX11_isLitIn cX11_isLitIn 5 (some .boolean) 1 0 0) (N : Nat)  : ∀ (n : Nat) (x0 : Nat) (x1 : Int32) (x2 : Int32) (x3 : Int32) (u : SG), JF X True 5 0 0 (jQ X vI 0 0) 2 [(0, .ref x0), (1, .int x1), (2, .int x2), (3, .int x3)] [] u (gX11_isLitIn_2 N   n x0 x1 x2 x3 u) := by
  intro n
  induction n with
  | zero => intros; intro r u9 h9; exact absurd h9 (by simp [gX11_isLitIn_2])
  | succ n ih =>
    intro x0 x1 x2 x3 u
    have hrec2 := ih
    rw [gX11_isLitIn_2]
    refine jf_iload_n hX dX11_isLitIn_2 3 rfl ?_
    refine jf_aload_n hX dX11_isLitIn_3 0 rfl ?_
    refine jf_getR hX ck_X11 20 wfl_31 (by decide) rfl dX11_isLitIn_4 ?_
    refine jf_nn (fun q1 => ?_)
    refine jf_iconst (v := 4) hX dX11_isLitIn_7 (by decide) ?_
    refine jf_ialdc 4 hX (by decide) (by decide) dX11_isLitIn_8 ?_
    refine jf_icmp_ge (tgt := 65) hX dX11_isLitIn_9 (by decide) ?_ ?_
    · refine jf_iconst (v := 0) hX dX11_isLitIn_65 (by decide) ?_
      exact jf_zretc hX rfl (by decide) (by decide) (by decide) dX11_isLitIn_66
    · refine jf_bipush (v := 79) hX dX11_isLitIn_12 (by decide) ?_
      refine jf_iconst (v := 3) hX dX11_isLitIn_14 (by decide) ?_
      refine jf_iload_n hX dX11_isLitIn_15 3 rfl ?_
      refine jf_imul hX dX11_isLitIn_16 ?_
      refine jf_iadd hX dX11_isLitIn_17 ?_
      refine jf_nmI (fun v2 => ?_)
      refine jf_istore (lv' := [(4, .int v2), (0, .ref x0), (1, .int x1), (2, .int x2), (3, .int x3)]) hX dX11_isLitIn_18 (by decide) rfl ?_
      refine jf_aload_n hX dX11_isLitIn_20 1 rfl ?_
      refine jf_getR hX ck_X11 20 wfl_31 (by decide) rfl dX11_isLitIn_21 ?_
      refine jf_nn (fun q3 => ?_)
      refine jf_iload hX dX11_isLitIn_24 0 rfl ?_
      refine jf_iald hX dX11_isLitIn_26 ?_
      refine jf_iload_n hX dX11_isLitIn_27 2 rfl ?_
      refine jf_icmp_ne (tgt := 59) hX dX11_isLitIn_28 (by decide) ?_ ?_
      · refine jf_iinc (v := 1) (lv' := [(3, .int (x3 + (1 : Int32))), (4, .int v2), (0, .ref x0), (1, .int x1), (2, .int x2)]) hX dX11_isLitIn_59 4 rfl (by decide) (by decide) rfl ?_
        refine jf_goto (tgt := 2) hX dX11_isLitIn_62 (by decide) ?_
        refine jf_lv [2, 3, 4, 0] rfl ?_
        exact hrec2 x0 x1 x2 (x3 + (1 : Int32)) u
      · refine jf_iload_n hX dX11_isLitIn_31 3 rfl ?_
        refine jf_aload_n hX dX11_isLitIn_32 1 rfl ?_
        refine jf_getR hX ck_X11 20 wfl_31 (by decide) rfl dX11_isLitIn_33 ?_
        refine jf_nn (fun q4 => ?_)
        refine jf_iload hX dX11_isLitIn_36 0 rfl ?_
        refine jf_iconst (v := 1) hX dX11_isLitIn_38 (by decide) ?_
        refine jf_iadd hX dX11_isLitIn_39 ?_
        refine jf_iald hX dX11_isLitIn_40 ?_
        refine jf_icmp_lt (tgt := 59) hX dX11_isLitIn_41 (by decide) ?_ ?_
        · refine jf_iinc (v := 1) (lv' := [(3, .int (x3 + (1 : Int32))), (4, .int v2), (0, .ref x0), (1, .int x1), (2, .int x2)]) hX dX11_isLitIn_59 4 rfl (by decide) (by decide) rfl ?_
          refine jf_goto (tgt := 2) hX dX11_isLitIn_62 (by decide) ?_
          refine jf_lv [2, 3, 4, 0] rfl ?_
          exact hrec2 x0 x1 x2 (x3 + (1 : Int32)) u
        · refine jf_iload_n hX dX11_isLitIn_44 3 rfl ?_
          refine jf_aload_n hX dX11_isLitIn_45 1 rfl ?_
          refine jf_getR hX ck_X11 20 wfl_31 (by decide) rfl dX11_isLitIn_46 ?_
          refine jf_nn (fun q5 => ?_)
          refine jf_iload hX dX11_isLitIn_49 0 rfl ?_
          refine jf_iconst (v := 2) hX dX11_isLitIn_51 (by decide) ?_
          refine jf_iadd hX dX11_isLitIn_52 ?_
          refine jf_iald hX dX11_isLitIn_53 ?_
          refine jf_icmp_gt (tgt := 59) hX dX11_isLitIn_54 (by decide) ?_ ?_
          · refine jf_iinc (v := 1) (lv' := [(3, .int (x3 + (1 : Int32))), (4, .int v2), (0, .ref x0), (1, .int x1), (2, .int x2)]) hX dX11_isLitIn_59 4 rfl (by decide) (by decide) rfl ?_
            refine jf_goto (tgt := 2) hX dX11_isLitIn_62 (by decide) ?_
            refine jf_lv [2, 3, 4, 0] rfl ?_
            exact hrec2 x0 x1 x2 (x3 + (1 : Int32)) u
          · refine jf_iconst (v := 1) hX dX11_isLitIn_57 (by decide) ?_
            exact jf_zretc hX rfl (by decide) (by decide) (by decide) dX11_isLitIn_58
set_option maxRecDepth 20000 in
def fX11_isLitIn (N : Nat)  (a0 : Nat) (p1 : Int32) (p2 : Int32) (u : SG) : Option (Int32 × SG) := gX11_isLitIn_2 N  N a0 p1 p2 (0 : Int32) u
set_option maxRecDepth 20000 in
set_option maxHeartbeats 4000000 in
theorem kX11_isLitIn  (N : Nat)  (l : Launch) (D : va_G) (cT : Nat → ClassId) (z0 : Nat) (ks : Nat × Nat) (a0 : Nat) (p1 : Int32) (p2 : Int32) (u : SG) : Ct l D cT z0 ks yX11_isLitIn cX11_isLitIn 5 (some .boolean) 1 0 0 vI [.ref a0, .int p1, .int p2] u (fX11_isLitIn N  a0 p1 p2 u) := by
  unfold fX11_isLitIn
  refine ct_of (by decide +kernel) (Nat.le_of_ble_eq_true rfl) (fun p e R s m args below meth c hX => ?_)
  show JF _ True 5 0 0 _ 0 [(0, .ref a0), (1, .int p1), (2, .int p2)] [] u _
  refine jf_iconst (v := 0) hX dX11_isLitIn_0 (by decide) ?_
  refine jf_istore_n (lv' := [(3, .int (0 : Int32)), (0, .ref a0), (1, .int p1), (2, .int p2)]) hX dX11_isLitIn_1 rfl (by decide) rfl ?_
  refine jf_lv [1, 2, 3, 0] rfl ?_
  exact jgX11_isLitIn_2 hX N  N a0 p1 p2 (0 : Int32) u
set_option maxRecDepth 20000 in
def fX11_burnsIn (N : Nat)  (a0 : Nat) (p1 : Int32) (p2 : Int32) (u : SG) : Option (Int32 × SG) := if zK u a0 = 12 then (Option.bind (zR u a0 20) fun q1 => (if zK u q1 = 22 then if ((40 : Int32) + p1) < 0 ∨ zN u q1 ≤ ((40 : Int32) + p1).toNatClampNeg then none else (bs (zI u q1 ((40 : Int32) + p1).toNatClampNeg) fun v2 => (if v2 = (1 : Int32) then (some ((1 : Int32), u))
  else (if v2 = 0 then (if zK u a0 = 12 then cl (fX11_isLitIn N a0 p1 p2 u) fun r3 u4 => (if r3 = 0 then (some ((0 : Int32), u4))
  else (some ((1 : Int32), u4))) else none)
  else (some ((0 : Int32), u))))) else none)) else none
set_option maxRecDepth 20000 in
set_option maxHeartbeats 4000000 in
theorem kX11_burnsIn  (N : Nat)  (l : Launch) (D : va_G) (cT : Nat → ClassId) (z0 : Nat) (ks : Nat × Nat) (a0 : Nat) (p1 : Int32) (p2 : Int32) (u : SG) : Ct l D cT z0 ks yX11_burnsIn cX11_burnsIn 4 (some .boolean) 2 0 0 vI [.ref a0, .int p1, .int p2] u (fX11_burnsIn N  a0 p1 p2 u) := by
  unfold fX11_burnsIn
  refine ct_of (by decide +kernel) (Nat.le_of_ble_eq_true rfl) (fun p e R s m args below meth c hX => ?_)
  show JF _ True 4 0 0 _ 0 [(0, .ref a0), (1, .int p1), (2, .int p2)] [] u _
  refine jf_aload_n hX dX11_burnsIn_0 0 rfl ?_
  refine jf_getR hX ck_X11 20 wfl_31 (by decide) rfl dX11_burnsIn_1 ?_
  refine jf_nn (fun q1 => ?_)
  refine jf_bipush (v := 40) hX dX11_burnsIn_4 (by decide) ?_
  refine jf_iload_n hX dX11_burnsIn_6 1 rfl ?_
  refine jf_iadd hX dX11_burnsIn_7 ?_
  refine jf_iald hX dX11_burnsIn_8 ?_
  refine jf_nmI (fun v2 => ?_)
  refine jf_istore_n (lv' := [(3, .int v2), (0, .ref a0), (1, .int p1), (2, .int p2)]) hX dX11_burnsIn_9 rfl (by decide) rfl ?_
  refine jf_iload_n hX dX11_burnsIn_10 0 rfl ?_
  refine jf_iconst (v := 1) hX dX11_burnsIn_11 (by decide) ?_
  refine jf_icmp_eq (tgt := 28) hX dX11_burnsIn_12 (by decide) ?_ ?_
  · refine jf_iconst (v := 1) hX dX11_burnsIn_28 (by decide) ?_
    refine jf_goto (tgt := 33) hX dX11_burnsIn_29 (by decide) ?_
    exact jf_zretc hX rfl (by decide) (by decide) (by decide) dX11_burnsIn_33
  · refine jf_iload_n hX dX11_burnsIn_15 0 rfl ?_
    refine jf_if_ne (tgt := 32) hX dX11_burnsIn_16 (by decide) ?_ ?_
    · refine jf_iconst (v := 0) hX dX11_burnsIn_32 (by decide) ?_
      exact jf_zretc hX rfl (by decide) (by decide) (by decide) dX11_burnsIn_33
    · refine jf_aload_n hX dX11_burnsIn_19 1 rfl ?_
      refine jf_iload_n hX dX11_burnsIn_20 2 rfl ?_
      refine jf_iload_n hX dX11_burnsIn_21 3 rfl ?_
      refine jf_callV (As := [.int p1, .int p2]) (st := []) hX mo_X11_isLitIn wml_192 winst_193 wsel_194 11 ck_X11 rfl (fun l D cT z0 ks => kX11_isLitIn N l D cT z0 ks a0 p1 p2 u) (by decide) (by decide) (by decide) (by decide) (Nat.le_of_ble_eq_true rfl) rfl rfl dX11_burnsIn_22 (fun r3 u4 => ?_)
      refine jf_if_eq (tgt := 32) hX dX11_burnsIn_25 (by decide) ?_ ?_
      · refine jf_iconst (v := 0) hX dX11_burnsIn_32 (by decide) ?_
        exact jf_zretc hX rfl (by decide) (by decide) (by decide) dX11_burnsIn_33
      · refine jf_iconst (v := 1) hX dX11_burnsIn_28 (by decide) ?_
        refine jf_goto (tgt := 33) hX dX11_burnsIn_29 (by decide) ?_
        exact jf_zretc hX rfl (by decide) (by decide) (by decide) dX11_burnsIn_33
set_option maxRecDepth 20000 in
def fX11_costOf (N : Nat)  (a0 : Nat) (p1 : Int32) (u : SG) : Option (Int32 × SG) := if zK u a0 = 12 then (Option.bind (zR u a0 20) fun q1 => (if zK u q1 = 22 then if (((69 : Int32) + ((2 : Int32) * p1)) + (1 : Int32)) < 0 ∨ zN u q1 ≤ (((69 : Int32) + ((2 : Int32) * p1)) + (1 : Int32)).toNatClampNeg then none else (some (zI u q1 (((69 : Int32) + ((2 : Int32) * p1)) + (1 : Int32)).toNatClampNeg, u)) else none)) else none
set_option maxRecDepth 20000 in
set_option maxHeartbeats 4000000 in
theorem kX11_costOf  (N : Nat)  (l : Launch) (D : va_G) (cT : Nat → ClassId) (z0 : Nat) (ks : Nat × Nat) (a0 : Nat) (p1 : Int32) (u : SG) : Ct l D cT z0 ks yX11_costOf cX11_costOf 2 (some .int) 1 0 0 vI [.ref a0, .int p1] u (fX11_costOf N  a0 p1 u) := by
  unfold fX11_costOf
  refine ct_of (by decide +kernel) (Nat.le_of_ble_eq_true rfl) (fun p e R s m args below meth c hX => ?_)
  show JF _ True 2 0 0 _ 0 [(0, .ref a0), (1, .int p1)] [] u _
  refine jf_aload_n hX dX11_costOf_0 0 rfl ?_
  refine jf_getR hX ck_X11 20 wfl_31 (by decide) rfl dX11_costOf_1 ?_
  refine jf_nn (fun q1 => ?_)
  refine jf_bipush (v := 69) hX dX11_costOf_4 (by decide) ?_
  refine jf_iconst (v := 2) hX dX11_costOf_6 (by decide) ?_
  refine jf_iload_n hX dX11_costOf_7 1 rfl ?_
  refine jf_imul hX dX11_costOf_8 ?_
  refine jf_iadd hX dX11_costOf_9 ?_
  refine jf_iconst (v := 1) hX dX11_costOf_10 (by decide) ?_
  refine jf_iadd hX dX11_costOf_11 ?_
  refine jf_iald hX dX11_costOf_12 ?_
  exact jf_iret hX rfl (by decide) (by decide) dX11_costOf_13
set_option maxRecDepth 20000 in
def gX11_costIn_4 (N : Nat)   : Nat → Nat → Int32 → Int32 → Int32 → SG → Option (Int32 × SG)
  | 0, _, _, _, _, _ => none
  | n + 1, x0, x1, x2, x3, u => if zK u x0 = 12 then (Option.bind (zR u x0 20) fun q1 => (if zK u q1 = 22 then if zN u q1 ≤ 3 then none else (if (zI u q1 3) ≤ x3 then (some (x2, u))
  else (if zK u x0 = 12 then cl (fX11_burnsIn N x0 x3 x1 u) fun r2 u3 => (if r2 = 0 then (bs (x2 + (0 : Int32)) fun v4 => ((gX11_costIn_4 N  n) x0 x1 v4 (x3 + (1 : Int32)) u3))
  else (if zK u3 x0 = 12 then cl (fX11_costOf N x0 x3 u3) fun r5 u6 => (bs (x2 + r5) fun v7 => ((gX11_costIn_4 N  n) x0 x1 v7 (x3 + (1 : Int32)) u6)) else none)) else none)) else none)) else none
set_option maxRecDepth 20000 in
set_option maxHeartbeats 4000000 in
theorem jgX11_costIn_4   {X : XT} (hX : Cx X yX11_costIn cX11_costIn 4 (some .int) 3 0 0) (N : Nat)  : ∀ (n : Nat) (x0 : Nat) (x1 : Int32) (x2 : Int32) (x3 : Int32) (u : SG), JF X True 4 0 0 (jQ X vI 0 0) 4 [(0, .ref x0), (1, .int x1), (2, .int x2), (3, .int x3)] [] u (gX11_costIn_4 N   n x0 x1 x2 x3 u) := by
  intro n
  induction n with
  | zero => intros; intro r u9 h9; exact absurd h9 (by simp [gX11_costIn_4])
  | succ n ih =>
    intro x0 x1 x2 x3 u
    have hrec4 := ih
    rw [gX11_costIn_4]
    refine jf_iload_n hX dX11_costIn_4 3 rfl ?_
    refine jf_aload_n hX dX11_costIn_5 0 rfl ?_
    refine jf_getR hX ck_X11 20 wfl_31 (by decide) rfl dX11_costIn_6 ?_
    refine jf_nn (fun q1 => ?_)
    refine jf_iconst (v := 3) hX dX11_costIn_9 (by decide) ?_
    refine jf_ialdc 3 hX (by decide) (by decide) dX11_costIn_10 ?_
    refine jf_icmp_ge (tgt := 41) hX dX11_costIn_11 (by decide) ?_ ?_
    · refine jf_iload_n hX dX11_costIn_41 2 rfl ?_
      exact jf_iret hX rfl (by decide) (by decide) dX11_costIn_42
    · refine jf_iload_n hX dX11_costIn_14 2 rfl ?_
      refine jf_aload_n hX dX11_costIn_15 0 rfl ?_
      refine jf_iload_n hX dX11_costIn_16 3 rfl ?_
      refine jf_iload_n hX dX11_costIn_17 1 rfl ?_
      refine jf_callV (As := [.int x3, .int x1]) (st := [.int x2]) hX mo_X11_burnsIn wml_195 winst_196 wsel_197 11 ck_X11 rfl (fun l D cT z0 ks => kX11_burnsIn N l D cT z0 ks x0 x3 x1 u) (by decide) (by decide) (by decide) (by decide) (Nat.le_of_ble_eq_true rfl) rfl rfl dX11_costIn_18 (fun r2 u3 => ?_)
      refine jf_if_eq (tgt := 32) hX dX11_costIn_21 (by decide) ?_ ?_
      · refine jf_iconst (v := 0) hX dX11_costIn_32 (by decide) ?_
        refine jf_iadd hX dX11_costIn_33 ?_
        refine jf_nmI (fun v4 => ?_)
        refine jf_istore_n (lv' := [(2, .int v4), (0, .ref x0), (1, .int x1), (3, .int x3)]) hX dX11_costIn_34 rfl (by decide) rfl ?_
        refine jf_iinc (v := 1) (lv' := [(3, .int (x3 + (1 : Int32))), (2, .int v4), (0, .ref x0), (1, .int x1)]) hX dX11_costIn_35 3 rfl (by decide) (by decide) rfl ?_
        refine jf_goto (tgt := 4) hX dX11_costIn_38 (by decide) ?_
        refine jf_lv [2, 3, 1, 0] rfl ?_
        exact hrec4 x0 x1 v4 (x3 + (1 : Int32)) u3
      · refine jf_aload_n hX dX11_costIn_24 0 rfl ?_
        refine jf_iload_n hX dX11_costIn_25 3 rfl ?_
        refine jf_callV (As := [.int x3]) (st := [.int x2]) hX mo_X11_costOf wml_198 winst_199 wsel_200 11 ck_X11 rfl (fun l D cT z0 ks => kX11_costOf N l D cT z0 ks x0 x3 u3) (by decide) (by decide) (by decide) (by decide) (Nat.le_of_ble_eq_true rfl) rfl rfl dX11_costIn_26 (fun r5 u6 => ?_)
        refine jf_goto (tgt := 33) hX dX11_costIn_29 (by decide) ?_
        refine jf_iadd hX dX11_costIn_33 ?_
        refine jf_nmI (fun v7 => ?_)
        refine jf_istore_n (lv' := [(2, .int v7), (0, .ref x0), (1, .int x1), (3, .int x3)]) hX dX11_costIn_34 rfl (by decide) rfl ?_
        refine jf_iinc (v := 1) (lv' := [(3, .int (x3 + (1 : Int32))), (2, .int v7), (0, .ref x0), (1, .int x1)]) hX dX11_costIn_35 3 rfl (by decide) (by decide) rfl ?_
        refine jf_goto (tgt := 4) hX dX11_costIn_38 (by decide) ?_
        refine jf_lv [2, 3, 1, 0] rfl ?_
        exact hrec4 x0 x1 v7 (x3 + (1 : Int32)) u6
set_option maxRecDepth 20000 in
def fX11_costIn (N : Nat)  (a0 : Nat) (p1 : Int32) (u : SG) : Option (Int32 × SG) := gX11_costIn_4 N  N a0 p1 (0 : Int32) (0 : Int32) u
set_option maxRecDepth 20000 in
set_option maxHeartbeats 4000000 in
theorem kX11_costIn  (N : Nat)  (l : Launch) (D : va_G) (cT : Nat → ClassId) (z0 : Nat) (ks : Nat × Nat) (a0 : Nat) (p1 : Int32) (u : SG) : Ct l D cT z0 ks yX11_costIn cX11_costIn 4 (some .int) 3 0 0 vI [.ref a0, .int p1] u (fX11_costIn N  a0 p1 u) := by
  unfold fX11_costIn
  refine ct_of (by decide +kernel) (Nat.le_of_ble_eq_true rfl) (fun p e R s m args below meth c hX => ?_)
  show JF _ True 4 0 0 _ 0 [(0, .ref a0), (1, .int p1)] [] u _
  refine jf_iconst (v := 0) hX dX11_costIn_0 (by decide) ?_
  refine jf_istore_n (lv' := [(2, .int (0 : Int32)), (0, .ref a0), (1, .int p1)]) hX dX11_costIn_1 rfl (by decide) rfl ?_
  refine jf_iconst (v := 0) hX dX11_costIn_2 (by decide) ?_
  refine jf_istore_n (lv' := [(3, .int (0 : Int32)), (2, .int (0 : Int32)), (0, .ref a0), (1, .int p1)]) hX dX11_costIn_3 rfl (by decide) rfl ?_
  refine jf_lv [2, 3, 1, 0] rfl ?_
  exact jgX11_costIn_4 hX N  N a0 p1 (0 : Int32) (0 : Int32) u
set_option maxRecDepth 20000 in
def gX11_sleepers_4 (N : Nat)   : Nat → Nat → Int32 → Int32 → SG → Option (Int32 × SG)
  | 0, _, _, _, _ => none
  | n + 1, x0, x1, x2, u => if zK u x0 = 12 then (Option.bind (zR u x0 20) fun q1 => (if zK u q1 = 22 then if zN u q1 ≤ 1 then none else (if (zI u q1 1) ≤ x2 then (some (x1, u))
  else (if zK u x0 = 12 then cl (fX11_personOf N x0 x2 (2 : Int32) u) fun r2 u3 => (if r2 = (1 : Int32) then (bs (x1 ||| ((1 : Int32) <<< (x2 &&& 31))) fun v5 => ((gX11_sleepers_4 N  n) x0 v5 (x2 + (1 : Int32)) u3))
  else (bs (x1 ||| (0 : Int32)) fun v4 => ((gX11_sleepers_4 N  n) x0 v4 (x2 + (1 : Int32)) u3))) else none)) else none)) else none
set_option maxRecDepth 20000 in
set_option maxHeartbeats 4000000 in
theorem jgX11_sleepers_4   {X : XT} (hX : Cx X yX11_sleepers cX11_sleepers 3 (some .int) 2 0 0) (N : Nat)  : ∀ (n : Nat) (x0 : Nat) (x1 : Int32) (x2 : Int32) (u : SG), JF X True 3 0 0 (jQ X vI 0 0) 4 [(0, .ref x0), (1, .int x1), (2, .int x2)] [] u (gX11_sleepers_4 N   n x0 x1 x2 u) := by
  intro n
  induction n with
  | zero => intros; intro r u9 h9; exact absurd h9 (by simp [gX11_sleepers_4])
  | succ n ih =>
    intro x0 x1 x2 u
    have hrec4 := ih
    rw [gX11_sleepers_4]
    refine jf_iload_n hX dX11_sleepers_4 2 rfl ?_
    refine jf_aload_n hX dX11_sleepers_5 0 rfl ?_
    refine jf_getR hX ck_X11 20 wfl_31 (by decide) rfl dX11_sleepers_6 ?_
    refine jf_nn (fun q1 => ?_)
    refine jf_iconst (v := 1) hX dX11_sleepers_9 (by decide) ?_
    refine jf_ialdc 1 hX (by decide) (by decide) dX11_sleepers_10 ?_
    refine jf_icmp_ge (tgt := 40) hX dX11_sleepers_11 (by decide) ?_ ?_
    · refine jf_iload_n hX dX11_sleepers_40 1 rfl ?_
      exact jf_iret hX rfl (by decide) (by decide) dX11_sleepers_41
    · refine jf_iload_n hX dX11_sleepers_14 1 rfl ?_
      refine jf_aload_n hX dX11_sleepers_15 0 rfl ?_
      refine jf_iload_n hX dX11_sleepers_16 2 rfl ?_
      refine jf_iconst (v := 2) hX dX11_sleepers_17 (by decide) ?_
      refine jf_callV (As := [.int x2, .int (2 : Int32)]) (st := [.int x1]) hX mo_X11_personOf wml_201 winst_202 wsel_203 11 ck_X11 rfl (fun l D cT z0 ks => kX11_personOf N l D cT z0 ks x0 x2 (2 : Int32) u) (by decide) (by decide) (by decide) (by decide) (Nat.le_of_ble_eq_true rfl) rfl rfl dX11_sleepers_18 (fun r2 u3 => ?_)
      refine jf_iconst (v := 1) hX dX11_sleepers_21 (by decide) ?_
      refine jf_icmp_ne (tgt := 31) hX dX11_sleepers_22 (by decide) ?_ ?_
      · refine jf_iconst (v := 0) hX dX11_sleepers_31 (by decide) ?_
        refine jf_ior hX dX11_sleepers_32 ?_
        refine jf_nmI (fun v4 => ?_)
        refine jf_istore_n (lv' := [(1, .int v4), (0, .ref x0), (2, .int x2)]) hX dX11_sleepers_33 rfl (by decide) rfl ?_
        refine jf_iinc (v := 1) (lv' := [(2, .int (x2 + (1 : Int32))), (1, .int v4), (0, .ref x0)]) hX dX11_sleepers_34 2 rfl (by decide) (by decide) rfl ?_
        refine jf_goto (tgt := 4) hX dX11_sleepers_37 (by decide) ?_
        refine jf_lv [2, 1, 0] rfl ?_
        exact hrec4 x0 v4 (x2 + (1 : Int32)) u3
      · refine jf_iconst (v := 1) hX dX11_sleepers_25 (by decide) ?_
        refine jf_iload_n hX dX11_sleepers_26 2 rfl ?_
        refine jf_ishl hX dX11_sleepers_27 ?_
        refine jf_goto (tgt := 32) hX dX11_sleepers_28 (by decide) ?_
        refine jf_ior hX dX11_sleepers_32 ?_
        refine jf_nmI (fun v5 => ?_)
        refine jf_istore_n (lv' := [(1, .int v5), (0, .ref x0), (2, .int x2)]) hX dX11_sleepers_33 rfl (by decide) rfl ?_
        refine jf_iinc (v := 1) (lv' := [(2, .int (x2 + (1 : Int32))), (1, .int v5), (0, .ref x0)]) hX dX11_sleepers_34 2 rfl (by decide) (by decide) rfl ?_
        refine jf_goto (tgt := 4) hX dX11_sleepers_37 (by decide) ?_
        refine jf_lv [2, 1, 0] rfl ?_
        exact hrec4 x0 v5 (x2 + (1 : Int32)) u3
set_option maxRecDepth 20000 in
def fX11_sleepers (N : Nat)  (a0 : Nat) (u : SG) : Option (Int32 × SG) := gX11_sleepers_4 N  N a0 (0 : Int32) (0 : Int32) u
set_option maxRecDepth 20000 in
set_option maxHeartbeats 4000000 in
theorem kX11_sleepers  (N : Nat)  (l : Launch) (D : va_G) (cT : Nat → ClassId) (z0 : Nat) (ks : Nat × Nat) (a0 : Nat) (u : SG) : Ct l D cT z0 ks yX11_sleepers cX11_sleepers 3 (some .int) 2 0 0 vI [.ref a0] u (fX11_sleepers N  a0 u) := by
  unfold fX11_sleepers
  refine ct_of (by decide +kernel) (Nat.le_of_ble_eq_true rfl) (fun p e R s m args below meth c hX => ?_)
  show JF _ True 3 0 0 _ 0 [(0, .ref a0)] [] u _
  refine jf_iconst (v := 0) hX dX11_sleepers_0 (by decide) ?_
  refine jf_istore_n (lv' := [(1, .int (0 : Int32)), (0, .ref a0)]) hX dX11_sleepers_1 rfl (by decide) rfl ?_
  refine jf_iconst (v := 0) hX dX11_sleepers_2 (by decide) ?_
  refine jf_istore_n (lv' := [(2, .int (0 : Int32)), (1, .int (0 : Int32)), (0, .ref a0)]) hX dX11_sleepers_3 rfl (by decide) rfl ?_
  refine jf_lv [2, 1, 0] rfl ?_
  exact jgX11_sleepers_4 hX N  N a0 (0 : Int32) (0 : Int32) u
set_option maxRecDepth 20000 in
def gX11_burning_4 (N : Nat)   : Nat → Nat → Int32 → Int32 → SG → Option (Int32 × SG)
  | 0, _, _, _, _ => none
  | n + 1, x0, x1, x2, u => if zK u x0 = 12 then (Option.bind (zR u x0 20) fun q1 => (if zK u q1 = 22 then if zN u q1 ≤ 3 then none else (if (zI u q1 3) ≤ x2 then (some (x1, u))
  else (if zK u x0 = 12 then (Option.bind (zR u x0 20) fun q2 => (if zK u q2 = 22 then if zN u q2 ≤ 5 then none else (if zK u x0 = 12 then cl (fX11_burnsIn N x0 x2 (zI u q2 5) u) fun r3 u4 => (if r3 = 0 then (bs (x1 ||| (0 : Int32)) fun v5 => ((gX11_burning_4 N  n) x0 v5 (x2 + (1 : Int32)) u4))
  else (bs (x1 ||| ((1 : Int32) <<< (x2 &&& 31))) fun v6 => ((gX11_burning_4 N  n) x0 v6 (x2 + (1 : Int32)) u4))) else none) else none)) else none)) else none)) else none
set_option maxRecDepth 20000 in
set_option maxHeartbeats 4000000 in
theorem jgX11_burning_4   {X : XT} (hX : Cx X yX11_burning cX11_burning 3 (some .int) 3 0 0) (N : Nat)  : ∀ (n : Nat) (x0 : Nat) (x1 : Int32) (x2 : Int32) (u : SG), JF X True 3 0 0 (jQ X vI 0 0) 4 [(0, .ref x0), (1, .int x1), (2, .int x2)] [] u (gX11_burning_4 N   n x0 x1 x2 u) := by
  intro n
  induction n with
  | zero => intros; intro r u9 h9; exact absurd h9 (by simp [gX11_burning_4])
  | succ n ih =>
    intro x0 x1 x2 u
    have hrec4 := ih
    rw [gX11_burning_4]
    refine jf_iload_n hX dX11_burning_4 2 rfl ?_
    refine jf_aload_n hX dX11_burning_5 0 rfl ?_
    refine jf_getR hX ck_X11 20 wfl_31 (by decide) rfl dX11_burning_6 ?_
    refine jf_nn (fun q1 => ?_)
    refine jf_iconst (v := 3) hX dX11_burning_9 (by decide) ?_
    refine jf_ialdc 3 hX (by decide) (by decide) dX11_burning_10 ?_
    refine jf_icmp_ge (tgt := 44) hX dX11_burning_11 (by decide) ?_ ?_
    · refine jf_iload_n hX dX11_burning_44 1 rfl ?_
      exact jf_iret hX rfl (by decide) (by decide) dX11_burning_45
    · refine jf_iload_n hX dX11_burning_14 1 rfl ?_
      refine jf_aload_n hX dX11_burning_15 0 rfl ?_
      refine jf_iload_n hX dX11_burning_16 2 rfl ?_
      refine jf_aload_n hX dX11_burning_17 0 rfl ?_
      refine jf_getR hX ck_X11 20 wfl_31 (by decide) rfl dX11_burning_18 ?_
      refine jf_nn (fun q2 => ?_)
      refine jf_iconst (v := 5) hX dX11_burning_21 (by decide) ?_
      refine jf_ialdc 5 hX (by decide) (by decide) dX11_burning_22 ?_
      refine jf_callV (As := [.int x2, .int (zI u q2 5)]) (st := [.int x1]) hX mo_X11_burnsIn wml_195 winst_196 wsel_197 11 ck_X11 rfl (fun l D cT z0 ks => kX11_burnsIn N l D cT z0 ks x0 x2 (zI u q2 5) u) (by decide) (by decide) (by decide) (by decide) (Nat.le_of_ble_eq_true rfl) rfl rfl dX11_burning_23 (fun r3 u4 => ?_)
      refine jf_if_eq (tgt := 35) hX dX11_burning_26 (by decide) ?_ ?_
      · refine jf_iconst (v := 0) hX dX11_burning_35 (by decide) ?_
        refine jf_ior hX dX11_burning_36 ?_
        refine jf_nmI (fun v5 => ?_)
        refine jf_istore_n (lv' := [(1, .int v5), (0, .ref x0), (2, .int x2)]) hX dX11_burning_37 rfl (by decide) rfl ?_
        refine jf_iinc (v := 1) (lv' := [(2, .int (x2 + (1 : Int32))), (1, .int v5), (0, .ref x0)]) hX dX11_burning_38 2 rfl (by decide) (by decide) rfl ?_
        refine jf_goto (tgt := 4) hX dX11_burning_41 (by decide) ?_
        refine jf_lv [2, 1, 0] rfl ?_
        exact hrec4 x0 v5 (x2 + (1 : Int32)) u4
      · refine jf_iconst (v := 1) hX dX11_burning_29 (by decide) ?_
        refine jf_iload_n hX dX11_burning_30 2 rfl ?_
        refine jf_ishl hX dX11_burning_31 ?_
        refine jf_goto (tgt := 36) hX dX11_burning_32 (by decide) ?_
        refine jf_ior hX dX11_burning_36 ?_
        refine jf_nmI (fun v6 => ?_)
        refine jf_istore_n (lv' := [(1, .int v6), (0, .ref x0), (2, .int x2)]) hX dX11_burning_37 rfl (by decide) rfl ?_
        refine jf_iinc (v := 1) (lv' := [(2, .int (x2 + (1 : Int32))), (1, .int v6), (0, .ref x0)]) hX dX11_burning_38 2 rfl (by decide) (by decide) rfl ?_
        refine jf_goto (tgt := 4) hX dX11_burning_41 (by decide) ?_
        refine jf_lv [2, 1, 0] rfl ?_
        exact hrec4 x0 v6 (x2 + (1 : Int32)) u4
set_option maxRecDepth 20000 in
def fX11_burning (N : Nat)  (a0 : Nat) (u : SG) : Option (Int32 × SG) := gX11_burning_4 N  N a0 (0 : Int32) (0 : Int32) u
set_option maxRecDepth 20000 in
set_option maxHeartbeats 4000000 in
theorem kX11_burning  (N : Nat)  (l : Launch) (D : va_G) (cT : Nat → ClassId) (z0 : Nat) (ks : Nat × Nat) (a0 : Nat) (u : SG) : Ct l D cT z0 ks yX11_burning cX11_burning 3 (some .int) 3 0 0 vI [.ref a0] u (fX11_burning N  a0 u) := by
  unfold fX11_burning
  refine ct_of (by decide +kernel) (Nat.le_of_ble_eq_true rfl) (fun p e R s m args below meth c hX => ?_)
  show JF _ True 3 0 0 _ 0 [(0, .ref a0)] [] u _
  refine jf_iconst (v := 0) hX dX11_burning_0 (by decide) ?_
  refine jf_istore_n (lv' := [(1, .int (0 : Int32)), (0, .ref a0)]) hX dX11_burning_1 rfl (by decide) rfl ?_
  refine jf_iconst (v := 0) hX dX11_burning_2 (by decide) ?_
  refine jf_istore_n (lv' := [(2, .int (0 : Int32)), (1, .int (0 : Int32)), (0, .ref a0)]) hX dX11_burning_3 rfl (by decide) rfl ?_
  refine jf_lv [2, 1, 0] rfl ?_
  exact jgX11_burning_4 hX N  N a0 (0 : Int32) (0 : Int32) u
set_option maxRecDepth 20000 in
def gX11_idle_4 (N : Nat)   : Nat → Nat → Int32 → Int32 → SG → Option (Int32 × SG)
  | 0, _, _, _, _ => none
  | n + 1, x0, x1, x2, u => if zK u x0 = 12 then (Option.bind (zR u x0 20) fun q1 => (if zK u q1 = 22 then if zN u q1 ≤ 1 then none else (if (zI u q1 1) ≤ x2 then (some (x1, u))
  else (if zK u x0 = 12 then (Option.bind (zR u x0 20) fun q2 => (if zK u q2 = 22 then if zN u q2 ≤ 5 then none else (if zK u x0 = 12 then cl (fX11_worksIn N x0 x2 (zI u q2 5) u) fun r3 u4 => (if r3 = 0 then (bs (x1 ||| ((1 : Int32) <<< (x2 &&& 31))) fun v5 => ((gX11_idle_4 N  n) x0 v5 (x2 + (1 : Int32)) u4))
  else (bs (x1 ||| (0 : Int32)) fun v6 => ((gX11_idle_4 N  n) x0 v6 (x2 + (1 : Int32)) u4))) else none) else none)) else none)) else none)) else none
set_option maxRecDepth 20000 in
set_option maxHeartbeats 4000000 in
theorem jgX11_idle_4   {X : XT} (hX : Cx X yX11_idle cX11_idle 3 (some .int) 2 0 0) (N : Nat)  : ∀ (n : Nat) (x0 : Nat) (x1 : Int32) (x2 : Int32) (u : SG), JF X True 3 0 0 (jQ X vI 0 0) 4 [(0, .ref x0), (1, .int x1), (2, .int x2)] [] u (gX11_idle_4 N   n x0 x1 x2 u) := by
  intro n
  induction n with
  | zero => intros; intro r u9 h9; exact absurd h9 (by simp [gX11_idle_4])
  | succ n ih =>
    intro x0 x1 x2 u
    have hrec4 := ih
    rw [gX11_idle_4]
    refine jf_iload_n hX dX11_idle_4 2 rfl ?_
    refine jf_aload_n hX dX11_idle_5 0 rfl ?_
    refine jf_getR hX ck_X11 20 wfl_31 (by decide) rfl dX11_idle_6 ?_
    refine jf_nn (fun q1 => ?_)
    refine jf_iconst (v := 1) hX dX11_idle_9 (by decide) ?_
    refine jf_ialdc 1 hX (by decide) (by decide) dX11_idle_10 ?_
    refine jf_icmp_ge (tgt := 44) hX dX11_idle_11 (by decide) ?_ ?_
    · refine jf_iload_n hX dX11_idle_44 1 rfl ?_
      exact jf_iret hX rfl (by decide) (by decide) dX11_idle_45
    · refine jf_iload_n hX dX11_idle_14 1 rfl ?_
      refine jf_aload_n hX dX11_idle_15 0 rfl ?_
      refine jf_iload_n hX dX11_idle_16 2 rfl ?_
      refine jf_aload_n hX dX11_idle_17 0 rfl ?_
      refine jf_getR hX ck_X11 20 wfl_31 (by decide) rfl dX11_idle_18 ?_
      refine jf_nn (fun q2 => ?_)
      refine jf_iconst (v := 5) hX dX11_idle_21 (by decide) ?_
      refine jf_ialdc 5 hX (by decide) (by decide) dX11_idle_22 ?_
      refine jf_callV (As := [.int x2, .int (zI u q2 5)]) (st := [.int x1]) hX mo_X11_worksIn wml_204 winst_205 wsel_206 11 ck_X11 rfl (fun l D cT z0 ks => kX11_worksIn N l D cT z0 ks x0 x2 (zI u q2 5) u) (by decide) (by decide) (by decide) (by decide) (Nat.le_of_ble_eq_true rfl) rfl rfl dX11_idle_23 (fun r3 u4 => ?_)
      refine jf_if_eq (tgt := 33) hX dX11_idle_26 (by decide) ?_ ?_
      · refine jf_iconst (v := 1) hX dX11_idle_33 (by decide) ?_
        refine jf_iload_n hX dX11_idle_34 2 rfl ?_
        refine jf_ishl hX dX11_idle_35 ?_
        refine jf_ior hX dX11_idle_36 ?_
        refine jf_nmI (fun v5 => ?_)
        refine jf_istore_n (lv' := [(1, .int v5), (0, .ref x0), (2, .int x2)]) hX dX11_idle_37 rfl (by decide) rfl ?_
        refine jf_iinc (v := 1) (lv' := [(2, .int (x2 + (1 : Int32))), (1, .int v5), (0, .ref x0)]) hX dX11_idle_38 2 rfl (by decide) (by decide) rfl ?_
        refine jf_goto (tgt := 4) hX dX11_idle_41 (by decide) ?_
        refine jf_lv [2, 1, 0] rfl ?_
        exact hrec4 x0 v5 (x2 + (1 : Int32)) u4
      · refine jf_iconst (v := 0) hX dX11_idle_29 (by decide) ?_
        refine jf_goto (tgt := 36) hX dX11_idle_30 (by decide) ?_
        refine jf_ior hX dX11_idle_36 ?_
        refine jf_nmI (fun v6 => ?_)
        refine jf_istore_n (lv' := [(1, .int v6), (0, .ref x0), (2, .int x2)]) hX dX11_idle_37 rfl (by decide) rfl ?_
        refine jf_iinc (v := 1) (lv' := [(2, .int (x2 + (1 : Int32))), (1, .int v6), (0, .ref x0)]) hX dX11_idle_38 2 rfl (by decide) (by decide) rfl ?_
        refine jf_goto (tgt := 4) hX dX11_idle_41 (by decide) ?_
        refine jf_lv [2, 1, 0] rfl ?_
        exact hrec4 x0 v6 (x2 + (1 : Int32)) u4
set_option maxRecDepth 20000 in
def fX11_idle (N : Nat)  (a0 : Nat) (u : SG) : Option (Int32 × SG) := gX11_idle_4 N  N a0 (0 : Int32) (0 : Int32) u
set_option maxRecDepth 20000 in
set_option maxHeartbeats 4000000 in
theorem kX11_idle  (N : Nat)  (l : Launch) (D : va_G) (cT : Nat → ClassId) (z0 : Nat) (ks : Nat × Nat) (a0 : Nat) (u : SG) : Ct l D cT z0 ks yX11_idle cX11_idle 3 (some .int) 2 0 0 vI [.ref a0] u (fX11_idle N  a0 u) := by
  unfold fX11_idle
  refine ct_of (by decide +kernel) (Nat.le_of_ble_eq_true rfl) (fun p e R s m args below meth c hX => ?_)
  show JF _ True 3 0 0 _ 0 [(0, .ref a0)] [] u _
  refine jf_iconst (v := 0) hX dX11_idle_0 (by decide) ?_
  refine jf_istore_n (lv' := [(1, .int (0 : Int32)), (0, .ref a0)]) hX dX11_idle_1 rfl (by decide) rfl ?_
  refine jf_iconst (v := 0) hX dX11_idle_2 (by decide) ?_
  refine jf_istore_n (lv' := [(2, .int (0 : Int32)), (1, .int (0 : Int32)), (0, .ref a0)]) hX dX11_idle_3 rfl (by decide) rfl ?_
  refine jf_lv [2, 1, 0] rfl ?_
  exact jgX11_idle_4 hX N  N a0 (0 : Int32) (0 : Int32) u
set_option maxRecDepth 20000 in
def fX11_force (N : Nat)  (a0 : Nat) (p1 : Int32) (u : SG) : Option (Int32 × SG) := if p1 = (-1 : Int32) then (if zK u a0 = 12 then (bs (zI u a0 21) fun v1 => (if zK u a0 = 12 then bs (sI u a0 21 p1) fun u2 => (some (v1, u2)) else none)) else none)
  else (if zK u a0 = 12 then cl (fX11_isRule N a0 p1 u) fun r3 u4 => (if r3 = 0 then (some ((-2 : Int32), u4))
  else (if zK u4 a0 = 12 then (bs (zI u4 a0 21) fun v5 => (if zK u4 a0 = 12 then bs (sI u4 a0 21 p1) fun u6 => (some (v5, u6)) else none)) else none)) else none)
set_option maxRecDepth 20000 in
set_option maxHeartbeats 4000000 in
theorem kX11_force  (N : Nat)  (l : Launch) (D : va_G) (cT : Nat → ClassId) (z0 : Nat) (ks : Nat × Nat) (a0 : Nat) (p1 : Int32) (u : SG) : Ct l D cT z0 ks yX11_force cX11_force 3 (some .int) 2 0 0 vI [.ref a0, .int p1] u (fX11_force N  a0 p1 u) := by
  unfold fX11_force
  refine ct_of (by decide +kernel) (Nat.le_of_ble_eq_true rfl) (fun p e R s m args below meth c hX => ?_)
  show JF _ True 3 0 0 _ 0 [(0, .ref a0), (1, .int p1)] [] u _
  refine jf_iload_n hX dX11_force_0 1 rfl ?_
  refine jf_iconst (v := -1) hX dX11_force_1 (by decide) ?_
  refine jf_icmp_eq (tgt := 16) hX dX11_force_2 (by decide) ?_ ?_
  · refine jf_aload_n hX dX11_force_16 0 rfl ?_
    refine jf_getI hX ck_X11 21 wfl_32 (by decide) rfl dX11_force_17 ?_
    refine jf_nmI (fun v1 => ?_)
    refine jf_istore_n (lv' := [(2, .int v1), (0, .ref a0), (1, .int p1)]) hX dX11_force_20 rfl (by decide) rfl ?_
    refine jf_aload_n hX dX11_force_21 1 rfl ?_
    refine jf_iload_n hX dX11_force_22 2 rfl ?_
    refine jf_putI hX trivial ck_X11 21 wfl_32 (by decide) rfl rfl rfl dX11_force_23 (fun u2 => ?_)
    refine jf_iload_n hX dX11_force_26 0 rfl ?_
    exact jf_iret hX rfl (by decide) (by decide) dX11_force_27
  · refine jf_aload_n hX dX11_force_5 0 rfl ?_
    refine jf_iload_n hX dX11_force_6 1 rfl ?_
    refine jf_callV (As := [.int p1]) (st := []) hX mo_X11_isRule wml_207 winst_208 wsel_209 11 ck_X11 rfl (fun l D cT z0 ks => kX11_isRule N l D cT z0 ks a0 p1 u) (by decide) (by decide) (by decide) (by decide) (Nat.le_of_ble_eq_true rfl) rfl rfl dX11_force_7 (fun r3 u4 => ?_)
    refine jf_if_ne (tgt := 16) hX dX11_force_10 (by decide) ?_ ?_
    · refine jf_aload_n hX dX11_force_16 0 rfl ?_
      refine jf_getI hX ck_X11 21 wfl_32 (by decide) rfl dX11_force_17 ?_
      refine jf_nmI (fun v5 => ?_)
      refine jf_istore_n (lv' := [(2, .int v5), (0, .ref a0), (1, .int p1)]) hX dX11_force_20 rfl (by decide) rfl ?_
      refine jf_aload_n hX dX11_force_21 1 rfl ?_
      refine jf_iload_n hX dX11_force_22 2 rfl ?_
      refine jf_putI hX trivial ck_X11 21 wfl_32 (by decide) rfl rfl rfl dX11_force_23 (fun u6 => ?_)
      refine jf_iload_n hX dX11_force_26 0 rfl ?_
      exact jf_iret hX rfl (by decide) (by decide) dX11_force_27
    · refine jf_bipush (v := -2) hX dX11_force_13 (by decide) ?_
      exact jf_iret hX rfl (by decide) (by decide) dX11_force_15
set_option maxRecDepth 20000 in
def fX11_person (N : Nat)  (a0 : Nat) (p1 : Int32) (p2 : Int32) (u : SG) : Option (Int32 × SG) := if zK u a0 = 12 then cl (fX11_isPerson N a0 p1 u) fun r1 u2 => (if r1 = 0 then (some ((-1 : Int32), u2))
  else (cl (fX11_in N p2.toInt64 (0 : Int64) (5 : Int64) u2) fun r3 u4 => (if r3 = 0 then (some ((-1 : Int32), u4))
  else (if (5 : Int32) ≤ p2 then (if zK u4 a0 = 12 then (Option.bind (zR u4 a0 20) fun q5 => (if zK u4 q5 = 22 then if zN u4 q5 ≤ 5 then none else (if zK u4 a0 = 12 then cl (fX11_worksIn N a0 p1 (zI u4 q5 5) u4) fun r6 u7 => (if r6 = 0 then (some ((0 : Int32), u7))
  else (some ((1 : Int32), u7))) else none) else none)) else none)
  else (if zK u4 a0 = 12 then cl (fX11_personOf N a0 p1 p2 u4) fun r8 u9 => (some (r8, u9)) else none))))) else none
set_option maxRecDepth 20000 in
set_option maxHeartbeats 4000000 in
theorem kX11_person  (N : Nat)  (l : Launch) (D : va_G) (cT : Nat → ClassId) (z0 : Nat) (ks : Nat × Nat) (a0 : Nat) (p1 : Int32) (p2 : Int32) (u : SG) : Ct l D cT z0 ks yX11_person cX11_person 3 (some .int) 2 0 0 vI [.ref a0, .int p1, .int p2] u (fX11_person N  a0 p1 p2 u) := by
  unfold fX11_person
  refine ct_of (by decide +kernel) (Nat.le_of_ble_eq_true rfl) (fun p e R s m args below meth c hX => ?_)
  show JF _ True 3 0 0 _ 0 [(0, .ref a0), (1, .int p1), (2, .int p2)] [] u _
  refine jf_aload_n hX dX11_person_0 0 rfl ?_
  refine jf_iload_n hX dX11_person_1 1 rfl ?_
  refine jf_callV (As := [.int p1]) (st := []) hX mo_X11_isPerson wml_210 winst_211 wsel_212 11 ck_X11 rfl (fun l D cT z0 ks => kX11_isPerson N l D cT z0 ks a0 p1 u) (by decide) (by decide) (by decide) (by decide) (Nat.le_of_ble_eq_true rfl) rfl rfl dX11_person_2 (fun r1 u2 => ?_)
  refine jf_if_eq (tgt := 20) hX dX11_person_5 (by decide) ?_ ?_
  · refine jf_iconst (v := -1) hX dX11_person_20 (by decide) ?_
    exact jf_iret hX rfl (by decide) (by decide) dX11_person_21
  · refine jf_iload_n hX dX11_person_8 2 rfl ?_
    refine jf_i2l hX dX11_person_9 ?_
    refine jf_lconst (v := 0) hX dX11_person_10 (by decide) ?_
    refine jf_ldc2 (v := 5) hX dX11_person_11 wconl_213 ?_
    refine jf_callS (As := [.long p2.toInt64, .long (0 : Int64), .long (5 : Int64)]) (st := []) hX mo_X11_in wml_68 wstat_69 rfl (fun l D cT z0 ks => kX11_in N l D cT z0 ks p2.toInt64 (0 : Int64) (5 : Int64) u2) (by decide) (by decide) (by decide) (by decide) (Nat.le_of_ble_eq_true rfl) rfl rfl dX11_person_14 (fun r3 u4 => ?_)
    refine jf_if_ne (tgt := 22) hX dX11_person_17 (by decide) ?_ ?_
    · refine jf_iload_n hX dX11_person_22 2 rfl ?_
      refine jf_iconst (v := 5) hX dX11_person_23 (by decide) ?_
      refine jf_icmp_ge (tgt := 36) hX dX11_person_24 (by decide) ?_ ?_
      · refine jf_aload_n hX dX11_person_36 0 rfl ?_
        refine jf_iload_n hX dX11_person_37 1 rfl ?_
        refine jf_aload_n hX dX11_person_38 0 rfl ?_
        refine jf_getR hX ck_X11 20 wfl_31 (by decide) rfl dX11_person_39 ?_
        refine jf_nn (fun q5 => ?_)
        refine jf_iconst (v := 5) hX dX11_person_42 (by decide) ?_
        refine jf_ialdc 5 hX (by decide) (by decide) dX11_person_43 ?_
        refine jf_callV (As := [.int p1, .int (zI u4 q5 5)]) (st := []) hX mo_X11_worksIn wml_204 winst_205 wsel_206 11 ck_X11 rfl (fun l D cT z0 ks => kX11_worksIn N l D cT z0 ks a0 p1 (zI u4 q5 5) u4) (by decide) (by decide) (by decide) (by decide) (Nat.le_of_ble_eq_true rfl) rfl rfl dX11_person_44 (fun r6 u7 => ?_)
        refine jf_if_eq (tgt := 54) hX dX11_person_47 (by decide) ?_ ?_
        · refine jf_iconst (v := 0) hX dX11_person_54 (by decide) ?_
          exact jf_iret hX rfl (by decide) (by decide) dX11_person_55
        · refine jf_iconst (v := 1) hX dX11_person_50 (by decide) ?_
          refine jf_goto (tgt := 55) hX dX11_person_51 (by decide) ?_
          exact jf_iret hX rfl (by decide) (by decide) dX11_person_55
      · refine jf_aload_n hX dX11_person_27 0 rfl ?_
        refine jf_iload_n hX dX11_person_28 1 rfl ?_
        refine jf_iload_n hX dX11_person_29 2 rfl ?_
        refine jf_callV (As := [.int p1, .int p2]) (st := []) hX mo_X11_personOf wml_201 winst_202 wsel_203 11 ck_X11 rfl (fun l D cT z0 ks => kX11_personOf N l D cT z0 ks a0 p1 p2 u4) (by decide) (by decide) (by decide) (by decide) (Nat.le_of_ble_eq_true rfl) rfl rfl dX11_person_30 (fun r8 u9 => ?_)
        refine jf_goto (tgt := 55) hX dX11_person_33 (by decide) ?_
        exact jf_iret hX rfl (by decide) (by decide) dX11_person_55
    · refine jf_iconst (v := -1) hX dX11_person_20 (by decide) ?_
      exact jf_iret hX rfl (by decide) (by decide) dX11_person_21
set_option maxRecDepth 20000 in
def fX11_lamp (N : Nat)  (a0 : Nat) (p1 : Int32) (p2 : Int32) (u : SG) : Option (Int32 × SG) := if zK u a0 = 12 then cl (fX11_isLamp N a0 p1 u) fun r1 u2 => (if r1 = 0 then (some ((-1 : Int32), u2))
  else (cl (fX11_in N p2.toInt64 (0 : Int64) (2 : Int64) u2) fun r3 u4 => (if r3 = 0 then (some ((-1 : Int32), u4))
  else (if (2 : Int32) ≤ p2 then (if zK u4 a0 = 12 then (Option.bind (zR u4 a0 20) fun q5 => (if zK u4 q5 = 22 then if zN u4 q5 ≤ 5 then none else (if zK u4 a0 = 12 then cl (fX11_burnsIn N a0 p1 (zI u4 q5 5) u4) fun r6 u7 => (if r6 = 0 then (some ((0 : Int32), u7))
  else (some ((1 : Int32), u7))) else none) else none)) else none)
  else (if zK u4 a0 = 12 then (Option.bind (zR u4 a0 20) fun q8 => (if zK u4 q8 = 22 then if (((69 : Int32) + ((2 : Int32) * p1)) + p2) < 0 ∨ zN u4 q8 ≤ (((69 : Int32) + ((2 : Int32) * p1)) + p2).toNatClampNeg then none else (some (zI u4 q8 (((69 : Int32) + ((2 : Int32) * p1)) + p2).toNatClampNeg, u4)) else none)) else none))))) else none
set_option maxRecDepth 20000 in
set_option maxHeartbeats 4000000 in
theorem kX11_lamp  (N : Nat)  (l : Launch) (D : va_G) (cT : Nat → ClassId) (z0 : Nat) (ks : Nat × Nat) (a0 : Nat) (p1 : Int32) (p2 : Int32) (u : SG) : Ct l D cT z0 ks yX11_lamp cX11_lamp 3 (some .int) 3 0 0 vI [.ref a0, .int p1, .int p2] u (fX11_lamp N  a0 p1 p2 u) := by
  unfold fX11_lamp
  refine ct_of (by decide +kernel) (Nat.le_of_ble_eq_true rfl) (fun p e R s m args below meth c hX => ?_)
  show JF _ True 3 0 0 _ 0 [(0, .ref a0), (1, .int p1), (2, .int p2)] [] u _
  refine jf_aload_n hX dX11_lamp_0 0 rfl ?_
  refine jf_iload_n hX dX11_lamp_1 1 rfl ?_
  refine jf_callV (As := [.int p1]) (st := []) hX mo_X11_isLamp wml_214 winst_215 wsel_216 11 ck_X11 rfl (fun l D cT z0 ks => kX11_isLamp N l D cT z0 ks a0 p1 u) (by decide) (by decide) (by decide) (by decide) (Nat.le_of_ble_eq_true rfl) rfl rfl dX11_lamp_2 (fun r1 u2 => ?_)
  refine jf_if_eq (tgt := 20) hX dX11_lamp_5 (by decide) ?_ ?_
  · refine jf_iconst (v := -1) hX dX11_lamp_20 (by decide) ?_
    exact jf_iret hX rfl (by decide) (by decide) dX11_lamp_21
  · refine jf_iload_n hX dX11_lamp_8 2 rfl ?_
    refine jf_i2l hX dX11_lamp_9 ?_
    refine jf_lconst (v := 0) hX dX11_lamp_10 (by decide) ?_
    refine jf_ldc2 (v := 2) hX dX11_lamp_11 wconl_217 ?_
    refine jf_callS (As := [.long p2.toInt64, .long (0 : Int64), .long (2 : Int64)]) (st := []) hX mo_X11_in wml_68 wstat_69 rfl (fun l D cT z0 ks => kX11_in N l D cT z0 ks p2.toInt64 (0 : Int64) (2 : Int64) u2) (by decide) (by decide) (by decide) (by decide) (Nat.le_of_ble_eq_true rfl) rfl rfl dX11_lamp_14 (fun r3 u4 => ?_)
    refine jf_if_ne (tgt := 22) hX dX11_lamp_17 (by decide) ?_ ?_
    · refine jf_iload_n hX dX11_lamp_22 2 rfl ?_
      refine jf_iconst (v := 2) hX dX11_lamp_23 (by decide) ?_
      refine jf_icmp_ge (tgt := 43) hX dX11_lamp_24 (by decide) ?_ ?_
      · refine jf_aload_n hX dX11_lamp_43 0 rfl ?_
        refine jf_iload_n hX dX11_lamp_44 1 rfl ?_
        refine jf_aload_n hX dX11_lamp_45 0 rfl ?_
        refine jf_getR hX ck_X11 20 wfl_31 (by decide) rfl dX11_lamp_46 ?_
        refine jf_nn (fun q5 => ?_)
        refine jf_iconst (v := 5) hX dX11_lamp_49 (by decide) ?_
        refine jf_ialdc 5 hX (by decide) (by decide) dX11_lamp_50 ?_
        refine jf_callV (As := [.int p1, .int (zI u4 q5 5)]) (st := []) hX mo_X11_burnsIn wml_195 winst_196 wsel_197 11 ck_X11 rfl (fun l D cT z0 ks => kX11_burnsIn N l D cT z0 ks a0 p1 (zI u4 q5 5) u4) (by decide) (by decide) (by decide) (by decide) (Nat.le_of_ble_eq_true rfl) rfl rfl dX11_lamp_51 (fun r6 u7 => ?_)
        refine jf_if_eq (tgt := 61) hX dX11_lamp_54 (by decide) ?_ ?_
        · refine jf_iconst (v := 0) hX dX11_lamp_61 (by decide) ?_
          exact jf_iret hX rfl (by decide) (by decide) dX11_lamp_62
        · refine jf_iconst (v := 1) hX dX11_lamp_57 (by decide) ?_
          refine jf_goto (tgt := 62) hX dX11_lamp_58 (by decide) ?_
          exact jf_iret hX rfl (by decide) (by decide) dX11_lamp_62
      · refine jf_aload_n hX dX11_lamp_27 0 rfl ?_
        refine jf_getR hX ck_X11 20 wfl_31 (by decide) rfl dX11_lamp_28 ?_
        refine jf_nn (fun q8 => ?_)
        refine jf_bipush (v := 69) hX dX11_lamp_31 (by decide) ?_
        refine jf_iconst (v := 2) hX dX11_lamp_33 (by decide) ?_
        refine jf_iload_n hX dX11_lamp_34 1 rfl ?_
        refine jf_imul hX dX11_lamp_35 ?_
        refine jf_iadd hX dX11_lamp_36 ?_
        refine jf_iload_n hX dX11_lamp_37 2 rfl ?_
        refine jf_iadd hX dX11_lamp_38 ?_
        refine jf_iald hX dX11_lamp_39 ?_
        refine jf_goto (tgt := 62) hX dX11_lamp_40 (by decide) ?_
        exact jf_iret hX rfl (by decide) (by decide) dX11_lamp_62
    · refine jf_iconst (v := -1) hX dX11_lamp_20 (by decide) ?_
      exact jf_iret hX rfl (by decide) (by decide) dX11_lamp_21
set_option maxRecDepth 20000 in
def gX11_ownCost_4 (N : Nat)   : Nat → Nat → Int32 → Int32 → Int32 → SG → Option (Int32 × SG)
  | 0, _, _, _, _, _ => none
  | n + 1, x0, x1, x2, x3, u => if zK u x0 = 12 then (Option.bind (zR u x0 20) fun q1 => (if zK u q1 = 22 then if zN u q1 ≤ 3 then none else (if (zI u q1 3) ≤ x3 then (some (x2, u))
  else (if zK u x0 = 12 then (Option.bind (zR u x0 20) fun q2 => (if zK u q2 = 22 then if ((69 : Int32) + ((2 : Int32) * x3)) < 0 ∨ zN u q2 ≤ ((69 : Int32) + ((2 : Int32) * x3)).toNatClampNeg then none else (if (zI u q2 ((69 : Int32) + ((2 : Int32) * x3)).toNatClampNeg) = x1 then (if zK u x0 = 12 then (Option.bind (zR u x0 20) fun q4 => (if zK u q4 = 22 then if zN u q4 ≤ 5 then none else (if zK u x0 = 12 then cl (fX11_burnsIn N x0 x3 (zI u q4 5) u) fun r5 u6 => (if r5 = 0 then (bs (x2 + (0 : Int32)) fun v7 => ((gX11_ownCost_4 N  n) x0 x1 v7 (x3 + (1 : Int32)) u6))
  else (if zK u6 x0 = 12 then cl (fX11_costOf N x0 x3 u6) fun r8 u9 => (bs (x2 + r8) fun v10 => ((gX11_ownCost_4 N  n) x0 x1 v10 (x3 + (1 : Int32)) u9)) else none)) else none) else none)) else none)
  else (bs (x2 + (0 : Int32)) fun v3 => ((gX11_ownCost_4 N  n) x0 x1 v3 (x3 + (1 : Int32)) u))) else none)) else none)) else none)) else none
set_option maxRecDepth 20000 in
set_option maxHeartbeats 4000000 in
theorem jgX11_ownCost_4   {X : XT} (hX : Cx X yX11_ownCost cX11_ownCost 4 (some .int) 3 0 0) (N : Nat)  : ∀ (n : Nat) (x0 : Nat) (x1 : Int32) (x2 : Int32) (x3 : Int32) (u : SG), JF X True 4 0 0 (jQ X vI 0 0) 4 [(0, .ref x0), (1, .int x1), (2, .int x2), (3, .int x3)] [] u (gX11_ownCost_4 N   n x0 x1 x2 x3 u) := by
  intro n
  induction n with
  | zero => intros; intro r u9 h9; exact absurd h9 (by simp [gX11_ownCost_4])
  | succ n ih =>
    intro x0 x1 x2 x3 u
    have hrec4 := ih
    rw [gX11_ownCost_4]
    refine jf_iload_n hX dX11_ownCost_4 3 rfl ?_
    refine jf_aload_n hX dX11_ownCost_5 0 rfl ?_
    refine jf_getR hX ck_X11 20 wfl_31 (by decide) rfl dX11_ownCost_6 ?_
    refine jf_nn (fun q1 => ?_)
    refine jf_iconst (v := 3) hX dX11_ownCost_9 (by decide) ?_
    refine jf_ialdc 3 hX (by decide) (by decide) dX11_ownCost_10 ?_
    refine jf_icmp_ge (tgt := 61) hX dX11_ownCost_11 (by decide) ?_ ?_
    · refine jf_iload_n hX dX11_ownCost_61 2 rfl ?_
      exact jf_iret hX rfl (by decide) (by decide) dX11_ownCost_62
    · refine jf_iload_n hX dX11_ownCost_14 2 rfl ?_
      refine jf_aload_n hX dX11_ownCost_15 0 rfl ?_
      refine jf_getR hX ck_X11 20 wfl_31 (by decide) rfl dX11_ownCost_16 ?_
      refine jf_nn (fun q2 => ?_)
      refine jf_bipush (v := 69) hX dX11_ownCost_19 (by decide) ?_
      refine jf_iconst (v := 2) hX dX11_ownCost_21 (by decide) ?_
      refine jf_iload_n hX dX11_ownCost_22 3 rfl ?_
      refine jf_imul hX dX11_ownCost_23 ?_
      refine jf_iadd hX dX11_ownCost_24 ?_
      refine jf_iald hX dX11_ownCost_25 ?_
      refine jf_iload_n hX dX11_ownCost_26 1 rfl ?_
      refine jf_icmp_ne (tgt := 52) hX dX11_ownCost_27 (by decide) ?_ ?_
      · refine jf_iconst (v := 0) hX dX11_ownCost_52 (by decide) ?_
        refine jf_iadd hX dX11_ownCost_53 ?_
        refine jf_nmI (fun v3 => ?_)
        refine jf_istore_n (lv' := [(2, .int v3), (0, .ref x0), (1, .int x1), (3, .int x3)]) hX dX11_ownCost_54 rfl (by decide) rfl ?_
        refine jf_iinc (v := 1) (lv' := [(3, .int (x3 + (1 : Int32))), (2, .int v3), (0, .ref x0), (1, .int x1)]) hX dX11_ownCost_55 3 rfl (by decide) (by decide) rfl ?_
        refine jf_goto (tgt := 4) hX dX11_ownCost_58 (by decide) ?_
        refine jf_lv [2, 3, 1, 0] rfl ?_
        exact hrec4 x0 x1 v3 (x3 + (1 : Int32)) u
      · refine jf_aload_n hX dX11_ownCost_30 0 rfl ?_
        refine jf_iload_n hX dX11_ownCost_31 3 rfl ?_
        refine jf_aload_n hX dX11_ownCost_32 0 rfl ?_
        refine jf_getR hX ck_X11 20 wfl_31 (by decide) rfl dX11_ownCost_33 ?_
        refine jf_nn (fun q4 => ?_)
        refine jf_iconst (v := 5) hX dX11_ownCost_36 (by decide) ?_
        refine jf_ialdc 5 hX (by decide) (by decide) dX11_ownCost_37 ?_
        refine jf_callV (As := [.int x3, .int (zI u q4 5)]) (st := [.int x2]) hX mo_X11_burnsIn wml_195 winst_196 wsel_197 11 ck_X11 rfl (fun l D cT z0 ks => kX11_burnsIn N l D cT z0 ks x0 x3 (zI u q4 5) u) (by decide) (by decide) (by decide) (by decide) (Nat.le_of_ble_eq_true rfl) rfl rfl dX11_ownCost_38 (fun r5 u6 => ?_)
        refine jf_if_eq (tgt := 52) hX dX11_ownCost_41 (by decide) ?_ ?_
        · refine jf_iconst (v := 0) hX dX11_ownCost_52 (by decide) ?_
          refine jf_iadd hX dX11_ownCost_53 ?_
          refine jf_nmI (fun v7 => ?_)
          refine jf_istore_n (lv' := [(2, .int v7), (0, .ref x0), (1, .int x1), (3, .int x3)]) hX dX11_ownCost_54 rfl (by decide) rfl ?_
          refine jf_iinc (v := 1) (lv' := [(3, .int (x3 + (1 : Int32))), (2, .int v7), (0, .ref x0), (1, .int x1)]) hX dX11_ownCost_55 3 rfl (by decide) (by decide) rfl ?_
          refine jf_goto (tgt := 4) hX dX11_ownCost_58 (by decide) ?_
          refine jf_lv [2, 3, 1, 0] rfl ?_
          exact hrec4 x0 x1 v7 (x3 + (1 : Int32)) u6
        · refine jf_aload_n hX dX11_ownCost_44 0 rfl ?_
          refine jf_iload_n hX dX11_ownCost_45 3 rfl ?_
          refine jf_callV (As := [.int x3]) (st := [.int x2]) hX mo_X11_costOf wml_198 winst_199 wsel_200 11 ck_X11 rfl (fun l D cT z0 ks => kX11_costOf N l D cT z0 ks x0 x3 u6) (by decide) (by decide) (by decide) (by decide) (Nat.le_of_ble_eq_true rfl) rfl rfl dX11_ownCost_46 (fun r8 u9 => ?_)
          refine jf_goto (tgt := 53) hX dX11_ownCost_49 (by decide) ?_
          refine jf_iadd hX dX11_ownCost_53 ?_
          refine jf_nmI (fun v10 => ?_)
          refine jf_istore_n (lv' := [(2, .int v10), (0, .ref x0), (1, .int x1), (3, .int x3)]) hX dX11_ownCost_54 rfl (by decide) rfl ?_
          refine jf_iinc (v := 1) (lv' := [(3, .int (x3 + (1 : Int32))), (2, .int v10), (0, .ref x0), (1, .int x1)]) hX dX11_ownCost_55 3 rfl (by decide) (by decide) rfl ?_
          refine jf_goto (tgt := 4) hX dX11_ownCost_58 (by decide) ?_
          refine jf_lv [2, 3, 1, 0] rfl ?_
          exact hrec4 x0 x1 v10 (x3 + (1 : Int32)) u9
set_option maxRecDepth 20000 in
def fX11_ownCost (N : Nat)  (a0 : Nat) (p1 : Int32) (u : SG) : Option (Int32 × SG) := gX11_ownCost_4 N  N a0 p1 (0 : Int32) (0 : Int32) u
set_option maxRecDepth 20000 in
set_option maxHeartbeats 4000000 in
theorem kX11_ownCost  (N : Nat)  (l : Launch) (D : va_G) (cT : Nat → ClassId) (z0 : Nat) (ks : Nat × Nat) (a0 : Nat) (p1 : Int32) (u : SG) : Ct l D cT z0 ks yX11_ownCost cX11_ownCost 4 (some .int) 3 0 0 vI [.ref a0, .int p1] u (fX11_ownCost N  a0 p1 u) := by
  unfold fX11_ownCost
  refine ct_of (by decide +kernel) (Nat.le_of_ble_eq_true rfl) (fun p e R s m args below meth c hX => ?_)
  show JF _ True 4 0 0 _ 0 [(0, .ref a0), (1, .int p1)] [] u _
  refine jf_iconst (v := 0) hX dX11_ownCost_0 (by decide) ?_
  refine jf_istore_n (lv' := [(2, .int (0 : Int32)), (0, .ref a0), (1, .int p1)]) hX dX11_ownCost_1 rfl (by decide) rfl ?_
  refine jf_iconst (v := 0) hX dX11_ownCost_2 (by decide) ?_
  refine jf_istore_n (lv' := [(3, .int (0 : Int32)), (2, .int (0 : Int32)), (0, .ref a0), (1, .int p1)]) hX dX11_ownCost_3 rfl (by decide) rfl ?_
  refine jf_lv [2, 3, 1, 0] rfl ?_
  exact jgX11_ownCost_4 hX N  N a0 p1 (0 : Int32) (0 : Int32) u
