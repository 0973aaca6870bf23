theorem dX2_init_0 : decode cX2_init 0 = .ok (.aload_n 0, 1) := by decide +kernel
theorem dX2_init_1 : decode cX2_init 1 = .ok (.invokespecial 3, 3) := by decide +kernel
theorem dX2_init_4 : decode cX2_init 4 = .ok (.aload_n 0, 1) := by decide +kernel
theorem dX2_init_5 : decode cX2_init 5 = .ok (.iconst 0, 1) := by decide +kernel
theorem dX2_init_6 : decode cX2_init 6 = .ok (.putfield 9, 3) := by decide +kernel
theorem dX2_init_9 : decode cX2_init 9 = .ok (.aload_n 0, 1) := by decide +kernel
theorem dX2_init_10 : decode cX2_init 10 = .ok (.iconst 0, 1) := by decide +kernel
theorem dX2_init_11 : decode cX2_init 11 = .ok (.putfield 15, 3) := by decide +kernel
theorem dX2_init_14 : decode cX2_init 14 = .ok (.aload_n 0, 1) := by decide +kernel
theorem dX2_init_15 : decode cX2_init 15 = .ok (.iconst 0, 1) := by decide +kernel
theorem dX2_init_16 : decode cX2_init 16 = .ok (.putfield 18, 3) := by decide +kernel
theorem dX2_init_19 : decode cX2_init 19 = .ok (.aload_n 0, 1) := by decide +kernel
theorem dX2_init_20 : decode cX2_init 20 = .ok (.iconst 0, 1) := by decide +kernel
theorem dX2_init_21 : decode cX2_init 21 = .ok (.putfield 21, 3) := by decide +kernel
theorem dX2_init_24 : decode cX2_init 24 = .ok (.aload_n 0, 1) := by decide +kernel
theorem dX2_init_25 : decode cX2_init 25 = .ok (.iconst 0, 1) := by decide +kernel
theorem dX2_init_26 : decode cX2_init 26 = .ok (.putfield 24, 3) := by decide +kernel
theorem dX2_init_29 : decode cX2_init 29 = .ok (.aload_n 0, 1) := by decide +kernel
theorem dX2_init_30 : decode cX2_init 30 = .ok (.iconst 5, 1) := by decide +kernel
theorem dX2_init_31 : decode cX2_init 31 = .ok (.newarray .int, 2) := by decide +kernel
theorem dX2_init_33 : decode cX2_init 33 = .ok (.putfield 27, 3) := by decide +kernel
theorem dX2_init_36 : decode cX2_init 36 = .ok (.aload_n 0, 1) := by decide +kernel
theorem dX2_init_37 : decode cX2_init 37 = .ok (.iconst 5, 1) := by decide +kernel
theorem dX2_init_38 : decode cX2_init 38 = .ok (.newarray .int, 2) := by decide +kernel
theorem dX2_init_40 : decode cX2_init 40 = .ok (.putfield 31, 3) := by decide +kernel
theorem dX2_init_43 : decode cX2_init 43 = .ok (.aload_n 0, 1) := by decide +kernel
theorem dX2_init_44 : decode cX2_init 44 = .ok (.bipush 6, 2) := by decide +kernel
theorem dX2_init_46 : decode cX2_init 46 = .ok (.newarray .long, 2) := by decide +kernel
theorem dX2_init_48 : decode cX2_init 48 = .ok (.putfield 34, 3) := by decide +kernel
theorem dX2_init_51 : decode cX2_init 51 = .ok (.return_, 1) := by decide +kernel
theorem dX0_init_0 : decode cX0_init 0 = .ok (.aload_n 0, 1) := by decide +kernel
theorem dX0_init_1 : decode cX0_init 1 = .ok (.invokespecial 1, 3) := by decide +kernel
theorem dX0_init_4 : decode cX0_init 4 = .ok (.aload_n 0, 1) := by decide +kernel
theorem dX0_init_5 : decode cX0_init 5 = .ok (.bipush 20, 2) := by decide +kernel
theorem dX0_init_7 : decode cX0_init 7 = .ok (.anewarray 9, 3) := by decide +kernel
theorem dX0_init_10 : decode cX0_init 10 = .ok (.putfield 11, 3) := by decide +kernel
theorem dX0_init_13 : decode cX0_init 13 = .ok (.aload_n 0, 1) := by decide +kernel
theorem dX0_init_14 : decode cX0_init 14 = .ok (.iconst 0, 1) := by decide +kernel
theorem dX0_init_15 : decode cX0_init 15 = .ok (.putfield 15, 3) := by decide +kernel
theorem dX0_init_18 : decode cX0_init 18 = .ok (.aload_n 0, 1) := by decide +kernel
theorem dX0_init_19 : decode cX0_init 19 = .ok (.iconst 0, 1) := by decide +kernel
theorem dX0_init_20 : decode cX0_init 20 = .ok (.putfield 19, 3) := by decide +kernel
theorem dX0_init_23 : decode cX0_init 23 = .ok (.iconst 0, 1) := by decide +kernel
theorem dX0_init_24 : decode cX0_init 24 = .ok (.istore_n 1, 1) := by decide +kernel
theorem dX0_init_25 : decode cX0_init 25 = .ok (.iload_n 1, 1) := by decide +kernel
theorem dX0_init_26 : decode cX0_init 26 = .ok (.bipush 20, 2) := by decide +kernel
theorem dX0_init_28 : decode cX0_init 28 = .ok (.if_icmp .ge 22, 3) := by decide +kernel
theorem dX0_init_31 : decode cX0_init 31 = .ok (.aload_n 0, 1) := by decide +kernel
theorem dX0_init_32 : decode cX0_init 32 = .ok (.getfield 11, 3) := by decide +kernel
theorem dX0_init_35 : decode cX0_init 35 = .ok (.iload_n 1, 1) := by decide +kernel
theorem dX0_init_36 : decode cX0_init 36 = .ok (.new 9, 3) := by decide +kernel
theorem dX0_init_39 : decode cX0_init 39 = .ok (.dup, 1) := by decide +kernel
theorem dX0_init_40 : decode cX0_init 40 = .ok (.invokespecial 22, 3) := by decide +kernel
theorem dX0_init_43 : decode cX0_init 43 = .ok (.aastore, 1) := by decide +kernel
theorem dX0_init_44 : decode cX0_init 44 = .ok (.iinc 1 1, 3) := by decide +kernel
theorem dX0_init_47 : decode cX0_init 47 = .ok (.goto (-22), 3) := by decide +kernel
theorem dX0_init_50 : decode cX0_init 50 = .ok (.return_, 1) := by decide +kernel
theorem dX0_clear_0 : decode cX0_clear 0 = .ok (.aload_n 0, 1) := by decide +kernel
theorem dX0_clear_1 : decode cX0_clear 1 = .ok (.iconst 0, 1) := by decide +kernel
theorem dX0_clear_2 : decode cX0_clear 2 = .ok (.putfield 19, 3) := by decide +kernel
theorem dX0_clear_5 : decode cX0_clear 5 = .ok (.return_, 1) := by decide +kernel
theorem dX2_copyOf_0 : decode cX2_copyOf 0 = .ok (.aload_n 0, 1) := by decide +kernel
theorem dX2_copyOf_1 : decode cX2_copyOf 1 = .ok (.aload_n 1, 1) := by decide +kernel
theorem dX2_copyOf_2 : decode cX2_copyOf 2 = .ok (.getfield 9, 3) := by decide +kernel
theorem dX2_copyOf_5 : decode cX2_copyOf 5 = .ok (.putfield 9, 3) := by decide +kernel
theorem dX2_copyOf_8 : decode cX2_copyOf 8 = .ok (.aload_n 0, 1) := by decide +kernel
theorem dX2_copyOf_9 : decode cX2_copyOf 9 = .ok (.aload_n 1, 1) := by decide +kernel
theorem dX2_copyOf_10 : decode cX2_copyOf 10 = .ok (.getfield 15, 3) := by decide +kernel
theorem dX2_copyOf_13 : decode cX2_copyOf 13 = .ok (.putfield 15, 3) := by decide +kernel
theorem dX2_copyOf_16 : decode cX2_copyOf 16 = .ok (.aload_n 0, 1) := by decide +kernel
theorem dX2_copyOf_17 : decode cX2_copyOf 17 = .ok (.aload_n 1, 1) := by decide +kernel
theorem dX2_copyOf_18 : decode cX2_copyOf 18 = .ok (.getfield 18, 3) := by decide +kernel
theorem dX2_copyOf_21 : decode cX2_copyOf 21 = .ok (.putfield 18, 3) := by decide +kernel
theorem dX2_copyOf_24 : decode cX2_copyOf 24 = .ok (.aload_n 0, 1) := by decide +kernel
theorem dX2_copyOf_25 : decode cX2_copyOf 25 = .ok (.aload_n 1, 1) := by decide +kernel
theorem dX2_copyOf_26 : decode cX2_copyOf 26 = .ok (.getfield 21, 3) := by decide +kernel
theorem dX2_copyOf_29 : decode cX2_copyOf 29 = .ok (.putfield 21, 3) := by decide +kernel
theorem dX2_copyOf_32 : decode cX2_copyOf 32 = .ok (.aload_n 0, 1) := by decide +kernel
theorem dX2_copyOf_33 : decode cX2_copyOf 33 = .ok (.aload_n 1, 1) := by decide +kernel
theorem dX2_copyOf_34 : decode cX2_copyOf 34 = .ok (.getfield 24, 3) := by decide +kernel
theorem dX2_copyOf_37 : decode cX2_copyOf 37 = .ok (.putfield 24, 3) := by decide +kernel
theorem dX2_copyOf_40 : decode cX2_copyOf 40 = .ok (.aload_n 1, 1) := by decide +kernel
theorem dX2_copyOf_41 : decode cX2_copyOf 41 = .ok (.getfield 27, 3) := by decide +kernel
theorem dX2_copyOf_44 : decode cX2_copyOf 44 = .ok (.iconst 0, 1) := by decide +kernel
theorem dX2_copyOf_45 : decode cX2_copyOf 45 = .ok (.aload_n 0, 1) := by decide +kernel
theorem dX2_copyOf_46 : decode cX2_copyOf 46 = .ok (.getfield 27, 3) := by decide +kernel
theorem dX2_copyOf_49 : decode cX2_copyOf 49 = .ok (.iconst 0, 1) := by decide +kernel
theorem dX2_copyOf_50 : decode cX2_copyOf 50 = .ok (.iconst 5, 1) := by decide +kernel
theorem dX2_copyOf_51 : decode cX2_copyOf 51 = .ok (.invokestatic 38, 3) := by decide +kernel
theorem dX2_copyOf_54 : decode cX2_copyOf 54 = .ok (.aload_n 1, 1) := by decide +kernel
theorem dX2_copyOf_55 : decode cX2_copyOf 55 = .ok (.getfield 31, 3) := by decide +kernel
theorem dX2_copyOf_58 : decode cX2_copyOf 58 = .ok (.iconst 0, 1) := by decide +kernel
theorem dX2_copyOf_59 : decode cX2_copyOf 59 = .ok (.aload_n 0, 1) := by decide +kernel
theorem dX2_copyOf_60 : decode cX2_copyOf 60 = .ok (.getfield 31, 3) := by decide +kernel
theorem dX2_copyOf_63 : decode cX2_copyOf 63 = .ok (.iconst 0, 1) := by decide +kernel
theorem dX2_copyOf_64 : decode cX2_copyOf 64 = .ok (.iconst 5, 1) := by decide +kernel
theorem dX2_copyOf_65 : decode cX2_copyOf 65 = .ok (.invokestatic 38, 3) := by decide +kernel
theorem dX2_copyOf_68 : decode cX2_copyOf 68 = .ok (.aload_n 1, 1) := by decide +kernel
theorem dX2_copyOf_69 : decode cX2_copyOf 69 = .ok (.getfield 34, 3) := by decide +kernel
theorem dX2_copyOf_72 : decode cX2_copyOf 72 = .ok (.iconst 0, 1) := by decide +kernel
theorem dX2_copyOf_73 : decode cX2_copyOf 73 = .ok (.aload_n 0, 1) := by decide +kernel
theorem dX2_copyOf_74 : decode cX2_copyOf 74 = .ok (.getfield 34, 3) := by decide +kernel
theorem dX2_copyOf_77 : decode cX2_copyOf 77 = .ok (.iconst 0, 1) := by decide +kernel
theorem dX2_copyOf_78 : decode cX2_copyOf 78 = .ok (.bipush 6, 2) := by decide +kernel
theorem dX2_copyOf_80 : decode cX2_copyOf 80 = .ok (.invokestatic 38, 3) := by decide +kernel
theorem dX2_copyOf_83 : decode cX2_copyOf 83 = .ok (.return_, 1) := by decide +kernel
theorem dJ9_min_7cf53_0 : decode cJ9_min_7cf53 0 = .ok (.iload_n 0, 1) := by decide +kernel
theorem dJ9_min_7cf53_1 : decode cJ9_min_7cf53 1 = .ok (.iload_n 1, 1) := by decide +kernel
theorem dJ9_min_7cf53_2 : decode cJ9_min_7cf53 2 = .ok (.if_icmp .gt 7, 3) := by decide +kernel
theorem dJ9_min_7cf53_5 : decode cJ9_min_7cf53 5 = .ok (.iload_n 0, 1) := by decide +kernel
theorem dJ9_min_7cf53_6 : decode cJ9_min_7cf53 6 = .ok (.goto 4, 3) := by decide +kernel
theorem dJ9_min_7cf53_9 : decode cJ9_min_7cf53 9 = .ok (.iload_n 1, 1) := by decide +kernel
theorem dJ9_min_7cf53_10 : decode cJ9_min_7cf53 10 = .ok (.ireturn, 1) := by decide +kernel
theorem dX0_keep_0 : decode cX0_keep 0 = .ok (.aload_n 0, 1) := by decide +kernel
theorem dX0_keep_1 : decode cX0_keep 1 = .ok (.getfield 15, 3) := by decide +kernel
theorem dX0_keep_4 : decode cX0_keep 4 = .ok (.ifCond .lt 12, 3) := by decide +kernel
theorem dX0_keep_7 : decode cX0_keep 7 = .ok (.aload_n 0, 1) := by decide +kernel
theorem dX0_keep_8 : decode cX0_keep 8 = .ok (.getfield 15, 3) := by decide +kernel
theorem dX0_keep_11 : decode cX0_keep 11 = .ok (.bipush 20, 2) := by decide +kernel
theorem dX0_keep_13 : decode cX0_keep 13 = .ok (.if_icmp .lt 8, 3) := by decide +kernel
theorem dX0_keep_16 : decode cX0_keep 16 = .ok (.aload_n 0, 1) := by decide +kernel
theorem dX0_keep_17 : decode cX0_keep 17 = .ok (.iconst 0, 1) := by decide +kernel
theorem dX0_keep_18 : decode cX0_keep 18 = .ok (.putfield 15, 3) := by decide +kernel
theorem dX0_keep_21 : decode cX0_keep 21 = .ok (.aload_n 0, 1) := by decide +kernel
theorem dX0_keep_22 : decode cX0_keep 22 = .ok (.getfield 11, 3) := by decide +kernel
theorem dX0_keep_25 : decode cX0_keep 25 = .ok (.aload_n 0, 1) := by decide +kernel
theorem dX0_keep_26 : decode cX0_keep 26 = .ok (.getfield 15, 3) := by decide +kernel
theorem dX0_keep_29 : decode cX0_keep 29 = .ok (.aaload, 1) := by decide +kernel
theorem dX0_keep_30 : decode cX0_keep 30 = .ok (.aload_n 1, 1) := by decide +kernel
theorem dX0_keep_31 : decode cX0_keep 31 = .ok (.invokevirtual 23, 3) := by decide +kernel
theorem dX0_keep_34 : decode cX0_keep 34 = .ok (.aload_n 0, 1) := by decide +kernel
theorem dX0_keep_35 : decode cX0_keep 35 = .ok (.aload_n 0, 1) := by decide +kernel
theorem dX0_keep_36 : decode cX0_keep 36 = .ok (.getfield 15, 3) := by decide +kernel
theorem dX0_keep_39 : decode cX0_keep 39 = .ok (.iconst 1, 1) := by decide +kernel
theorem dX0_keep_40 : decode cX0_keep 40 = .ok (.iadd, 1) := by decide +kernel
theorem dX0_keep_41 : decode cX0_keep 41 = .ok (.bipush 20, 2) := by decide +kernel
theorem dX0_keep_43 : decode cX0_keep 43 = .ok (.irem, 1) := by decide +kernel
theorem dX0_keep_44 : decode cX0_keep 44 = .ok (.putfield 15, 3) := by decide +kernel
theorem dX0_keep_47 : decode cX0_keep 47 = .ok (.aload_n 0, 1) := by decide +kernel
theorem dX0_keep_48 : decode cX0_keep 48 = .ok (.bipush 20, 2) := by decide +kernel
theorem dX0_keep_50 : decode cX0_keep 50 = .ok (.aload_n 0, 1) := by decide +kernel
theorem dX0_keep_51 : decode cX0_keep 51 = .ok (.getfield 19, 3) := by decide +kernel
theorem dX0_keep_54 : decode cX0_keep 54 = .ok (.iconst 1, 1) := by decide +kernel
theorem dX0_keep_55 : decode cX0_keep 55 = .ok (.iadd, 1) := by decide +kernel
theorem dX0_keep_56 : decode cX0_keep 56 = .ok (.invokestatic 27, 3) := by decide +kernel
theorem dX0_keep_59 : decode cX0_keep 59 = .ok (.putfield 19, 3) := by decide +kernel
theorem dX0_keep_62 : decode cX0_keep 62 = .ok (.return_, 1) := by decide +kernel
theorem dJ9_floorMod_7cf53_0 : decode cJ9_floorMod_7cf53 0 = .ok (.iload_n 0, 1) := by decide +kernel
theorem dJ9_floorMod_7cf53_1 : decode cJ9_floorMod_7cf53 1 = .ok (.iload_n 1, 1) := by decide +kernel
theorem dJ9_floorMod_7cf53_2 : decode cJ9_floorMod_7cf53 2 = .ok (.irem, 1) := by decide +kernel
theorem dJ9_floorMod_7cf53_3 : decode cJ9_floorMod_7cf53 3 = .ok (.istore_n 2, 1) := by decide +kernel
theorem dJ9_floorMod_7cf53_4 : decode cJ9_floorMod_7cf53 4 = .ok (.iload_n 0, 1) := by decide +kernel
theorem dJ9_floorMod_7cf53_5 : decode cJ9_floorMod_7cf53 5 = .ok (.iload_n 1, 1) := by decide +kernel
theorem dJ9_floorMod_7cf53_6 : decode cJ9_floorMod_7cf53 6 = .ok (.ixor, 1) := by decide +kernel
theorem dJ9_floorMod_7cf53_7 : decode cJ9_floorMod_7cf53 7 = .ok (.ifCond .ge 11, 3) := by decide +kernel
theorem dJ9_floorMod_7cf53_10 : decode cJ9_floorMod_7cf53 10 = .ok (.iload_n 2, 1) := by decide +kernel
theorem dJ9_floorMod_7cf53_11 : decode cJ9_floorMod_7cf53 11 = .ok (.ifCond .eq 7, 3) := by decide +kernel
theorem dJ9_floorMod_7cf53_14 : decode cJ9_floorMod_7cf53 14 = .ok (.iload_n 2, 1) := by decide +kernel
theorem dJ9_floorMod_7cf53_15 : decode cJ9_floorMod_7cf53 15 = .ok (.iload_n 1, 1) := by decide +kernel
theorem dJ9_floorMod_7cf53_16 : decode cJ9_floorMod_7cf53 16 = .ok (.iadd, 1) := by decide +kernel
theorem dJ9_floorMod_7cf53_17 : decode cJ9_floorMod_7cf53 17 = .ok (.ireturn, 1) := by decide +kernel
theorem dJ9_floorMod_7cf53_18 : decode cJ9_floorMod_7cf53 18 = .ok (.iload_n 2, 1) := by decide +kernel
theorem dJ9_floorMod_7cf53_19 : decode cJ9_floorMod_7cf53 19 = .ok (.ireturn, 1) := by decide +kernel
theorem dX0_takeBack_0 : decode cX0_takeBack 0 = .ok (.aload_n 0, 1) := by decide +kernel
theorem dX0_takeBack_1 : decode cX0_takeBack 1 = .ok (.getfield 19, 3) := by decide +kernel
theorem dX0_takeBack_4 : decode cX0_takeBack 4 = .ok (.ifCond .gt 5, 3) := by decide +kernel
theorem dX0_takeBack_7 : decode cX0_takeBack 7 = .ok (.iconst 0, 1) := by decide +kernel
theorem dX0_takeBack_8 : decode cX0_takeBack 8 = .ok (.ireturn, 1) := by decide +kernel
theorem dX0_takeBack_9 : decode cX0_takeBack 9 = .ok (.aload_n 0, 1) := by decide +kernel
theorem dX0_takeBack_10 : decode cX0_takeBack 10 = .ok (.aload_n 0, 1) := by decide +kernel
theorem dX0_takeBack_11 : decode cX0_takeBack 11 = .ok (.getfield 15, 3) := by decide +kernel
theorem dX0_takeBack_14 : decode cX0_takeBack 14 = .ok (.iconst 1, 1) := by decide +kernel
theorem dX0_takeBack_15 : decode cX0_takeBack 15 = .ok (.isub, 1) := by decide +kernel
theorem dX0_takeBack_16 : decode cX0_takeBack 16 = .ok (.bipush 20, 2) := by decide +kernel
theorem dX0_takeBack_18 : decode cX0_takeBack 18 = .ok (.invokestatic 33, 3) := by decide +kernel
theorem dX0_takeBack_21 : decode cX0_takeBack 21 = .ok (.putfield 15, 3) := by decide +kernel
theorem dX0_takeBack_24 : decode cX0_takeBack 24 = .ok (.aload_n 1, 1) := by decide +kernel
theorem dX0_takeBack_25 : decode cX0_takeBack 25 = .ok (.aload_n 0, 1) := by decide +kernel
theorem dX0_takeBack_26 : decode cX0_takeBack 26 = .ok (.getfield 11, 3) := by decide +kernel
theorem dX0_takeBack_29 : decode cX0_takeBack 29 = .ok (.aload_n 0, 1) := by decide +kernel
theorem dX0_takeBack_30 : decode cX0_takeBack 30 = .ok (.getfield 15, 3) := by decide +kernel
theorem dX0_takeBack_33 : decode cX0_takeBack 33 = .ok (.aaload, 1) := by decide +kernel
theorem dX0_takeBack_34 : decode cX0_takeBack 34 = .ok (.invokevirtual 23, 3) := by decide +kernel
theorem dX0_takeBack_37 : decode cX0_takeBack 37 = .ok (.aload_n 0, 1) := by decide +kernel
theorem dX0_takeBack_38 : decode cX0_takeBack 38 = .ok (.dup, 1) := by decide +kernel
theorem dX0_takeBack_39 : decode cX0_takeBack 39 = .ok (.getfield 19, 3) := by decide +kernel
theorem dX0_takeBack_42 : decode cX0_takeBack 42 = .ok (.iconst 1, 1) := by decide +kernel
theorem dX0_takeBack_43 : decode cX0_takeBack 43 = .ok (.isub, 1) := by decide +kernel
theorem dX0_takeBack_44 : decode cX0_takeBack 44 = .ok (.putfield 19, 3) := by decide +kernel
theorem dX0_takeBack_47 : decode cX0_takeBack 47 = .ok (.iconst 1, 1) := by decide +kernel
theorem dX0_takeBack_48 : decode cX0_takeBack 48 = .ok (.ireturn, 1) := by decide +kernel
theorem dX1_init_0 : decode cX1_init 0 = .ok (.aload_n 0, 1) := by decide +kernel
theorem dX1_init_1 : decode cX1_init 1 = .ok (.invokespecial 3, 3) := by decide +kernel
theorem dX1_init_4 : decode cX1_init 4 = .ok (.aload_n 0, 1) := by decide +kernel
theorem dX1_init_5 : decode cX1_init 5 = .ok (.bipush 10, 2) := by decide +kernel
theorem dX1_init_7 : decode cX1_init 7 = .ok (.newarray .int, 2) := by decide +kernel
theorem dX1_init_9 : decode cX1_init 9 = .ok (.putfield 9, 3) := by decide +kernel
theorem dX1_init_12 : decode cX1_init 12 = .ok (.aload_n 0, 1) := by decide +kernel
theorem dX1_init_13 : decode cX1_init 13 = .ok (.bipush 10, 2) := by decide +kernel
theorem dX1_init_15 : decode cX1_init 15 = .ok (.newarray .int, 2) := by decide +kernel
theorem dX1_init_17 : decode cX1_init 17 = .ok (.putfield 15, 3) := by decide +kernel
theorem dX1_init_20 : decode cX1_init 20 = .ok (.aload_n 0, 1) := by decide +kernel
theorem dX1_init_21 : decode cX1_init 21 = .ok (.bipush 10, 2) := by decide +kernel
theorem dX1_init_23 : decode cX1_init 23 = .ok (.newarray .int, 2) := by decide +kernel
theorem dX1_init_25 : decode cX1_init 25 = .ok (.putfield 18, 3) := by decide +kernel
theorem dX1_init_28 : decode cX1_init 28 = .ok (.aload_n 0, 1) := by decide +kernel
theorem dX1_init_29 : decode cX1_init 29 = .ok (.bipush 10, 2) := by decide +kernel
theorem dX1_init_31 : decode cX1_init 31 = .ok (.newarray .int, 2) := by decide +kernel
theorem dX1_init_33 : decode cX1_init 33 = .ok (.putfield 21, 3) := by decide +kernel
theorem dX1_init_36 : decode cX1_init 36 = .ok (.aload_n 0, 1) := by decide +kernel
theorem dX1_init_37 : decode cX1_init 37 = .ok (.iconst 0, 1) := by decide +kernel
theorem dX1_init_38 : decode cX1_init 38 = .ok (.putfield 24, 3) := by decide +kernel
theorem dX1_init_41 : decode cX1_init 41 = .ok (.return_, 1) := by decide +kernel
theorem dX1_clear_0 : decode cX1_clear 0 = .ok (.aload_n 0, 1) := by decide +kernel
theorem dX1_clear_1 : decode cX1_clear 1 = .ok (.iconst 0, 1) := by decide +kernel
theorem dX1_clear_2 : decode cX1_clear 2 = .ok (.putfield 24, 3) := by decide +kernel
theorem dX1_clear_5 : decode cX1_clear 5 = .ok (.return_, 1) := by decide +kernel
theorem dX1_copyOf_0 : decode cX1_copyOf 0 = .ok (.aload_n 0, 1) := by decide +kernel
theorem dX1_copyOf_1 : decode cX1_copyOf 1 = .ok (.aload_n 1, 1) := by decide +kernel
theorem dX1_copyOf_2 : decode cX1_copyOf 2 = .ok (.getfield 24, 3) := by decide +kernel
theorem dX1_copyOf_5 : decode cX1_copyOf 5 = .ok (.putfield 24, 3) := by decide +kernel
theorem dX1_copyOf_8 : decode cX1_copyOf 8 = .ok (.aload_n 1, 1) := by decide +kernel
theorem dX1_copyOf_9 : decode cX1_copyOf 9 = .ok (.getfield 9, 3) := by decide +kernel
theorem dX1_copyOf_12 : decode cX1_copyOf 12 = .ok (.iconst 0, 1) := by decide +kernel
theorem dX1_copyOf_13 : decode cX1_copyOf 13 = .ok (.aload_n 0, 1) := by decide +kernel
theorem dX1_copyOf_14 : decode cX1_copyOf 14 = .ok (.getfield 9, 3) := by decide +kernel
theorem dX1_copyOf_17 : decode cX1_copyOf 17 = .ok (.iconst 0, 1) := by decide +kernel
theorem dX1_copyOf_18 : decode cX1_copyOf 18 = .ok (.bipush 10, 2) := by decide +kernel
theorem dX1_copyOf_20 : decode cX1_copyOf 20 = .ok (.invokestatic 28, 3) := by decide +kernel
theorem dX1_copyOf_23 : decode cX1_copyOf 23 = .ok (.aload_n 1, 1) := by decide +kernel
theorem dX1_copyOf_24 : decode cX1_copyOf 24 = .ok (.getfield 15, 3) := by decide +kernel
theorem dX1_copyOf_27 : decode cX1_copyOf 27 = .ok (.iconst 0, 1) := by decide +kernel
theorem dX1_copyOf_28 : decode cX1_copyOf 28 = .ok (.aload_n 0, 1) := by decide +kernel
theorem dX1_copyOf_29 : decode cX1_copyOf 29 = .ok (.getfield 15, 3) := by decide +kernel
theorem dX1_copyOf_32 : decode cX1_copyOf 32 = .ok (.iconst 0, 1) := by decide +kernel
theorem dX1_copyOf_33 : decode cX1_copyOf 33 = .ok (.bipush 10, 2) := by decide +kernel
theorem dX1_copyOf_35 : decode cX1_copyOf 35 = .ok (.invokestatic 28, 3) := by decide +kernel
theorem dX1_copyOf_38 : decode cX1_copyOf 38 = .ok (.aload_n 1, 1) := by decide +kernel
theorem dX1_copyOf_39 : decode cX1_copyOf 39 = .ok (.getfield 18, 3) := by decide +kernel
theorem dX1_copyOf_42 : decode cX1_copyOf 42 = .ok (.iconst 0, 1) := by decide +kernel
theorem dX1_copyOf_43 : decode cX1_copyOf 43 = .ok (.aload_n 0, 1) := by decide +kernel
theorem dX1_copyOf_44 : decode cX1_copyOf 44 = .ok (.getfield 18, 3) := by decide +kernel
theorem dX1_copyOf_47 : decode cX1_copyOf 47 = .ok (.iconst 0, 1) := by decide +kernel
theorem dX1_copyOf_48 : decode cX1_copyOf 48 = .ok (.bipush 10, 2) := by decide +kernel
theorem dX1_copyOf_50 : decode cX1_copyOf 50 = .ok (.invokestatic 28, 3) := by decide +kernel
theorem dX1_copyOf_53 : decode cX1_copyOf 53 = .ok (.aload_n 1, 1) := by decide +kernel
theorem dX1_copyOf_54 : decode cX1_copyOf 54 = .ok (.getfield 21, 3) := by decide +kernel
theorem dX1_copyOf_57 : decode cX1_copyOf 57 = .ok (.iconst 0, 1) := by decide +kernel
theorem dX1_copyOf_58 : decode cX1_copyOf 58 = .ok (.aload_n 0, 1) := by decide +kernel
theorem dX1_copyOf_59 : decode cX1_copyOf 59 = .ok (.getfield 21, 3) := by decide +kernel
theorem dX1_copyOf_62 : decode cX1_copyOf 62 = .ok (.iconst 0, 1) := by decide +kernel
theorem dX1_copyOf_63 : decode cX1_copyOf 63 = .ok (.bipush 10, 2) := by decide +kernel
theorem dX1_copyOf_65 : decode cX1_copyOf 65 = .ok (.invokestatic 28, 3) := by decide +kernel
theorem dX1_copyOf_68 : decode cX1_copyOf 68 = .ok (.return_, 1) := by decide +kernel
theorem dX1_add_0 : decode cX1_add 0 = .ok (.aload_n 0, 1) := by decide +kernel
theorem dX1_add_1 : decode cX1_add 1 = .ok (.getfield 24, 3) := by decide +kernel
theorem dX1_add_4 : decode cX1_add 4 = .ok (.ifCond .lt 12, 3) := by decide +kernel
theorem dX1_add_7 : decode cX1_add 7 = .ok (.aload_n 0, 1) := by decide +kernel
theorem dX1_add_8 : decode cX1_add 8 = .ok (.getfield 24, 3) := by decide +kernel
theorem dX1_add_11 : decode cX1_add 11 = .ok (.bipush 10, 2) := by decide +kernel
theorem dX1_add_13 : decode cX1_add 13 = .ok (.if_icmp .lt 5, 3) := by decide +kernel
theorem dX1_add_16 : decode cX1_add 16 = .ok (.iconst 0, 1) := by decide +kernel
theorem dX1_add_17 : decode cX1_add 17 = .ok (.ireturn, 1) := by decide +kernel
theorem dX1_add_18 : decode cX1_add 18 = .ok (.aload_n 0, 1) := by decide +kernel
theorem dX1_add_19 : decode cX1_add 19 = .ok (.getfield 9, 3) := by decide +kernel
theorem dX1_add_22 : decode cX1_add 22 = .ok (.aload_n 0, 1) := by decide +kernel
theorem dX1_add_23 : decode cX1_add 23 = .ok (.getfield 24, 3) := by decide +kernel
theorem dX1_add_26 : decode cX1_add 26 = .ok (.iload_n 1, 1) := by decide +kernel
theorem dX1_add_27 : decode cX1_add 27 = .ok (.iastore, 1) := by decide +kernel
theorem dX1_add_28 : decode cX1_add 28 = .ok (.aload_n 0, 1) := by decide +kernel
theorem dX1_add_29 : decode cX1_add 29 = .ok (.getfield 15, 3) := by decide +kernel
theorem dX1_add_32 : decode cX1_add 32 = .ok (.aload_n 0, 1) := by decide +kernel
theorem dX1_add_33 : decode cX1_add 33 = .ok (.getfield 24, 3) := by decide +kernel
theorem dX1_add_36 : decode cX1_add 36 = .ok (.iload_n 2, 1) := by decide +kernel
theorem dX1_add_37 : decode cX1_add 37 = .ok (.iastore, 1) := by decide +kernel
theorem dX1_add_38 : decode cX1_add 38 = .ok (.aload_n 0, 1) := by decide +kernel
theorem dX1_add_39 : decode cX1_add 39 = .ok (.getfield 18, 3) := by decide +kernel
theorem dX1_add_42 : decode cX1_add 42 = .ok (.aload_n 0, 1) := by decide +kernel
theorem dX1_add_43 : decode cX1_add 43 = .ok (.getfield 24, 3) := by decide +kernel
theorem dX1_add_46 : decode cX1_add 46 = .ok (.iload_n 3, 1) := by decide +kernel
theorem dX1_add_47 : decode cX1_add 47 = .ok (.iastore, 1) := by decide +kernel
theorem dX1_add_48 : decode cX1_add 48 = .ok (.aload_n 0, 1) := by decide +kernel
theorem dX1_add_49 : decode cX1_add 49 = .ok (.getfield 21, 3) := by decide +kernel
theorem dX1_add_52 : decode cX1_add 52 = .ok (.aload_n 0, 1) := by decide +kernel
theorem dX1_add_53 : decode cX1_add 53 = .ok (.getfield 24, 3) := by decide +kernel
theorem dX1_add_56 : decode cX1_add 56 = .ok (.iload 4, 2) := by decide +kernel
theorem dX1_add_58 : decode cX1_add 58 = .ok (.iastore, 1) := by decide +kernel
theorem dX1_add_59 : decode cX1_add 59 = .ok (.aload_n 0, 1) := by decide +kernel
theorem dX1_add_60 : decode cX1_add 60 = .ok (.dup, 1) := by decide +kernel
theorem dX1_add_61 : decode cX1_add 61 = .ok (.getfield 24, 3) := by decide +kernel
theorem dX1_add_64 : decode cX1_add 64 = .ok (.iconst 1, 1) := by decide +kernel
theorem dX1_add_65 : decode cX1_add 65 = .ok (.iadd, 1) := by decide +kernel
theorem dX1_add_66 : decode cX1_add 66 = .ok (.putfield 24, 3) := by decide +kernel
theorem dX1_add_69 : decode cX1_add 69 = .ok (.iconst 1, 1) := by decide +kernel
theorem dX1_add_70 : decode cX1_add 70 = .ok (.ireturn, 1) := by decide +kernel
theorem dJ6_bitCount_0f7a4_0 : decode cJ6_bitCount_0f7a4 0 = .ok (.iload_n 0, 1) := by decide +kernel
theorem dJ6_bitCount_0f7a4_1 : decode cJ6_bitCount_0f7a4 1 = .ok (.iload_n 0, 1) := by decide +kernel
theorem dJ6_bitCount_0f7a4_2 : decode cJ6_bitCount_0f7a4 2 = .ok (.iconst 1, 1) := by decide +kernel
theorem dJ6_bitCount_0f7a4_3 : decode cJ6_bitCount_0f7a4 3 = .ok (.iushr, 1) := by decide +kernel
theorem dJ6_bitCount_0f7a4_4 : decode cJ6_bitCount_0f7a4 4 = .ok (.ldc_w 265, 3) := by decide +kernel
theorem dJ6_bitCount_0f7a4_7 : decode cJ6_bitCount_0f7a4 7 = .ok (.iand, 1) := by decide +kernel
theorem dJ6_bitCount_0f7a4_8 : decode cJ6_bitCount_0f7a4 8 = .ok (.isub, 1) := by decide +kernel
theorem dJ6_bitCount_0f7a4_9 : decode cJ6_bitCount_0f7a4 9 = .ok (.istore_n 0, 1) := by decide +kernel
theorem dJ6_bitCount_0f7a4_10 : decode cJ6_bitCount_0f7a4 10 = .ok (.iload_n 0, 1) := by decide +kernel
theorem dJ6_bitCount_0f7a4_11 : decode cJ6_bitCount_0f7a4 11 = .ok (.ldc_w 266, 3) := by decide +kernel
theorem dJ6_bitCount_0f7a4_14 : decode cJ6_bitCount_0f7a4 14 = .ok (.iand, 1) := by decide +kernel
theorem dJ6_bitCount_0f7a4_15 : decode cJ6_bitCount_0f7a4 15 = .ok (.iload_n 0, 1) := by decide +kernel
theorem dJ6_bitCount_0f7a4_16 : decode cJ6_bitCount_0f7a4 16 = .ok (.iconst 2, 1) := by decide +kernel
theorem dJ6_bitCount_0f7a4_17 : decode cJ6_bitCount_0f7a4 17 = .ok (.iushr, 1) := by decide +kernel
theorem dJ6_bitCount_0f7a4_18 : decode cJ6_bitCount_0f7a4 18 = .ok (.ldc_w 266, 3) := by decide +kernel
theorem dJ6_bitCount_0f7a4_21 : decode cJ6_bitCount_0f7a4 21 = .ok (.iand, 1) := by decide +kernel
theorem dJ6_bitCount_0f7a4_22 : decode cJ6_bitCount_0f7a4 22 = .ok (.iadd, 1) := by decide +kernel
theorem dJ6_bitCount_0f7a4_23 : decode cJ6_bitCount_0f7a4 23 = .ok (.istore_n 0, 1) := by decide +kernel
theorem dJ6_bitCount_0f7a4_24 : decode cJ6_bitCount_0f7a4 24 = .ok (.iload_n 0, 1) := by decide +kernel
theorem dJ6_bitCount_0f7a4_25 : decode cJ6_bitCount_0f7a4 25 = .ok (.iload_n 0, 1) := by decide +kernel
theorem dJ6_bitCount_0f7a4_26 : decode cJ6_bitCount_0f7a4 26 = .ok (.iconst 4, 1) := by decide +kernel
theorem dJ6_bitCount_0f7a4_27 : decode cJ6_bitCount_0f7a4 27 = .ok (.iushr, 1) := by decide +kernel
theorem dJ6_bitCount_0f7a4_28 : decode cJ6_bitCount_0f7a4 28 = .ok (.iadd, 1) := by decide +kernel
theorem dJ6_bitCount_0f7a4_29 : decode cJ6_bitCount_0f7a4 29 = .ok (.ldc_w 267, 3) := by decide +kernel
theorem dJ6_bitCount_0f7a4_32 : decode cJ6_bitCount_0f7a4 32 = .ok (.iand, 1) := by decide +kernel
theorem dJ6_bitCount_0f7a4_33 : decode cJ6_bitCount_0f7a4 33 = .ok (.istore_n 0, 1) := by decide +kernel
theorem dJ6_bitCount_0f7a4_34 : decode cJ6_bitCount_0f7a4 34 = .ok (.iload_n 0, 1) := by decide +kernel
theorem dJ6_bitCount_0f7a4_35 : decode cJ6_bitCount_0f7a4 35 = .ok (.iload_n 0, 1) := by decide +kernel
theorem dJ6_bitCount_0f7a4_36 : decode cJ6_bitCount_0f7a4 36 = .ok (.bipush 8, 2) := by decide +kernel
theorem dJ6_bitCount_0f7a4_38 : decode cJ6_bitCount_0f7a4 38 = .ok (.iushr, 1) := by decide +kernel
theorem dJ6_bitCount_0f7a4_39 : decode cJ6_bitCount_0f7a4 39 = .ok (.iadd, 1) := by decide +kernel
theorem dJ6_bitCount_0f7a4_40 : decode cJ6_bitCount_0f7a4 40 = .ok (.istore_n 0, 1) := by decide +kernel
theorem dJ6_bitCount_0f7a4_41 : decode cJ6_bitCount_0f7a4 41 = .ok (.iload_n 0, 1) := by decide +kernel
theorem dJ6_bitCount_0f7a4_42 : decode cJ6_bitCount_0f7a4 42 = .ok (.iload_n 0, 1) := by decide +kernel
theorem dJ6_bitCount_0f7a4_43 : decode cJ6_bitCount_0f7a4 43 = .ok (.bipush 16, 2) := by decide +kernel
theorem dJ6_bitCount_0f7a4_45 : decode cJ6_bitCount_0f7a4 45 = .ok (.iushr, 1) := by decide +kernel
theorem dJ6_bitCount_0f7a4_46 : decode cJ6_bitCount_0f7a4 46 = .ok (.iadd, 1) := by decide +kernel
theorem dJ6_bitCount_0f7a4_47 : decode cJ6_bitCount_0f7a4 47 = .ok (.istore_n 0, 1) := by decide +kernel
theorem dJ6_bitCount_0f7a4_48 : decode cJ6_bitCount_0f7a4 48 = .ok (.iload_n 0, 1) := by decide +kernel
theorem dJ6_bitCount_0f7a4_49 : decode cJ6_bitCount_0f7a4 49 = .ok (.bipush 63, 2) := by decide +kernel
theorem dJ6_bitCount_0f7a4_51 : decode cJ6_bitCount_0f7a4 51 = .ok (.iand, 1) := by decide +kernel
theorem dJ6_bitCount_0f7a4_52 : decode cJ6_bitCount_0f7a4 52 = .ok (.ireturn, 1) := by decide +kernel
theorem dX10_bitOf_0 : decode cX10_bitOf 0 = .ok (.iload_n 0, 1) := by decide +kernel
theorem dX10_bitOf_1 : decode cX10_bitOf 1 = .ok (.iload_n 1, 1) := by decide +kernel
theorem dX10_bitOf_2 : decode cX10_bitOf 2 = .ok (.ishr, 1) := by decide +kernel
theorem dX10_bitOf_3 : decode cX10_bitOf 3 = .ok (.iconst 1, 1) := by decide +kernel
theorem dX10_bitOf_4 : decode cX10_bitOf 4 = .ok (.iand, 1) := by decide +kernel
theorem dX10_bitOf_5 : decode cX10_bitOf 5 = .ok (.ireturn, 1) := by decide +kernel
theorem dX1_allows_0 : decode cX1_allows 0 = .ok (.iload_n 2, 1) := by decide +kernel
theorem dX1_allows_1 : decode cX1_allows 1 = .ok (.invokestatic 38, 3) := by decide +kernel
theorem dX1_allows_4 : decode cX1_allows 4 = .ok (.istore_n 3, 1) := by decide +kernel
theorem dX1_allows_5 : decode cX1_allows 5 = .ok (.iload_n 2, 1) := by decide +kernel
theorem dX1_allows_6 : decode cX1_allows 6 = .ok (.aload_n 0, 1) := by decide +kernel
theorem dX1_allows_7 : decode cX1_allows 7 = .ok (.getfield 15, 3) := by decide +kernel
theorem dX1_allows_10 : decode cX1_allows 10 = .ok (.iload_n 1, 1) := by decide +kernel
theorem dX1_allows_11 : decode cX1_allows 11 = .ok (.iaload, 1) := by decide +kernel
theorem dX1_allows_12 : decode cX1_allows 12 = .ok (.invokestatic 44, 3) := by decide +kernel
theorem dX1_allows_15 : decode cX1_allows 15 = .ok (.iconst 1, 1) := by decide +kernel
theorem dX1_allows_16 : decode cX1_allows 16 = .ok (.if_icmp .ne 7, 3) := by decide +kernel
theorem dX1_allows_19 : decode cX1_allows 19 = .ok (.iconst 1, 1) := by decide +kernel
theorem dX1_allows_20 : decode cX1_allows 20 = .ok (.goto 4, 3) := by decide +kernel
theorem dX1_allows_23 : decode cX1_allows 23 = .ok (.iconst 0, 1) := by decide +kernel
theorem dX1_allows_24 : decode cX1_allows 24 = .ok (.istore 4, 2) := by decide +kernel
theorem dX1_allows_26 : decode cX1_allows 26 = .ok (.aload_n 0, 1) := by decide +kernel
theorem dX1_allows_27 : decode cX1_allows 27 = .ok (.getfield 9, 3) := by decide +kernel
theorem dX1_allows_30 : decode cX1_allows 30 = .ok (.iload_n 1, 1) := by decide +kernel
theorem dX1_allows_31 : decode cX1_allows 31 = .ok (.iaload, 1) := by decide +kernel
theorem dX1_allows_32 : decode cX1_allows 32 = .ok (.tableswitch 110 0 4 #[36, 39, 50, 66, 82], 36) := by decide +kernel
theorem dX1_allows_68 : decode cX1_allows 68 = .ok (.iload 4, 2) := by decide +kernel
theorem dX1_allows_70 : decode cX1_allows 70 = .ok (.ireturn, 1) := by decide +kernel
theorem dX1_allows_71 : decode cX1_allows 71 = .ok (.iload 4, 2) := by decide +kernel
theorem dX1_allows_73 : decode cX1_allows 73 = .ok (.ifCond .ne 7, 3) := by decide +kernel
theorem dX1_allows_76 : decode cX1_allows 76 = .ok (.iconst 1, 1) := by decide +kernel
theorem dX1_allows_77 : decode cX1_allows 77 = .ok (.goto 4, 3) := by decide +kernel
theorem dX1_allows_80 : decode cX1_allows 80 = .ok (.iconst 0, 1) := by decide +kernel
theorem dX1_allows_81 : decode cX1_allows 81 = .ok (.ireturn, 1) := by decide +kernel
theorem dX1_allows_82 : decode cX1_allows 82 = .ok (.iload_n 3, 1) := by decide +kernel
theorem dX1_allows_83 : decode cX1_allows 83 = .ok (.aload_n 0, 1) := by decide +kernel
theorem dX1_allows_84 : decode cX1_allows 84 = .ok (.getfield 15, 3) := by decide +kernel
theorem dX1_allows_87 : decode cX1_allows 87 = .ok (.iload_n 1, 1) := by decide +kernel
theorem dX1_allows_88 : decode cX1_allows 88 = .ok (.iaload, 1) := by decide +kernel
theorem dX1_allows_89 : decode cX1_allows 89 = .ok (.if_icmp .lt 7, 3) := by decide +kernel
theorem dX1_allows_92 : decode cX1_allows 92 = .ok (.iconst 1, 1) := by decide +kernel
theorem dX1_allows_93 : decode cX1_allows 93 = .ok (.goto 4, 3) := by decide +kernel
theorem dX1_allows_96 : decode cX1_allows 96 = .ok (.iconst 0, 1) := by decide +kernel
theorem dX1_allows_97 : decode cX1_allows 97 = .ok (.ireturn, 1) := by decide +kernel
theorem dX1_allows_98 : decode cX1_allows 98 = .ok (.iload_n 3, 1) := by decide +kernel
theorem dX1_allows_99 : decode cX1_allows 99 = .ok (.aload_n 0, 1) := by decide +kernel
theorem dX1_allows_100 : decode cX1_allows 100 = .ok (.getfield 15, 3) := by decide +kernel
theorem dX1_allows_103 : decode cX1_allows 103 = .ok (.iload_n 1, 1) := by decide +kernel
theorem dX1_allows_104 : decode cX1_allows 104 = .ok (.iaload, 1) := by decide +kernel
theorem dX1_allows_105 : decode cX1_allows 105 = .ok (.if_icmp .gt 7, 3) := by decide +kernel
theorem dX1_allows_108 : decode cX1_allows 108 = .ok (.iconst 1, 1) := by decide +kernel
theorem dX1_allows_109 : decode cX1_allows 109 = .ok (.goto 4, 3) := by decide +kernel
theorem dX1_allows_112 : decode cX1_allows 112 = .ok (.iconst 0, 1) := by decide +kernel
theorem dX1_allows_113 : decode cX1_allows 113 = .ok (.ireturn, 1) := by decide +kernel
theorem dX1_allows_114 : decode cX1_allows 114 = .ok (.iload 4, 2) := by decide +kernel
theorem dX1_allows_116 : decode cX1_allows 116 = .ok (.ifCond .eq 24, 3) := by decide +kernel
theorem dX1_allows_119 : decode cX1_allows 119 = .ok (.aload_n 0, 1) := by decide +kernel
theorem dX1_allows_120 : decode cX1_allows 120 = .ok (.getfield 21, 3) := by decide +kernel
theorem dX1_allows_123 : decode cX1_allows 123 = .ok (.iload_n 1, 1) := by decide +kernel
theorem dX1_allows_124 : decode cX1_allows 124 = .ok (.iaload, 1) := by decide +kernel
theorem dX1_allows_125 : decode cX1_allows 125 = .ok (.aload_n 0, 1) := by decide +kernel
theorem dX1_allows_126 : decode cX1_allows 126 = .ok (.getfield 18, 3) := by decide +kernel
theorem dX1_allows_129 : decode cX1_allows 129 = .ok (.iload_n 1, 1) := by decide +kernel
theorem dX1_allows_130 : decode cX1_allows 130 = .ok (.iaload, 1) := by decide +kernel
theorem dX1_allows_131 : decode cX1_allows 131 = .ok (.iload_n 3, 1) := by decide +kernel
theorem dX1_allows_132 : decode cX1_allows 132 = .ok (.imul, 1) := by decide +kernel
theorem dX1_allows_133 : decode cX1_allows 133 = .ok (.if_icmp .gt 7, 3) := by decide +kernel
theorem dX1_allows_136 : decode cX1_allows 136 = .ok (.iconst 1, 1) := by decide +kernel
theorem dX1_allows_137 : decode cX1_allows 137 = .ok (.goto 4, 3) := by decide +kernel
theorem dX1_allows_140 : decode cX1_allows 140 = .ok (.iconst 0, 1) := by decide +kernel
theorem dX1_allows_141 : decode cX1_allows 141 = .ok (.ireturn, 1) := by decide +kernel
theorem dX1_allows_142 : decode cX1_allows 142 = .ok (.iload 4, 2) := by decide +kernel
theorem dX1_allows_144 : decode cX1_allows 144 = .ok (.ifCond .eq 24, 3) := by decide +kernel
theorem dX1_allows_147 : decode cX1_allows 147 = .ok (.aload_n 0, 1) := by decide +kernel
theorem dX1_allows_148 : decode cX1_allows 148 = .ok (.getfield 21, 3) := by decide +kernel
theorem dX1_allows_151 : decode cX1_allows 151 = .ok (.iload_n 1, 1) := by decide +kernel
theorem dX1_allows_152 : decode cX1_allows 152 = .ok (.iaload, 1) := by decide +kernel
theorem dX1_allows_153 : decode cX1_allows 153 = .ok (.aload_n 0, 1) := by decide +kernel
theorem dX1_allows_154 : decode cX1_allows 154 = .ok (.getfield 18, 3) := by decide +kernel
theorem dX1_allows_157 : decode cX1_allows 157 = .ok (.iload_n 1, 1) := by decide +kernel
theorem dX1_allows_158 : decode cX1_allows 158 = .ok (.iaload, 1) := by decide +kernel
theorem dX1_allows_159 : decode cX1_allows 159 = .ok (.iload_n 3, 1) := by decide +kernel
theorem dX1_allows_160 : decode cX1_allows 160 = .ok (.imul, 1) := by decide +kernel
theorem dX1_allows_161 : decode cX1_allows 161 = .ok (.if_icmp .le 7, 3) := by decide +kernel
theorem dX1_allows_164 : decode cX1_allows 164 = .ok (.iconst 1, 1) := by decide +kernel
theorem dX1_allows_165 : decode cX1_allows 165 = .ok (.goto 4, 3) := by decide +kernel
theorem dX1_allows_168 : decode cX1_allows 168 = .ok (.iconst 0, 1) := by decide +kernel
theorem dX1_allows_169 : decode cX1_allows 169 = .ok (.ireturn, 1) := by decide +kernel
theorem dX1_allow_0 : decode cX1_allow 0 = .ok (.iconst 0, 1) := by decide +kernel
theorem dX1_allow_1 : decode cX1_allow 1 = .ok (.istore_n 2, 1) := by decide +kernel
theorem dX1_allow_2 : decode cX1_allow 2 = .ok (.iload_n 2, 1) := by decide +kernel
theorem dX1_allow_3 : decode cX1_allow 3 = .ok (.aload_n 0, 1) := by decide +kernel
theorem dX1_allow_4 : decode cX1_allow 4 = .ok (.getfield 24, 3) := by decide +kernel
theorem dX1_allow_7 : decode cX1_allow 7 = .ok (.if_icmp .ge 26, 3) := by decide +kernel
theorem dX1_allow_10 : decode cX1_allow 10 = .ok (.iload_n 2, 1) := by decide +kernel
theorem dX1_allow_11 : decode cX1_allow 11 = .ok (.bipush 10, 2) := by decide +kernel
theorem dX1_allow_13 : decode cX1_allow 13 = .ok (.if_icmp .ge 20, 3) := by decide +kernel
theorem dX1_allow_16 : decode cX1_allow 16 = .ok (.aload_n 0, 1) := by decide +kernel
theorem dX1_allow_17 : decode cX1_allow 17 = .ok (.iload_n 2, 1) := by decide +kernel
theorem dX1_allow_18 : decode cX1_allow 18 = .ok (.iload_n 1, 1) := by decide +kernel
theorem dX1_allow_19 : decode cX1_allow 19 = .ok (.invokevirtual 34, 3) := by decide +kernel
theorem dX1_allow_22 : decode cX1_allow 22 = .ok (.ifCond .ne 5, 3) := by decide +kernel
theorem dX1_allow_25 : decode cX1_allow 25 = .ok (.iconst 0, 1) := by decide +kernel
theorem dX1_allow_26 : decode cX1_allow 26 = .ok (.ireturn, 1) := by decide +kernel
theorem dX1_allow_27 : decode cX1_allow 27 = .ok (.iinc 2 1, 3) := by decide +kernel
theorem dX1_allow_30 : decode cX1_allow 30 = .ok (.goto (-28), 3) := by decide +kernel
theorem dX1_allow_33 : decode cX1_allow 33 = .ok (.iconst 1, 1) := by decide +kernel
theorem dX1_allow_34 : decode cX1_allow 34 = .ok (.ireturn, 1) := by decide +kernel
theorem dX2_clear_0 : decode cX2_clear 0 = .ok (.aload_n 0, 1) := by decide +kernel
theorem dX2_clear_1 : decode cX2_clear 1 = .ok (.iconst 0, 1) := by decide +kernel
theorem dX2_clear_2 : decode cX2_clear 2 = .ok (.putfield 9, 3) := by decide +kernel
theorem dX2_clear_5 : decode cX2_clear 5 = .ok (.aload_n 0, 1) := by decide +kernel
theorem dX2_clear_6 : decode cX2_clear 6 = .ok (.iconst 0, 1) := by decide +kernel
theorem dX2_clear_7 : decode cX2_clear 7 = .ok (.putfield 15, 3) := by decide +kernel
theorem dX2_clear_10 : decode cX2_clear 10 = .ok (.aload_n 0, 1) := by decide +kernel
theorem dX2_clear_11 : decode cX2_clear 11 = .ok (.iconst 0, 1) := by decide +kernel
theorem dX2_clear_12 : decode cX2_clear 12 = .ok (.putfield 18, 3) := by decide +kernel
theorem dX2_clear_15 : decode cX2_clear 15 = .ok (.aload_n 0, 1) := by decide +kernel
theorem dX2_clear_16 : decode cX2_clear 16 = .ok (.iconst 0, 1) := by decide +kernel
theorem dX2_clear_17 : decode cX2_clear 17 = .ok (.putfield 21, 3) := by decide +kernel
theorem dX2_clear_20 : decode cX2_clear 20 = .ok (.aload_n 0, 1) := by decide +kernel
theorem dX2_clear_21 : decode cX2_clear 21 = .ok (.iconst 0, 1) := by decide +kernel
theorem dX2_clear_22 : decode cX2_clear 22 = .ok (.putfield 24, 3) := by decide +kernel
theorem dX2_clear_25 : decode cX2_clear 25 = .ok (.aload_n 0, 1) := by decide +kernel
theorem dX2_clear_26 : decode cX2_clear 26 = .ok (.getfield 34, 3) := by decide +kernel
theorem dX2_clear_29 : decode cX2_clear 29 = .ok (.iconst 5, 1) := by decide +kernel
theorem dX2_clear_30 : decode cX2_clear 30 = .ok (.lconst 0, 1) := by decide +kernel
theorem dX2_clear_31 : decode cX2_clear 31 = .ok (.lastore, 1) := by decide +kernel
theorem dX2_clear_32 : decode cX2_clear 32 = .ok (.iconst 0, 1) := by decide +kernel
theorem dX2_clear_33 : decode cX2_clear 33 = .ok (.istore_n 1, 1) := by decide +kernel
theorem dX2_clear_34 : decode cX2_clear 34 = .ok (.iload_n 1, 1) := by decide +kernel
theorem dX2_clear_35 : decode cX2_clear 35 = .ok (.iconst 5, 1) := by decide +kernel
theorem dX2_clear_36 : decode cX2_clear 36 = .ok (.if_icmp .ge 30, 3) := by decide +kernel
theorem dX2_clear_39 : decode cX2_clear 39 = .ok (.aload_n 0, 1) := by decide +kernel
theorem dX2_clear_40 : decode cX2_clear 40 = .ok (.getfield 27, 3) := by decide +kernel
theorem dX2_clear_43 : decode cX2_clear 43 = .ok (.iload_n 1, 1) := by decide +kernel
theorem dX2_clear_44 : decode cX2_clear 44 = .ok (.iconst 0, 1) := by decide +kernel
theorem dX2_clear_45 : decode cX2_clear 45 = .ok (.iastore, 1) := by decide +kernel
theorem dX2_clear_46 : decode cX2_clear 46 = .ok (.aload_n 0, 1) := by decide +kernel
theorem dX2_clear_47 : decode cX2_clear 47 = .ok (.getfield 31, 3) := by decide +kernel
theorem dX2_clear_50 : decode cX2_clear 50 = .ok (.iload_n 1, 1) := by decide +kernel
theorem dX2_clear_51 : decode cX2_clear 51 = .ok (.iconst 0, 1) := by decide +kernel
theorem dX2_clear_52 : decode cX2_clear 52 = .ok (.iastore, 1) := by decide +kernel
theorem dX2_clear_53 : decode cX2_clear 53 = .ok (.aload_n 0, 1) := by decide +kernel
theorem dX2_clear_54 : decode cX2_clear 54 = .ok (.getfield 34, 3) := by decide +kernel
theorem dX2_clear_57 : decode cX2_clear 57 = .ok (.iload_n 1, 1) := by decide +kernel
theorem dX2_clear_58 : decode cX2_clear 58 = .ok (.lconst 0, 1) := by decide +kernel
theorem dX2_clear_59 : decode cX2_clear 59 = .ok (.lastore, 1) := by decide +kernel
theorem dX2_clear_60 : decode cX2_clear 60 = .ok (.iinc 1 1, 3) := by decide +kernel
theorem dX2_clear_63 : decode cX2_clear 63 = .ok (.goto (-29), 3) := by decide +kernel
theorem dX2_clear_66 : decode cX2_clear 66 = .ok (.return_, 1) := by decide +kernel
theorem dX2_isLast_0 : decode cX2_isLast 0 = .ok (.aload_n 0, 1) := by decide +kernel
theorem dX2_isLast_1 : decode cX2_isLast 1 = .ok (.getfield 15, 3) := by decide +kernel
theorem dX2_isLast_4 : decode cX2_isLast 4 = .ok (.sipush 999, 3) := by decide +kernel
theorem dX2_isLast_7 : decode cX2_isLast 7 = .ok (.if_icmp .lt 20, 3) := by decide +kernel
theorem dX2_isLast_10 : decode cX2_isLast 10 = .ok (.aload_n 0, 1) := by decide +kernel
theorem dX2_isLast_11 : decode cX2_isLast 11 = .ok (.getfield 9, 3) := by decide +kernel
theorem dX2_isLast_14 : decode cX2_isLast 14 = .ok (.aload_n 1, 1) := by decide +kernel
theorem dX2_isLast_15 : decode cX2_isLast 15 = .ok (.getfield 44, 3) := by decide +kernel
theorem dX2_isLast_18 : decode cX2_isLast 18 = .ok (.iconst 1, 1) := by decide +kernel
theorem dX2_isLast_19 : decode cX2_isLast 19 = .ok (.isub, 1) := by decide +kernel
theorem dX2_isLast_20 : decode cX2_isLast 20 = .ok (.if_icmp .lt 7, 3) := by decide +kernel
theorem dX2_isLast_23 : decode cX2_isLast 23 = .ok (.iconst 1, 1) := by decide +kernel
theorem dX2_isLast_24 : decode cX2_isLast 24 = .ok (.goto 4, 3) := by decide +kernel
theorem dX2_isLast_27 : decode cX2_isLast 27 = .ok (.iconst 0, 1) := by decide +kernel
theorem dX2_isLast_28 : decode cX2_isLast 28 = .ok (.ireturn, 1) := by decide +kernel
theorem dX7_litAt_0 : decode cX7_litAt 0 = .ok (.iload_n 1, 1) := by decide +kernel
theorem dX7_litAt_1 : decode cX7_litAt 1 = .ok (.ifCond .lt 18, 3) := by decide +kernel
theorem dX7_litAt_4 : decode cX7_litAt 4 = .ok (.iload_n 1, 1) := by decide +kernel
theorem dX7_litAt_5 : decode cX7_litAt 5 = .ok (.bipush 10, 2) := by decide +kernel
theorem dX7_litAt_7 : decode cX7_litAt 7 = .ok (.if_icmp .ge 12, 3) := by decide +kernel
theorem dX7_litAt_10 : decode cX7_litAt 10 = .ok (.aload_n 0, 1) := by decide +kernel
theorem dX7_litAt_11 : decode cX7_litAt 11 = .ok (.getfield 27, 3) := by decide +kernel
theorem dX7_litAt_14 : decode cX7_litAt 14 = .ok (.iload_n 1, 1) := by decide +kernel
theorem dX7_litAt_15 : decode cX7_litAt 15 = .ok (.iaload, 1) := by decide +kernel
theorem dX7_litAt_16 : decode cX7_litAt 16 = .ok (.goto 4, 3) := by decide +kernel
theorem dX7_litAt_19 : decode cX7_litAt 19 = .ok (.iconst 0, 1) := by decide +kernel
theorem dX7_litAt_20 : decode cX7_litAt 20 = .ok (.ireturn, 1) := by decide +kernel
theorem dX2_burningAt_0 : decode cX2_burningAt 0 = .ok (.aload_n 1, 1) := by decide +kernel
theorem dX2_burningAt_1 : decode cX2_burningAt 1 = .ok (.iload_n 2, 1) := by decide +kernel
theorem dX2_burningAt_2 : decode cX2_burningAt 2 = .ok (.invokevirtual 49, 3) := by decide +kernel
theorem dX2_burningAt_5 : decode cX2_burningAt 5 = .ok (.aload_n 0, 1) := by decide +kernel
theorem dX2_burningAt_6 : decode cX2_burningAt 6 = .ok (.getfield 21, 3) := by decide +kernel
theorem dX2_burningAt_9 : decode cX2_burningAt 9 = .ok (.ior, 1) := by decide +kernel
theorem dX2_burningAt_10 : decode cX2_burningAt 10 = .ok (.aload_n 0, 1) := by decide +kernel
theorem dX2_burningAt_11 : decode cX2_burningAt 11 = .ok (.getfield 24, 3) := by decide +kernel
theorem dX2_burningAt_14 : decode cX2_burningAt 14 = .ok (.iconst (-1), 1) := by decide +kernel
theorem dX2_burningAt_15 : decode cX2_burningAt 15 = .ok (.ixor, 1) := by decide +kernel
theorem dX2_burningAt_16 : decode cX2_burningAt 16 = .ok (.iand, 1) := by decide +kernel
theorem dX2_burningAt_17 : decode cX2_burningAt 17 = .ok (.ireturn, 1) := by decide +kernel
theorem dX2_setLamp_0 : decode cX2_setLamp 0 = .ok (.iconst 1, 1) := by decide +kernel
theorem dX2_setLamp_1 : decode cX2_setLamp 1 = .ok (.iload_n 1, 1) := by decide +kernel
theorem dX2_setLamp_2 : decode cX2_setLamp 2 = .ok (.ishl, 1) := by decide +kernel
theorem dX2_setLamp_3 : decode cX2_setLamp 3 = .ok (.istore_n 3, 1) := by decide +kernel
theorem dX2_setLamp_4 : decode cX2_setLamp 4 = .ok (.aload_n 0, 1) := by decide +kernel
theorem dX2_setLamp_5 : decode cX2_setLamp 5 = .ok (.iload_n 2, 1) := by decide +kernel
theorem dX2_setLamp_6 : decode cX2_setLamp 6 = .ok (.ifCond .eq 12, 3) := by decide +kernel
theorem dX2_setLamp_9 : decode cX2_setLamp 9 = .ok (.aload_n 0, 1) := by decide +kernel
theorem dX2_setLamp_10 : decode cX2_setLamp 10 = .ok (.getfield 21, 3) := by decide +kernel
theorem dX2_setLamp_13 : decode cX2_setLamp 13 = .ok (.iload_n 3, 1) := by decide +kernel
theorem dX2_setLamp_14 : decode cX2_setLamp 14 = .ok (.ior, 1) := by decide +kernel
theorem dX2_setLamp_15 : decode cX2_setLamp 15 = .ok (.goto 11, 3) := by decide +kernel
theorem dX2_setLamp_18 : decode cX2_setLamp 18 = .ok (.aload_n 0, 1) := by decide +kernel
theorem dX2_setLamp_19 : decode cX2_setLamp 19 = .ok (.getfield 21, 3) := by decide +kernel
theorem dX2_setLamp_22 : decode cX2_setLamp 22 = .ok (.iload_n 3, 1) := by decide +kernel
theorem dX2_setLamp_23 : decode cX2_setLamp 23 = .ok (.iconst (-1), 1) := by decide +kernel
theorem dX2_setLamp_24 : decode cX2_setLamp 24 = .ok (.ixor, 1) := by decide +kernel
theorem dX2_setLamp_25 : decode cX2_setLamp 25 = .ok (.iand, 1) := by decide +kernel
theorem dX2_setLamp_26 : decode cX2_setLamp 26 = .ok (.putfield 21, 3) := by decide +kernel
theorem dX2_setLamp_29 : decode cX2_setLamp 29 = .ok (.aload_n 0, 1) := by decide +kernel
theorem dX2_setLamp_30 : decode cX2_setLamp 30 = .ok (.iload_n 2, 1) := by decide +kernel
theorem dX2_setLamp_31 : decode cX2_setLamp 31 = .ok (.ifCond .eq 14, 3) := by decide +kernel
theorem dX2_setLamp_34 : decode cX2_setLamp 34 = .ok (.aload_n 0, 1) := by decide +kernel
theorem dX2_setLamp_35 : decode cX2_setLamp 35 = .ok (.getfield 24, 3) := by decide +kernel
theorem dX2_setLamp_38 : decode cX2_setLamp 38 = .ok (.iload_n 3, 1) := by decide +kernel
theorem dX2_setLamp_39 : decode cX2_setLamp 39 = .ok (.iconst (-1), 1) := by decide +kernel
theorem dX2_setLamp_40 : decode cX2_setLamp 40 = .ok (.ixor, 1) := by decide +kernel
theorem dX2_setLamp_41 : decode cX2_setLamp 41 = .ok (.iand, 1) := by decide +kernel
theorem dX2_setLamp_42 : decode cX2_setLamp 42 = .ok (.goto 9, 3) := by decide +kernel
theorem dX2_setLamp_45 : decode cX2_setLamp 45 = .ok (.aload_n 0, 1) := by decide +kernel
theorem dX2_setLamp_46 : decode cX2_setLamp 46 = .ok (.getfield 24, 3) := by decide +kernel
theorem dX2_setLamp_49 : decode cX2_setLamp 49 = .ok (.iload_n 3, 1) := by decide +kernel
theorem dX2_setLamp_50 : decode cX2_setLamp 50 = .ok (.ior, 1) := by decide +kernel
theorem dX2_setLamp_51 : decode cX2_setLamp 51 = .ok (.putfield 24, 3) := by decide +kernel
theorem dX2_setLamp_54 : decode cX2_setLamp 54 = .ok (.return_, 1) := by decide +kernel
theorem dJ9_max_7cf53_0 : decode cJ9_max_7cf53 0 = .ok (.iload_n 0, 1) := by decide +kernel
theorem dJ9_max_7cf53_1 : decode cJ9_max_7cf53 1 = .ok (.iload_n 1, 1) := by decide +kernel
theorem dJ9_max_7cf53_2 : decode cJ9_max_7cf53 2 = .ok (.if_icmp .lt 7, 3) := by decide +kernel
theorem dJ9_max_7cf53_5 : decode cJ9_max_7cf53 5 = .ok (.iload_n 0, 1) := by decide +kernel
theorem dJ9_max_7cf53_6 : decode cJ9_max_7cf53 6 = .ok (.goto 4, 3) := by decide +kernel
theorem dJ9_max_7cf53_9 : decode cJ9_max_7cf53 9 = .ok (.iload_n 1, 1) := by decide +kernel
theorem dJ9_max_7cf53_10 : decode cJ9_max_7cf53 10 = .ok (.ireturn, 1) := by decide +kernel
theorem dX2_goOn_0 : decode cX2_goOn 0 = .ok (.aload_n 0, 1) := by decide +kernel
theorem dX2_goOn_1 : decode cX2_goOn 1 = .ok (.dup, 1) := by decide +kernel
theorem dX2_goOn_2 : decode cX2_goOn 2 = .ok (.getfield 9, 3) := by decide +kernel
theorem dX2_goOn_5 : decode cX2_goOn 5 = .ok (.iconst 1, 1) := by decide +kernel
theorem dX2_goOn_6 : decode cX2_goOn 6 = .ok (.iadd, 1) := by decide +kernel
theorem dX2_goOn_7 : decode cX2_goOn 7 = .ok (.putfield 9, 3) := by decide +kernel
theorem dX2_goOn_10 : decode cX2_goOn 10 = .ok (.aload_n 0, 1) := by decide +kernel
theorem dX2_goOn_11 : decode cX2_goOn 11 = .ok (.getfield 9, 3) := by decide +kernel
theorem dX2_goOn_14 : decode cX2_goOn 14 = .ok (.aload_n 1, 1) := by decide +kernel
theorem dX2_goOn_15 : decode cX2_goOn 15 = .ok (.getfield 44, 3) := by decide +kernel
theorem dX2_goOn_18 : decode cX2_goOn 18 = .ok (.if_icmp .ge 4, 3) := by decide +kernel
theorem dX2_goOn_21 : decode cX2_goOn 21 = .ok (.return_, 1) := by decide +kernel
theorem dX2_goOn_22 : decode cX2_goOn 22 = .ok (.aload_n 0, 1) := by decide +kernel
theorem dX2_goOn_23 : decode cX2_goOn 23 = .ok (.iconst 0, 1) := by decide +kernel
theorem dX2_goOn_24 : decode cX2_goOn 24 = .ok (.putfield 9, 3) := by decide +kernel
theorem dX2_goOn_27 : decode cX2_goOn 27 = .ok (.aload_n 0, 1) := by decide +kernel
theorem dX2_goOn_28 : decode cX2_goOn 28 = .ok (.sipush 999, 3) := by decide +kernel
theorem dX2_goOn_31 : decode cX2_goOn 31 = .ok (.aload_n 0, 1) := by decide +kernel
theorem dX2_goOn_32 : decode cX2_goOn 32 = .ok (.getfield 15, 3) := by decide +kernel
theorem dX2_goOn_35 : decode cX2_goOn 35 = .ok (.iconst 1, 1) := by decide +kernel
theorem dX2_goOn_36 : decode cX2_goOn 36 = .ok (.iadd, 1) := by decide +kernel
theorem dX2_goOn_37 : decode cX2_goOn 37 = .ok (.invokestatic 53, 3) := by decide +kernel
theorem dX2_goOn_40 : decode cX2_goOn 40 = .ok (.putfield 15, 3) := by decide +kernel
theorem dX2_goOn_43 : decode cX2_goOn 43 = .ok (.aload_n 0, 1) := by decide +kernel
theorem dX2_goOn_44 : decode cX2_goOn 44 = .ok (.iconst 0, 1) := by decide +kernel
theorem dX2_goOn_45 : decode cX2_goOn 45 = .ok (.putfield 18, 3) := by decide +kernel
theorem dX2_goOn_48 : decode cX2_goOn 48 = .ok (.aload_n 0, 1) := by decide +kernel
theorem dX2_goOn_49 : decode cX2_goOn 49 = .ok (.iconst 0, 1) := by decide +kernel
theorem dX2_goOn_50 : decode cX2_goOn 50 = .ok (.putfield 21, 3) := by decide +kernel
theorem dX2_goOn_53 : decode cX2_goOn 53 = .ok (.aload_n 0, 1) := by decide +kernel
theorem dX2_goOn_54 : decode cX2_goOn 54 = .ok (.iconst 0, 1) := by decide +kernel
theorem dX2_goOn_55 : decode cX2_goOn 55 = .ok (.putfield 24, 3) := by decide +kernel
theorem dX2_goOn_58 : decode cX2_goOn 58 = .ok (.iconst 0, 1) := by decide +kernel
theorem dX2_goOn_59 : decode cX2_goOn 59 = .ok (.istore_n 2, 1) := by decide +kernel
theorem dX2_goOn_60 : decode cX2_goOn 60 = .ok (.iload_n 2, 1) := by decide +kernel
theorem dX2_goOn_61 : decode cX2_goOn 61 = .ok (.aload_n 1, 1) := by decide +kernel
theorem dX2_goOn_62 : decode cX2_goOn 62 = .ok (.getfield 59, 3) := by decide +kernel
theorem dX2_goOn_65 : decode cX2_goOn 65 = .ok (.if_icmp .ge 54, 3) := by decide +kernel
theorem dX2_goOn_68 : decode cX2_goOn 68 = .ok (.aload_n 0, 1) := by decide +kernel
theorem dX2_goOn_69 : decode cX2_goOn 69 = .ok (.getfield 31, 3) := by decide +kernel
theorem dX2_goOn_72 : decode cX2_goOn 72 = .ok (.iload_n 2, 1) := by decide +kernel
theorem dX2_goOn_73 : decode cX2_goOn 73 = .ok (.iaload, 1) := by decide +kernel
theorem dX2_goOn_74 : decode cX2_goOn 74 = .ok (.aload_n 1, 1) := by decide +kernel
theorem dX2_goOn_75 : decode cX2_goOn 75 = .ok (.getfield 62, 3) := by decide +kernel
theorem dX2_goOn_78 : decode cX2_goOn 78 = .ok (.iload_n 2, 1) := by decide +kernel
theorem dX2_goOn_79 : decode cX2_goOn 79 = .ok (.iaload, 1) := by decide +kernel
theorem dX2_goOn_80 : decode cX2_goOn 80 = .ok (.iadd, 1) := by decide +kernel
theorem dX2_goOn_81 : decode cX2_goOn 81 = .ok (.aload_n 0, 1) := by decide +kernel
theorem dX2_goOn_82 : decode cX2_goOn 82 = .ok (.getfield 27, 3) := by decide +kernel
theorem dX2_goOn_85 : decode cX2_goOn 85 = .ok (.iload_n 2, 1) := by decide +kernel
theorem dX2_goOn_86 : decode cX2_goOn 86 = .ok (.iaload, 1) := by decide +kernel
theorem dX2_goOn_87 : decode cX2_goOn 87 = .ok (.isub, 1) := by decide +kernel
theorem dX2_goOn_88 : decode cX2_goOn 88 = .ok (.istore_n 3, 1) := by decide +kernel
theorem dX2_goOn_89 : decode cX2_goOn 89 = .ok (.aload_n 0, 1) := by decide +kernel
theorem dX2_goOn_90 : decode cX2_goOn 90 = .ok (.getfield 31, 3) := by decide +kernel
theorem dX2_goOn_93 : decode cX2_goOn 93 = .ok (.iload_n 2, 1) := by decide +kernel
theorem dX2_goOn_94 : decode cX2_goOn 94 = .ok (.iconst 0, 1) := by decide +kernel
theorem dX2_goOn_95 : decode cX2_goOn 95 = .ok (.sipush 999, 3) := by decide +kernel
theorem dX2_goOn_98 : decode cX2_goOn 98 = .ok (.iload_n 3, 1) := by decide +kernel
theorem dX2_goOn_99 : decode cX2_goOn 99 = .ok (.invokestatic 53, 3) := by decide +kernel
theorem dX2_goOn_102 : decode cX2_goOn 102 = .ok (.invokestatic 65, 3) := by decide +kernel
theorem dX2_goOn_105 : decode cX2_goOn 105 = .ok (.iastore, 1) := by decide +kernel
theorem dX2_goOn_106 : decode cX2_goOn 106 = .ok (.aload_n 0, 1) := by decide +kernel
theorem dX2_goOn_107 : decode cX2_goOn 107 = .ok (.getfield 27, 3) := by decide +kernel
theorem dX2_goOn_110 : decode cX2_goOn 110 = .ok (.iload_n 2, 1) := by decide +kernel
theorem dX2_goOn_111 : decode cX2_goOn 111 = .ok (.iconst 0, 1) := by decide +kernel
theorem dX2_goOn_112 : decode cX2_goOn 112 = .ok (.iastore, 1) := by decide +kernel
theorem dX2_goOn_113 : decode cX2_goOn 113 = .ok (.iinc 2 1, 3) := by decide +kernel
theorem dX2_goOn_116 : decode cX2_goOn 116 = .ok (.goto (-56), 3) := by decide +kernel
theorem dX2_goOn_119 : decode cX2_goOn 119 = .ok (.return_, 1) := by decide +kernel
theorem dX3_init_0 : decode cX3_init 0 = .ok (.aload_n 0, 1) := by decide +kernel
theorem dX3_init_1 : decode cX3_init 1 = .ok (.invokespecial 3, 3) := by decide +kernel
theorem dX3_init_4 : decode cX3_init 4 = .ok (.aload_n 0, 1) := by decide +kernel
theorem dX3_init_5 : decode cX3_init 5 = .ok (.bipush 64, 2) := by decide +kernel
theorem dX3_init_7 : decode cX3_init 7 = .ok (.newarray .long, 2) := by decide +kernel
theorem dX3_init_9 : decode cX3_init 9 = .ok (.putfield 11, 3) := by decide +kernel
theorem dX3_init_12 : decode cX3_init 12 = .ok (.aload_n 0, 1) := by decide +kernel
theorem dX3_init_13 : decode cX3_init 13 = .ok (.iconst 0, 1) := by decide +kernel
theorem dX3_init_14 : decode cX3_init 14 = .ok (.putfield 15, 3) := by decide +kernel
theorem dX3_init_17 : decode cX3_init 17 = .ok (.aload_n 0, 1) := by decide +kernel
theorem dX3_init_18 : decode cX3_init 18 = .ok (.iconst 0, 1) := by decide +kernel
theorem dX3_init_19 : decode cX3_init 19 = .ok (.putfield 19, 3) := by decide +kernel
theorem dX3_init_22 : decode cX3_init 22 = .ok (.aload_n 0, 1) := by decide +kernel
theorem dX3_init_23 : decode cX3_init 23 = .ok (.lconst 0, 1) := by decide +kernel
theorem dX3_init_24 : decode cX3_init 24 = .ok (.putfield 22, 3) := by decide +kernel
theorem dX3_init_27 : decode cX3_init 27 = .ok (.return_, 1) := by decide +kernel
theorem dX7_workersAt_0 : decode cX7_workersAt 0 = .ok (.iload_n 1, 1) := by decide +kernel
theorem dX7_workersAt_1 : decode cX7_workersAt 1 = .ok (.ifCond .lt 18, 3) := by decide +kernel
theorem dX7_workersAt_4 : decode cX7_workersAt 4 = .ok (.iload_n 1, 1) := by decide +kernel
theorem dX7_workersAt_5 : decode cX7_workersAt 5 = .ok (.bipush 10, 2) := by decide +kernel
theorem dX7_workersAt_7 : decode cX7_workersAt 7 = .ok (.if_icmp .ge 12, 3) := by decide +kernel
theorem dX7_workersAt_10 : decode cX7_workersAt 10 = .ok (.aload_n 0, 1) := by decide +kernel
theorem dX7_workersAt_11 : decode cX7_workersAt 11 = .ok (.getfield 24, 3) := by decide +kernel
theorem dX7_workersAt_14 : decode cX7_workersAt 14 = .ok (.iload_n 1, 1) := by decide +kernel
theorem dX7_workersAt_15 : decode cX7_workersAt 15 = .ok (.iaload, 1) := by decide +kernel
theorem dX7_workersAt_16 : decode cX7_workersAt 16 = .ok (.goto 4, 3) := by decide +kernel
theorem dX7_workersAt_19 : decode cX7_workersAt 19 = .ok (.iconst 0, 1) := by decide +kernel
theorem dX7_workersAt_20 : decode cX7_workersAt 20 = .ok (.ireturn, 1) := by decide +kernel
theorem dX3_push_0 : decode cX3_push 0 = .ok (.aload_n 0, 1) := by decide +kernel
theorem dX3_push_1 : decode cX3_push 1 = .ok (.getfield 15, 3) := by decide +kernel
theorem dX3_push_4 : decode cX3_push 4 = .ok (.ifCond .lt 32, 3) := by decide +kernel
theorem dX3_push_7 : decode cX3_push 7 = .ok (.aload_n 0, 1) := by decide +kernel
theorem dX3_push_8 : decode cX3_push 8 = .ok (.getfield 15, 3) := by decide +kernel
theorem dX3_push_11 : decode cX3_push 11 = .ok (.bipush 64, 2) := by decide +kernel
theorem dX3_push_13 : decode cX3_push 13 = .ok (.if_icmp .ge 23, 3) := by decide +kernel
theorem dX3_push_16 : decode cX3_push 16 = .ok (.aload_n 0, 1) := by decide +kernel
theorem dX3_push_17 : decode cX3_push 17 = .ok (.getfield 11, 3) := by decide +kernel
theorem dX3_push_20 : decode cX3_push 20 = .ok (.aload_n 0, 1) := by decide +kernel
theorem dX3_push_21 : decode cX3_push 21 = .ok (.getfield 15, 3) := by decide +kernel
theorem dX3_push_24 : decode cX3_push 24 = .ok (.lload_n 1, 1) := by decide +kernel
theorem dX3_push_25 : decode cX3_push 25 = .ok (.lastore, 1) := by decide +kernel
theorem dX3_push_26 : decode cX3_push 26 = .ok (.aload_n 0, 1) := by decide +kernel
theorem dX3_push_27 : decode cX3_push 27 = .ok (.dup, 1) := by decide +kernel
theorem dX3_push_28 : decode cX3_push 28 = .ok (.getfield 15, 3) := by decide +kernel
theorem dX3_push_31 : decode cX3_push 31 = .ok (.iconst 1, 1) := by decide +kernel
theorem dX3_push_32 : decode cX3_push 32 = .ok (.iadd, 1) := by decide +kernel
theorem dX3_push_33 : decode cX3_push 33 = .ok (.putfield 15, 3) := by decide +kernel
theorem dX3_push_36 : decode cX3_push 36 = .ok (.return_, 1) := by decide +kernel
theorem dX7_costOf_0 : decode cX7_costOf 0 = .ok (.iconst 0, 1) := by decide +kernel
theorem dX7_costOf_1 : decode cX7_costOf 1 = .ok (.istore_n 2, 1) := by decide +kernel
theorem dX7_costOf_2 : decode cX7_costOf 2 = .ok (.iconst 0, 1) := by decide +kernel
theorem dX7_costOf_3 : decode cX7_costOf 3 = .ok (.istore_n 3, 1) := by decide +kernel
theorem dX7_costOf_4 : decode cX7_costOf 4 = .ok (.iload_n 3, 1) := by decide +kernel
theorem dX7_costOf_5 : decode cX7_costOf 5 = .ok (.iconst 5, 1) := by decide +kernel
theorem dX7_costOf_6 : decode cX7_costOf 6 = .ok (.if_icmp .ge 27, 3) := by decide +kernel
theorem dX7_costOf_9 : decode cX7_costOf 9 = .ok (.iload_n 1, 1) := by decide +kernel
theorem dX7_costOf_10 : decode cX7_costOf 10 = .ok (.iload_n 3, 1) := by decide +kernel
theorem dX7_costOf_11 : decode cX7_costOf 11 = .ok (.invokestatic 52, 3) := by decide +kernel
theorem dX7_costOf_14 : decode cX7_costOf 14 = .ok (.iconst 1, 1) := by decide +kernel
theorem dX7_costOf_15 : decode cX7_costOf 15 = .ok (.if_icmp .ne 12, 3) := by decide +kernel
theorem dX7_costOf_18 : decode cX7_costOf 18 = .ok (.iload_n 2, 1) := by decide +kernel
theorem dX7_costOf_19 : decode cX7_costOf 19 = .ok (.aload_n 0, 1) := by decide +kernel
theorem dX7_costOf_20 : decode cX7_costOf 20 = .ok (.getfield 21, 3) := by decide +kernel
theorem dX7_costOf_23 : decode cX7_costOf 23 = .ok (.iload_n 3, 1) := by decide +kernel
theorem dX7_costOf_24 : decode cX7_costOf 24 = .ok (.iaload, 1) := by decide +kernel
theorem dX7_costOf_25 : decode cX7_costOf 25 = .ok (.iadd, 1) := by decide +kernel
theorem dX7_costOf_26 : decode cX7_costOf 26 = .ok (.istore_n 2, 1) := by decide +kernel
theorem dX7_costOf_27 : decode cX7_costOf 27 = .ok (.iinc 3 1, 3) := by decide +kernel
theorem dX7_costOf_30 : decode cX7_costOf 30 = .ok (.goto (-26), 3) := by decide +kernel
theorem dX7_costOf_33 : decode cX7_costOf 33 = .ok (.iload_n 2, 1) := by decide +kernel
theorem dX7_costOf_34 : decode cX7_costOf 34 = .ok (.ireturn, 1) := by decide +kernel
theorem dX7_lampsOf_0 : decode cX7_lampsOf 0 = .ok (.iconst 0, 1) := by decide +kernel
theorem dX7_lampsOf_1 : decode cX7_lampsOf 1 = .ok (.istore_n 2, 1) := by decide +kernel
theorem dX7_lampsOf_2 : decode cX7_lampsOf 2 = .ok (.iconst 0, 1) := by decide +kernel
theorem dX7_lampsOf_3 : decode cX7_lampsOf 3 = .ok (.istore_n 3, 1) := by decide +kernel
theorem dX7_lampsOf_4 : decode cX7_lampsOf 4 = .ok (.iload_n 3, 1) := by decide +kernel
theorem dX7_lampsOf_5 : decode cX7_lampsOf 5 = .ok (.aload_n 0, 1) := by decide +kernel
theorem dX7_lampsOf_6 : decode cX7_lampsOf 6 = .ok (.getfield 40, 3) := by decide +kernel
theorem dX7_lampsOf_9 : decode cX7_lampsOf 9 = .ok (.if_icmp .ge 25, 3) := by decide +kernel
theorem dX7_lampsOf_12 : decode cX7_lampsOf 12 = .ok (.aload_n 0, 1) := by decide +kernel
theorem dX7_lampsOf_13 : decode cX7_lampsOf 13 = .ok (.getfield 18, 3) := by decide +kernel
theorem dX7_lampsOf_16 : decode cX7_lampsOf 16 = .ok (.iload_n 3, 1) := by decide +kernel
theorem dX7_lampsOf_17 : decode cX7_lampsOf 17 = .ok (.iaload, 1) := by decide +kernel
theorem dX7_lampsOf_18 : decode cX7_lampsOf 18 = .ok (.iload_n 1, 1) := by decide +kernel
theorem dX7_lampsOf_19 : decode cX7_lampsOf 19 = .ok (.if_icmp .ne 9, 3) := by decide +kernel
theorem dX7_lampsOf_22 : decode cX7_lampsOf 22 = .ok (.iload_n 2, 1) := by decide +kernel
theorem dX7_lampsOf_23 : decode cX7_lampsOf 23 = .ok (.iconst 1, 1) := by decide +kernel
theorem dX7_lampsOf_24 : decode cX7_lampsOf 24 = .ok (.iload_n 3, 1) := by decide +kernel
theorem dX7_lampsOf_25 : decode cX7_lampsOf 25 = .ok (.ishl, 1) := by decide +kernel
theorem dX7_lampsOf_26 : decode cX7_lampsOf 26 = .ok (.ior, 1) := by decide +kernel
theorem dX7_lampsOf_27 : decode cX7_lampsOf 27 = .ok (.istore_n 2, 1) := by decide +kernel
theorem dX7_lampsOf_28 : decode cX7_lampsOf 28 = .ok (.iinc 3 1, 3) := by decide +kernel
theorem dX7_lampsOf_31 : decode cX7_lampsOf 31 = .ok (.goto (-27), 3) := by decide +kernel
theorem dX7_lampsOf_34 : decode cX7_lampsOf 34 = .ok (.iload_n 2, 1) := by decide +kernel
theorem dX7_lampsOf_35 : decode cX7_lampsOf 35 = .ok (.ireturn, 1) := by decide +kernel
theorem dX3_valueOf_0 : decode cX3_valueOf 0 = .ok (.aload_n 2, 1) := by decide +kernel
theorem dX3_valueOf_1 : decode cX3_valueOf 1 = .ok (.aload_n 1, 1) := by decide +kernel
theorem dX3_valueOf_2 : decode cX3_valueOf 2 = .ok (.aload_n 2, 1) := by decide +kernel
theorem dX3_valueOf_3 : decode cX3_valueOf 3 = .ok (.getfield 26, 3) := by decide +kernel
theorem dX3_valueOf_6 : decode cX3_valueOf 6 = .ok (.invokevirtual 57, 3) := by decide +kernel
theorem dX3_valueOf_9 : decode cX3_valueOf 9 = .ok (.istore 4, 2) := by decide +kernel
theorem dX3_valueOf_11 : decode cX3_valueOf 11 = .ok (.iload_n 0, 1) := by decide +kernel
theorem dX3_valueOf_12 : decode cX3_valueOf 12 = .ok (.tableswitch 184 0 12 #[68, 71, 77, 83, 91, 99, 107, 118, 126, 141, 151, 162, 170], 68) := by decide +kernel
theorem dX3_valueOf_80 : decode cX3_valueOf 80 = .ok (.iload_n 3, 1) := by decide +kernel
theorem dX3_valueOf_81 : decode cX3_valueOf 81 = .ok (.i2l, 1) := by decide +kernel
theorem dX3_valueOf_82 : decode cX3_valueOf 82 = .ok (.lreturn, 1) := by decide +kernel
theorem dX3_valueOf_83 : decode cX3_valueOf 83 = .ok (.aload_n 2, 1) := by decide +kernel
theorem dX3_valueOf_84 : decode cX3_valueOf 84 = .ok (.getfield 26, 3) := by decide +kernel
theorem dX3_valueOf_87 : decode cX3_valueOf 87 = .ok (.i2l, 1) := by decide +kernel
theorem dX3_valueOf_88 : decode cX3_valueOf 88 = .ok (.lreturn, 1) := by decide +kernel
theorem dX3_valueOf_89 : decode cX3_valueOf 89 = .ok (.aload_n 2, 1) := by decide +kernel
theorem dX3_valueOf_90 : decode cX3_valueOf 90 = .ok (.getfield 123, 3) := by decide +kernel
theorem dX3_valueOf_93 : decode cX3_valueOf 93 = .ok (.i2l, 1) := by decide +kernel
theorem dX3_valueOf_94 : decode cX3_valueOf 94 = .ok (.lreturn, 1) := by decide +kernel
theorem dX3_valueOf_95 : decode cX3_valueOf 95 = .ok (.aload_n 1, 1) := by decide +kernel
theorem dX3_valueOf_96 : decode cX3_valueOf 96 = .ok (.getfield 126, 3) := by decide +kernel
theorem dX3_valueOf_99 : decode cX3_valueOf 99 = .ok (.iload_n 3, 1) := by decide +kernel
theorem dX3_valueOf_100 : decode cX3_valueOf 100 = .ok (.iaload, 1) := by decide +kernel
theorem dX3_valueOf_101 : decode cX3_valueOf 101 = .ok (.i2l, 1) := by decide +kernel
theorem dX3_valueOf_102 : decode cX3_valueOf 102 = .ok (.lreturn, 1) := by decide +kernel
theorem dX3_valueOf_103 : decode cX3_valueOf 103 = .ok (.aload_n 1, 1) := by decide +kernel
theorem dX3_valueOf_104 : decode cX3_valueOf 104 = .ok (.getfield 129, 3) := by decide +kernel
theorem dX3_valueOf_107 : decode cX3_valueOf 107 = .ok (.iload_n 3, 1) := by decide +kernel
theorem dX3_valueOf_108 : decode cX3_valueOf 108 = .ok (.iaload, 1) := by decide +kernel
theorem dX3_valueOf_109 : decode cX3_valueOf 109 = .ok (.i2l, 1) := by decide +kernel
theorem dX3_valueOf_110 : decode cX3_valueOf 110 = .ok (.lreturn, 1) := by decide +kernel
theorem dX3_valueOf_111 : decode cX3_valueOf 111 = .ok (.aload_n 2, 1) := by decide +kernel
theorem dX3_valueOf_112 : decode cX3_valueOf 112 = .ok (.getfield 68, 3) := by decide +kernel
theorem dX3_valueOf_115 : decode cX3_valueOf 115 = .ok (.iload_n 3, 1) := by decide +kernel
theorem dX3_valueOf_116 : decode cX3_valueOf 116 = .ok (.iaload, 1) := by decide +kernel
theorem dX3_valueOf_117 : decode cX3_valueOf 117 = .ok (.i2l, 1) := by decide +kernel
theorem dX3_valueOf_118 : decode cX3_valueOf 118 = .ok (.lreturn, 1) := by decide +kernel
theorem dX3_valueOf_119 : decode cX3_valueOf 119 = .ok (.aload_n 1, 1) := by decide +kernel
theorem dX3_valueOf_120 : decode cX3_valueOf 120 = .ok (.getfield 132, 3) := by decide +kernel
theorem dX3_valueOf_123 : decode cX3_valueOf 123 = .ok (.aload_n 2, 1) := by decide +kernel
theorem dX3_valueOf_124 : decode cX3_valueOf 124 = .ok (.getfield 26, 3) := by decide +kernel
theorem dX3_valueOf_127 : decode cX3_valueOf 127 = .ok (.isub, 1) := by decide +kernel
theorem dX3_valueOf_128 : decode cX3_valueOf 128 = .ok (.i2l, 1) := by decide +kernel
theorem dX3_valueOf_129 : decode cX3_valueOf 129 = .ok (.lreturn, 1) := by decide +kernel
theorem dX3_valueOf_130 : decode cX3_valueOf 130 = .ok (.aload_n 1, 1) := by decide +kernel
theorem dX3_valueOf_131 : decode cX3_valueOf 131 = .ok (.iload 4, 2) := by decide +kernel
theorem dX3_valueOf_133 : decode cX3_valueOf 133 = .ok (.invokevirtual 61, 3) := by decide +kernel
theorem dX3_valueOf_136 : decode cX3_valueOf 136 = .ok (.i2l, 1) := by decide +kernel
theorem dX3_valueOf_137 : decode cX3_valueOf 137 = .ok (.lreturn, 1) := by decide +kernel
theorem dX3_valueOf_138 : decode cX3_valueOf 138 = .ok (.aload_n 2, 1) := by decide +kernel
theorem dX3_valueOf_139 : decode cX3_valueOf 139 = .ok (.getfield 37, 3) := by decide +kernel
theorem dX3_valueOf_142 : decode cX3_valueOf 142 = .ok (.iconst 1, 1) := by decide +kernel
theorem dX3_valueOf_143 : decode cX3_valueOf 143 = .ok (.iload_n 3, 1) := by decide +kernel
theorem dX3_valueOf_144 : decode cX3_valueOf 144 = .ok (.ishl, 1) := by decide +kernel
theorem dX3_valueOf_145 : decode cX3_valueOf 145 = .ok (.iconst (-1), 1) := by decide +kernel
theorem dX3_valueOf_146 : decode cX3_valueOf 146 = .ok (.ixor, 1) := by decide +kernel
theorem dX3_valueOf_147 : decode cX3_valueOf 147 = .ok (.iand, 1) := by decide +kernel
theorem dX3_valueOf_148 : decode cX3_valueOf 148 = .ok (.invokestatic 76, 3) := by decide +kernel
theorem dX3_valueOf_151 : decode cX3_valueOf 151 = .ok (.i2l, 1) := by decide +kernel
theorem dX3_valueOf_152 : decode cX3_valueOf 152 = .ok (.lreturn, 1) := by decide +kernel
theorem dX3_valueOf_153 : decode cX3_valueOf 153 = .ok (.aload_n 2, 1) := by decide +kernel
theorem dX3_valueOf_154 : decode cX3_valueOf 154 = .ok (.getfield 37, 3) := by decide +kernel
theorem dX3_valueOf_157 : decode cX3_valueOf 157 = .ok (.iload_n 3, 1) := by decide +kernel
theorem dX3_valueOf_158 : decode cX3_valueOf 158 = .ok (.invokestatic 43, 3) := by decide +kernel
theorem dX3_valueOf_161 : decode cX3_valueOf 161 = .ok (.i2l, 1) := by decide +kernel
theorem dX3_valueOf_162 : decode cX3_valueOf 162 = .ok (.lreturn, 1) := by decide +kernel
theorem dX3_valueOf_163 : decode cX3_valueOf 163 = .ok (.aload_n 2, 1) := by decide +kernel
theorem dX3_valueOf_164 : decode cX3_valueOf 164 = .ok (.getfield 91, 3) := by decide +kernel
theorem dX3_valueOf_167 : decode cX3_valueOf 167 = .ok (.iload_n 3, 1) := by decide +kernel
theorem dX3_valueOf_168 : decode cX3_valueOf 168 = .ok (.laload, 1) := by decide +kernel
theorem dX3_valueOf_169 : decode cX3_valueOf 169 = .ok (.ldc2_w 55, 3) := by decide +kernel
theorem dX3_valueOf_172 : decode cX3_valueOf 172 = .ok (.ldiv, 1) := by decide +kernel
theorem dX3_valueOf_173 : decode cX3_valueOf 173 = .ok (.lreturn, 1) := by decide +kernel
theorem dX3_valueOf_174 : decode cX3_valueOf 174 = .ok (.aload_n 2, 1) := by decide +kernel
theorem dX3_valueOf_175 : decode cX3_valueOf 175 = .ok (.getfield 135, 3) := by decide +kernel
theorem dX3_valueOf_178 : decode cX3_valueOf 178 = .ok (.iload_n 3, 1) := by decide +kernel
theorem dX3_valueOf_179 : decode cX3_valueOf 179 = .ok (.iaload, 1) := by decide +kernel
theorem dX3_valueOf_180 : decode cX3_valueOf 180 = .ok (.i2l, 1) := by decide +kernel
theorem dX3_valueOf_181 : decode cX3_valueOf 181 = .ok (.lreturn, 1) := by decide +kernel
theorem dX3_valueOf_182 : decode cX3_valueOf 182 = .ok (.aload_n 1, 1) := by decide +kernel
theorem dX3_valueOf_183 : decode cX3_valueOf 183 = .ok (.iload 4, 2) := by decide +kernel
theorem dX3_valueOf_185 : decode cX3_valueOf 185 = .ok (.aload_n 1, 1) := by decide +kernel
theorem dX3_valueOf_186 : decode cX3_valueOf 186 = .ok (.iload_n 3, 1) := by decide +kernel
theorem dX3_valueOf_187 : decode cX3_valueOf 187 = .ok (.invokevirtual 138, 3) := by decide +kernel
theorem dX3_valueOf_190 : decode cX3_valueOf 190 = .ok (.iand, 1) := by decide +kernel
theorem dX3_valueOf_191 : decode cX3_valueOf 191 = .ok (.invokevirtual 61, 3) := by decide +kernel
theorem dX3_valueOf_194 : decode cX3_valueOf 194 = .ok (.i2l, 1) := by decide +kernel
theorem dX3_valueOf_195 : decode cX3_valueOf 195 = .ok (.lreturn, 1) := by decide +kernel
theorem dX3_valueOf_196 : decode cX3_valueOf 196 = .ok (.lconst 0, 1) := by decide +kernel
theorem dX3_valueOf_197 : decode cX3_valueOf 197 = .ok (.lreturn, 1) := by decide +kernel
theorem dX3_pop_0 : decode cX3_pop 0 = .ok (.aload_n 0, 1) := by decide +kernel
theorem dX3_pop_1 : decode cX3_pop 1 = .ok (.getfield 15, 3) := by decide +kernel
theorem dX3_pop_4 : decode cX3_pop 4 = .ok (.ifCond .le 12, 3) := by decide +kernel
theorem dX3_pop_7 : decode cX3_pop 7 = .ok (.aload_n 0, 1) := by decide +kernel
theorem dX3_pop_8 : decode cX3_pop 8 = .ok (.getfield 15, 3) := by decide +kernel
theorem dX3_pop_11 : decode cX3_pop 11 = .ok (.bipush 64, 2) := by decide +kernel
theorem dX3_pop_13 : decode cX3_pop 13 = .ok (.if_icmp .le 5, 3) := by decide +kernel
theorem dX3_pop_16 : decode cX3_pop 16 = .ok (.lconst 0, 1) := by decide +kernel
theorem dX3_pop_17 : decode cX3_pop 17 = .ok (.lreturn, 1) := by decide +kernel
theorem dX3_pop_18 : decode cX3_pop 18 = .ok (.aload_n 0, 1) := by decide +kernel
theorem dX3_pop_19 : decode cX3_pop 19 = .ok (.dup, 1) := by decide +kernel
theorem dX3_pop_20 : decode cX3_pop 20 = .ok (.getfield 15, 3) := by decide +kernel
theorem dX3_pop_23 : decode cX3_pop 23 = .ok (.iconst 1, 1) := by decide +kernel
theorem dX3_pop_24 : decode cX3_pop 24 = .ok (.isub, 1) := by decide +kernel
theorem dX3_pop_25 : decode cX3_pop 25 = .ok (.putfield 15, 3) := by decide +kernel
theorem dX3_pop_28 : decode cX3_pop 28 = .ok (.aload_n 0, 1) := by decide +kernel
theorem dX3_pop_29 : decode cX3_pop 29 = .ok (.getfield 11, 3) := by decide +kernel
theorem dX3_pop_32 : decode cX3_pop 32 = .ok (.aload_n 0, 1) := by decide +kernel
theorem dX3_pop_33 : decode cX3_pop 33 = .ok (.getfield 15, 3) := by decide +kernel
theorem dX3_pop_36 : decode cX3_pop 36 = .ok (.laload, 1) := by decide +kernel
theorem dX3_pop_37 : decode cX3_pop 37 = .ok (.lreturn, 1) := by decide +kernel
theorem dX4_combine_0 : decode cX4_combine 0 = .ok (.iload_n 0, 1) := by decide +kernel
theorem dX4_combine_1 : decode cX4_combine 1 = .ok (.tableswitch 171 (-31) (-20) #[167, 163, 151, 139, 127, 115, 103, 89, 75, 71, 67, 63], 63) := by decide +kernel
theorem dX4_combine_64 : decode cX4_combine 64 = .ok (.lload_n 1, 1) := by decide +kernel
theorem dX4_combine_65 : decode cX4_combine 65 = .ok (.lload_n 3, 1) := by decide +kernel
theorem dX4_combine_66 : decode cX4_combine 66 = .ok (.ladd, 1) := by decide +kernel
theorem dX4_combine_67 : decode cX4_combine 67 = .ok (.lreturn, 1) := by decide +kernel
theorem dX4_combine_68 : decode cX4_combine 68 = .ok (.lload_n 1, 1) := by decide +kernel
theorem dX4_combine_69 : decode cX4_combine 69 = .ok (.lload_n 3, 1) := by decide +kernel
theorem dX4_combine_70 : decode cX4_combine 70 = .ok (.lsub, 1) := by decide +kernel
theorem dX4_combine_71 : decode cX4_combine 71 = .ok (.lreturn, 1) := by decide +kernel
theorem dX4_combine_72 : decode cX4_combine 72 = .ok (.lload_n 1, 1) := by decide +kernel
theorem dX4_combine_73 : decode cX4_combine 73 = .ok (.lload_n 3, 1) := by decide +kernel
theorem dX4_combine_74 : decode cX4_combine 74 = .ok (.lmul, 1) := by decide +kernel
theorem dX4_combine_75 : decode cX4_combine 75 = .ok (.lreturn, 1) := by decide +kernel
theorem dX4_combine_76 : decode cX4_combine 76 = .ok (.lload_n 3, 1) := by decide +kernel
theorem dX4_combine_77 : decode cX4_combine 77 = .ok (.lconst 0, 1) := by decide +kernel
theorem dX4_combine_78 : decode cX4_combine 78 = .ok (.lcmp, 1) := by decide +kernel
theorem dX4_combine_79 : decode cX4_combine 79 = .ok (.ifCond .ne 7, 3) := by decide +kernel
theorem dX4_combine_82 : decode cX4_combine 82 = .ok (.lconst 0, 1) := by decide +kernel
theorem dX4_combine_83 : decode cX4_combine 83 = .ok (.goto 6, 3) := by decide +kernel
theorem dX4_combine_86 : decode cX4_combine 86 = .ok (.lload_n 1, 1) := by decide +kernel
theorem dX4_combine_87 : decode cX4_combine 87 = .ok (.lload_n 3, 1) := by decide +kernel
theorem dX4_combine_88 : decode cX4_combine 88 = .ok (.ldiv, 1) := by decide +kernel
theorem dX4_combine_89 : decode cX4_combine 89 = .ok (.lreturn, 1) := by decide +kernel
theorem dX4_combine_90 : decode cX4_combine 90 = .ok (.lload_n 3, 1) := by decide +kernel
theorem dX4_combine_91 : decode cX4_combine 91 = .ok (.lconst 0, 1) := by decide +kernel
theorem dX4_combine_92 : decode cX4_combine 92 = .ok (.lcmp, 1) := by decide +kernel
theorem dX4_combine_93 : decode cX4_combine 93 = .ok (.ifCond .ne 7, 3) := by decide +kernel
theorem dX4_combine_96 : decode cX4_combine 96 = .ok (.lconst 0, 1) := by decide +kernel
theorem dX4_combine_97 : decode cX4_combine 97 = .ok (.goto 6, 3) := by decide +kernel
theorem dX4_combine_100 : decode cX4_combine 100 = .ok (.lload_n 1, 1) := by decide +kernel
theorem dX4_combine_101 : decode cX4_combine 101 = .ok (.lload_n 3, 1) := by decide +kernel
theorem dX4_combine_102 : decode cX4_combine 102 = .ok (.lrem, 1) := by decide +kernel
theorem dX4_combine_103 : decode cX4_combine 103 = .ok (.lreturn, 1) := by decide +kernel
theorem dX4_combine_104 : decode cX4_combine 104 = .ok (.lload_n 1, 1) := by decide +kernel
theorem dX4_combine_105 : decode cX4_combine 105 = .ok (.lload_n 3, 1) := by decide +kernel
theorem dX4_combine_106 : decode cX4_combine 106 = .ok (.lcmp, 1) := by decide +kernel
theorem dX4_combine_107 : decode cX4_combine 107 = .ok (.ifCond .ge 7, 3) := by decide +kernel
theorem dX4_combine_110 : decode cX4_combine 110 = .ok (.lconst 1, 1) := by decide +kernel
theorem dX4_combine_111 : decode cX4_combine 111 = .ok (.goto 4, 3) := by decide +kernel
theorem dX4_combine_114 : decode cX4_combine 114 = .ok (.lconst 0, 1) := by decide +kernel
theorem dX4_combine_115 : decode cX4_combine 115 = .ok (.lreturn, 1) := by decide +kernel
theorem dX4_combine_116 : decode cX4_combine 116 = .ok (.lload_n 1, 1) := by decide +kernel
theorem dX4_combine_117 : decode cX4_combine 117 = .ok (.lload_n 3, 1) := by decide +kernel
theorem dX4_combine_118 : decode cX4_combine 118 = .ok (.lcmp, 1) := by decide +kernel
theorem dX4_combine_119 : decode cX4_combine 119 = .ok (.ifCond .gt 7, 3) := by decide +kernel
theorem dX4_combine_122 : decode cX4_combine 122 = .ok (.lconst 1, 1) := by decide +kernel
theorem dX4_combine_123 : decode cX4_combine 123 = .ok (.goto 4, 3) := by decide +kernel
theorem dX4_combine_126 : decode cX4_combine 126 = .ok (.lconst 0, 1) := by decide +kernel
theorem dX4_combine_127 : decode cX4_combine 127 = .ok (.lreturn, 1) := by decide +kernel
theorem dX4_combine_128 : decode cX4_combine 128 = .ok (.lload_n 1, 1) := by decide +kernel
theorem dX4_combine_129 : decode cX4_combine 129 = .ok (.lload_n 3, 1) := by decide +kernel
theorem dX4_combine_130 : decode cX4_combine 130 = .ok (.lcmp, 1) := by decide +kernel
theorem dX4_combine_131 : decode cX4_combine 131 = .ok (.ifCond .ne 7, 3) := by decide +kernel
theorem dX4_combine_134 : decode cX4_combine 134 = .ok (.lconst 1, 1) := by decide +kernel
theorem dX4_combine_135 : decode cX4_combine 135 = .ok (.goto 4, 3) := by decide +kernel
theorem dX4_combine_138 : decode cX4_combine 138 = .ok (.lconst 0, 1) := by decide +kernel
theorem dX4_combine_139 : decode cX4_combine 139 = .ok (.lreturn, 1) := by decide +kernel
theorem dX4_combine_140 : decode cX4_combine 140 = .ok (.lload_n 1, 1) := by decide +kernel
theorem dX4_combine_141 : decode cX4_combine 141 = .ok (.lload_n 3, 1) := by decide +kernel
theorem dX4_combine_142 : decode cX4_combine 142 = .ok (.lcmp, 1) := by decide +kernel
theorem dX4_combine_143 : decode cX4_combine 143 = .ok (.ifCond .lt 7, 3) := by decide +kernel
theorem dX4_combine_146 : decode cX4_combine 146 = .ok (.lconst 1, 1) := by decide +kernel
theorem dX4_combine_147 : decode cX4_combine 147 = .ok (.goto 4, 3) := by decide +kernel
theorem dX4_combine_150 : decode cX4_combine 150 = .ok (.lconst 0, 1) := by decide +kernel
theorem dX4_combine_151 : decode cX4_combine 151 = .ok (.lreturn, 1) := by decide +kernel
theorem dX4_combine_152 : decode cX4_combine 152 = .ok (.lload_n 1, 1) := by decide +kernel
theorem dX4_combine_153 : decode cX4_combine 153 = .ok (.lload_n 3, 1) := by decide +kernel
theorem dX4_combine_154 : decode cX4_combine 154 = .ok (.lcmp, 1) := by decide +kernel
theorem dX4_combine_155 : decode cX4_combine 155 = .ok (.ifCond .le 7, 3) := by decide +kernel
theorem dX4_combine_158 : decode cX4_combine 158 = .ok (.lconst 1, 1) := by decide +kernel
theorem dX4_combine_159 : decode cX4_combine 159 = .ok (.goto 4, 3) := by decide +kernel
theorem dX4_combine_162 : decode cX4_combine 162 = .ok (.lconst 0, 1) := by decide +kernel
theorem dX4_combine_163 : decode cX4_combine 163 = .ok (.lreturn, 1) := by decide +kernel
theorem dX4_combine_164 : decode cX4_combine 164 = .ok (.lload_n 1, 1) := by decide +kernel
theorem dX4_combine_165 : decode cX4_combine 165 = .ok (.lload_n 3, 1) := by decide +kernel
theorem dX4_combine_166 : decode cX4_combine 166 = .ok (.land, 1) := by decide +kernel
theorem dX4_combine_167 : decode cX4_combine 167 = .ok (.lreturn, 1) := by decide +kernel
theorem dX4_combine_168 : decode cX4_combine 168 = .ok (.lload_n 1, 1) := by decide +kernel
theorem dX4_combine_169 : decode cX4_combine 169 = .ok (.lload_n 3, 1) := by decide +kernel
theorem dX4_combine_170 : decode cX4_combine 170 = .ok (.lor, 1) := by decide +kernel
theorem dX4_combine_171 : decode cX4_combine 171 = .ok (.lreturn, 1) := by decide +kernel
theorem dX4_combine_172 : decode cX4_combine 172 = .ok (.lconst 0, 1) := by decide +kernel
theorem dX4_combine_173 : decode cX4_combine 173 = .ok (.lreturn, 1) := by decide +kernel
theorem dX3_answer_0 : decode cX3_answer 0 = .ok (.aload_n 0, 1) := by decide +kernel
theorem dX3_answer_1 : decode cX3_answer 1 = .ok (.iconst 0, 1) := by decide +kernel
theorem dX3_answer_2 : decode cX3_answer 2 = .ok (.putfield 15, 3) := by decide +kernel
theorem dX3_answer_5 : decode cX3_answer 5 = .ok (.iconst 0, 1) := by decide +kernel
theorem dX3_answer_6 : decode cX3_answer 6 = .ok (.istore 5, 2) := by decide +kernel
theorem dX3_answer_8 : decode cX3_answer 8 = .ok (.iload 5, 2) := by decide +kernel
theorem dX3_answer_10 : decode cX3_answer 10 = .ok (.aload_n 3, 1) := by decide +kernel
theorem dX3_answer_11 : decode cX3_answer 11 = .ok (.getfield 102, 3) := by decide +kernel
theorem dX3_answer_14 : decode cX3_answer 14 = .ok (.arraylength, 1) := by decide +kernel
theorem dX3_answer_15 : decode cX3_answer 15 = .ok (.if_icmp .ge 151, 3) := by decide +kernel
theorem dX3_answer_18 : decode cX3_answer 18 = .ok (.aload_n 3, 1) := by decide +kernel
theorem dX3_answer_19 : decode cX3_answer 19 = .ok (.getfield 102, 3) := by decide +kernel
theorem dX3_answer_22 : decode cX3_answer 22 = .ok (.iload 5, 2) := by decide +kernel
theorem dX3_answer_24 : decode cX3_answer 24 = .ok (.iaload, 1) := by decide +kernel
theorem dX3_answer_25 : decode cX3_answer 25 = .ok (.istore 6, 2) := by decide +kernel
theorem dX3_answer_27 : decode cX3_answer 27 = .ok (.iload 6, 2) := by decide +kernel
theorem dX3_answer_29 : decode cX3_answer 29 = .ok (.ifCond .lt 13, 3) := by decide +kernel
theorem dX3_answer_32 : decode cX3_answer 32 = .ok (.aload_n 0, 1) := by decide +kernel
theorem dX3_answer_33 : decode cX3_answer 33 = .ok (.iload 6, 2) := by decide +kernel
theorem dX3_answer_35 : decode cX3_answer 35 = .ok (.i2l, 1) := by decide +kernel
theorem dX3_answer_36 : decode cX3_answer 36 = .ok (.invokevirtual 107, 3) := by decide +kernel
theorem dX3_answer_39 : decode cX3_answer 39 = .ok (.goto 121, 3) := by decide +kernel
theorem dX3_answer_42 : decode cX3_answer 42 = .ok (.iload 6, 2) := by decide +kernel
theorem dX3_answer_44 : decode cX3_answer 44 = .ok (.bipush (-20), 2) := by decide +kernel
theorem dX3_answer_46 : decode cX3_answer 46 = .ok (.if_icmp .le 21, 3) := by decide +kernel
theorem dX3_answer_49 : decode cX3_answer 49 = .ok (.aload_n 0, 1) := by decide +kernel
theorem dX3_answer_50 : decode cX3_answer 50 = .ok (.iconst (-1), 1) := by decide +kernel
theorem dX3_answer_51 : decode cX3_answer 51 = .ok (.iload 6, 2) := by decide +kernel
theorem dX3_answer_53 : decode cX3_answer 53 = .ok (.isub, 1) := by decide +kernel
theorem dX3_answer_54 : decode cX3_answer 54 = .ok (.aload_n 1, 1) := by decide +kernel
theorem dX3_answer_55 : decode cX3_answer 55 = .ok (.aload_n 2, 1) := by decide +kernel
theorem dX3_answer_56 : decode cX3_answer 56 = .ok (.iload 4, 2) := by decide +kernel
theorem dX3_answer_58 : decode cX3_answer 58 = .ok (.invokestatic 111, 3) := by decide +kernel
theorem dX3_answer_61 : decode cX3_answer 61 = .ok (.invokevirtual 107, 3) := by decide +kernel
theorem dX3_answer_64 : decode cX3_answer 64 = .ok (.goto 96, 3) := by decide +kernel
theorem dX3_answer_67 : decode cX3_answer 67 = .ok (.iload 6, 2) := by decide +kernel
theorem dX3_answer_69 : decode cX3_answer 69 = .ok (.bipush (-32), 2) := by decide +kernel
theorem dX3_answer_71 : decode cX3_answer 71 = .ok (.if_icmp .ne 16, 3) := by decide +kernel
theorem dX3_answer_74 : decode cX3_answer 74 = .ok (.aload_n 0, 1) := by decide +kernel
theorem dX3_answer_75 : decode cX3_answer 75 = .ok (.lconst 1, 1) := by decide +kernel
theorem dX3_answer_76 : decode cX3_answer 76 = .ok (.aload_n 0, 1) := by decide +kernel
theorem dX3_answer_77 : decode cX3_answer 77 = .ok (.invokevirtual 115, 3) := by decide +kernel
theorem dX3_answer_80 : decode cX3_answer 80 = .ok (.lsub, 1) := by decide +kernel
theorem dX3_answer_81 : decode cX3_answer 81 = .ok (.invokevirtual 107, 3) := by decide +kernel
theorem dX3_answer_84 : decode cX3_answer 84 = .ok (.goto 76, 3) := by decide +kernel
theorem dX3_answer_87 : decode cX3_answer 87 = .ok (.iload 6, 2) := by decide +kernel
theorem dX3_answer_89 : decode cX3_answer 89 = .ok (.bipush (-33), 2) := by decide +kernel
theorem dX3_answer_91 : decode cX3_answer 91 = .ok (.if_icmp .ne 8, 3) := by decide +kernel
theorem dX3_answer_94 : decode cX3_answer 94 = .ok (.aload_n 0, 1) := by decide +kernel
theorem dX3_answer_95 : decode cX3_answer 95 = .ok (.invokevirtual 115, 3) := by decide +kernel
theorem dX3_answer_98 : decode cX3_answer 98 = .ok (.lreturn, 1) := by decide +kernel
theorem dX3_answer_99 : decode cX3_answer 99 = .ok (.iload 6, 2) := by decide +kernel
theorem dX3_answer_101 : decode cX3_answer 101 = .ok (.bipush (-34), 2) := by decide +kernel
theorem dX3_answer_103 : decode cX3_answer 103 = .ok (.if_icmp .ne 36, 3) := by decide +kernel
theorem dX3_answer_106 : decode cX3_answer 106 = .ok (.aload_n 0, 1) := by decide +kernel
theorem dX3_answer_107 : decode cX3_answer 107 = .ok (.invokevirtual 115, 3) := by decide +kernel
theorem dX3_answer_110 : decode cX3_answer 110 = .ok (.lconst 0, 1) := by decide +kernel
theorem dX3_answer_111 : decode cX3_answer 111 = .ok (.lcmp, 1) := by decide +kernel
theorem dX3_answer_112 : decode cX3_answer 112 = .ok (.ifCond .eq 7, 3) := by decide +kernel
theorem dX3_answer_115 : decode cX3_answer 115 = .ok (.iconst 1, 1) := by decide +kernel
theorem dX3_answer_116 : decode cX3_answer 116 = .ok (.goto 4, 3) := by decide +kernel
theorem dX3_answer_119 : decode cX3_answer 119 = .ok (.iconst 0, 1) := by decide +kernel
theorem dX3_answer_120 : decode cX3_answer 120 = .ok (.istore 7, 2) := by decide +kernel
theorem dX3_answer_122 : decode cX3_answer 122 = .ok (.aload_n 0, 1) := by decide +kernel
theorem dX3_answer_123 : decode cX3_answer 123 = .ok (.invokevirtual 115, 3) := by decide +kernel
theorem dX3_answer_126 : decode cX3_answer 126 = .ok (.lstore 8, 2) := by decide +kernel
theorem dX3_answer_128 : decode cX3_answer 128 = .ok (.iload 7, 2) := by decide +kernel
theorem dX3_answer_130 : decode cX3_answer 130 = .ok (.ifCond .eq 6, 3) := by decide +kernel
theorem dX3_answer_133 : decode cX3_answer 133 = .ok (.lload 8, 2) := by decide +kernel
theorem dX3_answer_135 : decode cX3_answer 135 = .ok (.lreturn, 1) := by decide +kernel
theorem dX3_answer_136 : decode cX3_answer 136 = .ok (.goto 24, 3) := by decide +kernel
theorem dX3_answer_139 : decode cX3_answer 139 = .ok (.aload_n 0, 1) := by decide +kernel
theorem dX3_answer_140 : decode cX3_answer 140 = .ok (.invokevirtual 115, 3) := by decide +kernel
theorem dX3_answer_143 : decode cX3_answer 143 = .ok (.lstore 7, 2) := by decide +kernel
theorem dX3_answer_145 : decode cX3_answer 145 = .ok (.aload_n 0, 1) := by decide +kernel
theorem dX3_answer_146 : decode cX3_answer 146 = .ok (.iload 6, 2) := by decide +kernel
theorem dX3_answer_148 : decode cX3_answer 148 = .ok (.aload_n 0, 1) := by decide +kernel
theorem dX3_answer_149 : decode cX3_answer 149 = .ok (.invokevirtual 115, 3) := by decide +kernel
theorem dX3_answer_152 : decode cX3_answer 152 = .ok (.lload 7, 2) := by decide +kernel
theorem dX3_answer_154 : decode cX3_answer 154 = .ok (.invokestatic 119, 3) := by decide +kernel
theorem dX3_answer_157 : decode cX3_answer 157 = .ok (.invokevirtual 107, 3) := by decide +kernel
theorem dX3_answer_160 : decode cX3_answer 160 = .ok (.iinc 5 1, 3) := by decide +kernel
theorem dX3_answer_163 : decode cX3_answer 163 = .ok (.goto (-155), 3) := by decide +kernel
theorem dX3_answer_166 : decode cX3_answer 166 = .ok (.lconst 0, 1) := by decide +kernel
theorem dX3_answer_167 : decode cX3_answer 167 = .ok (.lreturn, 1) := by decide +kernel
theorem dX3_setAsleep_0 : decode cX3_setAsleep 0 = .ok (.iconst 1, 1) := by decide +kernel
theorem dX3_setAsleep_1 : decode cX3_setAsleep 1 = .ok (.iload_n 1, 1) := by decide +kernel
theorem dX3_setAsleep_2 : decode cX3_setAsleep 2 = .ok (.ishl, 1) := by decide +kernel
theorem dX3_setAsleep_3 : decode cX3_setAsleep 3 = .ok (.istore_n 3, 1) := by decide +kernel
theorem dX3_setAsleep_4 : decode cX3_setAsleep 4 = .ok (.aload_n 0, 1) := by decide +kernel
theorem dX3_setAsleep_5 : decode cX3_setAsleep 5 = .ok (.iload_n 2, 1) := by decide +kernel
theorem dX3_setAsleep_6 : decode cX3_setAsleep 6 = .ok (.ifCond .eq 12, 3) := by decide +kernel
theorem dX3_setAsleep_9 : decode cX3_setAsleep 9 = .ok (.aload_n 0, 1) := by decide +kernel
theorem dX3_setAsleep_10 : decode cX3_setAsleep 10 = .ok (.getfield 37, 3) := by decide +kernel
theorem dX3_setAsleep_13 : decode cX3_setAsleep 13 = .ok (.iload_n 3, 1) := by decide +kernel
theorem dX3_setAsleep_14 : decode cX3_setAsleep 14 = .ok (.ior, 1) := by decide +kernel
theorem dX3_setAsleep_15 : decode cX3_setAsleep 15 = .ok (.goto 11, 3) := by decide +kernel
theorem dX3_setAsleep_18 : decode cX3_setAsleep 18 = .ok (.aload_n 0, 1) := by decide +kernel
theorem dX3_setAsleep_19 : decode cX3_setAsleep 19 = .ok (.getfield 37, 3) := by decide +kernel
theorem dX3_setAsleep_22 : decode cX3_setAsleep 22 = .ok (.iload_n 3, 1) := by decide +kernel
theorem dX3_setAsleep_23 : decode cX3_setAsleep 23 = .ok (.iconst (-1), 1) := by decide +kernel
theorem dX3_setAsleep_24 : decode cX3_setAsleep 24 = .ok (.ixor, 1) := by decide +kernel
theorem dX3_setAsleep_25 : decode cX3_setAsleep 25 = .ok (.iand, 1) := by decide +kernel
theorem dX3_setAsleep_26 : decode cX3_setAsleep 26 = .ok (.putfield 37, 3) := by decide +kernel
theorem dX3_setAsleep_29 : decode cX3_setAsleep 29 = .ok (.return_, 1) := by decide +kernel
theorem dX3_shareAmong_0 : decode cX3_shareAmong 0 = .ok (.iload_n 1, 1) := by decide +kernel
theorem dX3_shareAmong_1 : decode cX3_shareAmong 1 = .ok (.invokestatic 76, 3) := by decide +kernel
theorem dX3_shareAmong_4 : decode cX3_shareAmong 4 = .ok (.istore_n 3, 1) := by decide +kernel
theorem dX3_shareAmong_5 : decode cX3_shareAmong 5 = .ok (.iload_n 3, 1) := by decide +kernel
theorem dX3_shareAmong_6 : decode cX3_shareAmong 6 = .ok (.ifCond .le 22, 3) := by decide +kernel
theorem dX3_shareAmong_9 : decode cX3_shareAmong 9 = .ok (.iload_n 1, 1) := by decide +kernel
theorem dX3_shareAmong_10 : decode cX3_shareAmong 10 = .ok (.iload_n 2, 1) := by decide +kernel
theorem dX3_shareAmong_11 : decode cX3_shareAmong 11 = .ok (.invokestatic 43, 3) := by decide +kernel
theorem dX3_shareAmong_14 : decode cX3_shareAmong 14 = .ok (.iconst 1, 1) := by decide +kernel
theorem dX3_shareAmong_15 : decode cX3_shareAmong 15 = .ok (.if_icmp .ne 13, 3) := by decide +kernel
theorem dX3_shareAmong_18 : decode cX3_shareAmong 18 = .ok (.aload_n 0, 1) := by decide +kernel
theorem dX3_shareAmong_19 : decode cX3_shareAmong 19 = .ok (.getfield 22, 3) := by decide +kernel
theorem dX3_shareAmong_22 : decode cX3_shareAmong 22 = .ok (.iload_n 3, 1) := by decide +kernel
theorem dX3_shareAmong_23 : decode cX3_shareAmong 23 = .ok (.i2l, 1) := by decide +kernel
theorem dX3_shareAmong_24 : decode cX3_shareAmong 24 = .ok (.ldiv, 1) := by decide +kernel
theorem dX3_shareAmong_25 : decode cX3_shareAmong 25 = .ok (.goto 4, 3) := by decide +kernel
theorem dX3_shareAmong_28 : decode cX3_shareAmong 28 = .ok (.lconst 0, 1) := by decide +kernel
theorem dX3_shareAmong_29 : decode cX3_shareAmong 29 = .ok (.lreturn, 1) := by decide +kernel
theorem dX3_share_0 : decode cX3_share 0 = .ok (.aload_n 0, 1) := by decide +kernel
theorem dX3_share_1 : decode cX3_share 1 = .ok (.getfield 19, 3) := by decide +kernel
theorem dX3_share_4 : decode cX3_share 4 = .ok (.ifCond .ne 17, 3) := by decide +kernel
theorem dX3_share_7 : decode cX3_share 7 = .ok (.aload_n 2, 1) := by decide +kernel
theorem dX3_share_8 : decode cX3_share 8 = .ok (.getfield 91, 3) := by decide +kernel
theorem dX3_share_11 : decode cX3_share 11 = .ok (.iconst 5, 1) := by decide +kernel
theorem dX3_share_12 : decode cX3_share 12 = .ok (.dup2, 1) := by decide +kernel
theorem dX3_share_13 : decode cX3_share 13 = .ok (.laload, 1) := by decide +kernel
theorem dX3_share_14 : decode cX3_share 14 = .ok (.aload_n 0, 1) := by decide +kernel
theorem dX3_share_15 : decode cX3_share 15 = .ok (.getfield 22, 3) := by decide +kernel
theorem dX3_share_18 : decode cX3_share 18 = .ok (.ladd, 1) := by decide +kernel
theorem dX3_share_19 : decode cX3_share 19 = .ok (.lastore, 1) := by decide +kernel
theorem dX3_share_20 : decode cX3_share 20 = .ok (.return_, 1) := by decide +kernel
theorem dX3_share_21 : decode cX3_share 21 = .ok (.iconst 0, 1) := by decide +kernel
theorem dX3_share_22 : decode cX3_share 22 = .ok (.istore_n 3, 1) := by decide +kernel
theorem dX3_share_23 : decode cX3_share 23 = .ok (.iload_n 3, 1) := by decide +kernel
theorem dX3_share_24 : decode cX3_share 24 = .ok (.aload_n 1, 1) := by decide +kernel
theorem dX3_share_25 : decode cX3_share 25 = .ok (.getfield 40, 3) := by decide +kernel
theorem dX3_share_28 : decode cX3_share 28 = .ok (.if_icmp .ge 27, 3) := by decide +kernel
theorem dX3_share_31 : decode cX3_share 31 = .ok (.aload_n 2, 1) := by decide +kernel
theorem dX3_share_32 : decode cX3_share 32 = .ok (.getfield 91, 3) := by decide +kernel
theorem dX3_share_35 : decode cX3_share 35 = .ok (.iload_n 3, 1) := by decide +kernel
theorem dX3_share_36 : decode cX3_share 36 = .ok (.dup2, 1) := by decide +kernel
theorem dX3_share_37 : decode cX3_share 37 = .ok (.laload, 1) := by decide +kernel
theorem dX3_share_38 : decode cX3_share 38 = .ok (.aload_n 0, 1) := by decide +kernel
theorem dX3_share_39 : decode cX3_share 39 = .ok (.aload_n 0, 1) := by decide +kernel
theorem dX3_share_40 : decode cX3_share 40 = .ok (.getfield 19, 3) := by decide +kernel
theorem dX3_share_43 : decode cX3_share 43 = .ok (.iload_n 3, 1) := by decide +kernel
theorem dX3_share_44 : decode cX3_share 44 = .ok (.invokevirtual 94, 3) := by decide +kernel
theorem dX3_share_47 : decode cX3_share 47 = .ok (.ladd, 1) := by decide +kernel
theorem dX3_share_48 : decode cX3_share 48 = .ok (.lastore, 1) := by decide +kernel
theorem dX3_share_49 : decode cX3_share 49 = .ok (.iinc 3 1, 3) := by decide +kernel
theorem dX3_share_52 : decode cX3_share 52 = .ok (.goto (-29), 3) := by decide +kernel
theorem dX3_share_55 : decode cX3_share 55 = .ok (.return_, 1) := by decide +kernel
theorem dX3_play_0 : decode cX3_play 0 = .ok (.aload_n 1, 1) := by decide +kernel
theorem dX3_play_1 : decode cX3_play 1 = .ok (.aload_n 2, 1) := by decide +kernel
theorem dX3_play_2 : decode cX3_play 2 = .ok (.getfield 26, 3) := by decide +kernel
theorem dX3_play_5 : decode cX3_play 5 = .ok (.invokevirtual 31, 3) := by decide +kernel
theorem dX3_play_8 : decode cX3_play 8 = .ok (.istore 4, 2) := by decide +kernel
theorem dX3_play_10 : decode cX3_play 10 = .ok (.aload_n 2, 1) := by decide +kernel
theorem dX3_play_11 : decode cX3_play 11 = .ok (.dup, 1) := by decide +kernel
theorem dX3_play_12 : decode cX3_play 12 = .ok (.getfield 37, 3) := by decide +kernel
theorem dX3_play_15 : decode cX3_play 15 = .ok (.iload 4, 2) := by decide +kernel
theorem dX3_play_17 : decode cX3_play 17 = .ok (.iconst (-1), 1) := by decide +kernel
theorem dX3_play_18 : decode cX3_play 18 = .ok (.ixor, 1) := by decide +kernel
theorem dX3_play_19 : decode cX3_play 19 = .ok (.iand, 1) := by decide +kernel
theorem dX3_play_20 : decode cX3_play 20 = .ok (.putfield 37, 3) := by decide +kernel
theorem dX3_play_23 : decode cX3_play 23 = .ok (.iconst 0, 1) := by decide +kernel
theorem dX3_play_24 : decode cX3_play 24 = .ok (.istore 5, 2) := by decide +kernel
theorem dX3_play_26 : decode cX3_play 26 = .ok (.iload 5, 2) := by decide +kernel
theorem dX3_play_28 : decode cX3_play 28 = .ok (.aload_n 1, 1) := by decide +kernel
theorem dX3_play_29 : decode cX3_play 29 = .ok (.getfield 40, 3) := by decide +kernel
theorem dX3_play_32 : decode cX3_play 32 = .ok (.if_icmp .ge 48, 3) := by decide +kernel
theorem dX3_play_35 : decode cX3_play 35 = .ok (.aload_n 3, 1) := by decide +kernel
theorem dX3_play_36 : decode cX3_play 36 = .ok (.ifnull 44, 3) := by decide +kernel
theorem dX3_play_39 : decode cX3_play 39 = .ok (.iload 4, 2) := by decide +kernel
theorem dX3_play_41 : decode cX3_play 41 = .ok (.iload 5, 2) := by decide +kernel
theorem dX3_play_43 : decode cX3_play 43 = .ok (.invokestatic 43, 3) := by decide +kernel
theorem dX3_play_46 : decode cX3_play 46 = .ok (.ifCond .ne 28, 3) := by decide +kernel
theorem dX3_play_49 : decode cX3_play 49 = .ok (.aload_n 2, 1) := by decide +kernel
theorem dX3_play_50 : decode cX3_play 50 = .ok (.iload 5, 2) := by decide +kernel
theorem dX3_play_52 : decode cX3_play 52 = .ok (.aload_n 0, 1) := by decide +kernel
theorem dX3_play_53 : decode cX3_play 53 = .ok (.aload_n 1, 1) := by decide +kernel
theorem dX3_play_54 : decode cX3_play 54 = .ok (.aload_n 2, 1) := by decide +kernel
theorem dX3_play_55 : decode cX3_play 55 = .ok (.aload_n 3, 1) := by decide +kernel
theorem dX3_play_56 : decode cX3_play 56 = .ok (.iload 5, 2) := by decide +kernel
theorem dX3_play_58 : decode cX3_play 58 = .ok (.invokevirtual 47, 3) := by decide +kernel
theorem dX3_play_61 : decode cX3_play 61 = .ok (.lconst 0, 1) := by decide +kernel
theorem dX3_play_62 : decode cX3_play 62 = .ok (.lcmp, 1) := by decide +kernel
theorem dX3_play_63 : decode cX3_play 63 = .ok (.ifCond .le 7, 3) := by decide +kernel
theorem dX3_play_66 : decode cX3_play 66 = .ok (.iconst 1, 1) := by decide +kernel
theorem dX3_play_67 : decode cX3_play 67 = .ok (.goto 4, 3) := by decide +kernel
theorem dX3_play_70 : decode cX3_play 70 = .ok (.iconst 0, 1) := by decide +kernel
theorem dX3_play_71 : decode cX3_play 71 = .ok (.invokestatic 51, 3) := by decide +kernel
theorem dX3_play_74 : decode cX3_play 74 = .ok (.iinc 5 1, 3) := by decide +kernel
theorem dX3_play_77 : decode cX3_play 77 = .ok (.goto (-51), 3) := by decide +kernel
theorem dX3_play_80 : decode cX3_play 80 = .ok (.aload_n 0, 1) := by decide +kernel
theorem dX3_play_81 : decode cX3_play 81 = .ok (.aload_n 2, 1) := by decide +kernel
theorem dX3_play_82 : decode cX3_play 82 = .ok (.getfield 37, 3) := by decide +kernel
theorem dX3_play_85 : decode cX3_play 85 = .ok (.putfield 19, 3) := by decide +kernel
theorem dX3_play_88 : decode cX3_play 88 = .ok (.aload_n 0, 1) := by decide +kernel
theorem dX3_play_89 : decode cX3_play 89 = .ok (.ldc2_w 55, 3) := by decide +kernel
theorem dX3_play_92 : decode cX3_play 92 = .ok (.aload_n 1, 1) := by decide +kernel
theorem dX3_play_93 : decode cX3_play 93 = .ok (.aload_n 2, 1) := by decide +kernel
theorem dX3_play_94 : decode cX3_play 94 = .ok (.aload_n 1, 1) := by decide +kernel
theorem dX3_play_95 : decode cX3_play 95 = .ok (.aload_n 2, 1) := by decide +kernel
theorem dX3_play_96 : decode cX3_play 96 = .ok (.getfield 26, 3) := by decide +kernel
theorem dX3_play_99 : decode cX3_play 99 = .ok (.invokevirtual 57, 3) := by decide +kernel
theorem dX3_play_102 : decode cX3_play 102 = .ok (.invokevirtual 61, 3) := by decide +kernel
theorem dX3_play_105 : decode cX3_play 105 = .ok (.i2l, 1) := by decide +kernel
theorem dX3_play_106 : decode cX3_play 106 = .ok (.lmul, 1) := by decide +kernel
theorem dX3_play_107 : decode cX3_play 107 = .ok (.putfield 22, 3) := by decide +kernel
theorem dX3_play_110 : decode cX3_play 110 = .ok (.aload_n 0, 1) := by decide +kernel
theorem dX3_play_111 : decode cX3_play 111 = .ok (.aload_n 1, 1) := by decide +kernel
theorem dX3_play_112 : decode cX3_play 112 = .ok (.aload_n 2, 1) := by decide +kernel
theorem dX3_play_113 : decode cX3_play 113 = .ok (.invokevirtual 64, 3) := by decide +kernel
theorem dX3_play_116 : decode cX3_play 116 = .ok (.iconst 0, 1) := by decide +kernel
theorem dX3_play_117 : decode cX3_play 117 = .ok (.istore 5, 2) := by decide +kernel
theorem dX3_play_119 : decode cX3_play 119 = .ok (.iload 5, 2) := by decide +kernel
theorem dX3_play_121 : decode cX3_play 121 = .ok (.aload_n 1, 1) := by decide +kernel
theorem dX3_play_122 : decode cX3_play 122 = .ok (.getfield 40, 3) := by decide +kernel
theorem dX3_play_125 : decode cX3_play 125 = .ok (.if_icmp .ge 28, 3) := by decide +kernel
theorem dX3_play_128 : decode cX3_play 128 = .ok (.aload_n 2, 1) := by decide +kernel
theorem dX3_play_129 : decode cX3_play 129 = .ok (.getfield 68, 3) := by decide +kernel
theorem dX3_play_132 : decode cX3_play 132 = .ok (.iload 5, 2) := by decide +kernel
theorem dX3_play_134 : decode cX3_play 134 = .ok (.dup2, 1) := by decide +kernel
theorem dX3_play_135 : decode cX3_play 135 = .ok (.iaload, 1) := by decide +kernel
theorem dX3_play_136 : decode cX3_play 136 = .ok (.aload_n 0, 1) := by decide +kernel
theorem dX3_play_137 : decode cX3_play 137 = .ok (.getfield 19, 3) := by decide +kernel
theorem dX3_play_140 : decode cX3_play 140 = .ok (.iload 5, 2) := by decide +kernel
theorem dX3_play_142 : decode cX3_play 142 = .ok (.invokestatic 43, 3) := by decide +kernel
theorem dX3_play_145 : decode cX3_play 145 = .ok (.iadd, 1) := by decide +kernel
theorem dX3_play_146 : decode cX3_play 146 = .ok (.iastore, 1) := by decide +kernel
theorem dX3_play_147 : decode cX3_play 147 = .ok (.iinc 5 1, 3) := by decide +kernel
theorem dX3_play_150 : decode cX3_play 150 = .ok (.goto (-31), 3) := by decide +kernel
theorem dX3_play_153 : decode cX3_play 153 = .ok (.aload_n 2, 1) := by decide +kernel
theorem dX3_play_154 : decode cX3_play 154 = .ok (.aload_n 1, 1) := by decide +kernel
theorem dX3_play_155 : decode cX3_play 155 = .ok (.invokevirtual 72, 3) := by decide +kernel
theorem dX3_play_158 : decode cX3_play 158 = .ok (.aload_n 0, 1) := by decide +kernel
theorem dX3_play_159 : decode cX3_play 159 = .ok (.getfield 19, 3) := by decide +kernel
theorem dX3_play_162 : decode cX3_play 162 = .ok (.invokestatic 76, 3) := by decide +kernel
theorem dX3_play_165 : decode cX3_play 165 = .ok (.ireturn, 1) := by decide +kernel
set_option maxRecDepth 20000 in
def fX2_init (N : Nat)  (a0 : Nat) (u : SG) : Option (Unit × SG) := if zK u a0 = 3 then bs (sI u a0 0 (0 : Int32)) fun u1 => (if zK u1 a0 = 3 then bs (sI u1 a0 1 (0 : Int32)) fun u2 => (if zK u2 a0 = 3 then bs (sI u2 a0 2 (0 : Int32)) fun u3 => (if zK u3 a0 = 3 then bs (sI u3 a0 3 (0 : Int32)) fun u4 => (if zK u4 a0 = 3 then bs (sI u4 a0 4 (0 : Int32)) fun u5 => (if (5 : Int32) < 0 ∨ 5 < (5 : Int32).toNatClampNeg then none else nw u5 (sNew u5 22 (5 : Int32).toNatClampNeg) fun q6 u7 => (if zK u7 a0 = 3 then bs (sR u7 a0 5 (some q6)) fun u8 => (if (5 : Int32) < 0 ∨ 5 < (5 : Int32).toNatClampNeg then none else nw u8 (sNew u8 22 (5 : Int32).toNatClampNeg) fun q9 u10 => (if zK u10 a0 = 3 then bs (sR u10 a0 6 (some q9)) fun u11 => (if (6 : Int32) < 0 ∨ 6 < (6 : Int32).toNatClampNeg then none else nw u11 (sNew u11 23 (6 : Int32).toNatClampNeg) fun q12 u13 => (if zK u13 a0 = 3 then bs (sR u13 a0 7 (some q12)) fun u14 => (some ((), u14)) else none)) else none)) else none)) else none) else none) else none) else none) else none
set_option maxRecDepth 20000 in
set_option maxHeartbeats 4000000 in
theorem kX2_init  (N : Nat)  (l : Launch) (D : va_G) (cT : Nat → ClassId) (z0 : Nat) (ks : Nat × Nat) (a0 : Nat) (u : SG) : Ct l D cT z0 ks yX2_init cX2_init 1 none 1 3 16 vU [.ref a0] u (fX2_init N  a0 u) := by
  unfold fX2_init
  refine ct_of (by decide +kernel) (Nat.le_of_ble_eq_true rfl) (fun p e R s m args below meth c hX => ?_)
  show JF _ True 1 0 0 _ 0 [(0, .ref a0)] [] u _
  refine jf_aload_n hX dX2_init_0 0 rfl ?_
  refine jf_objInit hX wml_340 winst_17 wcode_18 (by decide) (Nat.le_of_ble_eq_true rfl) dX2_init_1 ?_
  refine jf_aload_n hX dX2_init_4 0 rfl ?_
  refine jf_iconst (v := 0) hX dX2_init_5 (by decide) ?_
  refine jf_putI hX trivial ck_X2 0 wfl_341 (by decide) rfl rfl rfl dX2_init_6 (fun u1 => ?_)
  refine jf_aload_n hX dX2_init_9 0 rfl ?_
  refine jf_iconst (v := 0) hX dX2_init_10 (by decide) ?_
  refine jf_putI hX trivial ck_X2 1 wfl_342 (by decide) rfl rfl rfl dX2_init_11 (fun u2 => ?_)
  refine jf_aload_n hX dX2_init_14 0 rfl ?_
  refine jf_iconst (v := 0) hX dX2_init_15 (by decide) ?_
  refine jf_putI hX trivial ck_X2 2 wfl_343 (by decide) rfl rfl rfl dX2_init_16 (fun u3 => ?_)
  refine jf_aload_n hX dX2_init_19 0 rfl ?_
  refine jf_iconst (v := 0) hX dX2_init_20 (by decide) ?_
  refine jf_putI hX trivial ck_X2 3 wfl_344 (by decide) rfl rfl rfl dX2_init_21 (fun u4 => ?_)
  refine jf_aload_n hX dX2_init_24 0 rfl ?_
  refine jf_iconst (v := 0) hX dX2_init_25 (by decide) ?_
  refine jf_putI hX trivial ck_X2 4 wfl_345 (by decide) rfl rfl rfl dX2_init_26 (fun u5 => ?_)
  refine jf_aload_n hX dX2_init_29 0 rfl ?_
  refine jf_iconst (v := 5) hX dX2_init_30 (by decide) ?_
  refine jf_newaI hX trivial warrc_21 5 (by decide) (by decide) (by decide) dX2_init_31 (fun q6 u7 => ?_)
  refine jf_putRF (v := some q6) hX trivial ck_X2 5 wfl_346 (by decide) rfl rfl rfl rfl rfl dX2_init_33 (fun u8 => ?_)
  refine jf_aload_n hX dX2_init_36 0 rfl ?_
  refine jf_iconst (v := 5) hX dX2_init_37 (by decide) ?_
  refine jf_newaI hX trivial warrc_21 5 (by decide) (by decide) (by decide) dX2_init_38 (fun q9 u10 => ?_)
  refine jf_putRF (v := some q9) hX trivial ck_X2 6 wfl_347 (by decide) rfl rfl rfl rfl rfl dX2_init_40 (fun u11 => ?_)
  refine jf_aload_n hX dX2_init_43 0 rfl ?_
  refine jf_bipush (v := 6) hX dX2_init_44 (by decide) ?_
  refine jf_newaJ hX trivial warrc_28 6 (by decide) (by decide) (by decide) dX2_init_46 (fun q12 u13 => ?_)
  refine jf_putRF (v := some q12) hX trivial ck_X2 7 wfl_348 (by decide) rfl rfl rfl rfl rfl dX2_init_48 (fun u14 => ?_)
  exact jf_vret hX rfl (by decide) (by decide) dX2_init_51
set_option maxRecDepth 20000 in
def fX0_init (N : Nat)  (a0 : Nat) (u : SG) : Option (Unit × SG) := if (20 : Int32) < 0 ∨ 20 < (20 : Int32).toNatClampNeg then none else nw u (sNew u 25 (20 : Int32).toNatClampNeg) fun q1 u2 => (if zK u2 a0 = 1 then bs (sR u2 a0 0 (some q1)) fun u3 => (if zK u3 a0 = 1 then bs (sI u3 a0 1 (0 : Int32)) fun u4 => (if zK u4 a0 = 1 then bs (sI u4 a0 2 (0 : Int32)) fun u5 => (if (20 : Int32) ≤ (0 : Int32) then (none)
  else (if zK u5 a0 = 1 then (Option.bind (zR u5 a0 0) fun q6 => (nw u5 (sNew u5 3 0) fun q7 u8 => (cla (u8.1 + 3) (fX2_init N q7 u8) fun r9 u10 => (if zK u10 q6 = 25 then if (0 : Int32) < 0 ∨ zN u10 q6 ≤ (0 : Int32).toNatClampNeg then none else if zK u10 q7 = 3 then bs (sR u10 q6 (0 : Int32).toNatClampNeg (some q7)) fun u11 => (if (20 : Int32) ≤ (1 : Int32) then (none)
  else (if zK u11 a0 = 1 then (Option.bind (zR u11 a0 0) fun q12 => (nw u11 (sNew u11 3 0) fun q13 u14 => (cla (u14.1 + 3) (fX2_init N q13 u14) fun r15 u16 => (if zK u16 q12 = 25 then if (1 : Int32) < 0 ∨ zN u16 q12 ≤ (1 : Int32).toNatClampNeg then none else if zK u16 q13 = 3 then bs (sR u16 q12 (1 : Int32).toNatClampNeg (some q13)) fun u17 => (if (20 : Int32) ≤ (2 : Int32) then (none)
  else (if zK u17 a0 = 1 then (Option.bind (zR u17 a0 0) fun q18 => (nw u17 (sNew u17 3 0) fun q19 u20 => (cla (u20.1 + 3) (fX2_init N q19 u20) fun r21 u22 => (if zK u22 q18 = 25 then if (2 : Int32) < 0 ∨ zN u22 q18 ≤ (2 : Int32).toNatClampNeg then none else if zK u22 q19 = 3 then bs (sR u22 q18 (2 : Int32).toNatClampNeg (some q19)) fun u23 => (if (20 : Int32) ≤ (3 : Int32) then (none)
  else (if zK u23 a0 = 1 then (Option.bind (zR u23 a0 0) fun q24 => (nw u23 (sNew u23 3 0) fun q25 u26 => (cla (u26.1 + 3) (fX2_init N q25 u26) fun r27 u28 => (if zK u28 q24 = 25 then if (3 : Int32) < 0 ∨ zN u28 q24 ≤ (3 : Int32).toNatClampNeg then none else if zK u28 q25 = 3 then bs (sR u28 q24 (3 : Int32).toNatClampNeg (some q25)) fun u29 => (if (20 : Int32) ≤ (4 : Int32) then (none)
  else (if zK u29 a0 = 1 then (Option.bind (zR u29 a0 0) fun q30 => (nw u29 (sNew u29 3 0) fun q31 u32 => (cla (u32.1 + 3) (fX2_init N q31 u32) fun r33 u34 => (if zK u34 q30 = 25 then if (4 : Int32) < 0 ∨ zN u34 q30 ≤ (4 : Int32).toNatClampNeg then none else if zK u34 q31 = 3 then bs (sR u34 q30 (4 : Int32).toNatClampNeg (some q31)) fun u35 => (if (20 : Int32) ≤ (5 : Int32) then (none)
  else (if zK u35 a0 = 1 then (Option.bind (zR u35 a0 0) fun q36 => (nw u35 (sNew u35 3 0) fun q37 u38 => (cla (u38.1 + 3) (fX2_init N q37 u38) fun r39 u40 => (if zK u40 q36 = 25 then if (5 : Int32) < 0 ∨ zN u40 q36 ≤ (5 : Int32).toNatClampNeg then none else if zK u40 q37 = 3 then bs (sR u40 q36 (5 : Int32).toNatClampNeg (some q37)) fun u41 => (if (20 : Int32) ≤ (6 : Int32) then (none)
  else (if zK u41 a0 = 1 then (Option.bind (zR u41 a0 0) fun q42 => (nw u41 (sNew u41 3 0) fun q43 u44 => (cla (u44.1 + 3) (fX2_init N q43 u44) fun r45 u46 => (if zK u46 q42 = 25 then if (6 : Int32) < 0 ∨ zN u46 q42 ≤ (6 : Int32).toNatClampNeg then none else if zK u46 q43 = 3 then bs (sR u46 q42 (6 : Int32).toNatClampNeg (some q43)) fun u47 => (if (20 : Int32) ≤ (7 : Int32) then (none)
  else (if zK u47 a0 = 1 then (Option.bind (zR u47 a0 0) fun q48 => (nw u47 (sNew u47 3 0) fun q49 u50 => (cla (u50.1 + 3) (fX2_init N q49 u50) fun r51 u52 => (if zK u52 q48 = 25 then if (7 : Int32) < 0 ∨ zN u52 q48 ≤ (7 : Int32).toNatClampNeg then none else if zK u52 q49 = 3 then bs (sR u52 q48 (7 : Int32).toNatClampNeg (some q49)) fun u53 => (if (20 : Int32) ≤ (8 : Int32) then (none)
  else (if zK u53 a0 = 1 then (Option.bind (zR u53 a0 0) fun q54 => (nw u53 (sNew u53 3 0) fun q55 u56 => (cla (u56.1 + 3) (fX2_init N q55 u56) fun r57 u58 => (if zK u58 q54 = 25 then if (8 : Int32) < 0 ∨ zN u58 q54 ≤ (8 : Int32).toNatClampNeg then none else if zK u58 q55 = 3 then bs (sR u58 q54 (8 : Int32).toNatClampNeg (some q55)) fun u59 => (if (20 : Int32) ≤ (9 : Int32) then (none)
  else (if zK u59 a0 = 1 then (Option.bind (zR u59 a0 0) fun q60 => (nw u59 (sNew u59 3 0) fun q61 u62 => (cla (u62.1 + 3) (fX2_init N q61 u62) fun r63 u64 => (if zK u64 q60 = 25 then if (9 : Int32) < 0 ∨ zN u64 q60 ≤ (9 : Int32).toNatClampNeg then none else if zK u64 q61 = 3 then bs (sR u64 q60 (9 : Int32).toNatClampNeg (some q61)) fun u65 => (if (20 : Int32) ≤ (10 : Int32) then (none)
  else (if zK u65 a0 = 1 then (Option.bind (zR u65 a0 0) fun q66 => (nw u65 (sNew u65 3 0) fun q67 u68 => (cla (u68.1 + 3) (fX2_init N q67 u68) fun r69 u70 => (if zK u70 q66 = 25 then if (10 : Int32) < 0 ∨ zN u70 q66 ≤ (10 : Int32).toNatClampNeg then none else if zK u70 q67 = 3 then bs (sR u70 q66 (10 : Int32).toNatClampNeg (some q67)) fun u71 => (if (20 : Int32) ≤ (11 : Int32) then (none)
  else (if zK u71 a0 = 1 then (Option.bind (zR u71 a0 0) fun q72 => (nw u71 (sNew u71 3 0) fun q73 u74 => (cla (u74.1 + 3) (fX2_init N q73 u74) fun r75 u76 => (if zK u76 q72 = 25 then if (11 : Int32) < 0 ∨ zN u76 q72 ≤ (11 : Int32).toNatClampNeg then none else if zK u76 q73 = 3 then bs (sR u76 q72 (11 : Int32).toNatClampNeg (some q73)) fun u77 => (if (20 : Int32) ≤ (12 : Int32) then (none)
  else (if zK u77 a0 = 1 then (Option.bind (zR u77 a0 0) fun q78 => (nw u77 (sNew u77 3 0) fun q79 u80 => (cla (u80.1 + 3) (fX2_init N q79 u80) fun r81 u82 => (if zK u82 q78 = 25 then if (12 : Int32) < 0 ∨ zN u82 q78 ≤ (12 : Int32).toNatClampNeg then none else if zK u82 q79 = 3 then bs (sR u82 q78 (12 : Int32).toNatClampNeg (some q79)) fun u83 => (if (20 : Int32) ≤ (13 : Int32) then (none)
  else (if zK u83 a0 = 1 then (Option.bind (zR u83 a0 0) fun q84 => (nw u83 (sNew u83 3 0) fun q85 u86 => (cla (u86.1 + 3) (fX2_init N q85 u86) fun r87 u88 => (if zK u88 q84 = 25 then if (13 : Int32) < 0 ∨ zN u88 q84 ≤ (13 : Int32).toNatClampNeg then none else if zK u88 q85 = 3 then bs (sR u88 q84 (13 : Int32).toNatClampNeg (some q85)) fun u89 => (if (20 : Int32) ≤ (14 : Int32) then (none)
  else (if zK u89 a0 = 1 then (Option.bind (zR u89 a0 0) fun q90 => (nw u89 (sNew u89 3 0) fun q91 u92 => (cla (u92.1 + 3) (fX2_init N q91 u92) fun r93 u94 => (if zK u94 q90 = 25 then if (14 : Int32) < 0 ∨ zN u94 q90 ≤ (14 : Int32).toNatClampNeg then none else if zK u94 q91 = 3 then bs (sR u94 q90 (14 : Int32).toNatClampNeg (some q91)) fun u95 => (if (20 : Int32) ≤ (15 : Int32) then (none)
  else (if zK u95 a0 = 1 then (Option.bind (zR u95 a0 0) fun q96 => (nw u95 (sNew u95 3 0) fun q97 u98 => (cla (u98.1 + 3) (fX2_init N q97 u98) fun r99 u100 => (if zK u100 q96 = 25 then if (15 : Int32) < 0 ∨ zN u100 q96 ≤ (15 : Int32).toNatClampNeg then none else if zK u100 q97 = 3 then bs (sR u100 q96 (15 : Int32).toNatClampNeg (some q97)) fun u101 => (if (20 : Int32) ≤ (16 : Int32) then (none)
  else (if zK u101 a0 = 1 then (Option.bind (zR u101 a0 0) fun q102 => (nw u101 (sNew u101 3 0) fun q103 u104 => (cla (u104.1 + 3) (fX2_init N q103 u104) fun r105 u106 => (if zK u106 q102 = 25 then if (16 : Int32) < 0 ∨ zN u106 q102 ≤ (16 : Int32).toNatClampNeg then none else if zK u106 q103 = 3 then bs (sR u106 q102 (16 : Int32).toNatClampNeg (some q103)) fun u107 => (if (20 : Int32) ≤ (17 : Int32) then (none)
  else (if zK u107 a0 = 1 then (Option.bind (zR u107 a0 0) fun q108 => (nw u107 (sNew u107 3 0) fun q109 u110 => (cla (u110.1 + 3) (fX2_init N q109 u110) fun r111 u112 => (if zK u112 q108 = 25 then if (17 : Int32) < 0 ∨ zN u112 q108 ≤ (17 : Int32).toNatClampNeg then none else if zK u112 q109 = 3 then bs (sR u112 q108 (17 : Int32).toNatClampNeg (some q109)) fun u113 => (if (20 : Int32) ≤ (18 : Int32) then (none)
  else (if zK u113 a0 = 1 then (Option.bind (zR u113 a0 0) fun q114 => (nw u113 (sNew u113 3 0) fun q115 u116 => (cla (u116.1 + 3) (fX2_init N q115 u116) fun r117 u118 => (if zK u118 q114 = 25 then if (18 : Int32) < 0 ∨ zN u118 q114 ≤ (18 : Int32).toNatClampNeg then none else if zK u118 q115 = 3 then bs (sR u118 q114 (18 : Int32).toNatClampNeg (some q115)) fun u119 => (if (20 : Int32) ≤ (19 : Int32) then (none)
  else (if zK u119 a0 = 1 then (Option.bind (zR u119 a0 0) fun q120 => (nw u119 (sNew u119 3 0) fun q121 u122 => (cla (u122.1 + 3) (fX2_init N q121 u122) fun r123 u124 => (if zK u124 q120 = 25 then if (19 : Int32) < 0 ∨ zN u124 q120 ≤ (19 : Int32).toNatClampNeg then none else if zK u124 q121 = 3 then bs (sR u124 q120 (19 : Int32).toNatClampNeg (some q121)) fun u125 => (if (20 : Int32) ≤ (20 : Int32) then (some ((), u125))
  else (none)) else none else none)))) else none)) else none else none)))) else none)) else none else none)))) else none)) else none else none)))) else none)) else none else none)))) else none)) else none else none)))) else none)) else none else none)))) else none)) else none else none)))) else none)) else none else none)))) else none)) else none else none)))) else none)) else none else none)))) else none)) else none else none)))) else none)) else none else none)))) else none)) else none else none)))) else none)) else none else none)))) else none)) else none else none)))) else none)) else none else none)))) else none)) else none else none)))) else none)) else none else none)))) else none)) else none else none)))) else none)) else none) else none) else none)
set_option maxRecDepth 20000 in
set_option maxHeartbeats 4000000 in
theorem kX0_init  (N : Nat)  (l : Launch) (D : va_G) (cT : Nat → ClassId) (z0 : Nat) (ks : Nat × Nat) (a0 : Nat) (u : SG) : Ct l D cT z0 ks yX0_init cX0_init 2 none 2 81 500 vU [.ref a0] u (fX0_init N  a0 u) := by
  unfold fX0_init
  refine ct_of (by decide +kernel) (Nat.le_of_ble_eq_true rfl) (fun p e R s m args below meth c hX => ?_)
  show JF _ True 2 0 0 _ 0 [(0, .ref a0)] [] u _
  refine jf_aload_n hX dX0_init_0 0 rfl ?_
  refine jf_objInit hX wml_349 winst_17 wcode_18 (by decide) (Nat.le_of_ble_eq_true rfl) dX0_init_1 ?_
  refine jf_aload_n hX dX0_init_4 0 rfl ?_
  refine jf_bipush (v := 20) hX dX0_init_5 (by decide) ?_
  refine jf_newq25 hX trivial wclk_350 wover_351 20 (by decide) (by decide) (by decide) dX0_init_7 (fun q1 u2 => ?_)
  refine jf_putRF (v := some q1) hX trivial ck_X0 0 wfl_352 (by decide) rfl rfl rfl rfl rfl dX0_init_10 (fun u3 => ?_)
  refine jf_aload_n hX dX0_init_13 0 rfl ?_
  refine jf_iconst (v := 0) hX dX0_init_14 (by decide) ?_
  refine jf_putI hX trivial ck_X0 1 wfl_353 (by decide) rfl rfl rfl dX0_init_15 (fun u4 => ?_)
  refine jf_aload_n hX dX0_init_18 0 rfl ?_
  refine jf_iconst (v := 0) hX dX0_init_19 (by decide) ?_
  refine jf_putI hX trivial ck_X0 2 wfl_354 (by decide) rfl rfl rfl dX0_init_20 (fun u5 => ?_)
  refine jf_iconst (v := 0) hX dX0_init_23 (by decide) ?_
  refine jf_istore_n (lv' := [(1, .int (0 : Int32)), (0, .ref a0)]) hX dX0_init_24 rfl (by decide) rfl ?_
  refine jf_iload_n hX dX0_init_25 0 rfl ?_
  refine jf_bipush (v := 20) hX dX0_init_26 (by decide) ?_
  refine jf_icmp_ge (tgt := 50) hX dX0_init_28 (by decide) ?_ ?_
  · exact jf_none
  · refine jf_aload_n hX dX0_init_31 1 rfl ?_
    refine jf_getR hX ck_X0 0 wfl_352 (by decide) rfl dX0_init_32 ?_
    refine jf_nn (fun q6 => ?_)
    refine jf_iload_n hX dX0_init_35 0 rfl ?_
    refine jf_new hX trivial 2 ck_X2 df_X2 wclk_350 winsta_355 wini_356 (by decide) (by decide) dX0_init_36 (fun q7 u8 => ?_)
    refine jf_dup hX dX0_init_39 rfl ?_
    refine jf_callIN (As := []) (st := [.ref q7, .int (0 : Int32), .ref q6]) hX mo_X2_init wnest_357 winst_358 rfl rfl rfl (fun l D cT z0 ks => kX2_init N l D cT z0 ks q7 u8) (by decide) (by decide) (by decide) (by decide) (Nat.le_of_ble_eq_true rfl) rfl dX0_init_40 (fun r9 u10 => ?_)
    refine jf_aast25 hX trivial ck_X2 dX0_init_43 (fun u11 => ?_)
    refine jf_iinc (v := 1) (lv' := [(1, .int (1 : Int32)), (0, .ref a0)]) hX dX0_init_44 0 rfl (by decide) (by decide) rfl ?_
    refine jf_goto (tgt := 25) hX dX0_init_47 (by decide) ?_
    refine jf_iload_n hX dX0_init_25 0 rfl ?_
    refine jf_bipush (v := 20) hX dX0_init_26 (by decide) ?_
    refine jf_icmp_ge (tgt := 50) hX dX0_init_28 (by decide) ?_ ?_
    · exact jf_none
    · refine jf_aload_n hX dX0_init_31 1 rfl ?_
      refine jf_getR hX ck_X0 0 wfl_352 (by decide) rfl dX0_init_32 ?_
      refine jf_nn (fun q12 => ?_)
      refine jf_iload_n hX dX0_init_35 0 rfl ?_
      refine jf_new hX trivial 2 ck_X2 df_X2 wclk_350 winsta_355 wini_356 (by decide) (by decide) dX0_init_36 (fun q13 u14 => ?_)
      refine jf_dup hX dX0_init_39 rfl ?_
      refine jf_callIN (As := []) (st := [.ref q13, .int (1 : Int32), .ref q12]) hX mo_X2_init wnest_357 winst_358 rfl rfl rfl (fun l D cT z0 ks => kX2_init N l D cT z0 ks q13 u14) (by decide) (by decide) (by decide) (by decide) (Nat.le_of_ble_eq_true rfl) rfl dX0_init_40 (fun r15 u16 => ?_)
      refine jf_aast25 hX trivial ck_X2 dX0_init_43 (fun u17 => ?_)
      refine jf_iinc (v := 1) (lv' := [(1, .int (2 : Int32)), (0, .ref a0)]) hX dX0_init_44 0 rfl (by decide) (by decide) rfl ?_
      refine jf_goto (tgt := 25) hX dX0_init_47 (by decide) ?_
      refine jf_iload_n hX dX0_init_25 0 rfl ?_
      refine jf_bipush (v := 20) hX dX0_init_26 (by decide) ?_
      refine jf_icmp_ge (tgt := 50) hX dX0_init_28 (by decide) ?_ ?_
      · exact jf_none
      · refine jf_aload_n hX dX0_init_31 1 rfl ?_
        refine jf_getR hX ck_X0 0 wfl_352 (by decide) rfl dX0_init_32 ?_
        refine jf_nn (fun q18 => ?_)
        refine jf_iload_n hX dX0_init_35 0 rfl ?_
        refine jf_new hX trivial 2 ck_X2 df_X2 wclk_350 winsta_355 wini_356 (by decide) (by decide) dX0_init_36 (fun q19 u20 => ?_)
        refine jf_dup hX dX0_init_39 rfl ?_
        refine jf_callIN (As := []) (st := [.ref q19, .int (2 : Int32), .ref q18]) hX mo_X2_init wnest_357 winst_358 rfl rfl rfl (fun l D cT z0 ks => kX2_init N l D cT z0 ks q19 u20) (by decide) (by decide) (by decide) (by decide) (Nat.le_of_ble_eq_true rfl) rfl dX0_init_40 (fun r21 u22 => ?_)
        refine jf_aast25 hX trivial ck_X2 dX0_init_43 (fun u23 => ?_)
        refine jf_iinc (v := 1) (lv' := [(1, .int (3 : Int32)), (0, .ref a0)]) hX dX0_init_44 0 rfl (by decide) (by decide) rfl ?_
        refine jf_goto (tgt := 25) hX dX0_init_47 (by decide) ?_
        refine jf_iload_n hX dX0_init_25 0 rfl ?_
        refine jf_bipush (v := 20) hX dX0_init_26 (by decide) ?_
        refine jf_icmp_ge (tgt := 50) hX dX0_init_28 (by decide) ?_ ?_
        · exact jf_none
        · refine jf_aload_n hX dX0_init_31 1 rfl ?_
          refine jf_getR hX ck_X0 0 wfl_352 (by decide) rfl dX0_init_32 ?_
          refine jf_nn (fun q24 => ?_)
          refine jf_iload_n hX dX0_init_35 0 rfl ?_
          refine jf_new hX trivial 2 ck_X2 df_X2 wclk_350 winsta_355 wini_356 (by decide) (by decide) dX0_init_36 (fun q25 u26 => ?_)
          refine jf_dup hX dX0_init_39 rfl ?_
          refine jf_callIN (As := []) (st := [.ref q25, .int (3 : Int32), .ref q24]) hX mo_X2_init wnest_357 winst_358 rfl rfl rfl (fun l D cT z0 ks => kX2_init N l D cT z0 ks q25 u26) (by decide) (by decide) (by decide) (by decide) (Nat.le_of_ble_eq_true rfl) rfl dX0_init_40 (fun r27 u28 => ?_)
          refine jf_aast25 hX trivial ck_X2 dX0_init_43 (fun u29 => ?_)
          refine jf_iinc (v := 1) (lv' := [(1, .int (4 : Int32)), (0, .ref a0)]) hX dX0_init_44 0 rfl (by decide) (by decide) rfl ?_
          refine jf_goto (tgt := 25) hX dX0_init_47 (by decide) ?_
          refine jf_iload_n hX dX0_init_25 0 rfl ?_
          refine jf_bipush (v := 20) hX dX0_init_26 (by decide) ?_
          refine jf_icmp_ge (tgt := 50) hX dX0_init_28 (by decide) ?_ ?_
          · exact jf_none
          · refine jf_aload_n hX dX0_init_31 1 rfl ?_
            refine jf_getR hX ck_X0 0 wfl_352 (by decide) rfl dX0_init_32 ?_
            refine jf_nn (fun q30 => ?_)
            refine jf_iload_n hX dX0_init_35 0 rfl ?_
            refine jf_new hX trivial 2 ck_X2 df_X2 wclk_350 winsta_355 wini_356 (by decide) (by decide) dX0_init_36 (fun q31 u32 => ?_)
            refine jf_dup hX dX0_init_39 rfl ?_
            refine jf_callIN (As := []) (st := [.ref q31, .int (4 : Int32), .ref q30]) hX mo_X2_init wnest_357 winst_358 rfl rfl rfl (fun l D cT z0 ks => kX2_init N l D cT z0 ks q31 u32) (by decide) (by decide) (by decide) (by decide) (Nat.le_of_ble_eq_true rfl) rfl dX0_init_40 (fun r33 u34 => ?_)
            refine jf_aast25 hX trivial ck_X2 dX0_init_43 (fun u35 => ?_)
            refine jf_iinc (v := 1) (lv' := [(1, .int (5 : Int32)), (0, .ref a0)]) hX dX0_init_44 0 rfl (by decide) (by decide) rfl ?_
            refine jf_goto (tgt := 25) hX dX0_init_47 (by decide) ?_
            refine jf_iload_n hX dX0_init_25 0 rfl ?_
            refine jf_bipush (v := 20) hX dX0_init_26 (by decide) ?_
            refine jf_icmp_ge (tgt := 50) hX dX0_init_28 (by decide) ?_ ?_
            · exact jf_none
            · refine jf_aload_n hX dX0_init_31 1 rfl ?_
              refine jf_getR hX ck_X0 0 wfl_352 (by decide) rfl dX0_init_32 ?_
              refine jf_nn (fun q36 => ?_)
              refine jf_iload_n hX dX0_init_35 0 rfl ?_
              refine jf_new hX trivial 2 ck_X2 df_X2 wclk_350 winsta_355 wini_356 (by decide) (by decide) dX0_init_36 (fun q37 u38 => ?_)
              refine jf_dup hX dX0_init_39 rfl ?_
              refine jf_callIN (As := []) (st := [.ref q37, .int (5 : Int32), .ref q36]) hX mo_X2_init wnest_357 winst_358 rfl rfl rfl (fun l D cT z0 ks => kX2_init N l D cT z0 ks q37 u38) (by decide) (by decide) (by decide) (by decide) (Nat.le_of_ble_eq_true rfl) rfl dX0_init_40 (fun r39 u40 => ?_)
              refine jf_aast25 hX trivial ck_X2 dX0_init_43 (fun u41 => ?_)
              refine jf_iinc (v := 1) (lv' := [(1, .int (6 : Int32)), (0, .ref a0)]) hX dX0_init_44 0 rfl (by decide) (by decide) rfl ?_
              refine jf_goto (tgt := 25) hX dX0_init_47 (by decide) ?_
              refine jf_iload_n hX dX0_init_25 0 rfl ?_
              refine jf_bipush (v := 20) hX dX0_init_26 (by decide) ?_
              refine jf_icmp_ge (tgt := 50) hX dX0_init_28 (by decide) ?_ ?_
              · exact jf_none
              · refine jf_aload_n hX dX0_init_31 1 rfl ?_
                refine jf_getR hX ck_X0 0 wfl_352 (by decide) rfl dX0_init_32 ?_
                refine jf_nn (fun q42 => ?_)
                refine jf_iload_n hX dX0_init_35 0 rfl ?_
                refine jf_new hX trivial 2 ck_X2 df_X2 wclk_350 winsta_355 wini_356 (by decide) (by decide) dX0_init_36 (fun q43 u44 => ?_)
                refine jf_dup hX dX0_init_39 rfl ?_
                refine jf_callIN (As := []) (st := [.ref q43, .int (6 : Int32), .ref q42]) hX mo_X2_init wnest_357 winst_358 rfl rfl rfl (fun l D cT z0 ks => kX2_init N l D cT z0 ks q43 u44) (by decide) (by decide) (by decide) (by decide) (Nat.le_of_ble_eq_true rfl) rfl dX0_init_40 (fun r45 u46 => ?_)
                refine jf_aast25 hX trivial ck_X2 dX0_init_43 (fun u47 => ?_)
                refine jf_iinc (v := 1) (lv' := [(1, .int (7 : Int32)), (0, .ref a0)]) hX dX0_init_44 0 rfl (by decide) (by decide) rfl ?_
                refine jf_goto (tgt := 25) hX dX0_init_47 (by decide) ?_
                refine jf_iload_n hX dX0_init_25 0 rfl ?_
                refine jf_bipush (v := 20) hX dX0_init_26 (by decide) ?_
                refine jf_icmp_ge (tgt := 50) hX dX0_init_28 (by decide) ?_ ?_
                · exact jf_none
                · refine jf_aload_n hX dX0_init_31 1 rfl ?_
                  refine jf_getR hX ck_X0 0 wfl_352 (by decide) rfl dX0_init_32 ?_
                  refine jf_nn (fun q48 => ?_)
                  refine jf_iload_n hX dX0_init_35 0 rfl ?_
                  refine jf_new hX trivial 2 ck_X2 df_X2 wclk_350 winsta_355 wini_356 (by decide) (by decide) dX0_init_36 (fun q49 u50 => ?_)
                  refine jf_dup hX dX0_init_39 rfl ?_
                  refine jf_callIN (As := []) (st := [.ref q49, .int (7 : Int32), .ref q48]) hX mo_X2_init wnest_357 winst_358 rfl rfl rfl (fun l D cT z0 ks => kX2_init N l D cT z0 ks q49 u50) (by decide) (by decide) (by decide) (by decide) (Nat.le_of_ble_eq_true rfl) rfl dX0_init_40 (fun r51 u52 => ?_)
                  refine jf_aast25 hX trivial ck_X2 dX0_init_43 (fun u53 => ?_)
                  refine jf_iinc (v := 1) (lv' := [(1, .int (8 : Int32)), (0, .ref a0)]) hX dX0_init_44 0 rfl (by decide) (by decide) rfl ?_
                  refine jf_goto (tgt := 25) hX dX0_init_47 (by decide) ?_
                  refine jf_iload_n hX dX0_init_25 0 rfl ?_
                  refine jf_bipush (v := 20) hX dX0_init_26 (by decide) ?_
                  refine jf_icmp_ge (tgt := 50) hX dX0_init_28 (by decide) ?_ ?_
                  · exact jf_none
                  · refine jf_aload_n hX dX0_init_31 1 rfl ?_
                    refine jf_getR hX ck_X0 0 wfl_352 (by decide) rfl dX0_init_32 ?_
                    refine jf_nn (fun q54 => ?_)
                    refine jf_iload_n hX dX0_init_35 0 rfl ?_
                    refine jf_new hX trivial 2 ck_X2 df_X2 wclk_350 winsta_355 wini_356 (by decide) (by decide) dX0_init_36 (fun q55 u56 => ?_)
                    refine jf_dup hX dX0_init_39 rfl ?_
                    refine jf_callIN (As := []) (st := [.ref q55, .int (8 : Int32), .ref q54]) hX mo_X2_init wnest_357 winst_358 rfl rfl rfl (fun l D cT z0 ks => kX2_init N l D cT z0 ks q55 u56) (by decide) (by decide) (by decide) (by decide) (Nat.le_of_ble_eq_true rfl) rfl dX0_init_40 (fun r57 u58 => ?_)
                    refine jf_aast25 hX trivial ck_X2 dX0_init_43 (fun u59 => ?_)
                    refine jf_iinc (v := 1) (lv' := [(1, .int (9 : Int32)), (0, .ref a0)]) hX dX0_init_44 0 rfl (by decide) (by decide) rfl ?_
                    refine jf_goto (tgt := 25) hX dX0_init_47 (by decide) ?_
                    refine jf_iload_n hX dX0_init_25 0 rfl ?_
                    refine jf_bipush (v := 20) hX dX0_init_26 (by decide) ?_
                    refine jf_icmp_ge (tgt := 50) hX dX0_init_28 (by decide) ?_ ?_
                    · exact jf_none
                    · refine jf_aload_n hX dX0_init_31 1 rfl ?_
                      refine jf_getR hX ck_X0 0 wfl_352 (by decide) rfl dX0_init_32 ?_
                      refine jf_nn (fun q60 => ?_)
                      refine jf_iload_n hX dX0_init_35 0 rfl ?_
                      refine jf_new hX trivial 2 ck_X2 df_X2 wclk_350 winsta_355 wini_356 (by decide) (by decide) dX0_init_36 (fun q61 u62 => ?_)
                      refine jf_dup hX dX0_init_39 rfl ?_
                      refine jf_callIN (As := []) (st := [.ref q61, .int (9 : Int32), .ref q60]) hX mo_X2_init wnest_357 winst_358 rfl rfl rfl (fun l D cT z0 ks => kX2_init N l D cT z0 ks q61 u62) (by decide) (by decide) (by decide) (by decide) (Nat.le_of_ble_eq_true rfl) rfl dX0_init_40 (fun r63 u64 => ?_)
                      refine jf_aast25 hX trivial ck_X2 dX0_init_43 (fun u65 => ?_)
                      refine jf_iinc (v := 1) (lv' := [(1, .int (10 : Int32)), (0, .ref a0)]) hX dX0_init_44 0 rfl (by decide) (by decide) rfl ?_
                      refine jf_goto (tgt := 25) hX dX0_init_47 (by decide) ?_
                      refine jf_iload_n hX dX0_init_25 0 rfl ?_
                      refine jf_bipush (v := 20) hX dX0_init_26 (by decide) ?_
                      refine jf_icmp_ge (tgt := 50) hX dX0_init_28 (by decide) ?_ ?_
                      · exact jf_none
                      · refine jf_aload_n hX dX0_init_31 1 rfl ?_
                        refine jf_getR hX ck_X0 0 wfl_352 (by decide) rfl dX0_init_32 ?_
                        refine jf_nn (fun q66 => ?_)
                        refine jf_iload_n hX dX0_init_35 0 rfl ?_
                        refine jf_new hX trivial 2 ck_X2 df_X2 wclk_350 winsta_355 wini_356 (by decide) (by decide) dX0_init_36 (fun q67 u68 => ?_)
                        refine jf_dup hX dX0_init_39 rfl ?_
                        refine jf_callIN (As := []) (st := [.ref q67, .int (10 : Int32), .ref q66]) hX mo_X2_init wnest_357 winst_358 rfl rfl rfl (fun l D cT z0 ks => kX2_init N l D cT z0 ks q67 u68) (by decide) (by decide) (by decide) (by decide) (Nat.le_of_ble_eq_true rfl) rfl dX0_init_40 (fun r69 u70 => ?_)
                        refine jf_aast25 hX trivial ck_X2 dX0_init_43 (fun u71 => ?_)
                        refine jf_iinc (v := 1) (lv' := [(1, .int (11 : Int32)), (0, .ref a0)]) hX dX0_init_44 0 rfl (by decide) (by decide) rfl ?_
                        refine jf_goto (tgt := 25) hX dX0_init_47 (by decide) ?_
                        refine jf_iload_n hX dX0_init_25 0 rfl ?_
                        refine jf_bipush (v := 20) hX dX0_init_26 (by decide) ?_
                        refine jf_icmp_ge (tgt := 50) hX dX0_init_28 (by decide) ?_ ?_
                        · exact jf_none
                        · refine jf_aload_n hX dX0_init_31 1 rfl ?_
                          refine jf_getR hX ck_X0 0 wfl_352 (by decide) rfl dX0_init_32 ?_
                          refine jf_nn (fun q72 => ?_)
                          refine jf_iload_n hX dX0_init_35 0 rfl ?_
                          refine jf_new hX trivial 2 ck_X2 df_X2 wclk_350 winsta_355 wini_356 (by decide) (by decide) dX0_init_36 (fun q73 u74 => ?_)
                          refine jf_dup hX dX0_init_39 rfl ?_
                          refine jf_callIN (As := []) (st := [.ref q73, .int (11 : Int32), .ref q72]) hX mo_X2_init wnest_357 winst_358 rfl rfl rfl (fun l D cT z0 ks => kX2_init N l D cT z0 ks q73 u74) (by decide) (by decide) (by decide) (by decide) (Nat.le_of_ble_eq_true rfl) rfl dX0_init_40 (fun r75 u76 => ?_)
                          refine jf_aast25 hX trivial ck_X2 dX0_init_43 (fun u77 => ?_)
                          refine jf_iinc (v := 1) (lv' := [(1, .int (12 : Int32)), (0, .ref a0)]) hX dX0_init_44 0 rfl (by decide) (by decide) rfl ?_
                          refine jf_goto (tgt := 25) hX dX0_init_47 (by decide) ?_
                          refine jf_iload_n hX dX0_init_25 0 rfl ?_
                          refine jf_bipush (v := 20) hX dX0_init_26 (by decide) ?_
                          refine jf_icmp_ge (tgt := 50) hX dX0_init_28 (by decide) ?_ ?_
                          · exact jf_none
                          · refine jf_aload_n hX dX0_init_31 1 rfl ?_
                            refine jf_getR hX ck_X0 0 wfl_352 (by decide) rfl dX0_init_32 ?_
                            refine jf_nn (fun q78 => ?_)
                            refine jf_iload_n hX dX0_init_35 0 rfl ?_
                            refine jf_new hX trivial 2 ck_X2 df_X2 wclk_350 winsta_355 wini_356 (by decide) (by decide) dX0_init_36 (fun q79 u80 => ?_)
                            refine jf_dup hX dX0_init_39 rfl ?_
                            refine jf_callIN (As := []) (st := [.ref q79, .int (12 : Int32), .ref q78]) hX mo_X2_init wnest_357 winst_358 rfl rfl rfl (fun l D cT z0 ks => kX2_init N l D cT z0 ks q79 u80) (by decide) (by decide) (by decide) (by decide) (Nat.le_of_ble_eq_true rfl) rfl dX0_init_40 (fun r81 u82 => ?_)
                            refine jf_aast25 hX trivial ck_X2 dX0_init_43 (fun u83 => ?_)
                            refine jf_iinc (v := 1) (lv' := [(1, .int (13 : Int32)), (0, .ref a0)]) hX dX0_init_44 0 rfl (by decide) (by decide) rfl ?_
                            refine jf_goto (tgt := 25) hX dX0_init_47 (by decide) ?_
                            refine jf_iload_n hX dX0_init_25 0 rfl ?_
                            refine jf_bipush (v := 20) hX dX0_init_26 (by decide) ?_
                            refine jf_icmp_ge (tgt := 50) hX dX0_init_28 (by decide) ?_ ?_
                            · exact jf_none
                            · refine jf_aload_n hX dX0_init_31 1 rfl ?_
                              refine jf_getR hX ck_X0 0 wfl_352 (by decide) rfl dX0_init_32 ?_
                              refine jf_nn (fun q84 => ?_)
                              refine jf_iload_n hX dX0_init_35 0 rfl ?_
                              refine jf_new hX trivial 2 ck_X2 df_X2 wclk_350 winsta_355 wini_356 (by decide) (by decide) dX0_init_36 (fun q85 u86 => ?_)
                              refine jf_dup hX dX0_init_39 rfl ?_
                              refine jf_callIN (As := []) (st := [.ref q85, .int (13 : Int32), .ref q84]) hX mo_X2_init wnest_357 winst_358 rfl rfl rfl (fun l D cT z0 ks => kX2_init N l D cT z0 ks q85 u86) (by decide) (by decide) (by decide) (by decide) (Nat.le_of_ble_eq_true rfl) rfl dX0_init_40 (fun r87 u88 => ?_)
                              refine jf_aast25 hX trivial ck_X2 dX0_init_43 (fun u89 => ?_)
                              refine jf_iinc (v := 1) (lv' := [(1, .int (14 : Int32)), (0, .ref a0)]) hX dX0_init_44 0 rfl (by decide) (by decide) rfl ?_
                              refine jf_goto (tgt := 25) hX dX0_init_47 (by decide) ?_
                              refine jf_iload_n hX dX0_init_25 0 rfl ?_
                              refine jf_bipush (v := 20) hX dX0_init_26 (by decide) ?_
                              refine jf_icmp_ge (tgt := 50) hX dX0_init_28 (by decide) ?_ ?_
                              · exact jf_none
                              · refine jf_aload_n hX dX0_init_31 1 rfl ?_
                                refine jf_getR hX ck_X0 0 wfl_352 (by decide) rfl dX0_init_32 ?_
                                refine jf_nn (fun q90 => ?_)
                                refine jf_iload_n hX dX0_init_35 0 rfl ?_
                                refine jf_new hX trivial 2 ck_X2 df_X2 wclk_350 winsta_355 wini_356 (by decide) (by decide) dX0_init_36 (fun q91 u92 => ?_)
                                refine jf_dup hX dX0_init_39 rfl ?_
                                refine jf_callIN (As := []) (st := [.ref q91, .int (14 : Int32), .ref q90]) hX mo_X2_init wnest_357 winst_358 rfl rfl rfl (fun l D cT z0 ks => kX2_init N l D cT z0 ks q91 u92) (by decide) (by decide) (by decide) (by decide) (Nat.le_of_ble_eq_true rfl) rfl dX0_init_40 (fun r93 u94 => ?_)
                                refine jf_aast25 hX trivial ck_X2 dX0_init_43 (fun u95 => ?_)
                                refine jf_iinc (v := 1) (lv' := [(1, .int (15 : Int32)), (0, .ref a0)]) hX dX0_init_44 0 rfl (by decide) (by decide) rfl ?_
                                refine jf_goto (tgt := 25) hX dX0_init_47 (by decide) ?_
                                refine jf_iload_n hX dX0_init_25 0 rfl ?_
                                refine jf_bipush (v := 20) hX dX0_init_26 (by decide) ?_
                                refine jf_icmp_ge (tgt := 50) hX dX0_init_28 (by decide) ?_ ?_
                                · exact jf_none
                                · refine jf_aload_n hX dX0_init_31 1 rfl ?_
                                  refine jf_getR hX ck_X0 0 wfl_352 (by decide) rfl dX0_init_32 ?_
                                  refine jf_nn (fun q96 => ?_)
                                  refine jf_iload_n hX dX0_init_35 0 rfl ?_
                                  refine jf_new hX trivial 2 ck_X2 df_X2 wclk_350 winsta_355 wini_356 (by decide) (by decide) dX0_init_36 (fun q97 u98 => ?_)
                                  refine jf_dup hX dX0_init_39 rfl ?_
                                  refine jf_callIN (As := []) (st := [.ref q97, .int (15 : Int32), .ref q96]) hX mo_X2_init wnest_357 winst_358 rfl rfl rfl (fun l D cT z0 ks => kX2_init N l D cT z0 ks q97 u98) (by decide) (by decide) (by decide) (by decide) (Nat.le_of_ble_eq_true rfl) rfl dX0_init_40 (fun r99 u100 => ?_)
                                  refine jf_aast25 hX trivial ck_X2 dX0_init_43 (fun u101 => ?_)
                                  refine jf_iinc (v := 1) (lv' := [(1, .int (16 : Int32)), (0, .ref a0)]) hX dX0_init_44 0 rfl (by decide) (by decide) rfl ?_
                                  refine jf_goto (tgt := 25) hX dX0_init_47 (by decide) ?_
                                  refine jf_iload_n hX dX0_init_25 0 rfl ?_
                                  refine jf_bipush (v := 20) hX dX0_init_26 (by decide) ?_
                                  refine jf_icmp_ge (tgt := 50) hX dX0_init_28 (by decide) ?_ ?_
                                  · exact jf_none
                                  · refine jf_aload_n hX dX0_init_31 1 rfl ?_
                                    refine jf_getR hX ck_X0 0 wfl_352 (by decide) rfl dX0_init_32 ?_
                                    refine jf_nn (fun q102 => ?_)
                                    refine jf_iload_n hX dX0_init_35 0 rfl ?_
                                    refine jf_new hX trivial 2 ck_X2 df_X2 wclk_350 winsta_355 wini_356 (by decide) (by decide) dX0_init_36 (fun q103 u104 => ?_)
                                    refine jf_dup hX dX0_init_39 rfl ?_
                                    refine jf_callIN (As := []) (st := [.ref q103, .int (16 : Int32), .ref q102]) hX mo_X2_init wnest_357 winst_358 rfl rfl rfl (fun l D cT z0 ks => kX2_init N l D cT z0 ks q103 u104) (by decide) (by decide) (by decide) (by decide) (Nat.le_of_ble_eq_true rfl) rfl dX0_init_40 (fun r105 u106 => ?_)
                                    refine jf_aast25 hX trivial ck_X2 dX0_init_43 (fun u107 => ?_)
                                    refine jf_iinc (v := 1) (lv' := [(1, .int (17 : Int32)), (0, .ref a0)]) hX dX0_init_44 0 rfl (by decide) (by decide) rfl ?_
                                    refine jf_goto (tgt := 25) hX dX0_init_47 (by decide) ?_
                                    refine jf_iload_n hX dX0_init_25 0 rfl ?_
                                    refine jf_bipush (v := 20) hX dX0_init_26 (by decide) ?_
                                    refine jf_icmp_ge (tgt := 50) hX dX0_init_28 (by decide) ?_ ?_
                                    · exact jf_none
                                    · refine jf_aload_n hX dX0_init_31 1 rfl ?_
                                      refine jf_getR hX ck_X0 0 wfl_352 (by decide) rfl dX0_init_32 ?_
                                      refine jf_nn (fun q108 => ?_)
                                      refine jf_iload_n hX dX0_init_35 0 rfl ?_
                                      refine jf_new hX trivial 2 ck_X2 df_X2 wclk_350 winsta_355 wini_356 (by decide) (by decide) dX0_init_36 (fun q109 u110 => ?_)
                                      refine jf_dup hX dX0_init_39 rfl ?_
                                      refine jf_callIN (As := []) (st := [.ref q109, .int (17 : Int32), .ref q108]) hX mo_X2_init wnest_357 winst_358 rfl rfl rfl (fun l D cT z0 ks => kX2_init N l D cT z0 ks q109 u110) (by decide) (by decide) (by decide) (by decide) (Nat.le_of_ble_eq_true rfl) rfl dX0_init_40 (fun r111 u112 => ?_)
                                      refine jf_aast25 hX trivial ck_X2 dX0_init_43 (fun u113 => ?_)
                                      refine jf_iinc (v := 1) (lv' := [(1, .int (18 : Int32)), (0, .ref a0)]) hX dX0_init_44 0 rfl (by decide) (by decide) rfl ?_
                                      refine jf_goto (tgt := 25) hX dX0_init_47 (by decide) ?_
                                      refine jf_iload_n hX dX0_init_25 0 rfl ?_
                                      refine jf_bipush (v := 20) hX dX0_init_26 (by decide) ?_
                                      refine jf_icmp_ge (tgt := 50) hX dX0_init_28 (by decide) ?_ ?_
                                      · exact jf_none
                                      · refine jf_aload_n hX dX0_init_31 1 rfl ?_
                                        refine jf_getR hX ck_X0 0 wfl_352 (by decide) rfl dX0_init_32 ?_
                                        refine jf_nn (fun q114 => ?_)
                                        refine jf_iload_n hX dX0_init_35 0 rfl ?_
                                        refine jf_new hX trivial 2 ck_X2 df_X2 wclk_350 winsta_355 wini_356 (by decide) (by decide) dX0_init_36 (fun q115 u116 => ?_)
                                        refine jf_dup hX dX0_init_39 rfl ?_
                                        refine jf_callIN (As := []) (st := [.ref q115, .int (18 : Int32), .ref q114]) hX mo_X2_init wnest_357 winst_358 rfl rfl rfl (fun l D cT z0 ks => kX2_init N l D cT z0 ks q115 u116) (by decide) (by decide) (by decide) (by decide) (Nat.le_of_ble_eq_true rfl) rfl dX0_init_40 (fun r117 u118 => ?_)
                                        refine jf_aast25 hX trivial ck_X2 dX0_init_43 (fun u119 => ?_)
                                        refine jf_iinc (v := 1) (lv' := [(1, .int (19 : Int32)), (0, .ref a0)]) hX dX0_init_44 0 rfl (by decide) (by decide) rfl ?_
                                        refine jf_goto (tgt := 25) hX dX0_init_47 (by decide) ?_
                                        refine jf_iload_n hX dX0_init_25 0 rfl ?_
                                        refine jf_bipush (v := 20) hX dX0_init_26 (by decide) ?_
                                        refine jf_icmp_ge (tgt := 50) hX dX0_init_28 (by decide) ?_ ?_
                                        · exact jf_none
                                        · refine jf_aload_n hX dX0_init_31 1 rfl ?_
                                          refine jf_getR hX ck_X0 0 wfl_352 (by decide) rfl dX0_init_32 ?_
                                          refine jf_nn (fun q120 => ?_)
                                          refine jf_iload_n hX dX0_init_35 0 rfl ?_
                                          refine jf_new hX trivial 2 ck_X2 df_X2 wclk_350 winsta_355 wini_356 (by decide) (by decide) dX0_init_36 (fun q121 u122 => ?_)
                                          refine jf_dup hX dX0_init_39 rfl ?_
                                          refine jf_callIN (As := []) (st := [.ref q121, .int (19 : Int32), .ref q120]) hX mo_X2_init wnest_357 winst_358 rfl rfl rfl (fun l D cT z0 ks => kX2_init N l D cT z0 ks q121 u122) (by decide) (by decide) (by decide) (by decide) (Nat.le_of_ble_eq_true rfl) rfl dX0_init_40 (fun r123 u124 => ?_)
                                          refine jf_aast25 hX trivial ck_X2 dX0_init_43 (fun u125 => ?_)
                                          refine jf_iinc (v := 1) (lv' := [(1, .int (20 : Int32)), (0, .ref a0)]) hX dX0_init_44 0 rfl (by decide) (by decide) rfl ?_
                                          refine jf_goto (tgt := 25) hX dX0_init_47 (by decide) ?_
                                          refine jf_iload_n hX dX0_init_25 0 rfl ?_
                                          refine jf_bipush (v := 20) hX dX0_init_26 (by decide) ?_
                                          refine jf_icmp_ge (tgt := 50) hX dX0_init_28 (by decide) ?_ ?_
                                          · exact jf_vret hX rfl (by decide) (by decide) dX0_init_50
                                          · exact jf_none
set_option maxRecDepth 20000 in
def fX0_clear (N : Nat)  (a0 : Nat) (u : SG) : Option (Unit × SG) := if zK u a0 = 1 then bs (sI u a0 2 (0 : Int32)) fun u1 => (some ((), u1)) else none
set_option maxRecDepth 20000 in
set_option maxHeartbeats 4000000 in
theorem kX0_clear  (N : Nat)  (l : Launch) (D : va_G) (cT : Nat → ClassId) (z0 : Nat) (ks : Nat × Nat) (a0 : Nat) (u : SG) : Ct l D cT z0 ks yX0_clear cX0_clear 1 none 1 0 0 vU [.ref a0] u (fX0_clear N  a0 u) := by
  unfold fX0_clear
  refine ct_of (by decide +kernel) (Nat.le_of_ble_eq_true rfl) (fun p e R s m args below meth c hX => ?_)
  show JF _ True 1 0 0 _ 0 [(0, .ref a0)] [] u _
  refine jf_aload_n hX dX0_clear_0 0 rfl ?_
  refine jf_iconst (v := 0) hX dX0_clear_1 (by decide) ?_
  refine jf_putI hX trivial ck_X0 2 wfl_354 (by decide) rfl rfl rfl dX0_clear_2 (fun u1 => ?_)
  exact jf_vret hX rfl (by decide) (by decide) dX0_clear_5
set_option maxRecDepth 20000 in
def fX2_copyOf (N : Nat)  (a0 : Nat) (p1 : Nat) (u : SG) : Option (Unit × SG) := if zK u p1 = 3 then (if zK u a0 = 3 then bs (sI u a0 0 (zI u p1 0)) fun u1 => (if zK u1 p1 = 3 then (if zK u1 a0 = 3 then bs (sI u1 a0 1 (zI u1 p1 1)) fun u2 => (if zK u2 p1 = 3 then (if zK u2 a0 = 3 then bs (sI u2 a0 2 (zI u2 p1 2)) fun u3 => (if zK u3 p1 = 3 then (if zK u3 a0 = 3 then bs (sI u3 a0 3 (zI u3 p1 3)) fun u4 => (if zK u4 p1 = 3 then (if zK u4 a0 = 3 then bs (sI u4 a0 4 (zI u4 p1 4)) fun u5 => (if zK u5 p1 = 3 then (Option.bind (zR u5 p1 5) fun q6 => (if zK u5 a0 = 3 then (Option.bind (zR u5 a0 5) fun q7 => (if zK u5 q6 = 22 then if zK u5 q7 = 22 then if (0 : Int32) < 0 ∨ (0 : Int32) < 0 ∨ (5 : Int32) < 0 ∨ zN u5 q6 < (0 : Int32).toNatClampNeg + (5 : Int32).toNatClampNeg ∨ zN u5 q7 < (0 : Int32).toNatClampNeg + (5 : Int32).toNatClampNeg then none else bs (sIr u5 q7 (va_cpy (zI u5 q6) (zI u5 q7) (0 : Int32).toNatClampNeg (0 : Int32).toNatClampNeg (5 : Int32).toNatClampNeg)) fun u8 => (if zK u8 p1 = 3 then (Option.bind (zR u8 p1 6) fun q9 => (if zK u8 a0 = 3 then (Option.bind (zR u8 a0 6) fun q10 => (if zK u8 q9 = 22 then if zK u8 q10 = 22 then if (0 : Int32) < 0 ∨ (0 : Int32) < 0 ∨ (5 : Int32) < 0 ∨ zN u8 q9 < (0 : Int32).toNatClampNeg + (5 : Int32).toNatClampNeg ∨ zN u8 q10 < (0 : Int32).toNatClampNeg + (5 : Int32).toNatClampNeg then none else bs (sIr u8 q10 (va_cpy (zI u8 q9) (zI u8 q10) (0 : Int32).toNatClampNeg (0 : Int32).toNatClampNeg (5 : Int32).toNatClampNeg)) fun u11 => (if zK u11 p1 = 3 then (Option.bind (zR u11 p1 7) fun q12 => (if zK u11 a0 = 3 then (Option.bind (zR u11 a0 7) fun q13 => (if zK u11 q12 = 23 then if zK u11 q13 = 23 then if (0 : Int32) < 0 ∨ (0 : Int32) < 0 ∨ (6 : Int32) < 0 ∨ zN u11 q12 < (0 : Int32).toNatClampNeg + (6 : Int32).toNatClampNeg ∨ zN u11 q13 < (0 : Int32).toNatClampNeg + (6 : Int32).toNatClampNeg then none else bs (sLr u11 q13 (va_cpy (zL u11 q12) (zL u11 q13) (0 : Int32).toNatClampNeg (0 : Int32).toNatClampNeg (6 : Int32).toNatClampNeg)) fun u14 => (some ((), u14)) else none else none)) else none)) else none) else none else none)) else none)) else none) else none else none)) else none)) else none) else none) else none) else none) else none) else none) else none) else none) else none) else none) else none
set_option maxRecDepth 20000 in
set_option maxHeartbeats 4000000 in
theorem kX2_copyOf  (N : Nat)  (l : Launch) (D : va_G) (cT : Nat → ClassId) (z0 : Nat) (ks : Nat × Nat) (a0 : Nat) (p1 : Nat) (u : SG) : Ct l D cT z0 ks yX2_copyOf cX2_copyOf 2 none 1 0 0 vU [.ref a0, .ref p1] u (fX2_copyOf N  a0 p1 u) := by
  unfold fX2_copyOf
  refine ct_of (by decide +kernel) (Nat.le_of_ble_eq_true rfl) (fun p e R s m args below meth c hX => ?_)
  show JF _ True 2 0 0 _ 0 [(0, .ref a0), (1, .ref p1)] [] u _
  refine jf_aload_n hX dX2_copyOf_0 0 rfl ?_
  refine jf_aload_n hX dX2_copyOf_1 1 rfl ?_
  refine jf_getI hX ck_X2 0 wfl_341 (by decide) rfl dX2_copyOf_2 ?_
  refine jf_putI hX trivial ck_X2 0 wfl_341 (by decide) rfl rfl rfl dX2_copyOf_5 (fun u1 => ?_)
  refine jf_aload_n hX dX2_copyOf_8 0 rfl ?_
  refine jf_aload_n hX dX2_copyOf_9 1 rfl ?_
  refine jf_getI hX ck_X2 1 wfl_342 (by decide) rfl dX2_copyOf_10 ?_
  refine jf_putI hX trivial ck_X2 1 wfl_342 (by decide) rfl rfl rfl dX2_copyOf_13 (fun u2 => ?_)
  refine jf_aload_n hX dX2_copyOf_16 0 rfl ?_
  refine jf_aload_n hX dX2_copyOf_17 1 rfl ?_
  refine jf_getI hX ck_X2 2 wfl_343 (by decide) rfl dX2_copyOf_18 ?_
  refine jf_putI hX trivial ck_X2 2 wfl_343 (by decide) rfl rfl rfl dX2_copyOf_21 (fun u3 => ?_)
  refine jf_aload_n hX dX2_copyOf_24 0 rfl ?_
  refine jf_aload_n hX dX2_copyOf_25 1 rfl ?_
  refine jf_getI hX ck_X2 3 wfl_344 (by decide) rfl dX2_copyOf_26 ?_
  refine jf_putI hX trivial ck_X2 3 wfl_344 (by decide) rfl rfl rfl dX2_copyOf_29 (fun u4 => ?_)
  refine jf_aload_n hX dX2_copyOf_32 0 rfl ?_
  refine jf_aload_n hX dX2_copyOf_33 1 rfl ?_
  refine jf_getI hX ck_X2 4 wfl_345 (by decide) rfl dX2_copyOf_34 ?_
  refine jf_putI hX trivial ck_X2 4 wfl_345 (by decide) rfl rfl rfl dX2_copyOf_37 (fun u5 => ?_)
  refine jf_aload_n hX dX2_copyOf_40 1 rfl ?_
  refine jf_getR hX ck_X2 5 wfl_346 (by decide) rfl dX2_copyOf_41 ?_
  refine jf_nn (fun q6 => ?_)
  refine jf_iconst (v := 0) hX dX2_copyOf_44 (by decide) ?_
  refine jf_aload_n hX dX2_copyOf_45 0 rfl ?_
  refine jf_getR hX ck_X2 5 wfl_346 (by decide) rfl dX2_copyOf_46 ?_
  refine jf_nn (fun q7 => ?_)
  refine jf_iconst (v := 0) hX dX2_copyOf_49 (by decide) ?_
  refine jf_iconst (v := 5) hX dX2_copyOf_50 (by decide) ?_
  refine jf_cpyi hX trivial wml_359 wnative_360 wstat_361 wini_362 (by decide) (Nat.le_of_ble_eq_true rfl) dX2_copyOf_51 (fun u8 => ?_)
  refine jf_aload_n hX dX2_copyOf_54 1 rfl ?_
  refine jf_getR hX ck_X2 6 wfl_347 (by decide) rfl dX2_copyOf_55 ?_
  refine jf_nn (fun q9 => ?_)
  refine jf_iconst (v := 0) hX dX2_copyOf_58 (by decide) ?_
  refine jf_aload_n hX dX2_copyOf_59 0 rfl ?_
  refine jf_getR hX ck_X2 6 wfl_347 (by decide) rfl dX2_copyOf_60 ?_
  refine jf_nn (fun q10 => ?_)
  refine jf_iconst (v := 0) hX dX2_copyOf_63 (by decide) ?_
  refine jf_iconst (v := 5) hX dX2_copyOf_64 (by decide) ?_
  refine jf_cpyi hX trivial wml_359 wnative_360 wstat_361 wini_362 (by decide) (Nat.le_of_ble_eq_true rfl) dX2_copyOf_65 (fun u11 => ?_)
  refine jf_aload_n hX dX2_copyOf_68 1 rfl ?_
  refine jf_getR hX ck_X2 7 wfl_348 (by decide) rfl dX2_copyOf_69 ?_
  refine jf_nn (fun q12 => ?_)
  refine jf_iconst (v := 0) hX dX2_copyOf_72 (by decide) ?_
  refine jf_aload_n hX dX2_copyOf_73 0 rfl ?_
  refine jf_getR hX ck_X2 7 wfl_348 (by decide) rfl dX2_copyOf_74 ?_
  refine jf_nn (fun q13 => ?_)
  refine jf_iconst (v := 0) hX dX2_copyOf_77 (by decide) ?_
  refine jf_bipush (v := 6) hX dX2_copyOf_78 (by decide) ?_
  refine jf_cpyl hX trivial wml_359 wnative_360 wstat_361 wini_362 (by decide) (Nat.le_of_ble_eq_true rfl) dX2_copyOf_80 (fun u14 => ?_)
  exact jf_vret hX rfl (by decide) (by decide) dX2_copyOf_83
set_option maxRecDepth 20000 in
def fJ9_min_7cf53 (N : Nat)  (p1 : Int32) (p2 : Int32) (u : SG) : Option (Int32 × SG) := if p2 < p1 then (some (p2, u))
  else (some (p1, u))
set_option maxRecDepth 20000 in
set_option maxHeartbeats 4000000 in
theorem kJ9_min_7cf53  (N : Nat)  (l : Launch) (D : va_G) (cT : Nat → ClassId) (z0 : Nat) (ks : Nat × Nat) (p1 : Int32) (p2 : Int32) (u : SG) : Ct l D cT z0 ks yJ9_min_7cf53 cJ9_min_7cf53 2 (some .int) 1 0 0 vI [.int p1, .int p2] u (fJ9_min_7cf53 N  p1 p2 u) := by
  unfold fJ9_min_7cf53
  refine ct_of (by decide +kernel) (Nat.le_of_ble_eq_true rfl) (fun p e R s m args below meth c hX => ?_)
  show JF _ True 2 0 0 _ 0 [(0, .int p1), (1, .int p2)] [] u _
  refine jf_iload_n hX dJ9_min_7cf53_0 0 rfl ?_
  refine jf_iload_n hX dJ9_min_7cf53_1 1 rfl ?_
  refine jf_icmp_gt (tgt := 9) hX dJ9_min_7cf53_2 (by decide) ?_ ?_
  · refine jf_iload_n hX dJ9_min_7cf53_9 1 rfl ?_
    exact jf_iret hX rfl (by decide) (by decide) dJ9_min_7cf53_10
  · refine jf_iload_n hX dJ9_min_7cf53_5 0 rfl ?_
    refine jf_goto (tgt := 10) hX dJ9_min_7cf53_6 (by decide) ?_
    exact jf_iret hX rfl (by decide) (by decide) dJ9_min_7cf53_10
set_option maxRecDepth 20000 in
def gX0_keep_21 (N : Nat)   (x0 : Nat) (x1 : Nat) (u : SG) : Option (Unit × SG) := if zK u x0 = 1 then (Option.bind (zR u x0 0) fun q1 => (if zK u x0 = 1 then (if zK u q1 = 25 then if (zI u x0 1) < 0 ∨ zN u q1 ≤ (zI u x0 1).toNatClampNeg then none else (Option.bind (zR u q1 (zI u x0 1).toNatClampNeg) fun q2 => (if zK u q2 = 3 then cl (fX2_copyOf N q2 x1 u) fun r3 u4 => (if zK u4 x0 = 1 then (if (20 : Int32) = 0 then none else (if zK u4 x0 = 1 then bs (sI u4 x0 1 (((zI u4 x0 1) + (1 : Int32)) - ((zI u4 x0 1) + (1 : Int32)) / (20 : Int32) * (20 : Int32))) fun u5 => (if zK u5 x0 = 1 then (cl (fJ9_min_7cf53 N (20 : Int32) ((zI u5 x0 2) + (1 : Int32)) u5) fun r6 u7 => (if zK u7 x0 = 1 then bs (sI u7 x0 2 r6) fun u8 => (some ((), u8)) else none)) else none) else none)) else none) else none)) else none) else none)) else none
set_option maxRecDepth 20000 in
set_option maxHeartbeats 4000000 in
theorem jgX0_keep_21   {X : XT} (hX : Cx X yX0_keep cX0_keep 2 none 2 0 0) (N : Nat)  (x0 : Nat) (x1 : Nat) (u : SG) : JF X True 2 0 0 (jQ X vU 0 0) 21 [(0, .ref x0), (1, .ref x1)] [] u (gX0_keep_21 N   x0 x1 u) := by
  unfold gX0_keep_21
  refine jf_aload_n hX dX0_keep_21 0 rfl ?_
  refine jf_getR hX ck_X0 0 wfl_352 (by decide) rfl dX0_keep_22 ?_
  refine jf_nn (fun q1 => ?_)
  refine jf_aload_n hX dX0_keep_25 0 rfl ?_
  refine jf_getI hX ck_X0 1 wfl_353 (by decide) rfl dX0_keep_26 ?_
  refine jf_aald25 hX dX0_keep_29 ?_
  refine jf_aload_n hX dX0_keep_30 1 rfl ?_
  refine jf_nn1 (fun q2 => ?_)
  refine jf_callV (As := [.ref x1]) (st := []) hX mo_X2_copyOf wml_363 winst_364 wsel_365 2 ck_X2 rfl (fun l D cT z0 ks => kX2_copyOf N l D cT z0 ks q2 x1 u) (by decide) (by decide) (by decide) (by decide) (Nat.le_of_ble_eq_true rfl) rfl rfl dX0_keep_31 (fun r3 u4 => ?_)
  refine jf_aload_n hX dX0_keep_34 0 rfl ?_
  refine jf_aload_n hX dX0_keep_35 0 rfl ?_
  refine jf_getI hX ck_X0 1 wfl_353 (by decide) rfl dX0_keep_36 ?_
  refine jf_iconst (v := 1) hX dX0_keep_39 (by decide) ?_
  refine jf_iadd hX dX0_keep_40 ?_
  refine jf_bipush (v := 20) hX dX0_keep_41 (by decide) ?_
  refine jf_irem hX dX0_keep_43 ?_
  refine jf_putI hX trivial ck_X0 1 wfl_353 (by decide) rfl rfl rfl dX0_keep_44 (fun u5 => ?_)
  refine jf_aload_n hX dX0_keep_47 0 rfl ?_
  refine jf_bipush (v := 20) hX dX0_keep_48 (by decide) ?_
  refine jf_aload_n hX dX0_keep_50 0 rfl ?_
  refine jf_getI hX ck_X0 2 wfl_354 (by decide) rfl dX0_keep_51 ?_
  refine jf_iconst (v := 1) hX dX0_keep_54 (by decide) ?_
  refine jf_iadd hX dX0_keep_55 ?_
  refine jf_callS (As := [.int (20 : Int32), .int ((zI u5 x0 2) + (1 : Int32))]) (st := [.ref x0]) hX mo_J9_min_7cf53 wml_366 wstat_367 rfl (fun l D cT z0 ks => kJ9_min_7cf53 N l D cT z0 ks (20 : Int32) ((zI u5 x0 2) + (1 : Int32)) u5) (by decide) (by decide) (by decide) (by decide) (Nat.le_of_ble_eq_true rfl) rfl rfl dX0_keep_56 (fun r6 u7 => ?_)
  refine jf_putI hX trivial ck_X0 2 wfl_354 (by decide) rfl rfl rfl dX0_keep_59 (fun u8 => ?_)
  exact jf_vret hX rfl (by decide) (by decide) dX0_keep_62
set_option maxRecDepth 20000 in
def gX0_keep_16 (N : Nat)   (x0 : Nat) (x1 : Nat) (u : SG) : Option (Unit × SG) := if zK u x0 = 1 then bs (sI u x0 1 (0 : Int32)) fun u1 => (gX0_keep_21 N  x0 x1 u1) else none
set_option maxRecDepth 20000 in
set_option maxHeartbeats 4000000 in
theorem jgX0_keep_16   {X : XT} (hX : Cx X yX0_keep cX0_keep 2 none 2 0 0) (N : Nat)  (x0 : Nat) (x1 : Nat) (u : SG) : JF X True 2 0 0 (jQ X vU 0 0) 16 [(0, .ref x0), (1, .ref x1)] [] u (gX0_keep_16 N   x0 x1 u) := by
  unfold gX0_keep_16
  refine jf_aload_n hX dX0_keep_16 0 rfl ?_
  refine jf_iconst (v := 0) hX dX0_keep_17 (by decide) ?_
  refine jf_putI hX trivial ck_X0 1 wfl_353 (by decide) rfl rfl rfl dX0_keep_18 (fun u1 => ?_)
  refine jf_lv [0, 1] rfl ?_
  exact jgX0_keep_21 hX N  x0 x1 u1
set_option maxRecDepth 20000 in
def fX0_keep (N : Nat)  (a0 : Nat) (p1 : Nat) (u : SG) : Option (Unit × SG) := if zK u a0 = 1 then (if (zI u a0 1) < 0 then (gX0_keep_16 N  a0 p1 u)
  else (if zK u a0 = 1 then (if (zI u a0 1) < (20 : Int32) then (gX0_keep_21 N  a0 p1 u)
  else (gX0_keep_16 N  a0 p1 u)) else none)) else none
set_option maxRecDepth 20000 in
set_option maxHeartbeats 4000000 in
theorem kX0_keep  (N : Nat)  (l : Launch) (D : va_G) (cT : Nat → ClassId) (z0 : Nat) (ks : Nat × Nat) (a0 : Nat) (p1 : Nat) (u : SG) : Ct l D cT z0 ks yX0_keep cX0_keep 2 none 2 0 0 vU [.ref a0, .ref p1] u (fX0_keep N  a0 p1 u) := by
  unfold fX0_keep
  refine ct_of (by decide +kernel) (Nat.le_of_ble_eq_true rfl) (fun p e R s m args below meth c hX => ?_)
  show JF _ True 2 0 0 _ 0 [(0, .ref a0), (1, .ref p1)] [] u _
  refine jf_aload_n hX dX0_keep_0 0 rfl ?_
  refine jf_getI hX ck_X0 1 wfl_353 (by decide) rfl dX0_keep_1 ?_
  refine jf_if_lt (tgt := 16) hX dX0_keep_4 (by decide) ?_ ?_
  · refine jf_lv [0, 1] rfl ?_
    exact jgX0_keep_16 hX N  a0 p1 u
  · refine jf_aload_n hX dX0_keep_7 0 rfl ?_
    refine jf_getI hX ck_X0 1 wfl_353 (by decide) rfl dX0_keep_8 ?_
    refine jf_bipush (v := 20) hX dX0_keep_11 (by decide) ?_
    refine jf_icmp_lt (tgt := 21) hX dX0_keep_13 (by decide) ?_ ?_
    · refine jf_lv [0, 1] rfl ?_
      exact jgX0_keep_21 hX N  a0 p1 u
    · refine jf_lv [0, 1] rfl ?_
      exact jgX0_keep_16 hX N  a0 p1 u
set_option maxRecDepth 20000 in
def fJ9_floorMod_7cf53 (N : Nat)  (p1 : Int32) (p2 : Int32) (u : SG) : Option (Int32 × SG) := if p2 = 0 then none else (bs (p1 - p1 / p2 * p2) fun v1 => (if 0 ≤ (p1 ^^^ p2) then (some (v1, u))
  else (if v1 = 0 then (some (v1, u))
  else (some (v1 + p2, u)))))
set_option maxRecDepth 20000 in
set_option maxHeartbeats 4000000 in
theorem kJ9_floorMod_7cf53  (N : Nat)  (l : Launch) (D : va_G) (cT : Nat → ClassId) (z0 : Nat) (ks : Nat × Nat) (p1 : Int32) (p2 : Int32) (u : SG) : Ct l D cT z0 ks yJ9_floorMod_7cf53 cJ9_floorMod_7cf53 3 (some .int) 1 0 0 vI [.int p1, .int p2] u (fJ9_floorMod_7cf53 N  p1 p2 u) := by
  unfold fJ9_floorMod_7cf53
  refine ct_of (by decide +kernel) (Nat.le_of_ble_eq_true rfl) (fun p e R s m args below meth c hX => ?_)
  show JF _ True 3 0 0 _ 0 [(0, .int p1), (1, .int p2)] [] u _
  refine jf_iload_n hX dJ9_floorMod_7cf53_0 0 rfl ?_
  refine jf_iload_n hX dJ9_floorMod_7cf53_1 1 rfl ?_
  refine jf_irem hX dJ9_floorMod_7cf53_2 ?_
  refine jf_nmI (fun v1 => ?_)
  refine jf_istore_n (lv' := [(2, .int v1), (0, .int p1), (1, .int p2)]) hX dJ9_floorMod_7cf53_3 rfl (by decide) rfl ?_
  refine jf_iload_n hX dJ9_floorMod_7cf53_4 1 rfl ?_
  refine jf_iload_n hX dJ9_floorMod_7cf53_5 2 rfl ?_
  refine jf_ixor hX dJ9_floorMod_7cf53_6 ?_
  refine jf_if_ge (tgt := 18) hX dJ9_floorMod_7cf53_7 (by decide) ?_ ?_
  · refine jf_iload_n hX dJ9_floorMod_7cf53_18 0 rfl ?_
    exact jf_iret hX rfl (by decide) (by decide) dJ9_floorMod_7cf53_19
  · refine jf_iload_n hX dJ9_floorMod_7cf53_10 0 rfl ?_
    refine jf_if_eq (tgt := 18) hX dJ9_floorMod_7cf53_11 (by decide) ?_ ?_
    · refine jf_iload_n hX dJ9_floorMod_7cf53_18 0 rfl ?_
      exact jf_iret hX rfl (by decide) (by decide) dJ9_floorMod_7cf53_19
    · refine jf_iload_n hX dJ9_floorMod_7cf53_14 0 rfl ?_
      refine jf_iload_n hX dJ9_floorMod_7cf53_15 2 rfl ?_
      refine jf_iadd hX dJ9_floorMod_7cf53_16 ?_
      exact jf_iret hX rfl (by decide) (by decide) dJ9_floorMod_7cf53_17
set_option maxRecDepth 20000 in
def fX0_takeBack (N : Nat)  (a0 : Nat) (p1 : Nat) (u : SG) : Option (Int32 × SG) := if zK u a0 = 1 then (if 0 < (zI u a0 2) then (if zK u a0 = 1 then (cl (fJ9_floorMod_7cf53 N ((zI u a0 1) - (1 : Int32)) (20 : Int32) u) fun r1 u2 => (if zK u2 a0 = 1 then bs (sI u2 a0 1 r1) fun u3 => (if zK u3 a0 = 1 then (Option.bind (zR u3 a0 0) fun q4 => (if zK u3 a0 = 1 then (if zK u3 q4 = 25 then if (zI u3 a0 1) < 0 ∨ zN u3 q4 ≤ (zI u3 a0 1).toNatClampNeg then none else (Option.bind (zR u3 q4 (zI u3 a0 1).toNatClampNeg) fun q5 => (if zK u3 p1 = 3 then cl (fX2_copyOf N p1 q5 u3) fun r6 u7 => (if zK u7 a0 = 1 then (if zK u7 a0 = 1 then bs (sI u7 a0 2 ((zI u7 a0 2) - (1 : Int32))) fun u8 => (some ((1 : Int32), u8)) else none) else none) else none)) else none) else none)) else none) else none)) else none)
  else (some ((0 : Int32), u))) else none
set_option maxRecDepth 20000 in
set_option maxHeartbeats 4000000 in
theorem kX0_takeBack  (N : Nat)  (l : Launch) (D : va_G) (cT : Nat → ClassId) (z0 : Nat) (ks : Nat × Nat) (a0 : Nat) (p1 : Nat) (u : SG) : Ct l D cT z0 ks yX0_takeBack cX0_takeBack 2 (some .boolean) 2 0 0 vI [.ref a0, .ref p1] u (fX0_takeBack N  a0 p1 u) := by
  unfold fX0_takeBack
  refine ct_of (by decide +kernel) (Nat.le_of_ble_eq_true rfl) (fun p e R s m args below meth c hX => ?_)
  show JF _ True 2 0 0 _ 0 [(0, .ref a0), (1, .ref p1)] [] u _
  refine jf_aload_n hX dX0_takeBack_0 0 rfl ?_
  refine jf_getI hX ck_X0 2 wfl_354 (by decide) rfl dX0_takeBack_1 ?_
  refine jf_if_gt (tgt := 9) hX dX0_takeBack_4 (by decide) ?_ ?_
  · refine jf_aload_n hX dX0_takeBack_9 0 rfl ?_
    refine jf_aload_n hX dX0_takeBack_10 0 rfl ?_
    refine jf_getI hX ck_X0 1 wfl_353 (by decide) rfl dX0_takeBack_11 ?_
    refine jf_iconst (v := 1) hX dX0_takeBack_14 (by decide) ?_
    refine jf_isub hX dX0_takeBack_15 ?_
    refine jf_bipush (v := 20) hX dX0_takeBack_16 (by decide) ?_
    refine jf_callS (As := [.int ((zI u a0 1) - (1 : Int32)), .int (20 : Int32)]) (st := [.ref a0]) hX mo_J9_floorMod_7cf53 wml_368 wstat_369 rfl (fun l D cT z0 ks => kJ9_floorMod_7cf53 N l D cT z0 ks ((zI u a0 1) - (1 : Int32)) (20 : Int32) u) (by decide) (by decide) (by decide) (by decide) (Nat.le_of_ble_eq_true rfl) rfl rfl dX0_takeBack_18 (fun r1 u2 => ?_)
    refine jf_putI hX trivial ck_X0 1 wfl_353 (by decide) rfl rfl rfl dX0_takeBack_21 (fun u3 => ?_)
    refine jf_aload_n hX dX0_takeBack_24 1 rfl ?_
    refine jf_aload_n hX dX0_takeBack_25 0 rfl ?_
    refine jf_getR hX ck_X0 0 wfl_352 (by decide) rfl dX0_takeBack_26 ?_
    refine jf_nn (fun q4 => ?_)
    refine jf_aload_n hX dX0_takeBack_29 0 rfl ?_
    refine jf_getI hX ck_X0 1 wfl_353 (by decide) rfl dX0_takeBack_30 ?_
    refine jf_aald25 hX dX0_takeBack_33 ?_
    refine jf_nn (fun q5 => ?_)
    refine jf_callV (As := [.ref q5]) (st := []) hX mo_X2_copyOf wml_363 winst_364 wsel_365 2 ck_X2 rfl (fun l D cT z0 ks => kX2_copyOf N l D cT z0 ks p1 q5 u3) (by decide) (by decide) (by decide) (by decide) (Nat.le_of_ble_eq_true rfl) rfl rfl dX0_takeBack_34 (fun r6 u7 => ?_)
    refine jf_aload_n hX dX0_takeBack_37 0 rfl ?_
    refine jf_dup hX dX0_takeBack_38 rfl ?_
    refine jf_getI hX ck_X0 2 wfl_354 (by decide) rfl dX0_takeBack_39 ?_
    refine jf_iconst (v := 1) hX dX0_takeBack_42 (by decide) ?_
    refine jf_isub hX dX0_takeBack_43 ?_
    refine jf_putI hX trivial ck_X0 2 wfl_354 (by decide) rfl rfl rfl dX0_takeBack_44 (fun u8 => ?_)
    refine jf_iconst (v := 1) hX dX0_takeBack_47 (by decide) ?_
    exact jf_zretc hX rfl (by decide) (by decide) (by decide) dX0_takeBack_48
  · refine jf_iconst (v := 0) hX dX0_takeBack_7 (by decide) ?_
    exact jf_zretc hX rfl (by decide) (by decide) (by decide) dX0_takeBack_8
set_option maxRecDepth 20000 in
def fX1_init (N : Nat)  (a0 : Nat) (u : SG) : Option (Unit × SG) := if (10 : Int32) < 0 ∨ 10 < (10 : Int32).toNatClampNeg then none else nw u (sNew u 22 (10 : Int32).toNatClampNeg) fun q1 u2 => (if zK u2 a0 = 2 then bs (sR u2 a0 0 (some q1)) fun u3 => (if (10 : Int32) < 0 ∨ 10 < (10 : Int32).toNatClampNeg then none else nw u3 (sNew u3 22 (10 : Int32).toNatClampNeg) fun q4 u5 => (if zK u5 a0 = 2 then bs (sR u5 a0 1 (some q4)) fun u6 => (if (10 : Int32) < 0 ∨ 10 < (10 : Int32).toNatClampNeg then none else nw u6 (sNew u6 22 (10 : Int32).toNatClampNeg) fun q7 u8 => (if zK u8 a0 = 2 then bs (sR u8 a0 2 (some q7)) fun u9 => (if (10 : Int32) < 0 ∨ 10 < (10 : Int32).toNatClampNeg then none else nw u9 (sNew u9 22 (10 : Int32).toNatClampNeg) fun q10 u11 => (if zK u11 a0 = 2 then bs (sR u11 a0 3 (some q10)) fun u12 => (if zK u12 a0 = 2 then bs (sI u12 a0 4 (0 : Int32)) fun u13 => (some ((), u13)) else none) else none)) else none)) else none)) else none)
set_option maxRecDepth 20000 in
set_option maxHeartbeats 4000000 in
theorem kX1_init  (N : Nat)  (l : Launch) (D : va_G) (cT : Nat → ClassId) (z0 : Nat) (ks : Nat × Nat) (a0 : Nat) (u : SG) : Ct l D cT z0 ks yX1_init cX1_init 1 none 1 4 40 vU [.ref a0] u (fX1_init N  a0 u) := by
  unfold fX1_init
  refine ct_of (by decide +kernel) (Nat.le_of_ble_eq_true rfl) (fun p e R s m args below meth c hX => ?_)
  show JF _ True 1 0 0 _ 0 [(0, .ref a0)] [] u _
  refine jf_aload_n hX dX1_init_0 0 rfl ?_
  refine jf_objInit hX wml_370 winst_17 wcode_18 (by decide) (Nat.le_of_ble_eq_true rfl) dX1_init_1 ?_
  refine jf_aload_n hX dX1_init_4 0 rfl ?_
  refine jf_bipush (v := 10) hX dX1_init_5 (by decide) ?_
  refine jf_newaI hX trivial warrc_21 10 (by decide) (by decide) (by decide) dX1_init_7 (fun q1 u2 => ?_)
  refine jf_putRF (v := some q1) hX trivial ck_X1 0 wfl_371 (by decide) rfl rfl rfl rfl rfl dX1_init_9 (fun u3 => ?_)
  refine jf_aload_n hX dX1_init_12 0 rfl ?_
  refine jf_bipush (v := 10) hX dX1_init_13 (by decide) ?_
  refine jf_newaI hX trivial warrc_21 10 (by decide) (by decide) (by decide) dX1_init_15 (fun q4 u5 => ?_)
  refine jf_putRF (v := some q4) hX trivial ck_X1 1 wfl_372 (by decide) rfl rfl rfl rfl rfl dX1_init_17 (fun u6 => ?_)
  refine jf_aload_n hX dX1_init_20 0 rfl ?_
  refine jf_bipush (v := 10) hX dX1_init_21 (by decide) ?_
  refine jf_newaI hX trivial warrc_21 10 (by decide) (by decide) (by decide) dX1_init_23 (fun q7 u8 => ?_)
  refine jf_putRF (v := some q7) hX trivial ck_X1 2 wfl_373 (by decide) rfl rfl rfl rfl rfl dX1_init_25 (fun u9 => ?_)
  refine jf_aload_n hX dX1_init_28 0 rfl ?_
  refine jf_bipush (v := 10) hX dX1_init_29 (by decide) ?_
  refine jf_newaI hX trivial warrc_21 10 (by decide) (by decide) (by decide) dX1_init_31 (fun q10 u11 => ?_)
  refine jf_putRF (v := some q10) hX trivial ck_X1 3 wfl_374 (by decide) rfl rfl rfl rfl rfl dX1_init_33 (fun u12 => ?_)
  refine jf_aload_n hX dX1_init_36 0 rfl ?_
  refine jf_iconst (v := 0) hX dX1_init_37 (by decide) ?_
  refine jf_putI hX trivial ck_X1 4 wfl_375 (by decide) rfl rfl rfl dX1_init_38 (fun u13 => ?_)
  exact jf_vret hX rfl (by decide) (by decide) dX1_init_41
set_option maxRecDepth 20000 in
def fX1_clear (N : Nat)  (a0 : Nat) (u : SG) : Option (Unit × SG) := if zK u a0 = 2 then bs (sI u a0 4 (0 : Int32)) fun u1 => (some ((), u1)) else none
set_option maxRecDepth 20000 in
set_option maxHeartbeats 4000000 in
theorem kX1_clear  (N : Nat)  (l : Launch) (D : va_G) (cT : Nat → ClassId) (z0 : Nat) (ks : Nat × Nat) (a0 : Nat) (u : SG) : Ct l D cT z0 ks yX1_clear cX1_clear 1 none 1 0 0 vU [.ref a0] u (fX1_clear N  a0 u) := by
  unfold fX1_clear
  refine ct_of (by decide +kernel) (Nat.le_of_ble_eq_true rfl) (fun p e R s m args below meth c hX => ?_)
  show JF _ True 1 0 0 _ 0 [(0, .ref a0)] [] u _
  refine jf_aload_n hX dX1_clear_0 0 rfl ?_
  refine jf_iconst (v := 0) hX dX1_clear_1 (by decide) ?_
  refine jf_putI hX trivial ck_X1 4 wfl_375 (by decide) rfl rfl rfl dX1_clear_2 (fun u1 => ?_)
  exact jf_vret hX rfl (by decide) (by decide) dX1_clear_5
set_option maxRecDepth 20000 in
def fX1_copyOf (N : Nat)  (a0 : Nat) (p1 : Nat) (u : SG) : Option (Unit × SG) := if zK u p1 = 2 then (if zK u a0 = 2 then bs (sI u a0 4 (zI u p1 4)) fun u1 => (if zK u1 p1 = 2 then (Option.bind (zR u1 p1 0) fun q2 => (if zK u1 a0 = 2 then (Option.bind (zR u1 a0 0) fun q3 => (if zK u1 q2 = 22 then if zK u1 q3 = 22 then if (0 : Int32) < 0 ∨ (0 : Int32) < 0 ∨ (10 : Int32) < 0 ∨ zN u1 q2 < (0 : Int32).toNatClampNeg + (10 : Int32).toNatClampNeg ∨ zN u1 q3 < (0 : Int32).toNatClampNeg + (10 : Int32).toNatClampNeg then none else bs (sIr u1 q3 (va_cpy (zI u1 q2) (zI u1 q3) (0 : Int32).toNatClampNeg (0 : Int32).toNatClampNeg (10 : Int32).toNatClampNeg)) fun u4 => (if zK u4 p1 = 2 then (Option.bind (zR u4 p1 1) fun q5 => (if zK u4 a0 = 2 then (Option.bind (zR u4 a0 1) fun q6 => (if zK u4 q5 = 22 then if zK u4 q6 = 22 then if (0 : Int32) < 0 ∨ (0 : Int32) < 0 ∨ (10 : Int32) < 0 ∨ zN u4 q5 < (0 : Int32).toNatClampNeg + (10 : Int32).toNatClampNeg ∨ zN u4 q6 < (0 : Int32).toNatClampNeg + (10 : Int32).toNatClampNeg then none else bs (sIr u4 q6 (va_cpy (zI u4 q5) (zI u4 q6) (0 : Int32).toNatClampNeg (0 : Int32).toNatClampNeg (10 : Int32).toNatClampNeg)) fun u7 => (if zK u7 p1 = 2 then (Option.bind (zR u7 p1 2) fun q8 => (if zK u7 a0 = 2 then (Option.bind (zR u7 a0 2) fun q9 => (if zK u7 q8 = 22 then if zK u7 q9 = 22 then if (0 : Int32) < 0 ∨ (0 : Int32) < 0 ∨ (10 : Int32) < 0 ∨ zN u7 q8 < (0 : Int32).toNatClampNeg + (10 : Int32).toNatClampNeg ∨ zN u7 q9 < (0 : Int32).toNatClampNeg + (10 : Int32).toNatClampNeg then none else bs (sIr u7 q9 (va_cpy (zI u7 q8) (zI u7 q9) (0 : Int32).toNatClampNeg (0 : Int32).toNatClampNeg (10 : Int32).toNatClampNeg)) fun u10 => (if zK u10 p1 = 2 then (Option.bind (zR u10 p1 3) fun q11 => (if zK u10 a0 = 2 then (Option.bind (zR u10 a0 3) fun q12 => (if zK u10 q11 = 22 then if zK u10 q12 = 22 then if (0 : Int32) < 0 ∨ (0 : Int32) < 0 ∨ (10 : Int32) < 0 ∨ zN u10 q11 < (0 : Int32).toNatClampNeg + (10 : Int32).toNatClampNeg ∨ zN u10 q12 < (0 : Int32).toNatClampNeg + (10 : Int32).toNatClampNeg then none else bs (sIr u10 q12 (va_cpy (zI u10 q11) (zI u10 q12) (0 : Int32).toNatClampNeg (0 : Int32).toNatClampNeg (10 : Int32).toNatClampNeg)) fun u13 => (some ((), u13)) else none else none)) else none)) else none) else none else none)) else none)) else none) else none else none)) else none)) else none) else none else none)) else none)) else none) else none) else none
set_option maxRecDepth 20000 in
set_option maxHeartbeats 4000000 in
theorem kX1_copyOf  (N : Nat)  (l : Launch) (D : va_G) (cT : Nat → ClassId) (z0 : Nat) (ks : Nat × Nat) (a0 : Nat) (p1 : Nat) (u : SG) : Ct l D cT z0 ks yX1_copyOf cX1_copyOf 2 none 1 0 0 vU [.ref a0, .ref p1] u (fX1_copyOf N  a0 p1 u) := by
  unfold fX1_copyOf
  refine ct_of (by decide +kernel) (Nat.le_of_ble_eq_true rfl) (fun p e R s m args below meth c hX => ?_)
  show JF _ True 2 0 0 _ 0 [(0, .ref a0), (1, .ref p1)] [] u _
  refine jf_aload_n hX dX1_copyOf_0 0 rfl ?_
  refine jf_aload_n hX dX1_copyOf_1 1 rfl ?_
  refine jf_getI hX ck_X1 4 wfl_375 (by decide) rfl dX1_copyOf_2 ?_
  refine jf_putI hX trivial ck_X1 4 wfl_375 (by decide) rfl rfl rfl dX1_copyOf_5 (fun u1 => ?_)
  refine jf_aload_n hX dX1_copyOf_8 1 rfl ?_
  refine jf_getR hX ck_X1 0 wfl_371 (by decide) rfl dX1_copyOf_9 ?_
  refine jf_nn (fun q2 => ?_)
  refine jf_iconst (v := 0) hX dX1_copyOf_12 (by decide) ?_
  refine jf_aload_n hX dX1_copyOf_13 0 rfl ?_
  refine jf_getR hX ck_X1 0 wfl_371 (by decide) rfl dX1_copyOf_14 ?_
  refine jf_nn (fun q3 => ?_)
  refine jf_iconst (v := 0) hX dX1_copyOf_17 (by decide) ?_
  refine jf_bipush (v := 10) hX dX1_copyOf_18 (by decide) ?_
  refine jf_cpyi hX trivial wml_376 wnative_360 wstat_361 wini_362 (by decide) (Nat.le_of_ble_eq_true rfl) dX1_copyOf_20 (fun u4 => ?_)
  refine jf_aload_n hX dX1_copyOf_23 1 rfl ?_
  refine jf_getR hX ck_X1 1 wfl_372 (by decide) rfl dX1_copyOf_24 ?_
  refine jf_nn (fun q5 => ?_)
  refine jf_iconst (v := 0) hX dX1_copyOf_27 (by decide) ?_
  refine jf_aload_n hX dX1_copyOf_28 0 rfl ?_
  refine jf_getR hX ck_X1 1 wfl_372 (by decide) rfl dX1_copyOf_29 ?_
  refine jf_nn (fun q6 => ?_)
  refine jf_iconst (v := 0) hX dX1_copyOf_32 (by decide) ?_
  refine jf_bipush (v := 10) hX dX1_copyOf_33 (by decide) ?_
  refine jf_cpyi hX trivial wml_376 wnative_360 wstat_361 wini_362 (by decide) (Nat.le_of_ble_eq_true rfl) dX1_copyOf_35 (fun u7 => ?_)
  refine jf_aload_n hX dX1_copyOf_38 1 rfl ?_
  refine jf_getR hX ck_X1 2 wfl_373 (by decide) rfl dX1_copyOf_39 ?_
  refine jf_nn (fun q8 => ?_)
  refine jf_iconst (v := 0) hX dX1_copyOf_42 (by decide) ?_
  refine jf_aload_n hX dX1_copyOf_43 0 rfl ?_
  refine jf_getR hX ck_X1 2 wfl_373 (by decide) rfl dX1_copyOf_44 ?_
  refine jf_nn (fun q9 => ?_)
  refine jf_iconst (v := 0) hX dX1_copyOf_47 (by decide) ?_
  refine jf_bipush (v := 10) hX dX1_copyOf_48 (by decide) ?_
  refine jf_cpyi hX trivial wml_376 wnative_360 wstat_361 wini_362 (by decide) (Nat.le_of_ble_eq_true rfl) dX1_copyOf_50 (fun u10 => ?_)
  refine jf_aload_n hX dX1_copyOf_53 1 rfl ?_
  refine jf_getR hX ck_X1 3 wfl_374 (by decide) rfl dX1_copyOf_54 ?_
  refine jf_nn (fun q11 => ?_)
  refine jf_iconst (v := 0) hX dX1_copyOf_57 (by decide) ?_
  refine jf_aload_n hX dX1_copyOf_58 0 rfl ?_
  refine jf_getR hX ck_X1 3 wfl_374 (by decide) rfl dX1_copyOf_59 ?_
  refine jf_nn (fun q12 => ?_)
  refine jf_iconst (v := 0) hX dX1_copyOf_62 (by decide) ?_
  refine jf_bipush (v := 10) hX dX1_copyOf_63 (by decide) ?_
  refine jf_cpyi hX trivial wml_376 wnative_360 wstat_361 wini_362 (by decide) (Nat.le_of_ble_eq_true rfl) dX1_copyOf_65 (fun u13 => ?_)
  exact jf_vret hX rfl (by decide) (by decide) dX1_copyOf_68
set_option maxRecDepth 20000 in
def fX1_add (N : Nat)  (a0 : Nat) (p1 : Int32) (p2 : Int32) (p3 : Int32) (p4 : Int32) (u : SG) : Option (Int32 × SG) := if zK u a0 = 2 then (if (zI u a0 4) < 0 then (some ((0 : Int32), u))
  else (if zK u a0 = 2 then (if (zI u a0 4) < (10 : Int32) then (if zK u a0 = 2 then (Option.bind (zR u a0 0) fun q1 => (if zK u a0 = 2 then (if zK u q1 = 22 then if (zI u a0 4) < 0 ∨ zN u q1 ≤ (zI u a0 4).toNatClampNeg then none else bs (sI u q1 (zI u a0 4).toNatClampNeg p1) fun u2 => (if zK u2 a0 = 2 then (Option.bind (zR u2 a0 1) fun q3 => (if zK u2 a0 = 2 then (if zK u2 q3 = 22 then if (zI u2 a0 4) < 0 ∨ zN u2 q3 ≤ (zI u2 a0 4).toNatClampNeg then none else bs (sI u2 q3 (zI u2 a0 4).toNatClampNeg p2) fun u4 => (if zK u4 a0 = 2 then (Option.bind (zR u4 a0 2) fun q5 => (if zK u4 a0 = 2 then (if zK u4 q5 = 22 then if (zI u4 a0 4) < 0 ∨ zN u4 q5 ≤ (zI u4 a0 4).toNatClampNeg then none else bs (sI u4 q5 (zI u4 a0 4).toNatClampNeg p3) fun u6 => (if zK u6 a0 = 2 then (Option.bind (zR u6 a0 3) fun q7 => (if zK u6 a0 = 2 then (if zK u6 q7 = 22 then if (zI u6 a0 4) < 0 ∨ zN u6 q7 ≤ (zI u6 a0 4).toNatClampNeg then none else bs (sI u6 q7 (zI u6 a0 4).toNatClampNeg p4) fun u8 => (if zK u8 a0 = 2 then (if zK u8 a0 = 2 then bs (sI u8 a0 4 ((zI u8 a0 4) + (1 : Int32))) fun u9 => (some ((1 : Int32), u9)) else none) else none) else none) else none)) else none) else none) else none)) else none) else none) else none)) else none) else none) else none)) else none)
  else (some ((0 : Int32), u))) else none)) else none
set_option maxRecDepth 20000 in
set_option maxHeartbeats 4000000 in
theorem kX1_add  (N : Nat)  (l : Launch) (D : va_G) (cT : Nat → ClassId) (z0 : Nat) (ks : Nat × Nat) (a0 : Nat) (p1 : Int32) (p2 : Int32) (p3 : Int32) (p4 : Int32) (u : SG) : Ct l D cT z0 ks yX1_add cX1_add 5 (some .boolean) 1 0 0 vI [.ref a0, .int p1, .int p2, .int p3, .int p4] u (fX1_add N  a0 p1 p2 p3 p4 u) := by
  unfold fX1_add
  refine ct_of (by decide +kernel) (Nat.le_of_ble_eq_true rfl) (fun p e R s m args below meth c hX => ?_)
  show JF _ True 5 0 0 _ 0 [(0, .ref a0), (1, .int p1), (2, .int p2), (3, .int p3), (4, .int p4)] [] u _
  refine jf_aload_n hX dX1_add_0 0 rfl ?_
  refine jf_getI hX ck_X1 4 wfl_375 (by decide) rfl dX1_add_1 ?_
  refine jf_if_lt (tgt := 16) hX dX1_add_4 (by decide) ?_ ?_
  · refine jf_iconst (v := 0) hX dX1_add_16 (by decide) ?_
    exact jf_zretc hX rfl (by decide) (by decide) (by decide) dX1_add_17
  · refine jf_aload_n hX dX1_add_7 0 rfl ?_
    refine jf_getI hX ck_X1 4 wfl_375 (by decide) rfl dX1_add_8 ?_
    refine jf_bipush (v := 10) hX dX1_add_11 (by decide) ?_
    refine jf_icmp_lt (tgt := 18) hX dX1_add_13 (by decide) ?_ ?_
    · refine jf_aload_n hX dX1_add_18 0 rfl ?_
      refine jf_getR hX ck_X1 0 wfl_371 (by decide) rfl dX1_add_19 ?_
      refine jf_nn (fun q1 => ?_)
      refine jf_aload_n hX dX1_add_22 0 rfl ?_
      refine jf_getI hX ck_X1 4 wfl_375 (by decide) rfl dX1_add_23 ?_
      refine jf_iload_n hX dX1_add_26 1 rfl ?_
      refine jf_iast hX trivial dX1_add_27 (fun u2 => ?_)
      refine jf_aload_n hX dX1_add_28 0 rfl ?_
      refine jf_getR hX ck_X1 1 wfl_372 (by decide) rfl dX1_add_29 ?_
      refine jf_nn (fun q3 => ?_)
      refine jf_aload_n hX dX1_add_32 0 rfl ?_
      refine jf_getI hX ck_X1 4 wfl_375 (by decide) rfl dX1_add_33 ?_
      refine jf_iload_n hX dX1_add_36 2 rfl ?_
      refine jf_iast hX trivial dX1_add_37 (fun u4 => ?_)
      refine jf_aload_n hX dX1_add_38 0 rfl ?_
      refine jf_getR hX ck_X1 2 wfl_373 (by decide) rfl dX1_add_39 ?_
      refine jf_nn (fun q5 => ?_)
      refine jf_aload_n hX dX1_add_42 0 rfl ?_
      refine jf_getI hX ck_X1 4 wfl_375 (by decide) rfl dX1_add_43 ?_
      refine jf_iload_n hX dX1_add_46 3 rfl ?_
      refine jf_iast hX trivial dX1_add_47 (fun u6 => ?_)
      refine jf_aload_n hX dX1_add_48 0 rfl ?_
      refine jf_getR hX ck_X1 3 wfl_374 (by decide) rfl dX1_add_49 ?_
      refine jf_nn (fun q7 => ?_)
      refine jf_aload_n hX dX1_add_52 0 rfl ?_
      refine jf_getI hX ck_X1 4 wfl_375 (by decide) rfl dX1_add_53 ?_
      refine jf_iload hX dX1_add_56 4 rfl ?_
      refine jf_iast hX trivial dX1_add_58 (fun u8 => ?_)
      refine jf_aload_n hX dX1_add_59 0 rfl ?_
      refine jf_dup hX dX1_add_60 rfl ?_
      refine jf_getI hX ck_X1 4 wfl_375 (by decide) rfl dX1_add_61 ?_
      refine jf_iconst (v := 1) hX dX1_add_64 (by decide) ?_
      refine jf_iadd hX dX1_add_65 ?_
      refine jf_putI hX trivial ck_X1 4 wfl_375 (by decide) rfl rfl rfl dX1_add_66 (fun u9 => ?_)
      refine jf_iconst (v := 1) hX dX1_add_69 (by decide) ?_
      exact jf_zretc hX rfl (by decide) (by decide) (by decide) dX1_add_70
    · refine jf_iconst (v := 0) hX dX1_add_16 (by decide) ?_
      exact jf_zretc hX rfl (by decide) (by decide) (by decide) dX1_add_17
set_option maxRecDepth 20000 in
def fJ6_bitCount_0f7a4 (N : Nat)  (p1 : Int32) (u : SG) : Option (Int32 × SG) := bs (p1 - (((p1.toUInt32 >>> ((1 : Int32).toUInt32 &&& Int32.toUInt32 31)).toInt32) &&& (1431655765 : Int32))) fun v1 => (bs ((v1 &&& (858993459 : Int32)) + (((v1.toUInt32 >>> ((2 : Int32).toUInt32 &&& Int32.toUInt32 31)).toInt32) &&& (858993459 : Int32))) fun v2 => (bs ((v2 + ((v2.toUInt32 >>> ((4 : Int32).toUInt32 &&& Int32.toUInt32 31)).toInt32)) &&& (252645135 : Int32)) fun v3 => (bs (v3 + ((v3.toUInt32 >>> ((8 : Int32).toUInt32 &&& Int32.toUInt32 31)).toInt32)) fun v4 => (bs (v4 + ((v4.toUInt32 >>> ((16 : Int32).toUInt32 &&& Int32.toUInt32 31)).toInt32)) fun v5 => (some (v5 &&& (63 : Int32), u))))))
set_option maxRecDepth 20000 in
set_option maxHeartbeats 4000000 in
theorem kJ6_bitCount_0f7a4  (N : Nat)  (l : Launch) (D : va_G) (cT : Nat → ClassId) (z0 : Nat) (ks : Nat × Nat) (p1 : Int32) (u : SG) : Ct l D cT z0 ks yJ6_bitCount_0f7a4 cJ6_bitCount_0f7a4 1 (some .int) 1 0 0 vI [.int p1] u (fJ6_bitCount_0f7a4 N  p1 u) := by
  unfold fJ6_bitCount_0f7a4
  refine ct_of (by decide +kernel) (Nat.le_of_ble_eq_true rfl) (fun p e R s m args below meth c hX => ?_)
  show JF _ True 1 0 0 _ 0 [(0, .int p1)] [] u _
  refine jf_iload_n hX dJ6_bitCount_0f7a4_0 0 rfl ?_
  refine jf_iload_n hX dJ6_bitCount_0f7a4_1 0 rfl ?_
  refine jf_iconst (v := 1) hX dJ6_bitCount_0f7a4_2 (by decide) ?_
  refine jf_iushr hX dJ6_bitCount_0f7a4_3 ?_
  refine jf_ldcw (v := 1431655765) hX dJ6_bitCount_0f7a4_4 wcon_377 ?_
  refine jf_iand hX dJ6_bitCount_0f7a4_7 ?_
  refine jf_isub hX dJ6_bitCount_0f7a4_8 ?_
  refine jf_nmI (fun v1 => ?_)
  refine jf_istore_n (lv' := [(0, .int v1)]) hX dJ6_bitCount_0f7a4_9 rfl (by decide) rfl ?_
  refine jf_iload_n hX dJ6_bitCount_0f7a4_10 0 rfl ?_
  refine jf_ldcw (v := 858993459) hX dJ6_bitCount_0f7a4_11 wcon_378 ?_
  refine jf_iand hX dJ6_bitCount_0f7a4_14 ?_
  refine jf_iload_n hX dJ6_bitCount_0f7a4_15 0 rfl ?_
  refine jf_iconst (v := 2) hX dJ6_bitCount_0f7a4_16 (by decide) ?_
  refine jf_iushr hX dJ6_bitCount_0f7a4_17 ?_
  refine jf_ldcw (v := 858993459) hX dJ6_bitCount_0f7a4_18 wcon_378 ?_
  refine jf_iand hX dJ6_bitCount_0f7a4_21 ?_
  refine jf_iadd hX dJ6_bitCount_0f7a4_22 ?_
  refine jf_nmI (fun v2 => ?_)
  refine jf_istore_n (lv' := [(0, .int v2)]) hX dJ6_bitCount_0f7a4_23 rfl (by decide) rfl ?_
  refine jf_iload_n hX dJ6_bitCount_0f7a4_24 0 rfl ?_
  refine jf_iload_n hX dJ6_bitCount_0f7a4_25 0 rfl ?_
  refine jf_iconst (v := 4) hX dJ6_bitCount_0f7a4_26 (by decide) ?_
  refine jf_iushr hX dJ6_bitCount_0f7a4_27 ?_
  refine jf_iadd hX dJ6_bitCount_0f7a4_28 ?_
  refine jf_ldcw (v := 252645135) hX dJ6_bitCount_0f7a4_29 wcon_379 ?_
  refine jf_iand hX dJ6_bitCount_0f7a4_32 ?_
  refine jf_nmI (fun v3 => ?_)
  refine jf_istore_n (lv' := [(0, .int v3)]) hX dJ6_bitCount_0f7a4_33 rfl (by decide) rfl ?_
  refine jf_iload_n hX dJ6_bitCount_0f7a4_34 0 rfl ?_
  refine jf_iload_n hX dJ6_bitCount_0f7a4_35 0 rfl ?_
  refine jf_bipush (v := 8) hX dJ6_bitCount_0f7a4_36 (by decide) ?_
  refine jf_iushr hX dJ6_bitCount_0f7a4_38 ?_
  refine jf_iadd hX dJ6_bitCount_0f7a4_39 ?_
  refine jf_nmI (fun v4 => ?_)
  refine jf_istore_n (lv' := [(0, .int v4)]) hX dJ6_bitCount_0f7a4_40 rfl (by decide) rfl ?_
  refine jf_iload_n hX dJ6_bitCount_0f7a4_41 0 rfl ?_
  refine jf_iload_n hX dJ6_bitCount_0f7a4_42 0 rfl ?_
  refine jf_bipush (v := 16) hX dJ6_bitCount_0f7a4_43 (by decide) ?_
  refine jf_iushr hX dJ6_bitCount_0f7a4_45 ?_
  refine jf_iadd hX dJ6_bitCount_0f7a4_46 ?_
  refine jf_nmI (fun v5 => ?_)
  refine jf_istore_n (lv' := [(0, .int v5)]) hX dJ6_bitCount_0f7a4_47 rfl (by decide) rfl ?_
  refine jf_iload_n hX dJ6_bitCount_0f7a4_48 0 rfl ?_
  refine jf_bipush (v := 63) hX dJ6_bitCount_0f7a4_49 (by decide) ?_
  refine jf_iand hX dJ6_bitCount_0f7a4_51 ?_
  exact jf_iret hX rfl (by decide) (by decide) dJ6_bitCount_0f7a4_52
set_option maxRecDepth 20000 in
def fX10_bitOf (N : Nat)  (p1 : Int32) (p2 : Int32) (u : SG) : Option (Int32 × SG) := some ((p1 >>> (p2 &&& 31)) &&& (1 : Int32), u)
set_option maxRecDepth 20000 in
set_option maxHeartbeats 4000000 in
theorem kX10_bitOf  (N : Nat)  (l : Launch) (D : va_G) (cT : Nat → ClassId) (z0 : Nat) (ks : Nat × Nat) (p1 : Int32) (p2 : Int32) (u : SG) : Ct l D cT z0 ks yX10_bitOf cX10_bitOf 2 (some .int) 1 0 0 vI [.int p1, .int p2] u (fX10_bitOf N  p1 p2 u) := by
  unfold fX10_bitOf
  refine ct_of (by decide +kernel) (Nat.le_of_ble_eq_true rfl) (fun p e R s m args below meth c hX => ?_)
  show JF _ True 2 0 0 _ 0 [(0, .int p1), (1, .int p2)] [] u _
  refine jf_iload_n hX dX10_bitOf_0 0 rfl ?_
  refine jf_iload_n hX dX10_bitOf_1 1 rfl ?_
  refine jf_ishr hX dX10_bitOf_2 ?_
  refine jf_iconst (v := 1) hX dX10_bitOf_3 (by decide) ?_
  refine jf_iand hX dX10_bitOf_4 ?_
  exact jf_iret hX rfl (by decide) (by decide) dX10_bitOf_5
set_option maxRecDepth 20000 in
def gX1_allows_24 (N : Nat)   (x0 : Nat) (x1 : Int32) (x3 : Int32) (s0 : Int32) (u : SG) : Option (Int32 × SG) := if zK u x0 = 2 then (Option.bind (zR u x0 0) fun q1 => (if zK u q1 = 22 then if x1 < 0 ∨ zN u q1 ≤ x1.toNatClampNeg then none else (bs (zI u q1 x1.toNatClampNeg) fun v2 => (if v2 = (0 : Int32) then (if s0 = 0 ∨ s0 = 1 then some (s0, u) else none)
  else if v2 = (1 : Int32) then (if s0 = 0 then (some ((1 : Int32), u))
  else (some ((0 : Int32), u)))
  else if v2 = (2 : Int32) then (if zK u x0 = 2 then (Option.bind (zR u x0 1) fun q3 => (if zK u q3 = 22 then if x1 < 0 ∨ zN u q3 ≤ x1.toNatClampNeg then none else (if x3 < (zI u q3 x1.toNatClampNeg) then (some ((0 : Int32), u))
  else (some ((1 : Int32), u))) else none)) else none)
  else if v2 = (3 : Int32) then (if zK u x0 = 2 then (Option.bind (zR u x0 1) fun q4 => (if zK u q4 = 22 then if x1 < 0 ∨ zN u q4 ≤ x1.toNatClampNeg then none else (if (zI u q4 x1.toNatClampNeg) < x3 then (some ((0 : Int32), u))
  else (some ((1 : Int32), u))) else none)) else none)
  else if v2 = (4 : Int32) then (if s0 = 0 then (some ((0 : Int32), u))
  else (if zK u x0 = 2 then (Option.bind (zR u x0 3) fun q5 => (if zK u q5 = 22 then if x1 < 0 ∨ zN u q5 ≤ x1.toNatClampNeg then none else (if zK u x0 = 2 then (Option.bind (zR u x0 2) fun q6 => (if zK u q6 = 22 then if x1 < 0 ∨ zN u q6 ≤ x1.toNatClampNeg then none else (if ((zI u q6 x1.toNatClampNeg) * x3) < (zI u q5 x1.toNatClampNeg) then (some ((0 : Int32), u))
  else (some ((1 : Int32), u))) else none)) else none) else none)) else none))
  else (if s0 = 0 then (some ((0 : Int32), u))
  else (if zK u x0 = 2 then (Option.bind (zR u x0 3) fun q7 => (if zK u q7 = 22 then if x1 < 0 ∨ zN u q7 ≤ x1.toNatClampNeg then none else (if zK u x0 = 2 then (Option.bind (zR u x0 2) fun q8 => (if zK u q8 = 22 then if x1 < 0 ∨ zN u q8 ≤ x1.toNatClampNeg then none else (if (zI u q7 x1.toNatClampNeg) ≤ ((zI u q8 x1.toNatClampNeg) * x3) then (some ((0 : Int32), u))
  else (some ((1 : Int32), u))) else none)) else none) else none)) else none)))) else none)) else none
set_option maxRecDepth 20000 in
set_option maxHeartbeats 4000000 in
theorem jgX1_allows_24   {X : XT} (hX : Cx X yX1_allows cX1_allows 5 (some .boolean) 2 0 0) (N : Nat)  (x0 : Nat) (x1 : Int32) (x3 : Int32) (s0 : Int32) (u : SG) : JF X True 5 0 0 (jQ X vI 0 0) 24 [(0, .ref x0), (1, .int x1), (3, .int x3)] [.int s0] u (gX1_allows_24 N   x0 x1 x3 s0 u) := by
  unfold gX1_allows_24
  refine jf_istore (lv' := [(4, .int s0), (0, .ref x0), (1, .int x1), (3, .int x3)]) hX dX1_allows_24 (by decide) rfl ?_
  refine jf_aload_n hX dX1_allows_26 1 rfl ?_
  refine jf_getR hX ck_X1 0 wfl_371 (by decide) rfl dX1_allows_27 ?_
  refine jf_nn (fun q1 => ?_)
  refine jf_iload_n hX dX1_allows_30 2 rfl ?_
  refine jf_iald hX dX1_allows_31 ?_
  refine jf_nmI (fun v2 => ?_)
  refine jf_tcase (k := 0) (kv := 0) (tgt := 68) hX dX1_allows_32 rfl (by decide) (by decide) rfl (by decide) ?_ (fun hn0 => ?_)
  · refine jf_iload hX dX1_allows_68 0 rfl ?_
    exact jf_zret hX rfl (by decide) (by decide) dX1_allows_70
  refine jf_tcase (k := 1) (kv := 1) (tgt := 71) hX dX1_allows_32 rfl (by decide) (by decide) rfl (by decide) ?_ (fun hn1 => ?_)
  · refine jf_iload hX dX1_allows_71 0 rfl ?_
    refine jf_if_ne (tgt := 80) hX dX1_allows_73 (by decide) ?_ ?_
    · refine jf_iconst (v := 0) hX dX1_allows_80 (by decide) ?_
      exact jf_zretc hX rfl (by decide) (by decide) (by decide) dX1_allows_81
    · refine jf_iconst (v := 1) hX dX1_allows_76 (by decide) ?_
      refine jf_goto (tgt := 81) hX dX1_allows_77 (by decide) ?_
      exact jf_zretc hX rfl (by decide) (by decide) (by decide) dX1_allows_81
  refine jf_tcase (k := 2) (kv := 2) (tgt := 82) hX dX1_allows_32 rfl (by decide) (by decide) rfl (by decide) ?_ (fun hn2 => ?_)
  · refine jf_iload_n hX dX1_allows_82 3 rfl ?_
    refine jf_aload_n hX dX1_allows_83 1 rfl ?_
    refine jf_getR hX ck_X1 1 wfl_372 (by decide) rfl dX1_allows_84 ?_
    refine jf_nn (fun q3 => ?_)
    refine jf_iload_n hX dX1_allows_87 2 rfl ?_
    refine jf_iald hX dX1_allows_88 ?_
    refine jf_icmp_lt (tgt := 96) hX dX1_allows_89 (by decide) ?_ ?_
    · refine jf_iconst (v := 0) hX dX1_allows_96 (by decide) ?_
      exact jf_zretc hX rfl (by decide) (by decide) (by decide) dX1_allows_97
    · refine jf_iconst (v := 1) hX dX1_allows_92 (by decide) ?_
      refine jf_goto (tgt := 97) hX dX1_allows_93 (by decide) ?_
      exact jf_zretc hX rfl (by decide) (by decide) (by decide) dX1_allows_97
  refine jf_tcase (k := 3) (kv := 3) (tgt := 98) hX dX1_allows_32 rfl (by decide) (by decide) rfl (by decide) ?_ (fun hn3 => ?_)
  · refine jf_iload_n hX dX1_allows_98 3 rfl ?_
    refine jf_aload_n hX dX1_allows_99 1 rfl ?_
    refine jf_getR hX ck_X1 1 wfl_372 (by decide) rfl dX1_allows_100 ?_
    refine jf_nn (fun q4 => ?_)
    refine jf_iload_n hX dX1_allows_103 2 rfl ?_
    refine jf_iald hX dX1_allows_104 ?_
    refine jf_icmp_gt (tgt := 112) hX dX1_allows_105 (by decide) ?_ ?_
    · refine jf_iconst (v := 0) hX dX1_allows_112 (by decide) ?_
      exact jf_zretc hX rfl (by decide) (by decide) (by decide) dX1_allows_113
    · refine jf_iconst (v := 1) hX dX1_allows_108 (by decide) ?_
      refine jf_goto (tgt := 113) hX dX1_allows_109 (by decide) ?_
      exact jf_zretc hX rfl (by decide) (by decide) (by decide) dX1_allows_113
  refine jf_tcase (k := 4) (kv := 4) (tgt := 114) hX dX1_allows_32 rfl (by decide) (by decide) rfl (by decide) ?_ (fun hn4 => ?_)
  · refine jf_iload hX dX1_allows_114 0 rfl ?_
    refine jf_if_eq (tgt := 140) hX dX1_allows_116 (by decide) ?_ ?_
    · refine jf_iconst (v := 0) hX dX1_allows_140 (by decide) ?_
      exact jf_zretc hX rfl (by decide) (by decide) (by decide) dX1_allows_141
    · refine jf_aload_n hX dX1_allows_119 1 rfl ?_
      refine jf_getR hX ck_X1 3 wfl_374 (by decide) rfl dX1_allows_120 ?_
      refine jf_nn (fun q5 => ?_)
      refine jf_iload_n hX dX1_allows_123 2 rfl ?_
      refine jf_iald hX dX1_allows_124 ?_
      refine jf_aload_n hX dX1_allows_125 1 rfl ?_
      refine jf_getR hX ck_X1 2 wfl_373 (by decide) rfl dX1_allows_126 ?_
      refine jf_nn (fun q6 => ?_)
      refine jf_iload_n hX dX1_allows_129 2 rfl ?_
      refine jf_iald hX dX1_allows_130 ?_
      refine jf_iload_n hX dX1_allows_131 3 rfl ?_
      refine jf_imul hX dX1_allows_132 ?_
      refine jf_icmp_gt (tgt := 140) hX dX1_allows_133 (by decide) ?_ ?_
      · refine jf_iconst (v := 0) hX dX1_allows_140 (by decide) ?_
        exact jf_zretc hX rfl (by decide) (by decide) (by decide) dX1_allows_141
      · refine jf_iconst (v := 1) hX dX1_allows_136 (by decide) ?_
        refine jf_goto (tgt := 141) hX dX1_allows_137 (by decide) ?_
        exact jf_zretc hX rfl (by decide) (by decide) (by decide) dX1_allows_141
  refine jf_tdef (tgt := 142) hX dX1_allows_32 (by rcases Int.lt_or_le v2.toInt (0) with h9 | h9; exact Or.inl h9; exact Or.inr (istep (istep (istep (istep (istep h9 (lv_neT (a := 0) hn0 rfl)) (lv_neT (a := 1) hn1 rfl)) (lv_neT (a := 2) hn2 rfl)) (lv_neT (a := 3) hn3 rfl)) (lv_neT (a := 4) hn4 rfl))) (by decide) ?_
  refine jf_iload hX dX1_allows_142 0 rfl ?_
  refine jf_if_eq (tgt := 168) hX dX1_allows_144 (by decide) ?_ ?_
  · refine jf_iconst (v := 0) hX dX1_allows_168 (by decide) ?_
    exact jf_zretc hX rfl (by decide) (by decide) (by decide) dX1_allows_169
  · refine jf_aload_n hX dX1_allows_147 1 rfl ?_
    refine jf_getR hX ck_X1 3 wfl_374 (by decide) rfl dX1_allows_148 ?_
    refine jf_nn (fun q7 => ?_)
    refine jf_iload_n hX dX1_allows_151 2 rfl ?_
    refine jf_iald hX dX1_allows_152 ?_
    refine jf_aload_n hX dX1_allows_153 1 rfl ?_
    refine jf_getR hX ck_X1 2 wfl_373 (by decide) rfl dX1_allows_154 ?_
    refine jf_nn (fun q8 => ?_)
    refine jf_iload_n hX dX1_allows_157 2 rfl ?_
    refine jf_iald hX dX1_allows_158 ?_
    refine jf_iload_n hX dX1_allows_159 3 rfl ?_
    refine jf_imul hX dX1_allows_160 ?_
    refine jf_icmp_le (tgt := 168) hX dX1_allows_161 (by decide) ?_ ?_
    · refine jf_iconst (v := 0) hX dX1_allows_168 (by decide) ?_
      exact jf_zretc hX rfl (by decide) (by decide) (by decide) dX1_allows_169
    · refine jf_iconst (v := 1) hX dX1_allows_164 (by decide) ?_
      refine jf_goto (tgt := 169) hX dX1_allows_165 (by decide) ?_
      exact jf_zretc hX rfl (by decide) (by decide) (by decide) dX1_allows_169
set_option maxRecDepth 20000 in
def fX1_allows (N : Nat)  (a0 : Nat) (p1 : Int32) (p2 : Int32) (u : SG) : Option (Int32 × SG) := cl (fJ6_bitCount_0f7a4 N p2 u) fun r1 u2 => (if zK u2 a0 = 2 then (Option.bind (zR u2 a0 1) fun q3 => (if zK u2 q3 = 22 then if p1 < 0 ∨ zN u2 q3 ≤ p1.toNatClampNeg then none else (cl (fX10_bitOf N p2 (zI u2 q3 p1.toNatClampNeg) u2) fun r4 u5 => (if r4 = (1 : Int32) then (gX1_allows_24 N  a0 p1 r1 (1 : Int32) u5)
  else (gX1_allows_24 N  a0 p1 r1 (0 : Int32) u5))) else none)) else none)
set_option maxRecDepth 20000 in
set_option maxHeartbeats 4000000 in
theorem kX1_allows  (N : Nat)  (l : Launch) (D : va_G) (cT : Nat → ClassId) (z0 : Nat) (ks : Nat × Nat) (a0 : Nat) (p1 : Int32) (p2 : Int32) (u : SG) : Ct l D cT z0 ks yX1_allows cX1_allows 5 (some .boolean) 2 0 0 vI [.ref a0, .int p1, .int p2] u (fX1_allows N  a0 p1 p2 u) := by
  unfold fX1_allows
  refine ct_of (by decide +kernel) (Nat.le_of_ble_eq_true rfl) (fun p e R s m args below meth c hX => ?_)
  show JF _ True 5 0 0 _ 0 [(0, .ref a0), (1, .int p1), (2, .int p2)] [] u _
  refine jf_iload_n hX dX1_allows_0 2 rfl ?_
  refine jf_callS (As := [.int p2]) (st := []) hX mo_J6_bitCount_0f7a4 wml_380 wstat_381 rfl (fun l D cT z0 ks => kJ6_bitCount_0f7a4 N l D cT z0 ks p2 u) (by decide) (by decide) (by decide) (by decide) (Nat.le_of_ble_eq_true rfl) rfl rfl dX1_allows_1 (fun r1 u2 => ?_)
  refine jf_istore_n (lv' := [(3, .int r1), (0, .ref a0), (1, .int p1), (2, .int p2)]) hX dX1_allows_4 rfl (by decide) rfl ?_
  refine jf_iload_n hX dX1_allows_5 3 rfl ?_
  refine jf_aload_n hX dX1_allows_6 1 rfl ?_
  refine jf_getR hX ck_X1 1 wfl_372 (by decide) rfl dX1_allows_7 ?_
  refine jf_nn (fun q3 => ?_)
  refine jf_iload_n hX dX1_allows_10 2 rfl ?_
  refine jf_iald hX dX1_allows_11 ?_
  refine jf_callSN (As := [.int p2, .int (zI u2 q3 p1.toNatClampNeg)]) (st := []) hX mo_X10_bitOf wnest_382 wstat_383 rfl (fun l D cT z0 ks => kX10_bitOf N l D cT z0 ks p2 (zI u2 q3 p1.toNatClampNeg) u2) (by decide) (by decide) (by decide) (by decide) (Nat.le_of_ble_eq_true rfl) rfl rfl dX1_allows_12 (fun r4 u5 => ?_)
  refine jf_iconst (v := 1) hX dX1_allows_15 (by decide) ?_
  refine jf_icmp_ne (tgt := 23) hX dX1_allows_16 (by decide) ?_ ?_
  · refine jf_iconst (v := 0) hX dX1_allows_23 (by decide) ?_
    refine jf_lv [1, 2, 0] rfl ?_
    exact jgX1_allows_24 hX N  a0 p1 r1 (0 : Int32) u5
  · refine jf_iconst (v := 1) hX dX1_allows_19 (by decide) ?_
    refine jf_goto (tgt := 24) hX dX1_allows_20 (by decide) ?_
    refine jf_lv [1, 2, 0] rfl ?_
    exact jgX1_allows_24 hX N  a0 p1 r1 (1 : Int32) u5
set_option maxRecDepth 20000 in
def gX1_allow_2 (N : Nat)   : Nat → Nat → Int32 → Int32 → SG → Option (Int32 × SG)
  | 0, _, _, _, _ => none
  | n + 1, x0, x1, x2, u => if zK u x0 = 2 then (if (zI u x0 4) ≤ x2 then (some ((1 : Int32), u))
  else (if (10 : Int32) ≤ x2 then (some ((1 : Int32), u))
  else (if zK u x0 = 2 then cl (fX1_allows N x0 x2 x1 u) fun r1 u2 => (if r1 = 0 then (some ((0 : Int32), u2))
  else ((gX1_allow_2 N  n) x0 x1 (x2 + (1 : Int32)) u2)) else none))) else none
set_option maxRecDepth 20000 in
set_option maxHeartbeats 4000000 in
theorem jgX1_allow_2   {X : XT} (hX : Cx X yX1_allow cX1_allow 3 (some .boolean) 3 0 0) (N : Nat)  : ∀ (n : Nat) (x0 : Nat) (x1 : Int32) (x2 : Int32) (u : SG), JF X True 3 0 0 (jQ X vI 0 0) 2 [(0, .ref x0), (1, .int x1), (2, .int x2)] [] u (gX1_allow_2 N   n x0 x1 x2 u) := by
  intro n
  induction n with
  | zero => intros; intro r u9 h9; exact absurd h9 (by simp [gX1_allow_2])
  | succ n ih =>
    intro x0 x1 x2 u
    have hrec2 := ih
    rw [gX1_allow_2]
    refine jf_iload_n hX dX1_allow_2 2 rfl ?_
    refine jf_aload_n hX dX1_allow_3 0 rfl ?_
    refine jf_getI hX ck_X1 4 wfl_375 (by decide) rfl dX1_allow_4 ?_
    refine jf_icmp_ge (tgt := 33) hX dX1_allow_7 (by decide) ?_ ?_
    · refine jf_iconst (v := 1) hX dX1_allow_33 (by decide) ?_
      exact jf_zretc hX rfl (by decide) (by decide) (by decide) dX1_allow_34
    · refine jf_iload_n hX dX1_allow_10 2 rfl ?_
      refine jf_bipush (v := 10) hX dX1_allow_11 (by decide) ?_
      refine jf_icmp_ge (tgt := 33) hX dX1_allow_13 (by decide) ?_ ?_
      · refine jf_iconst (v := 1) hX dX1_allow_33 (by decide) ?_
        exact jf_zretc hX rfl (by decide) (by decide) (by decide) dX1_allow_34
      · refine jf_aload_n hX dX1_allow_16 0 rfl ?_
        refine jf_iload_n hX dX1_allow_17 2 rfl ?_
        refine jf_iload_n hX dX1_allow_18 1 rfl ?_
        refine jf_callV (As := [.int x2, .int x1]) (st := []) hX mo_X1_allows wml_384 winst_385 wsel_386 1 ck_X1 rfl (fun l D cT z0 ks => kX1_allows N l D cT z0 ks x0 x2 x1 u) (by decide) (by decide) (by decide) (by decide) (Nat.le_of_ble_eq_true rfl) rfl rfl dX1_allow_19 (fun r1 u2 => ?_)
        refine jf_if_ne (tgt := 27) hX dX1_allow_22 (by decide) ?_ ?_
        · refine jf_iinc (v := 1) (lv' := [(2, .int (x2 + (1 : Int32))), (0, .ref x0), (1, .int x1)]) hX dX1_allow_27 2 rfl (by decide) (by decide) rfl ?_
          refine jf_goto (tgt := 2) hX dX1_allow_30 (by decide) ?_
          refine jf_lv [1, 2, 0] rfl ?_
          exact hrec2 x0 x1 (x2 + (1 : Int32)) u2
        · refine jf_iconst (v := 0) hX dX1_allow_25 (by decide) ?_
          exact jf_zretc hX rfl (by decide) (by decide) (by decide) dX1_allow_26
set_option maxRecDepth 20000 in
def fX1_allow (N : Nat)  (a0 : Nat) (p1 : Int32) (u : SG) : Option (Int32 × SG) := gX1_allow_2 N  N a0 p1 (0 : Int32) u
set_option maxRecDepth 20000 in
set_option maxHeartbeats 4000000 in
theorem kX1_allow  (N : Nat)  (l : Launch) (D : va_G) (cT : Nat → ClassId) (z0 : Nat) (ks : Nat × Nat) (a0 : Nat) (p1 : Int32) (u : SG) : Ct l D cT z0 ks yX1_allow cX1_allow 3 (some .boolean) 3 0 0 vI [.ref a0, .int p1] u (fX1_allow N  a0 p1 u) := by
  unfold fX1_allow
  refine ct_of (by decide +kernel) (Nat.le_of_ble_eq_true rfl) (fun p e R s m args below meth c hX => ?_)
  show JF _ True 3 0 0 _ 0 [(0, .ref a0), (1, .int p1)] [] u _
  refine jf_iconst (v := 0) hX dX1_allow_0 (by decide) ?_
  refine jf_istore_n (lv' := [(2, .int (0 : Int32)), (0, .ref a0), (1, .int p1)]) hX dX1_allow_1 rfl (by decide) rfl ?_
  refine jf_lv [1, 2, 0] rfl ?_
  exact jgX1_allow_2 hX N  N a0 p1 (0 : Int32) u
set_option maxRecDepth 20000 in
def gX2_clear_34 (N : Nat)   : Nat → Nat → Int32 → SG → Option (Unit × SG)
  | 0, _, _, _ => none
  | n + 1, x0, x1, u => if (5 : Int32) ≤ x1 then (some ((), u))
  else (if zK u x0 = 3 then (Option.bind (zR u x0 5) fun q1 => (if zK u q1 = 22 then if x1 < 0 ∨ zN u q1 ≤ x1.toNatClampNeg then none else bs (sI u q1 x1.toNatClampNeg (0 : Int32)) fun u2 => (if zK u2 x0 = 3 then (Option.bind (zR u2 x0 6) fun q3 => (if zK u2 q3 = 22 then if x1 < 0 ∨ zN u2 q3 ≤ x1.toNatClampNeg then none else bs (sI u2 q3 x1.toNatClampNeg (0 : Int32)) fun u4 => (if zK u4 x0 = 3 then (Option.bind (zR u4 x0 7) fun q5 => (if zK u4 q5 = 23 then if x1 < 0 ∨ zN u4 q5 ≤ x1.toNatClampNeg then none else bs (sL u4 q5 x1.toNatClampNeg (0 : Int64)) fun u6 => ((gX2_clear_34 N  n) x0 (x1 + (1 : Int32)) u6) else none)) else none) else none)) else none) else none)) else none)
set_option maxRecDepth 20000 in
set_option maxHeartbeats 4000000 in
theorem jgX2_clear_34   {X : XT} (hX : Cx X yX2_clear cX2_clear 2 none 1 0 0) (N : Nat)  : ∀ (n : Nat) (x0 : Nat) (x1 : Int32) (u : SG), JF X True 2 0 0 (jQ X vU 0 0) 34 [(0, .ref x0), (1, .int x1)] [] u (gX2_clear_34 N   n x0 x1 u) := by
  intro n
  induction n with
  | zero => intros; intro r u9 h9; exact absurd h9 (by simp [gX2_clear_34])
  | succ n ih =>
    intro x0 x1 u
    have hrec34 := ih
    rw [gX2_clear_34]
    refine jf_iload_n hX dX2_clear_34 1 rfl ?_
    refine jf_iconst (v := 5) hX dX2_clear_35 (by decide) ?_
    refine jf_icmp_ge (tgt := 66) hX dX2_clear_36 (by decide) ?_ ?_
    · exact jf_vret hX rfl (by decide) (by decide) dX2_clear_66
    · refine jf_aload_n hX dX2_clear_39 0 rfl ?_
      refine jf_getR hX ck_X2 5 wfl_346 (by decide) rfl dX2_clear_40 ?_
      refine jf_nn (fun q1 => ?_)
      refine jf_iload_n hX dX2_clear_43 1 rfl ?_
      refine jf_iconst (v := 0) hX dX2_clear_44 (by decide) ?_
      refine jf_iast hX trivial dX2_clear_45 (fun u2 => ?_)
      refine jf_aload_n hX dX2_clear_46 0 rfl ?_
      refine jf_getR hX ck_X2 6 wfl_347 (by decide) rfl dX2_clear_47 ?_
      refine jf_nn (fun q3 => ?_)
      refine jf_iload_n hX dX2_clear_50 1 rfl ?_
      refine jf_iconst (v := 0) hX dX2_clear_51 (by decide) ?_
      refine jf_iast hX trivial dX2_clear_52 (fun u4 => ?_)
      refine jf_aload_n hX dX2_clear_53 0 rfl ?_
      refine jf_getR hX ck_X2 7 wfl_348 (by decide) rfl dX2_clear_54 ?_
      refine jf_nn (fun q5 => ?_)
      refine jf_iload_n hX dX2_clear_57 1 rfl ?_
      refine jf_lconst (v := 0) hX dX2_clear_58 (by decide) ?_
      refine jf_last hX trivial dX2_clear_59 (fun u6 => ?_)
      refine jf_iinc (v := 1) (lv' := [(1, .int (x1 + (1 : Int32))), (0, .ref x0)]) hX dX2_clear_60 1 rfl (by decide) (by decide) rfl ?_
      refine jf_goto (tgt := 34) hX dX2_clear_63 (by decide) ?_
      refine jf_lv [1, 0] rfl ?_
      exact hrec34 x0 (x1 + (1 : Int32)) u6
set_option maxRecDepth 20000 in
def fX2_clear (N : Nat)  (a0 : Nat) (u : SG) : Option (Unit × SG) := if zK u a0 = 3 then bs (sI u a0 0 (0 : Int32)) fun u1 => (if zK u1 a0 = 3 then bs (sI u1 a0 1 (0 : Int32)) fun u2 => (if zK u2 a0 = 3 then bs (sI u2 a0 2 (0 : Int32)) fun u3 => (if zK u3 a0 = 3 then bs (sI u3 a0 3 (0 : Int32)) fun u4 => (if zK u4 a0 = 3 then bs (sI u4 a0 4 (0 : Int32)) fun u5 => (if zK u5 a0 = 3 then (Option.bind (zR u5 a0 7) fun q6 => (if zK u5 q6 = 23 then if zN u5 q6 ≤ 5 then none else bs (sL u5 q6 5 (0 : Int64)) fun u7 => (gX2_clear_34 N  N a0 (0 : Int32) u7) else none)) else none) else none) else none) else none) else none) else none
set_option maxRecDepth 20000 in
set_option maxHeartbeats 4000000 in
theorem kX2_clear  (N : Nat)  (l : Launch) (D : va_G) (cT : Nat → ClassId) (z0 : Nat) (ks : Nat × Nat) (a0 : Nat) (u : SG) : Ct l D cT z0 ks yX2_clear cX2_clear 2 none 1 0 0 vU [.ref a0] u (fX2_clear N  a0 u) := by
  unfold fX2_clear
  refine ct_of (by decide +kernel) (Nat.le_of_ble_eq_true rfl) (fun p e R s m args below meth c hX => ?_)
  show JF _ True 2 0 0 _ 0 [(0, .ref a0)] [] u _
  refine jf_aload_n hX dX2_clear_0 0 rfl ?_
  refine jf_iconst (v := 0) hX dX2_clear_1 (by decide) ?_
  refine jf_putI hX trivial ck_X2 0 wfl_341 (by decide) rfl rfl rfl dX2_clear_2 (fun u1 => ?_)
  refine jf_aload_n hX dX2_clear_5 0 rfl ?_
  refine jf_iconst (v := 0) hX dX2_clear_6 (by decide) ?_
  refine jf_putI hX trivial ck_X2 1 wfl_342 (by decide) rfl rfl rfl dX2_clear_7 (fun u2 => ?_)
  refine jf_aload_n hX dX2_clear_10 0 rfl ?_
  refine jf_iconst (v := 0) hX dX2_clear_11 (by decide) ?_
  refine jf_putI hX trivial ck_X2 2 wfl_343 (by decide) rfl rfl rfl dX2_clear_12 (fun u3 => ?_)
  refine jf_aload_n hX dX2_clear_15 0 rfl ?_
  refine jf_iconst (v := 0) hX dX2_clear_16 (by decide) ?_
  refine jf_putI hX trivial ck_X2 3 wfl_344 (by decide) rfl rfl rfl dX2_clear_17 (fun u4 => ?_)
  refine jf_aload_n hX dX2_clear_20 0 rfl ?_
  refine jf_iconst (v := 0) hX dX2_clear_21 (by decide) ?_
  refine jf_putI hX trivial ck_X2 4 wfl_345 (by decide) rfl rfl rfl dX2_clear_22 (fun u5 => ?_)
  refine jf_aload_n hX dX2_clear_25 0 rfl ?_
  refine jf_getR hX ck_X2 7 wfl_348 (by decide) rfl dX2_clear_26 ?_
  refine jf_nn (fun q6 => ?_)
  refine jf_iconst (v := 5) hX dX2_clear_29 (by decide) ?_
  refine jf_lconst (v := 0) hX dX2_clear_30 (by decide) ?_
  refine jf_lastc 5 hX trivial (by decide) (by decide) dX2_clear_31 (fun u7 => ?_)
  refine jf_iconst (v := 0) hX dX2_clear_32 (by decide) ?_
  refine jf_istore_n (lv' := [(1, .int (0 : Int32)), (0, .ref a0)]) hX dX2_clear_33 rfl (by decide) rfl ?_
  refine jf_lv [1, 0] rfl ?_
  exact jgX2_clear_34 hX N  N a0 (0 : Int32) u7
set_option maxRecDepth 20000 in
def fX2_isLast (N : Nat)  (a0 : Nat) (p1 : Nat) (u : SG) : Option (Int32 × SG) := if zK u a0 = 3 then (if (zI u a0 1) < (999 : Int32) then (some ((0 : Int32), u))
  else (if zK u a0 = 3 then (if zK u p1 = 8 then (if (zI u a0 0) < ((zI u p1 6) - (1 : Int32)) then (some ((0 : Int32), u))
  else (some ((1 : Int32), u))) else none) else none)) else none
set_option maxRecDepth 20000 in
set_option maxHeartbeats 4000000 in
theorem kX2_isLast  (N : Nat)  (l : Launch) (D : va_G) (cT : Nat → ClassId) (z0 : Nat) (ks : Nat × Nat) (a0 : Nat) (p1 : Nat) (u : SG) : Ct l D cT z0 ks yX2_isLast cX2_isLast 2 (some .boolean) 1 0 0 vI [.ref a0, .ref p1] u (fX2_isLast N  a0 p1 u) := by
  unfold fX2_isLast
  refine ct_of (by decide +kernel) (Nat.le_of_ble_eq_true rfl) (fun p e R s m args below meth c hX => ?_)
  show JF _ True 2 0 0 _ 0 [(0, .ref a0), (1, .ref p1)] [] u _
  refine jf_aload_n hX dX2_isLast_0 0 rfl ?_
  refine jf_getI hX ck_X2 1 wfl_342 (by decide) rfl dX2_isLast_1 ?_
  refine jf_sipush (v := 999) hX dX2_isLast_4 (by decide) ?_
  refine jf_icmp_lt (tgt := 27) hX dX2_isLast_7 (by decide) ?_ ?_
  · refine jf_iconst (v := 0) hX dX2_isLast_27 (by decide) ?_
    exact jf_zretc hX rfl (by decide) (by decide) (by decide) dX2_isLast_28
  · refine jf_aload_n hX dX2_isLast_10 0 rfl ?_
    refine jf_getI hX ck_X2 0 wfl_341 (by decide) rfl dX2_isLast_11 ?_
    refine jf_aload_n hX dX2_isLast_14 1 rfl ?_
    refine jf_getI hX ck_X7 6 wfl_387 (by decide) rfl dX2_isLast_15 ?_
    refine jf_iconst (v := 1) hX dX2_isLast_18 (by decide) ?_
    refine jf_isub hX dX2_isLast_19 ?_
    refine jf_icmp_lt (tgt := 27) hX dX2_isLast_20 (by decide) ?_ ?_
    · refine jf_iconst (v := 0) hX dX2_isLast_27 (by decide) ?_
      exact jf_zretc hX rfl (by decide) (by decide) (by decide) dX2_isLast_28
    · refine jf_iconst (v := 1) hX dX2_isLast_23 (by decide) ?_
      refine jf_goto (tgt := 28) hX dX2_isLast_24 (by decide) ?_
      exact jf_zretc hX rfl (by decide) (by decide) (by decide) dX2_isLast_28
set_option maxRecDepth 20000 in
def fX7_litAt (N : Nat)  (a0 : Nat) (p1 : Int32) (u : SG) : Option (Int32 × SG) := if p1 < 0 then (some ((0 : Int32), u))
  else (if (10 : Int32) ≤ p1 then (some ((0 : Int32), u))
  else (if zK u a0 = 8 then (Option.bind (zR u a0 5) fun q1 => (if zK u q1 = 22 then if p1 < 0 ∨ zN u q1 ≤ p1.toNatClampNeg then none else (some (zI u q1 p1.toNatClampNeg, u)) else none)) else none))
set_option maxRecDepth 20000 in
set_option maxHeartbeats 4000000 in
theorem kX7_litAt  (N : Nat)  (l : Launch) (D : va_G) (cT : Nat → ClassId) (z0 : Nat) (ks : Nat × Nat) (a0 : Nat) (p1 : Int32) (u : SG) : Ct l D cT z0 ks yX7_litAt cX7_litAt 2 (some .int) 1 0 0 vI [.ref a0, .int p1] u (fX7_litAt N  a0 p1 u) := by
  unfold fX7_litAt
  refine ct_of (by decide +kernel) (Nat.le_of_ble_eq_true rfl) (fun p e R s m args below meth c hX => ?_)
  show JF _ True 2 0 0 _ 0 [(0, .ref a0), (1, .int p1)] [] u _
  refine jf_iload_n hX dX7_litAt_0 1 rfl ?_
  refine jf_if_lt (tgt := 19) hX dX7_litAt_1 (by decide) ?_ ?_
  · refine jf_iconst (v := 0) hX dX7_litAt_19 (by decide) ?_
    exact jf_iret hX rfl (by decide) (by decide) dX7_litAt_20
  · refine jf_iload_n hX dX7_litAt_4 1 rfl ?_
    refine jf_bipush (v := 10) hX dX7_litAt_5 (by decide) ?_
    refine jf_icmp_ge (tgt := 19) hX dX7_litAt_7 (by decide) ?_ ?_
    · refine jf_iconst (v := 0) hX dX7_litAt_19 (by decide) ?_
      exact jf_iret hX rfl (by decide) (by decide) dX7_litAt_20
    · refine jf_aload_n hX dX7_litAt_10 0 rfl ?_
      refine jf_getR hX ck_X7 5 wfl_388 (by decide) rfl dX7_litAt_11 ?_
      refine jf_nn (fun q1 => ?_)
      refine jf_iload_n hX dX7_litAt_14 1 rfl ?_
      refine jf_iald hX dX7_litAt_15 ?_
      refine jf_goto (tgt := 20) hX dX7_litAt_16 (by decide) ?_
      exact jf_iret hX rfl (by decide) (by decide) dX7_litAt_20
set_option maxRecDepth 20000 in
def fX2_burningAt (N : Nat)  (a0 : Nat) (p1 : Nat) (p2 : Int32) (u : SG) : Option (Int32 × SG) := if zK u p1 = 8 then cl (fX7_litAt N p1 p2 u) fun r1 u2 => (if zK u2 a0 = 3 then (if zK u2 a0 = 3 then (some ((r1 ||| (zI u2 a0 3)) &&& ((zI u2 a0 4) ^^^ (-1 : Int32)), u2)) else none) else none) else none
set_option maxRecDepth 20000 in
set_option maxHeartbeats 4000000 in
theorem kX2_burningAt  (N : Nat)  (l : Launch) (D : va_G) (cT : Nat → ClassId) (z0 : Nat) (ks : Nat × Nat) (a0 : Nat) (p1 : Nat) (p2 : Int32) (u : SG) : Ct l D cT z0 ks yX2_burningAt cX2_burningAt 3 (some .int) 2 0 0 vI [.ref a0, .ref p1, .int p2] u (fX2_burningAt N  a0 p1 p2 u) := by
  unfold fX2_burningAt
  refine ct_of (by decide +kernel) (Nat.le_of_ble_eq_true rfl) (fun p e R s m args below meth c hX => ?_)
  show JF _ True 3 0 0 _ 0 [(0, .ref a0), (1, .ref p1), (2, .int p2)] [] u _
  refine jf_aload_n hX dX2_burningAt_0 1 rfl ?_
  refine jf_iload_n hX dX2_burningAt_1 2 rfl ?_
  refine jf_callV (As := [.int p2]) (st := []) hX mo_X7_litAt wml_389 winst_390 wsel_391 7 ck_X7 rfl (fun l D cT z0 ks => kX7_litAt N l D cT z0 ks p1 p2 u) (by decide) (by decide) (by decide) (by decide) (Nat.le_of_ble_eq_true rfl) rfl rfl dX2_burningAt_2 (fun r1 u2 => ?_)
  refine jf_aload_n hX dX2_burningAt_5 0 rfl ?_
  refine jf_getI hX ck_X2 3 wfl_344 (by decide) rfl dX2_burningAt_6 ?_
  refine jf_ior hX dX2_burningAt_9 ?_
  refine jf_aload_n hX dX2_burningAt_10 0 rfl ?_
  refine jf_getI hX ck_X2 4 wfl_345 (by decide) rfl dX2_burningAt_11 ?_
  refine jf_iconst (v := -1) hX dX2_burningAt_14 (by decide) ?_
  refine jf_ixor hX dX2_burningAt_15 ?_
  refine jf_iand hX dX2_burningAt_16 ?_
  exact jf_iret hX rfl (by decide) (by decide) dX2_burningAt_17
set_option maxRecDepth 20000 in
def gX2_setLamp_26 (N : Nat)   (x0 : Nat) (x2 : Int32) (x3 : Int32) (s0 : Nat) (s1 : Int32) (u : SG) : Option (Unit × SG) := if zK u s0 = 3 then bs (sI u s0 3 s1) fun u1 => (if x2 = 0 then (if zK u1 x0 = 3 then (if zK u1 x0 = 3 then bs (sI u1 x0 4 ((zI u1 x0 4) ||| x3)) fun u2 => (some ((), u2)) else none) else none)
  else (if zK u1 x0 = 3 then (if zK u1 x0 = 3 then bs (sI u1 x0 4 ((zI u1 x0 4) &&& (x3 ^^^ (-1 : Int32)))) fun u3 => (some ((), u3)) else none) else none)) else none
set_option maxRecDepth 20000 in
set_option maxHeartbeats 4000000 in
theorem jgX2_setLamp_26   {X : XT} (hX : Cx X yX2_setLamp cX2_setLamp 4 none 1 0 0) (N : Nat)  (x0 : Nat) (x2 : Int32) (x3 : Int32) (s0 : Nat) (s1 : Int32) (u : SG) : JF X True 4 0 0 (jQ X vU 0 0) 26 [(0, .ref x0), (2, .int x2), (3, .int x3)] [.int s1, .ref s0] u (gX2_setLamp_26 N   x0 x2 x3 s0 s1 u) := by
  unfold gX2_setLamp_26
  refine jf_putI hX trivial ck_X2 3 wfl_344 (by decide) rfl rfl rfl dX2_setLamp_26 (fun u1 => ?_)
  refine jf_aload_n hX dX2_setLamp_29 0 rfl ?_
  refine jf_iload_n hX dX2_setLamp_30 1 rfl ?_
  refine jf_if_eq (tgt := 45) hX dX2_setLamp_31 (by decide) ?_ ?_
  · refine jf_aload_n hX dX2_setLamp_45 0 rfl ?_
    refine jf_getI hX ck_X2 4 wfl_345 (by decide) rfl dX2_setLamp_46 ?_
    refine jf_iload_n hX dX2_setLamp_49 2 rfl ?_
    refine jf_ior hX dX2_setLamp_50 ?_
    refine jf_putI hX trivial ck_X2 4 wfl_345 (by decide) rfl rfl rfl dX2_setLamp_51 (fun u2 => ?_)
    exact jf_vret hX rfl (by decide) (by decide) dX2_setLamp_54
  · refine jf_aload_n hX dX2_setLamp_34 0 rfl ?_
    refine jf_getI hX ck_X2 4 wfl_345 (by decide) rfl dX2_setLamp_35 ?_
    refine jf_iload_n hX dX2_setLamp_38 2 rfl ?_
    refine jf_iconst (v := -1) hX dX2_setLamp_39 (by decide) ?_
    refine jf_ixor hX dX2_setLamp_40 ?_
    refine jf_iand hX dX2_setLamp_41 ?_
    refine jf_goto (tgt := 51) hX dX2_setLamp_42 (by decide) ?_
    refine jf_putI hX trivial ck_X2 4 wfl_345 (by decide) rfl rfl rfl dX2_setLamp_51 (fun u3 => ?_)
    exact jf_vret hX rfl (by decide) (by decide) dX2_setLamp_54
set_option maxRecDepth 20000 in
def fX2_setLamp (N : Nat)  (a0 : Nat) (p1 : Int32) (p2 : Int32) (u : SG) : Option (Unit × SG) := bs ((1 : Int32) <<< (p1 &&& 31)) fun v1 => (if p2 = 0 then (if zK u a0 = 3 then (gX2_setLamp_26 N  a0 p2 v1 a0 ((zI u a0 3) &&& (v1 ^^^ (-1 : Int32))) u) else none)
  else (if zK u a0 = 3 then (gX2_setLamp_26 N  a0 p2 v1 a0 ((zI u a0 3) ||| v1) u) else none))
set_option maxRecDepth 20000 in
set_option maxHeartbeats 4000000 in
theorem kX2_setLamp  (N : Nat)  (l : Launch) (D : va_G) (cT : Nat → ClassId) (z0 : Nat) (ks : Nat × Nat) (a0 : Nat) (p1 : Int32) (p2 : Int32) (u : SG) : Ct l D cT z0 ks yX2_setLamp cX2_setLamp 4 none 1 0 0 vU [.ref a0, .int p1, .int p2] u (fX2_setLamp N  a0 p1 p2 u) := by
  unfold fX2_setLamp
  refine ct_of (by decide +kernel) (Nat.le_of_ble_eq_true rfl) (fun p e R s m args below meth c hX => ?_)
  show JF _ True 4 0 0 _ 0 [(0, .ref a0), (1, .int p1), (2, .int p2)] [] u _
  refine jf_iconst (v := 1) hX dX2_setLamp_0 (by decide) ?_
  refine jf_iload_n hX dX2_setLamp_1 1 rfl ?_
  refine jf_ishl hX dX2_setLamp_2 ?_
  refine jf_nmI (fun v1 => ?_)
  refine jf_istore_n (lv' := [(3, .int v1), (0, .ref a0), (1, .int p1), (2, .int p2)]) hX dX2_setLamp_3 rfl (by decide) rfl ?_
  refine jf_aload_n hX dX2_setLamp_4 1 rfl ?_
  refine jf_iload_n hX dX2_setLamp_5 3 rfl ?_
  refine jf_if_eq (tgt := 18) hX dX2_setLamp_6 (by decide) ?_ ?_
  · refine jf_aload_n hX dX2_setLamp_18 1 rfl ?_
    refine jf_getI hX ck_X2 3 wfl_344 (by decide) rfl dX2_setLamp_19 ?_
    refine jf_iload_n hX dX2_setLamp_22 0 rfl ?_
    refine jf_iconst (v := -1) hX dX2_setLamp_23 (by decide) ?_
    refine jf_ixor hX dX2_setLamp_24 ?_
    refine jf_iand hX dX2_setLamp_25 ?_
    refine jf_lv [1, 3, 0] rfl ?_
    exact jgX2_setLamp_26 hX N  a0 p2 v1 a0 ((zI u a0 3) &&& (v1 ^^^ (-1 : Int32))) u
  · refine jf_aload_n hX dX2_setLamp_9 1 rfl ?_
    refine jf_getI hX ck_X2 3 wfl_344 (by decide) rfl dX2_setLamp_10 ?_
    refine jf_iload_n hX dX2_setLamp_13 0 rfl ?_
    refine jf_ior hX dX2_setLamp_14 ?_
    refine jf_goto (tgt := 26) hX dX2_setLamp_15 (by decide) ?_
    refine jf_lv [1, 3, 0] rfl ?_
    exact jgX2_setLamp_26 hX N  a0 p2 v1 a0 ((zI u a0 3) ||| v1) u
set_option maxRecDepth 20000 in
def fJ9_max_7cf53 (N : Nat)  (p1 : Int32) (p2 : Int32) (u : SG) : Option (Int32 × SG) := if p1 < p2 then (some (p2, u))
  else (some (p1, u))
set_option maxRecDepth 20000 in
set_option maxHeartbeats 4000000 in
theorem kJ9_max_7cf53  (N : Nat)  (l : Launch) (D : va_G) (cT : Nat → ClassId) (z0 : Nat) (ks : Nat × Nat) (p1 : Int32) (p2 : Int32) (u : SG) : Ct l D cT z0 ks yJ9_max_7cf53 cJ9_max_7cf53 2 (some .int) 1 0 0 vI [.int p1, .int p2] u (fJ9_max_7cf53 N  p1 p2 u) := by
  unfold fJ9_max_7cf53
  refine ct_of (by decide +kernel) (Nat.le_of_ble_eq_true rfl) (fun p e R s m args below meth c hX => ?_)
  show JF _ True 2 0 0 _ 0 [(0, .int p1), (1, .int p2)] [] u _
  refine jf_iload_n hX dJ9_max_7cf53_0 0 rfl ?_
  refine jf_iload_n hX dJ9_max_7cf53_1 1 rfl ?_
  refine jf_icmp_lt (tgt := 9) hX dJ9_max_7cf53_2 (by decide) ?_ ?_
  · refine jf_iload_n hX dJ9_max_7cf53_9 1 rfl ?_
    exact jf_iret hX rfl (by decide) (by decide) dJ9_max_7cf53_10
  · refine jf_iload_n hX dJ9_max_7cf53_5 0 rfl ?_
    refine jf_goto (tgt := 10) hX dJ9_max_7cf53_6 (by decide) ?_
    exact jf_iret hX rfl (by decide) (by decide) dJ9_max_7cf53_10
set_option maxRecDepth 20000 in
def gX2_goOn_60 (N : Nat)   : Nat → Nat → Nat → Int32 → SG → Option (Unit × SG)
  | 0, _, _, _, _ => none
  | n + 1, x0, x1, x2, u => if zK u x1 = 8 then (if (zI u x1 7) ≤ x2 then (some ((), u))
  else (if zK u x0 = 3 then (Option.bind (zR u x0 6) fun q1 => (if zK u q1 = 22 then if x2 < 0 ∨ zN u q1 ≤ x2.toNatClampNeg then none else (if zK u x1 = 8 then (Option.bind (zR u x1 0) fun q2 => (if zK u q2 = 22 then if x2 < 0 ∨ zN u q2 ≤ x2.toNatClampNeg then none else (if zK u x0 = 3 then (Option.bind (zR u x0 5) fun q3 => (if zK u q3 = 22 then if x2 < 0 ∨ zN u q3 ≤ x2.toNatClampNeg then none else (bs (((zI u q1 x2.toNatClampNeg) + (zI u q2 x2.toNatClampNeg)) - (zI u q3 x2.toNatClampNeg)) fun v4 => (if zK u x0 = 3 then (Option.bind (zR u x0 6) fun q5 => (cl (fJ9_min_7cf53 N (999 : Int32) v4 u) fun r6 u7 => (cl (fJ9_max_7cf53 N (0 : Int32) r6 u7) fun r8 u9 => (if zK u9 q5 = 22 then if x2 < 0 ∨ zN u9 q5 ≤ x2.toNatClampNeg then none else bs (sI u9 q5 x2.toNatClampNeg r8) fun u10 => (if zK u10 x0 = 3 then (Option.bind (zR u10 x0 5) fun q11 => (if zK u10 q11 = 22 then if x2 < 0 ∨ zN u10 q11 ≤ x2.toNatClampNeg then none else bs (sI u10 q11 x2.toNatClampNeg (0 : Int32)) fun u12 => ((gX2_goOn_60 N  n) x0 x1 (x2 + (1 : Int32)) u12) else none)) else none) else none)))) else none)) else none)) else none) else none)) else none) else none)) else none)) else none
set_option maxRecDepth 20000 in
set_option maxHeartbeats 4000000 in
theorem jgX2_goOn_60   {X : XT} (hX : Cx X yX2_goOn cX2_goOn 4 none 2 0 0) (N : Nat)  : ∀ (n : Nat) (x0 : Nat) (x1 : Nat) (x2 : Int32) (u : SG), JF X True 4 0 0 (jQ X vU 0 0) 60 [(0, .ref x0), (1, .ref x1), (2, .int x2)] [] u (gX2_goOn_60 N   n x0 x1 x2 u) := by
  intro n
  induction n with
  | zero => intros; intro r u9 h9; exact absurd h9 (by simp [gX2_goOn_60])
  | succ n ih =>
    intro x0 x1 x2 u
    have hrec60 := ih
    rw [gX2_goOn_60]
    refine jf_iload_n hX dX2_goOn_60 2 rfl ?_
    refine jf_aload_n hX dX2_goOn_61 1 rfl ?_
    refine jf_getI hX ck_X7 7 wfl_393 (by decide) rfl dX2_goOn_62 ?_
    refine jf_icmp_ge (tgt := 119) hX dX2_goOn_65 (by decide) ?_ ?_
    · exact jf_vret hX rfl (by decide) (by decide) dX2_goOn_119
    · refine jf_aload_n hX dX2_goOn_68 0 rfl ?_
      refine jf_getR hX ck_X2 6 wfl_347 (by decide) rfl dX2_goOn_69 ?_
      refine jf_nn (fun q1 => ?_)
      refine jf_iload_n hX dX2_goOn_72 2 rfl ?_
      refine jf_iald hX dX2_goOn_73 ?_
      refine jf_aload_n hX dX2_goOn_74 1 rfl ?_
      refine jf_getR hX ck_X7 0 wfl_394 (by decide) rfl dX2_goOn_75 ?_
      refine jf_nn (fun q2 => ?_)
      refine jf_iload_n hX dX2_goOn_78 2 rfl ?_
      refine jf_iald hX dX2_goOn_79 ?_
      refine jf_iadd hX dX2_goOn_80 ?_
      refine jf_aload_n hX dX2_goOn_81 0 rfl ?_
      refine jf_getR hX ck_X2 5 wfl_346 (by decide) rfl dX2_goOn_82 ?_
      refine jf_nn (fun q3 => ?_)
      refine jf_iload_n hX dX2_goOn_85 2 rfl ?_
      refine jf_iald hX dX2_goOn_86 ?_
      refine jf_isub hX dX2_goOn_87 ?_
      refine jf_nmI (fun v4 => ?_)
      refine jf_istore_n (lv' := [(3, .int v4), (0, .ref x0), (1, .ref x1), (2, .int x2)]) hX dX2_goOn_88 rfl (by decide) rfl ?_
      refine jf_aload_n hX dX2_goOn_89 1 rfl ?_
      refine jf_getR hX ck_X2 6 wfl_347 (by decide) rfl dX2_goOn_90 ?_
      refine jf_nn (fun q5 => ?_)
      refine jf_iload_n hX dX2_goOn_93 3 rfl ?_
      refine jf_iconst (v := 0) hX dX2_goOn_94 (by decide) ?_
      refine jf_sipush (v := 999) hX dX2_goOn_95 (by decide) ?_
      refine jf_iload_n hX dX2_goOn_98 0 rfl ?_
      refine jf_callS (As := [.int (999 : Int32), .int v4]) (st := [.int (0 : Int32), .int x2, .ref q5]) hX mo_J9_min_7cf53 wml_392 wstat_367 rfl (fun l D cT z0 ks => kJ9_min_7cf53 N l D cT z0 ks (999 : Int32) v4 u) (by decide) (by decide) (by decide) (by decide) (Nat.le_of_ble_eq_true rfl) rfl rfl dX2_goOn_99 (fun r6 u7 => ?_)
      refine jf_callS (As := [.int (0 : Int32), .int r6]) (st := [.int x2, .ref q5]) hX mo_J9_max_7cf53 wml_395 wstat_396 rfl (fun l D cT z0 ks => kJ9_max_7cf53 N l D cT z0 ks (0 : Int32) r6 u7) (by decide) (by decide) (by decide) (by decide) (Nat.le_of_ble_eq_true rfl) rfl rfl dX2_goOn_102 (fun r8 u9 => ?_)
      refine jf_iast hX trivial dX2_goOn_105 (fun u10 => ?_)
      refine jf_aload_n hX dX2_goOn_106 1 rfl ?_
      refine jf_getR hX ck_X2 5 wfl_346 (by decide) rfl dX2_goOn_107 ?_
      refine jf_nn (fun q11 => ?_)
      refine jf_iload_n hX dX2_goOn_110 3 rfl ?_
      refine jf_iconst (v := 0) hX dX2_goOn_111 (by decide) ?_
      refine jf_iast hX trivial dX2_goOn_112 (fun u12 => ?_)
      refine jf_iinc (v := 1) (lv' := [(2, .int (x2 + (1 : Int32))), (3, .int v4), (0, .ref x0), (1, .ref x1)]) hX dX2_goOn_113 3 rfl (by decide) (by decide) rfl ?_
      refine jf_goto (tgt := 60) hX dX2_goOn_116 (by decide) ?_
      refine jf_lv [2, 3, 0] rfl ?_
      exact hrec60 x0 x1 (x2 + (1 : Int32)) u12
set_option maxRecDepth 20000 in
def fX2_goOn (N : Nat)  (a0 : Nat) (p1 : Nat) (u : SG) : Option (Unit × SG) := if zK u a0 = 3 then (if zK u a0 = 3 then bs (sI u a0 0 ((zI u a0 0) + (1 : Int32))) fun u1 => (if zK u1 a0 = 3 then (if zK u1 p1 = 8 then (if (zI u1 p1 6) ≤ (zI u1 a0 0) then (if zK u1 a0 = 3 then bs (sI u1 a0 0 (0 : Int32)) fun u2 => (if zK u2 a0 = 3 then (cl (fJ9_min_7cf53 N (999 : Int32) ((zI u2 a0 1) + (1 : Int32)) u2) fun r3 u4 => (if zK u4 a0 = 3 then bs (sI u4 a0 1 r3) fun u5 => (if zK u5 a0 = 3 then bs (sI u5 a0 2 (0 : Int32)) fun u6 => (if zK u6 a0 = 3 then bs (sI u6 a0 3 (0 : Int32)) fun u7 => (if zK u7 a0 = 3 then bs (sI u7 a0 4 (0 : Int32)) fun u8 => (gX2_goOn_60 N  N a0 p1 (0 : Int32) u8) else none) else none) else none) else none)) else none) else none)
  else (some ((), u1))) else none) else none) else none) else none
set_option maxRecDepth 20000 in
set_option maxHeartbeats 4000000 in
theorem kX2_goOn  (N : Nat)  (l : Launch) (D : va_G) (cT : Nat → ClassId) (z0 : Nat) (ks : Nat × Nat) (a0 : Nat) (p1 : Nat) (u : SG) : Ct l D cT z0 ks yX2_goOn cX2_goOn 4 none 2 0 0 vU [.ref a0, .ref p1] u (fX2_goOn N  a0 p1 u) := by
  unfold fX2_goOn
  refine ct_of (by decide +kernel) (Nat.le_of_ble_eq_true rfl) (fun p e R s m args below meth c hX => ?_)
  show JF _ True 4 0 0 _ 0 [(0, .ref a0), (1, .ref p1)] [] u _
  refine jf_aload_n hX dX2_goOn_0 0 rfl ?_
  refine jf_dup hX dX2_goOn_1 rfl ?_
  refine jf_getI hX ck_X2 0 wfl_341 (by decide) rfl dX2_goOn_2 ?_
  refine jf_iconst (v := 1) hX dX2_goOn_5 (by decide) ?_
  refine jf_iadd hX dX2_goOn_6 ?_
  refine jf_putI hX trivial ck_X2 0 wfl_341 (by decide) rfl rfl rfl dX2_goOn_7 (fun u1 => ?_)
  refine jf_aload_n hX dX2_goOn_10 0 rfl ?_
  refine jf_getI hX ck_X2 0 wfl_341 (by decide) rfl dX2_goOn_11 ?_
  refine jf_aload_n hX dX2_goOn_14 1 rfl ?_
  refine jf_getI hX ck_X7 6 wfl_387 (by decide) rfl dX2_goOn_15 ?_
  refine jf_icmp_ge (tgt := 22) hX dX2_goOn_18 (by decide) ?_ ?_
  · refine jf_aload_n hX dX2_goOn_22 0 rfl ?_
    refine jf_iconst (v := 0) hX dX2_goOn_23 (by decide) ?_
    refine jf_putI hX trivial ck_X2 0 wfl_341 (by decide) rfl rfl rfl dX2_goOn_24 (fun u2 => ?_)
    refine jf_aload_n hX dX2_goOn_27 0 rfl ?_
    refine jf_sipush (v := 999) hX dX2_goOn_28 (by decide) ?_
    refine jf_aload_n hX dX2_goOn_31 0 rfl ?_
    refine jf_getI hX ck_X2 1 wfl_342 (by decide) rfl dX2_goOn_32 ?_
    refine jf_iconst (v := 1) hX dX2_goOn_35 (by decide) ?_
    refine jf_iadd hX dX2_goOn_36 ?_
    refine jf_callS (As := [.int (999 : Int32), .int ((zI u2 a0 1) + (1 : Int32))]) (st := [.ref a0]) hX mo_J9_min_7cf53 wml_392 wstat_367 rfl (fun l D cT z0 ks => kJ9_min_7cf53 N l D cT z0 ks (999 : Int32) ((zI u2 a0 1) + (1 : Int32)) u2) (by decide) (by decide) (by decide) (by decide) (Nat.le_of_ble_eq_true rfl) rfl rfl dX2_goOn_37 (fun r3 u4 => ?_)
    refine jf_putI hX trivial ck_X2 1 wfl_342 (by decide) rfl rfl rfl dX2_goOn_40 (fun u5 => ?_)
    refine jf_aload_n hX dX2_goOn_43 0 rfl ?_
    refine jf_iconst (v := 0) hX dX2_goOn_44 (by decide) ?_
    refine jf_putI hX trivial ck_X2 2 wfl_343 (by decide) rfl rfl rfl dX2_goOn_45 (fun u6 => ?_)
    refine jf_aload_n hX dX2_goOn_48 0 rfl ?_
    refine jf_iconst (v := 0) hX dX2_goOn_49 (by decide) ?_
    refine jf_putI hX trivial ck_X2 3 wfl_344 (by decide) rfl rfl rfl dX2_goOn_50 (fun u7 => ?_)
    refine jf_aload_n hX dX2_goOn_53 0 rfl ?_
    refine jf_iconst (v := 0) hX dX2_goOn_54 (by decide) ?_
    refine jf_putI hX trivial ck_X2 4 wfl_345 (by decide) rfl rfl rfl dX2_goOn_55 (fun u8 => ?_)
    refine jf_iconst (v := 0) hX dX2_goOn_58 (by decide) ?_
    refine jf_istore_n (lv' := [(2, .int (0 : Int32)), (0, .ref a0), (1, .ref p1)]) hX dX2_goOn_59 rfl (by decide) rfl ?_
    refine jf_lv [1, 2, 0] rfl ?_
    exact jgX2_goOn_60 hX N  N a0 p1 (0 : Int32) u8
  · exact jf_vret hX rfl (by decide) (by decide) dX2_goOn_21
set_option maxRecDepth 20000 in
def fX3_init (N : Nat)  (a0 : Nat) (u : SG) : Option (Unit × SG) := if (64 : Int32) < 0 ∨ 64 < (64 : Int32).toNatClampNeg then none else nw u (sNew u 23 (64 : Int32).toNatClampNeg) fun q1 u2 => (if zK u2 a0 = 4 then bs (sR u2 a0 0 (some q1)) fun u3 => (if zK u3 a0 = 4 then bs (sI u3 a0 1 (0 : Int32)) fun u4 => (if zK u4 a0 = 4 then bs (sI u4 a0 2 (0 : Int32)) fun u5 => (if zK u5 a0 = 4 then bs (sL u5 a0 3 (0 : Int64)) fun u6 => (some ((), u6)) else none) else none) else none) else none)
set_option maxRecDepth 20000 in
set_option maxHeartbeats 4000000 in
theorem kX3_init  (N : Nat)  (l : Launch) (D : va_G) (cT : Nat → ClassId) (z0 : Nat) (ks : Nat × Nat) (a0 : Nat) (u : SG) : Ct l D cT z0 ks yX3_init cX3_init 1 none 1 1 64 vU [.ref a0] u (fX3_init N  a0 u) := by
  unfold fX3_init
  refine ct_of (by decide +kernel) (Nat.le_of_ble_eq_true rfl) (fun p e R s m args below meth c hX => ?_)
  show JF _ True 1 0 0 _ 0 [(0, .ref a0)] [] u _
  refine jf_aload_n hX dX3_init_0 0 rfl ?_
  refine jf_objInit hX wml_397 winst_17 wcode_18 (by decide) (Nat.le_of_ble_eq_true rfl) dX3_init_1 ?_
  refine jf_aload_n hX dX3_init_4 0 rfl ?_
  refine jf_bipush (v := 64) hX dX3_init_5 (by decide) ?_
  refine jf_newaJ hX trivial warrc_28 64 (by decide) (by decide) (by decide) dX3_init_7 (fun q1 u2 => ?_)
  refine jf_putRF (v := some q1) hX trivial ck_X3 0 wfl_398 (by decide) rfl rfl rfl rfl rfl dX3_init_9 (fun u3 => ?_)
  refine jf_aload_n hX dX3_init_12 0 rfl ?_
  refine jf_iconst (v := 0) hX dX3_init_13 (by decide) ?_
  refine jf_putI hX trivial ck_X3 1 wfl_399 (by decide) rfl rfl rfl dX3_init_14 (fun u4 => ?_)
  refine jf_aload_n hX dX3_init_17 0 rfl ?_
  refine jf_iconst (v := 0) hX dX3_init_18 (by decide) ?_
  refine jf_putI hX trivial ck_X3 2 wfl_400 (by decide) rfl rfl rfl dX3_init_19 (fun u5 => ?_)
  refine jf_aload_n hX dX3_init_22 0 rfl ?_
  refine jf_lconst (v := 0) hX dX3_init_23 (by decide) ?_
  refine jf_putL hX trivial ck_X3 3 wfl_401 (by decide) rfl rfl rfl dX3_init_24 (fun u6 => ?_)
  exact jf_vret hX rfl (by decide) (by decide) dX3_init_27
set_option maxRecDepth 20000 in
def fX7_workersAt (N : Nat)  (a0 : Nat) (p1 : Int32) (u : SG) : Option (Int32 × SG) := if p1 < 0 then (some ((0 : Int32), u))
  else (if (10 : Int32) ≤ p1 then (some ((0 : Int32), u))
  else (if zK u a0 = 8 then (Option.bind (zR u a0 4) fun q1 => (if zK u q1 = 22 then if p1 < 0 ∨ zN u q1 ≤ p1.toNatClampNeg then none else (some (zI u q1 p1.toNatClampNeg, u)) else none)) else none))
set_option maxRecDepth 20000 in
set_option maxHeartbeats 4000000 in
theorem kX7_workersAt  (N : Nat)  (l : Launch) (D : va_G) (cT : Nat → ClassId) (z0 : Nat) (ks : Nat × Nat) (a0 : Nat) (p1 : Int32) (u : SG) : Ct l D cT z0 ks yX7_workersAt cX7_workersAt 2 (some .int) 1 0 0 vI [.ref a0, .int p1] u (fX7_workersAt N  a0 p1 u) := by
  unfold fX7_workersAt
  refine ct_of (by decide +kernel) (Nat.le_of_ble_eq_true rfl) (fun p e R s m args below meth c hX => ?_)
  show JF _ True 2 0 0 _ 0 [(0, .ref a0), (1, .int p1)] [] u _
  refine jf_iload_n hX dX7_workersAt_0 1 rfl ?_
  refine jf_if_lt (tgt := 19) hX dX7_workersAt_1 (by decide) ?_ ?_
  · refine jf_iconst (v := 0) hX dX7_workersAt_19 (by decide) ?_
    exact jf_iret hX rfl (by decide) (by decide) dX7_workersAt_20
  · refine jf_iload_n hX dX7_workersAt_4 1 rfl ?_
    refine jf_bipush (v := 10) hX dX7_workersAt_5 (by decide) ?_
    refine jf_icmp_ge (tgt := 19) hX dX7_workersAt_7 (by decide) ?_ ?_
    · refine jf_iconst (v := 0) hX dX7_workersAt_19 (by decide) ?_
      exact jf_iret hX rfl (by decide) (by decide) dX7_workersAt_20
    · refine jf_aload_n hX dX7_workersAt_10 0 rfl ?_
      refine jf_getR hX ck_X7 4 wfl_402 (by decide) rfl dX7_workersAt_11 ?_
      refine jf_nn (fun q1 => ?_)
      refine jf_iload_n hX dX7_workersAt_14 1 rfl ?_
      refine jf_iald hX dX7_workersAt_15 ?_
      refine jf_goto (tgt := 20) hX dX7_workersAt_16 (by decide) ?_
      exact jf_iret hX rfl (by decide) (by decide) dX7_workersAt_20
set_option maxRecDepth 20000 in
def fX3_push (N : Nat)  (a0 : Nat) (p1 : Int64) (u : SG) : Option (Unit × SG) := if zK u a0 = 4 then (if (zI u a0 1) < 0 then (some ((), u))
  else (if zK u a0 = 4 then (if (64 : Int32) ≤ (zI u a0 1) then (some ((), u))
  else (if zK u a0 = 4 then (Option.bind (zR u a0 0) fun q1 => (if zK u a0 = 4 then (if zK u q1 = 23 then if (zI u a0 1) < 0 ∨ zN u q1 ≤ (zI u a0 1).toNatClampNeg then none else bs (sL u q1 (zI u a0 1).toNatClampNeg p1) fun u2 => (if zK u2 a0 = 4 then (if zK u2 a0 = 4 then bs (sI u2 a0 1 ((zI u2 a0 1) + (1 : Int32))) fun u3 => (some ((), u3)) else none) else none) else none) else none)) else none)) else none)) else none
set_option maxRecDepth 20000 in
set_option maxHeartbeats 4000000 in
theorem kX3_push  (N : Nat)  (l : Launch) (D : va_G) (cT : Nat → ClassId) (z0 : Nat) (ks : Nat × Nat) (a0 : Nat) (p1 : Int64) (u : SG) : Ct l D cT z0 ks yX3_push cX3_push 3 none 1 0 0 vU [.ref a0, .long p1] u (fX3_push N  a0 p1 u) := by
  unfold fX3_push
  refine ct_of (by decide +kernel) (Nat.le_of_ble_eq_true rfl) (fun p e R s m args below meth c hX => ?_)
  show JF _ True 3 0 0 _ 0 [(0, .ref a0), (1, .long p1)] [] u _
  refine jf_aload_n hX dX3_push_0 0 rfl ?_
  refine jf_getI hX ck_X3 1 wfl_399 (by decide) rfl dX3_push_1 ?_
  refine jf_if_lt (tgt := 36) hX dX3_push_4 (by decide) ?_ ?_
  · exact jf_vret hX rfl (by decide) (by decide) dX3_push_36
  · refine jf_aload_n hX dX3_push_7 0 rfl ?_
    refine jf_getI hX ck_X3 1 wfl_399 (by decide) rfl dX3_push_8 ?_
    refine jf_bipush (v := 64) hX dX3_push_11 (by decide) ?_
    refine jf_icmp_ge (tgt := 36) hX dX3_push_13 (by decide) ?_ ?_
    · exact jf_vret hX rfl (by decide) (by decide) dX3_push_36
    · refine jf_aload_n hX dX3_push_16 0 rfl ?_
      refine jf_getR hX ck_X3 0 wfl_398 (by decide) rfl dX3_push_17 ?_
      refine jf_nn (fun q1 => ?_)
      refine jf_aload_n hX dX3_push_20 0 rfl ?_
      refine jf_getI hX ck_X3 1 wfl_399 (by decide) rfl dX3_push_21 ?_
      refine jf_lload_n hX dX3_push_24 1 rfl ?_
      refine jf_last hX trivial dX3_push_25 (fun u2 => ?_)
      refine jf_aload_n hX dX3_push_26 0 rfl ?_
      refine jf_dup hX dX3_push_27 rfl ?_
      refine jf_getI hX ck_X3 1 wfl_399 (by decide) rfl dX3_push_28 ?_
      refine jf_iconst (v := 1) hX dX3_push_31 (by decide) ?_
      refine jf_iadd hX dX3_push_32 ?_
      refine jf_putI hX trivial ck_X3 1 wfl_399 (by decide) rfl rfl rfl dX3_push_33 (fun u3 => ?_)
      exact jf_vret hX rfl (by decide) (by decide) dX3_push_36
set_option maxRecDepth 20000 in
def gX7_costOf_4 (N : Nat)   : Nat → Nat → Int32 → Int32 → Int32 → SG → Option (Int32 × SG)
  | 0, _, _, _, _, _ => none
  | n + 1, x0, x1, x2, x3, u => if (5 : Int32) ≤ x3 then (some (x2, u))
  else (cl (fX10_bitOf N x1 x3 u) fun r1 u2 => (if r1 = (1 : Int32) then (if zK u2 x0 = 8 then (Option.bind (zR u2 x0 3) fun q3 => (if zK u2 q3 = 22 then if x3 < 0 ∨ zN u2 q3 ≤ x3.toNatClampNeg then none else (bs (x2 + (zI u2 q3 x3.toNatClampNeg)) fun v4 => ((gX7_costOf_4 N  n) x0 x1 v4 (x3 + (1 : Int32)) u2)) else none)) else none)
  else ((gX7_costOf_4 N  n) x0 x1 x2 (x3 + (1 : Int32)) u2)))
set_option maxRecDepth 20000 in
set_option maxHeartbeats 4000000 in
theorem jgX7_costOf_4   {X : XT} (hX : Cx X yX7_costOf cX7_costOf 4 (some .int) 2 0 0) (N : Nat)  : ∀ (n : Nat) (x0 : Nat) (x1 : Int32) (x2 : Int32) (x3 : Int32) (u : SG), JF X True 4 0 0 (jQ X vI 0 0) 4 [(0, .ref x0), (1, .int x1), (2, .int x2), (3, .int x3)] [] u (gX7_costOf_4 N   n x0 x1 x2 x3 u) := by
  intro n
  induction n with
  | zero => intros; intro r u9 h9; exact absurd h9 (by simp [gX7_costOf_4])
  | succ n ih =>
    intro x0 x1 x2 x3 u
    have hrec4 := ih
    rw [gX7_costOf_4]
    refine jf_iload_n hX dX7_costOf_4 3 rfl ?_
    refine jf_iconst (v := 5) hX dX7_costOf_5 (by decide) ?_
    refine jf_icmp_ge (tgt := 33) hX dX7_costOf_6 (by decide) ?_ ?_
    · refine jf_iload_n hX dX7_costOf_33 2 rfl ?_
      exact jf_iret hX rfl (by decide) (by decide) dX7_costOf_34
    · refine jf_iload_n hX dX7_costOf_9 1 rfl ?_
      refine jf_iload_n hX dX7_costOf_10 3 rfl ?_
      refine jf_callSN (As := [.int x1, .int x3]) (st := []) hX mo_X10_bitOf wnest_403 wstat_383 rfl (fun l D cT z0 ks => kX10_bitOf N l D cT z0 ks x1 x3 u) (by decide) (by decide) (by decide) (by decide) (Nat.le_of_ble_eq_true rfl) rfl rfl dX7_costOf_11 (fun r1 u2 => ?_)
      refine jf_iconst (v := 1) hX dX7_costOf_14 (by decide) ?_
      refine jf_icmp_ne (tgt := 27) hX dX7_costOf_15 (by decide) ?_ ?_
      · refine jf_iinc (v := 1) (lv' := [(3, .int (x3 + (1 : Int32))), (0, .ref x0), (1, .int x1), (2, .int x2)]) hX dX7_costOf_27 3 rfl (by decide) (by decide) rfl ?_
        refine jf_goto (tgt := 4) hX dX7_costOf_30 (by decide) ?_
        refine jf_lv [1, 2, 3, 0] rfl ?_
        exact hrec4 x0 x1 x2 (x3 + (1 : Int32)) u2
      · refine jf_iload_n hX dX7_costOf_18 2 rfl ?_
        refine jf_aload_n hX dX7_costOf_19 0 rfl ?_
        refine jf_getR hX ck_X7 3 wfl_404 (by decide) rfl dX7_costOf_20 ?_
        refine jf_nn (fun q3 => ?_)
        refine jf_iload_n hX dX7_costOf_23 3 rfl ?_
        refine jf_iald hX dX7_costOf_24 ?_
        refine jf_iadd hX dX7_costOf_25 ?_
        refine jf_nmI (fun v4 => ?_)
        refine jf_istore_n (lv' := [(2, .int v4), (0, .ref x0), (1, .int x1), (3, .int x3)]) hX dX7_costOf_26 rfl (by decide) rfl ?_
        refine jf_iinc (v := 1) (lv' := [(3, .int (x3 + (1 : Int32))), (2, .int v4), (0, .ref x0), (1, .int x1)]) hX dX7_costOf_27 3 rfl (by decide) (by decide) rfl ?_
        refine jf_goto (tgt := 4) hX dX7_costOf_30 (by decide) ?_
        refine jf_lv [2, 3, 1, 0] rfl ?_
        exact hrec4 x0 x1 v4 (x3 + (1 : Int32)) u2
set_option maxRecDepth 20000 in
def fX7_costOf (N : Nat)  (a0 : Nat) (p1 : Int32) (u : SG) : Option (Int32 × SG) := gX7_costOf_4 N  N a0 p1 (0 : Int32) (0 : Int32) u
set_option maxRecDepth 20000 in
set_option maxHeartbeats 4000000 in
theorem kX7_costOf  (N : Nat)  (l : Launch) (D : va_G) (cT : Nat → ClassId) (z0 : Nat) (ks : Nat × Nat) (a0 : Nat) (p1 : Int32) (u : SG) : Ct l D cT z0 ks yX7_costOf cX7_costOf 4 (some .int) 2 0 0 vI [.ref a0, .int p1] u (fX7_costOf N  a0 p1 u) := by
  unfold fX7_costOf
  refine ct_of (by decide +kernel) (Nat.le_of_ble_eq_true rfl) (fun p e R s m args below meth c hX => ?_)
  show JF _ True 4 0 0 _ 0 [(0, .ref a0), (1, .int p1)] [] u _
  refine jf_iconst (v := 0) hX dX7_costOf_0 (by decide) ?_
  refine jf_istore_n (lv' := [(2, .int (0 : Int32)), (0, .ref a0), (1, .int p1)]) hX dX7_costOf_1 rfl (by decide) rfl ?_
  refine jf_iconst (v := 0) hX dX7_costOf_2 (by decide) ?_
  refine jf_istore_n (lv' := [(3, .int (0 : Int32)), (2, .int (0 : Int32)), (0, .ref a0), (1, .int p1)]) hX dX7_costOf_3 rfl (by decide) rfl ?_
  refine jf_lv [2, 3, 1, 0] rfl ?_
  exact jgX7_costOf_4 hX N  N a0 p1 (0 : Int32) (0 : Int32) u
set_option maxRecDepth 20000 in
def gX7_lampsOf_4 (N : Nat)   : Nat → Nat → Int32 → Int32 → Int32 → SG → Option (Int32 × SG)
  | 0, _, _, _, _, _ => none
  | n + 1, x0, x1, x2, x3, u => if zK u x0 = 8 then (if (zI u x0 9) ≤ x3 then (some (x2, u))
  else (if zK u x0 = 8 then (Option.bind (zR u x0 2) fun q1 => (if zK u q1 = 22 then if x3 < 0 ∨ zN u q1 ≤ x3.toNatClampNeg then none else (if (zI u q1 x3.toNatClampNeg) = x1 then (bs (x2 ||| ((1 : Int32) <<< (x3 &&& 31))) fun v2 => ((gX7_lampsOf_4 N  n) x0 x1 v2 (x3 + (1 : Int32)) u))
  else ((gX7_lampsOf_4 N  n) x0 x1 x2 (x3 + (1 : Int32)) u)) else none)) else none)) else none
set_option maxRecDepth 20000 in
set_option maxHeartbeats 4000000 in
theorem jgX7_lampsOf_4   {X : XT} (hX : Cx X yX7_lampsOf cX7_lampsOf 4 (some .int) 1 0 0) (N : Nat)  : ∀ (n : Nat) (x0 : Nat) (x1 : Int32) (x2 : Int32) (x3 : Int32) (u : SG), JF X True 4 0 0 (jQ X vI 0 0) 4 [(0, .ref x0), (1, .int x1), (2, .int x2), (3, .int x3)] [] u (gX7_lampsOf_4 N   n x0 x1 x2 x3 u) := by
  intro n
  induction n with
  | zero => intros; intro r u9 h9; exact absurd h9 (by simp [gX7_lampsOf_4])
  | succ n ih =>
    intro x0 x1 x2 x3 u
    have hrec4 := ih
    rw [gX7_lampsOf_4]
    refine jf_iload_n hX dX7_lampsOf_4 3 rfl ?_
    refine jf_aload_n hX dX7_lampsOf_5 0 rfl ?_
    refine jf_getI hX ck_X7 9 wfl_405 (by decide) rfl dX7_lampsOf_6 ?_
    refine jf_icmp_ge (tgt := 34) hX dX7_lampsOf_9 (by decide) ?_ ?_
    · refine jf_iload_n hX dX7_lampsOf_34 2 rfl ?_
      exact jf_iret hX rfl (by decide) (by decide) dX7_lampsOf_35
    · refine jf_aload_n hX dX7_lampsOf_12 0 rfl ?_
      refine jf_getR hX ck_X7 2 wfl_406 (by decide) rfl dX7_lampsOf_13 ?_
      refine jf_nn (fun q1 => ?_)
      refine jf_iload_n hX dX7_lampsOf_16 3 rfl ?_
      refine jf_iald hX dX7_lampsOf_17 ?_
      refine jf_iload_n hX dX7_lampsOf_18 1 rfl ?_
      refine jf_icmp_ne (tgt := 28) hX dX7_lampsOf_19 (by decide) ?_ ?_
      · refine jf_iinc (v := 1) (lv' := [(3, .int (x3 + (1 : Int32))), (0, .ref x0), (1, .int x1), (2, .int x2)]) hX dX7_lampsOf_28 3 rfl (by decide) (by decide) rfl ?_
        refine jf_goto (tgt := 4) hX dX7_lampsOf_31 (by decide) ?_
        refine jf_lv [1, 2, 3, 0] rfl ?_
        exact hrec4 x0 x1 x2 (x3 + (1 : Int32)) u
      · refine jf_iload_n hX dX7_lampsOf_22 2 rfl ?_
        refine jf_iconst (v := 1) hX dX7_lampsOf_23 (by decide) ?_
        refine jf_iload_n hX dX7_lampsOf_24 3 rfl ?_
        refine jf_ishl hX dX7_lampsOf_25 ?_
        refine jf_ior hX dX7_lampsOf_26 ?_
        refine jf_nmI (fun v2 => ?_)
        refine jf_istore_n (lv' := [(2, .int v2), (0, .ref x0), (1, .int x1), (3, .int x3)]) hX dX7_lampsOf_27 rfl (by decide) rfl ?_
        refine jf_iinc (v := 1) (lv' := [(3, .int (x3 + (1 : Int32))), (2, .int v2), (0, .ref x0), (1, .int x1)]) hX dX7_lampsOf_28 3 rfl (by decide) (by decide) rfl ?_
        refine jf_goto (tgt := 4) hX dX7_lampsOf_31 (by decide) ?_
        refine jf_lv [2, 3, 1, 0] rfl ?_
        exact hrec4 x0 x1 v2 (x3 + (1 : Int32)) u
set_option maxRecDepth 20000 in
def fX7_lampsOf (N : Nat)  (a0 : Nat) (p1 : Int32) (u : SG) : Option (Int32 × SG) := gX7_lampsOf_4 N  N a0 p1 (0 : Int32) (0 : Int32) u
set_option maxRecDepth 20000 in
set_option maxHeartbeats 4000000 in
theorem kX7_lampsOf  (N : Nat)  (l : Launch) (D : va_G) (cT : Nat → ClassId) (z0 : Nat) (ks : Nat × Nat) (a0 : Nat) (p1 : Int32) (u : SG) : Ct l D cT z0 ks yX7_lampsOf cX7_lampsOf 4 (some .int) 1 0 0 vI [.ref a0, .int p1] u (fX7_lampsOf N  a0 p1 u) := by
  unfold fX7_lampsOf
  refine ct_of (by decide +kernel) (Nat.le_of_ble_eq_true rfl) (fun p e R s m args below meth c hX => ?_)
  show JF _ True 4 0 0 _ 0 [(0, .ref a0), (1, .int p1)] [] u _
  refine jf_iconst (v := 0) hX dX7_lampsOf_0 (by decide) ?_
  refine jf_istore_n (lv' := [(2, .int (0 : Int32)), (0, .ref a0), (1, .int p1)]) hX dX7_lampsOf_1 rfl (by decide) rfl ?_
  refine jf_iconst (v := 0) hX dX7_lampsOf_2 (by decide) ?_
  refine jf_istore_n (lv' := [(3, .int (0 : Int32)), (2, .int (0 : Int32)), (0, .ref a0), (1, .int p1)]) hX dX7_lampsOf_3 rfl (by decide) rfl ?_
  refine jf_lv [2, 3, 1, 0] rfl ?_
  exact jgX7_lampsOf_4 hX N  N a0 p1 (0 : Int32) (0 : Int32) u
set_option maxRecDepth 20000 in
def fX3_valueOf (N : Nat)  (p1 : Int32) (p2 : Nat) (p3 : Nat) (p4 : Int32) (u : SG) : Option (Int64 × SG) := if zK u p3 = 3 then (if zK u p3 = 3 then cl (fX2_burningAt N p3 p2 (zI u p3 0) u) fun r1 u2 => (if p1 = (0 : Int32) then (some (p4.toInt64, u2))
  else if p1 = (1 : Int32) then (if zK u2 p3 = 3 then (some ((zI u2 p3 0).toInt64, u2)) else none)
  else if p1 = (2 : Int32) then (if zK u2 p3 = 3 then (some ((zI u2 p3 1).toInt64, u2)) else none)
  else if p1 = (3 : Int32) then (if zK u2 p2 = 8 then (Option.bind (zR u2 p2 0) fun q3 => (if zK u2 q3 = 22 then if p4 < 0 ∨ zN u2 q3 ≤ p4.toNatClampNeg then none else (some ((zI u2 q3 p4.toNatClampNeg).toInt64, u2)) else none)) else none)
  else if p1 = (4 : Int32) then (if zK u2 p2 = 8 then (Option.bind (zR u2 p2 1) fun q4 => (if zK u2 q4 = 22 then if p4 < 0 ∨ zN u2 q4 ≤ p4.toNatClampNeg then none else (some ((zI u2 q4 p4.toNatClampNeg).toInt64, u2)) else none)) else none)
  else if p1 = (5 : Int32) then (if zK u2 p3 = 3 then (Option.bind (zR u2 p3 5) fun q5 => (if zK u2 q5 = 22 then if p4 < 0 ∨ zN u2 q5 ≤ p4.toNatClampNeg then none else (some ((zI u2 q5 p4.toNatClampNeg).toInt64, u2)) else none)) else none)
  else if p1 = (6 : Int32) then (if zK u2 p2 = 8 then (if zK u2 p3 = 3 then (some (((zI u2 p2 6) - (zI u2 p3 0)).toInt64, u2)) else none) else none)
  else if p1 = (7 : Int32) then (if zK u2 p2 = 8 then cl (fX7_costOf N p2 r1 u2) fun r6 u7 => (some (r6.toInt64, u7)) else none)
  else if p1 = (8 : Int32) then (if zK u2 p3 = 3 then (cl (fJ6_bitCount_0f7a4 N ((zI u2 p3 2) &&& (((1 : Int32) <<< (p4 &&& 31)) ^^^ (-1 : Int32))) u2) fun r8 u9 => (some (r8.toInt64, u9))) else none)
  else if p1 = (9 : Int32) then (if zK u2 p3 = 3 then (cl (fX10_bitOf N (zI u2 p3 2) p4 u2) fun r10 u11 => (some (r10.toInt64, u11))) else none)
  else if p1 = (10 : Int32) then (if zK u2 p3 = 3 then (Option.bind (zR u2 p3 7) fun q12 => (if zK u2 q12 = 23 then if p4 < 0 ∨ zN u2 q12 ≤ p4.toNatClampNeg then none else (if (60 : Int64) = 0 then none else (some ((zL u2 q12 p4.toNatClampNeg) / (60 : Int64), u2))) else none)) else none)
  else if p1 = (11 : Int32) then (if zK u2 p3 = 3 then (Option.bind (zR u2 p3 6) fun q13 => (if zK u2 q13 = 22 then if p4 < 0 ∨ zN u2 q13 ≤ p4.toNatClampNeg then none else (some ((zI u2 q13 p4.toNatClampNeg).toInt64, u2)) else none)) else none)
  else if p1 = (12 : Int32) then (if zK u2 p2 = 8 then cl (fX7_lampsOf N p2 p4 u2) fun r14 u15 => (if zK u15 p2 = 8 then cl (fX7_costOf N p2 (r1 &&& r14) u15) fun r16 u17 => (some (r16.toInt64, u17)) else none) else none)
  else (some ((0 : Int64), u2))) else none) else none
set_option maxRecDepth 20000 in
set_option maxHeartbeats 4000000 in
theorem kX3_valueOf  (N : Nat)  (l : Launch) (D : va_G) (cT : Nat → ClassId) (z0 : Nat) (ks : Nat × Nat) (p1 : Int32) (p2 : Nat) (p3 : Nat) (p4 : Int32) (u : SG) : Ct l D cT z0 ks yX3_valueOf cX3_valueOf 5 (some .long) 3 0 0 vL [.int p1, .ref p2, .ref p3, .int p4] u (fX3_valueOf N  p1 p2 p3 p4 u) := by
  unfold fX3_valueOf
  refine ct_of (by decide +kernel) (Nat.le_of_ble_eq_true rfl) (fun p e R s m args below meth c hX => ?_)
  show JF _ True 5 0 0 _ 0 [(0, .int p1), (1, .ref p2), (2, .ref p3), (3, .int p4)] [] u _
  refine jf_aload_n hX dX3_valueOf_0 2 rfl ?_
  refine jf_aload_n hX dX3_valueOf_1 1 rfl ?_
  refine jf_aload_n hX dX3_valueOf_2 2 rfl ?_
  refine jf_getI hX ck_X2 0 wfl_407 (by decide) rfl dX3_valueOf_3 ?_
  refine jf_callV (As := [.ref p2, .int (zI u p3 0)]) (st := []) hX mo_X2_burningAt wml_408 winst_409 wsel_410 2 ck_X2 rfl (fun l D cT z0 ks => kX2_burningAt N l D cT z0 ks p3 p2 (zI u p3 0) u) (by decide) (by decide) (by decide) (by decide) (Nat.le_of_ble_eq_true rfl) rfl rfl dX3_valueOf_6 (fun r1 u2 => ?_)
  refine jf_istore (lv' := [(4, .int r1), (0, .int p1), (1, .ref p2), (2, .ref p3), (3, .int p4)]) hX dX3_valueOf_9 (by decide) rfl ?_
  refine jf_iload_n hX dX3_valueOf_11 1 rfl ?_
  refine jf_tcase (k := 0) (kv := 0) (tgt := 80) hX dX3_valueOf_12 rfl (by decide) (by decide) rfl (by decide) ?_ (fun hn0 => ?_)
  · refine jf_iload_n hX dX3_valueOf_80 4 rfl ?_
    refine jf_i2l hX dX3_valueOf_81 ?_
    exact jf_lret hX rfl (by decide) (by decide) dX3_valueOf_82
  refine jf_tcase (k := 1) (kv := 1) (tgt := 83) hX dX3_valueOf_12 rfl (by decide) (by decide) rfl (by decide) ?_ (fun hn1 => ?_)
  · refine jf_aload_n hX dX3_valueOf_83 3 rfl ?_
    refine jf_getI hX ck_X2 0 wfl_407 (by decide) rfl dX3_valueOf_84 ?_
    refine jf_i2l hX dX3_valueOf_87 ?_
    exact jf_lret hX rfl (by decide) (by decide) dX3_valueOf_88
  refine jf_tcase (k := 2) (kv := 2) (tgt := 89) hX dX3_valueOf_12 rfl (by decide) (by decide) rfl (by decide) ?_ (fun hn2 => ?_)
  · refine jf_aload_n hX dX3_valueOf_89 3 rfl ?_
    refine jf_getI hX ck_X2 1 wfl_411 (by decide) rfl dX3_valueOf_90 ?_
    refine jf_i2l hX dX3_valueOf_93 ?_
    exact jf_lret hX rfl (by decide) (by decide) dX3_valueOf_94
  refine jf_tcase (k := 3) (kv := 3) (tgt := 95) hX dX3_valueOf_12 rfl (by decide) (by decide) rfl (by decide) ?_ (fun hn3 => ?_)
  · refine jf_aload_n hX dX3_valueOf_95 2 rfl ?_
    refine jf_getR hX ck_X7 0 wfl_412 (by decide) rfl dX3_valueOf_96 ?_
    refine jf_nn (fun q3 => ?_)
    refine jf_iload_n hX dX3_valueOf_99 4 rfl ?_
    refine jf_iald hX dX3_valueOf_100 ?_
    refine jf_i2l hX dX3_valueOf_101 ?_
    exact jf_lret hX rfl (by decide) (by decide) dX3_valueOf_102
  refine jf_tcase (k := 4) (kv := 4) (tgt := 103) hX dX3_valueOf_12 rfl (by decide) (by decide) rfl (by decide) ?_ (fun hn4 => ?_)
  · refine jf_aload_n hX dX3_valueOf_103 2 rfl ?_
    refine jf_getR hX ck_X7 1 wfl_413 (by decide) rfl dX3_valueOf_104 ?_
    refine jf_nn (fun q4 => ?_)
    refine jf_iload_n hX dX3_valueOf_107 4 rfl ?_
    refine jf_iald hX dX3_valueOf_108 ?_
    refine jf_i2l hX dX3_valueOf_109 ?_
    exact jf_lret hX rfl (by decide) (by decide) dX3_valueOf_110
  refine jf_tcase (k := 5) (kv := 5) (tgt := 111) hX dX3_valueOf_12 rfl (by decide) (by decide) rfl (by decide) ?_ (fun hn5 => ?_)
  · refine jf_aload_n hX dX3_valueOf_111 3 rfl ?_
    refine jf_getR hX ck_X2 5 wfl_414 (by decide) rfl dX3_valueOf_112 ?_
    refine jf_nn (fun q5 => ?_)
    refine jf_iload_n hX dX3_valueOf_115 4 rfl ?_
    refine jf_iald hX dX3_valueOf_116 ?_
    refine jf_i2l hX dX3_valueOf_117 ?_
    exact jf_lret hX rfl (by decide) (by decide) dX3_valueOf_118
  refine jf_tcase (k := 6) (kv := 6) (tgt := 119) hX dX3_valueOf_12 rfl (by decide) (by decide) rfl (by decide) ?_ (fun hn6 => ?_)
  · refine jf_aload_n hX dX3_valueOf_119 2 rfl ?_
    refine jf_getI hX ck_X7 6 wfl_415 (by decide) rfl dX3_valueOf_120 ?_
    refine jf_aload_n hX dX3_valueOf_123 3 rfl ?_
    refine jf_getI hX ck_X2 0 wfl_407 (by decide) rfl dX3_valueOf_124 ?_
    refine jf_isub hX dX3_valueOf_127 ?_
    refine jf_i2l hX dX3_valueOf_128 ?_
    exact jf_lret hX rfl (by decide) (by decide) dX3_valueOf_129
  refine jf_tcase (k := 7) (kv := 7) (tgt := 130) hX dX3_valueOf_12 rfl (by decide) (by decide) rfl (by decide) ?_ (fun hn7 => ?_)
  · refine jf_aload_n hX dX3_valueOf_130 2 rfl ?_
    refine jf_iload hX dX3_valueOf_131 0 rfl ?_
    refine jf_callV (As := [.int r1]) (st := []) hX mo_X7_costOf wml_416 winst_417 wsel_418 7 ck_X7 rfl (fun l D cT z0 ks => kX7_costOf N l D cT z0 ks p2 r1 u2) (by decide) (by decide) (by decide) (by decide) (Nat.le_of_ble_eq_true rfl) rfl rfl dX3_valueOf_133 (fun r6 u7 => ?_)
    refine jf_i2l hX dX3_valueOf_136 ?_
    exact jf_lret hX rfl (by decide) (by decide) dX3_valueOf_137
  refine jf_tcase (k := 8) (kv := 8) (tgt := 138) hX dX3_valueOf_12 rfl (by decide) (by decide) rfl (by decide) ?_ (fun hn8 => ?_)
  · refine jf_aload_n hX dX3_valueOf_138 3 rfl ?_
    refine jf_getI hX ck_X2 2 wfl_419 (by decide) rfl dX3_valueOf_139 ?_
    refine jf_iconst (v := 1) hX dX3_valueOf_142 (by decide) ?_
    refine jf_iload_n hX dX3_valueOf_143 4 rfl ?_
    refine jf_ishl hX dX3_valueOf_144 ?_
    refine jf_iconst (v := -1) hX dX3_valueOf_145 (by decide) ?_
    refine jf_ixor hX dX3_valueOf_146 ?_
    refine jf_iand hX dX3_valueOf_147 ?_
    refine jf_callS (As := [.int ((zI u2 p3 2) &&& (((1 : Int32) <<< (p4 &&& 31)) ^^^ (-1 : Int32)))]) (st := []) hX mo_J6_bitCount_0f7a4 wml_420 wstat_381 rfl (fun l D cT z0 ks => kJ6_bitCount_0f7a4 N l D cT z0 ks ((zI u2 p3 2) &&& (((1 : Int32) <<< (p4 &&& 31)) ^^^ (-1 : Int32))) u2) (by decide) (by decide) (by decide) (by decide) (Nat.le_of_ble_eq_true rfl) rfl rfl dX3_valueOf_148 (fun r8 u9 => ?_)
    refine jf_i2l hX dX3_valueOf_151 ?_
    exact jf_lret hX rfl (by decide) (by decide) dX3_valueOf_152
  refine jf_tcase (k := 9) (kv := 9) (tgt := 153) hX dX3_valueOf_12 rfl (by decide) (by decide) rfl (by decide) ?_ (fun hn9 => ?_)
  · refine jf_aload_n hX dX3_valueOf_153 3 rfl ?_
    refine jf_getI hX ck_X2 2 wfl_419 (by decide) rfl dX3_valueOf_154 ?_
    refine jf_iload_n hX dX3_valueOf_157 4 rfl ?_
    refine jf_callSN (As := [.int (zI u2 p3 2), .int p4]) (st := []) hX mo_X10_bitOf wnest_421 wstat_383 rfl (fun l D cT z0 ks => kX10_bitOf N l D cT z0 ks (zI u2 p3 2) p4 u2) (by decide) (by decide) (by decide) (by decide) (Nat.le_of_ble_eq_true rfl) rfl rfl dX3_valueOf_158 (fun r10 u11 => ?_)
    refine jf_i2l hX dX3_valueOf_161 ?_
    exact jf_lret hX rfl (by decide) (by decide) dX3_valueOf_162
  refine jf_tcase (k := 10) (kv := 10) (tgt := 163) hX dX3_valueOf_12 rfl (by decide) (by decide) rfl (by decide) ?_ (fun hn10 => ?_)
  · refine jf_aload_n hX dX3_valueOf_163 3 rfl ?_
    refine jf_getR hX ck_X2 7 wfl_422 (by decide) rfl dX3_valueOf_164 ?_
    refine jf_nn (fun q12 => ?_)
    refine jf_iload_n hX dX3_valueOf_167 4 rfl ?_
    refine jf_lald hX dX3_valueOf_168 ?_
    refine jf_ldc2 (v := 60) hX dX3_valueOf_169 wconl_423 ?_
    refine jf_ldiv hX dX3_valueOf_172 ?_
    exact jf_lret hX rfl (by decide) (by decide) dX3_valueOf_173
  refine jf_tcase (k := 11) (kv := 11) (tgt := 174) hX dX3_valueOf_12 rfl (by decide) (by decide) rfl (by decide) ?_ (fun hn11 => ?_)
  · refine jf_aload_n hX dX3_valueOf_174 3 rfl ?_
    refine jf_getR hX ck_X2 6 wfl_424 (by decide) rfl dX3_valueOf_175 ?_
    refine jf_nn (fun q13 => ?_)
    refine jf_iload_n hX dX3_valueOf_178 4 rfl ?_
    refine jf_iald hX dX3_valueOf_179 ?_
    refine jf_i2l hX dX3_valueOf_180 ?_
    exact jf_lret hX rfl (by decide) (by decide) dX3_valueOf_181
  refine jf_tcase (k := 12) (kv := 12) (tgt := 182) hX dX3_valueOf_12 rfl (by decide) (by decide) rfl (by decide) ?_ (fun hn12 => ?_)
  · refine jf_aload_n hX dX3_valueOf_182 2 rfl ?_
    refine jf_iload hX dX3_valueOf_183 0 rfl ?_
    refine jf_aload_n hX dX3_valueOf_185 2 rfl ?_
    refine jf_iload_n hX dX3_valueOf_186 4 rfl ?_
    refine jf_callV (As := [.int p4]) (st := [.int r1, .ref p2]) hX mo_X7_lampsOf wml_425 winst_426 wsel_427 7 ck_X7 rfl (fun l D cT z0 ks => kX7_lampsOf N l D cT z0 ks p2 p4 u2) (by decide) (by decide) (by decide) (by decide) (Nat.le_of_ble_eq_true rfl) rfl rfl dX3_valueOf_187 (fun r14 u15 => ?_)
    refine jf_iand hX dX3_valueOf_190 ?_
    refine jf_callV (As := [.int (r1 &&& r14)]) (st := []) hX mo_X7_costOf wml_416 winst_417 wsel_418 7 ck_X7 rfl (fun l D cT z0 ks => kX7_costOf N l D cT z0 ks p2 (r1 &&& r14) u15) (by decide) (by decide) (by decide) (by decide) (Nat.le_of_ble_eq_true rfl) rfl rfl dX3_valueOf_191 (fun r16 u17 => ?_)
    refine jf_i2l hX dX3_valueOf_194 ?_
    exact jf_lret hX rfl (by decide) (by decide) dX3_valueOf_195
  refine jf_tdef (tgt := 196) hX dX3_valueOf_12 (by rcases Int.lt_or_le p1.toInt (0) with h9 | h9; exact Or.inl h9; exact Or.inr (istep (istep (istep (istep (istep (istep (istep (istep (istep (istep (istep (istep (istep h9 (lv_neT (a := 0) hn0 rfl)) (lv_neT (a := 1) hn1 rfl)) (lv_neT (a := 2) hn2 rfl)) (lv_neT (a := 3) hn3 rfl)) (lv_neT (a := 4) hn4 rfl)) (lv_neT (a := 5) hn5 rfl)) (lv_neT (a := 6) hn6 rfl)) (lv_neT (a := 7) hn7 rfl)) (lv_neT (a := 8) hn8 rfl)) (lv_neT (a := 9) hn9 rfl)) (lv_neT (a := 10) hn10 rfl)) (lv_neT (a := 11) hn11 rfl)) (lv_neT (a := 12) hn12 rfl))) (by decide) ?_
  refine jf_lconst (v := 0) hX dX3_valueOf_196 (by decide) ?_
  exact jf_lret hX rfl (by decide) (by decide) dX3_valueOf_197
set_option maxRecDepth 20000 in
def fX3_pop (N : Nat)  (a0 : Nat) (u : SG) : Option (Int64 × SG) := if zK u a0 = 4 then (if (zI u a0 1) ≤ 0 then (some ((0 : Int64), u))
  else (if zK u a0 = 4 then (if (zI u a0 1) ≤ (64 : Int32) then (if zK u a0 = 4 then (if zK u a0 = 4 then bs (sI u a0 1 ((zI u a0 1) - (1 : Int32))) fun u1 => (if zK u1 a0 = 4 then (Option.bind (zR u1 a0 0) fun q2 => (if zK u1 a0 = 4 then (if zK u1 q2 = 23 then if (zI u1 a0 1) < 0 ∨ zN u1 q2 ≤ (zI u1 a0 1).toNatClampNeg then none else (some (zL u1 q2 (zI u1 a0 1).toNatClampNeg, u1)) else none) else none)) else none) else none) else none)
  else (some ((0 : Int64), u))) else none)) else none
set_option maxRecDepth 20000 in
set_option maxHeartbeats 4000000 in
theorem kX3_pop  (N : Nat)  (l : Launch) (D : va_G) (cT : Nat → ClassId) (z0 : Nat) (ks : Nat × Nat) (a0 : Nat) (u : SG) : Ct l D cT z0 ks yX3_pop cX3_pop 1 (some .long) 1 0 0 vL [.ref a0] u (fX3_pop N  a0 u) := by
  unfold fX3_pop
  refine ct_of (by decide +kernel) (Nat.le_of_ble_eq_true rfl) (fun p e R s m args below meth c hX => ?_)
  show JF _ True 1 0 0 _ 0 [(0, .ref a0)] [] u _
  refine jf_aload_n hX dX3_pop_0 0 rfl ?_
  refine jf_getI hX ck_X3 1 wfl_399 (by decide) rfl dX3_pop_1 ?_
  refine jf_if_le (tgt := 16) hX dX3_pop_4 (by decide) ?_ ?_
  · refine jf_lconst (v := 0) hX dX3_pop_16 (by decide) ?_
    exact jf_lret hX rfl (by decide) (by decide) dX3_pop_17
  · refine jf_aload_n hX dX3_pop_7 0 rfl ?_
    refine jf_getI hX ck_X3 1 wfl_399 (by decide) rfl dX3_pop_8 ?_
    refine jf_bipush (v := 64) hX dX3_pop_11 (by decide) ?_
    refine jf_icmp_le (tgt := 18) hX dX3_pop_13 (by decide) ?_ ?_
    · refine jf_aload_n hX dX3_pop_18 0 rfl ?_
      refine jf_dup hX dX3_pop_19 rfl ?_
      refine jf_getI hX ck_X3 1 wfl_399 (by decide) rfl dX3_pop_20 ?_
      refine jf_iconst (v := 1) hX dX3_pop_23 (by decide) ?_
      refine jf_isub hX dX3_pop_24 ?_
      refine jf_putI hX trivial ck_X3 1 wfl_399 (by decide) rfl rfl rfl dX3_pop_25 (fun u1 => ?_)
      refine jf_aload_n hX dX3_pop_28 0 rfl ?_
      refine jf_getR hX ck_X3 0 wfl_398 (by decide) rfl dX3_pop_29 ?_
      refine jf_nn (fun q2 => ?_)
      refine jf_aload_n hX dX3_pop_32 0 rfl ?_
      refine jf_getI hX ck_X3 1 wfl_399 (by decide) rfl dX3_pop_33 ?_
      refine jf_lald hX dX3_pop_36 ?_
      exact jf_lret hX rfl (by decide) (by decide) dX3_pop_37
    · refine jf_lconst (v := 0) hX dX3_pop_16 (by decide) ?_
      exact jf_lret hX rfl (by decide) (by decide) dX3_pop_17
set_option maxRecDepth 20000 in
def fX4_combine (N : Nat)  (p1 : Int32) (p2 : Int64) (p3 : Int64) (u : SG) : Option (Int64 × SG) := if p1 = (-31 : Int32) then (some (p2 ||| p3, u))
  else if p1 = (-30 : Int32) then (some (p2 &&& p3, u))
  else if p1 = (-29 : Int32) then (if (lg_cmp p2 p3) ≤ 0 then (some ((0 : Int64), u))
  else (some ((1 : Int64), u)))
  else if p1 = (-28 : Int32) then (if (lg_cmp p2 p3) < 0 then (some ((0 : Int64), u))
  else (some ((1 : Int64), u)))
  else if p1 = (-27 : Int32) then (if (lg_cmp p2 p3) = 0 then (some ((1 : Int64), u))
  else (some ((0 : Int64), u)))
  else if p1 = (-26 : Int32) then (if 0 < (lg_cmp p2 p3) then (some ((0 : Int64), u))
  else (some ((1 : Int64), u)))
  else if p1 = (-25 : Int32) then (if 0 ≤ (lg_cmp p2 p3) then (some ((0 : Int64), u))
  else (some ((1 : Int64), u)))
  else if p1 = (-24 : Int32) then (if (lg_cmp p3 (0 : Int64)) = 0 then (some ((0 : Int64), u))
  else (if p3 = 0 then none else (some (p2 - p2 / p3 * p3, u))))
  else if p1 = (-23 : Int32) then (if (lg_cmp p3 (0 : Int64)) = 0 then (some ((0 : Int64), u))
  else (if p3 = 0 then none else (some (p2 / p3, u))))
  else if p1 = (-22 : Int32) then (some (p2 * p3, u))
  else if p1 = (-21 : Int32) then (some (p2 - p3, u))
  else if p1 = (-20 : Int32) then (some (p2 + p3, u))
  else (some ((0 : Int64), u))
set_option maxRecDepth 20000 in
set_option maxHeartbeats 4000000 in
theorem kX4_combine  (N : Nat)  (l : Launch) (D : va_G) (cT : Nat → ClassId) (z0 : Nat) (ks : Nat × Nat) (p1 : Int32) (p2 : Int64) (p3 : Int64) (u : SG) : Ct l D cT z0 ks yX4_combine cX4_combine 5 (some .long) 1 0 0 vL [.int p1, .long p2, .long p3] u (fX4_combine N  p1 p2 p3 u) := by
  unfold fX4_combine
  refine ct_of (by decide +kernel) (Nat.le_of_ble_eq_true rfl) (fun p e R s m args below meth c hX => ?_)
  show JF _ True 5 0 0 _ 0 [(0, .int p1), (1, .long p2), (3, .long p3)] [] u _
  refine jf_iload_n hX dX4_combine_0 0 rfl ?_
  refine jf_tcase (k := -31) (kv := -31) (tgt := 168) hX dX4_combine_1 rfl (by decide) (by decide) rfl (by decide) ?_ (fun hnm31 => ?_)
  · refine jf_lload_n hX dX4_combine_168 1 rfl ?_
    refine jf_lload_n hX dX4_combine_169 2 rfl ?_
    refine jf_lor hX dX4_combine_170 ?_
    exact jf_lret hX rfl (by decide) (by decide) dX4_combine_171
  refine jf_tcase (k := -30) (kv := -30) (tgt := 164) hX dX4_combine_1 rfl (by decide) (by decide) rfl (by decide) ?_ (fun hnm30 => ?_)
  · refine jf_lload_n hX dX4_combine_164 1 rfl ?_
    refine jf_lload_n hX dX4_combine_165 2 rfl ?_
    refine jf_land hX dX4_combine_166 ?_
    exact jf_lret hX rfl (by decide) (by decide) dX4_combine_167
  refine jf_tcase (k := -29) (kv := -29) (tgt := 152) hX dX4_combine_1 rfl (by decide) (by decide) rfl (by decide) ?_ (fun hnm29 => ?_)
  · refine jf_lload_n hX dX4_combine_152 1 rfl ?_
    refine jf_lload_n hX dX4_combine_153 2 rfl ?_
    refine jf_lcmp hX dX4_combine_154 ?_
    refine jf_if_le (tgt := 162) hX dX4_combine_155 (by decide) ?_ ?_
    · refine jf_lconst (v := 0) hX dX4_combine_162 (by decide) ?_
      exact jf_lret hX rfl (by decide) (by decide) dX4_combine_163
    · refine jf_lconst (v := 1) hX dX4_combine_158 (by decide) ?_
      refine jf_goto (tgt := 163) hX dX4_combine_159 (by decide) ?_
      exact jf_lret hX rfl (by decide) (by decide) dX4_combine_163
  refine jf_tcase (k := -28) (kv := -28) (tgt := 140) hX dX4_combine_1 rfl (by decide) (by decide) rfl (by decide) ?_ (fun hnm28 => ?_)
  · refine jf_lload_n hX dX4_combine_140 1 rfl ?_
    refine jf_lload_n hX dX4_combine_141 2 rfl ?_
    refine jf_lcmp hX dX4_combine_142 ?_
    refine jf_if_lt (tgt := 150) hX dX4_combine_143 (by decide) ?_ ?_
    · refine jf_lconst (v := 0) hX dX4_combine_150 (by decide) ?_
      exact jf_lret hX rfl (by decide) (by decide) dX4_combine_151
    · refine jf_lconst (v := 1) hX dX4_combine_146 (by decide) ?_
      refine jf_goto (tgt := 151) hX dX4_combine_147 (by decide) ?_
      exact jf_lret hX rfl (by decide) (by decide) dX4_combine_151
  refine jf_tcase (k := -27) (kv := -27) (tgt := 128) hX dX4_combine_1 rfl (by decide) (by decide) rfl (by decide) ?_ (fun hnm27 => ?_)
  · refine jf_lload_n hX dX4_combine_128 1 rfl ?_
    refine jf_lload_n hX dX4_combine_129 2 rfl ?_
    refine jf_lcmp hX dX4_combine_130 ?_
    refine jf_if_ne (tgt := 138) hX dX4_combine_131 (by decide) ?_ ?_
    · refine jf_lconst (v := 0) hX dX4_combine_138 (by decide) ?_
      exact jf_lret hX rfl (by decide) (by decide) dX4_combine_139
    · refine jf_lconst (v := 1) hX dX4_combine_134 (by decide) ?_
      refine jf_goto (tgt := 139) hX dX4_combine_135 (by decide) ?_
      exact jf_lret hX rfl (by decide) (by decide) dX4_combine_139
  refine jf_tcase (k := -26) (kv := -26) (tgt := 116) hX dX4_combine_1 rfl (by decide) (by decide) rfl (by decide) ?_ (fun hnm26 => ?_)
  · refine jf_lload_n hX dX4_combine_116 1 rfl ?_
    refine jf_lload_n hX dX4_combine_117 2 rfl ?_
    refine jf_lcmp hX dX4_combine_118 ?_
    refine jf_if_gt (tgt := 126) hX dX4_combine_119 (by decide) ?_ ?_
    · refine jf_lconst (v := 0) hX dX4_combine_126 (by decide) ?_
      exact jf_lret hX rfl (by decide) (by decide) dX4_combine_127
    · refine jf_lconst (v := 1) hX dX4_combine_122 (by decide) ?_
      refine jf_goto (tgt := 127) hX dX4_combine_123 (by decide) ?_
      exact jf_lret hX rfl (by decide) (by decide) dX4_combine_127
  refine jf_tcase (k := -25) (kv := -25) (tgt := 104) hX dX4_combine_1 rfl (by decide) (by decide) rfl (by decide) ?_ (fun hnm25 => ?_)
  · refine jf_lload_n hX dX4_combine_104 1 rfl ?_
    refine jf_lload_n hX dX4_combine_105 2 rfl ?_
    refine jf_lcmp hX dX4_combine_106 ?_
    refine jf_if_ge (tgt := 114) hX dX4_combine_107 (by decide) ?_ ?_
    · refine jf_lconst (v := 0) hX dX4_combine_114 (by decide) ?_
      exact jf_lret hX rfl (by decide) (by decide) dX4_combine_115
    · refine jf_lconst (v := 1) hX dX4_combine_110 (by decide) ?_
      refine jf_goto (tgt := 115) hX dX4_combine_111 (by decide) ?_
      exact jf_lret hX rfl (by decide) (by decide) dX4_combine_115
  refine jf_tcase (k := -24) (kv := -24) (tgt := 90) hX dX4_combine_1 rfl (by decide) (by decide) rfl (by decide) ?_ (fun hnm24 => ?_)
  · refine jf_lload_n hX dX4_combine_90 2 rfl ?_
    refine jf_lconst (v := 0) hX dX4_combine_91 (by decide) ?_
    refine jf_lcmp hX dX4_combine_92 ?_
    refine jf_if_ne (tgt := 100) hX dX4_combine_93 (by decide) ?_ ?_
    · refine jf_lload_n hX dX4_combine_100 1 rfl ?_
      refine jf_lload_n hX dX4_combine_101 2 rfl ?_
      refine jf_lrem hX dX4_combine_102 ?_
      exact jf_lret hX rfl (by decide) (by decide) dX4_combine_103
    · refine jf_lconst (v := 0) hX dX4_combine_96 (by decide) ?_
      refine jf_goto (tgt := 103) hX dX4_combine_97 (by decide) ?_
      exact jf_lret hX rfl (by decide) (by decide) dX4_combine_103
  refine jf_tcase (k := -23) (kv := -23) (tgt := 76) hX dX4_combine_1 rfl (by decide) (by decide) rfl (by decide) ?_ (fun hnm23 => ?_)
  · refine jf_lload_n hX dX4_combine_76 2 rfl ?_
    refine jf_lconst (v := 0) hX dX4_combine_77 (by decide) ?_
    refine jf_lcmp hX dX4_combine_78 ?_
    refine jf_if_ne (tgt := 86) hX dX4_combine_79 (by decide) ?_ ?_
    · refine jf_lload_n hX dX4_combine_86 1 rfl ?_
      refine jf_lload_n hX dX4_combine_87 2 rfl ?_
      refine jf_ldiv hX dX4_combine_88 ?_
      exact jf_lret hX rfl (by decide) (by decide) dX4_combine_89
    · refine jf_lconst (v := 0) hX dX4_combine_82 (by decide) ?_
      refine jf_goto (tgt := 89) hX dX4_combine_83 (by decide) ?_
      exact jf_lret hX rfl (by decide) (by decide) dX4_combine_89
  refine jf_tcase (k := -22) (kv := -22) (tgt := 72) hX dX4_combine_1 rfl (by decide) (by decide) rfl (by decide) ?_ (fun hnm22 => ?_)
  · refine jf_lload_n hX dX4_combine_72 1 rfl ?_
    refine jf_lload_n hX dX4_combine_73 2 rfl ?_
    refine jf_lmul hX dX4_combine_74 ?_
    exact jf_lret hX rfl (by decide) (by decide) dX4_combine_75
  refine jf_tcase (k := -21) (kv := -21) (tgt := 68) hX dX4_combine_1 rfl (by decide) (by decide) rfl (by decide) ?_ (fun hnm21 => ?_)
  · refine jf_lload_n hX dX4_combine_68 1 rfl ?_
    refine jf_lload_n hX dX4_combine_69 2 rfl ?_
    refine jf_lsub hX dX4_combine_70 ?_
    exact jf_lret hX rfl (by decide) (by decide) dX4_combine_71
  refine jf_tcase (k := -20) (kv := -20) (tgt := 64) hX dX4_combine_1 rfl (by decide) (by decide) rfl (by decide) ?_ (fun hnm20 => ?_)
  · refine jf_lload_n hX dX4_combine_64 1 rfl ?_
    refine jf_lload_n hX dX4_combine_65 2 rfl ?_
    refine jf_ladd hX dX4_combine_66 ?_
    exact jf_lret hX rfl (by decide) (by decide) dX4_combine_67
  refine jf_tdef (tgt := 172) hX dX4_combine_1 (by have q0 := lv_neT (a := -31) hnm31 (by decide); have q1 := lv_neT (a := -30) hnm30 (by decide); have q2 := lv_neT (a := -29) hnm29 (by decide); have q3 := lv_neT (a := -28) hnm28 (by decide); have q4 := lv_neT (a := -27) hnm27 (by decide); have q5 := lv_neT (a := -26) hnm26 (by decide); have q6 := lv_neT (a := -25) hnm25 (by decide); have q7 := lv_neT (a := -24) hnm24 (by decide); have q8 := lv_neT (a := -23) hnm23 (by decide); have q9 := lv_neT (a := -22) hnm22 (by decide); have q10 := lv_neT (a := -21) hnm21 (by decide); have q11 := lv_neT (a := -20) hnm20 (by decide); omega) (by decide) ?_
  refine jf_lconst (v := 0) hX dX4_combine_172 (by decide) ?_
  exact jf_lret hX rfl (by decide) (by decide) dX4_combine_173
set_option maxRecDepth 20000 in
def gX3_answer_120 (N : Nat)  (rec8 : Nat → Nat → Nat → Nat → Int32 → Int32 → SG → Option (Int64 × SG)) (x0 : Nat) (x1 : Nat) (x2 : Nat) (x3 : Nat) (x4 : Int32) (x5 : Int32) (s0 : Int32) (u : SG) : Option (Int64 × SG) := if zK u x0 = 4 then cl (fX3_pop N x0 u) fun r1 u2 => (if s0 = 0 then (rec8 x0 x1 x2 x3 x4 (x5 + (1 : Int32)) u2)
  else (some (r1, u2))) else none
set_option maxRecDepth 20000 in
set_option maxHeartbeats 4000000 in
theorem jgX3_answer_120 {rec8 : Nat → Nat → Nat → Nat → Int32 → Int32 → SG → Option (Int64 × SG)}  {X : XT} (hX : Cx X yX3_answer cX3_answer 10 (some .long) 4 0 0) (N : Nat) (hrec8 : ∀ (x0 : Nat) (x1 : Nat) (x2 : Nat) (x3 : Nat) (x4 : Int32) (x5 : Int32)  (u : SG), JF X True 10 0 0 (jQ X vL 0 0) 8 [(0, .ref x0), (1, .ref x1), (2, .ref x2), (3, .ref x3), (4, .int x4), (5, .int x5)] [] u (rec8 x0 x1 x2 x3 x4 x5  u)) (x0 : Nat) (x1 : Nat) (x2 : Nat) (x3 : Nat) (x4 : Int32) (x5 : Int32) (s0 : Int32) (u : SG) : JF X True 10 0 0 (jQ X vL 0 0) 120 [(0, .ref x0), (1, .ref x1), (2, .ref x2), (3, .ref x3), (4, .int x4), (5, .int x5)] [.int s0] u (gX3_answer_120 N  rec8 x0 x1 x2 x3 x4 x5 s0 u) := by
  unfold gX3_answer_120
  refine jf_istore (lv' := [(7, .int s0), (0, .ref x0), (1, .ref x1), (2, .ref x2), (3, .ref x3), (4, .int x4), (5, .int x5)]) hX dX3_answer_120 (by decide) rfl ?_
  refine jf_aload_n hX dX3_answer_122 1 rfl ?_
  refine jf_callV (As := []) (st := []) hX mo_X3_pop wml_429 winst_430 wsel_431 3 ck_X3 rfl (fun l D cT z0 ks => kX3_pop N l D cT z0 ks x0 u) (by decide) (by decide) (by decide) (by decide) (Nat.le_of_ble_eq_true rfl) rfl rfl dX3_answer_123 (fun r1 u2 => ?_)
  refine jf_lstore (lv' := [(8, .long r1), (7, .int s0), (0, .ref x0), (1, .ref x1), (2, .ref x2), (3, .ref x3), (4, .int x4), (5, .int x5)]) hX dX3_answer_126 (by decide) rfl ?_
  refine jf_iload hX dX3_answer_128 1 rfl ?_
  refine jf_if_eq (tgt := 136) hX dX3_answer_130 (by decide) ?_ ?_
  · refine jf_goto (tgt := 160) hX dX3_answer_136 (by decide) ?_
    refine jf_iinc (v := 1) (lv' := [(5, .int (x5 + (1 : Int32))), (8, .long r1), (7, .int s0), (0, .ref x0), (1, .ref x1), (2, .ref x2), (3, .ref x3), (4, .int x4)]) hX dX3_answer_160 7 rfl (by decide) (by decide) rfl ?_
    refine jf_goto (tgt := 8) hX dX3_answer_163 (by decide) ?_
    refine jf_lv [3, 4, 5, 6, 7, 0] rfl ?_
    exact hrec8 x0 x1 x2 x3 x4 (x5 + (1 : Int32)) u2
  · refine jf_lload hX dX3_answer_133 0 rfl ?_
    exact jf_lret hX rfl (by decide) (by decide) dX3_answer_135
set_option maxRecDepth 20000 in
def gX3_answer_8 (N : Nat)   : Nat → Nat → Nat → Nat → Nat → Int32 → Int32 → SG → Option (Int64 × SG)
  | 0, _, _, _, _, _, _, _ => none
  | n + 1, x0, x1, x2, x3, x4, x5, u => if zK u x3 = 5 then (Option.bind (zR u x3 0) fun q1 => (if zK u q1 = 22 then (if (nI (zN u q1)) ≤ x5 then (some ((0 : Int64), u))
  else (if zK u x3 = 5 then (Option.bind (zR u x3 0) fun q2 => (if zK u q2 = 22 then if x5 < 0 ∨ zN u q2 ≤ x5.toNatClampNeg then none else (bs (zI u q2 x5.toNatClampNeg) fun v3 => (if v3 < 0 then (if v3 ≤ (-20 : Int32) then (if v3 = (-32 : Int32) then (if zK u x0 = 4 then cl (fX3_pop N x0 u) fun r16 u17 => (if zK u17 x0 = 4 then cl (fX3_push N x0 ((1 : Int64) - r16) u17) fun r18 u19 => ((gX3_answer_8 N  n) x0 x1 x2 x3 x4 (x5 + (1 : Int32)) u19) else none) else none)
  else (if v3 = (-33 : Int32) then (if zK u x0 = 4 then cl (fX3_pop N x0 u) fun r14 u15 => (some (r14, u15)) else none)
  else (if v3 = (-34 : Int32) then (if zK u x0 = 4 then cl (fX3_pop N x0 u) fun r12 u13 => (if (lg_cmp r12 (0 : Int64)) = 0 then (gX3_answer_120 N (gX3_answer_8 N  n) x0 x1 x2 x3 x4 x5 (0 : Int32) u13)
  else (gX3_answer_120 N (gX3_answer_8 N  n) x0 x1 x2 x3 x4 x5 (1 : Int32) u13)) else none)
  else (if zK u x0 = 4 then cl (fX3_pop N x0 u) fun r4 u5 => (if zK u5 x0 = 4 then cl (fX3_pop N x0 u5) fun r6 u7 => (cl (fX4_combine N v3 r6 r4 u7) fun r8 u9 => (if zK u9 x0 = 4 then cl (fX3_push N x0 r8 u9) fun r10 u11 => ((gX3_answer_8 N  n) x0 x1 x2 x3 x4 (x5 + (1 : Int32)) u11) else none)) else none) else none))))
  else (cl (fX3_valueOf N ((-1 : Int32) - v3) x1 x2 x4 u) fun r20 u21 => (if zK u21 x0 = 4 then cl (fX3_push N x0 r20 u21) fun r22 u23 => ((gX3_answer_8 N  n) x0 x1 x2 x3 x4 (x5 + (1 : Int32)) u23) else none)))
  else (if zK u x0 = 4 then cl (fX3_push N x0 v3.toInt64 u) fun r24 u25 => ((gX3_answer_8 N  n) x0 x1 x2 x3 x4 (x5 + (1 : Int32)) u25) else none))) else none)) else none)) else none)) else none
set_option maxRecDepth 20000 in
set_option maxHeartbeats 4000000 in
theorem jgX3_answer_8   {X : XT} (hX : Cx X yX3_answer cX3_answer 10 (some .long) 4 0 0) (N : Nat)  : ∀ (n : Nat) (x0 : Nat) (x1 : Nat) (x2 : Nat) (x3 : Nat) (x4 : Int32) (x5 : Int32) (u : SG), JF X True 10 0 0 (jQ X vL 0 0) 8 [(0, .ref x0), (1, .ref x1), (2, .ref x2), (3, .ref x3), (4, .int x4), (5, .int x5)] [] u (gX3_answer_8 N   n x0 x1 x2 x3 x4 x5 u) := by
  intro n
  induction n with
  | zero => intros; intro r u9 h9; exact absurd h9 (by simp [gX3_answer_8])
  | succ n ih =>
    intro x0 x1 x2 x3 x4 x5 u
    have hrec8 := ih
    rw [gX3_answer_8]
    refine jf_iload hX dX3_answer_8 5 rfl ?_
    refine jf_aload_n hX dX3_answer_10 3 rfl ?_
    refine jf_getR hX ck_X4 0 wfl_428 (by decide) rfl dX3_answer_11 ?_
    refine jf_nn (fun q1 => ?_)
    refine jf_alen hX 22 1 (by decide) (fun _ => rfl) dX3_answer_14 ?_
    refine jf_icmp_ge (tgt := 166) hX dX3_answer_15 (by decide) ?_ ?_
    · refine jf_lconst (v := 0) hX dX3_answer_166 (by decide) ?_
      exact jf_lret hX rfl (by decide) (by decide) dX3_answer_167
    · refine jf_aload_n hX dX3_answer_18 3 rfl ?_
      refine jf_getR hX ck_X4 0 wfl_428 (by decide) rfl dX3_answer_19 ?_
      refine jf_nn (fun q2 => ?_)
      refine jf_iload hX dX3_answer_22 5 rfl ?_
      refine jf_iald hX dX3_answer_24 ?_
      refine jf_nmI (fun v3 => ?_)
      refine jf_istore (lv' := [(6, .int v3), (0, .ref x0), (1, .ref x1), (2, .ref x2), (3, .ref x3), (4, .int x4), (5, .int x5)]) hX dX3_answer_25 (by decide) rfl ?_
      refine jf_iload hX dX3_answer_27 0 rfl ?_
      refine jf_if_lt (tgt := 42) hX dX3_answer_29 (by decide) ?_ ?_
      · refine jf_iload hX dX3_answer_42 0 rfl ?_
        refine jf_bipush (v := -20) hX dX3_answer_44 (by decide) ?_
        refine jf_icmp_le (tgt := 67) hX dX3_answer_46 (by decide) ?_ ?_
        · refine jf_iload hX dX3_answer_67 0 rfl ?_
          refine jf_bipush (v := -32) hX dX3_answer_69 (by decide) ?_
          refine jf_icmp_ne (tgt := 87) hX dX3_answer_71 (by decide) ?_ ?_
          · refine jf_iload hX dX3_answer_87 0 rfl ?_
            refine jf_bipush (v := -33) hX dX3_answer_89 (by decide) ?_
            refine jf_icmp_ne (tgt := 99) hX dX3_answer_91 (by decide) ?_ ?_
            · refine jf_iload hX dX3_answer_99 0 rfl ?_
              refine jf_bipush (v := -34) hX dX3_answer_101 (by decide) ?_
              refine jf_icmp_ne (tgt := 139) hX dX3_answer_103 (by decide) ?_ ?_
              · refine jf_aload_n hX dX3_answer_139 1 rfl ?_
                refine jf_callV (As := []) (st := []) hX mo_X3_pop wml_429 winst_430 wsel_431 3 ck_X3 rfl (fun l D cT z0 ks => kX3_pop N l D cT z0 ks x0 u) (by decide) (by decide) (by decide) (by decide) (Nat.le_of_ble_eq_true rfl) rfl rfl dX3_answer_140 (fun r4 u5 => ?_)
                refine jf_lstore (lv' := [(7, .long r4), (6, .int v3), (0, .ref x0), (1, .ref x1), (2, .ref x2), (3, .ref x3), (4, .int x4), (5, .int x5)]) hX dX3_answer_143 (by decide) rfl ?_
                refine jf_aload_n hX dX3_answer_145 2 rfl ?_
                refine jf_iload hX dX3_answer_146 1 rfl ?_
                refine jf_aload_n hX dX3_answer_148 2 rfl ?_
                refine jf_callV (As := []) (st := [.int v3, .ref x0]) hX mo_X3_pop wml_429 winst_430 wsel_431 3 ck_X3 rfl (fun l D cT z0 ks => kX3_pop N l D cT z0 ks x0 u5) (by decide) (by decide) (by decide) (by decide) (Nat.le_of_ble_eq_true rfl) rfl rfl dX3_answer_149 (fun r6 u7 => ?_)
                refine jf_lload hX dX3_answer_152 0 rfl ?_
                refine jf_callS (As := [.int v3, .long r6, .long r4]) (st := [.ref x0]) hX mo_X4_combine wml_432 wstat_433 rfl (fun l D cT z0 ks => kX4_combine N l D cT z0 ks v3 r6 r4 u7) (by decide) (by decide) (by decide) (by decide) (Nat.le_of_ble_eq_true rfl) rfl rfl dX3_answer_154 (fun r8 u9 => ?_)
                refine jf_callV (As := [.long r8]) (st := []) hX mo_X3_push wml_434 winst_435 wsel_436 3 ck_X3 rfl (fun l D cT z0 ks => kX3_push N l D cT z0 ks x0 r8 u9) (by decide) (by decide) (by decide) (by decide) (Nat.le_of_ble_eq_true rfl) rfl rfl dX3_answer_157 (fun r10 u11 => ?_)
                refine jf_iinc (v := 1) (lv' := [(5, .int (x5 + (1 : Int32))), (7, .long r4), (6, .int v3), (0, .ref x0), (1, .ref x1), (2, .ref x2), (3, .ref x3), (4, .int x4)]) hX dX3_answer_160 7 rfl (by decide) (by decide) rfl ?_
                refine jf_goto (tgt := 8) hX dX3_answer_163 (by decide) ?_
                refine jf_lv [3, 4, 5, 6, 7, 0] rfl ?_
                exact hrec8 x0 x1 x2 x3 x4 (x5 + (1 : Int32)) u11
              · refine jf_aload_n hX dX3_answer_106 1 rfl ?_
                refine jf_callV (As := []) (st := []) hX mo_X3_pop wml_429 winst_430 wsel_431 3 ck_X3 rfl (fun l D cT z0 ks => kX3_pop N l D cT z0 ks x0 u) (by decide) (by decide) (by decide) (by decide) (Nat.le_of_ble_eq_true rfl) rfl rfl dX3_answer_107 (fun r12 u13 => ?_)
                refine jf_lconst (v := 0) hX dX3_answer_110 (by decide) ?_
                refine jf_lcmp hX dX3_answer_111 ?_
                refine jf_if_eq (tgt := 119) hX dX3_answer_112 (by decide) ?_ ?_
                · refine jf_iconst (v := 0) hX dX3_answer_119 (by decide) ?_
                  refine jf_lv [1, 2, 3, 4, 5, 6] rfl ?_
                  exact jgX3_answer_120 hX N hrec8 x0 x1 x2 x3 x4 x5 (0 : Int32) u13
                · refine jf_iconst (v := 1) hX dX3_answer_115 (by decide) ?_
                  refine jf_goto (tgt := 120) hX dX3_answer_116 (by decide) ?_
                  refine jf_lv [1, 2, 3, 4, 5, 6] rfl ?_
                  exact jgX3_answer_120 hX N hrec8 x0 x1 x2 x3 x4 x5 (1 : Int32) u13
            · refine jf_aload_n hX dX3_answer_94 1 rfl ?_
              refine jf_callV (As := []) (st := []) hX mo_X3_pop wml_429 winst_430 wsel_431 3 ck_X3 rfl (fun l D cT z0 ks => kX3_pop N l D cT z0 ks x0 u) (by decide) (by decide) (by decide) (by decide) (Nat.le_of_ble_eq_true rfl) rfl rfl dX3_answer_95 (fun r14 u15 => ?_)
              exact jf_lret hX rfl (by decide) (by decide) dX3_answer_98
          · refine jf_aload_n hX dX3_answer_74 1 rfl ?_
            refine jf_lconst (v := 1) hX dX3_answer_75 (by decide) ?_
            refine jf_aload_n hX dX3_answer_76 1 rfl ?_
            refine jf_callV (As := []) (st := [.long (1 : Int64), .ref x0]) hX mo_X3_pop wml_429 winst_430 wsel_431 3 ck_X3 rfl (fun l D cT z0 ks => kX3_pop N l D cT z0 ks x0 u) (by decide) (by decide) (by decide) (by decide) (Nat.le_of_ble_eq_true rfl) rfl rfl dX3_answer_77 (fun r16 u17 => ?_)
            refine jf_lsub hX dX3_answer_80 ?_
            refine jf_callV (As := [.long ((1 : Int64) - r16)]) (st := []) hX mo_X3_push wml_434 winst_435 wsel_436 3 ck_X3 rfl (fun l D cT z0 ks => kX3_push N l D cT z0 ks x0 ((1 : Int64) - r16) u17) (by decide) (by decide) (by decide) (by decide) (Nat.le_of_ble_eq_true rfl) rfl rfl dX3_answer_81 (fun r18 u19 => ?_)
            refine jf_goto (tgt := 160) hX dX3_answer_84 (by decide) ?_
            refine jf_iinc (v := 1) (lv' := [(5, .int (x5 + (1 : Int32))), (6, .int v3), (0, .ref x0), (1, .ref x1), (2, .ref x2), (3, .ref x3), (4, .int x4)]) hX dX3_answer_160 6 rfl (by decide) (by decide) rfl ?_
            refine jf_goto (tgt := 8) hX dX3_answer_163 (by decide) ?_
            refine jf_lv [2, 3, 4, 5, 6, 0] rfl ?_
            exact hrec8 x0 x1 x2 x3 x4 (x5 + (1 : Int32)) u19
        · refine jf_aload_n hX dX3_answer_49 1 rfl ?_
          refine jf_iconst (v := -1) hX dX3_answer_50 (by decide) ?_
          refine jf_iload hX dX3_answer_51 0 rfl ?_
          refine jf_isub hX dX3_answer_53 ?_
          refine jf_aload_n hX dX3_answer_54 2 rfl ?_
          refine jf_aload_n hX dX3_answer_55 3 rfl ?_
          refine jf_iload hX dX3_answer_56 5 rfl ?_
          refine jf_callS (As := [.int ((-1 : Int32) - v3), .ref x1, .ref x2, .int x4]) (st := [.ref x0]) hX mo_X3_valueOf wml_437 wstat_438 rfl (fun l D cT z0 ks => kX3_valueOf N l D cT z0 ks ((-1 : Int32) - v3) x1 x2 x4 u) (by decide) (by decide) (by decide) (by decide) (Nat.le_of_ble_eq_true rfl) rfl rfl dX3_answer_58 (fun r20 u21 => ?_)
          refine jf_callV (As := [.long r20]) (st := []) hX mo_X3_push wml_434 winst_435 wsel_436 3 ck_X3 rfl (fun l D cT z0 ks => kX3_push N l D cT z0 ks x0 r20 u21) (by decide) (by decide) (by decide) (by decide) (Nat.le_of_ble_eq_true rfl) rfl rfl dX3_answer_61 (fun r22 u23 => ?_)
          refine jf_goto (tgt := 160) hX dX3_answer_64 (by decide) ?_
          refine jf_iinc (v := 1) (lv' := [(5, .int (x5 + (1 : Int32))), (6, .int v3), (0, .ref x0), (1, .ref x1), (2, .ref x2), (3, .ref x3), (4, .int x4)]) hX dX3_answer_160 6 rfl (by decide) (by decide) rfl ?_
          refine jf_goto (tgt := 8) hX dX3_answer_163 (by decide) ?_
          refine jf_lv [2, 3, 4, 5, 6, 0] rfl ?_
          exact hrec8 x0 x1 x2 x3 x4 (x5 + (1 : Int32)) u23
      · refine jf_aload_n hX dX3_answer_32 1 rfl ?_
        refine jf_iload hX dX3_answer_33 0 rfl ?_
        refine jf_i2l hX dX3_answer_35 ?_
        refine jf_callV (As := [.long v3.toInt64]) (st := []) hX mo_X3_push wml_434 winst_435 wsel_436 3 ck_X3 rfl (fun l D cT z0 ks => kX3_push N l D cT z0 ks x0 v3.toInt64 u) (by decide) (by decide) (by decide) (by decide) (Nat.le_of_ble_eq_true rfl) rfl rfl dX3_answer_36 (fun r24 u25 => ?_)
        refine jf_goto (tgt := 160) hX dX3_answer_39 (by decide) ?_
        refine jf_iinc (v := 1) (lv' := [(5, .int (x5 + (1 : Int32))), (6, .int v3), (0, .ref x0), (1, .ref x1), (2, .ref x2), (3, .ref x3), (4, .int x4)]) hX dX3_answer_160 6 rfl (by decide) (by decide) rfl ?_
        refine jf_goto (tgt := 8) hX dX3_answer_163 (by decide) ?_
        refine jf_lv [2, 3, 4, 5, 6, 0] rfl ?_
        exact hrec8 x0 x1 x2 x3 x4 (x5 + (1 : Int32)) u25
set_option maxRecDepth 20000 in
def fX3_answer (N : Nat)  (a0 : Nat) (p1 : Nat) (p2 : Nat) (p3 : Nat) (p4 : Int32) (u : SG) : Option (Int64 × SG) := if zK u a0 = 4 then bs (sI u a0 1 (0 : Int32)) fun u1 => (gX3_answer_8 N  N a0 p1 p2 p3 p4 (0 : Int32) u1) else none
set_option maxRecDepth 20000 in
set_option maxHeartbeats 4000000 in
theorem kX3_answer  (N : Nat)  (l : Launch) (D : va_G) (cT : Nat → ClassId) (z0 : Nat) (ks : Nat × Nat) (a0 : Nat) (p1 : Nat) (p2 : Nat) (p3 : Nat) (p4 : Int32) (u : SG) : Ct l D cT z0 ks yX3_answer cX3_answer 10 (some .long) 4 0 0 vL [.ref a0, .ref p1, .ref p2, .ref p3, .int p4] u (fX3_answer N  a0 p1 p2 p3 p4 u) := by
  unfold fX3_answer
  refine ct_of (by decide +kernel) (Nat.le_of_ble_eq_true rfl) (fun p e R s m args below meth c hX => ?_)
  show JF _ True 10 0 0 _ 0 [(0, .ref a0), (1, .ref p1), (2, .ref p2), (3, .ref p3), (4, .int p4)] [] u _
  refine jf_aload_n hX dX3_answer_0 0 rfl ?_
  refine jf_iconst (v := 0) hX dX3_answer_1 (by decide) ?_
  refine jf_putI hX trivial ck_X3 1 wfl_399 (by decide) rfl rfl rfl dX3_answer_2 (fun u1 => ?_)
  refine jf_iconst (v := 0) hX dX3_answer_5 (by decide) ?_
  refine jf_istore (lv' := [(5, .int (0 : Int32)), (0, .ref a0), (1, .ref p1), (2, .ref p2), (3, .ref p3), (4, .int p4)]) hX dX3_answer_6 (by decide) rfl ?_
  refine jf_lv [1, 2, 3, 4, 5, 0] rfl ?_
  exact jgX3_answer_8 hX N  N a0 p1 p2 p3 p4 (0 : Int32) u1
set_option maxRecDepth 20000 in
def fX3_setAsleep (N : Nat)  (p1 : Nat) (p2 : Int32) (p3 : Int32) (u : SG) : Option (Unit × SG) := bs ((1 : Int32) <<< (p2 &&& 31)) fun v1 => (if p3 = 0 then (if zK u p1 = 3 then (if zK u p1 = 3 then bs (sI u p1 2 ((zI u p1 2) &&& (v1 ^^^ (-1 : Int32)))) fun u2 => (some ((), u2)) else none) else none)
  else (if zK u p1 = 3 then (if zK u p1 = 3 then bs (sI u p1 2 ((zI u p1 2) ||| v1)) fun u3 => (some ((), u3)) else none) else none))
set_option maxRecDepth 20000 in
set_option maxHeartbeats 4000000 in
theorem kX3_setAsleep  (N : Nat)  (l : Launch) (D : va_G) (cT : Nat → ClassId) (z0 : Nat) (ks : Nat × Nat) (p1 : Nat) (p2 : Int32) (p3 : Int32) (u : SG) : Ct l D cT z0 ks yX3_setAsleep cX3_setAsleep 4 none 1 0 0 vU [.ref p1, .int p2, .int p3] u (fX3_setAsleep N  p1 p2 p3 u) := by
  unfold fX3_setAsleep
  refine ct_of (by decide +kernel) (Nat.le_of_ble_eq_true rfl) (fun p e R s m args below meth c hX => ?_)
  show JF _ True 4 0 0 _ 0 [(0, .ref p1), (1, .int p2), (2, .int p3)] [] u _
  refine jf_iconst (v := 1) hX dX3_setAsleep_0 (by decide) ?_
  refine jf_iload_n hX dX3_setAsleep_1 1 rfl ?_
  refine jf_ishl hX dX3_setAsleep_2 ?_
  refine jf_nmI (fun v1 => ?_)
  refine jf_istore_n (lv' := [(3, .int v1), (0, .ref p1), (1, .int p2), (2, .int p3)]) hX dX3_setAsleep_3 rfl (by decide) rfl ?_
  refine jf_aload_n hX dX3_setAsleep_4 1 rfl ?_
  refine jf_iload_n hX dX3_setAsleep_5 3 rfl ?_
  refine jf_if_eq (tgt := 18) hX dX3_setAsleep_6 (by decide) ?_ ?_
  · refine jf_aload_n hX dX3_setAsleep_18 1 rfl ?_
    refine jf_getI hX ck_X2 2 wfl_419 (by decide) rfl dX3_setAsleep_19 ?_
    refine jf_iload_n hX dX3_setAsleep_22 0 rfl ?_
    refine jf_iconst (v := -1) hX dX3_setAsleep_23 (by decide) ?_
    refine jf_ixor hX dX3_setAsleep_24 ?_
    refine jf_iand hX dX3_setAsleep_25 ?_
    refine jf_putI hX trivial ck_X2 2 wfl_419 (by decide) rfl rfl rfl dX3_setAsleep_26 (fun u2 => ?_)
    exact jf_vret hX rfl (by decide) (by decide) dX3_setAsleep_29
  · refine jf_aload_n hX dX3_setAsleep_9 1 rfl ?_
    refine jf_getI hX ck_X2 2 wfl_419 (by decide) rfl dX3_setAsleep_10 ?_
    refine jf_iload_n hX dX3_setAsleep_13 0 rfl ?_
    refine jf_ior hX dX3_setAsleep_14 ?_
    refine jf_goto (tgt := 26) hX dX3_setAsleep_15 (by decide) ?_
    refine jf_putI hX trivial ck_X2 2 wfl_419 (by decide) rfl rfl rfl dX3_setAsleep_26 (fun u3 => ?_)
    exact jf_vret hX rfl (by decide) (by decide) dX3_setAsleep_29
set_option maxRecDepth 20000 in
def fX3_shareAmong (N : Nat)  (a0 : Nat) (p1 : Int32) (p2 : Int32) (u : SG) : Option (Int64 × SG) := cl (fJ6_bitCount_0f7a4 N p1 u) fun r1 u2 => (if r1 ≤ 0 then (some ((0 : Int64), u2))
  else (cl (fX10_bitOf N p1 p2 u2) fun r3 u4 => (if r3 = (1 : Int32) then (if zK u4 a0 = 4 then (if r1.toInt64 = 0 then none else (some ((zL u4 a0 3) / r1.toInt64, u4))) else none)
  else (some ((0 : Int64), u4)))))
set_option maxRecDepth 20000 in
set_option maxHeartbeats 4000000 in
theorem kX3_shareAmong  (N : Nat)  (l : Launch) (D : va_G) (cT : Nat → ClassId) (z0 : Nat) (ks : Nat × Nat) (a0 : Nat) (p1 : Int32) (p2 : Int32) (u : SG) : Ct l D cT z0 ks yX3_shareAmong cX3_shareAmong 4 (some .long) 2 0 0 vL [.ref a0, .int p1, .int p2] u (fX3_shareAmong N  a0 p1 p2 u) := by
  unfold fX3_shareAmong
  refine ct_of (by decide +kernel) (Nat.le_of_ble_eq_true rfl) (fun p e R s m args below meth c hX => ?_)
  show JF _ True 4 0 0 _ 0 [(0, .ref a0), (1, .int p1), (2, .int p2)] [] u _
  refine jf_iload_n hX dX3_shareAmong_0 1 rfl ?_
  refine jf_callS (As := [.int p1]) (st := []) hX mo_J6_bitCount_0f7a4 wml_420 wstat_381 rfl (fun l D cT z0 ks => kJ6_bitCount_0f7a4 N l D cT z0 ks p1 u) (by decide) (by decide) (by decide) (by decide) (Nat.le_of_ble_eq_true rfl) rfl rfl dX3_shareAmong_1 (fun r1 u2 => ?_)
  refine jf_istore_n (lv' := [(3, .int r1), (0, .ref a0), (1, .int p1), (2, .int p2)]) hX dX3_shareAmong_4 rfl (by decide) rfl ?_
  refine jf_iload_n hX dX3_shareAmong_5 0 rfl ?_
  refine jf_if_le (tgt := 28) hX dX3_shareAmong_6 (by decide) ?_ ?_
  · refine jf_lconst (v := 0) hX dX3_shareAmong_28 (by decide) ?_
    exact jf_lret hX rfl (by decide) (by decide) dX3_shareAmong_29
  · refine jf_iload_n hX dX3_shareAmong_9 2 rfl ?_
    refine jf_iload_n hX dX3_shareAmong_10 3 rfl ?_
    refine jf_callSN (As := [.int p1, .int p2]) (st := []) hX mo_X10_bitOf wnest_421 wstat_383 rfl (fun l D cT z0 ks => kX10_bitOf N l D cT z0 ks p1 p2 u2) (by decide) (by decide) (by decide) (by decide) (Nat.le_of_ble_eq_true rfl) rfl rfl dX3_shareAmong_11 (fun r3 u4 => ?_)
    refine jf_iconst (v := 1) hX dX3_shareAmong_14 (by decide) ?_
    refine jf_icmp_ne (tgt := 28) hX dX3_shareAmong_15 (by decide) ?_ ?_
    · refine jf_lconst (v := 0) hX dX3_shareAmong_28 (by decide) ?_
      exact jf_lret hX rfl (by decide) (by decide) dX3_shareAmong_29
    · refine jf_aload_n hX dX3_shareAmong_18 1 rfl ?_
      refine jf_getL hX ck_X3 3 wfl_401 (by decide) rfl dX3_shareAmong_19 ?_
      refine jf_iload_n hX dX3_shareAmong_22 0 rfl ?_
      refine jf_i2l hX dX3_shareAmong_23 ?_
      refine jf_ldiv hX dX3_shareAmong_24 ?_
      refine jf_goto (tgt := 29) hX dX3_shareAmong_25 (by decide) ?_
      exact jf_lret hX rfl (by decide) (by decide) dX3_shareAmong_29
set_option maxRecDepth 20000 in
def gX3_share_23 (N : Nat)   : Nat → Nat → Nat → Nat → Int32 → SG → Option (Unit × SG)
  | 0, _, _, _, _, _ => none
  | n + 1, x0, x1, x2, x3, u => if zK u x1 = 8 then (if (zI u x1 7) ≤ x3 then (some ((), u))
  else (if zK u x2 = 3 then (Option.bind (zR u x2 7) fun q1 => (if zK u q1 = 23 then if x3 < 0 ∨ zN u q1 ≤ x3.toNatClampNeg then none else (if zK u x0 = 4 then (if zK u x0 = 4 then cl (fX3_shareAmong N x0 (zI u x0 2) x3 u) fun r2 u3 => (if zK u3 q1 = 23 then if x3 < 0 ∨ zN u3 q1 ≤ x3.toNatClampNeg then none else bs (sL u3 q1 x3.toNatClampNeg ((zL u q1 x3.toNatClampNeg) + r2)) fun u4 => ((gX3_share_23 N  n) x0 x1 x2 (x3 + (1 : Int32)) u4) else none) else none) else none) else none)) else none)) else none
set_option maxRecDepth 20000 in
set_option maxHeartbeats 4000000 in
theorem jgX3_share_23   {X : XT} (hX : Cx X yX3_share cX3_share 4 none 3 0 0) (N : Nat)  : ∀ (n : Nat) (x0 : Nat) (x1 : Nat) (x2 : Nat) (x3 : Int32) (u : SG), JF X True 4 0 0 (jQ X vU 0 0) 23 [(0, .ref x0), (1, .ref x1), (2, .ref x2), (3, .int x3)] [] u (gX3_share_23 N   n x0 x1 x2 x3 u) := by
  intro n
  induction n with
  | zero => intros; intro r u9 h9; exact absurd h9 (by simp [gX3_share_23])
  | succ n ih =>
    intro x0 x1 x2 x3 u
    have hrec23 := ih
    rw [gX3_share_23]
    refine jf_iload_n hX dX3_share_23 3 rfl ?_
    refine jf_aload_n hX dX3_share_24 1 rfl ?_
    refine jf_getI hX ck_X7 7 wfl_439 (by decide) rfl dX3_share_25 ?_
    refine jf_icmp_ge (tgt := 55) hX dX3_share_28 (by decide) ?_ ?_
    · exact jf_vret hX rfl (by decide) (by decide) dX3_share_55
    · refine jf_aload_n hX dX3_share_31 2 rfl ?_
      refine jf_getR hX ck_X2 7 wfl_422 (by decide) rfl dX3_share_32 ?_
      refine jf_nn (fun q1 => ?_)
      refine jf_iload_n hX dX3_share_35 3 rfl ?_
      refine jf_dup2_11 hX dX3_share_36 rfl rfl ?_
      refine jf_lald hX dX3_share_37 ?_
      refine jf_aload_n hX dX3_share_38 0 rfl ?_
      refine jf_aload_n hX dX3_share_39 0 rfl ?_
      refine jf_getI hX ck_X3 2 wfl_400 (by decide) rfl dX3_share_40 ?_
      refine jf_iload_n hX dX3_share_43 3 rfl ?_
      refine jf_callV (As := [.int (zI u x0 2), .int x3]) (st := [.long (zL u q1 x3.toNatClampNeg), .int x3, .ref q1]) hX mo_X3_shareAmong wml_440 winst_441 wsel_442 3 ck_X3 rfl (fun l D cT z0 ks => kX3_shareAmong N l D cT z0 ks x0 (zI u x0 2) x3 u) (by decide) (by decide) (by decide) (by decide) (Nat.le_of_ble_eq_true rfl) rfl rfl dX3_share_44 (fun r2 u3 => ?_)
      refine jf_ladd hX dX3_share_47 ?_
      refine jf_last hX trivial dX3_share_48 (fun u4 => ?_)
      refine jf_iinc (v := 1) (lv' := [(3, .int (x3 + (1 : Int32))), (0, .ref x0), (1, .ref x1), (2, .ref x2)]) hX dX3_share_49 3 rfl (by decide) (by decide) rfl ?_
      refine jf_goto (tgt := 23) hX dX3_share_52 (by decide) ?_
      refine jf_lv [1, 2, 3, 0] rfl ?_
      exact hrec23 x0 x1 x2 (x3 + (1 : Int32)) u4
set_option maxRecDepth 20000 in
def fX3_share (N : Nat)  (a0 : Nat) (p1 : Nat) (p2 : Nat) (u : SG) : Option (Unit × SG) := if zK u a0 = 4 then (if (zI u a0 2) = 0 then (if zK u p2 = 3 then (Option.bind (zR u p2 7) fun q1 => (if zK u q1 = 23 then if zN u q1 ≤ 5 then none else (if zK u a0 = 4 then (if zK u q1 = 23 then if zN u q1 ≤ 5 then none else bs (sL u q1 5 ((zL u q1 5) + (zL u a0 3))) fun u2 => (some ((), u2)) else none) else none) else none)) else none)
  else (gX3_share_23 N  N a0 p1 p2 (0 : Int32) u)) else none
set_option maxRecDepth 20000 in
set_option maxHeartbeats 4000000 in
theorem kX3_share  (N : Nat)  (l : Launch) (D : va_G) (cT : Nat → ClassId) (z0 : Nat) (ks : Nat × Nat) (a0 : Nat) (p1 : Nat) (p2 : Nat) (u : SG) : Ct l D cT z0 ks yX3_share cX3_share 4 none 3 0 0 vU [.ref a0, .ref p1, .ref p2] u (fX3_share N  a0 p1 p2 u) := by
  unfold fX3_share
  refine ct_of (by decide +kernel) (Nat.le_of_ble_eq_true rfl) (fun p e R s m args below meth c hX => ?_)
  show JF _ True 4 0 0 _ 0 [(0, .ref a0), (1, .ref p1), (2, .ref p2)] [] u _
  refine jf_aload_n hX dX3_share_0 0 rfl ?_
  refine jf_getI hX ck_X3 2 wfl_400 (by decide) rfl dX3_share_1 ?_
  refine jf_if_ne (tgt := 21) hX dX3_share_4 (by decide) ?_ ?_
  · refine jf_iconst (v := 0) hX dX3_share_21 (by decide) ?_
    refine jf_istore_n (lv' := [(3, .int (0 : Int32)), (0, .ref a0), (1, .ref p1), (2, .ref p2)]) hX dX3_share_22 rfl (by decide) rfl ?_
    refine jf_lv [1, 2, 3, 0] rfl ?_
    exact jgX3_share_23 hX N  N a0 p1 p2 (0 : Int32) u
  · refine jf_aload_n hX dX3_share_7 2 rfl ?_
    refine jf_getR hX ck_X2 7 wfl_422 (by decide) rfl dX3_share_8 ?_
    refine jf_nn (fun q1 => ?_)
    refine jf_iconst (v := 5) hX dX3_share_11 (by decide) ?_
    refine jf_dup2_11 hX dX3_share_12 rfl rfl ?_
    refine jf_laldc 5 hX (by decide) (by decide) dX3_share_13 ?_
    refine jf_aload_n hX dX3_share_14 0 rfl ?_
    refine jf_getL hX ck_X3 3 wfl_401 (by decide) rfl dX3_share_15 ?_
    refine jf_ladd hX dX3_share_18 ?_
    refine jf_lastc 5 hX trivial (by decide) (by decide) dX3_share_19 (fun u2 => ?_)
    exact jf_vret hX rfl (by decide) (by decide) dX3_share_20
set_option maxRecDepth 20000 in
def gX3_play_119 (N : Nat)   : Nat → Nat → Nat → Nat → Int32 → SG → Option (Int32 × SG)
  | 0, _, _, _, _, _ => none
  | n + 1, x0, x1, x2, x5, u => if zK u x1 = 8 then (if (zI u x1 7) ≤ x5 then (if zK u x2 = 3 then cl (fX2_goOn N x2 x1 u) fun r1 u2 => (if zK u2 x0 = 4 then (cl (fJ6_bitCount_0f7a4 N (zI u2 x0 2) u2) fun r3 u4 => (some (r3, u4))) else none) else none)
  else (if zK u x2 = 3 then (Option.bind (zR u x2 5) fun q5 => (if zK u q5 = 22 then if x5 < 0 ∨ zN u q5 ≤ x5.toNatClampNeg then none else (if zK u x0 = 4 then (cl (fX10_bitOf N (zI u x0 2) x5 u) fun r6 u7 => (if zK u7 q5 = 22 then if x5 < 0 ∨ zN u7 q5 ≤ x5.toNatClampNeg then none else bs (sI u7 q5 x5.toNatClampNeg ((zI u q5 x5.toNatClampNeg) + r6)) fun u8 => ((gX3_play_119 N  n) x0 x1 x2 (x5 + (1 : Int32)) u8) else none)) else none) else none)) else none)) else none
set_option maxRecDepth 20000 in
set_option maxHeartbeats 4000000 in
theorem jgX3_play_119   {X : XT} (hX : Cx X yX3_play cX3_play 6 (some .int) 5 0 0) (N : Nat)  : ∀ (n : Nat) (x0 : Nat) (x1 : Nat) (x2 : Nat) (x5 : Int32) (u : SG), JF X True 6 0 0 (jQ X vI 0 0) 119 [(0, .ref x0), (1, .ref x1), (2, .ref x2), (5, .int x5)] [] u (gX3_play_119 N   n x0 x1 x2 x5 u) := by
  intro n
  induction n with
  | zero => intros; intro r u9 h9; exact absurd h9 (by simp [gX3_play_119])
  | succ n ih =>
    intro x0 x1 x2 x5 u
    have hrec119 := ih
    rw [gX3_play_119]
    refine jf_iload hX dX3_play_119 3 rfl ?_
    refine jf_aload_n hX dX3_play_121 1 rfl ?_
    refine jf_getI hX ck_X7 7 wfl_439 (by decide) rfl dX3_play_122 ?_
    refine jf_icmp_ge (tgt := 153) hX dX3_play_125 (by decide) ?_ ?_
    · refine jf_aload_n hX dX3_play_153 2 rfl ?_
      refine jf_aload_n hX dX3_play_154 1 rfl ?_
      refine jf_callV (As := [.ref x1]) (st := []) hX mo_X2_goOn wml_452 winst_453 wsel_454 2 ck_X2 rfl (fun l D cT z0 ks => kX2_goOn N l D cT z0 ks x2 x1 u) (by decide) (by decide) (by decide) (by decide) (Nat.le_of_ble_eq_true rfl) rfl rfl dX3_play_155 (fun r1 u2 => ?_)
      refine jf_aload_n hX dX3_play_158 0 rfl ?_
      refine jf_getI hX ck_X3 2 wfl_400 (by decide) rfl dX3_play_159 ?_
      refine jf_callS (As := [.int (zI u2 x0 2)]) (st := []) hX mo_J6_bitCount_0f7a4 wml_420 wstat_381 rfl (fun l D cT z0 ks => kJ6_bitCount_0f7a4 N l D cT z0 ks (zI u2 x0 2) u2) (by decide) (by decide) (by decide) (by decide) (Nat.le_of_ble_eq_true rfl) rfl rfl dX3_play_162 (fun r3 u4 => ?_)
      exact jf_iret hX rfl (by decide) (by decide) dX3_play_165
    · refine jf_aload_n hX dX3_play_128 2 rfl ?_
      refine jf_getR hX ck_X2 5 wfl_414 (by decide) rfl dX3_play_129 ?_
      refine jf_nn (fun q5 => ?_)
      refine jf_iload hX dX3_play_132 3 rfl ?_
      refine jf_dup2_11 hX dX3_play_134 rfl rfl ?_
      refine jf_iald hX dX3_play_135 ?_
      refine jf_aload_n hX dX3_play_136 0 rfl ?_
      refine jf_getI hX ck_X3 2 wfl_400 (by decide) rfl dX3_play_137 ?_
      refine jf_iload hX dX3_play_140 3 rfl ?_
      refine jf_callSN (As := [.int (zI u x0 2), .int x5]) (st := [.int (zI u q5 x5.toNatClampNeg), .int x5, .ref q5]) hX mo_X10_bitOf wnest_421 wstat_383 rfl (fun l D cT z0 ks => kX10_bitOf N l D cT z0 ks (zI u x0 2) x5 u) (by decide) (by decide) (by decide) (by decide) (Nat.le_of_ble_eq_true rfl) rfl rfl dX3_play_142 (fun r6 u7 => ?_)
      refine jf_iadd hX dX3_play_145 ?_
      refine jf_iast hX trivial dX3_play_146 (fun u8 => ?_)
      refine jf_iinc (v := 1) (lv' := [(5, .int (x5 + (1 : Int32))), (0, .ref x0), (1, .ref x1), (2, .ref x2)]) hX dX3_play_147 3 rfl (by decide) (by decide) rfl ?_
      refine jf_goto (tgt := 119) hX dX3_play_150 (by decide) ?_
      refine jf_lv [1, 2, 3, 0] rfl ?_
      exact hrec119 x0 x1 x2 (x5 + (1 : Int32)) u8
set_option maxRecDepth 20000 in
def gX3_play_80 (N : Nat)   (x0 : Nat) (x1 : Nat) (x2 : Nat) (u : SG) : Option (Int32 × SG) := if zK u x2 = 3 then (if zK u x0 = 4 then bs (sI u x0 2 (zI u x2 2)) fun u1 => (if zK u1 x2 = 3 then (if zK u1 x2 = 3 then cl (fX2_burningAt N x2 x1 (zI u1 x2 0) u1) fun r2 u3 => (if zK u3 x1 = 8 then cl (fX7_costOf N x1 r2 u3) fun r4 u5 => (if zK u5 x0 = 4 then bs (sL u5 x0 3 ((60 : Int64) * r4.toInt64)) fun u6 => (if zK u6 x0 = 4 then cl (fX3_share N x0 x1 x2 u6) fun r7 u8 => (gX3_play_119 N  N x0 x1 x2 (0 : Int32) u8) else none) else none) else none) else none) else none) else none) else none
set_option maxRecDepth 20000 in
set_option maxHeartbeats 4000000 in
theorem jgX3_play_80   {X : XT} (hX : Cx X yX3_play cX3_play 6 (some .int) 5 0 0) (N : Nat)  (x0 : Nat) (x1 : Nat) (x2 : Nat) (u : SG) : JF X True 6 0 0 (jQ X vI 0 0) 80 [(0, .ref x0), (1, .ref x1), (2, .ref x2)] [] u (gX3_play_80 N   x0 x1 x2 u) := by
  unfold gX3_play_80
  refine jf_aload_n hX dX3_play_80 0 rfl ?_
  refine jf_aload_n hX dX3_play_81 2 rfl ?_
  refine jf_getI hX ck_X2 2 wfl_419 (by decide) rfl dX3_play_82 ?_
  refine jf_putI hX trivial ck_X3 2 wfl_400 (by decide) rfl rfl rfl dX3_play_85 (fun u1 => ?_)
  refine jf_aload_n hX dX3_play_88 0 rfl ?_
  refine jf_ldc2 (v := 60) hX dX3_play_89 wconl_423 ?_
  refine jf_aload_n hX dX3_play_92 1 rfl ?_
  refine jf_aload_n hX dX3_play_93 2 rfl ?_
  refine jf_aload_n hX dX3_play_94 1 rfl ?_
  refine jf_aload_n hX dX3_play_95 2 rfl ?_
  refine jf_getI hX ck_X2 0 wfl_407 (by decide) rfl dX3_play_96 ?_
  refine jf_callV (As := [.ref x1, .int (zI u1 x2 0)]) (st := [.ref x1, .long (60 : Int64), .ref x0]) hX mo_X2_burningAt wml_408 winst_409 wsel_410 2 ck_X2 rfl (fun l D cT z0 ks => kX2_burningAt N l D cT z0 ks x2 x1 (zI u1 x2 0) u1) (by decide) (by decide) (by decide) (by decide) (Nat.le_of_ble_eq_true rfl) rfl rfl dX3_play_99 (fun r2 u3 => ?_)
  refine jf_callV (As := [.int r2]) (st := [.long (60 : Int64), .ref x0]) hX mo_X7_costOf wml_416 winst_417 wsel_418 7 ck_X7 rfl (fun l D cT z0 ks => kX7_costOf N l D cT z0 ks x1 r2 u3) (by decide) (by decide) (by decide) (by decide) (Nat.le_of_ble_eq_true rfl) rfl rfl dX3_play_102 (fun r4 u5 => ?_)
  refine jf_i2l hX dX3_play_105 ?_
  refine jf_lmul hX dX3_play_106 ?_
  refine jf_putL hX trivial ck_X3 3 wfl_401 (by decide) rfl rfl rfl dX3_play_107 (fun u6 => ?_)
  refine jf_aload_n hX dX3_play_110 0 rfl ?_
  refine jf_aload_n hX dX3_play_111 1 rfl ?_
  refine jf_aload_n hX dX3_play_112 2 rfl ?_
  refine jf_callV (As := [.ref x1, .ref x2]) (st := []) hX mo_X3_share wml_449 winst_450 wsel_451 3 ck_X3 rfl (fun l D cT z0 ks => kX3_share N l D cT z0 ks x0 x1 x2 u6) (by decide) (by decide) (by decide) (by decide) (Nat.le_of_ble_eq_true rfl) rfl rfl dX3_play_113 (fun r7 u8 => ?_)
  refine jf_iconst (v := 0) hX dX3_play_116 (by decide) ?_
  refine jf_istore (lv' := [(5, .int (0 : Int32)), (0, .ref x0), (1, .ref x1), (2, .ref x2)]) hX dX3_play_117 (by decide) rfl ?_
  refine jf_lv [1, 2, 3, 0] rfl ?_
  exact jgX3_play_119 hX N  N x0 x1 x2 (0 : Int32) u8
set_option maxRecDepth 20000 in
def gX3_play_71 (N : Nat)  (rec26 : Nat → Nat → Nat → Option Nat → Int32 → Int32 → SG → Option (Int32 × SG)) (x0 : Nat) (x1 : Nat) (x2 : Nat) (x3 : Option Nat) (x4 : Int32) (x5 : Int32) (s0 : Nat) (s1 : Int32) (s2 : Int32) (u : SG) : Option (Int32 × SG) := cl (fX3_setAsleep N s0 s1 s2 u) fun r1 u2 => (rec26 x0 x1 x2 x3 x4 (x5 + (1 : Int32)) u2)
set_option maxRecDepth 20000 in
set_option maxHeartbeats 4000000 in
theorem jgX3_play_71 {rec26 : Nat → Nat → Nat → Option Nat → Int32 → Int32 → SG → Option (Int32 × SG)}  {X : XT} (hX : Cx X yX3_play cX3_play 6 (some .int) 5 0 0) (N : Nat) (hrec26 : ∀ (x0 : Nat) (x1 : Nat) (x2 : Nat) (x3 : Option Nat) (x4 : Int32) (x5 : Int32)  (u : SG), JF X True 6 0 0 (jQ X vI 0 0) 26 [(0, .ref x0), (1, .ref x1), (2, .ref x2), (3, va_rf x3), (4, .int x4), (5, .int x5)] [] u (rec26 x0 x1 x2 x3 x4 x5  u)) (x0 : Nat) (x1 : Nat) (x2 : Nat) (x3 : Option Nat) (x4 : Int32) (x5 : Int32) (s0 : Nat) (s1 : Int32) (s2 : Int32) (u : SG) : JF X True 6 0 0 (jQ X vI 0 0) 71 [(0, .ref x0), (1, .ref x1), (2, .ref x2), (3, va_rf x3), (4, .int x4), (5, .int x5)] [.int s2, .int s1, .ref s0] u (gX3_play_71 N  rec26 x0 x1 x2 x3 x4 x5 s0 s1 s2 u) := by
  unfold gX3_play_71
  refine jf_callS (As := [.ref s0, .int s1, .int s2]) (st := []) hX mo_X3_setAsleep wml_455 wstat_456 rfl (fun l D cT z0 ks => kX3_setAsleep N l D cT z0 ks s0 s1 s2 u) (by decide) (by decide) (by decide) (by decide) (Nat.le_of_ble_eq_true rfl) rfl rfl dX3_play_71 (fun r1 u2 => ?_)
  refine jf_iinc (v := 1) (lv' := [(5, .int (x5 + (1 : Int32))), (0, .ref x0), (1, .ref x1), (2, .ref x2), (3, va_rf x3), (4, .int x4)]) hX dX3_play_74 5 rfl (by decide) (by decide) rfl ?_
  refine jf_goto (tgt := 26) hX dX3_play_77 (by decide) ?_
  refine jf_lv [1, 2, 3, 4, 5, 0] rfl ?_
  exact hrec26 x0 x1 x2 x3 x4 (x5 + (1 : Int32)) u2
set_option maxRecDepth 20000 in
def gX3_play_26 (N : Nat)   : Nat → Nat → Nat → Nat → Option Nat → Int32 → Int32 → SG → Option (Int32 × SG)
  | 0, _, _, _, _, _, _, _ => none
  | n + 1, x0, x1, x2, x3, x4, x5, u => if zK u x1 = 8 then (if (zI u x1 7) ≤ x5 then (gX3_play_80 N  x0 x1 x2 u)
  else (if x3 = none then (gX3_play_80 N  x0 x1 x2 u)
  else (cl (fX10_bitOf N x4 x5 u) fun r1 u2 => (if r1 = 0 then (Option.bind x3 fun q3 => (if zK u2 x0 = 4 then cl (fX3_answer N x0 x1 x2 q3 x5 u2) fun r4 u5 => (if (lg_cmp r4 (0 : Int64)) ≤ 0 then (gX3_play_71 N (gX3_play_26 N  n) x0 x1 x2 x3 x4 x5 x2 x5 (0 : Int32) u5)
  else (gX3_play_71 N (gX3_play_26 N  n) x0 x1 x2 x3 x4 x5 x2 x5 (1 : Int32) u5)) else none))
  else ((gX3_play_26 N  n) x0 x1 x2 x3 x4 (x5 + (1 : Int32)) u2))))) else none
set_option maxRecDepth 20000 in
set_option maxHeartbeats 4000000 in
theorem jgX3_play_26   {X : XT} (hX : Cx X yX3_play cX3_play 6 (some .int) 5 0 0) (N : Nat)  : ∀ (n : Nat) (x0 : Nat) (x1 : Nat) (x2 : Nat) (x3 : Option Nat) (x4 : Int32) (x5 : Int32) (u : SG), JF X True 6 0 0 (jQ X vI 0 0) 26 [(0, .ref x0), (1, .ref x1), (2, .ref x2), (3, va_rf x3), (4, .int x4), (5, .int x5)] [] u (gX3_play_26 N   n x0 x1 x2 x3 x4 x5 u) := by
  intro n
  induction n with
  | zero => intros; intro r u9 h9; exact absurd h9 (by simp [gX3_play_26])
  | succ n ih =>
    intro x0 x1 x2 x3 x4 x5 u
    have hrec26 := ih
    rw [gX3_play_26]
    refine jf_iload hX dX3_play_26 5 rfl ?_
    refine jf_aload_n hX dX3_play_28 1 rfl ?_
    refine jf_getI hX ck_X7 7 wfl_439 (by decide) rfl dX3_play_29 ?_
    refine jf_icmp_ge (tgt := 80) hX dX3_play_32 (by decide) ?_ ?_
    · refine jf_lv [0, 1, 2] rfl ?_
      exact jgX3_play_80 hX N  x0 x1 x2 u
    · refine jf_aload_nq hX dX3_play_35 3 rfl ?_
      refine jf_ifnull (tgt := 80) hX dX3_play_36 (by decide) ?_ ?_
      · refine jf_lv [0, 1, 2] rfl ?_
        exact jgX3_play_80 hX N  x0 x1 x2 u
      · refine jf_iload hX dX3_play_39 4 rfl ?_
        refine jf_iload hX dX3_play_41 5 rfl ?_
        refine jf_callSN (As := [.int x4, .int x5]) (st := []) hX mo_X10_bitOf wnest_421 wstat_383 rfl (fun l D cT z0 ks => kX10_bitOf N l D cT z0 ks x4 x5 u) (by decide) (by decide) (by decide) (by decide) (Nat.le_of_ble_eq_true rfl) rfl rfl dX3_play_43 (fun r1 u2 => ?_)
        refine jf_if_ne (tgt := 74) hX dX3_play_46 (by decide) ?_ ?_
        · refine jf_iinc (v := 1) (lv' := [(5, .int (x5 + (1 : Int32))), (0, .ref x0), (1, .ref x1), (2, .ref x2), (3, va_rf x3), (4, .int x4)]) hX dX3_play_74 5 rfl (by decide) (by decide) rfl ?_
          refine jf_goto (tgt := 26) hX dX3_play_77 (by decide) ?_
          refine jf_lv [1, 2, 3, 4, 5, 0] rfl ?_
          exact hrec26 x0 x1 x2 x3 x4 (x5 + (1 : Int32)) u2
        · refine jf_aload_n hX dX3_play_49 2 rfl ?_
          refine jf_iload hX dX3_play_50 5 rfl ?_
          refine jf_aload_n hX dX3_play_52 0 rfl ?_
          refine jf_aload_n hX dX3_play_53 1 rfl ?_
          refine jf_aload_n hX dX3_play_54 2 rfl ?_
          refine jf_aload_nq hX dX3_play_55 3 rfl ?_
          refine jf_iload hX dX3_play_56 5 rfl ?_
          refine jf_nn1 (fun q3 => ?_)
          refine jf_callV (As := [.ref x1, .ref x2, .ref q3, .int x5]) (st := [.int x5, .ref x2]) hX mo_X3_answer wml_446 winst_447 wsel_448 3 ck_X3 rfl (fun l D cT z0 ks => kX3_answer N l D cT z0 ks x0 x1 x2 q3 x5 u2) (by decide) (by decide) (by decide) (by decide) (Nat.le_of_ble_eq_true rfl) rfl rfl dX3_play_58 (fun r4 u5 => ?_)
          refine jf_lconst (v := 0) hX dX3_play_61 (by decide) ?_
          refine jf_lcmp hX dX3_play_62 ?_
          refine jf_if_le (tgt := 70) hX dX3_play_63 (by decide) ?_ ?_
          · refine jf_iconst (v := 0) hX dX3_play_70 (by decide) ?_
            refine jf_lv [0, 1, 2, 3, 4, 5] rfl ?_
            exact jgX3_play_71 hX N hrec26 x0 x1 x2 x3 x4 x5 x2 x5 (0 : Int32) u5
          · refine jf_iconst (v := 1) hX dX3_play_66 (by decide) ?_
            refine jf_goto (tgt := 71) hX dX3_play_67 (by decide) ?_
            refine jf_lv [0, 1, 2, 3, 4, 5] rfl ?_
            exact jgX3_play_71 hX N hrec26 x0 x1 x2 x3 x4 x5 x2 x5 (1 : Int32) u5
set_option maxRecDepth 20000 in
def fX3_play (N : Nat)  (a0 : Nat) (p1 : Nat) (p2 : Nat) (p3 : Option Nat) (u : SG) : Option (Int32 × SG) := if zK u p2 = 3 then (if zK u p1 = 8 then cl (fX7_workersAt N p1 (zI u p2 0) u) fun r1 u2 => (if zK u2 p2 = 3 then (if zK u2 p2 = 3 then bs (sI u2 p2 2 ((zI u2 p2 2) &&& (r1 ^^^ (-1 : Int32)))) fun u3 => (gX3_play_26 N  N a0 p1 p2 p3 r1 (0 : Int32) u3) else none) else none) else none) else none
set_option maxRecDepth 20000 in
set_option maxHeartbeats 4000000 in
theorem kX3_play  (N : Nat)  (l : Launch) (D : va_G) (cT : Nat → ClassId) (z0 : Nat) (ks : Nat × Nat) (a0 : Nat) (p1 : Nat) (p2 : Nat) (p3 : Option Nat) (u : SG) : Ct l D cT z0 ks yX3_play cX3_play 6 (some .int) 5 0 0 vI [.ref a0, .ref p1, .ref p2, va_rf p3] u (fX3_play N  a0 p1 p2 p3 u) := by
  unfold fX3_play
  refine ct_of (by decide +kernel) (by cases p3 <;> exact Nat.le_of_ble_eq_true rfl) (fun p e R s m args below meth c hX => ?_)
  rw [show lv_args 0 [.ref a0, .ref p1, .ref p2, va_rf p3] = [(0, .ref a0), (1, .ref p1), (2, .ref p2), (3, va_rf p3)] from by cases p3 <;> rfl]
  refine jf_aload_n hX dX3_play_0 1 rfl ?_
  refine jf_aload_n hX dX3_play_1 2 rfl ?_
  refine jf_getI hX ck_X2 0 wfl_407 (by decide) rfl dX3_play_2 ?_
  refine jf_callV (As := [.int (zI u p2 0)]) (st := []) hX mo_X7_workersAt wml_443 winst_444 wsel_445 7 ck_X7 rfl (fun l D cT z0 ks => kX7_workersAt N l D cT z0 ks p1 (zI u p2 0) u) (by decide) (by decide) (by decide) (by decide) (Nat.le_of_ble_eq_true rfl) rfl rfl dX3_play_5 (fun r1 u2 => ?_)
  refine jf_istore (lv' := [(4, .int r1), (0, .ref a0), (1, .ref p1), (2, .ref p2), (3, va_rf p3)]) hX dX3_play_8 (by decide) (by cases p3 <;> rfl) ?_
  refine jf_aload_n hX dX3_play_10 3 rfl ?_
  refine jf_dup hX dX3_play_11 rfl ?_
  refine jf_getI hX ck_X2 2 wfl_419 (by decide) rfl dX3_play_12 ?_
  refine jf_iload hX dX3_play_15 0 rfl ?_
  refine jf_iconst (v := -1) hX dX3_play_17 (by decide) ?_
  refine jf_ixor hX dX3_play_18 ?_
  refine jf_iand hX dX3_play_19 ?_
  refine jf_putI hX trivial ck_X2 2 wfl_419 (by decide) rfl rfl rfl dX3_play_20 (fun u3 => ?_)
  refine jf_iconst (v := 0) hX dX3_play_23 (by decide) ?_
  refine jf_istore (lv' := [(5, .int (0 : Int32)), (4, .int r1), (0, .ref a0), (1, .ref p1), (2, .ref p2), (3, va_rf p3)]) hX dX3_play_24 (by decide) rfl ?_
  refine jf_lv [2, 3, 4, 5, 1, 0] rfl ?_
  exact jgX3_play_26 hX N  N a0 p1 p2 p3 r1 (0 : Int32) u3
