theorem dX11_init_0 : decode cX11_init 0 = .ok (.aload_n 0, 1) := by decide +kernel
theorem dX11_init_1 : decode cX11_init 1 = .ok (.invokespecial 1, 3) := by decide +kernel
theorem dX11_init_4 : decode cX11_init 4 = .ok (.aload_n 0, 1) := by decide +kernel
theorem dX11_init_5 : decode cX11_init 5 = .ok (.sipush 400, 3) := by decide +kernel
theorem dX11_init_8 : decode cX11_init 8 = .ok (.newarray .byte, 2) := by decide +kernel
theorem dX11_init_10 : decode cX11_init 10 = .ok (.putfield 7, 3) := by decide +kernel
theorem dX11_init_13 : decode cX11_init 13 = .ok (.aload_n 0, 1) := by decide +kernel
theorem dX11_init_14 : decode cX11_init 14 = .ok (.sipush 2400, 3) := by decide +kernel
theorem dX11_init_17 : decode cX11_init 17 = .ok (.newarray .int, 2) := by decide +kernel
theorem dX11_init_19 : decode cX11_init 19 = .ok (.putfield 13, 3) := by decide +kernel
theorem dX11_init_22 : decode cX11_init 22 = .ok (.aload_n 0, 1) := by decide +kernel
theorem dX11_init_23 : decode cX11_init 23 = .ok (.bipush 7, 2) := by decide +kernel
theorem dX11_init_25 : decode cX11_init 25 = .ok (.newarray .int, 2) := by decide +kernel
theorem dX11_init_27 : decode cX11_init 27 = .ok (.putfield 17, 3) := by decide +kernel
theorem dX11_init_30 : decode cX11_init 30 = .ok (.aload_n 0, 1) := by decide +kernel
theorem dX11_init_31 : decode cX11_init 31 = .ok (.sipush 288, 3) := by decide +kernel
theorem dX11_init_34 : decode cX11_init 34 = .ok (.newarray .int, 2) := by decide +kernel
theorem dX11_init_36 : decode cX11_init 36 = .ok (.putfield 20, 3) := by decide +kernel
theorem dX11_init_39 : decode cX11_init 39 = .ok (.aload_n 0, 1) := by decide +kernel
theorem dX11_init_40 : decode cX11_init 40 = .ok (.bipush 6, 2) := by decide +kernel
theorem dX11_init_42 : decode cX11_init 42 = .ok (.newarray .int, 2) := by decide +kernel
theorem dX11_init_44 : decode cX11_init 44 = .ok (.putfield 23, 3) := by decide +kernel
theorem dX11_init_47 : decode cX11_init 47 = .ok (.aload_n 0, 1) := by decide +kernel
theorem dX11_init_48 : decode cX11_init 48 = .ok (.bipush 103, 2) := by decide +kernel
theorem dX11_init_50 : decode cX11_init 50 = .ok (.newarray .int, 2) := by decide +kernel
theorem dX11_init_52 : decode cX11_init 52 = .ok (.putfield 26, 3) := by decide +kernel
theorem dX11_init_55 : decode cX11_init 55 = .ok (.aload_n 0, 1) := by decide +kernel
theorem dX11_init_56 : decode cX11_init 56 = .ok (.sipush 400, 3) := by decide +kernel
theorem dX11_init_59 : decode cX11_init 59 = .ok (.newarray .int, 2) := by decide +kernel
theorem dX11_init_61 : decode cX11_init 61 = .ok (.putfield 29, 3) := by decide +kernel
theorem dX11_init_64 : decode cX11_init 64 = .ok (.aload_n 0, 1) := by decide +kernel
theorem dX11_init_65 : decode cX11_init 65 = .ok (.bipush 64, 2) := by decide +kernel
theorem dX11_init_67 : decode cX11_init 67 = .ok (.newarray .long, 2) := by decide +kernel
theorem dX11_init_69 : decode cX11_init 69 = .ok (.putfield 32, 3) := by decide +kernel
theorem dX11_init_72 : decode cX11_init 72 = .ok (.aload_n 0, 1) := by decide +kernel
theorem dX11_init_73 : decode cX11_init 73 = .ok (.bipush 13, 2) := by decide +kernel
theorem dX11_init_75 : decode cX11_init 75 = .ok (.newarray .long, 2) := by decide +kernel
theorem dX11_init_77 : decode cX11_init 77 = .ok (.putfield 36, 3) := by decide +kernel
theorem dX11_init_80 : decode cX11_init 80 = .ok (.aload_n 0, 1) := by decide +kernel
theorem dX11_init_81 : decode cX11_init 81 = .ok (.sipush 144, 3) := by decide +kernel
theorem dX11_init_84 : decode cX11_init 84 = .ok (.newarray .int, 2) := by decide +kernel
theorem dX11_init_86 : decode cX11_init 86 = .ok (.putfield 39, 3) := by decide +kernel
theorem dX11_init_89 : decode cX11_init 89 = .ok (.aload_n 0, 1) := by decide +kernel
theorem dX11_init_90 : decode cX11_init 90 = .ok (.iconst (-1), 1) := by decide +kernel
theorem dX11_init_91 : decode cX11_init 91 = .ok (.putfield 42, 3) := by decide +kernel
theorem dX11_init_94 : decode cX11_init 94 = .ok (.aload_n 0, 1) := by decide +kernel
theorem dX11_init_95 : decode cX11_init 95 = .ok (.iconst 5, 1) := by decide +kernel
theorem dX11_init_96 : decode cX11_init 96 = .ok (.newarray .int, 2) := by decide +kernel
theorem dX11_init_98 : decode cX11_init 98 = .ok (.putfield 46, 3) := by decide +kernel
theorem dX11_init_101 : decode cX11_init 101 = .ok (.aload_n 0, 1) := by decide +kernel
theorem dX11_init_102 : decode cX11_init 102 = .ok (.sipush 900, 3) := by decide +kernel
theorem dX11_init_105 : decode cX11_init 105 = .ok (.newarray .int, 2) := by decide +kernel
theorem dX11_init_107 : decode cX11_init 107 = .ok (.putfield 49, 3) := by decide +kernel
theorem dX11_init_110 : decode cX11_init 110 = .ok (.aload_n 0, 1) := by decide +kernel
theorem dX11_init_111 : decode cX11_init 111 = .ok (.bipush 45, 2) := by decide +kernel
theorem dX11_init_113 : decode cX11_init 113 = .ok (.newarray .int, 2) := by decide +kernel
theorem dX11_init_115 : decode cX11_init 115 = .ok (.putfield 52, 3) := by decide +kernel
theorem dX11_init_118 : decode cX11_init 118 = .ok (.aload_n 0, 1) := by decide +kernel
theorem dX11_init_119 : decode cX11_init 119 = .ok (.bipush 11, 2) := by decide +kernel
theorem dX11_init_121 : decode cX11_init 121 = .ok (.newarray .int, 2) := by decide +kernel
theorem dX11_init_123 : decode cX11_init 123 = .ok (.putfield 55, 3) := by decide +kernel
theorem dX11_init_126 : decode cX11_init 126 = .ok (.aload_n 0, 1) := by decide +kernel
theorem dX11_init_127 : decode cX11_init 127 = .ok (.sipush 729, 3) := by decide +kernel
theorem dX11_init_130 : decode cX11_init 130 = .ok (.newarray .int, 2) := by decide +kernel
theorem dX11_init_132 : decode cX11_init 132 = .ok (.putfield 58, 3) := by decide +kernel
theorem dX11_init_135 : decode cX11_init 135 = .ok (.aload_n 0, 1) := by decide +kernel
theorem dX11_init_136 : decode cX11_init 136 = .ok (.sipush 576, 3) := by decide +kernel
theorem dX11_init_139 : decode cX11_init 139 = .ok (.newarray .int, 2) := by decide +kernel
theorem dX11_init_141 : decode cX11_init 141 = .ok (.putfield 61, 3) := by decide +kernel
theorem dX11_init_144 : decode cX11_init 144 = .ok (.aload_n 0, 1) := by decide +kernel
theorem dX11_init_145 : decode cX11_init 145 = .ok (.iconst 4, 1) := by decide +kernel
theorem dX11_init_146 : decode cX11_init 146 = .ok (.newarray .int, 2) := by decide +kernel
theorem dX11_init_148 : decode cX11_init 148 = .ok (.putfield 64, 3) := by decide +kernel
theorem dX11_init_151 : decode cX11_init 151 = .ok (.aload_n 0, 1) := by decide +kernel
theorem dX11_init_152 : decode cX11_init 152 = .ok (.iconst 4, 1) := by decide +kernel
theorem dX11_init_153 : decode cX11_init 153 = .ok (.newarray .int, 2) := by decide +kernel
theorem dX11_init_155 : decode cX11_init 155 = .ok (.putfield 67, 3) := by decide +kernel
theorem dX11_init_158 : decode cX11_init 158 = .ok (.aload_n 0, 1) := by decide +kernel
theorem dX11_init_159 : decode cX11_init 159 = .ok (.iconst 4, 1) := by decide +kernel
theorem dX11_init_160 : decode cX11_init 160 = .ok (.newarray .boolean, 2) := by decide +kernel
theorem dX11_init_162 : decode cX11_init 162 = .ok (.putfield 70, 3) := by decide +kernel
theorem dX11_init_165 : decode cX11_init 165 = .ok (.return_, 1) := by decide +kernel
theorem dX11_in_0 : decode cX11_in 0 = .ok (.lload_n 0, 1) := by decide +kernel
theorem dX11_in_1 : decode cX11_in 1 = .ok (.lload_n 2, 1) := by decide +kernel
theorem dX11_in_2 : decode cX11_in 2 = .ok (.lcmp, 1) := by decide +kernel
theorem dX11_in_3 : decode cX11_in 3 = .ok (.ifCond .lt 14, 3) := by decide +kernel
theorem dX11_in_6 : decode cX11_in 6 = .ok (.lload_n 0, 1) := by decide +kernel
theorem dX11_in_7 : decode cX11_in 7 = .ok (.lload 4, 2) := by decide +kernel
theorem dX11_in_9 : decode cX11_in 9 = .ok (.lcmp, 1) := by decide +kernel
theorem dX11_in_10 : decode cX11_in 10 = .ok (.ifCond .gt 7, 3) := by decide +kernel
theorem dX11_in_13 : decode cX11_in 13 = .ok (.iconst 1, 1) := by decide +kernel
theorem dX11_in_14 : decode cX11_in 14 = .ok (.goto 4, 3) := by decide +kernel
theorem dX11_in_17 : decode cX11_in 17 = .ok (.iconst 0, 1) := by decide +kernel
theorem dX11_in_18 : decode cX11_in 18 = .ok (.ireturn, 1) := by decide +kernel
theorem dX11_isOf_0 : decode cX11_isOf 0 = .ok (.iload_n 0, 1) := by decide +kernel
theorem dX11_isOf_1 : decode cX11_isOf 1 = .ok (.iload_n 1, 1) := by decide +kernel
theorem dX11_isOf_2 : decode cX11_isOf 2 = .ok (.ishr, 1) := by decide +kernel
theorem dX11_isOf_3 : decode cX11_isOf 3 = .ok (.iconst 1, 1) := by decide +kernel
theorem dX11_isOf_4 : decode cX11_isOf 4 = .ok (.iand, 1) := by decide +kernel
theorem dX11_isOf_5 : decode cX11_isOf 5 = .ok (.iconst 1, 1) := by decide +kernel
theorem dX11_isOf_6 : decode cX11_isOf 6 = .ok (.if_icmp .ne 7, 3) := by decide +kernel
theorem dX11_isOf_9 : decode cX11_isOf 9 = .ok (.iconst 1, 1) := by decide +kernel
theorem dX11_isOf_10 : decode cX11_isOf 10 = .ok (.goto 4, 3) := by decide +kernel
theorem dX11_isOf_13 : decode cX11_isOf 13 = .ok (.iconst 0, 1) := by decide +kernel
theorem dX11_isOf_14 : decode cX11_isOf 14 = .ok (.ireturn, 1) := by decide +kernel
theorem dX11_bits_0 : decode cX11_bits 0 = .ok (.iconst 0, 1) := by decide +kernel
theorem dX11_bits_1 : decode cX11_bits 1 = .ok (.istore_n 1, 1) := by decide +kernel
theorem dX11_bits_2 : decode cX11_bits 2 = .ok (.iload_n 0, 1) := by decide +kernel
theorem dX11_bits_3 : decode cX11_bits 3 = .ok (.istore_n 2, 1) := by decide +kernel
theorem dX11_bits_4 : decode cX11_bits 4 = .ok (.iload_n 2, 1) := by decide +kernel
theorem dX11_bits_5 : decode cX11_bits 5 = .ok (.ifCond .eq 15, 3) := by decide +kernel
theorem dX11_bits_8 : decode cX11_bits 8 = .ok (.iinc 1 1, 3) := by decide +kernel
theorem dX11_bits_11 : decode cX11_bits 11 = .ok (.iload_n 2, 1) := by decide +kernel
theorem dX11_bits_12 : decode cX11_bits 12 = .ok (.iload_n 2, 1) := by decide +kernel
theorem dX11_bits_13 : decode cX11_bits 13 = .ok (.iconst 1, 1) := by decide +kernel
theorem dX11_bits_14 : decode cX11_bits 14 = .ok (.isub, 1) := by decide +kernel
theorem dX11_bits_15 : decode cX11_bits 15 = .ok (.iand, 1) := by decide +kernel
theorem dX11_bits_16 : decode cX11_bits 16 = .ok (.istore_n 2, 1) := by decide +kernel
theorem dX11_bits_17 : decode cX11_bits 17 = .ok (.goto (-13), 3) := by decide +kernel
theorem dX11_bits_20 : decode cX11_bits 20 = .ok (.iload_n 1, 1) := by decide +kernel
theorem dX11_bits_21 : decode cX11_bits 21 = .ok (.ireturn, 1) := by decide +kernel
theorem dX11_four_0 : decode cX11_four 0 = .ok (.bipush 24, 2) := by decide +kernel
theorem dX11_four_2 : decode cX11_four 2 = .ok (.istore_n 2, 1) := by decide +kernel
theorem dX11_four_3 : decode cX11_four 3 = .ok (.iload_n 2, 1) := by decide +kernel
theorem dX11_four_4 : decode cX11_four 4 = .ok (.ifCond .lt 32, 3) := by decide +kernel
theorem dX11_four_7 : decode cX11_four 7 = .ok (.aload_n 0, 1) := by decide +kernel
theorem dX11_four_8 : decode cX11_four 8 = .ok (.getfield 7, 3) := by decide +kernel
theorem dX11_four_11 : decode cX11_four 11 = .ok (.aload_n 0, 1) := by decide +kernel
theorem dX11_four_12 : decode cX11_four 12 = .ok (.getfield 74, 3) := by decide +kernel
theorem dX11_four_15 : decode cX11_four 15 = .ok (.iload_n 1, 1) := by decide +kernel
theorem dX11_four_16 : decode cX11_four 16 = .ok (.iload_n 2, 1) := by decide +kernel
theorem dX11_four_17 : decode cX11_four 17 = .ok (.ishr, 1) := by decide +kernel
theorem dX11_four_18 : decode cX11_four 18 = .ok (.i2b, 1) := by decide +kernel
theorem dX11_four_19 : decode cX11_four 19 = .ok (.bastore, 1) := by decide +kernel
theorem dX11_four_20 : decode cX11_four 20 = .ok (.aload_n 0, 1) := by decide +kernel
theorem dX11_four_21 : decode cX11_four 21 = .ok (.dup, 1) := by decide +kernel
theorem dX11_four_22 : decode cX11_four 22 = .ok (.getfield 74, 3) := by decide +kernel
theorem dX11_four_25 : decode cX11_four 25 = .ok (.iconst 1, 1) := by decide +kernel
theorem dX11_four_26 : decode cX11_four 26 = .ok (.iadd, 1) := by decide +kernel
theorem dX11_four_27 : decode cX11_four 27 = .ok (.putfield 74, 3) := by decide +kernel
theorem dX11_four_30 : decode cX11_four 30 = .ok (.iinc 2 (-8), 3) := by decide +kernel
theorem dX11_four_33 : decode cX11_four 33 = .ok (.goto (-30), 3) := by decide +kernel
theorem dX11_four_36 : decode cX11_four 36 = .ok (.return_, 1) := by decide +kernel
theorem dX11_feed_0 : decode cX11_feed 0 = .ok (.aload_n 0, 1) := by decide +kernel
theorem dX11_feed_1 : decode cX11_feed 1 = .ok (.getfield 74, 3) := by decide +kernel
theorem dX11_feed_4 : decode cX11_feed 4 = .ok (.bipush 20, 2) := by decide +kernel
theorem dX11_feed_6 : decode cX11_feed 6 = .ok (.iadd, 1) := by decide +kernel
theorem dX11_feed_7 : decode cX11_feed 7 = .ok (.sipush 400, 3) := by decide +kernel
theorem dX11_feed_10 : decode cX11_feed 10 = .ok (.if_icmp .le 5, 3) := by decide +kernel
theorem dX11_feed_13 : decode cX11_feed 13 = .ok (.iconst (-1), 1) := by decide +kernel
theorem dX11_feed_14 : decode cX11_feed 14 = .ok (.ireturn, 1) := by decide +kernel
theorem dX11_feed_15 : decode cX11_feed 15 = .ok (.aload_n 0, 1) := by decide +kernel
theorem dX11_feed_16 : decode cX11_feed 16 = .ok (.iload_n 1, 1) := by decide +kernel
theorem dX11_feed_17 : decode cX11_feed 17 = .ok (.invokevirtual 77, 3) := by decide +kernel
theorem dX11_feed_20 : decode cX11_feed 20 = .ok (.aload_n 0, 1) := by decide +kernel
theorem dX11_feed_21 : decode cX11_feed 21 = .ok (.iload_n 2, 1) := by decide +kernel
theorem dX11_feed_22 : decode cX11_feed 22 = .ok (.invokevirtual 77, 3) := by decide +kernel
theorem dX11_feed_25 : decode cX11_feed 25 = .ok (.aload_n 0, 1) := by decide +kernel
theorem dX11_feed_26 : decode cX11_feed 26 = .ok (.iload_n 3, 1) := by decide +kernel
theorem dX11_feed_27 : decode cX11_feed 27 = .ok (.invokevirtual 77, 3) := by decide +kernel
theorem dX11_feed_30 : decode cX11_feed 30 = .ok (.aload_n 0, 1) := by decide +kernel
theorem dX11_feed_31 : decode cX11_feed 31 = .ok (.iload 4, 2) := by decide +kernel
theorem dX11_feed_33 : decode cX11_feed 33 = .ok (.invokevirtual 77, 3) := by decide +kernel
theorem dX11_feed_36 : decode cX11_feed 36 = .ok (.aload_n 0, 1) := by decide +kernel
theorem dX11_feed_37 : decode cX11_feed 37 = .ok (.iload 5, 2) := by decide +kernel
theorem dX11_feed_39 : decode cX11_feed 39 = .ok (.invokevirtual 77, 3) := by decide +kernel
theorem dX11_feed_42 : decode cX11_feed 42 = .ok (.aload_n 0, 1) := by decide +kernel
theorem dX11_feed_43 : decode cX11_feed 43 = .ok (.getfield 74, 3) := by decide +kernel
theorem dX11_feed_46 : decode cX11_feed 46 = .ok (.ireturn, 1) := by decide +kernel
theorem dX11_end_0 : decode cX11_end 0 = .ok (.iload_n 1, 1) := by decide +kernel
theorem dX11_end_1 : decode cX11_end 1 = .ok (.ifCond .lt 11, 3) := by decide +kernel
theorem dX11_end_4 : decode cX11_end 4 = .ok (.iload_n 1, 1) := by decide +kernel
theorem dX11_end_5 : decode cX11_end 5 = .ok (.aload_n 0, 1) := by decide +kernel
theorem dX11_end_6 : decode cX11_end 6 = .ok (.getfield 74, 3) := by decide +kernel
theorem dX11_end_9 : decode cX11_end 9 = .ok (.if_icmp .le 5, 3) := by decide +kernel
theorem dX11_end_12 : decode cX11_end 12 = .ok (.iconst (-1), 1) := by decide +kernel
theorem dX11_end_13 : decode cX11_end 13 = .ok (.ireturn, 1) := by decide +kernel
theorem dX11_end_14 : decode cX11_end 14 = .ok (.aload_n 0, 1) := by decide +kernel
theorem dX11_end_15 : decode cX11_end 15 = .ok (.iload_n 1, 1) := by decide +kernel
theorem dX11_end_16 : decode cX11_end 16 = .ok (.putfield 74, 3) := by decide +kernel
theorem dX11_end_19 : decode cX11_end 19 = .ok (.iload_n 1, 1) := by decide +kernel
theorem dX11_end_20 : decode cX11_end 20 = .ok (.ireturn, 1) := by decide +kernel
theorem dX11_fails_0 : decode cX11_fails 0 = .ok (.aload_n 0, 1) := by decide +kernel
theorem dX11_fails_1 : decode cX11_fails 1 = .ok (.getfield 81, 3) := by decide +kernel
theorem dX11_fails_4 : decode cX11_fails 4 = .ok (.ifCond .ne 15, 3) := by decide +kernel
theorem dX11_fails_7 : decode cX11_fails 7 = .ok (.aload_n 0, 1) := by decide +kernel
theorem dX11_fails_8 : decode cX11_fails 8 = .ok (.iconst 1, 1) := by decide +kernel
theorem dX11_fails_9 : decode cX11_fails 9 = .ok (.bipush 8, 2) := by decide +kernel
theorem dX11_fails_11 : decode cX11_fails 11 = .ok (.iload_n 2, 1) := by decide +kernel
theorem dX11_fails_12 : decode cX11_fails 12 = .ok (.imul, 1) := by decide +kernel
theorem dX11_fails_13 : decode cX11_fails 13 = .ok (.iadd, 1) := by decide +kernel
theorem dX11_fails_14 : decode cX11_fails 14 = .ok (.iload_n 1, 1) := by decide +kernel
theorem dX11_fails_15 : decode cX11_fails 15 = .ok (.iadd, 1) := by decide +kernel
theorem dX11_fails_16 : decode cX11_fails 16 = .ok (.putfield 81, 3) := by decide +kernel
theorem dX11_fails_19 : decode cX11_fails 19 = .ok (.iconst 0, 1) := by decide +kernel
theorem dX11_fails_20 : decode cX11_fails 20 = .ok (.ireturn, 1) := by decide +kernel
theorem dX11_see_0 : decode cX11_see 0 = .ok (.aload_n 0, 1) := by decide +kernel
theorem dX11_see_1 : decode cX11_see 1 = .ok (.getfield 84, 3) := by decide +kernel
theorem dX11_see_4 : decode cX11_see 4 = .ok (.aload_n 0, 1) := by decide +kernel
theorem dX11_see_5 : decode cX11_see 5 = .ok (.getfield 74, 3) := by decide +kernel
theorem dX11_see_8 : decode cX11_see 8 = .ok (.if_icmp .ge 30, 3) := by decide +kernel
theorem dX11_see_11 : decode cX11_see 11 = .ok (.aload_n 0, 1) := by decide +kernel
theorem dX11_see_12 : decode cX11_see 12 = .ok (.getfield 7, 3) := by decide +kernel
theorem dX11_see_15 : decode cX11_see 15 = .ok (.aload_n 0, 1) := by decide +kernel
theorem dX11_see_16 : decode cX11_see 16 = .ok (.getfield 84, 3) := by decide +kernel
theorem dX11_see_19 : decode cX11_see 19 = .ok (.baload, 1) := by decide +kernel
theorem dX11_see_20 : decode cX11_see 20 = .ok (.bipush 32, 2) := by decide +kernel
theorem dX11_see_22 : decode cX11_see 22 = .ok (.if_icmp .ne 16, 3) := by decide +kernel
theorem dX11_see_25 : decode cX11_see 25 = .ok (.aload_n 0, 1) := by decide +kernel
theorem dX11_see_26 : decode cX11_see 26 = .ok (.dup, 1) := by decide +kernel
theorem dX11_see_27 : decode cX11_see 27 = .ok (.getfield 84, 3) := by decide +kernel
theorem dX11_see_30 : decode cX11_see 30 = .ok (.iconst 1, 1) := by decide +kernel
theorem dX11_see_31 : decode cX11_see 31 = .ok (.iadd, 1) := by decide +kernel
theorem dX11_see_32 : decode cX11_see 32 = .ok (.putfield 84, 3) := by decide +kernel
theorem dX11_see_35 : decode cX11_see 35 = .ok (.goto (-35), 3) := by decide +kernel
theorem dX11_see_38 : decode cX11_see 38 = .ok (.aload_n 0, 1) := by decide +kernel
theorem dX11_see_39 : decode cX11_see 39 = .ok (.getfield 84, 3) := by decide +kernel
theorem dX11_see_42 : decode cX11_see 42 = .ok (.aload_n 0, 1) := by decide +kernel
theorem dX11_see_43 : decode cX11_see 43 = .ok (.getfield 74, 3) := by decide +kernel
theorem dX11_see_46 : decode cX11_see 46 = .ok (.if_icmp .ge 19, 3) := by decide +kernel
theorem dX11_see_49 : decode cX11_see 49 = .ok (.aload_n 0, 1) := by decide +kernel
theorem dX11_see_50 : decode cX11_see 50 = .ok (.getfield 7, 3) := by decide +kernel
theorem dX11_see_53 : decode cX11_see 53 = .ok (.aload_n 0, 1) := by decide +kernel
theorem dX11_see_54 : decode cX11_see 54 = .ok (.getfield 84, 3) := by decide +kernel
theorem dX11_see_57 : decode cX11_see 57 = .ok (.baload, 1) := by decide +kernel
theorem dX11_see_58 : decode cX11_see 58 = .ok (.sipush 255, 3) := by decide +kernel
theorem dX11_see_61 : decode cX11_see 61 = .ok (.iand, 1) := by decide +kernel
theorem dX11_see_62 : decode cX11_see 62 = .ok (.goto 4, 3) := by decide +kernel
theorem dX11_see_65 : decode cX11_see 65 = .ok (.iconst (-1), 1) := by decide +kernel
theorem dX11_see_66 : decode cX11_see 66 = .ok (.ireturn, 1) := by decide +kernel
theorem dX11_isDigit_0 : decode cX11_isDigit 0 = .ok (.iload_n 1, 1) := by decide +kernel
theorem dX11_isDigit_1 : decode cX11_isDigit 1 = .ok (.aload_n 0, 1) := by decide +kernel
theorem dX11_isDigit_2 : decode cX11_isDigit 2 = .ok (.getfield 74, 3) := by decide +kernel
theorem dX11_isDigit_5 : decode cX11_isDigit 5 = .ok (.if_icmp .ge 29, 3) := by decide +kernel
theorem dX11_isDigit_8 : decode cX11_isDigit 8 = .ok (.aload_n 0, 1) := by decide +kernel
theorem dX11_isDigit_9 : decode cX11_isDigit 9 = .ok (.getfield 7, 3) := by decide +kernel
theorem dX11_isDigit_12 : decode cX11_isDigit 12 = .ok (.iload_n 1, 1) := by decide +kernel
theorem dX11_isDigit_13 : decode cX11_isDigit 13 = .ok (.baload, 1) := by decide +kernel
theorem dX11_isDigit_14 : decode cX11_isDigit 14 = .ok (.bipush 48, 2) := by decide +kernel
theorem dX11_isDigit_16 : decode cX11_isDigit 16 = .ok (.if_icmp .lt 18, 3) := by decide +kernel
theorem dX11_isDigit_19 : decode cX11_isDigit 19 = .ok (.aload_n 0, 1) := by decide +kernel
theorem dX11_isDigit_20 : decode cX11_isDigit 20 = .ok (.getfield 7, 3) := by decide +kernel
theorem dX11_isDigit_23 : decode cX11_isDigit 23 = .ok (.iload_n 1, 1) := by decide +kernel
theorem dX11_isDigit_24 : decode cX11_isDigit 24 = .ok (.baload, 1) := by decide +kernel
theorem dX11_isDigit_25 : decode cX11_isDigit 25 = .ok (.bipush 57, 2) := by decide +kernel
theorem dX11_isDigit_27 : decode cX11_isDigit 27 = .ok (.if_icmp .gt 7, 3) := by decide +kernel
theorem dX11_isDigit_30 : decode cX11_isDigit 30 = .ok (.iconst 1, 1) := by decide +kernel
theorem dX11_isDigit_31 : decode cX11_isDigit 31 = .ok (.goto 4, 3) := by decide +kernel
theorem dX11_isDigit_34 : decode cX11_isDigit 34 = .ok (.iconst 0, 1) := by decide +kernel
theorem dX11_isDigit_35 : decode cX11_isDigit 35 = .ok (.ireturn, 1) := by decide +kernel
theorem dX11_isLetter_0 : decode cX11_isLetter 0 = .ok (.iload_n 1, 1) := by decide +kernel
theorem dX11_isLetter_1 : decode cX11_isLetter 1 = .ok (.aload_n 0, 1) := by decide +kernel
theorem dX11_isLetter_2 : decode cX11_isLetter 2 = .ok (.getfield 74, 3) := by decide +kernel
theorem dX11_isLetter_5 : decode cX11_isLetter 5 = .ok (.if_icmp .ge 29, 3) := by decide +kernel
theorem dX11_isLetter_8 : decode cX11_isLetter 8 = .ok (.aload_n 0, 1) := by decide +kernel
theorem dX11_isLetter_9 : decode cX11_isLetter 9 = .ok (.getfield 7, 3) := by decide +kernel
theorem dX11_isLetter_12 : decode cX11_isLetter 12 = .ok (.iload_n 1, 1) := by decide +kernel
theorem dX11_isLetter_13 : decode cX11_isLetter 13 = .ok (.baload, 1) := by decide +kernel
theorem dX11_isLetter_14 : decode cX11_isLetter 14 = .ok (.bipush 97, 2) := by decide +kernel
theorem dX11_isLetter_16 : decode cX11_isLetter 16 = .ok (.if_icmp .lt 18, 3) := by decide +kernel
theorem dX11_isLetter_19 : decode cX11_isLetter 19 = .ok (.aload_n 0, 1) := by decide +kernel
theorem dX11_isLetter_20 : decode cX11_isLetter 20 = .ok (.getfield 7, 3) := by decide +kernel
theorem dX11_isLetter_23 : decode cX11_isLetter 23 = .ok (.iload_n 1, 1) := by decide +kernel
theorem dX11_isLetter_24 : decode cX11_isLetter 24 = .ok (.baload, 1) := by decide +kernel
theorem dX11_isLetter_25 : decode cX11_isLetter 25 = .ok (.bipush 122, 2) := by decide +kernel
theorem dX11_isLetter_27 : decode cX11_isLetter 27 = .ok (.if_icmp .gt 7, 3) := by decide +kernel
theorem dX11_isLetter_30 : decode cX11_isLetter 30 = .ok (.iconst 1, 1) := by decide +kernel
theorem dX11_isLetter_31 : decode cX11_isLetter 31 = .ok (.goto 4, 3) := by decide +kernel
theorem dX11_isLetter_34 : decode cX11_isLetter 34 = .ok (.iconst 0, 1) := by decide +kernel
theorem dX11_isLetter_35 : decode cX11_isLetter 35 = .ok (.ireturn, 1) := by decide +kernel
theorem dX11_isWord_0 : decode cX11_isWord 0 = .ok (.aload_n 0, 1) := by decide +kernel
theorem dX11_isWord_1 : decode cX11_isWord 1 = .ok (.invokevirtual 87, 3) := by decide +kernel
theorem dX11_isWord_4 : decode cX11_isWord 4 = .ok (.pop, 1) := by decide +kernel
theorem dX11_isWord_5 : decode cX11_isWord 5 = .ok (.lconst 0, 1) := by decide +kernel
theorem dX11_isWord_6 : decode cX11_isWord 6 = .ok (.lstore_n 3, 1) := by decide +kernel
theorem dX11_isWord_7 : decode cX11_isWord 7 = .ok (.iconst 0, 1) := by decide +kernel
theorem dX11_isWord_8 : decode cX11_isWord 8 = .ok (.istore 5, 2) := by decide +kernel
theorem dX11_isWord_10 : decode cX11_isWord 10 = .ok (.aload_n 0, 1) := by decide +kernel
theorem dX11_isWord_11 : decode cX11_isWord 11 = .ok (.aload_n 0, 1) := by decide +kernel
theorem dX11_isWord_12 : decode cX11_isWord 12 = .ok (.getfield 84, 3) := by decide +kernel
theorem dX11_isWord_15 : decode cX11_isWord 15 = .ok (.iload 5, 2) := by decide +kernel
theorem dX11_isWord_17 : decode cX11_isWord 17 = .ok (.iadd, 1) := by decide +kernel
theorem dX11_isWord_18 : decode cX11_isWord 18 = .ok (.invokevirtual 91, 3) := by decide +kernel
theorem dX11_isWord_21 : decode cX11_isWord 21 = .ok (.ifCond .eq 35, 3) := by decide +kernel
theorem dX11_isWord_24 : decode cX11_isWord 24 = .ok (.iload 5, 2) := by decide +kernel
theorem dX11_isWord_26 : decode cX11_isWord 26 = .ok (.bipush 8, 2) := by decide +kernel
theorem dX11_isWord_28 : decode cX11_isWord 28 = .ok (.if_icmp .ge 22, 3) := by decide +kernel
theorem dX11_isWord_31 : decode cX11_isWord 31 = .ok (.lload_n 3, 1) := by decide +kernel
theorem dX11_isWord_32 : decode cX11_isWord 32 = .ok (.bipush 8, 2) := by decide +kernel
theorem dX11_isWord_34 : decode cX11_isWord 34 = .ok (.lshl, 1) := by decide +kernel
theorem dX11_isWord_35 : decode cX11_isWord 35 = .ok (.aload_n 0, 1) := by decide +kernel
theorem dX11_isWord_36 : decode cX11_isWord 36 = .ok (.getfield 7, 3) := by decide +kernel
theorem dX11_isWord_39 : decode cX11_isWord 39 = .ok (.aload_n 0, 1) := by decide +kernel
theorem dX11_isWord_40 : decode cX11_isWord 40 = .ok (.getfield 84, 3) := by decide +kernel
theorem dX11_isWord_43 : decode cX11_isWord 43 = .ok (.iload 5, 2) := by decide +kernel
theorem dX11_isWord_45 : decode cX11_isWord 45 = .ok (.iadd, 1) := by decide +kernel
theorem dX11_isWord_46 : decode cX11_isWord 46 = .ok (.baload, 1) := by decide +kernel
theorem dX11_isWord_47 : decode cX11_isWord 47 = .ok (.i2l, 1) := by decide +kernel
theorem dX11_isWord_48 : decode cX11_isWord 48 = .ok (.lor, 1) := by decide +kernel
theorem dX11_isWord_49 : decode cX11_isWord 49 = .ok (.lstore_n 3, 1) := by decide +kernel
theorem dX11_isWord_50 : decode cX11_isWord 50 = .ok (.iinc 5 1, 3) := by decide +kernel
theorem dX11_isWord_53 : decode cX11_isWord 53 = .ok (.goto (-43), 3) := by decide +kernel
theorem dX11_isWord_56 : decode cX11_isWord 56 = .ok (.iload 5, 2) := by decide +kernel
theorem dX11_isWord_58 : decode cX11_isWord 58 = .ok (.ifCond .le 20, 3) := by decide +kernel
theorem dX11_isWord_61 : decode cX11_isWord 61 = .ok (.iload 5, 2) := by decide +kernel
theorem dX11_isWord_63 : decode cX11_isWord 63 = .ok (.bipush 8, 2) := by decide +kernel
theorem dX11_isWord_65 : decode cX11_isWord 65 = .ok (.if_icmp .ge 13, 3) := by decide +kernel
theorem dX11_isWord_68 : decode cX11_isWord 68 = .ok (.lload_n 3, 1) := by decide +kernel
theorem dX11_isWord_69 : decode cX11_isWord 69 = .ok (.lload_n 1, 1) := by decide +kernel
theorem dX11_isWord_70 : decode cX11_isWord 70 = .ok (.lcmp, 1) := by decide +kernel
theorem dX11_isWord_71 : decode cX11_isWord 71 = .ok (.ifCond .ne 7, 3) := by decide +kernel
theorem dX11_isWord_74 : decode cX11_isWord 74 = .ok (.iconst 1, 1) := by decide +kernel
theorem dX11_isWord_75 : decode cX11_isWord 75 = .ok (.goto 4, 3) := by decide +kernel
theorem dX11_isWord_78 : decode cX11_isWord 78 = .ok (.iconst 0, 1) := by decide +kernel
theorem dX11_isWord_79 : decode cX11_isWord 79 = .ok (.ireturn, 1) := by decide +kernel
theorem dX11_passWord_0 : decode cX11_passWord 0 = .ok (.aload_n 0, 1) := by decide +kernel
theorem dX11_passWord_1 : decode cX11_passWord 1 = .ok (.aload_n 0, 1) := by decide +kernel
theorem dX11_passWord_2 : decode cX11_passWord 2 = .ok (.getfield 84, 3) := by decide +kernel
theorem dX11_passWord_5 : decode cX11_passWord 5 = .ok (.invokevirtual 91, 3) := by decide +kernel
theorem dX11_passWord_8 : decode cX11_passWord 8 = .ok (.ifCond .eq 16, 3) := by decide +kernel
theorem dX11_passWord_11 : decode cX11_passWord 11 = .ok (.aload_n 0, 1) := by decide +kernel
theorem dX11_passWord_12 : decode cX11_passWord 12 = .ok (.dup, 1) := by decide +kernel
theorem dX11_passWord_13 : decode cX11_passWord 13 = .ok (.getfield 84, 3) := by decide +kernel
theorem dX11_passWord_16 : decode cX11_passWord 16 = .ok (.iconst 1, 1) := by decide +kernel
theorem dX11_passWord_17 : decode cX11_passWord 17 = .ok (.iadd, 1) := by decide +kernel
theorem dX11_passWord_18 : decode cX11_passWord 18 = .ok (.putfield 84, 3) := by decide +kernel
theorem dX11_passWord_21 : decode cX11_passWord 21 = .ok (.goto (-21), 3) := by decide +kernel
theorem dX11_passWord_24 : decode cX11_passWord 24 = .ok (.return_, 1) := by decide +kernel
theorem dX11_takesWord_0 : decode cX11_takesWord 0 = .ok (.aload_n 0, 1) := by decide +kernel
theorem dX11_takesWord_1 : decode cX11_takesWord 1 = .ok (.lload_n 1, 1) := by decide +kernel
theorem dX11_takesWord_2 : decode cX11_takesWord 2 = .ok (.invokevirtual 95, 3) := by decide +kernel
theorem dX11_takesWord_5 : decode cX11_takesWord 5 = .ok (.ifCond .ne 5, 3) := by decide +kernel
theorem dX11_takesWord_8 : decode cX11_takesWord 8 = .ok (.iconst 0, 1) := by decide +kernel
theorem dX11_takesWord_9 : decode cX11_takesWord 9 = .ok (.ireturn, 1) := by decide +kernel
theorem dX11_takesWord_10 : decode cX11_takesWord 10 = .ok (.aload_n 0, 1) := by decide +kernel
theorem dX11_takesWord_11 : decode cX11_takesWord 11 = .ok (.invokevirtual 99, 3) := by decide +kernel
theorem dX11_takesWord_14 : decode cX11_takesWord 14 = .ok (.iconst 1, 1) := by decide +kernel
theorem dX11_takesWord_15 : decode cX11_takesWord 15 = .ok (.ireturn, 1) := by decide +kernel
theorem dX11_numberHere_0 : decode cX11_numberHere 0 = .ok (.aload_n 0, 1) := by decide +kernel
theorem dX11_numberHere_1 : decode cX11_numberHere 1 = .ok (.invokevirtual 87, 3) := by decide +kernel
theorem dX11_numberHere_4 : decode cX11_numberHere 4 = .ok (.pop, 1) := by decide +kernel
theorem dX11_numberHere_5 : decode cX11_numberHere 5 = .ok (.aload_n 0, 1) := by decide +kernel
theorem dX11_numberHere_6 : decode cX11_numberHere 6 = .ok (.aload_n 0, 1) := by decide +kernel
theorem dX11_numberHere_7 : decode cX11_numberHere 7 = .ok (.getfield 84, 3) := by decide +kernel
theorem dX11_numberHere_10 : decode cX11_numberHere 10 = .ok (.invokevirtual 102, 3) := by decide +kernel
theorem dX11_numberHere_13 : decode cX11_numberHere 13 = .ok (.ifCond .ne 13, 3) := by decide +kernel
theorem dX11_numberHere_16 : decode cX11_numberHere 16 = .ok (.aload_n 0, 1) := by decide +kernel
theorem dX11_numberHere_17 : decode cX11_numberHere 17 = .ok (.iconst 0, 1) := by decide +kernel
theorem dX11_numberHere_18 : decode cX11_numberHere 18 = .ok (.aload_n 0, 1) := by decide +kernel
theorem dX11_numberHere_19 : decode cX11_numberHere 19 = .ok (.getfield 84, 3) := by decide +kernel
theorem dX11_numberHere_22 : decode cX11_numberHere 22 = .ok (.invokevirtual 105, 3) := by decide +kernel
theorem dX11_numberHere_25 : decode cX11_numberHere 25 = .ok (.ireturn, 1) := by decide +kernel
theorem dX11_numberHere_26 : decode cX11_numberHere 26 = .ok (.aload_n 0, 1) := by decide +kernel
theorem dX11_numberHere_27 : decode cX11_numberHere 27 = .ok (.getfield 84, 3) := by decide +kernel
theorem dX11_numberHere_30 : decode cX11_numberHere 30 = .ok (.istore_n 3, 1) := by decide +kernel
theorem dX11_numberHere_31 : decode cX11_numberHere 31 = .ok (.iconst 0, 1) := by decide +kernel
theorem dX11_numberHere_32 : decode cX11_numberHere 32 = .ok (.istore 4, 2) := by decide +kernel
theorem dX11_numberHere_34 : decode cX11_numberHere 34 = .ok (.aload_n 0, 1) := by decide +kernel
theorem dX11_numberHere_35 : decode cX11_numberHere 35 = .ok (.aload_n 0, 1) := by decide +kernel
theorem dX11_numberHere_36 : decode cX11_numberHere 36 = .ok (.getfield 84, 3) := by decide +kernel
theorem dX11_numberHere_39 : decode cX11_numberHere 39 = .ok (.invokevirtual 102, 3) := by decide +kernel
theorem dX11_numberHere_42 : decode cX11_numberHere 42 = .ok (.ifCond .eq 46, 3) := by decide +kernel
theorem dX11_numberHere_45 : decode cX11_numberHere 45 = .ok (.aload_n 0, 1) := by decide +kernel
theorem dX11_numberHere_46 : decode cX11_numberHere 46 = .ok (.getfield 84, 3) := by decide +kernel
theorem dX11_numberHere_49 : decode cX11_numberHere 49 = .ok (.iload_n 3, 1) := by decide +kernel
theorem dX11_numberHere_50 : decode cX11_numberHere 50 = .ok (.isub, 1) := by decide +kernel
theorem dX11_numberHere_51 : decode cX11_numberHere 51 = .ok (.iconst 5, 1) := by decide +kernel
theorem dX11_numberHere_52 : decode cX11_numberHere 52 = .ok (.if_icmp .ge 23, 3) := by decide +kernel
theorem dX11_numberHere_55 : decode cX11_numberHere 55 = .ok (.bipush 10, 2) := by decide +kernel
theorem dX11_numberHere_57 : decode cX11_numberHere 57 = .ok (.iload 4, 2) := by decide +kernel
theorem dX11_numberHere_59 : decode cX11_numberHere 59 = .ok (.imul, 1) := by decide +kernel
theorem dX11_numberHere_60 : decode cX11_numberHere 60 = .ok (.aload_n 0, 1) := by decide +kernel
theorem dX11_numberHere_61 : decode cX11_numberHere 61 = .ok (.getfield 7, 3) := by decide +kernel
theorem dX11_numberHere_64 : decode cX11_numberHere 64 = .ok (.aload_n 0, 1) := by decide +kernel
theorem dX11_numberHere_65 : decode cX11_numberHere 65 = .ok (.getfield 84, 3) := by decide +kernel
theorem dX11_numberHere_68 : decode cX11_numberHere 68 = .ok (.baload, 1) := by decide +kernel
theorem dX11_numberHere_69 : decode cX11_numberHere 69 = .ok (.iadd, 1) := by decide +kernel
theorem dX11_numberHere_70 : decode cX11_numberHere 70 = .ok (.bipush 48, 2) := by decide +kernel
theorem dX11_numberHere_72 : decode cX11_numberHere 72 = .ok (.isub, 1) := by decide +kernel
theorem dX11_numberHere_73 : decode cX11_numberHere 73 = .ok (.istore 4, 2) := by decide +kernel
theorem dX11_numberHere_75 : decode cX11_numberHere 75 = .ok (.aload_n 0, 1) := by decide +kernel
theorem dX11_numberHere_76 : decode cX11_numberHere 76 = .ok (.dup, 1) := by decide +kernel
theorem dX11_numberHere_77 : decode cX11_numberHere 77 = .ok (.getfield 84, 3) := by decide +kernel
theorem dX11_numberHere_80 : decode cX11_numberHere 80 = .ok (.iconst 1, 1) := by decide +kernel
theorem dX11_numberHere_81 : decode cX11_numberHere 81 = .ok (.iadd, 1) := by decide +kernel
theorem dX11_numberHere_82 : decode cX11_numberHere 82 = .ok (.putfield 84, 3) := by decide +kernel
theorem dX11_numberHere_85 : decode cX11_numberHere 85 = .ok (.goto (-51), 3) := by decide +kernel
theorem dX11_numberHere_88 : decode cX11_numberHere 88 = .ok (.aload_n 0, 1) := by decide +kernel
theorem dX11_numberHere_89 : decode cX11_numberHere 89 = .ok (.iload 4, 2) := by decide +kernel
theorem dX11_numberHere_91 : decode cX11_numberHere 91 = .ok (.putfield 109, 3) := by decide +kernel
theorem dX11_numberHere_94 : decode cX11_numberHere 94 = .ok (.aload_n 0, 1) := by decide +kernel
theorem dX11_numberHere_95 : decode cX11_numberHere 95 = .ok (.getfield 84, 3) := by decide +kernel
theorem dX11_numberHere_98 : decode cX11_numberHere 98 = .ok (.iload_n 3, 1) := by decide +kernel
theorem dX11_numberHere_99 : decode cX11_numberHere 99 = .ok (.isub, 1) := by decide +kernel
theorem dX11_numberHere_100 : decode cX11_numberHere 100 = .ok (.iconst 5, 1) := by decide +kernel
theorem dX11_numberHere_101 : decode cX11_numberHere 101 = .ok (.if_icmp .gt 16, 3) := by decide +kernel
theorem dX11_numberHere_104 : decode cX11_numberHere 104 = .ok (.iload 4, 2) := by decide +kernel
theorem dX11_numberHere_106 : decode cX11_numberHere 106 = .ok (.i2l, 1) := by decide +kernel
theorem dX11_numberHere_107 : decode cX11_numberHere 107 = .ok (.iload_n 1, 1) := by decide +kernel
theorem dX11_numberHere_108 : decode cX11_numberHere 108 = .ok (.i2l, 1) := by decide +kernel
theorem dX11_numberHere_109 : decode cX11_numberHere 109 = .ok (.iload_n 2, 1) := by decide +kernel
theorem dX11_numberHere_110 : decode cX11_numberHere 110 = .ok (.i2l, 1) := by decide +kernel
theorem dX11_numberHere_111 : decode cX11_numberHere 111 = .ok (.invokestatic 112, 3) := by decide +kernel
theorem dX11_numberHere_114 : decode cX11_numberHere 114 = .ok (.ifCond .ne 12, 3) := by decide +kernel
theorem dX11_numberHere_117 : decode cX11_numberHere 117 = .ok (.aload_n 0, 1) := by decide +kernel
theorem dX11_numberHere_118 : decode cX11_numberHere 118 = .ok (.iconst 1, 1) := by decide +kernel
theorem dX11_numberHere_119 : decode cX11_numberHere 119 = .ok (.iload_n 3, 1) := by decide +kernel
theorem dX11_numberHere_120 : decode cX11_numberHere 120 = .ok (.invokevirtual 105, 3) := by decide +kernel
theorem dX11_numberHere_123 : decode cX11_numberHere 123 = .ok (.ifCond .eq 7, 3) := by decide +kernel
theorem dX11_numberHere_126 : decode cX11_numberHere 126 = .ok (.iconst 1, 1) := by decide +kernel
theorem dX11_numberHere_127 : decode cX11_numberHere 127 = .ok (.goto 4, 3) := by decide +kernel
theorem dX11_numberHere_130 : decode cX11_numberHere 130 = .ok (.iconst 0, 1) := by decide +kernel
theorem dX11_numberHere_131 : decode cX11_numberHere 131 = .ok (.ireturn, 1) := by decide +kernel
theorem dX11_wordHere_0 : decode cX11_wordHere 0 = .ok (.aload_n 0, 1) := by decide +kernel
theorem dX11_wordHere_1 : decode cX11_wordHere 1 = .ok (.ldc2_w 116, 3) := by decide +kernel
theorem dX11_wordHere_4 : decode cX11_wordHere 4 = .ok (.invokevirtual 95, 3) := by decide +kernel
theorem dX11_wordHere_7 : decode cX11_wordHere 7 = .ok (.ifCond .eq 5, 3) := by decide +kernel
theorem dX11_wordHere_10 : decode cX11_wordHere 10 = .ok (.iconst 0, 1) := by decide +kernel
theorem dX11_wordHere_11 : decode cX11_wordHere 11 = .ok (.ireturn, 1) := by decide +kernel
theorem dX11_wordHere_12 : decode cX11_wordHere 12 = .ok (.aload_n 0, 1) := by decide +kernel
theorem dX11_wordHere_13 : decode cX11_wordHere 13 = .ok (.ldc2_w 118, 3) := by decide +kernel
theorem dX11_wordHere_16 : decode cX11_wordHere 16 = .ok (.invokevirtual 95, 3) := by decide +kernel
theorem dX11_wordHere_19 : decode cX11_wordHere 19 = .ok (.ifCond .eq 5, 3) := by decide +kernel
theorem dX11_wordHere_22 : decode cX11_wordHere 22 = .ok (.iconst 1, 1) := by decide +kernel
theorem dX11_wordHere_23 : decode cX11_wordHere 23 = .ok (.ireturn, 1) := by decide +kernel
theorem dX11_wordHere_24 : decode cX11_wordHere 24 = .ok (.aload_n 0, 1) := by decide +kernel
theorem dX11_wordHere_25 : decode cX11_wordHere 25 = .ok (.ldc2_w 120, 3) := by decide +kernel
theorem dX11_wordHere_28 : decode cX11_wordHere 28 = .ok (.invokevirtual 95, 3) := by decide +kernel
theorem dX11_wordHere_31 : decode cX11_wordHere 31 = .ok (.ifCond .eq 5, 3) := by decide +kernel
theorem dX11_wordHere_34 : decode cX11_wordHere 34 = .ok (.iconst 2, 1) := by decide +kernel
theorem dX11_wordHere_35 : decode cX11_wordHere 35 = .ok (.ireturn, 1) := by decide +kernel
theorem dX11_wordHere_36 : decode cX11_wordHere 36 = .ok (.aload_n 0, 1) := by decide +kernel
theorem dX11_wordHere_37 : decode cX11_wordHere 37 = .ok (.ldc2_w 122, 3) := by decide +kernel
theorem dX11_wordHere_40 : decode cX11_wordHere 40 = .ok (.invokevirtual 95, 3) := by decide +kernel
theorem dX11_wordHere_43 : decode cX11_wordHere 43 = .ok (.ifCond .eq 5, 3) := by decide +kernel
theorem dX11_wordHere_46 : decode cX11_wordHere 46 = .ok (.iconst 3, 1) := by decide +kernel
theorem dX11_wordHere_47 : decode cX11_wordHere 47 = .ok (.ireturn, 1) := by decide +kernel
theorem dX11_wordHere_48 : decode cX11_wordHere 48 = .ok (.aload_n 0, 1) := by decide +kernel
theorem dX11_wordHere_49 : decode cX11_wordHere 49 = .ok (.ldc2_w 124, 3) := by decide +kernel
theorem dX11_wordHere_52 : decode cX11_wordHere 52 = .ok (.invokevirtual 95, 3) := by decide +kernel
theorem dX11_wordHere_55 : decode cX11_wordHere 55 = .ok (.ifCond .eq 5, 3) := by decide +kernel
theorem dX11_wordHere_58 : decode cX11_wordHere 58 = .ok (.iconst 4, 1) := by decide +kernel
theorem dX11_wordHere_59 : decode cX11_wordHere 59 = .ok (.ireturn, 1) := by decide +kernel
theorem dX11_wordHere_60 : decode cX11_wordHere 60 = .ok (.aload_n 0, 1) := by decide +kernel
theorem dX11_wordHere_61 : decode cX11_wordHere 61 = .ok (.ldc2_w 126, 3) := by decide +kernel
theorem dX11_wordHere_64 : decode cX11_wordHere 64 = .ok (.invokevirtual 95, 3) := by decide +kernel
theorem dX11_wordHere_67 : decode cX11_wordHere 67 = .ok (.ifCond .eq 5, 3) := by decide +kernel
theorem dX11_wordHere_70 : decode cX11_wordHere 70 = .ok (.iconst 5, 1) := by decide +kernel
theorem dX11_wordHere_71 : decode cX11_wordHere 71 = .ok (.ireturn, 1) := by decide +kernel
theorem dX11_wordHere_72 : decode cX11_wordHere 72 = .ok (.aload_n 0, 1) := by decide +kernel
theorem dX11_wordHere_73 : decode cX11_wordHere 73 = .ok (.ldc2_w 128, 3) := by decide +kernel
theorem dX11_wordHere_76 : decode cX11_wordHere 76 = .ok (.invokevirtual 95, 3) := by decide +kernel
theorem dX11_wordHere_79 : decode cX11_wordHere 79 = .ok (.ifCond .eq 6, 3) := by decide +kernel
theorem dX11_wordHere_82 : decode cX11_wordHere 82 = .ok (.bipush 6, 2) := by decide +kernel
theorem dX11_wordHere_84 : decode cX11_wordHere 84 = .ok (.ireturn, 1) := by decide +kernel
theorem dX11_wordHere_85 : decode cX11_wordHere 85 = .ok (.aload_n 0, 1) := by decide +kernel
theorem dX11_wordHere_86 : decode cX11_wordHere 86 = .ok (.ldc2_w 130, 3) := by decide +kernel
theorem dX11_wordHere_89 : decode cX11_wordHere 89 = .ok (.invokevirtual 95, 3) := by decide +kernel
theorem dX11_wordHere_92 : decode cX11_wordHere 92 = .ok (.ifCond .eq 6, 3) := by decide +kernel
theorem dX11_wordHere_95 : decode cX11_wordHere 95 = .ok (.bipush 7, 2) := by decide +kernel
theorem dX11_wordHere_97 : decode cX11_wordHere 97 = .ok (.ireturn, 1) := by decide +kernel
theorem dX11_wordHere_98 : decode cX11_wordHere 98 = .ok (.aload_n 0, 1) := by decide +kernel
theorem dX11_wordHere_99 : decode cX11_wordHere 99 = .ok (.ldc2_w 132, 3) := by decide +kernel
theorem dX11_wordHere_102 : decode cX11_wordHere 102 = .ok (.invokevirtual 95, 3) := by decide +kernel
theorem dX11_wordHere_105 : decode cX11_wordHere 105 = .ok (.ifCond .eq 6, 3) := by decide +kernel
theorem dX11_wordHere_108 : decode cX11_wordHere 108 = .ok (.bipush 8, 2) := by decide +kernel
theorem dX11_wordHere_110 : decode cX11_wordHere 110 = .ok (.ireturn, 1) := by decide +kernel
theorem dX11_wordHere_111 : decode cX11_wordHere 111 = .ok (.aload_n 0, 1) := by decide +kernel
theorem dX11_wordHere_112 : decode cX11_wordHere 112 = .ok (.ldc2_w 134, 3) := by decide +kernel
theorem dX11_wordHere_115 : decode cX11_wordHere 115 = .ok (.invokevirtual 95, 3) := by decide +kernel
theorem dX11_wordHere_118 : decode cX11_wordHere 118 = .ok (.ifCond .eq 6, 3) := by decide +kernel
theorem dX11_wordHere_121 : decode cX11_wordHere 121 = .ok (.bipush 9, 2) := by decide +kernel
theorem dX11_wordHere_123 : decode cX11_wordHere 123 = .ok (.ireturn, 1) := by decide +kernel
theorem dX11_wordHere_124 : decode cX11_wordHere 124 = .ok (.aload_n 0, 1) := by decide +kernel
theorem dX11_wordHere_125 : decode cX11_wordHere 125 = .ok (.ldc2_w 136, 3) := by decide +kernel
theorem dX11_wordHere_128 : decode cX11_wordHere 128 = .ok (.invokevirtual 95, 3) := by decide +kernel
theorem dX11_wordHere_131 : decode cX11_wordHere 131 = .ok (.ifCond .eq 6, 3) := by decide +kernel
theorem dX11_wordHere_134 : decode cX11_wordHere 134 = .ok (.bipush 10, 2) := by decide +kernel
theorem dX11_wordHere_136 : decode cX11_wordHere 136 = .ok (.ireturn, 1) := by decide +kernel
theorem dX11_wordHere_137 : decode cX11_wordHere 137 = .ok (.aload_n 0, 1) := by decide +kernel
theorem dX11_wordHere_138 : decode cX11_wordHere 138 = .ok (.ldc2_w 138, 3) := by decide +kernel
theorem dX11_wordHere_141 : decode cX11_wordHere 141 = .ok (.invokevirtual 95, 3) := by decide +kernel
theorem dX11_wordHere_144 : decode cX11_wordHere 144 = .ok (.ifCond .eq 8, 3) := by decide +kernel
theorem dX11_wordHere_147 : decode cX11_wordHere 147 = .ok (.bipush 11, 2) := by decide +kernel
theorem dX11_wordHere_149 : decode cX11_wordHere 149 = .ok (.goto 19, 3) := by decide +kernel
theorem dX11_wordHere_152 : decode cX11_wordHere 152 = .ok (.aload_n 0, 1) := by decide +kernel
theorem dX11_wordHere_153 : decode cX11_wordHere 153 = .ok (.ldc2_w 140, 3) := by decide +kernel
theorem dX11_wordHere_156 : decode cX11_wordHere 156 = .ok (.invokevirtual 95, 3) := by decide +kernel
theorem dX11_wordHere_159 : decode cX11_wordHere 159 = .ok (.ifCond .eq 8, 3) := by decide +kernel
theorem dX11_wordHere_162 : decode cX11_wordHere 162 = .ok (.bipush 12, 2) := by decide +kernel
theorem dX11_wordHere_164 : decode cX11_wordHere 164 = .ok (.goto 4, 3) := by decide +kernel
theorem dX11_wordHere_167 : decode cX11_wordHere 167 = .ok (.iconst (-1), 1) := by decide +kernel
theorem dX11_wordHere_168 : decode cX11_wordHere 168 = .ok (.ireturn, 1) := by decide +kernel
theorem dX11_puts_0 : decode cX11_puts 0 = .ok (.aload_n 0, 1) := by decide +kernel
theorem dX11_puts_1 : decode cX11_puts 1 = .ok (.getfield 13, 3) := by decide +kernel
theorem dX11_puts_4 : decode cX11_puts 4 = .ok (.sipush 400, 3) := by decide +kernel
theorem dX11_puts_7 : decode cX11_puts 7 = .ok (.aload_n 0, 1) := by decide +kernel
theorem dX11_puts_8 : decode cX11_puts 8 = .ok (.getfield 142, 3) := by decide +kernel
theorem dX11_puts_11 : decode cX11_puts 11 = .ok (.imul, 1) := by decide +kernel
theorem dX11_puts_12 : decode cX11_puts 12 = .ok (.aload_n 0, 1) := by decide +kernel
theorem dX11_puts_13 : decode cX11_puts 13 = .ok (.getfield 17, 3) := by decide +kernel
theorem dX11_puts_16 : decode cX11_puts 16 = .ok (.aload_n 0, 1) := by decide +kernel
theorem dX11_puts_17 : decode cX11_puts 17 = .ok (.getfield 142, 3) := by decide +kernel
theorem dX11_puts_20 : decode cX11_puts 20 = .ok (.iaload, 1) := by decide +kernel
theorem dX11_puts_21 : decode cX11_puts 21 = .ok (.iadd, 1) := by decide +kernel
theorem dX11_puts_22 : decode cX11_puts 22 = .ok (.iload_n 1, 1) := by decide +kernel
theorem dX11_puts_23 : decode cX11_puts 23 = .ok (.bipush 16, 2) := by decide +kernel
theorem dX11_puts_25 : decode cX11_puts 25 = .ok (.iload_n 2, 1) := by decide +kernel
theorem dX11_puts_26 : decode cX11_puts 26 = .ok (.imul, 1) := by decide +kernel
theorem dX11_puts_27 : decode cX11_puts 27 = .ok (.iadd, 1) := by decide +kernel
theorem dX11_puts_28 : decode cX11_puts 28 = .ok (.iastore, 1) := by decide +kernel
theorem dX11_puts_29 : decode cX11_puts 29 = .ok (.aload_n 0, 1) := by decide +kernel
theorem dX11_puts_30 : decode cX11_puts 30 = .ok (.getfield 17, 3) := by decide +kernel
theorem dX11_puts_33 : decode cX11_puts 33 = .ok (.aload_n 0, 1) := by decide +kernel
theorem dX11_puts_34 : decode cX11_puts 34 = .ok (.getfield 142, 3) := by decide +kernel
theorem dX11_puts_37 : decode cX11_puts 37 = .ok (.dup2, 1) := by decide +kernel
theorem dX11_puts_38 : decode cX11_puts 38 = .ok (.iaload, 1) := by decide +kernel
theorem dX11_puts_39 : decode cX11_puts 39 = .ok (.iconst 1, 1) := by decide +kernel
theorem dX11_puts_40 : decode cX11_puts 40 = .ok (.iadd, 1) := by decide +kernel
theorem dX11_puts_41 : decode cX11_puts 41 = .ok (.iastore, 1) := by decide +kernel
theorem dX11_puts_42 : decode cX11_puts 42 = .ok (.return_, 1) := by decide +kernel
theorem dX11_makes_0 : decode cX11_makes 0 = .ok (.aload_n 0, 1) := by decide +kernel
theorem dX11_makes_1 : decode cX11_makes 1 = .ok (.getfield 145, 3) := by decide +kernel
theorem dX11_makes_4 : decode cX11_makes 4 = .ok (.bipush 60, 2) := by decide +kernel
theorem dX11_makes_6 : decode cX11_makes 6 = .ok (.if_icmp .ne 10, 3) := by decide +kernel
theorem dX11_makes_9 : decode cX11_makes 9 = .ok (.aload_n 0, 1) := by decide +kernel
theorem dX11_makes_10 : decode cX11_makes 10 = .ok (.iconst 3, 1) := by decide +kernel
theorem dX11_makes_11 : decode cX11_makes 11 = .ok (.iload_n 1, 1) := by decide +kernel
theorem dX11_makes_12 : decode cX11_makes 12 = .ok (.invokevirtual 105, 3) := by decide +kernel
theorem dX11_makes_15 : decode cX11_makes 15 = .ok (.ireturn, 1) := by decide +kernel
theorem dX11_makes_16 : decode cX11_makes 16 = .ok (.aload_n 0, 1) := by decide +kernel
theorem dX11_makes_17 : decode cX11_makes 17 = .ok (.dup, 1) := by decide +kernel
theorem dX11_makes_18 : decode cX11_makes 18 = .ok (.getfield 145, 3) := by decide +kernel
theorem dX11_makes_21 : decode cX11_makes 21 = .ok (.iconst 1, 1) := by decide +kernel
theorem dX11_makes_22 : decode cX11_makes 22 = .ok (.iadd, 1) := by decide +kernel
theorem dX11_makes_23 : decode cX11_makes 23 = .ok (.putfield 145, 3) := by decide +kernel
theorem dX11_makes_26 : decode cX11_makes 26 = .ok (.iconst 1, 1) := by decide +kernel
theorem dX11_makes_27 : decode cX11_makes 27 = .ok (.ireturn, 1) := by decide +kernel
theorem dX11_opens_0 : decode cX11_opens 0 = .ok (.aload_n 0, 1) := by decide +kernel
theorem dX11_opens_1 : decode cX11_opens 1 = .ok (.getfield 148, 3) := by decide +kernel
theorem dX11_opens_4 : decode cX11_opens 4 = .ok (.bipush 10, 2) := by decide +kernel
theorem dX11_opens_6 : decode cX11_opens 6 = .ok (.if_icmp .ne 13, 3) := by decide +kernel
theorem dX11_opens_9 : decode cX11_opens 9 = .ok (.aload_n 0, 1) := by decide +kernel
theorem dX11_opens_10 : decode cX11_opens 10 = .ok (.iconst 2, 1) := by decide +kernel
theorem dX11_opens_11 : decode cX11_opens 11 = .ok (.aload_n 0, 1) := by decide +kernel
theorem dX11_opens_12 : decode cX11_opens 12 = .ok (.getfield 84, 3) := by decide +kernel
theorem dX11_opens_15 : decode cX11_opens 15 = .ok (.invokevirtual 105, 3) := by decide +kernel
theorem dX11_opens_18 : decode cX11_opens 18 = .ok (.ireturn, 1) := by decide +kernel
theorem dX11_opens_19 : decode cX11_opens 19 = .ok (.aload_n 0, 1) := by decide +kernel
theorem dX11_opens_20 : decode cX11_opens 20 = .ok (.dup, 1) := by decide +kernel
theorem dX11_opens_21 : decode cX11_opens 21 = .ok (.getfield 148, 3) := by decide +kernel
theorem dX11_opens_24 : decode cX11_opens 24 = .ok (.iconst 1, 1) := by decide +kernel
theorem dX11_opens_25 : decode cX11_opens 25 = .ok (.iadd, 1) := by decide +kernel
theorem dX11_opens_26 : decode cX11_opens 26 = .ok (.putfield 148, 3) := by decide +kernel
theorem dX11_opens_29 : decode cX11_opens 29 = .ok (.aload_n 0, 1) := by decide +kernel
theorem dX11_opens_30 : decode cX11_opens 30 = .ok (.getfield 29, 3) := by decide +kernel
theorem dX11_opens_33 : decode cX11_opens 33 = .ok (.aload_n 0, 1) := by decide +kernel
theorem dX11_opens_34 : decode cX11_opens 34 = .ok (.getfield 151, 3) := by decide +kernel
theorem dX11_opens_37 : decode cX11_opens 37 = .ok (.iload_n 1, 1) := by decide +kernel
theorem dX11_opens_38 : decode cX11_opens 38 = .ok (.iastore, 1) := by decide +kernel
theorem dX11_opens_39 : decode cX11_opens 39 = .ok (.aload_n 0, 1) := by decide +kernel
theorem dX11_opens_40 : decode cX11_opens 40 = .ok (.dup, 1) := by decide +kernel
theorem dX11_opens_41 : decode cX11_opens 41 = .ok (.getfield 151, 3) := by decide +kernel
theorem dX11_opens_44 : decode cX11_opens 44 = .ok (.iconst 1, 1) := by decide +kernel
theorem dX11_opens_45 : decode cX11_opens 45 = .ok (.iadd, 1) := by decide +kernel
theorem dX11_opens_46 : decode cX11_opens 46 = .ok (.putfield 151, 3) := by decide +kernel
theorem dX11_opens_49 : decode cX11_opens 49 = .ok (.iconst 1, 1) := by decide +kernel
theorem dX11_opens_50 : decode cX11_opens 50 = .ok (.ireturn, 1) := by decide +kernel
theorem dX11_strength_0 : decode cX11_strength 0 = .ok (.iload_n 0, 1) := by decide +kernel
theorem dX11_strength_1 : decode cX11_strength 1 = .ok (.bipush 13, 2) := by decide +kernel
theorem dX11_strength_3 : decode cX11_strength 3 = .ok (.if_icmp .ne 7, 3) := by decide +kernel
theorem dX11_strength_6 : decode cX11_strength 6 = .ok (.iconst 1, 1) := by decide +kernel
theorem dX11_strength_7 : decode cX11_strength 7 = .ok (.goto 24, 3) := by decide +kernel
theorem dX11_strength_10 : decode cX11_strength 10 = .ok (.iload_n 0, 1) := by decide +kernel
theorem dX11_strength_11 : decode cX11_strength 11 = .ok (.bipush 12, 2) := by decide +kernel
theorem dX11_strength_13 : decode cX11_strength 13 = .ok (.if_icmp .ne 7, 3) := by decide +kernel
theorem dX11_strength_16 : decode cX11_strength 16 = .ok (.iconst 2, 1) := by decide +kernel
theorem dX11_strength_17 : decode cX11_strength 17 = .ok (.goto 14, 3) := by decide +kernel
theorem dX11_strength_20 : decode cX11_strength 20 = .ok (.iload_n 0, 1) := by decide +kernel
theorem dX11_strength_21 : decode cX11_strength 21 = .ok (.bipush 11, 2) := by decide +kernel
theorem dX11_strength_23 : decode cX11_strength 23 = .ok (.if_icmp .ne 7, 3) := by decide +kernel
theorem dX11_strength_26 : decode cX11_strength 26 = .ok (.iconst 3, 1) := by decide +kernel
theorem dX11_strength_27 : decode cX11_strength 27 = .ok (.goto 4, 3) := by decide +kernel
theorem dX11_strength_30 : decode cX11_strength 30 = .ok (.iconst 0, 1) := by decide +kernel
theorem dX11_strength_31 : decode cX11_strength 31 = .ok (.ireturn, 1) := by decide +kernel
theorem dX11_settles_0 : decode cX11_settles 0 = .ok (.aload_n 0, 1) := by decide +kernel
theorem dX11_settles_1 : decode cX11_settles 1 = .ok (.getfield 151, 3) := by decide +kernel
theorem dX11_settles_4 : decode cX11_settles 4 = .ok (.ifCond .le 72, 3) := by decide +kernel
theorem dX11_settles_7 : decode cX11_settles 7 = .ok (.aload_n 0, 1) := by decide +kernel
theorem dX11_settles_8 : decode cX11_settles 8 = .ok (.getfield 29, 3) := by decide +kernel
theorem dX11_settles_11 : decode cX11_settles 11 = .ok (.aload_n 0, 1) := by decide +kernel
theorem dX11_settles_12 : decode cX11_settles 12 = .ok (.getfield 151, 3) := by decide +kernel
theorem dX11_settles_15 : decode cX11_settles 15 = .ok (.iconst 1, 1) := by decide +kernel
theorem dX11_settles_16 : decode cX11_settles 16 = .ok (.isub, 1) := by decide +kernel
theorem dX11_settles_17 : decode cX11_settles 17 = .ok (.iaload, 1) := by decide +kernel
theorem dX11_settles_18 : decode cX11_settles 18 = .ok (.invokestatic 154, 3) := by decide +kernel
theorem dX11_settles_21 : decode cX11_settles 21 = .ok (.iload_n 1, 1) := by decide +kernel
theorem dX11_settles_22 : decode cX11_settles 22 = .ok (.if_icmp .lt 54, 3) := by decide +kernel
theorem dX11_settles_25 : decode cX11_settles 25 = .ok (.aload_n 0, 1) := by decide +kernel
theorem dX11_settles_26 : decode cX11_settles 26 = .ok (.dup, 1) := by decide +kernel
theorem dX11_settles_27 : decode cX11_settles 27 = .ok (.getfield 151, 3) := by decide +kernel
theorem dX11_settles_30 : decode cX11_settles 30 = .ok (.iconst 1, 1) := by decide +kernel
theorem dX11_settles_31 : decode cX11_settles 31 = .ok (.isub, 1) := by decide +kernel
theorem dX11_settles_32 : decode cX11_settles 32 = .ok (.putfield 151, 3) := by decide +kernel
theorem dX11_settles_35 : decode cX11_settles 35 = .ok (.aload_n 0, 1) := by decide +kernel
theorem dX11_settles_36 : decode cX11_settles 36 = .ok (.aload_n 0, 1) := by decide +kernel
theorem dX11_settles_37 : decode cX11_settles 37 = .ok (.getfield 29, 3) := by decide +kernel
theorem dX11_settles_40 : decode cX11_settles 40 = .ok (.aload_n 0, 1) := by decide +kernel
theorem dX11_settles_41 : decode cX11_settles 41 = .ok (.getfield 151, 3) := by decide +kernel
theorem dX11_settles_44 : decode cX11_settles 44 = .ok (.iaload, 1) := by decide +kernel
theorem dX11_settles_45 : decode cX11_settles 45 = .ok (.iconst 0, 1) := by decide +kernel
theorem dX11_settles_46 : decode cX11_settles 46 = .ok (.invokevirtual 158, 3) := by decide +kernel
theorem dX11_settles_49 : decode cX11_settles 49 = .ok (.aload_n 0, 1) := by decide +kernel
theorem dX11_settles_50 : decode cX11_settles 50 = .ok (.getfield 29, 3) := by decide +kernel
theorem dX11_settles_53 : decode cX11_settles 53 = .ok (.aload_n 0, 1) := by decide +kernel
theorem dX11_settles_54 : decode cX11_settles 54 = .ok (.getfield 151, 3) := by decide +kernel
theorem dX11_settles_57 : decode cX11_settles 57 = .ok (.iaload, 1) := by decide +kernel
theorem dX11_settles_58 : decode cX11_settles 58 = .ok (.bipush 11, 2) := by decide +kernel
theorem dX11_settles_60 : decode cX11_settles 60 = .ok (.if_icmp .ne (-60), 3) := by decide +kernel
theorem dX11_settles_63 : decode cX11_settles 63 = .ok (.aload_n 0, 1) := by decide +kernel
theorem dX11_settles_64 : decode cX11_settles 64 = .ok (.dup, 1) := by decide +kernel
theorem dX11_settles_65 : decode cX11_settles 65 = .ok (.getfield 148, 3) := by decide +kernel
theorem dX11_settles_68 : decode cX11_settles 68 = .ok (.iconst 1, 1) := by decide +kernel
theorem dX11_settles_69 : decode cX11_settles 69 = .ok (.isub, 1) := by decide +kernel
theorem dX11_settles_70 : decode cX11_settles 70 = .ok (.putfield 148, 3) := by decide +kernel
theorem dX11_settles_73 : decode cX11_settles 73 = .ok (.goto (-73), 3) := by decide +kernel
theorem dX11_settles_76 : decode cX11_settles 76 = .ok (.return_, 1) := by decide +kernel
theorem dX11_value_0 : decode cX11_value 0 = .ok (.aload_n 0, 1) := by decide +kernel
theorem dX11_value_1 : decode cX11_value 1 = .ok (.invokevirtual 87, 3) := by decide +kernel
theorem dX11_value_4 : decode cX11_value 4 = .ok (.pop, 1) := by decide +kernel
theorem dX11_value_5 : decode cX11_value 5 = .ok (.aload_n 0, 1) := by decide +kernel
theorem dX11_value_6 : decode cX11_value 6 = .ok (.getfield 84, 3) := by decide +kernel
theorem dX11_value_9 : decode cX11_value 9 = .ok (.istore_n 1, 1) := by decide +kernel
theorem dX11_value_10 : decode cX11_value 10 = .ok (.aload_n 0, 1) := by decide +kernel
theorem dX11_value_11 : decode cX11_value 11 = .ok (.aload_n 0, 1) := by decide +kernel
theorem dX11_value_12 : decode cX11_value 12 = .ok (.getfield 84, 3) := by decide +kernel
theorem dX11_value_15 : decode cX11_value 15 = .ok (.invokevirtual 102, 3) := by decide +kernel
theorem dX11_value_18 : decode cX11_value 18 = .ok (.ifCond .eq 34, 3) := by decide +kernel
theorem dX11_value_21 : decode cX11_value 21 = .ok (.aload_n 0, 1) := by decide +kernel
theorem dX11_value_22 : decode cX11_value 22 = .ok (.iconst 0, 1) := by decide +kernel
theorem dX11_value_23 : decode cX11_value 23 = .ok (.ldc 162, 2) := by decide +kernel
theorem dX11_value_25 : decode cX11_value 25 = .ok (.invokevirtual 163, 3) := by decide +kernel
theorem dX11_value_28 : decode cX11_value 28 = .ok (.ifCond .eq 11, 3) := by decide +kernel
theorem dX11_value_31 : decode cX11_value 31 = .ok (.aload_n 0, 1) := by decide +kernel
theorem dX11_value_32 : decode cX11_value 32 = .ok (.iload_n 1, 1) := by decide +kernel
theorem dX11_value_33 : decode cX11_value 33 = .ok (.invokevirtual 166, 3) := by decide +kernel
theorem dX11_value_36 : decode cX11_value 36 = .ok (.ifCond .ne 5, 3) := by decide +kernel
theorem dX11_value_39 : decode cX11_value 39 = .ok (.iconst 0, 1) := by decide +kernel
theorem dX11_value_40 : decode cX11_value 40 = .ok (.ireturn, 1) := by decide +kernel
theorem dX11_value_41 : decode cX11_value 41 = .ok (.aload_n 0, 1) := by decide +kernel
theorem dX11_value_42 : decode cX11_value 42 = .ok (.iconst 0, 1) := by decide +kernel
theorem dX11_value_43 : decode cX11_value 43 = .ok (.aload_n 0, 1) := by decide +kernel
theorem dX11_value_44 : decode cX11_value 44 = .ok (.getfield 109, 3) := by decide +kernel
theorem dX11_value_47 : decode cX11_value 47 = .ok (.invokevirtual 158, 3) := by decide +kernel
theorem dX11_value_50 : decode cX11_value 50 = .ok (.iconst 1, 1) := by decide +kernel
theorem dX11_value_51 : decode cX11_value 51 = .ok (.ireturn, 1) := by decide +kernel
theorem dX11_value_52 : decode cX11_value 52 = .ok (.aload_n 0, 1) := by decide +kernel
theorem dX11_value_53 : decode cX11_value 53 = .ok (.invokevirtual 169, 3) := by decide +kernel
theorem dX11_value_56 : decode cX11_value 56 = .ok (.istore_n 2, 1) := by decide +kernel
theorem dX11_value_57 : decode cX11_value 57 = .ok (.iload_n 2, 1) := by decide +kernel
theorem dX11_value_58 : decode cX11_value 58 = .ok (.ifCond .ge 10, 3) := by decide +kernel
theorem dX11_value_61 : decode cX11_value 61 = .ok (.aload_n 0, 1) := by decide +kernel
theorem dX11_value_62 : decode cX11_value 62 = .ok (.iconst 0, 1) := by decide +kernel
theorem dX11_value_63 : decode cX11_value 63 = .ok (.iload_n 1, 1) := by decide +kernel
theorem dX11_value_64 : decode cX11_value 64 = .ok (.invokevirtual 105, 3) := by decide +kernel
theorem dX11_value_67 : decode cX11_value 67 = .ok (.ireturn, 1) := by decide +kernel
theorem dX11_value_68 : decode cX11_value 68 = .ok (.aload_n 0, 1) := by decide +kernel
theorem dX11_value_69 : decode cX11_value 69 = .ok (.iload_n 1, 1) := by decide +kernel
theorem dX11_value_70 : decode cX11_value 70 = .ok (.invokevirtual 166, 3) := by decide +kernel
theorem dX11_value_73 : decode cX11_value 73 = .ok (.ifCond .ne 5, 3) := by decide +kernel
theorem dX11_value_76 : decode cX11_value 76 = .ok (.iconst 0, 1) := by decide +kernel
theorem dX11_value_77 : decode cX11_value 77 = .ok (.ireturn, 1) := by decide +kernel
theorem dX11_value_78 : decode cX11_value 78 = .ok (.aload_n 0, 1) := by decide +kernel
theorem dX11_value_79 : decode cX11_value 79 = .ok (.invokevirtual 99, 3) := by decide +kernel
theorem dX11_value_82 : decode cX11_value 82 = .ok (.aload_n 0, 1) := by decide +kernel
theorem dX11_value_83 : decode cX11_value 83 = .ok (.iconst 1, 1) := by decide +kernel
theorem dX11_value_84 : decode cX11_value 84 = .ok (.iload_n 2, 1) := by decide +kernel
theorem dX11_value_85 : decode cX11_value 85 = .ok (.invokevirtual 158, 3) := by decide +kernel
theorem dX11_value_88 : decode cX11_value 88 = .ok (.iconst 1, 1) := by decide +kernel
theorem dX11_value_89 : decode cX11_value 89 = .ok (.ireturn, 1) := by decide +kernel
theorem dX11_term_0 : decode cX11_term 0 = .ok (.aload_n 0, 1) := by decide +kernel
theorem dX11_term_1 : decode cX11_term 1 = .ok (.invokevirtual 172, 3) := by decide +kernel
theorem dX11_term_4 : decode cX11_term 4 = .ok (.ifCond .ne 5, 3) := by decide +kernel
theorem dX11_term_7 : decode cX11_term 7 = .ok (.iconst 0, 1) := by decide +kernel
theorem dX11_term_8 : decode cX11_term 8 = .ok (.ireturn, 1) := by decide +kernel
theorem dX11_term_9 : decode cX11_term 9 = .ok (.aload_n 0, 1) := by decide +kernel
theorem dX11_term_10 : decode cX11_term 10 = .ok (.invokevirtual 87, 3) := by decide +kernel
theorem dX11_term_13 : decode cX11_term 13 = .ok (.bipush 42, 2) := by decide +kernel
theorem dX11_term_15 : decode cX11_term 15 = .ok (.if_icmp .eq 21, 3) := by decide +kernel
theorem dX11_term_18 : decode cX11_term 18 = .ok (.aload_n 0, 1) := by decide +kernel
theorem dX11_term_19 : decode cX11_term 19 = .ok (.invokevirtual 87, 3) := by decide +kernel
theorem dX11_term_22 : decode cX11_term 22 = .ok (.bipush 47, 2) := by decide +kernel
theorem dX11_term_24 : decode cX11_term 24 = .ok (.if_icmp .eq 12, 3) := by decide +kernel
theorem dX11_term_27 : decode cX11_term 27 = .ok (.aload_n 0, 1) := by decide +kernel
theorem dX11_term_28 : decode cX11_term 28 = .ok (.invokevirtual 87, 3) := by decide +kernel
theorem dX11_term_31 : decode cX11_term 31 = .ok (.bipush 37, 2) := by decide +kernel
theorem dX11_term_33 : decode cX11_term 33 = .ok (.if_icmp .ne 70, 3) := by decide +kernel
theorem dX11_term_36 : decode cX11_term 36 = .ok (.aload_n 0, 1) := by decide +kernel
theorem dX11_term_37 : decode cX11_term 37 = .ok (.getfield 7, 3) := by decide +kernel
theorem dX11_term_40 : decode cX11_term 40 = .ok (.aload_n 0, 1) := by decide +kernel
theorem dX11_term_41 : decode cX11_term 41 = .ok (.getfield 84, 3) := by decide +kernel
theorem dX11_term_44 : decode cX11_term 44 = .ok (.baload, 1) := by decide +kernel
theorem dX11_term_45 : decode cX11_term 45 = .ok (.bipush 42, 2) := by decide +kernel
theorem dX11_term_47 : decode cX11_term 47 = .ok (.if_icmp .ne 7, 3) := by decide +kernel
theorem dX11_term_50 : decode cX11_term 50 = .ok (.iconst 4, 1) := by decide +kernel
theorem dX11_term_51 : decode cX11_term 51 = .ok (.goto 23, 3) := by decide +kernel
theorem dX11_term_54 : decode cX11_term 54 = .ok (.aload_n 0, 1) := by decide +kernel
theorem dX11_term_55 : decode cX11_term 55 = .ok (.getfield 7, 3) := by decide +kernel
theorem dX11_term_58 : decode cX11_term 58 = .ok (.aload_n 0, 1) := by decide +kernel
theorem dX11_term_59 : decode cX11_term 59 = .ok (.getfield 84, 3) := by decide +kernel
theorem dX11_term_62 : decode cX11_term 62 = .ok (.baload, 1) := by decide +kernel
theorem dX11_term_63 : decode cX11_term 63 = .ok (.bipush 47, 2) := by decide +kernel
theorem dX11_term_65 : decode cX11_term 65 = .ok (.if_icmp .ne 7, 3) := by decide +kernel
theorem dX11_term_68 : decode cX11_term 68 = .ok (.iconst 5, 1) := by decide +kernel
theorem dX11_term_69 : decode cX11_term 69 = .ok (.goto 5, 3) := by decide +kernel
theorem dX11_term_72 : decode cX11_term 72 = .ok (.bipush 14, 2) := by decide +kernel
theorem dX11_term_74 : decode cX11_term 74 = .ok (.istore_n 1, 1) := by decide +kernel
theorem dX11_term_75 : decode cX11_term 75 = .ok (.aload_n 0, 1) := by decide +kernel
theorem dX11_term_76 : decode cX11_term 76 = .ok (.dup, 1) := by decide +kernel
theorem dX11_term_77 : decode cX11_term 77 = .ok (.getfield 84, 3) := by decide +kernel
theorem dX11_term_80 : decode cX11_term 80 = .ok (.iconst 1, 1) := by decide +kernel
theorem dX11_term_81 : decode cX11_term 81 = .ok (.iadd, 1) := by decide +kernel
theorem dX11_term_82 : decode cX11_term 82 = .ok (.putfield 84, 3) := by decide +kernel
theorem dX11_term_85 : decode cX11_term 85 = .ok (.aload_n 0, 1) := by decide +kernel
theorem dX11_term_86 : decode cX11_term 86 = .ok (.invokevirtual 172, 3) := by decide +kernel
theorem dX11_term_89 : decode cX11_term 89 = .ok (.ifCond .ne 5, 3) := by decide +kernel
theorem dX11_term_92 : decode cX11_term 92 = .ok (.iconst 0, 1) := by decide +kernel
theorem dX11_term_93 : decode cX11_term 93 = .ok (.ireturn, 1) := by decide +kernel
theorem dX11_term_94 : decode cX11_term 94 = .ok (.aload_n 0, 1) := by decide +kernel
theorem dX11_term_95 : decode cX11_term 95 = .ok (.iload_n 1, 1) := by decide +kernel
theorem dX11_term_96 : decode cX11_term 96 = .ok (.iconst 0, 1) := by decide +kernel
theorem dX11_term_97 : decode cX11_term 97 = .ok (.invokevirtual 158, 3) := by decide +kernel
theorem dX11_term_100 : decode cX11_term 100 = .ok (.goto (-91), 3) := by decide +kernel
theorem dX11_term_103 : decode cX11_term 103 = .ok (.iconst 1, 1) := by decide +kernel
theorem dX11_term_104 : decode cX11_term 104 = .ok (.ireturn, 1) := by decide +kernel
theorem dX11_sum_0 : decode cX11_sum 0 = .ok (.aload_n 0, 1) := by decide +kernel
theorem dX11_sum_1 : decode cX11_sum 1 = .ok (.invokevirtual 176, 3) := by decide +kernel
theorem dX11_sum_4 : decode cX11_sum 4 = .ok (.ifCond .ne 5, 3) := by decide +kernel
theorem dX11_sum_7 : decode cX11_sum 7 = .ok (.iconst 0, 1) := by decide +kernel
theorem dX11_sum_8 : decode cX11_sum 8 = .ok (.ireturn, 1) := by decide +kernel
theorem dX11_sum_9 : decode cX11_sum 9 = .ok (.aload_n 0, 1) := by decide +kernel
theorem dX11_sum_10 : decode cX11_sum 10 = .ok (.invokevirtual 87, 3) := by decide +kernel
theorem dX11_sum_13 : decode cX11_sum 13 = .ok (.bipush 43, 2) := by decide +kernel
theorem dX11_sum_15 : decode cX11_sum 15 = .ok (.if_icmp .eq 12, 3) := by decide +kernel
theorem dX11_sum_18 : decode cX11_sum 18 = .ok (.aload_n 0, 1) := by decide +kernel
theorem dX11_sum_19 : decode cX11_sum 19 = .ok (.invokevirtual 87, 3) := by decide +kernel
theorem dX11_sum_22 : decode cX11_sum 22 = .ok (.bipush 45, 2) := by decide +kernel
theorem dX11_sum_24 : decode cX11_sum 24 = .ok (.if_icmp .ne 51, 3) := by decide +kernel
theorem dX11_sum_27 : decode cX11_sum 27 = .ok (.aload_n 0, 1) := by decide +kernel
theorem dX11_sum_28 : decode cX11_sum 28 = .ok (.getfield 7, 3) := by decide +kernel
theorem dX11_sum_31 : decode cX11_sum 31 = .ok (.aload_n 0, 1) := by decide +kernel
theorem dX11_sum_32 : decode cX11_sum 32 = .ok (.getfield 84, 3) := by decide +kernel
theorem dX11_sum_35 : decode cX11_sum 35 = .ok (.baload, 1) := by decide +kernel
theorem dX11_sum_36 : decode cX11_sum 36 = .ok (.bipush 43, 2) := by decide +kernel
theorem dX11_sum_38 : decode cX11_sum 38 = .ok (.if_icmp .ne 7, 3) := by decide +kernel
theorem dX11_sum_41 : decode cX11_sum 41 = .ok (.iconst 2, 1) := by decide +kernel
theorem dX11_sum_42 : decode cX11_sum 42 = .ok (.goto 4, 3) := by decide +kernel
theorem dX11_sum_45 : decode cX11_sum 45 = .ok (.iconst 3, 1) := by decide +kernel
theorem dX11_sum_46 : decode cX11_sum 46 = .ok (.istore_n 1, 1) := by decide +kernel
theorem dX11_sum_47 : decode cX11_sum 47 = .ok (.aload_n 0, 1) := by decide +kernel
theorem dX11_sum_48 : decode cX11_sum 48 = .ok (.dup, 1) := by decide +kernel
theorem dX11_sum_49 : decode cX11_sum 49 = .ok (.getfield 84, 3) := by decide +kernel
theorem dX11_sum_52 : decode cX11_sum 52 = .ok (.iconst 1, 1) := by decide +kernel
theorem dX11_sum_53 : decode cX11_sum 53 = .ok (.iadd, 1) := by decide +kernel
theorem dX11_sum_54 : decode cX11_sum 54 = .ok (.putfield 84, 3) := by decide +kernel
theorem dX11_sum_57 : decode cX11_sum 57 = .ok (.aload_n 0, 1) := by decide +kernel
theorem dX11_sum_58 : decode cX11_sum 58 = .ok (.invokevirtual 176, 3) := by decide +kernel
theorem dX11_sum_61 : decode cX11_sum 61 = .ok (.ifCond .ne 5, 3) := by decide +kernel
theorem dX11_sum_64 : decode cX11_sum 64 = .ok (.iconst 0, 1) := by decide +kernel
theorem dX11_sum_65 : decode cX11_sum 65 = .ok (.ireturn, 1) := by decide +kernel
theorem dX11_sum_66 : decode cX11_sum 66 = .ok (.aload_n 0, 1) := by decide +kernel
theorem dX11_sum_67 : decode cX11_sum 67 = .ok (.iload_n 1, 1) := by decide +kernel
theorem dX11_sum_68 : decode cX11_sum 68 = .ok (.iconst 0, 1) := by decide +kernel
theorem dX11_sum_69 : decode cX11_sum 69 = .ok (.invokevirtual 158, 3) := by decide +kernel
theorem dX11_sum_72 : decode cX11_sum 72 = .ok (.goto (-63), 3) := by decide +kernel
theorem dX11_sum_75 : decode cX11_sum 75 = .ok (.iconst 1, 1) := by decide +kernel
theorem dX11_sum_76 : decode cX11_sum 76 = .ok (.ireturn, 1) := by decide +kernel
theorem dX11_compare_0 : decode cX11_compare 0 = .ok (.aload_n 0, 1) := by decide +kernel
theorem dX11_compare_1 : decode cX11_compare 1 = .ok (.invokevirtual 179, 3) := by decide +kernel
theorem dX11_compare_4 : decode cX11_compare 4 = .ok (.ifCond .ne 5, 3) := by decide +kernel
theorem dX11_compare_7 : decode cX11_compare 7 = .ok (.iconst 0, 1) := by decide +kernel
theorem dX11_compare_8 : decode cX11_compare 8 = .ok (.ireturn, 1) := by decide +kernel
theorem dX11_compare_9 : decode cX11_compare 9 = .ok (.aload_n 0, 1) := by decide +kernel
theorem dX11_compare_10 : decode cX11_compare 10 = .ok (.invokevirtual 87, 3) := by decide +kernel
theorem dX11_compare_13 : decode cX11_compare 13 = .ok (.istore_n 1, 1) := by decide +kernel
theorem dX11_compare_14 : decode cX11_compare 14 = .ok (.aload_n 0, 1) := by decide +kernel
theorem dX11_compare_15 : decode cX11_compare 15 = .ok (.getfield 84, 3) := by decide +kernel
theorem dX11_compare_18 : decode cX11_compare 18 = .ok (.istore_n 2, 1) := by decide +kernel
theorem dX11_compare_19 : decode cX11_compare 19 = .ok (.iload_n 1, 1) := by decide +kernel
theorem dX11_compare_20 : decode cX11_compare 20 = .ok (.bipush 60, 2) := by decide +kernel
theorem dX11_compare_22 : decode cX11_compare 22 = .ok (.if_icmp .eq 22, 3) := by decide +kernel
theorem dX11_compare_25 : decode cX11_compare 25 = .ok (.iload_n 1, 1) := by decide +kernel
theorem dX11_compare_26 : decode cX11_compare 26 = .ok (.bipush 61, 2) := by decide +kernel
theorem dX11_compare_28 : decode cX11_compare 28 = .ok (.if_icmp .eq 16, 3) := by decide +kernel
theorem dX11_compare_31 : decode cX11_compare 31 = .ok (.iload_n 1, 1) := by decide +kernel
theorem dX11_compare_32 : decode cX11_compare 32 = .ok (.bipush 62, 2) := by decide +kernel
theorem dX11_compare_34 : decode cX11_compare 34 = .ok (.if_icmp .eq 10, 3) := by decide +kernel
theorem dX11_compare_37 : decode cX11_compare 37 = .ok (.aload_n 0, 1) := by decide +kernel
theorem dX11_compare_38 : decode cX11_compare 38 = .ok (.iconst 0, 1) := by decide +kernel
theorem dX11_compare_39 : decode cX11_compare 39 = .ok (.iload_n 2, 1) := by decide +kernel
theorem dX11_compare_40 : decode cX11_compare 40 = .ok (.invokevirtual 105, 3) := by decide +kernel
theorem dX11_compare_43 : decode cX11_compare 43 = .ok (.ireturn, 1) := by decide +kernel
theorem dX11_compare_44 : decode cX11_compare 44 = .ok (.aload_n 0, 1) := by decide +kernel
theorem dX11_compare_45 : decode cX11_compare 45 = .ok (.dup, 1) := by decide +kernel
theorem dX11_compare_46 : decode cX11_compare 46 = .ok (.getfield 84, 3) := by decide +kernel
theorem dX11_compare_49 : decode cX11_compare 49 = .ok (.iconst 1, 1) := by decide +kernel
theorem dX11_compare_50 : decode cX11_compare 50 = .ok (.iadd, 1) := by decide +kernel
theorem dX11_compare_51 : decode cX11_compare 51 = .ok (.putfield 84, 3) := by decide +kernel
theorem dX11_compare_54 : decode cX11_compare 54 = .ok (.iload_n 1, 1) := by decide +kernel
theorem dX11_compare_55 : decode cX11_compare 55 = .ok (.bipush 61, 2) := by decide +kernel
theorem dX11_compare_57 : decode cX11_compare 57 = .ok (.if_icmp .eq 32, 3) := by decide +kernel
theorem dX11_compare_60 : decode cX11_compare 60 = .ok (.aload_n 0, 1) := by decide +kernel
theorem dX11_compare_61 : decode cX11_compare 61 = .ok (.getfield 84, 3) := by decide +kernel
theorem dX11_compare_64 : decode cX11_compare 64 = .ok (.aload_n 0, 1) := by decide +kernel
theorem dX11_compare_65 : decode cX11_compare 65 = .ok (.getfield 74, 3) := by decide +kernel
theorem dX11_compare_68 : decode cX11_compare 68 = .ok (.if_icmp .ge 21, 3) := by decide +kernel
theorem dX11_compare_71 : decode cX11_compare 71 = .ok (.aload_n 0, 1) := by decide +kernel
theorem dX11_compare_72 : decode cX11_compare 72 = .ok (.getfield 7, 3) := by decide +kernel
theorem dX11_compare_75 : decode cX11_compare 75 = .ok (.aload_n 0, 1) := by decide +kernel
theorem dX11_compare_76 : decode cX11_compare 76 = .ok (.getfield 84, 3) := by decide +kernel
theorem dX11_compare_79 : decode cX11_compare 79 = .ok (.baload, 1) := by decide +kernel
theorem dX11_compare_80 : decode cX11_compare 80 = .ok (.bipush 61, 2) := by decide +kernel
theorem dX11_compare_82 : decode cX11_compare 82 = .ok (.if_icmp .ne 7, 3) := by decide +kernel
theorem dX11_compare_85 : decode cX11_compare 85 = .ok (.iconst 1, 1) := by decide +kernel
theorem dX11_compare_86 : decode cX11_compare 86 = .ok (.goto 4, 3) := by decide +kernel
theorem dX11_compare_89 : decode cX11_compare 89 = .ok (.iconst 0, 1) := by decide +kernel
theorem dX11_compare_90 : decode cX11_compare 90 = .ok (.istore_n 3, 1) := by decide +kernel
theorem dX11_compare_91 : decode cX11_compare 91 = .ok (.iload_n 3, 1) := by decide +kernel
theorem dX11_compare_92 : decode cX11_compare 92 = .ok (.ifCond .eq 13, 3) := by decide +kernel
theorem dX11_compare_95 : decode cX11_compare 95 = .ok (.aload_n 0, 1) := by decide +kernel
theorem dX11_compare_96 : decode cX11_compare 96 = .ok (.dup, 1) := by decide +kernel
theorem dX11_compare_97 : decode cX11_compare 97 = .ok (.getfield 84, 3) := by decide +kernel
theorem dX11_compare_100 : decode cX11_compare 100 = .ok (.iconst 1, 1) := by decide +kernel
theorem dX11_compare_101 : decode cX11_compare 101 = .ok (.iadd, 1) := by decide +kernel
theorem dX11_compare_102 : decode cX11_compare 102 = .ok (.putfield 84, 3) := by decide +kernel
theorem dX11_compare_105 : decode cX11_compare 105 = .ok (.aload_n 0, 1) := by decide +kernel
theorem dX11_compare_106 : decode cX11_compare 106 = .ok (.iload_n 2, 1) := by decide +kernel
theorem dX11_compare_107 : decode cX11_compare 107 = .ok (.invokevirtual 166, 3) := by decide +kernel
theorem dX11_compare_110 : decode cX11_compare 110 = .ok (.ifCond .ne 5, 3) := by decide +kernel
theorem dX11_compare_113 : decode cX11_compare 113 = .ok (.iconst 0, 1) := by decide +kernel
theorem dX11_compare_114 : decode cX11_compare 114 = .ok (.ireturn, 1) := by decide +kernel
theorem dX11_compare_115 : decode cX11_compare 115 = .ok (.iload_n 1, 1) := by decide +kernel
theorem dX11_compare_116 : decode cX11_compare 116 = .ok (.bipush 60, 2) := by decide +kernel
theorem dX11_compare_118 : decode cX11_compare 118 = .ok (.if_icmp .ne 15, 3) := by decide +kernel
theorem dX11_compare_121 : decode cX11_compare 121 = .ok (.iload_n 3, 1) := by decide +kernel
theorem dX11_compare_122 : decode cX11_compare 122 = .ok (.ifCond .eq 7, 3) := by decide +kernel
theorem dX11_compare_125 : decode cX11_compare 125 = .ok (.iconst 1, 1) := by decide +kernel
theorem dX11_compare_126 : decode cX11_compare 126 = .ok (.goto 26, 3) := by decide +kernel
theorem dX11_compare_129 : decode cX11_compare 129 = .ok (.iconst 0, 1) := by decide +kernel
theorem dX11_compare_130 : decode cX11_compare 130 = .ok (.goto 22, 3) := by decide +kernel
theorem dX11_compare_133 : decode cX11_compare 133 = .ok (.iload_n 1, 1) := by decide +kernel
theorem dX11_compare_134 : decode cX11_compare 134 = .ok (.bipush 61, 2) := by decide +kernel
theorem dX11_compare_136 : decode cX11_compare 136 = .ok (.if_icmp .ne 7, 3) := by decide +kernel
theorem dX11_compare_139 : decode cX11_compare 139 = .ok (.iconst 2, 1) := by decide +kernel
theorem dX11_compare_140 : decode cX11_compare 140 = .ok (.goto 12, 3) := by decide +kernel
theorem dX11_compare_143 : decode cX11_compare 143 = .ok (.iload_n 3, 1) := by decide +kernel
theorem dX11_compare_144 : decode cX11_compare 144 = .ok (.ifCond .eq 7, 3) := by decide +kernel
theorem dX11_compare_147 : decode cX11_compare 147 = .ok (.iconst 3, 1) := by decide +kernel
theorem dX11_compare_148 : decode cX11_compare 148 = .ok (.goto 4, 3) := by decide +kernel
theorem dX11_compare_151 : decode cX11_compare 151 = .ok (.iconst 4, 1) := by decide +kernel
theorem dX11_compare_152 : decode cX11_compare 152 = .ok (.istore 4, 2) := by decide +kernel
theorem dX11_compare_154 : decode cX11_compare 154 = .ok (.aload_n 0, 1) := by decide +kernel
theorem dX11_compare_155 : decode cX11_compare 155 = .ok (.invokevirtual 179, 3) := by decide +kernel
theorem dX11_compare_158 : decode cX11_compare 158 = .ok (.ifCond .ne 5, 3) := by decide +kernel
theorem dX11_compare_161 : decode cX11_compare 161 = .ok (.iconst 0, 1) := by decide +kernel
theorem dX11_compare_162 : decode cX11_compare 162 = .ok (.ireturn, 1) := by decide +kernel
theorem dX11_compare_163 : decode cX11_compare 163 = .ok (.aload_n 0, 1) := by decide +kernel
theorem dX11_compare_164 : decode cX11_compare 164 = .ok (.bipush 6, 2) := by decide +kernel
theorem dX11_compare_166 : decode cX11_compare 166 = .ok (.iload 4, 2) := by decide +kernel
theorem dX11_compare_168 : decode cX11_compare 168 = .ok (.iadd, 1) := by decide +kernel
theorem dX11_compare_169 : decode cX11_compare 169 = .ok (.iconst 0, 1) := by decide +kernel
theorem dX11_compare_170 : decode cX11_compare 170 = .ok (.invokevirtual 158, 3) := by decide +kernel
theorem dX11_compare_173 : decode cX11_compare 173 = .ok (.iconst 1, 1) := by decide +kernel
theorem dX11_compare_174 : decode cX11_compare 174 = .ok (.ireturn, 1) := by decide +kernel
theorem dX11_fact_0 : decode cX11_fact 0 = .ok (.iconst 1, 1) := by decide +kernel
theorem dX11_fact_1 : decode cX11_fact 1 = .ok (.istore_n 1, 1) := by decide +kernel
theorem dX11_fact_2 : decode cX11_fact 2 = .ok (.iload_n 1, 1) := by decide +kernel
theorem dX11_fact_3 : decode cX11_fact 3 = .ok (.ifCond .eq 72, 3) := by decide +kernel
theorem dX11_fact_6 : decode cX11_fact 6 = .ok (.iconst 0, 1) := by decide +kernel
theorem dX11_fact_7 : decode cX11_fact 7 = .ok (.istore_n 1, 1) := by decide +kernel
theorem dX11_fact_8 : decode cX11_fact 8 = .ok (.aload_n 0, 1) := by decide +kernel
theorem dX11_fact_9 : decode cX11_fact 9 = .ok (.invokevirtual 87, 3) := by decide +kernel
theorem dX11_fact_12 : decode cX11_fact 12 = .ok (.istore_n 2, 1) := by decide +kernel
theorem dX11_fact_13 : decode cX11_fact 13 = .ok (.aload_n 0, 1) := by decide +kernel
theorem dX11_fact_14 : decode cX11_fact 14 = .ok (.ldc2_w 182, 3) := by decide +kernel
theorem dX11_fact_17 : decode cX11_fact 17 = .ok (.invokevirtual 95, 3) := by decide +kernel
theorem dX11_fact_20 : decode cX11_fact 20 = .ok (.ifCond .eq 23, 3) := by decide +kernel
theorem dX11_fact_23 : decode cX11_fact 23 = .ok (.aload_n 0, 1) := by decide +kernel
theorem dX11_fact_24 : decode cX11_fact 24 = .ok (.bipush 11, 2) := by decide +kernel
theorem dX11_fact_26 : decode cX11_fact 26 = .ok (.invokevirtual 184, 3) := by decide +kernel
theorem dX11_fact_29 : decode cX11_fact 29 = .ok (.ifCond .ne 5, 3) := by decide +kernel
theorem dX11_fact_32 : decode cX11_fact 32 = .ok (.iconst 0, 1) := by decide +kernel
theorem dX11_fact_33 : decode cX11_fact 33 = .ok (.ireturn, 1) := by decide +kernel
theorem dX11_fact_34 : decode cX11_fact 34 = .ok (.aload_n 0, 1) := by decide +kernel
theorem dX11_fact_35 : decode cX11_fact 35 = .ok (.invokevirtual 99, 3) := by decide +kernel
theorem dX11_fact_38 : decode cX11_fact 38 = .ok (.iconst 1, 1) := by decide +kernel
theorem dX11_fact_39 : decode cX11_fact 39 = .ok (.istore_n 1, 1) := by decide +kernel
theorem dX11_fact_40 : decode cX11_fact 40 = .ok (.goto 32, 3) := by decide +kernel
theorem dX11_fact_43 : decode cX11_fact 43 = .ok (.iload_n 2, 1) := by decide +kernel
theorem dX11_fact_44 : decode cX11_fact 44 = .ok (.bipush 91, 2) := by decide +kernel
theorem dX11_fact_46 : decode cX11_fact 46 = .ok (.if_icmp .ne 26, 3) := by decide +kernel
theorem dX11_fact_49 : decode cX11_fact 49 = .ok (.aload_n 0, 1) := by decide +kernel
theorem dX11_fact_50 : decode cX11_fact 50 = .ok (.bipush 91, 2) := by decide +kernel
theorem dX11_fact_52 : decode cX11_fact 52 = .ok (.invokevirtual 184, 3) := by decide +kernel
theorem dX11_fact_55 : decode cX11_fact 55 = .ok (.ifCond .ne 5, 3) := by decide +kernel
theorem dX11_fact_58 : decode cX11_fact 58 = .ok (.iconst 0, 1) := by decide +kernel
theorem dX11_fact_59 : decode cX11_fact 59 = .ok (.ireturn, 1) := by decide +kernel
theorem dX11_fact_60 : decode cX11_fact 60 = .ok (.aload_n 0, 1) := by decide +kernel
theorem dX11_fact_61 : decode cX11_fact 61 = .ok (.dup, 1) := by decide +kernel
theorem dX11_fact_62 : decode cX11_fact 62 = .ok (.getfield 84, 3) := by decide +kernel
theorem dX11_fact_65 : decode cX11_fact 65 = .ok (.iconst 1, 1) := by decide +kernel
theorem dX11_fact_66 : decode cX11_fact 66 = .ok (.iadd, 1) := by decide +kernel
theorem dX11_fact_67 : decode cX11_fact 67 = .ok (.putfield 84, 3) := by decide +kernel
theorem dX11_fact_70 : decode cX11_fact 70 = .ok (.iconst 1, 1) := by decide +kernel
theorem dX11_fact_71 : decode cX11_fact 71 = .ok (.istore_n 1, 1) := by decide +kernel
theorem dX11_fact_72 : decode cX11_fact 72 = .ok (.goto (-70), 3) := by decide +kernel
theorem dX11_fact_75 : decode cX11_fact 75 = .ok (.aload_n 0, 1) := by decide +kernel
theorem dX11_fact_76 : decode cX11_fact 76 = .ok (.invokevirtual 187, 3) := by decide +kernel
theorem dX11_fact_79 : decode cX11_fact 79 = .ok (.ireturn, 1) := by decide +kernel
theorem dX11_isInside_0 : decode cX11_isInside 0 = .ok (.iconst 0, 1) := by decide +kernel
theorem dX11_isInside_1 : decode cX11_isInside 1 = .ok (.istore_n 1, 1) := by decide +kernel
theorem dX11_isInside_2 : decode cX11_isInside 2 = .ok (.iload_n 1, 1) := by decide +kernel
theorem dX11_isInside_3 : decode cX11_isInside 3 = .ok (.aload_n 0, 1) := by decide +kernel
theorem dX11_isInside_4 : decode cX11_isInside 4 = .ok (.getfield 151, 3) := by decide +kernel
theorem dX11_isInside_7 : decode cX11_isInside 7 = .ok (.if_icmp .ge 22, 3) := by decide +kernel
theorem dX11_isInside_10 : decode cX11_isInside 10 = .ok (.aload_n 0, 1) := by decide +kernel
theorem dX11_isInside_11 : decode cX11_isInside 11 = .ok (.getfield 29, 3) := by decide +kernel
theorem dX11_isInside_14 : decode cX11_isInside 14 = .ok (.iload_n 1, 1) := by decide +kernel
theorem dX11_isInside_15 : decode cX11_isInside 15 = .ok (.iaload, 1) := by decide +kernel
theorem dX11_isInside_16 : decode cX11_isInside 16 = .ok (.bipush 91, 2) := by decide +kernel
theorem dX11_isInside_18 : decode cX11_isInside 18 = .ok (.if_icmp .ne 5, 3) := by decide +kernel
theorem dX11_isInside_21 : decode cX11_isInside 21 = .ok (.iconst 1, 1) := by decide +kernel
theorem dX11_isInside_22 : decode cX11_isInside 22 = .ok (.ireturn, 1) := by decide +kernel
theorem dX11_isInside_23 : decode cX11_isInside 23 = .ok (.iinc 1 1, 3) := by decide +kernel
theorem dX11_isInside_26 : decode cX11_isInside 26 = .ok (.goto (-24), 3) := by decide +kernel
theorem dX11_isInside_29 : decode cX11_isInside 29 = .ok (.iconst 0, 1) := by decide +kernel
theorem dX11_isInside_30 : decode cX11_isInside 30 = .ok (.ireturn, 1) := by decide +kernel
theorem dX11_closes_0 : decode cX11_closes 0 = .ok (.aload_n 0, 1) := by decide +kernel
theorem dX11_closes_1 : decode cX11_closes 1 = .ok (.iconst 3, 1) := by decide +kernel
theorem dX11_closes_2 : decode cX11_closes 2 = .ok (.invokevirtual 190, 3) := by decide +kernel
theorem dX11_closes_5 : decode cX11_closes 5 = .ok (.aload_n 0, 1) := by decide +kernel
theorem dX11_closes_6 : decode cX11_closes 6 = .ok (.invokevirtual 87, 3) := by decide +kernel
theorem dX11_closes_9 : decode cX11_closes 9 = .ok (.bipush 93, 2) := by decide +kernel
theorem dX11_closes_11 : decode cX11_closes 11 = .ok (.if_icmp .ne 53, 3) := by decide +kernel
theorem dX11_closes_14 : decode cX11_closes 14 = .ok (.aload_n 0, 1) := by decide +kernel
theorem dX11_closes_15 : decode cX11_closes 15 = .ok (.invokevirtual 193, 3) := by decide +kernel
theorem dX11_closes_18 : decode cX11_closes 18 = .ok (.ifCond .eq 46, 3) := by decide +kernel
theorem dX11_closes_21 : decode cX11_closes 21 = .ok (.aload_n 0, 1) := by decide +kernel
theorem dX11_closes_22 : decode cX11_closes 22 = .ok (.iconst 1, 1) := by decide +kernel
theorem dX11_closes_23 : decode cX11_closes 23 = .ok (.invokevirtual 190, 3) := by decide +kernel
theorem dX11_closes_26 : decode cX11_closes 26 = .ok (.aload_n 0, 1) := by decide +kernel
theorem dX11_closes_27 : decode cX11_closes 27 = .ok (.dup, 1) := by decide +kernel
theorem dX11_closes_28 : decode cX11_closes 28 = .ok (.getfield 151, 3) := by decide +kernel
theorem dX11_closes_31 : decode cX11_closes 31 = .ok (.iconst 1, 1) := by decide +kernel
theorem dX11_closes_32 : decode cX11_closes 32 = .ok (.isub, 1) := by decide +kernel
theorem dX11_closes_33 : decode cX11_closes 33 = .ok (.putfield 151, 3) := by decide +kernel
theorem dX11_closes_36 : decode cX11_closes 36 = .ok (.aload_n 0, 1) := by decide +kernel
theorem dX11_closes_37 : decode cX11_closes 37 = .ok (.dup, 1) := by decide +kernel
theorem dX11_closes_38 : decode cX11_closes 38 = .ok (.getfield 148, 3) := by decide +kernel
theorem dX11_closes_41 : decode cX11_closes 41 = .ok (.iconst 1, 1) := by decide +kernel
theorem dX11_closes_42 : decode cX11_closes 42 = .ok (.isub, 1) := by decide +kernel
theorem dX11_closes_43 : decode cX11_closes 43 = .ok (.putfield 148, 3) := by decide +kernel
theorem dX11_closes_46 : decode cX11_closes 46 = .ok (.aload_n 0, 1) := by decide +kernel
theorem dX11_closes_47 : decode cX11_closes 47 = .ok (.dup, 1) := by decide +kernel
theorem dX11_closes_48 : decode cX11_closes 48 = .ok (.getfield 84, 3) := by decide +kernel
theorem dX11_closes_51 : decode cX11_closes 51 = .ok (.iconst 1, 1) := by decide +kernel
theorem dX11_closes_52 : decode cX11_closes 52 = .ok (.iadd, 1) := by decide +kernel
theorem dX11_closes_53 : decode cX11_closes 53 = .ok (.putfield 84, 3) := by decide +kernel
theorem dX11_closes_56 : decode cX11_closes 56 = .ok (.aload_n 0, 1) := by decide +kernel
theorem dX11_closes_57 : decode cX11_closes 57 = .ok (.iconst 3, 1) := by decide +kernel
theorem dX11_closes_58 : decode cX11_closes 58 = .ok (.invokevirtual 190, 3) := by decide +kernel
theorem dX11_closes_61 : decode cX11_closes 61 = .ok (.goto (-56), 3) := by decide +kernel
theorem dX11_closes_64 : decode cX11_closes 64 = .ok (.return_, 1) := by decide +kernel
theorem dX11_tested_0 : decode cX11_tested 0 = .ok (.aload_n 0, 1) := by decide +kernel
theorem dX11_tested_1 : decode cX11_tested 1 = .ok (.iconst 0, 1) := by decide +kernel
theorem dX11_tested_2 : decode cX11_tested 2 = .ok (.putfield 151, 3) := by decide +kernel
theorem dX11_tested_5 : decode cX11_tested 5 = .ok (.aload_n 0, 1) := by decide +kernel
theorem dX11_tested_6 : decode cX11_tested 6 = .ok (.iconst 0, 1) := by decide +kernel
theorem dX11_tested_7 : decode cX11_tested 7 = .ok (.putfield 148, 3) := by decide +kernel
theorem dX11_tested_10 : decode cX11_tested 10 = .ok (.iconst 1, 1) := by decide +kernel
theorem dX11_tested_11 : decode cX11_tested 11 = .ok (.istore_n 1, 1) := by decide +kernel
theorem dX11_tested_12 : decode cX11_tested 12 = .ok (.iload_n 1, 1) := by decide +kernel
theorem dX11_tested_13 : decode cX11_tested 13 = .ok (.ifCond .eq 99, 3) := by decide +kernel
theorem dX11_tested_16 : decode cX11_tested 16 = .ok (.aload_n 0, 1) := by decide +kernel
theorem dX11_tested_17 : decode cX11_tested 17 = .ok (.invokevirtual 196, 3) := by decide +kernel
theorem dX11_tested_20 : decode cX11_tested 20 = .ok (.ifCond .ne 5, 3) := by decide +kernel
theorem dX11_tested_23 : decode cX11_tested 23 = .ok (.iconst 0, 1) := by decide +kernel
theorem dX11_tested_24 : decode cX11_tested 24 = .ok (.ireturn, 1) := by decide +kernel
theorem dX11_tested_25 : decode cX11_tested 25 = .ok (.aload_n 0, 1) := by decide +kernel
theorem dX11_tested_26 : decode cX11_tested 26 = .ok (.invokevirtual 199, 3) := by decide +kernel
theorem dX11_tested_29 : decode cX11_tested 29 = .ok (.aload_n 0, 1) := by decide +kernel
theorem dX11_tested_30 : decode cX11_tested 30 = .ok (.ldc2_w 202, 3) := by decide +kernel
theorem dX11_tested_33 : decode cX11_tested 33 = .ok (.invokevirtual 95, 3) := by decide +kernel
theorem dX11_tested_36 : decode cX11_tested 36 = .ok (.ifCond .ne 13, 3) := by decide +kernel
theorem dX11_tested_39 : decode cX11_tested 39 = .ok (.aload_n 0, 1) := by decide +kernel
theorem dX11_tested_40 : decode cX11_tested 40 = .ok (.ldc2_w 204, 3) := by decide +kernel
theorem dX11_tested_43 : decode cX11_tested 43 = .ok (.invokevirtual 95, 3) := by decide +kernel
theorem dX11_tested_46 : decode cX11_tested 46 = .ok (.ifCond .eq 7, 3) := by decide +kernel
theorem dX11_tested_49 : decode cX11_tested 49 = .ok (.iconst 1, 1) := by decide +kernel
theorem dX11_tested_50 : decode cX11_tested 50 = .ok (.goto 4, 3) := by decide +kernel
theorem dX11_tested_53 : decode cX11_tested 53 = .ok (.iconst 0, 1) := by decide +kernel
theorem dX11_tested_54 : decode cX11_tested 54 = .ok (.istore_n 1, 1) := by decide +kernel
theorem dX11_tested_55 : decode cX11_tested 55 = .ok (.iload_n 1, 1) := by decide +kernel
theorem dX11_tested_56 : decode cX11_tested 56 = .ok (.ifCond .eq (-44), 3) := by decide +kernel
theorem dX11_tested_59 : decode cX11_tested 59 = .ok (.aload_n 0, 1) := by decide +kernel
theorem dX11_tested_60 : decode cX11_tested 60 = .ok (.ldc2_w 202, 3) := by decide +kernel
theorem dX11_tested_63 : decode cX11_tested 63 = .ok (.invokevirtual 95, 3) := by decide +kernel
theorem dX11_tested_66 : decode cX11_tested 66 = .ok (.ifCond .eq 8, 3) := by decide +kernel
theorem dX11_tested_69 : decode cX11_tested 69 = .ok (.bipush 12, 2) := by decide +kernel
theorem dX11_tested_71 : decode cX11_tested 71 = .ok (.goto 5, 3) := by decide +kernel
theorem dX11_tested_74 : decode cX11_tested 74 = .ok (.bipush 13, 2) := by decide +kernel
theorem dX11_tested_76 : decode cX11_tested 76 = .ok (.istore_n 2, 1) := by decide +kernel
theorem dX11_tested_77 : decode cX11_tested 77 = .ok (.aload_n 0, 1) := by decide +kernel
theorem dX11_tested_78 : decode cX11_tested 78 = .ok (.invokevirtual 99, 3) := by decide +kernel
theorem dX11_tested_81 : decode cX11_tested 81 = .ok (.aload_n 0, 1) := by decide +kernel
theorem dX11_tested_82 : decode cX11_tested 82 = .ok (.iload_n 2, 1) := by decide +kernel
theorem dX11_tested_83 : decode cX11_tested 83 = .ok (.invokestatic 154, 3) := by decide +kernel
theorem dX11_tested_86 : decode cX11_tested 86 = .ok (.invokevirtual 190, 3) := by decide +kernel
theorem dX11_tested_89 : decode cX11_tested 89 = .ok (.aload_n 0, 1) := by decide +kernel
theorem dX11_tested_90 : decode cX11_tested 90 = .ok (.getfield 29, 3) := by decide +kernel
theorem dX11_tested_93 : decode cX11_tested 93 = .ok (.aload_n 0, 1) := by decide +kernel
theorem dX11_tested_94 : decode cX11_tested 94 = .ok (.getfield 151, 3) := by decide +kernel
theorem dX11_tested_97 : decode cX11_tested 97 = .ok (.iload_n 2, 1) := by decide +kernel
theorem dX11_tested_98 : decode cX11_tested 98 = .ok (.iastore, 1) := by decide +kernel
theorem dX11_tested_99 : decode cX11_tested 99 = .ok (.aload_n 0, 1) := by decide +kernel
theorem dX11_tested_100 : decode cX11_tested 100 = .ok (.dup, 1) := by decide +kernel
theorem dX11_tested_101 : decode cX11_tested 101 = .ok (.getfield 151, 3) := by decide +kernel
theorem dX11_tested_104 : decode cX11_tested 104 = .ok (.iconst 1, 1) := by decide +kernel
theorem dX11_tested_105 : decode cX11_tested 105 = .ok (.iadd, 1) := by decide +kernel
theorem dX11_tested_106 : decode cX11_tested 106 = .ok (.putfield 151, 3) := by decide +kernel
theorem dX11_tested_109 : decode cX11_tested 109 = .ok (.goto (-97), 3) := by decide +kernel
theorem dX11_tested_112 : decode cX11_tested 112 = .ok (.aload_n 0, 1) := by decide +kernel
theorem dX11_tested_113 : decode cX11_tested 113 = .ok (.invokevirtual 193, 3) := by decide +kernel
theorem dX11_tested_116 : decode cX11_tested 116 = .ok (.ifCond .eq 18, 3) := by decide +kernel
theorem dX11_tested_119 : decode cX11_tested 119 = .ok (.aload_n 0, 1) := by decide +kernel
theorem dX11_tested_120 : decode cX11_tested 120 = .ok (.invokevirtual 87, 3) := by decide +kernel
theorem dX11_tested_123 : decode cX11_tested 123 = .ok (.pop, 1) := by decide +kernel
theorem dX11_tested_124 : decode cX11_tested 124 = .ok (.aload_n 0, 1) := by decide +kernel
theorem dX11_tested_125 : decode cX11_tested 125 = .ok (.iconst 0, 1) := by decide +kernel
theorem dX11_tested_126 : decode cX11_tested 126 = .ok (.aload_n 0, 1) := by decide +kernel
theorem dX11_tested_127 : decode cX11_tested 127 = .ok (.getfield 84, 3) := by decide +kernel
theorem dX11_tested_130 : decode cX11_tested 130 = .ok (.invokevirtual 105, 3) := by decide +kernel
theorem dX11_tested_133 : decode cX11_tested 133 = .ok (.ireturn, 1) := by decide +kernel
theorem dX11_tested_134 : decode cX11_tested 134 = .ok (.aload_n 0, 1) := by decide +kernel
theorem dX11_tested_135 : decode cX11_tested 135 = .ok (.iconst 1, 1) := by decide +kernel
theorem dX11_tested_136 : decode cX11_tested 136 = .ok (.invokevirtual 190, 3) := by decide +kernel
theorem dX11_tested_139 : decode cX11_tested 139 = .ok (.iconst 1, 1) := by decide +kernel
theorem dX11_tested_140 : decode cX11_tested 140 = .ok (.ireturn, 1) := by decide +kernel
theorem dX11_isSleepHere_0 : decode cX11_isSleepHere 0 = .ok (.aload_n 0, 1) := by decide +kernel
theorem dX11_isSleepHere_1 : decode cX11_isSleepHere 1 = .ok (.invokevirtual 99, 3) := by decide +kernel
theorem dX11_isSleepHere_4 : decode cX11_isSleepHere 4 = .ok (.bipush 48, 2) := by decide +kernel
theorem dX11_isSleepHere_6 : decode cX11_isSleepHere 6 = .ok (.aload_n 0, 1) := by decide +kernel
theorem dX11_isSleepHere_7 : decode cX11_isSleepHere 7 = .ok (.getfield 142, 3) := by decide +kernel
theorem dX11_isSleepHere_10 : decode cX11_isSleepHere 10 = .ok (.imul, 1) := by decide +kernel
theorem dX11_isSleepHere_11 : decode cX11_isSleepHere 11 = .ok (.iconst 4, 1) := by decide +kernel
theorem dX11_isSleepHere_12 : decode cX11_isSleepHere 12 = .ok (.aload_n 0, 1) := by decide +kernel
theorem dX11_isSleepHere_13 : decode cX11_isSleepHere 13 = .ok (.getfield 23, 3) := by decide +kernel
theorem dX11_isSleepHere_16 : decode cX11_isSleepHere 16 = .ok (.aload_n 0, 1) := by decide +kernel
theorem dX11_isSleepHere_17 : decode cX11_isSleepHere 17 = .ok (.getfield 142, 3) := by decide +kernel
theorem dX11_isSleepHere_20 : decode cX11_isSleepHere 20 = .ok (.iaload, 1) := by decide +kernel
theorem dX11_isSleepHere_21 : decode cX11_isSleepHere 21 = .ok (.imul, 1) := by decide +kernel
theorem dX11_isSleepHere_22 : decode cX11_isSleepHere 22 = .ok (.iadd, 1) := by decide +kernel
theorem dX11_isSleepHere_23 : decode cX11_isSleepHere 23 = .ok (.istore_n 1, 1) := by decide +kernel
theorem dX11_isSleepHere_24 : decode cX11_isSleepHere 24 = .ok (.aload_n 0, 1) := by decide +kernel
theorem dX11_isSleepHere_25 : decode cX11_isSleepHere 25 = .ok (.getfield 20, 3) := by decide +kernel
theorem dX11_isSleepHere_28 : decode cX11_isSleepHere 28 = .ok (.iload_n 1, 1) := by decide +kernel
theorem dX11_isSleepHere_29 : decode cX11_isSleepHere 29 = .ok (.aload_n 0, 1) := by decide +kernel
theorem dX11_isSleepHere_30 : decode cX11_isSleepHere 30 = .ok (.getfield 17, 3) := by decide +kernel
theorem dX11_isSleepHere_33 : decode cX11_isSleepHere 33 = .ok (.aload_n 0, 1) := by decide +kernel
theorem dX11_isSleepHere_34 : decode cX11_isSleepHere 34 = .ok (.getfield 142, 3) := by decide +kernel
theorem dX11_isSleepHere_37 : decode cX11_isSleepHere 37 = .ok (.iaload, 1) := by decide +kernel
theorem dX11_isSleepHere_38 : decode cX11_isSleepHere 38 = .ok (.iastore, 1) := by decide +kernel
theorem dX11_isSleepHere_39 : decode cX11_isSleepHere 39 = .ok (.aload_n 0, 1) := by decide +kernel
theorem dX11_isSleepHere_40 : decode cX11_isSleepHere 40 = .ok (.invokevirtual 179, 3) := by decide +kernel
theorem dX11_isSleepHere_43 : decode cX11_isSleepHere 43 = .ok (.ifCond .ne 5, 3) := by decide +kernel
theorem dX11_isSleepHere_46 : decode cX11_isSleepHere 46 = .ok (.iconst 0, 1) := by decide +kernel
theorem dX11_isSleepHere_47 : decode cX11_isSleepHere 47 = .ok (.ireturn, 1) := by decide +kernel
theorem dX11_isSleepHere_48 : decode cX11_isSleepHere 48 = .ok (.aload_n 0, 1) := by decide +kernel
theorem dX11_isSleepHere_49 : decode cX11_isSleepHere 49 = .ok (.getfield 20, 3) := by decide +kernel
theorem dX11_isSleepHere_52 : decode cX11_isSleepHere 52 = .ok (.iload_n 1, 1) := by decide +kernel
theorem dX11_isSleepHere_53 : decode cX11_isSleepHere 53 = .ok (.iconst 1, 1) := by decide +kernel
theorem dX11_isSleepHere_54 : decode cX11_isSleepHere 54 = .ok (.iadd, 1) := by decide +kernel
theorem dX11_isSleepHere_55 : decode cX11_isSleepHere 55 = .ok (.aload_n 0, 1) := by decide +kernel
theorem dX11_isSleepHere_56 : decode cX11_isSleepHere 56 = .ok (.getfield 17, 3) := by decide +kernel
theorem dX11_isSleepHere_59 : decode cX11_isSleepHere 59 = .ok (.aload_n 0, 1) := by decide +kernel
theorem dX11_isSleepHere_60 : decode cX11_isSleepHere 60 = .ok (.getfield 142, 3) := by decide +kernel
theorem dX11_isSleepHere_63 : decode cX11_isSleepHere 63 = .ok (.iaload, 1) := by decide +kernel
theorem dX11_isSleepHere_64 : decode cX11_isSleepHere 64 = .ok (.iastore, 1) := by decide +kernel
theorem dX11_isSleepHere_65 : decode cX11_isSleepHere 65 = .ok (.aload_n 0, 1) := by decide +kernel
theorem dX11_isSleepHere_66 : decode cX11_isSleepHere 66 = .ok (.getfield 20, 3) := by decide +kernel
theorem dX11_isSleepHere_69 : decode cX11_isSleepHere 69 = .ok (.iload_n 1, 1) := by decide +kernel
theorem dX11_isSleepHere_70 : decode cX11_isSleepHere 70 = .ok (.iconst 2, 1) := by decide +kernel
theorem dX11_isSleepHere_71 : decode cX11_isSleepHere 71 = .ok (.iadd, 1) := by decide +kernel
theorem dX11_isSleepHere_72 : decode cX11_isSleepHere 72 = .ok (.iconst (-1), 1) := by decide +kernel
theorem dX11_isSleepHere_73 : decode cX11_isSleepHere 73 = .ok (.iastore, 1) := by decide +kernel
theorem dX11_isSleepHere_74 : decode cX11_isSleepHere 74 = .ok (.aload_n 0, 1) := by decide +kernel
theorem dX11_isSleepHere_75 : decode cX11_isSleepHere 75 = .ok (.ldc2_w 206, 3) := by decide +kernel
theorem dX11_isSleepHere_78 : decode cX11_isSleepHere 78 = .ok (.invokevirtual 208, 3) := by decide +kernel
theorem dX11_isSleepHere_81 : decode cX11_isSleepHere 81 = .ok (.ifCond .eq 29, 3) := by decide +kernel
theorem dX11_isSleepHere_84 : decode cX11_isSleepHere 84 = .ok (.aload_n 0, 1) := by decide +kernel
theorem dX11_isSleepHere_85 : decode cX11_isSleepHere 85 = .ok (.getfield 20, 3) := by decide +kernel
theorem dX11_isSleepHere_88 : decode cX11_isSleepHere 88 = .ok (.iload_n 1, 1) := by decide +kernel
theorem dX11_isSleepHere_89 : decode cX11_isSleepHere 89 = .ok (.iconst 2, 1) := by decide +kernel
theorem dX11_isSleepHere_90 : decode cX11_isSleepHere 90 = .ok (.iadd, 1) := by decide +kernel
theorem dX11_isSleepHere_91 : decode cX11_isSleepHere 91 = .ok (.aload_n 0, 1) := by decide +kernel
theorem dX11_isSleepHere_92 : decode cX11_isSleepHere 92 = .ok (.getfield 17, 3) := by decide +kernel
theorem dX11_isSleepHere_95 : decode cX11_isSleepHere 95 = .ok (.aload_n 0, 1) := by decide +kernel
theorem dX11_isSleepHere_96 : decode cX11_isSleepHere 96 = .ok (.getfield 142, 3) := by decide +kernel
theorem dX11_isSleepHere_99 : decode cX11_isSleepHere 99 = .ok (.iaload, 1) := by decide +kernel
theorem dX11_isSleepHere_100 : decode cX11_isSleepHere 100 = .ok (.iastore, 1) := by decide +kernel
theorem dX11_isSleepHere_101 : decode cX11_isSleepHere 101 = .ok (.aload_n 0, 1) := by decide +kernel
theorem dX11_isSleepHere_102 : decode cX11_isSleepHere 102 = .ok (.invokevirtual 211, 3) := by decide +kernel
theorem dX11_isSleepHere_105 : decode cX11_isSleepHere 105 = .ok (.ifCond .ne 5, 3) := by decide +kernel
theorem dX11_isSleepHere_108 : decode cX11_isSleepHere 108 = .ok (.iconst 0, 1) := by decide +kernel
theorem dX11_isSleepHere_109 : decode cX11_isSleepHere 109 = .ok (.ireturn, 1) := by decide +kernel
theorem dX11_isSleepHere_110 : decode cX11_isSleepHere 110 = .ok (.aload_n 0, 1) := by decide +kernel
theorem dX11_isSleepHere_111 : decode cX11_isSleepHere 111 = .ok (.getfield 20, 3) := by decide +kernel
theorem dX11_isSleepHere_114 : decode cX11_isSleepHere 114 = .ok (.iload_n 1, 1) := by decide +kernel
theorem dX11_isSleepHere_115 : decode cX11_isSleepHere 115 = .ok (.iconst 3, 1) := by decide +kernel
theorem dX11_isSleepHere_116 : decode cX11_isSleepHere 116 = .ok (.iadd, 1) := by decide +kernel
theorem dX11_isSleepHere_117 : decode cX11_isSleepHere 117 = .ok (.aload_n 0, 1) := by decide +kernel
theorem dX11_isSleepHere_118 : decode cX11_isSleepHere 118 = .ok (.getfield 17, 3) := by decide +kernel
theorem dX11_isSleepHere_121 : decode cX11_isSleepHere 121 = .ok (.aload_n 0, 1) := by decide +kernel
theorem dX11_isSleepHere_122 : decode cX11_isSleepHere 122 = .ok (.getfield 142, 3) := by decide +kernel
theorem dX11_isSleepHere_125 : decode cX11_isSleepHere 125 = .ok (.iaload, 1) := by decide +kernel
theorem dX11_isSleepHere_126 : decode cX11_isSleepHere 126 = .ok (.iastore, 1) := by decide +kernel
theorem dX11_isSleepHere_127 : decode cX11_isSleepHere 127 = .ok (.aload_n 0, 1) := by decide +kernel
theorem dX11_isSleepHere_128 : decode cX11_isSleepHere 128 = .ok (.getfield 23, 3) := by decide +kernel
theorem dX11_isSleepHere_131 : decode cX11_isSleepHere 131 = .ok (.aload_n 0, 1) := by decide +kernel
theorem dX11_isSleepHere_132 : decode cX11_isSleepHere 132 = .ok (.getfield 142, 3) := by decide +kernel
theorem dX11_isSleepHere_135 : decode cX11_isSleepHere 135 = .ok (.dup2, 1) := by decide +kernel
theorem dX11_isSleepHere_136 : decode cX11_isSleepHere 136 = .ok (.iaload, 1) := by decide +kernel
theorem dX11_isSleepHere_137 : decode cX11_isSleepHere 137 = .ok (.iconst 1, 1) := by decide +kernel
theorem dX11_isSleepHere_138 : decode cX11_isSleepHere 138 = .ok (.iadd, 1) := by decide +kernel
theorem dX11_isSleepHere_139 : decode cX11_isSleepHere 139 = .ok (.iastore, 1) := by decide +kernel
theorem dX11_isSleepHere_140 : decode cX11_isSleepHere 140 = .ok (.iconst 1, 1) := by decide +kernel
theorem dX11_isSleepHere_141 : decode cX11_isSleepHere 141 = .ok (.ireturn, 1) := by decide +kernel
theorem dX11_cellHere_0 : decode cX11_cellHere 0 = .ok (.aload_n 0, 1) := by decide +kernel
theorem dX11_cellHere_1 : decode cX11_cellHere 1 = .ok (.iload_n 2, 1) := by decide +kernel
theorem dX11_cellHere_2 : decode cX11_cellHere 2 = .ok (.iload_n 3, 1) := by decide +kernel
theorem dX11_cellHere_3 : decode cX11_cellHere 3 = .ok (.invokevirtual 163, 3) := by decide +kernel
theorem dX11_cellHere_6 : decode cX11_cellHere 6 = .ok (.ifCond .ne 5, 3) := by decide +kernel
theorem dX11_cellHere_9 : decode cX11_cellHere 9 = .ok (.iconst 0, 1) := by decide +kernel
theorem dX11_cellHere_10 : decode cX11_cellHere 10 = .ok (.ireturn, 1) := by decide +kernel
theorem dX11_cellHere_11 : decode cX11_cellHere 11 = .ok (.aload_n 0, 1) := by decide +kernel
theorem dX11_cellHere_12 : decode cX11_cellHere 12 = .ok (.getfield 26, 3) := by decide +kernel
theorem dX11_cellHere_15 : decode cX11_cellHere 15 = .ok (.iload_n 1, 1) := by decide +kernel
theorem dX11_cellHere_16 : decode cX11_cellHere 16 = .ok (.aload_n 0, 1) := by decide +kernel
theorem dX11_cellHere_17 : decode cX11_cellHere 17 = .ok (.getfield 109, 3) := by decide +kernel
theorem dX11_cellHere_20 : decode cX11_cellHere 20 = .ok (.iastore, 1) := by decide +kernel
theorem dX11_cellHere_21 : decode cX11_cellHere 21 = .ok (.iconst 1, 1) := by decide +kernel
theorem dX11_cellHere_22 : decode cX11_cellHere 22 = .ok (.ireturn, 1) := by decide +kernel
theorem dX11_isStreetHere_0 : decode cX11_isStreetHere 0 = .ok (.aload_n 0, 1) := by decide +kernel
theorem dX11_isStreetHere_1 : decode cX11_isStreetHere 1 = .ok (.getfield 26, 3) := by decide +kernel
theorem dX11_isStreetHere_4 : decode cX11_isStreetHere 4 = .ok (.iconst 0, 1) := by decide +kernel
theorem dX11_isStreetHere_5 : decode cX11_isStreetHere 5 = .ok (.iaload, 1) := by decide +kernel
theorem dX11_isStreetHere_6 : decode cX11_isStreetHere 6 = .ok (.ifCond .le 10, 3) := by decide +kernel
theorem dX11_isStreetHere_9 : decode cX11_isStreetHere 9 = .ok (.aload_n 0, 1) := by decide +kernel
theorem dX11_isStreetHere_10 : decode cX11_isStreetHere 10 = .ok (.iconst 4, 1) := by decide +kernel
theorem dX11_isStreetHere_11 : decode cX11_isStreetHere 11 = .ok (.iload_n 1, 1) := by decide +kernel
theorem dX11_isStreetHere_12 : decode cX11_isStreetHere 12 = .ok (.invokevirtual 105, 3) := by decide +kernel
theorem dX11_isStreetHere_15 : decode cX11_isStreetHere 15 = .ok (.ireturn, 1) := by decide +kernel
theorem dX11_isStreetHere_16 : decode cX11_isStreetHere 16 = .ok (.aload_n 0, 1) := by decide +kernel
theorem dX11_isStreetHere_17 : decode cX11_isStreetHere 17 = .ok (.invokevirtual 99, 3) := by decide +kernel
theorem dX11_isStreetHere_20 : decode cX11_isStreetHere 20 = .ok (.aload_n 0, 1) := by decide +kernel
theorem dX11_isStreetHere_21 : decode cX11_isStreetHere 21 = .ok (.iconst 0, 1) := by decide +kernel
theorem dX11_isStreetHere_22 : decode cX11_isStreetHere 22 = .ok (.iconst 2, 1) := by decide +kernel
theorem dX11_isStreetHere_23 : decode cX11_isStreetHere 23 = .ok (.bipush 10, 2) := by decide +kernel
theorem dX11_isStreetHere_25 : decode cX11_isStreetHere 25 = .ok (.invokevirtual 214, 3) := by decide +kernel
theorem dX11_isStreetHere_28 : decode cX11_isStreetHere 28 = .ok (.ireturn, 1) := by decide +kernel
set_option maxRecDepth 20000 in
def fX11_init (N : Nat)  (a0 : Nat) (u : SG) : Option (Unit × SG) := if (400 : Int32) < 0 ∨ 400 < (400 : Int32).toNatClampNeg then none else nw u (sNew u 21 (400 : Int32).toNatClampNeg) fun q1 u2 => (if zK u2 a0 = 12 then bs (sR u2 a0 0 (some q1)) fun u3 => (if (2400 : Int32) < 0 ∨ 2400 < (2400 : Int32).toNatClampNeg then none else nw u3 (sNew u3 22 (2400 : Int32).toNatClampNeg) fun q4 u5 => (if zK u5 a0 = 12 then bs (sR u5 a0 3 (some q4)) fun u6 => (if (7 : Int32) < 0 ∨ 7 < (7 : Int32).toNatClampNeg then none else nw u6 (sNew u6 22 (7 : Int32).toNatClampNeg) fun q7 u8 => (if zK u8 a0 = 12 then bs (sR u8 a0 4 (some q7)) fun u9 => (if (288 : Int32) < 0 ∨ 288 < (288 : Int32).toNatClampNeg then none else nw u9 (sNew u9 22 (288 : Int32).toNatClampNeg) fun q10 u11 => (if zK u11 a0 = 12 then bs (sR u11 a0 5 (some q10)) fun u12 => (if (6 : Int32) < 0 ∨ 6 < (6 : Int32).toNatClampNeg then none else nw u12 (sNew u12 22 (6 : Int32).toNatClampNeg) fun q13 u14 => (if zK u14 a0 = 12 then bs (sR u14 a0 6 (some q13)) fun u15 => (if (103 : Int32) < 0 ∨ 103 < (103 : Int32).toNatClampNeg then none else nw u15 (sNew u15 22 (103 : Int32).toNatClampNeg) fun q16 u17 => (if zK u17 a0 = 12 then bs (sR u17 a0 7 (some q16)) fun u18 => (if (400 : Int32) < 0 ∨ 400 < (400 : Int32).toNatClampNeg then none else nw u18 (sNew u18 22 (400 : Int32).toNatClampNeg) fun q19 u20 => (if zK u20 a0 = 12 then bs (sR u20 a0 15 (some q19)) fun u21 => (if (64 : Int32) < 0 ∨ 64 < (64 : Int32).toNatClampNeg then none else nw u21 (sNew u21 23 (64 : Int32).toNatClampNeg) fun q22 u23 => (if zK u23 a0 = 12 then bs (sR u23 a0 17 (some q22)) fun u24 => (if (13 : Int32) < 0 ∨ 13 < (13 : Int32).toNatClampNeg then none else nw u24 (sNew u24 23 (13 : Int32).toNatClampNeg) fun q25 u26 => (if zK u26 a0 = 12 then bs (sR u26 a0 19 (some q25)) fun u27 => (if (144 : Int32) < 0 ∨ 144 < (144 : Int32).toNatClampNeg then none else nw u27 (sNew u27 22 (144 : Int32).toNatClampNeg) fun q28 u29 => (if zK u29 a0 = 12 then bs (sR u29 a0 20 (some q28)) fun u30 => (if zK u30 a0 = 12 then bs (sI u30 a0 21 (-1 : Int32)) fun u31 => (if (5 : Int32) < 0 ∨ 5 < (5 : Int32).toNatClampNeg then none else nw u31 (sNew u31 22 (5 : Int32).toNatClampNeg) fun q32 u33 => (if zK u33 a0 = 12 then bs (sR u33 a0 23 (some q32)) fun u34 => (if (900 : Int32) < 0 ∨ 900 < (900 : Int32).toNatClampNeg then none else nw u34 (sNew u34 22 (900 : Int32).toNatClampNeg) fun q35 u36 => (if zK u36 a0 = 12 then bs (sR u36 a0 24 (some q35)) fun u37 => (if (45 : Int32) < 0 ∨ 45 < (45 : Int32).toNatClampNeg then none else nw u37 (sNew u37 22 (45 : Int32).toNatClampNeg) fun q38 u39 => (if zK u39 a0 = 12 then bs (sR u39 a0 26 (some q38)) fun u40 => (if (11 : Int32) < 0 ∨ 11 < (11 : Int32).toNatClampNeg then none else nw u40 (sNew u40 22 (11 : Int32).toNatClampNeg) fun q41 u42 => (if zK u42 a0 = 12 then bs (sR u42 a0 29 (some q41)) fun u43 => (if (729 : Int32) < 0 ∨ 729 < (729 : Int32).toNatClampNeg then none else nw u43 (sNew u43 22 (729 : Int32).toNatClampNeg) fun q44 u45 => (if zK u45 a0 = 12 then bs (sR u45 a0 30 (some q44)) fun u46 => (if (576 : Int32) < 0 ∨ 576 < (576 : Int32).toNatClampNeg then none else nw u46 (sNew u46 22 (576 : Int32).toNatClampNeg) fun q47 u48 => (if zK u48 a0 = 12 then bs (sR u48 a0 32 (some q47)) fun u49 => (if (4 : Int32) < 0 ∨ 4 < (4 : Int32).toNatClampNeg then none else nw u49 (sNew u49 22 (4 : Int32).toNatClampNeg) fun q50 u51 => (if zK u51 a0 = 12 then bs (sR u51 a0 33 (some q50)) fun u52 => (if (4 : Int32) < 0 ∨ 4 < (4 : Int32).toNatClampNeg then none else nw u52 (sNew u52 22 (4 : Int32).toNatClampNeg) fun q53 u54 => (if zK u54 a0 = 12 then bs (sR u54 a0 34 (some q53)) fun u55 => (if (4 : Int32) < 0 ∨ 4 < (4 : Int32).toNatClampNeg then none else nw u55 (sNew u55 24 (4 : Int32).toNatClampNeg) fun q56 u57 => (if zK u57 a0 = 12 then bs (sR u57 a0 35 (some q56)) fun u58 => (some ((), u58)) else none)) else none)) else none)) else none)) else none)) else none)) else none)) else none)) else none)) else none) else none)) else none)) else none)) else none)) else none)) else none)) else none)) else none)) else none)) else none)
set_option maxRecDepth 20000 in
set_option maxHeartbeats 4000000 in
theorem kX11_init  (N : Nat)  (l : Launch) (D : va_G) (cT : Nat → ClassId) (z0 : Nat) (ks : Nat × Nat) (a0 : Nat) (u : SG) : Ct l D cT z0 ks yX11_init cX11_init 1 none 1 19 6103 vU [.ref a0] u (fX11_init N  a0 u) := by
  unfold fX11_init
  refine ct_of (by decide +kernel) (Nat.le_of_ble_eq_true rfl) (fun p e R s m args below meth c hX => ?_)
  show JF _ True 1 0 0 _ 0 [(0, .ref a0)] [] u _
  refine jf_aload_n hX dX11_init_0 0 rfl ?_
  refine jf_objInit hX wml_16 winst_17 wcode_18 (by decide) (Nat.le_of_ble_eq_true rfl) dX11_init_1 ?_
  refine jf_aload_n hX dX11_init_4 0 rfl ?_
  refine jf_sipush (v := 400) hX dX11_init_5 (by decide) ?_
  refine jf_newaB hX trivial warrc_19 400 (by decide) (by decide) (by decide) dX11_init_8 (fun q1 u2 => ?_)
  refine jf_putRF (v := some q1) hX trivial ck_X11 0 wfl_20 (by decide) rfl rfl rfl rfl rfl dX11_init_10 (fun u3 => ?_)
  refine jf_aload_n hX dX11_init_13 0 rfl ?_
  refine jf_sipush (v := 2400) hX dX11_init_14 (by decide) ?_
  refine jf_newaI hX trivial warrc_21 2400 (by decide) (by decide) (by decide) dX11_init_17 (fun q4 u5 => ?_)
  refine jf_putRF (v := some q4) hX trivial ck_X11 3 wfl_22 (by decide) rfl rfl rfl rfl rfl dX11_init_19 (fun u6 => ?_)
  refine jf_aload_n hX dX11_init_22 0 rfl ?_
  refine jf_bipush (v := 7) hX dX11_init_23 (by decide) ?_
  refine jf_newaI hX trivial warrc_21 7 (by decide) (by decide) (by decide) dX11_init_25 (fun q7 u8 => ?_)
  refine jf_putRF (v := some q7) hX trivial ck_X11 4 wfl_23 (by decide) rfl rfl rfl rfl rfl dX11_init_27 (fun u9 => ?_)
  refine jf_aload_n hX dX11_init_30 0 rfl ?_
  refine jf_sipush (v := 288) hX dX11_init_31 (by decide) ?_
  refine jf_newaI hX trivial warrc_21 288 (by decide) (by decide) (by decide) dX11_init_34 (fun q10 u11 => ?_)
  refine jf_putRF (v := some q10) hX trivial ck_X11 5 wfl_24 (by decide) rfl rfl rfl rfl rfl dX11_init_36 (fun u12 => ?_)
  refine jf_aload_n hX dX11_init_39 0 rfl ?_
  refine jf_bipush (v := 6) hX dX11_init_40 (by decide) ?_
  refine jf_newaI hX trivial warrc_21 6 (by decide) (by decide) (by decide) dX11_init_42 (fun q13 u14 => ?_)
  refine jf_putRF (v := some q13) hX trivial ck_X11 6 wfl_25 (by decide) rfl rfl rfl rfl rfl dX11_init_44 (fun u15 => ?_)
  refine jf_aload_n hX dX11_init_47 0 rfl ?_
  refine jf_bipush (v := 103) hX dX11_init_48 (by decide) ?_
  refine jf_newaI hX trivial warrc_21 103 (by decide) (by decide) (by decide) dX11_init_50 (fun q16 u17 => ?_)
  refine jf_putRF (v := some q16) hX trivial ck_X11 7 wfl_26 (by decide) rfl rfl rfl rfl rfl dX11_init_52 (fun u18 => ?_)
  refine jf_aload_n hX dX11_init_55 0 rfl ?_
  refine jf_sipush (v := 400) hX dX11_init_56 (by decide) ?_
  refine jf_newaI hX trivial warrc_21 400 (by decide) (by decide) (by decide) dX11_init_59 (fun q19 u20 => ?_)
  refine jf_putRF (v := some q19) hX trivial ck_X11 15 wfl_27 (by decide) rfl rfl rfl rfl rfl dX11_init_61 (fun u21 => ?_)
  refine jf_aload_n hX dX11_init_64 0 rfl ?_
  refine jf_bipush (v := 64) hX dX11_init_65 (by decide) ?_
  refine jf_newaJ hX trivial warrc_28 64 (by decide) (by decide) (by decide) dX11_init_67 (fun q22 u23 => ?_)
  refine jf_putRF (v := some q22) hX trivial ck_X11 17 wfl_29 (by decide) rfl rfl rfl rfl rfl dX11_init_69 (fun u24 => ?_)
  refine jf_aload_n hX dX11_init_72 0 rfl ?_
  refine jf_bipush (v := 13) hX dX11_init_73 (by decide) ?_
  refine jf_newaJ hX trivial warrc_28 13 (by decide) (by decide) (by decide) dX11_init_75 (fun q25 u26 => ?_)
  refine jf_putRF (v := some q25) hX trivial ck_X11 19 wfl_30 (by decide) rfl rfl rfl rfl rfl dX11_init_77 (fun u27 => ?_)
  refine jf_aload_n hX dX11_init_80 0 rfl ?_
  refine jf_sipush (v := 144) hX dX11_init_81 (by decide) ?_
  refine jf_newaI hX trivial warrc_21 144 (by decide) (by decide) (by decide) dX11_init_84 (fun q28 u29 => ?_)
  refine jf_putRF (v := some q28) hX trivial ck_X11 20 wfl_31 (by decide) rfl rfl rfl rfl rfl dX11_init_86 (fun u30 => ?_)
  refine jf_aload_n hX dX11_init_89 0 rfl ?_
  refine jf_iconst (v := -1) hX dX11_init_90 (by decide) ?_
  refine jf_putI hX trivial ck_X11 21 wfl_32 (by decide) rfl rfl rfl dX11_init_91 (fun u31 => ?_)
  refine jf_aload_n hX dX11_init_94 0 rfl ?_
  refine jf_iconst (v := 5) hX dX11_init_95 (by decide) ?_
  refine jf_newaI hX trivial warrc_21 5 (by decide) (by decide) (by decide) dX11_init_96 (fun q32 u33 => ?_)
  refine jf_putRF (v := some q32) hX trivial ck_X11 23 wfl_33 (by decide) rfl rfl rfl rfl rfl dX11_init_98 (fun u34 => ?_)
  refine jf_aload_n hX dX11_init_101 0 rfl ?_
  refine jf_sipush (v := 900) hX dX11_init_102 (by decide) ?_
  refine jf_newaI hX trivial warrc_21 900 (by decide) (by decide) (by decide) dX11_init_105 (fun q35 u36 => ?_)
  refine jf_putRF (v := some q35) hX trivial ck_X11 24 wfl_34 (by decide) rfl rfl rfl rfl rfl dX11_init_107 (fun u37 => ?_)
  refine jf_aload_n hX dX11_init_110 0 rfl ?_
  refine jf_bipush (v := 45) hX dX11_init_111 (by decide) ?_
  refine jf_newaI hX trivial warrc_21 45 (by decide) (by decide) (by decide) dX11_init_113 (fun q38 u39 => ?_)
  refine jf_putRF (v := some q38) hX trivial ck_X11 26 wfl_35 (by decide) rfl rfl rfl rfl rfl dX11_init_115 (fun u40 => ?_)
  refine jf_aload_n hX dX11_init_118 0 rfl ?_
  refine jf_bipush (v := 11) hX dX11_init_119 (by decide) ?_
  refine jf_newaI hX trivial warrc_21 11 (by decide) (by decide) (by decide) dX11_init_121 (fun q41 u42 => ?_)
  refine jf_putRF (v := some q41) hX trivial ck_X11 29 wfl_36 (by decide) rfl rfl rfl rfl rfl dX11_init_123 (fun u43 => ?_)
  refine jf_aload_n hX dX11_init_126 0 rfl ?_
  refine jf_sipush (v := 729) hX dX11_init_127 (by decide) ?_
  refine jf_newaI hX trivial warrc_21 729 (by decide) (by decide) (by decide) dX11_init_130 (fun q44 u45 => ?_)
  refine jf_putRF (v := some q44) hX trivial ck_X11 30 wfl_37 (by decide) rfl rfl rfl rfl rfl dX11_init_132 (fun u46 => ?_)
  refine jf_aload_n hX dX11_init_135 0 rfl ?_
  refine jf_sipush (v := 576) hX dX11_init_136 (by decide) ?_
  refine jf_newaI hX trivial warrc_21 576 (by decide) (by decide) (by decide) dX11_init_139 (fun q47 u48 => ?_)
  refine jf_putRF (v := some q47) hX trivial ck_X11 32 wfl_38 (by decide) rfl rfl rfl rfl rfl dX11_init_141 (fun u49 => ?_)
  refine jf_aload_n hX dX11_init_144 0 rfl ?_
  refine jf_iconst (v := 4) hX dX11_init_145 (by decide) ?_
  refine jf_newaI hX trivial warrc_21 4 (by decide) (by decide) (by decide) dX11_init_146 (fun q50 u51 => ?_)
  refine jf_putRF (v := some q50) hX trivial ck_X11 33 wfl_39 (by decide) rfl rfl rfl rfl rfl dX11_init_148 (fun u52 => ?_)
  refine jf_aload_n hX dX11_init_151 0 rfl ?_
  refine jf_iconst (v := 4) hX dX11_init_152 (by decide) ?_
  refine jf_newaI hX trivial warrc_21 4 (by decide) (by decide) (by decide) dX11_init_153 (fun q53 u54 => ?_)
  refine jf_putRF (v := some q53) hX trivial ck_X11 34 wfl_40 (by decide) rfl rfl rfl rfl rfl dX11_init_155 (fun u55 => ?_)
  refine jf_aload_n hX dX11_init_158 0 rfl ?_
  refine jf_iconst (v := 4) hX dX11_init_159 (by decide) ?_
  refine jf_newaZ hX trivial warrc_41 4 (by decide) (by decide) (by decide) dX11_init_160 (fun q56 u57 => ?_)
  refine jf_putRF (v := some q56) hX trivial ck_X11 35 wfl_42 (by decide) rfl rfl rfl rfl rfl dX11_init_162 (fun u58 => ?_)
  exact jf_vret hX rfl (by decide) (by decide) dX11_init_165
set_option maxRecDepth 20000 in
def fX11_in (N : Nat)  (p1 : Int64) (p2 : Int64) (p3 : Int64) (u : SG) : Option (Int32 × SG) := if (lg_cmp p1 p2) < 0 then (some ((0 : Int32), u))
  else (if 0 < (lg_cmp p1 p3) then (some ((0 : Int32), u))
  else (some ((1 : Int32), u)))
set_option maxRecDepth 20000 in
set_option maxHeartbeats 4000000 in
theorem kX11_in  (N : Nat)  (l : Launch) (D : va_G) (cT : Nat → ClassId) (z0 : Nat) (ks : Nat × Nat) (p1 : Int64) (p2 : Int64) (p3 : Int64) (u : SG) : Ct l D cT z0 ks yX11_in cX11_in 6 (some .boolean) 1 0 0 vI [.long p1, .long p2, .long p3] u (fX11_in N  p1 p2 p3 u) := by
  unfold fX11_in
  refine ct_of (by decide +kernel) (Nat.le_of_ble_eq_true rfl) (fun p e R s m args below meth c hX => ?_)
  show JF _ True 6 0 0 _ 0 [(0, .long p1), (2, .long p2), (4, .long p3)] [] u _
  refine jf_lload_n hX dX11_in_0 0 rfl ?_
  refine jf_lload_n hX dX11_in_1 1 rfl ?_
  refine jf_lcmp hX dX11_in_2 ?_
  refine jf_if_lt (tgt := 17) hX dX11_in_3 (by decide) ?_ ?_
  · refine jf_iconst (v := 0) hX dX11_in_17 (by decide) ?_
    exact jf_zretc hX rfl (by decide) (by decide) (by decide) dX11_in_18
  · refine jf_lload_n hX dX11_in_6 0 rfl ?_
    refine jf_lload hX dX11_in_7 2 rfl ?_
    refine jf_lcmp hX dX11_in_9 ?_
    refine jf_if_gt (tgt := 17) hX dX11_in_10 (by decide) ?_ ?_
    · refine jf_iconst (v := 0) hX dX11_in_17 (by decide) ?_
      exact jf_zretc hX rfl (by decide) (by decide) (by decide) dX11_in_18
    · refine jf_iconst (v := 1) hX dX11_in_13 (by decide) ?_
      refine jf_goto (tgt := 18) hX dX11_in_14 (by decide) ?_
      exact jf_zretc hX rfl (by decide) (by decide) (by decide) dX11_in_18
set_option maxRecDepth 20000 in
def fX11_isOf (N : Nat)  (p1 : Int32) (p2 : Int32) (u : SG) : Option (Int32 × SG) := if ((p1 >>> (p2 &&& 31)) &&& (1 : Int32)) = (1 : Int32) then (some ((1 : Int32), u))
  else (some ((0 : Int32), u))
set_option maxRecDepth 20000 in
set_option maxHeartbeats 4000000 in
theorem kX11_isOf  (N : Nat)  (l : Launch) (D : va_G) (cT : Nat → ClassId) (z0 : Nat) (ks : Nat × Nat) (p1 : Int32) (p2 : Int32) (u : SG) : Ct l D cT z0 ks yX11_isOf cX11_isOf 2 (some .boolean) 1 0 0 vI [.int p1, .int p2] u (fX11_isOf N  p1 p2 u) := by
  unfold fX11_isOf
  refine ct_of (by decide +kernel) (Nat.le_of_ble_eq_true rfl) (fun p e R s m args below meth c hX => ?_)
  show JF _ True 2 0 0 _ 0 [(0, .int p1), (1, .int p2)] [] u _
  refine jf_iload_n hX dX11_isOf_0 0 rfl ?_
  refine jf_iload_n hX dX11_isOf_1 1 rfl ?_
  refine jf_ishr hX dX11_isOf_2 ?_
  refine jf_iconst (v := 1) hX dX11_isOf_3 (by decide) ?_
  refine jf_iand hX dX11_isOf_4 ?_
  refine jf_iconst (v := 1) hX dX11_isOf_5 (by decide) ?_
  refine jf_icmp_ne (tgt := 13) hX dX11_isOf_6 (by decide) ?_ ?_
  · refine jf_iconst (v := 0) hX dX11_isOf_13 (by decide) ?_
    exact jf_zretc hX rfl (by decide) (by decide) (by decide) dX11_isOf_14
  · refine jf_iconst (v := 1) hX dX11_isOf_9 (by decide) ?_
    refine jf_goto (tgt := 14) hX dX11_isOf_10 (by decide) ?_
    exact jf_zretc hX rfl (by decide) (by decide) (by decide) dX11_isOf_14
set_option maxRecDepth 20000 in
def gX11_bits_4 (N : Nat)   : Nat → Int32 → Int32 → SG → Option (Int32 × SG)
  | 0, _, _, _ => none
  | n + 1, x1, x2, u => if x2 = 0 then (some (x1, u))
  else (bs (x2 &&& (x2 - (1 : Int32))) fun v1 => ((gX11_bits_4 N  n) (x1 + (1 : Int32)) v1 u))
set_option maxRecDepth 20000 in
set_option maxHeartbeats 4000000 in
theorem jgX11_bits_4   {X : XT} (hX : Cx X yX11_bits cX11_bits 3 (some .int) 1 0 0) (N : Nat)  : ∀ (n : Nat) (x1 : Int32) (x2 : Int32) (u : SG), JF X True 3 0 0 (jQ X vI 0 0) 4 [(1, .int x1), (2, .int x2)] [] u (gX11_bits_4 N   n x1 x2 u) := by
  intro n
  induction n with
  | zero => intros; intro r u9 h9; exact absurd h9 (by simp [gX11_bits_4])
  | succ n ih =>
    intro x1 x2 u
    have hrec4 := ih
    rw [gX11_bits_4]
    refine jf_iload_n hX dX11_bits_4 1 rfl ?_
    refine jf_if_eq (tgt := 20) hX dX11_bits_5 (by decide) ?_ ?_
    · refine jf_iload_n hX dX11_bits_20 0 rfl ?_
      exact jf_iret hX rfl (by decide) (by decide) dX11_bits_21
    · refine jf_iinc (v := 1) (lv' := [(1, .int (x1 + (1 : Int32))), (2, .int x2)]) hX dX11_bits_8 0 rfl (by decide) (by decide) rfl ?_
      refine jf_iload_n hX dX11_bits_11 1 rfl ?_
      refine jf_iload_n hX dX11_bits_12 1 rfl ?_
      refine jf_iconst (v := 1) hX dX11_bits_13 (by decide) ?_
      refine jf_isub hX dX11_bits_14 ?_
      refine jf_iand hX dX11_bits_15 ?_
      refine jf_nmI (fun v1 => ?_)
      refine jf_istore_n (lv' := [(2, .int v1), (1, .int (x1 + (1 : Int32)))]) hX dX11_bits_16 rfl (by decide) rfl ?_
      refine jf_goto (tgt := 4) hX dX11_bits_17 (by decide) ?_
      refine jf_lv [1, 0] rfl ?_
      exact hrec4 (x1 + (1 : Int32)) v1 u
set_option maxRecDepth 20000 in
def fX11_bits (N : Nat)  (p1 : Int32) (u : SG) : Option (Int32 × SG) := gX11_bits_4 N  N (0 : Int32) p1 u
set_option maxRecDepth 20000 in
set_option maxHeartbeats 4000000 in
theorem kX11_bits  (N : Nat)  (l : Launch) (D : va_G) (cT : Nat → ClassId) (z0 : Nat) (ks : Nat × Nat) (p1 : Int32) (u : SG) : Ct l D cT z0 ks yX11_bits cX11_bits 3 (some .int) 1 0 0 vI [.int p1] u (fX11_bits N  p1 u) := by
  unfold fX11_bits
  refine ct_of (by decide +kernel) (Nat.le_of_ble_eq_true rfl) (fun p e R s m args below meth c hX => ?_)
  show JF _ True 3 0 0 _ 0 [(0, .int p1)] [] u _
  refine jf_iconst (v := 0) hX dX11_bits_0 (by decide) ?_
  refine jf_istore_n (lv' := [(1, .int (0 : Int32)), (0, .int p1)]) hX dX11_bits_1 rfl (by decide) rfl ?_
  refine jf_iload_n hX dX11_bits_2 1 rfl ?_
  refine jf_istore_n (lv' := [(2, .int p1), (1, .int (0 : Int32)), (0, .int p1)]) hX dX11_bits_3 rfl (by decide) rfl ?_
  refine jf_lv [1, 0] rfl ?_
  exact jgX11_bits_4 hX N  N (0 : Int32) p1 u
set_option maxRecDepth 20000 in
def gX11_four_3 (N : Nat)   : Nat → Nat → Int32 → Int32 → SG → Option (Unit × SG)
  | 0, _, _, _, _ => none
  | n + 1, x0, x1, x2, u => if x2 < 0 then (some ((), u))
  else (if zK u x0 = 12 then (Option.bind (zR u x0 0) fun q1 => (if zK u x0 = 12 then (if zK u q1 = 21 then if (zI u x0 1) < 0 ∨ zN u q1 ≤ (zI u x0 1).toNatClampNeg then none else bs (sI u q1 (zI u x0 1).toNatClampNeg (vp_nar .byte ((x1 >>> (x2 &&& 31)).toInt8.toInt32))) fun u2 => (if zK u2 x0 = 12 then (if zK u2 x0 = 12 then bs (sI u2 x0 1 ((zI u2 x0 1) + (1 : Int32))) fun u3 => ((gX11_four_3 N  n) x0 x1 (x2 + (-8 : Int32)) u3) else none) else none) else none) else none)) else none)
set_option maxRecDepth 20000 in
set_option maxHeartbeats 4000000 in
theorem jgX11_four_3   {X : XT} (hX : Cx X yX11_four cX11_four 3 none 1 0 0) (N : Nat)  : ∀ (n : Nat) (x0 : Nat) (x1 : Int32) (x2 : Int32) (u : SG), JF X True 3 0 0 (jQ X vU 0 0) 3 [(0, .ref x0), (1, .int x1), (2, .int x2)] [] u (gX11_four_3 N   n x0 x1 x2 u) := by
  intro n
  induction n with
  | zero => intros; intro r u9 h9; exact absurd h9 (by simp [gX11_four_3])
  | succ n ih =>
    intro x0 x1 x2 u
    have hrec3 := ih
    rw [gX11_four_3]
    refine jf_iload_n hX dX11_four_3 2 rfl ?_
    refine jf_if_lt (tgt := 36) hX dX11_four_4 (by decide) ?_ ?_
    · exact jf_vret hX rfl (by decide) (by decide) dX11_four_36
    · refine jf_aload_n hX dX11_four_7 0 rfl ?_
      refine jf_getR hX ck_X11 0 wfl_20 (by decide) rfl dX11_four_8 ?_
      refine jf_nn (fun q1 => ?_)
      refine jf_aload_n hX dX11_four_11 0 rfl ?_
      refine jf_getI hX ck_X11 1 wfl_43 (by decide) rfl dX11_four_12 ?_
      refine jf_iload_n hX dX11_four_15 1 rfl ?_
      refine jf_iload_n hX dX11_four_16 2 rfl ?_
      refine jf_ishr hX dX11_four_17 ?_
      refine jf_i2b hX dX11_four_18 ?_
      refine jf_bast hX trivial dX11_four_19 (fun u2 => ?_)
      refine jf_aload_n hX dX11_four_20 0 rfl ?_
      refine jf_dup hX dX11_four_21 rfl ?_
      refine jf_getI hX ck_X11 1 wfl_43 (by decide) rfl dX11_four_22 ?_
      refine jf_iconst (v := 1) hX dX11_four_25 (by decide) ?_
      refine jf_iadd hX dX11_four_26 ?_
      refine jf_putI hX trivial ck_X11 1 wfl_43 (by decide) rfl rfl rfl dX11_four_27 (fun u3 => ?_)
      refine jf_iinc (v := -8) (lv' := [(2, .int (x2 + (-8 : Int32))), (0, .ref x0), (1, .int x1)]) hX dX11_four_30 2 rfl (by decide) (by decide) rfl ?_
      refine jf_goto (tgt := 3) hX dX11_four_33 (by decide) ?_
      refine jf_lv [1, 2, 0] rfl ?_
      exact hrec3 x0 x1 (x2 + (-8 : Int32)) u3
set_option maxRecDepth 20000 in
def fX11_four (N : Nat)  (a0 : Nat) (p1 : Int32) (u : SG) : Option (Unit × SG) := gX11_four_3 N  N a0 p1 (24 : Int32) u
set_option maxRecDepth 20000 in
set_option maxHeartbeats 4000000 in
theorem kX11_four  (N : Nat)  (l : Launch) (D : va_G) (cT : Nat → ClassId) (z0 : Nat) (ks : Nat × Nat) (a0 : Nat) (p1 : Int32) (u : SG) : Ct l D cT z0 ks yX11_four cX11_four 3 none 1 0 0 vU [.ref a0, .int p1] u (fX11_four N  a0 p1 u) := by
  unfold fX11_four
  refine ct_of (by decide +kernel) (Nat.le_of_ble_eq_true rfl) (fun p e R s m args below meth c hX => ?_)
  show JF _ True 3 0 0 _ 0 [(0, .ref a0), (1, .int p1)] [] u _
  refine jf_bipush (v := 24) hX dX11_four_0 (by decide) ?_
  refine jf_istore_n (lv' := [(2, .int (24 : Int32)), (0, .ref a0), (1, .int p1)]) hX dX11_four_2 rfl (by decide) rfl ?_
  refine jf_lv [1, 2, 0] rfl ?_
  exact jgX11_four_3 hX N  N a0 p1 (24 : Int32) u
set_option maxRecDepth 20000 in
def fX11_feed (N : Nat)  (a0 : Nat) (p1 : Int32) (p2 : Int32) (p3 : Int32) (p4 : Int32) (p5 : Int32) (u : SG) : Option (Int32 × SG) := if zK u a0 = 12 then (if ((zI u a0 1) + (20 : Int32)) ≤ (400 : Int32) then (if zK u a0 = 12 then cl (fX11_four N a0 p1 u) fun r1 u2 => (if zK u2 a0 = 12 then cl (fX11_four N a0 p2 u2) fun r3 u4 => (if zK u4 a0 = 12 then cl (fX11_four N a0 p3 u4) fun r5 u6 => (if zK u6 a0 = 12 then cl (fX11_four N a0 p4 u6) fun r7 u8 => (if zK u8 a0 = 12 then cl (fX11_four N a0 p5 u8) fun r9 u10 => (if zK u10 a0 = 12 then (some (zI u10 a0 1, u10)) else none) else none) else none) else none) else none) else none)
  else (some ((-1 : Int32), u))) else none
set_option maxRecDepth 20000 in
set_option maxHeartbeats 4000000 in
theorem kX11_feed  (N : Nat)  (l : Launch) (D : va_G) (cT : Nat → ClassId) (z0 : Nat) (ks : Nat × Nat) (a0 : Nat) (p1 : Int32) (p2 : Int32) (p3 : Int32) (p4 : Int32) (p5 : Int32) (u : SG) : Ct l D cT z0 ks yX11_feed cX11_feed 6 (some .int) 2 0 0 vI [.ref a0, .int p1, .int p2, .int p3, .int p4, .int p5] u (fX11_feed N  a0 p1 p2 p3 p4 p5 u) := by
  unfold fX11_feed
  refine ct_of (by decide +kernel) (Nat.le_of_ble_eq_true rfl) (fun p e R s m args below meth c hX => ?_)
  show JF _ True 6 0 0 _ 0 [(0, .ref a0), (1, .int p1), (2, .int p2), (3, .int p3), (4, .int p4), (5, .int p5)] [] u _
  refine jf_aload_n hX dX11_feed_0 0 rfl ?_
  refine jf_getI hX ck_X11 1 wfl_43 (by decide) rfl dX11_feed_1 ?_
  refine jf_bipush (v := 20) hX dX11_feed_4 (by decide) ?_
  refine jf_iadd hX dX11_feed_6 ?_
  refine jf_sipush (v := 400) hX dX11_feed_7 (by decide) ?_
  refine jf_icmp_le (tgt := 15) hX dX11_feed_10 (by decide) ?_ ?_
  · refine jf_aload_n hX dX11_feed_15 0 rfl ?_
    refine jf_iload_n hX dX11_feed_16 1 rfl ?_
    refine jf_callV (As := [.int p1]) (st := []) hX mo_X11_four wml_44 winst_45 wsel_46 11 ck_X11 rfl (fun l D cT z0 ks => kX11_four N l D cT z0 ks a0 p1 u) (by decide) (by decide) (by decide) (by decide) (Nat.le_of_ble_eq_true rfl) rfl rfl dX11_feed_17 (fun r1 u2 => ?_)
    refine jf_aload_n hX dX11_feed_20 0 rfl ?_
    refine jf_iload_n hX dX11_feed_21 2 rfl ?_
    refine jf_callV (As := [.int p2]) (st := []) hX mo_X11_four wml_44 winst_45 wsel_46 11 ck_X11 rfl (fun l D cT z0 ks => kX11_four N l D cT z0 ks a0 p2 u2) (by decide) (by decide) (by decide) (by decide) (Nat.le_of_ble_eq_true rfl) rfl rfl dX11_feed_22 (fun r3 u4 => ?_)
    refine jf_aload_n hX dX11_feed_25 0 rfl ?_
    refine jf_iload_n hX dX11_feed_26 3 rfl ?_
    refine jf_callV (As := [.int p3]) (st := []) hX mo_X11_four wml_44 winst_45 wsel_46 11 ck_X11 rfl (fun l D cT z0 ks => kX11_four N l D cT z0 ks a0 p3 u4) (by decide) (by decide) (by decide) (by decide) (Nat.le_of_ble_eq_true rfl) rfl rfl dX11_feed_27 (fun r5 u6 => ?_)
    refine jf_aload_n hX dX11_feed_30 0 rfl ?_
    refine jf_iload hX dX11_feed_31 4 rfl ?_
    refine jf_callV (As := [.int p4]) (st := []) hX mo_X11_four wml_44 winst_45 wsel_46 11 ck_X11 rfl (fun l D cT z0 ks => kX11_four N l D cT z0 ks a0 p4 u6) (by decide) (by decide) (by decide) (by decide) (Nat.le_of_ble_eq_true rfl) rfl rfl dX11_feed_33 (fun r7 u8 => ?_)
    refine jf_aload_n hX dX11_feed_36 0 rfl ?_
    refine jf_iload hX dX11_feed_37 5 rfl ?_
    refine jf_callV (As := [.int p5]) (st := []) hX mo_X11_four wml_44 winst_45 wsel_46 11 ck_X11 rfl (fun l D cT z0 ks => kX11_four N l D cT z0 ks a0 p5 u8) (by decide) (by decide) (by decide) (by decide) (Nat.le_of_ble_eq_true rfl) rfl rfl dX11_feed_39 (fun r9 u10 => ?_)
    refine jf_aload_n hX dX11_feed_42 0 rfl ?_
    refine jf_getI hX ck_X11 1 wfl_43 (by decide) rfl dX11_feed_43 ?_
    exact jf_iret hX rfl (by decide) (by decide) dX11_feed_46
  · refine jf_iconst (v := -1) hX dX11_feed_13 (by decide) ?_
    exact jf_iret hX rfl (by decide) (by decide) dX11_feed_14
set_option maxRecDepth 20000 in
def fX11_end (N : Nat)  (a0 : Nat) (p1 : Int32) (u : SG) : Option (Int32 × SG) := if p1 < 0 then (some ((-1 : Int32), u))
  else (if zK u a0 = 12 then (if p1 ≤ (zI u a0 1) then (if zK u a0 = 12 then bs (sI u a0 1 p1) fun u1 => (some (p1, u1)) else none)
  else (some ((-1 : Int32), u))) else none)
set_option maxRecDepth 20000 in
set_option maxHeartbeats 4000000 in
theorem kX11_end  (N : Nat)  (l : Launch) (D : va_G) (cT : Nat → ClassId) (z0 : Nat) (ks : Nat × Nat) (a0 : Nat) (p1 : Int32) (u : SG) : Ct l D cT z0 ks yX11_end cX11_end 2 (some .int) 1 0 0 vI [.ref a0, .int p1] u (fX11_end N  a0 p1 u) := by
  unfold fX11_end
  refine ct_of (by decide +kernel) (Nat.le_of_ble_eq_true rfl) (fun p e R s m args below meth c hX => ?_)
  show JF _ True 2 0 0 _ 0 [(0, .ref a0), (1, .int p1)] [] u _
  refine jf_iload_n hX dX11_end_0 1 rfl ?_
  refine jf_if_lt (tgt := 12) hX dX11_end_1 (by decide) ?_ ?_
  · refine jf_iconst (v := -1) hX dX11_end_12 (by decide) ?_
    exact jf_iret hX rfl (by decide) (by decide) dX11_end_13
  · refine jf_iload_n hX dX11_end_4 1 rfl ?_
    refine jf_aload_n hX dX11_end_5 0 rfl ?_
    refine jf_getI hX ck_X11 1 wfl_43 (by decide) rfl dX11_end_6 ?_
    refine jf_icmp_le (tgt := 14) hX dX11_end_9 (by decide) ?_ ?_
    · refine jf_aload_n hX dX11_end_14 0 rfl ?_
      refine jf_iload_n hX dX11_end_15 1 rfl ?_
      refine jf_putI hX trivial ck_X11 1 wfl_43 (by decide) rfl rfl rfl dX11_end_16 (fun u1 => ?_)
      refine jf_iload_n hX dX11_end_19 1 rfl ?_
      exact jf_iret hX rfl (by decide) (by decide) dX11_end_20
    · refine jf_iconst (v := -1) hX dX11_end_12 (by decide) ?_
      exact jf_iret hX rfl (by decide) (by decide) dX11_end_13
set_option maxRecDepth 20000 in
def fX11_fails (N : Nat)  (a0 : Nat) (p1 : Int32) (p2 : Int32) (u : SG) : Option (Int32 × SG) := if zK u a0 = 12 then (if (zI u a0 9) = 0 then (if zK u a0 = 12 then bs (sI u a0 9 (((1 : Int32) + ((8 : Int32) * p2)) + p1)) fun u1 => (some ((0 : Int32), u1)) else none)
  else (some ((0 : Int32), u))) else none
set_option maxRecDepth 20000 in
set_option maxHeartbeats 4000000 in
theorem kX11_fails  (N : Nat)  (l : Launch) (D : va_G) (cT : Nat → ClassId) (z0 : Nat) (ks : Nat × Nat) (a0 : Nat) (p1 : Int32) (p2 : Int32) (u : SG) : Ct l D cT z0 ks yX11_fails cX11_fails 3 (some .boolean) 1 0 0 vI [.ref a0, .int p1, .int p2] u (fX11_fails N  a0 p1 p2 u) := by
  unfold fX11_fails
  refine ct_of (by decide +kernel) (Nat.le_of_ble_eq_true rfl) (fun p e R s m args below meth c hX => ?_)
  show JF _ True 3 0 0 _ 0 [(0, .ref a0), (1, .int p1), (2, .int p2)] [] u _
  refine jf_aload_n hX dX11_fails_0 0 rfl ?_
  refine jf_getI hX ck_X11 9 wfl_47 (by decide) rfl dX11_fails_1 ?_
  refine jf_if_ne (tgt := 19) hX dX11_fails_4 (by decide) ?_ ?_
  · refine jf_iconst (v := 0) hX dX11_fails_19 (by decide) ?_
    exact jf_zretc hX rfl (by decide) (by decide) (by decide) dX11_fails_20
  · refine jf_aload_n hX dX11_fails_7 0 rfl ?_
    refine jf_iconst (v := 1) hX dX11_fails_8 (by decide) ?_
    refine jf_bipush (v := 8) hX dX11_fails_9 (by decide) ?_
    refine jf_iload_n hX dX11_fails_11 2 rfl ?_
    refine jf_imul hX dX11_fails_12 ?_
    refine jf_iadd hX dX11_fails_13 ?_
    refine jf_iload_n hX dX11_fails_14 1 rfl ?_
    refine jf_iadd hX dX11_fails_15 ?_
    refine jf_putI hX trivial ck_X11 9 wfl_47 (by decide) rfl rfl rfl dX11_fails_16 (fun u1 => ?_)
    refine jf_iconst (v := 0) hX dX11_fails_19 (by decide) ?_
    exact jf_zretc hX rfl (by decide) (by decide) (by decide) dX11_fails_20
set_option maxRecDepth 20000 in
def gX11_see_38 (N : Nat)   (x0 : Nat) (u : SG) : Option (Int32 × SG) := if zK u x0 = 12 then (if zK u x0 = 12 then (if (zI u x0 1) ≤ (zI u x0 8) then (some ((-1 : Int32), u))
  else (if zK u x0 = 12 then (Option.bind (zR u x0 0) fun q1 => (if zK u x0 = 12 then (if zK u q1 = 21 then if (zI u x0 8) < 0 ∨ zN u q1 ≤ (zI u x0 8).toNatClampNeg then none else (some ((zI u q1 (zI u x0 8).toNatClampNeg) &&& (255 : Int32), u)) else none) else none)) else none)) else none) else none
set_option maxRecDepth 20000 in
set_option maxHeartbeats 4000000 in
theorem jgX11_see_38   {X : XT} (hX : Cx X yX11_see cX11_see 1 (some .int) 1 0 0) (N : Nat)  (x0 : Nat) (u : SG) : JF X True 1 0 0 (jQ X vI 0 0) 38 [(0, .ref x0)] [] u (gX11_see_38 N   x0 u) := by
  unfold gX11_see_38
  refine jf_aload_n hX dX11_see_38 0 rfl ?_
  refine jf_getI hX ck_X11 8 wfl_48 (by decide) rfl dX11_see_39 ?_
  refine jf_aload_n hX dX11_see_42 0 rfl ?_
  refine jf_getI hX ck_X11 1 wfl_43 (by decide) rfl dX11_see_43 ?_
  refine jf_icmp_ge (tgt := 65) hX dX11_see_46 (by decide) ?_ ?_
  · refine jf_iconst (v := -1) hX dX11_see_65 (by decide) ?_
    exact jf_iret hX rfl (by decide) (by decide) dX11_see_66
  · refine jf_aload_n hX dX11_see_49 0 rfl ?_
    refine jf_getR hX ck_X11 0 wfl_20 (by decide) rfl dX11_see_50 ?_
    refine jf_nn (fun q1 => ?_)
    refine jf_aload_n hX dX11_see_53 0 rfl ?_
    refine jf_getI hX ck_X11 8 wfl_48 (by decide) rfl dX11_see_54 ?_
    refine jf_bald hX dX11_see_57 ?_
    refine jf_sipush (v := 255) hX dX11_see_58 (by decide) ?_
    refine jf_iand hX dX11_see_61 ?_
    refine jf_goto (tgt := 66) hX dX11_see_62 (by decide) ?_
    exact jf_iret hX rfl (by decide) (by decide) dX11_see_66
set_option maxRecDepth 20000 in
def gX11_see_0 (N : Nat)   : Nat → Nat → SG → Option (Int32 × SG)
  | 0, _, _ => none
  | n + 1, x0, u => if zK u x0 = 12 then (if zK u x0 = 12 then (if (zI u x0 1) ≤ (zI u x0 8) then (gX11_see_38 N  x0 u)
  else (if zK u x0 = 12 then (Option.bind (zR u x0 0) fun q1 => (if zK u x0 = 12 then (if zK u q1 = 21 then if (zI u x0 8) < 0 ∨ zN u q1 ≤ (zI u x0 8).toNatClampNeg then none else (if (zI u q1 (zI u x0 8).toNatClampNeg) = (32 : Int32) then (if zK u x0 = 12 then (if zK u x0 = 12 then bs (sI u x0 8 ((zI u x0 8) + (1 : Int32))) fun u2 => ((gX11_see_0 N  n) x0 u2) else none) else none)
  else (gX11_see_38 N  x0 u)) else none) else none)) else none)) else none) else none
set_option maxRecDepth 20000 in
set_option maxHeartbeats 4000000 in
theorem jgX11_see_0   {X : XT} (hX : Cx X yX11_see cX11_see 1 (some .int) 1 0 0) (N : Nat)  : ∀ (n : Nat) (x0 : Nat) (u : SG), JF X True 1 0 0 (jQ X vI 0 0) 0 [(0, .ref x0)] [] u (gX11_see_0 N   n x0 u) := by
  intro n
  induction n with
  | zero => intros; intro r u9 h9; exact absurd h9 (by simp [gX11_see_0])
  | succ n ih =>
    intro x0 u
    have hrec0 := ih
    rw [gX11_see_0]
    refine jf_aload_n hX dX11_see_0 0 rfl ?_
    refine jf_getI hX ck_X11 8 wfl_48 (by decide) rfl dX11_see_1 ?_
    refine jf_aload_n hX dX11_see_4 0 rfl ?_
    refine jf_getI hX ck_X11 1 wfl_43 (by decide) rfl dX11_see_5 ?_
    refine jf_icmp_ge (tgt := 38) hX dX11_see_8 (by decide) ?_ ?_
    · refine jf_lv [0] rfl ?_
      exact jgX11_see_38 hX N  x0 u
    · refine jf_aload_n hX dX11_see_11 0 rfl ?_
      refine jf_getR hX ck_X11 0 wfl_20 (by decide) rfl dX11_see_12 ?_
      refine jf_nn (fun q1 => ?_)
      refine jf_aload_n hX dX11_see_15 0 rfl ?_
      refine jf_getI hX ck_X11 8 wfl_48 (by decide) rfl dX11_see_16 ?_
      refine jf_bald hX dX11_see_19 ?_
      refine jf_bipush (v := 32) hX dX11_see_20 (by decide) ?_
      refine jf_icmp_ne (tgt := 38) hX dX11_see_22 (by decide) ?_ ?_
      · refine jf_lv [0] rfl ?_
        exact jgX11_see_38 hX N  x0 u
      · refine jf_aload_n hX dX11_see_25 0 rfl ?_
        refine jf_dup hX dX11_see_26 rfl ?_
        refine jf_getI hX ck_X11 8 wfl_48 (by decide) rfl dX11_see_27 ?_
        refine jf_iconst (v := 1) hX dX11_see_30 (by decide) ?_
        refine jf_iadd hX dX11_see_31 ?_
        refine jf_putI hX trivial ck_X11 8 wfl_48 (by decide) rfl rfl rfl dX11_see_32 (fun u2 => ?_)
        refine jf_goto (tgt := 0) hX dX11_see_35 (by decide) ?_
        refine jf_lv [0] rfl ?_
        exact hrec0 x0 u2
set_option maxRecDepth 20000 in
def fX11_see (N : Nat)  (a0 : Nat) (u : SG) : Option (Int32 × SG) := gX11_see_0 N  N a0 u
set_option maxRecDepth 20000 in
set_option maxHeartbeats 4000000 in
theorem kX11_see  (N : Nat)  (l : Launch) (D : va_G) (cT : Nat → ClassId) (z0 : Nat) (ks : Nat × Nat) (a0 : Nat) (u : SG) : Ct l D cT z0 ks yX11_see cX11_see 1 (some .int) 1 0 0 vI [.ref a0] u (fX11_see N  a0 u) := by
  unfold fX11_see
  refine ct_of (by decide +kernel) (Nat.le_of_ble_eq_true rfl) (fun p e R s m args below meth c hX => ?_)
  show JF _ True 1 0 0 _ 0 [(0, .ref a0)] [] u _
  refine jf_lv [0] rfl ?_
  exact jgX11_see_0 hX N  N a0 u
set_option maxRecDepth 20000 in
def fX11_isDigit (N : Nat)  (a0 : Nat) (p1 : Int32) (u : SG) : Option (Int32 × SG) := if zK u a0 = 12 then (if (zI u a0 1) ≤ p1 then (some ((0 : Int32), u))
  else (if zK u a0 = 12 then (Option.bind (zR u a0 0) fun q1 => (if zK u q1 = 21 then if p1 < 0 ∨ zN u q1 ≤ p1.toNatClampNeg then none else (if (zI u q1 p1.toNatClampNeg) < (48 : Int32) then (some ((0 : Int32), u))
  else (if zK u a0 = 12 then (Option.bind (zR u a0 0) fun q2 => (if zK u q2 = 21 then if p1 < 0 ∨ zN u q2 ≤ p1.toNatClampNeg then none else (if (57 : Int32) < (zI u q2 p1.toNatClampNeg) then (some ((0 : Int32), u))
  else (some ((1 : Int32), u))) else none)) else none)) else none)) else none)) else none
set_option maxRecDepth 20000 in
set_option maxHeartbeats 4000000 in
theorem kX11_isDigit  (N : Nat)  (l : Launch) (D : va_G) (cT : Nat → ClassId) (z0 : Nat) (ks : Nat × Nat) (a0 : Nat) (p1 : Int32) (u : SG) : Ct l D cT z0 ks yX11_isDigit cX11_isDigit 2 (some .boolean) 1 0 0 vI [.ref a0, .int p1] u (fX11_isDigit N  a0 p1 u) := by
  unfold fX11_isDigit
  refine ct_of (by decide +kernel) (Nat.le_of_ble_eq_true rfl) (fun p e R s m args below meth c hX => ?_)
  show JF _ True 2 0 0 _ 0 [(0, .ref a0), (1, .int p1)] [] u _
  refine jf_iload_n hX dX11_isDigit_0 1 rfl ?_
  refine jf_aload_n hX dX11_isDigit_1 0 rfl ?_
  refine jf_getI hX ck_X11 1 wfl_43 (by decide) rfl dX11_isDigit_2 ?_
  refine jf_icmp_ge (tgt := 34) hX dX11_isDigit_5 (by decide) ?_ ?_
  · refine jf_iconst (v := 0) hX dX11_isDigit_34 (by decide) ?_
    exact jf_zretc hX rfl (by decide) (by decide) (by decide) dX11_isDigit_35
  · refine jf_aload_n hX dX11_isDigit_8 0 rfl ?_
    refine jf_getR hX ck_X11 0 wfl_20 (by decide) rfl dX11_isDigit_9 ?_
    refine jf_nn (fun q1 => ?_)
    refine jf_iload_n hX dX11_isDigit_12 1 rfl ?_
    refine jf_bald hX dX11_isDigit_13 ?_
    refine jf_bipush (v := 48) hX dX11_isDigit_14 (by decide) ?_
    refine jf_icmp_lt (tgt := 34) hX dX11_isDigit_16 (by decide) ?_ ?_
    · refine jf_iconst (v := 0) hX dX11_isDigit_34 (by decide) ?_
      exact jf_zretc hX rfl (by decide) (by decide) (by decide) dX11_isDigit_35
    · refine jf_aload_n hX dX11_isDigit_19 0 rfl ?_
      refine jf_getR hX ck_X11 0 wfl_20 (by decide) rfl dX11_isDigit_20 ?_
      refine jf_nn (fun q2 => ?_)
      refine jf_iload_n hX dX11_isDigit_23 1 rfl ?_
      refine jf_bald hX dX11_isDigit_24 ?_
      refine jf_bipush (v := 57) hX dX11_isDigit_25 (by decide) ?_
      refine jf_icmp_gt (tgt := 34) hX dX11_isDigit_27 (by decide) ?_ ?_
      · refine jf_iconst (v := 0) hX dX11_isDigit_34 (by decide) ?_
        exact jf_zretc hX rfl (by decide) (by decide) (by decide) dX11_isDigit_35
      · refine jf_iconst (v := 1) hX dX11_isDigit_30 (by decide) ?_
        refine jf_goto (tgt := 35) hX dX11_isDigit_31 (by decide) ?_
        exact jf_zretc hX rfl (by decide) (by decide) (by decide) dX11_isDigit_35
set_option maxRecDepth 20000 in
def fX11_isLetter (N : Nat)  (a0 : Nat) (p1 : Int32) (u : SG) : Option (Int32 × SG) := if zK u a0 = 12 then (if (zI u a0 1) ≤ p1 then (some ((0 : Int32), u))
  else (if zK u a0 = 12 then (Option.bind (zR u a0 0) fun q1 => (if zK u q1 = 21 then if p1 < 0 ∨ zN u q1 ≤ p1.toNatClampNeg then none else (if (zI u q1 p1.toNatClampNeg) < (97 : Int32) then (some ((0 : Int32), u))
  else (if zK u a0 = 12 then (Option.bind (zR u a0 0) fun q2 => (if zK u q2 = 21 then if p1 < 0 ∨ zN u q2 ≤ p1.toNatClampNeg then none else (if (122 : Int32) < (zI u q2 p1.toNatClampNeg) then (some ((0 : Int32), u))
  else (some ((1 : Int32), u))) else none)) else none)) else none)) else none)) else none
set_option maxRecDepth 20000 in
set_option maxHeartbeats 4000000 in
theorem kX11_isLetter  (N : Nat)  (l : Launch) (D : va_G) (cT : Nat → ClassId) (z0 : Nat) (ks : Nat × Nat) (a0 : Nat) (p1 : Int32) (u : SG) : Ct l D cT z0 ks yX11_isLetter cX11_isLetter 2 (some .boolean) 1 0 0 vI [.ref a0, .int p1] u (fX11_isLetter N  a0 p1 u) := by
  unfold fX11_isLetter
  refine ct_of (by decide +kernel) (Nat.le_of_ble_eq_true rfl) (fun p e R s m args below meth c hX => ?_)
  show JF _ True 2 0 0 _ 0 [(0, .ref a0), (1, .int p1)] [] u _
  refine jf_iload_n hX dX11_isLetter_0 1 rfl ?_
  refine jf_aload_n hX dX11_isLetter_1 0 rfl ?_
  refine jf_getI hX ck_X11 1 wfl_43 (by decide) rfl dX11_isLetter_2 ?_
  refine jf_icmp_ge (tgt := 34) hX dX11_isLetter_5 (by decide) ?_ ?_
  · refine jf_iconst (v := 0) hX dX11_isLetter_34 (by decide) ?_
    exact jf_zretc hX rfl (by decide) (by decide) (by decide) dX11_isLetter_35
  · refine jf_aload_n hX dX11_isLetter_8 0 rfl ?_
    refine jf_getR hX ck_X11 0 wfl_20 (by decide) rfl dX11_isLetter_9 ?_
    refine jf_nn (fun q1 => ?_)
    refine jf_iload_n hX dX11_isLetter_12 1 rfl ?_
    refine jf_bald hX dX11_isLetter_13 ?_
    refine jf_bipush (v := 97) hX dX11_isLetter_14 (by decide) ?_
    refine jf_icmp_lt (tgt := 34) hX dX11_isLetter_16 (by decide) ?_ ?_
    · refine jf_iconst (v := 0) hX dX11_isLetter_34 (by decide) ?_
      exact jf_zretc hX rfl (by decide) (by decide) (by decide) dX11_isLetter_35
    · refine jf_aload_n hX dX11_isLetter_19 0 rfl ?_
      refine jf_getR hX ck_X11 0 wfl_20 (by decide) rfl dX11_isLetter_20 ?_
      refine jf_nn (fun q2 => ?_)
      refine jf_iload_n hX dX11_isLetter_23 1 rfl ?_
      refine jf_bald hX dX11_isLetter_24 ?_
      refine jf_bipush (v := 122) hX dX11_isLetter_25 (by decide) ?_
      refine jf_icmp_gt (tgt := 34) hX dX11_isLetter_27 (by decide) ?_ ?_
      · refine jf_iconst (v := 0) hX dX11_isLetter_34 (by decide) ?_
        exact jf_zretc hX rfl (by decide) (by decide) (by decide) dX11_isLetter_35
      · refine jf_iconst (v := 1) hX dX11_isLetter_30 (by decide) ?_
        refine jf_goto (tgt := 35) hX dX11_isLetter_31 (by decide) ?_
        exact jf_zretc hX rfl (by decide) (by decide) (by decide) dX11_isLetter_35
set_option maxRecDepth 20000 in
def gX11_isWord_10 (N : Nat)   : Nat → Nat → Int64 → Int64 → Int32 → SG → Option (Int32 × SG)
  | 0, _, _, _, _, _ => none
  | n + 1, x0, x1, x3, x5, u => if zK u x0 = 12 then (if zK u x0 = 12 then cl (fX11_isLetter N x0 ((zI u x0 8) + x5) u) fun r1 u2 => (if r1 = 0 then (if x5 ≤ 0 then (some ((0 : Int32), u2))
  else (if (8 : Int32) ≤ x5 then (some ((0 : Int32), u2))
  else (if (lg_cmp x3 x1) = 0 then (some ((1 : Int32), u2))
  else (some ((0 : Int32), u2)))))
  else (if (8 : Int32) ≤ x5 then ((gX11_isWord_10 N  n) x0 x1 x3 (x5 + (1 : Int32)) u2)
  else (if zK u2 x0 = 12 then (Option.bind (zR u2 x0 0) fun q3 => (if zK u2 x0 = 12 then (if zK u2 q3 = 21 then if ((zI u2 x0 8) + x5) < 0 ∨ zN u2 q3 ≤ ((zI u2 x0 8) + x5).toNatClampNeg then none else (bs ((x3 <<< ((8 : Int32).toInt64 &&& 63)) ||| ((zI u2 q3 ((zI u2 x0 8) + x5).toNatClampNeg).toInt64)) fun v4 => ((gX11_isWord_10 N  n) x0 x1 v4 (x5 + (1 : Int32)) u2)) else none) else none)) else none))) else none) else none
set_option maxRecDepth 20000 in
set_option maxHeartbeats 4000000 in
theorem jgX11_isWord_10   {X : XT} (hX : Cx X yX11_isWord cX11_isWord 6 (some .boolean) 2 0 0) (N : Nat)  : ∀ (n : Nat) (x0 : Nat) (x1 : Int64) (x3 : Int64) (x5 : Int32) (u : SG), JF X True 6 0 0 (jQ X vI 0 0) 10 [(0, .ref x0), (1, .long x1), (3, .long x3), (5, .int x5)] [] u (gX11_isWord_10 N   n x0 x1 x3 x5 u) := by
  intro n
  induction n with
  | zero => intros; intro r u9 h9; exact absurd h9 (by simp [gX11_isWord_10])
  | succ n ih =>
    intro x0 x1 x3 x5 u
    have hrec10 := ih
    rw [gX11_isWord_10]
    refine jf_aload_n hX dX11_isWord_10 0 rfl ?_
    refine jf_aload_n hX dX11_isWord_11 0 rfl ?_
    refine jf_getI hX ck_X11 8 wfl_48 (by decide) rfl dX11_isWord_12 ?_
    refine jf_iload hX dX11_isWord_15 3 rfl ?_
    refine jf_iadd hX dX11_isWord_17 ?_
    refine jf_callV (As := [.int ((zI u x0 8) + x5)]) (st := []) hX mo_X11_isLetter wml_52 winst_53 wsel_54 11 ck_X11 rfl (fun l D cT z0 ks => kX11_isLetter N l D cT z0 ks x0 ((zI u x0 8) + x5) u) (by decide) (by decide) (by decide) (by decide) (Nat.le_of_ble_eq_true rfl) rfl rfl dX11_isWord_18 (fun r1 u2 => ?_)
    refine jf_if_eq (tgt := 56) hX dX11_isWord_21 (by decide) ?_ ?_
    · refine jf_iload hX dX11_isWord_56 3 rfl ?_
      refine jf_if_le (tgt := 78) hX dX11_isWord_58 (by decide) ?_ ?_
      · refine jf_iconst (v := 0) hX dX11_isWord_78 (by decide) ?_
        exact jf_zretc hX rfl (by decide) (by decide) (by decide) dX11_isWord_79
      · refine jf_iload hX dX11_isWord_61 3 rfl ?_
        refine jf_bipush (v := 8) hX dX11_isWord_63 (by decide) ?_
        refine jf_icmp_ge (tgt := 78) hX dX11_isWord_65 (by decide) ?_ ?_
        · refine jf_iconst (v := 0) hX dX11_isWord_78 (by decide) ?_
          exact jf_zretc hX rfl (by decide) (by decide) (by decide) dX11_isWord_79
        · refine jf_lload_n hX dX11_isWord_68 2 rfl ?_
          refine jf_lload_n hX dX11_isWord_69 1 rfl ?_
          refine jf_lcmp hX dX11_isWord_70 ?_
          refine jf_if_ne (tgt := 78) hX dX11_isWord_71 (by decide) ?_ ?_
          · refine jf_iconst (v := 0) hX dX11_isWord_78 (by decide) ?_
            exact jf_zretc hX rfl (by decide) (by decide) (by decide) dX11_isWord_79
          · refine jf_iconst (v := 1) hX dX11_isWord_74 (by decide) ?_
            refine jf_goto (tgt := 79) hX dX11_isWord_75 (by decide) ?_
            exact jf_zretc hX rfl (by decide) (by decide) (by decide) dX11_isWord_79
    · refine jf_iload hX dX11_isWord_24 3 rfl ?_
      refine jf_bipush (v := 8) hX dX11_isWord_26 (by decide) ?_
      refine jf_icmp_ge (tgt := 50) hX dX11_isWord_28 (by decide) ?_ ?_
      · refine jf_iinc (v := 1) (lv' := [(5, .int (x5 + (1 : Int32))), (0, .ref x0), (1, .long x1), (3, .long x3)]) hX dX11_isWord_50 3 rfl (by decide) (by decide) rfl ?_
        refine jf_goto (tgt := 10) hX dX11_isWord_53 (by decide) ?_
        refine jf_lv [1, 2, 3, 0] rfl ?_
        exact hrec10 x0 x1 x3 (x5 + (1 : Int32)) u2
      · refine jf_lload_n hX dX11_isWord_31 2 rfl ?_
        refine jf_bipush (v := 8) hX dX11_isWord_32 (by decide) ?_
        refine jf_lshl hX dX11_isWord_34 ?_
        refine jf_aload_n hX dX11_isWord_35 0 rfl ?_
        refine jf_getR hX ck_X11 0 wfl_20 (by decide) rfl dX11_isWord_36 ?_
        refine jf_nn (fun q3 => ?_)
        refine jf_aload_n hX dX11_isWord_39 0 rfl ?_
        refine jf_getI hX ck_X11 8 wfl_48 (by decide) rfl dX11_isWord_40 ?_
        refine jf_iload hX dX11_isWord_43 3 rfl ?_
        refine jf_iadd hX dX11_isWord_45 ?_
        refine jf_bald hX dX11_isWord_46 ?_
        refine jf_i2l hX dX11_isWord_47 ?_
        refine jf_lor hX dX11_isWord_48 ?_
        refine jf_nmL (fun v4 => ?_)
        refine jf_lstore_n (lv' := [(3, .long v4), (0, .ref x0), (1, .long x1), (5, .int x5)]) hX dX11_isWord_49 rfl (by decide) rfl ?_
        refine jf_iinc (v := 1) (lv' := [(5, .int (x5 + (1 : Int32))), (3, .long v4), (0, .ref x0), (1, .long x1)]) hX dX11_isWord_50 3 rfl (by decide) (by decide) rfl ?_
        refine jf_goto (tgt := 10) hX dX11_isWord_53 (by decide) ?_
        refine jf_lv [2, 3, 1, 0] rfl ?_
        exact hrec10 x0 x1 v4 (x5 + (1 : Int32)) u2
set_option maxRecDepth 20000 in
def fX11_isWord (N : Nat)  (a0 : Nat) (p1 : Int64) (u : SG) : Option (Int32 × SG) := if zK u a0 = 12 then cl (fX11_see N a0 u) fun r1 u2 => (gX11_isWord_10 N  N a0 p1 (0 : Int64) (0 : Int32) u2) else none
set_option maxRecDepth 20000 in
set_option maxHeartbeats 4000000 in
theorem kX11_isWord  (N : Nat)  (l : Launch) (D : va_G) (cT : Nat → ClassId) (z0 : Nat) (ks : Nat × Nat) (a0 : Nat) (p1 : Int64) (u : SG) : Ct l D cT z0 ks yX11_isWord cX11_isWord 6 (some .boolean) 2 0 0 vI [.ref a0, .long p1] u (fX11_isWord N  a0 p1 u) := by
  unfold fX11_isWord
  refine ct_of (by decide +kernel) (Nat.le_of_ble_eq_true rfl) (fun p e R s m args below meth c hX => ?_)
  show JF _ True 6 0 0 _ 0 [(0, .ref a0), (1, .long p1)] [] u _
  refine jf_aload_n hX dX11_isWord_0 0 rfl ?_
  refine jf_callV (As := []) (st := []) hX mo_X11_see wml_49 winst_50 wsel_51 11 ck_X11 rfl (fun l D cT z0 ks => kX11_see N l D cT z0 ks a0 u) (by decide) (by decide) (by decide) (by decide) (Nat.le_of_ble_eq_true rfl) rfl rfl dX11_isWord_1 (fun r1 u2 => ?_)
  refine jf_pop hX dX11_isWord_4 rfl ?_
  refine jf_lconst (v := 0) hX dX11_isWord_5 (by decide) ?_
  refine jf_lstore_n (lv' := [(3, .long (0 : Int64)), (0, .ref a0), (1, .long p1)]) hX dX11_isWord_6 rfl (by decide) rfl ?_
  refine jf_iconst (v := 0) hX dX11_isWord_7 (by decide) ?_
  refine jf_istore (lv' := [(5, .int (0 : Int32)), (3, .long (0 : Int64)), (0, .ref a0), (1, .long p1)]) hX dX11_isWord_8 (by decide) rfl ?_
  refine jf_lv [2, 3, 1, 0] rfl ?_
  exact jgX11_isWord_10 hX N  N a0 p1 (0 : Int64) (0 : Int32) u2
set_option maxRecDepth 20000 in
def gX11_passWord_0 (N : Nat)   : Nat → Nat → SG → Option (Unit × SG)
  | 0, _, _ => none
  | n + 1, x0, u => if zK u x0 = 12 then (if zK u x0 = 12 then cl (fX11_isLetter N x0 (zI u x0 8) u) fun r1 u2 => (if r1 = 0 then (some ((), u2))
  else (if zK u2 x0 = 12 then (if zK u2 x0 = 12 then bs (sI u2 x0 8 ((zI u2 x0 8) + (1 : Int32))) fun u3 => ((gX11_passWord_0 N  n) x0 u3) else none) else none)) else none) else none
set_option maxRecDepth 20000 in
set_option maxHeartbeats 4000000 in
theorem jgX11_passWord_0   {X : XT} (hX : Cx X yX11_passWord cX11_passWord 1 none 2 0 0) (N : Nat)  : ∀ (n : Nat) (x0 : Nat) (u : SG), JF X True 1 0 0 (jQ X vU 0 0) 0 [(0, .ref x0)] [] u (gX11_passWord_0 N   n x0 u) := by
  intro n
  induction n with
  | zero => intros; intro r u9 h9; exact absurd h9 (by simp [gX11_passWord_0])
  | succ n ih =>
    intro x0 u
    have hrec0 := ih
    rw [gX11_passWord_0]
    refine jf_aload_n hX dX11_passWord_0 0 rfl ?_
    refine jf_aload_n hX dX11_passWord_1 0 rfl ?_
    refine jf_getI hX ck_X11 8 wfl_48 (by decide) rfl dX11_passWord_2 ?_
    refine jf_callV (As := [.int (zI u x0 8)]) (st := []) hX mo_X11_isLetter wml_52 winst_53 wsel_54 11 ck_X11 rfl (fun l D cT z0 ks => kX11_isLetter N l D cT z0 ks x0 (zI u x0 8) u) (by decide) (by decide) (by decide) (by decide) (Nat.le_of_ble_eq_true rfl) rfl rfl dX11_passWord_5 (fun r1 u2 => ?_)
    refine jf_if_eq (tgt := 24) hX dX11_passWord_8 (by decide) ?_ ?_
    · exact jf_vret hX rfl (by decide) (by decide) dX11_passWord_24
    · refine jf_aload_n hX dX11_passWord_11 0 rfl ?_
      refine jf_dup hX dX11_passWord_12 rfl ?_
      refine jf_getI hX ck_X11 8 wfl_48 (by decide) rfl dX11_passWord_13 ?_
      refine jf_iconst (v := 1) hX dX11_passWord_16 (by decide) ?_
      refine jf_iadd hX dX11_passWord_17 ?_
      refine jf_putI hX trivial ck_X11 8 wfl_48 (by decide) rfl rfl rfl dX11_passWord_18 (fun u3 => ?_)
      refine jf_goto (tgt := 0) hX dX11_passWord_21 (by decide) ?_
      refine jf_lv [0] rfl ?_
      exact hrec0 x0 u3
set_option maxRecDepth 20000 in
def fX11_passWord (N : Nat)  (a0 : Nat) (u : SG) : Option (Unit × SG) := gX11_passWord_0 N  N a0 u
set_option maxRecDepth 20000 in
set_option maxHeartbeats 4000000 in
theorem kX11_passWord  (N : Nat)  (l : Launch) (D : va_G) (cT : Nat → ClassId) (z0 : Nat) (ks : Nat × Nat) (a0 : Nat) (u : SG) : Ct l D cT z0 ks yX11_passWord cX11_passWord 1 none 2 0 0 vU [.ref a0] u (fX11_passWord N  a0 u) := by
  unfold fX11_passWord
  refine ct_of (by decide +kernel) (Nat.le_of_ble_eq_true rfl) (fun p e R s m args below meth c hX => ?_)
  show JF _ True 1 0 0 _ 0 [(0, .ref a0)] [] u _
  refine jf_lv [0] rfl ?_
  exact jgX11_passWord_0 hX N  N a0 u
set_option maxRecDepth 20000 in
def fX11_takesWord (N : Nat)  (a0 : Nat) (p1 : Int64) (u : SG) : Option (Int32 × SG) := if zK u a0 = 12 then cl (fX11_isWord N a0 p1 u) fun r1 u2 => (if r1 = 0 then (some ((0 : Int32), u2))
  else (if zK u2 a0 = 12 then cl (fX11_passWord N a0 u2) fun r3 u4 => (some ((1 : Int32), u4)) else none)) else none
set_option maxRecDepth 20000 in
set_option maxHeartbeats 4000000 in
theorem kX11_takesWord  (N : Nat)  (l : Launch) (D : va_G) (cT : Nat → ClassId) (z0 : Nat) (ks : Nat × Nat) (a0 : Nat) (p1 : Int64) (u : SG) : Ct l D cT z0 ks yX11_takesWord cX11_takesWord 3 (some .boolean) 3 0 0 vI [.ref a0, .long p1] u (fX11_takesWord N  a0 p1 u) := by
  unfold fX11_takesWord
  refine ct_of (by decide +kernel) (Nat.le_of_ble_eq_true rfl) (fun p e R s m args below meth c hX => ?_)
  show JF _ True 3 0 0 _ 0 [(0, .ref a0), (1, .long p1)] [] u _
  refine jf_aload_n hX dX11_takesWord_0 0 rfl ?_
  refine jf_lload_n hX dX11_takesWord_1 1 rfl ?_
  refine jf_callV (As := [.long p1]) (st := []) hX mo_X11_isWord wml_55 winst_56 wsel_57 11 ck_X11 rfl (fun l D cT z0 ks => kX11_isWord N l D cT z0 ks a0 p1 u) (by decide) (by decide) (by decide) (by decide) (Nat.le_of_ble_eq_true rfl) rfl rfl dX11_takesWord_2 (fun r1 u2 => ?_)
  refine jf_if_ne (tgt := 10) hX dX11_takesWord_5 (by decide) ?_ ?_
  · refine jf_aload_n hX dX11_takesWord_10 0 rfl ?_
    refine jf_callV (As := []) (st := []) hX mo_X11_passWord wml_58 winst_59 wsel_60 11 ck_X11 rfl (fun l D cT z0 ks => kX11_passWord N l D cT z0 ks a0 u2) (by decide) (by decide) (by decide) (by decide) (Nat.le_of_ble_eq_true rfl) rfl rfl dX11_takesWord_11 (fun r3 u4 => ?_)
    refine jf_iconst (v := 1) hX dX11_takesWord_14 (by decide) ?_
    exact jf_zretc hX rfl (by decide) (by decide) (by decide) dX11_takesWord_15
  · refine jf_iconst (v := 0) hX dX11_takesWord_8 (by decide) ?_
    exact jf_zretc hX rfl (by decide) (by decide) (by decide) dX11_takesWord_9
set_option maxRecDepth 20000 in
def gX11_numberHere_117 (N : Nat)   (x0 : Nat) (x3 : Int32) (u : SG) : Option (Int32 × SG) := if zK u x0 = 12 then cl (fX11_fails N x0 (1 : Int32) x3 u) fun r1 u2 => (if r1 = 0 then (some ((0 : Int32), u2))
  else (some ((1 : Int32), u2))) else none
set_option maxRecDepth 20000 in
set_option maxHeartbeats 4000000 in
theorem jgX11_numberHere_117   {X : XT} (hX : Cx X yX11_numberHere cX11_numberHere 5 (some .boolean) 2 0 0) (N : Nat)  (x0 : Nat) (x3 : Int32) (u : SG) : JF X True 5 0 0 (jQ X vI 0 0) 117 [(0, .ref x0), (3, .int x3)] [] u (gX11_numberHere_117 N   x0 x3 u) := by
  unfold gX11_numberHere_117
  refine jf_aload_n hX dX11_numberHere_117 0 rfl ?_
  refine jf_iconst (v := 1) hX dX11_numberHere_118 (by decide) ?_
  refine jf_iload_n hX dX11_numberHere_119 1 rfl ?_
  refine jf_callV (As := [.int (1 : Int32), .int x3]) (st := []) hX mo_X11_fails wml_64 winst_65 wsel_66 11 ck_X11 rfl (fun l D cT z0 ks => kX11_fails N l D cT z0 ks x0 (1 : Int32) x3 u) (by decide) (by decide) (by decide) (by decide) (Nat.le_of_ble_eq_true rfl) rfl rfl dX11_numberHere_120 (fun r1 u2 => ?_)
  refine jf_if_eq (tgt := 130) hX dX11_numberHere_123 (by decide) ?_ ?_
  · refine jf_iconst (v := 0) hX dX11_numberHere_130 (by decide) ?_
    exact jf_zretc hX rfl (by decide) (by decide) (by decide) dX11_numberHere_131
  · refine jf_iconst (v := 1) hX dX11_numberHere_126 (by decide) ?_
    refine jf_goto (tgt := 131) hX dX11_numberHere_127 (by decide) ?_
    exact jf_zretc hX rfl (by decide) (by decide) (by decide) dX11_numberHere_131
set_option maxRecDepth 20000 in
def gX11_numberHere_34 (N : Nat)   : Nat → Nat → Int32 → Int32 → Int32 → Int32 → SG → Option (Int32 × SG)
  | 0, _, _, _, _, _, _ => none
  | n + 1, x0, x1, x2, x3, x4, u => if zK u x0 = 12 then (if zK u x0 = 12 then cl (fX11_isDigit N x0 (zI u x0 8) u) fun r1 u2 => (if r1 = 0 then (if zK u2 x0 = 12 then bs (sI u2 x0 10 x4) fun u3 => (if zK u3 x0 = 12 then (if (5 : Int32) < ((zI u3 x0 8) - x3) then (gX11_numberHere_117 N  x0 x3 u3)
  else (cl (fX11_in N x4.toInt64 x1.toInt64 x2.toInt64 u3) fun r4 u5 => (if r4 = 0 then (gX11_numberHere_117 N  x0 x3 u5)
  else (some ((1 : Int32), u5))))) else none) else none)
  else (if zK u2 x0 = 12 then (if (5 : Int32) ≤ ((zI u2 x0 8) - x3) then (if zK u2 x0 = 12 then (if zK u2 x0 = 12 then bs (sI u2 x0 8 ((zI u2 x0 8) + (1 : Int32))) fun u6 => ((gX11_numberHere_34 N  n) x0 x1 x2 x3 x4 u6) else none) else none)
  else (if zK u2 x0 = 12 then (Option.bind (zR u2 x0 0) fun q7 => (if zK u2 x0 = 12 then (if zK u2 q7 = 21 then if (zI u2 x0 8) < 0 ∨ zN u2 q7 ≤ (zI u2 x0 8).toNatClampNeg then none else (bs ((((10 : Int32) * x4) + (zI u2 q7 (zI u2 x0 8).toNatClampNeg)) - (48 : Int32)) fun v8 => (if zK u2 x0 = 12 then (if zK u2 x0 = 12 then bs (sI u2 x0 8 ((zI u2 x0 8) + (1 : Int32))) fun u9 => ((gX11_numberHere_34 N  n) x0 x1 x2 x3 v8 u9) else none) else none)) else none) else none)) else none)) else none)) else none) else none
set_option maxRecDepth 20000 in
set_option maxHeartbeats 4000000 in
theorem jgX11_numberHere_34   {X : XT} (hX : Cx X yX11_numberHere cX11_numberHere 5 (some .boolean) 2 0 0) (N : Nat)  : ∀ (n : Nat) (x0 : Nat) (x1 : Int32) (x2 : Int32) (x3 : Int32) (x4 : Int32) (u : SG), JF X True 5 0 0 (jQ X vI 0 0) 34 [(0, .ref x0), (1, .int x1), (2, .int x2), (3, .int x3), (4, .int x4)] [] u (gX11_numberHere_34 N   n x0 x1 x2 x3 x4 u) := by
  intro n
  induction n with
  | zero => intros; intro r u9 h9; exact absurd h9 (by simp [gX11_numberHere_34])
  | succ n ih =>
    intro x0 x1 x2 x3 x4 u
    have hrec34 := ih
    rw [gX11_numberHere_34]
    refine jf_aload_n hX dX11_numberHere_34 0 rfl ?_
    refine jf_aload_n hX dX11_numberHere_35 0 rfl ?_
    refine jf_getI hX ck_X11 8 wfl_48 (by decide) rfl dX11_numberHere_36 ?_
    refine jf_callV (As := [.int (zI u x0 8)]) (st := []) hX mo_X11_isDigit wml_61 winst_62 wsel_63 11 ck_X11 rfl (fun l D cT z0 ks => kX11_isDigit N l D cT z0 ks x0 (zI u x0 8) u) (by decide) (by decide) (by decide) (by decide) (Nat.le_of_ble_eq_true rfl) rfl rfl dX11_numberHere_39 (fun r1 u2 => ?_)
    refine jf_if_eq (tgt := 88) hX dX11_numberHere_42 (by decide) ?_ ?_
    · refine jf_aload_n hX dX11_numberHere_88 0 rfl ?_
      refine jf_iload hX dX11_numberHere_89 4 rfl ?_
      refine jf_putI hX trivial ck_X11 10 wfl_67 (by decide) rfl rfl rfl dX11_numberHere_91 (fun u3 => ?_)
      refine jf_aload_n hX dX11_numberHere_94 0 rfl ?_
      refine jf_getI hX ck_X11 8 wfl_48 (by decide) rfl dX11_numberHere_95 ?_
      refine jf_iload_n hX dX11_numberHere_98 3 rfl ?_
      refine jf_isub hX dX11_numberHere_99 ?_
      refine jf_iconst (v := 5) hX dX11_numberHere_100 (by decide) ?_
      refine jf_icmp_gt (tgt := 117) hX dX11_numberHere_101 (by decide) ?_ ?_
      · refine jf_lv [0, 3] rfl ?_
        exact jgX11_numberHere_117 hX N  x0 x3 u3
      · refine jf_iload hX dX11_numberHere_104 4 rfl ?_
        refine jf_i2l hX dX11_numberHere_106 ?_
        refine jf_iload_n hX dX11_numberHere_107 1 rfl ?_
        refine jf_i2l hX dX11_numberHere_108 ?_
        refine jf_iload_n hX dX11_numberHere_109 2 rfl ?_
        refine jf_i2l hX dX11_numberHere_110 ?_
        refine jf_callS (As := [.long x4.toInt64, .long x1.toInt64, .long x2.toInt64]) (st := []) hX mo_X11_in wml_68 wstat_69 rfl (fun l D cT z0 ks => kX11_in N l D cT z0 ks x4.toInt64 x1.toInt64 x2.toInt64 u3) (by decide) (by decide) (by decide) (by decide) (Nat.le_of_ble_eq_true rfl) rfl rfl dX11_numberHere_111 (fun r4 u5 => ?_)
        refine jf_if_ne (tgt := 126) hX dX11_numberHere_114 (by decide) ?_ ?_
        · refine jf_iconst (v := 1) hX dX11_numberHere_126 (by decide) ?_
          refine jf_goto (tgt := 131) hX dX11_numberHere_127 (by decide) ?_
          exact jf_zretc hX rfl (by decide) (by decide) (by decide) dX11_numberHere_131
        · refine jf_lv [0, 3] rfl ?_
          exact jgX11_numberHere_117 hX N  x0 x3 u5
    · refine jf_aload_n hX dX11_numberHere_45 0 rfl ?_
      refine jf_getI hX ck_X11 8 wfl_48 (by decide) rfl dX11_numberHere_46 ?_
      refine jf_iload_n hX dX11_numberHere_49 3 rfl ?_
      refine jf_isub hX dX11_numberHere_50 ?_
      refine jf_iconst (v := 5) hX dX11_numberHere_51 (by decide) ?_
      refine jf_icmp_ge (tgt := 75) hX dX11_numberHere_52 (by decide) ?_ ?_
      · refine jf_aload_n hX dX11_numberHere_75 0 rfl ?_
        refine jf_dup hX dX11_numberHere_76 rfl ?_
        refine jf_getI hX ck_X11 8 wfl_48 (by decide) rfl dX11_numberHere_77 ?_
        refine jf_iconst (v := 1) hX dX11_numberHere_80 (by decide) ?_
        refine jf_iadd hX dX11_numberHere_81 ?_
        refine jf_putI hX trivial ck_X11 8 wfl_48 (by decide) rfl rfl rfl dX11_numberHere_82 (fun u6 => ?_)
        refine jf_goto (tgt := 34) hX dX11_numberHere_85 (by decide) ?_
        refine jf_lv [0, 1, 2, 3, 4] rfl ?_
        exact hrec34 x0 x1 x2 x3 x4 u6
      · refine jf_bipush (v := 10) hX dX11_numberHere_55 (by decide) ?_
        refine jf_iload hX dX11_numberHere_57 4 rfl ?_
        refine jf_imul hX dX11_numberHere_59 ?_
        refine jf_aload_n hX dX11_numberHere_60 0 rfl ?_
        refine jf_getR hX ck_X11 0 wfl_20 (by decide) rfl dX11_numberHere_61 ?_
        refine jf_nn (fun q7 => ?_)
        refine jf_aload_n hX dX11_numberHere_64 0 rfl ?_
        refine jf_getI hX ck_X11 8 wfl_48 (by decide) rfl dX11_numberHere_65 ?_
        refine jf_bald hX dX11_numberHere_68 ?_
        refine jf_iadd hX dX11_numberHere_69 ?_
        refine jf_bipush (v := 48) hX dX11_numberHere_70 (by decide) ?_
        refine jf_isub hX dX11_numberHere_72 ?_
        refine jf_nmI (fun v8 => ?_)
        refine jf_istore (lv' := [(4, .int v8), (0, .ref x0), (1, .int x1), (2, .int x2), (3, .int x3)]) hX dX11_numberHere_73 (by decide) rfl ?_
        refine jf_aload_n hX dX11_numberHere_75 1 rfl ?_
        refine jf_dup hX dX11_numberHere_76 rfl ?_
        refine jf_getI hX ck_X11 8 wfl_48 (by decide) rfl dX11_numberHere_77 ?_
        refine jf_iconst (v := 1) hX dX11_numberHere_80 (by decide) ?_
        refine jf_iadd hX dX11_numberHere_81 ?_
        refine jf_putI hX trivial ck_X11 8 wfl_48 (by decide) rfl rfl rfl dX11_numberHere_82 (fun u9 => ?_)
        refine jf_goto (tgt := 34) hX dX11_numberHere_85 (by decide) ?_
        refine jf_lv [1, 2, 3, 4, 0] rfl ?_
        exact hrec34 x0 x1 x2 x3 v8 u9
set_option maxRecDepth 20000 in
def fX11_numberHere (N : Nat)  (a0 : Nat) (p1 : Int32) (p2 : Int32) (u : SG) : Option (Int32 × SG) := if zK u a0 = 12 then cl (fX11_see N a0 u) fun r1 u2 => (if zK u2 a0 = 12 then (if zK u2 a0 = 12 then cl (fX11_isDigit N a0 (zI u2 a0 8) u2) fun r3 u4 => (if r3 = 0 then (if zK u4 a0 = 12 then (if zK u4 a0 = 12 then cl (fX11_fails N a0 (0 : Int32) (zI u4 a0 8) u4) fun r6 u7 => (if r6 = 0 ∨ r6 = 1 then some (r6, u7) else none) else none) else none)
  else (if zK u4 a0 = 12 then (bs (zI u4 a0 8) fun v5 => (gX11_numberHere_34 N  N a0 p1 p2 v5 (0 : Int32) u4)) else none)) else none) else none) else none
set_option maxRecDepth 20000 in
set_option maxHeartbeats 4000000 in
theorem kX11_numberHere  (N : Nat)  (l : Launch) (D : va_G) (cT : Nat → ClassId) (z0 : Nat) (ks : Nat × Nat) (a0 : Nat) (p1 : Int32) (p2 : Int32) (u : SG) : Ct l D cT z0 ks yX11_numberHere cX11_numberHere 5 (some .boolean) 2 0 0 vI [.ref a0, .int p1, .int p2] u (fX11_numberHere N  a0 p1 p2 u) := by
  unfold fX11_numberHere
  refine ct_of (by decide +kernel) (Nat.le_of_ble_eq_true rfl) (fun p e R s m args below meth c hX => ?_)
  show JF _ True 5 0 0 _ 0 [(0, .ref a0), (1, .int p1), (2, .int p2)] [] u _
  refine jf_aload_n hX dX11_numberHere_0 0 rfl ?_
  refine jf_callV (As := []) (st := []) hX mo_X11_see wml_49 winst_50 wsel_51 11 ck_X11 rfl (fun l D cT z0 ks => kX11_see N l D cT z0 ks a0 u) (by decide) (by decide) (by decide) (by decide) (Nat.le_of_ble_eq_true rfl) rfl rfl dX11_numberHere_1 (fun r1 u2 => ?_)
  refine jf_pop hX dX11_numberHere_4 rfl ?_
  refine jf_aload_n hX dX11_numberHere_5 0 rfl ?_
  refine jf_aload_n hX dX11_numberHere_6 0 rfl ?_
  refine jf_getI hX ck_X11 8 wfl_48 (by decide) rfl dX11_numberHere_7 ?_
  refine jf_callV (As := [.int (zI u2 a0 8)]) (st := []) hX mo_X11_isDigit wml_61 winst_62 wsel_63 11 ck_X11 rfl (fun l D cT z0 ks => kX11_isDigit N l D cT z0 ks a0 (zI u2 a0 8) u2) (by decide) (by decide) (by decide) (by decide) (Nat.le_of_ble_eq_true rfl) rfl rfl dX11_numberHere_10 (fun r3 u4 => ?_)
  refine jf_if_ne (tgt := 26) hX dX11_numberHere_13 (by decide) ?_ ?_
  · refine jf_aload_n hX dX11_numberHere_26 0 rfl ?_
    refine jf_getI hX ck_X11 8 wfl_48 (by decide) rfl dX11_numberHere_27 ?_
    refine jf_nmI (fun v5 => ?_)
    refine jf_istore_n (lv' := [(3, .int v5), (0, .ref a0), (1, .int p1), (2, .int p2)]) hX dX11_numberHere_30 rfl (by decide) rfl ?_
    refine jf_iconst (v := 0) hX dX11_numberHere_31 (by decide) ?_
    refine jf_istore (lv' := [(4, .int (0 : Int32)), (3, .int v5), (0, .ref a0), (1, .int p1), (2, .int p2)]) hX dX11_numberHere_32 (by decide) rfl ?_
    refine jf_lv [2, 3, 4, 1, 0] rfl ?_
    exact jgX11_numberHere_34 hX N  N a0 p1 p2 v5 (0 : Int32) u4
  · refine jf_aload_n hX dX11_numberHere_16 0 rfl ?_
    refine jf_iconst (v := 0) hX dX11_numberHere_17 (by decide) ?_
    refine jf_aload_n hX dX11_numberHere_18 0 rfl ?_
    refine jf_getI hX ck_X11 8 wfl_48 (by decide) rfl dX11_numberHere_19 ?_
    refine jf_callV (As := [.int (0 : Int32), .int (zI u4 a0 8)]) (st := []) hX mo_X11_fails wml_64 winst_65 wsel_66 11 ck_X11 rfl (fun l D cT z0 ks => kX11_fails N l D cT z0 ks a0 (0 : Int32) (zI u4 a0 8) u4) (by decide) (by decide) (by decide) (by decide) (Nat.le_of_ble_eq_true rfl) rfl rfl dX11_numberHere_22 (fun r6 u7 => ?_)
    exact jf_zret hX rfl (by decide) (by decide) dX11_numberHere_25
set_option maxRecDepth 20000 in
def fX11_wordHere (N : Nat)  (a0 : Nat) (u : SG) : Option (Int32 × SG) := if zK u a0 = 12 then cl (fX11_isWord N a0 (123581014175598 : Int64) u) fun r1 u2 => (if r1 = 0 then (if zK u2 a0 = 12 then cl (fX11_isWord N a0 (1752135026 : Int64) u2) fun r3 u4 => (if r3 = 0 then (if zK u4 a0 = 12 then cl (fX11_isWord N a0 (474214787188 : Int64) u4) fun r5 u6 => (if r5 = 0 then (if zK u6 a0 = 12 then cl (fX11_isWord N a0 (1852138852 : Int64) u6) fun r7 u8 => (if r7 = 0 then (if zK u8 a0 = 12 then cl (fX11_isWord N a0 (512970880104 : Int64) u8) fun r9 u10 => (if r9 = 0 then (if zK u10 a0 = 12 then cl (fX11_isWord N a0 (495739826292 : Int64) u10) fun r11 u12 => (if r11 = 0 then (if zK u12 a0 = 12 then cl (fX11_isWord N a0 (1818584692 : Int64) u12) fun r13 u14 => (if r13 = 0 then (if zK u14 a0 = 12 then cl (fX11_isWord N a0 (1668248436 : Int64) u14) fun r15 u16 => (if r15 = 0 then (if zK u16 a0 = 12 then cl (fX11_isWord N a0 (122545758368371 : Int64) u16) fun r17 u18 => (if r17 = 0 then (if zK u18 a0 = 12 then cl (fX11_isWord N a0 (107148367717744 : Int64) u18) fun r19 u20 => (if r19 = 0 then (if zK u20 a0 = 12 then cl (fX11_isWord N a0 (1870095716 : Int64) u20) fun r21 u22 => (if r21 = 0 then (if zK u22 a0 = 12 then cl (fX11_isWord N a0 (1684365940 : Int64) u22) fun r23 u24 => (if r23 = 0 then (if zK u24 a0 = 12 then cl (fX11_isWord N a0 (7305070 : Int64) u24) fun r25 u26 => (if r25 = 0 then (some ((-1 : Int32), u26))
  else (some ((12 : Int32), u26))) else none)
  else (some ((11 : Int32), u24))) else none)
  else (some ((10 : Int32), u22))) else none)
  else (some ((9 : Int32), u20))) else none)
  else (some ((8 : Int32), u18))) else none)
  else (some ((7 : Int32), u16))) else none)
  else (some ((6 : Int32), u14))) else none)
  else (some ((5 : Int32), u12))) else none)
  else (some ((4 : Int32), u10))) else none)
  else (some ((3 : Int32), u8))) else none)
  else (some ((2 : Int32), u6))) else none)
  else (some ((1 : Int32), u4))) else none)
  else (some ((0 : Int32), u2))) else none
set_option maxRecDepth 20000 in
set_option maxHeartbeats 4000000 in
theorem kX11_wordHere  (N : Nat)  (l : Launch) (D : va_G) (cT : Nat → ClassId) (z0 : Nat) (ks : Nat × Nat) (a0 : Nat) (u : SG) : Ct l D cT z0 ks yX11_wordHere cX11_wordHere 1 (some .int) 3 0 0 vI [.ref a0] u (fX11_wordHere N  a0 u) := by
  unfold fX11_wordHere
  refine ct_of (by decide +kernel) (Nat.le_of_ble_eq_true rfl) (fun p e R s m args below meth c hX => ?_)
  show JF _ True 1 0 0 _ 0 [(0, .ref a0)] [] u _
  refine jf_aload_n hX dX11_wordHere_0 0 rfl ?_
  refine jf_ldc2 (v := 123581014175598) hX dX11_wordHere_1 wconl_70 ?_
  refine jf_callV (As := [.long (123581014175598 : Int64)]) (st := []) hX mo_X11_isWord wml_55 winst_56 wsel_57 11 ck_X11 rfl (fun l D cT z0 ks => kX11_isWord N l D cT z0 ks a0 (123581014175598 : Int64) u) (by decide) (by decide) (by decide) (by decide) (Nat.le_of_ble_eq_true rfl) rfl rfl dX11_wordHere_4 (fun r1 u2 => ?_)
  refine jf_if_eq (tgt := 12) hX dX11_wordHere_7 (by decide) ?_ ?_
  · refine jf_aload_n hX dX11_wordHere_12 0 rfl ?_
    refine jf_ldc2 (v := 1752135026) hX dX11_wordHere_13 wconl_71 ?_
    refine jf_callV (As := [.long (1752135026 : Int64)]) (st := []) hX mo_X11_isWord wml_55 winst_56 wsel_57 11 ck_X11 rfl (fun l D cT z0 ks => kX11_isWord N l D cT z0 ks a0 (1752135026 : Int64) u2) (by decide) (by decide) (by decide) (by decide) (Nat.le_of_ble_eq_true rfl) rfl rfl dX11_wordHere_16 (fun r3 u4 => ?_)
    refine jf_if_eq (tgt := 24) hX dX11_wordHere_19 (by decide) ?_ ?_
    · refine jf_aload_n hX dX11_wordHere_24 0 rfl ?_
      refine jf_ldc2 (v := 474214787188) hX dX11_wordHere_25 wconl_72 ?_
      refine jf_callV (As := [.long (474214787188 : Int64)]) (st := []) hX mo_X11_isWord wml_55 winst_56 wsel_57 11 ck_X11 rfl (fun l D cT z0 ks => kX11_isWord N l D cT z0 ks a0 (474214787188 : Int64) u4) (by decide) (by decide) (by decide) (by decide) (Nat.le_of_ble_eq_true rfl) rfl rfl dX11_wordHere_28 (fun r5 u6 => ?_)
      refine jf_if_eq (tgt := 36) hX dX11_wordHere_31 (by decide) ?_ ?_
      · refine jf_aload_n hX dX11_wordHere_36 0 rfl ?_
        refine jf_ldc2 (v := 1852138852) hX dX11_wordHere_37 wconl_73 ?_
        refine jf_callV (As := [.long (1852138852 : Int64)]) (st := []) hX mo_X11_isWord wml_55 winst_56 wsel_57 11 ck_X11 rfl (fun l D cT z0 ks => kX11_isWord N l D cT z0 ks a0 (1852138852 : Int64) u6) (by decide) (by decide) (by decide) (by decide) (Nat.le_of_ble_eq_true rfl) rfl rfl dX11_wordHere_40 (fun r7 u8 => ?_)
        refine jf_if_eq (tgt := 48) hX dX11_wordHere_43 (by decide) ?_ ?_
        · refine jf_aload_n hX dX11_wordHere_48 0 rfl ?_
          refine jf_ldc2 (v := 512970880104) hX dX11_wordHere_49 wconl_74 ?_
          refine jf_callV (As := [.long (512970880104 : Int64)]) (st := []) hX mo_X11_isWord wml_55 winst_56 wsel_57 11 ck_X11 rfl (fun l D cT z0 ks => kX11_isWord N l D cT z0 ks a0 (512970880104 : Int64) u8) (by decide) (by decide) (by decide) (by decide) (Nat.le_of_ble_eq_true rfl) rfl rfl dX11_wordHere_52 (fun r9 u10 => ?_)
          refine jf_if_eq (tgt := 60) hX dX11_wordHere_55 (by decide) ?_ ?_
          · refine jf_aload_n hX dX11_wordHere_60 0 rfl ?_
            refine jf_ldc2 (v := 495739826292) hX dX11_wordHere_61 wconl_75 ?_
            refine jf_callV (As := [.long (495739826292 : Int64)]) (st := []) hX mo_X11_isWord wml_55 winst_56 wsel_57 11 ck_X11 rfl (fun l D cT z0 ks => kX11_isWord N l D cT z0 ks a0 (495739826292 : Int64) u10) (by decide) (by decide) (by decide) (by decide) (Nat.le_of_ble_eq_true rfl) rfl rfl dX11_wordHere_64 (fun r11 u12 => ?_)
            refine jf_if_eq (tgt := 72) hX dX11_wordHere_67 (by decide) ?_ ?_
            · refine jf_aload_n hX dX11_wordHere_72 0 rfl ?_
              refine jf_ldc2 (v := 1818584692) hX dX11_wordHere_73 wconl_76 ?_
              refine jf_callV (As := [.long (1818584692 : Int64)]) (st := []) hX mo_X11_isWord wml_55 winst_56 wsel_57 11 ck_X11 rfl (fun l D cT z0 ks => kX11_isWord N l D cT z0 ks a0 (1818584692 : Int64) u12) (by decide) (by decide) (by decide) (by decide) (Nat.le_of_ble_eq_true rfl) rfl rfl dX11_wordHere_76 (fun r13 u14 => ?_)
              refine jf_if_eq (tgt := 85) hX dX11_wordHere_79 (by decide) ?_ ?_
              · refine jf_aload_n hX dX11_wordHere_85 0 rfl ?_
                refine jf_ldc2 (v := 1668248436) hX dX11_wordHere_86 wconl_77 ?_
                refine jf_callV (As := [.long (1668248436 : Int64)]) (st := []) hX mo_X11_isWord wml_55 winst_56 wsel_57 11 ck_X11 rfl (fun l D cT z0 ks => kX11_isWord N l D cT z0 ks a0 (1668248436 : Int64) u14) (by decide) (by decide) (by decide) (by decide) (Nat.le_of_ble_eq_true rfl) rfl rfl dX11_wordHere_89 (fun r15 u16 => ?_)
                refine jf_if_eq (tgt := 98) hX dX11_wordHere_92 (by decide) ?_ ?_
                · refine jf_aload_n hX dX11_wordHere_98 0 rfl ?_
                  refine jf_ldc2 (v := 122545758368371) hX dX11_wordHere_99 wconl_78 ?_
                  refine jf_callV (As := [.long (122545758368371 : Int64)]) (st := []) hX mo_X11_isWord wml_55 winst_56 wsel_57 11 ck_X11 rfl (fun l D cT z0 ks => kX11_isWord N l D cT z0 ks a0 (122545758368371 : Int64) u16) (by decide) (by decide) (by decide) (by decide) (Nat.le_of_ble_eq_true rfl) rfl rfl dX11_wordHere_102 (fun r17 u18 => ?_)
                  refine jf_if_eq (tgt := 111) hX dX11_wordHere_105 (by decide) ?_ ?_
                  · refine jf_aload_n hX dX11_wordHere_111 0 rfl ?_
                    refine jf_ldc2 (v := 107148367717744) hX dX11_wordHere_112 wconl_79 ?_
                    refine jf_callV (As := [.long (107148367717744 : Int64)]) (st := []) hX mo_X11_isWord wml_55 winst_56 wsel_57 11 ck_X11 rfl (fun l D cT z0 ks => kX11_isWord N l D cT z0 ks a0 (107148367717744 : Int64) u18) (by decide) (by decide) (by decide) (by decide) (Nat.le_of_ble_eq_true rfl) rfl rfl dX11_wordHere_115 (fun r19 u20 => ?_)
                    refine jf_if_eq (tgt := 124) hX dX11_wordHere_118 (by decide) ?_ ?_
                    · refine jf_aload_n hX dX11_wordHere_124 0 rfl ?_
                      refine jf_ldc2 (v := 1870095716) hX dX11_wordHere_125 wconl_80 ?_
                      refine jf_callV (As := [.long (1870095716 : Int64)]) (st := []) hX mo_X11_isWord wml_55 winst_56 wsel_57 11 ck_X11 rfl (fun l D cT z0 ks => kX11_isWord N l D cT z0 ks a0 (1870095716 : Int64) u20) (by decide) (by decide) (by decide) (by decide) (Nat.le_of_ble_eq_true rfl) rfl rfl dX11_wordHere_128 (fun r21 u22 => ?_)
                      refine jf_if_eq (tgt := 137) hX dX11_wordHere_131 (by decide) ?_ ?_
                      · refine jf_aload_n hX dX11_wordHere_137 0 rfl ?_
                        refine jf_ldc2 (v := 1684365940) hX dX11_wordHere_138 wconl_81 ?_
                        refine jf_callV (As := [.long (1684365940 : Int64)]) (st := []) hX mo_X11_isWord wml_55 winst_56 wsel_57 11 ck_X11 rfl (fun l D cT z0 ks => kX11_isWord N l D cT z0 ks a0 (1684365940 : Int64) u22) (by decide) (by decide) (by decide) (by decide) (Nat.le_of_ble_eq_true rfl) rfl rfl dX11_wordHere_141 (fun r23 u24 => ?_)
                        refine jf_if_eq (tgt := 152) hX dX11_wordHere_144 (by decide) ?_ ?_
                        · refine jf_aload_n hX dX11_wordHere_152 0 rfl ?_
                          refine jf_ldc2 (v := 7305070) hX dX11_wordHere_153 wconl_82 ?_
                          refine jf_callV (As := [.long (7305070 : Int64)]) (st := []) hX mo_X11_isWord wml_55 winst_56 wsel_57 11 ck_X11 rfl (fun l D cT z0 ks => kX11_isWord N l D cT z0 ks a0 (7305070 : Int64) u24) (by decide) (by decide) (by decide) (by decide) (Nat.le_of_ble_eq_true rfl) rfl rfl dX11_wordHere_156 (fun r25 u26 => ?_)
                          refine jf_if_eq (tgt := 167) hX dX11_wordHere_159 (by decide) ?_ ?_
                          · refine jf_iconst (v := -1) hX dX11_wordHere_167 (by decide) ?_
                            exact jf_iret hX rfl (by decide) (by decide) dX11_wordHere_168
                          · refine jf_bipush (v := 12) hX dX11_wordHere_162 (by decide) ?_
                            refine jf_goto (tgt := 168) hX dX11_wordHere_164 (by decide) ?_
                            exact jf_iret hX rfl (by decide) (by decide) dX11_wordHere_168
                        · refine jf_bipush (v := 11) hX dX11_wordHere_147 (by decide) ?_
                          refine jf_goto (tgt := 168) hX dX11_wordHere_149 (by decide) ?_
                          exact jf_iret hX rfl (by decide) (by decide) dX11_wordHere_168
                      · refine jf_bipush (v := 10) hX dX11_wordHere_134 (by decide) ?_
                        exact jf_iret hX rfl (by decide) (by decide) dX11_wordHere_136
                    · refine jf_bipush (v := 9) hX dX11_wordHere_121 (by decide) ?_
                      exact jf_iret hX rfl (by decide) (by decide) dX11_wordHere_123
                  · refine jf_bipush (v := 8) hX dX11_wordHere_108 (by decide) ?_
                    exact jf_iret hX rfl (by decide) (by decide) dX11_wordHere_110
                · refine jf_bipush (v := 7) hX dX11_wordHere_95 (by decide) ?_
                  exact jf_iret hX rfl (by decide) (by decide) dX11_wordHere_97
              · refine jf_bipush (v := 6) hX dX11_wordHere_82 (by decide) ?_
                exact jf_iret hX rfl (by decide) (by decide) dX11_wordHere_84
            · refine jf_iconst (v := 5) hX dX11_wordHere_70 (by decide) ?_
              exact jf_iret hX rfl (by decide) (by decide) dX11_wordHere_71
          · refine jf_iconst (v := 4) hX dX11_wordHere_58 (by decide) ?_
            exact jf_iret hX rfl (by decide) (by decide) dX11_wordHere_59
        · refine jf_iconst (v := 3) hX dX11_wordHere_46 (by decide) ?_
          exact jf_iret hX rfl (by decide) (by decide) dX11_wordHere_47
      · refine jf_iconst (v := 2) hX dX11_wordHere_34 (by decide) ?_
        exact jf_iret hX rfl (by decide) (by decide) dX11_wordHere_35
    · refine jf_iconst (v := 1) hX dX11_wordHere_22 (by decide) ?_
      exact jf_iret hX rfl (by decide) (by decide) dX11_wordHere_23
  · refine jf_iconst (v := 0) hX dX11_wordHere_10 (by decide) ?_
    exact jf_iret hX rfl (by decide) (by decide) dX11_wordHere_11
set_option maxRecDepth 20000 in
def fX11_puts (N : Nat)  (a0 : Nat) (p1 : Int32) (p2 : Int32) (u : SG) : Option (Unit × SG) := if zK u a0 = 12 then (Option.bind (zR u a0 3) fun q1 => (if zK u a0 = 12 then (if zK u a0 = 12 then (Option.bind (zR u a0 4) fun q2 => (if zK u a0 = 12 then (if zK u q2 = 22 then if (zI u a0 11) < 0 ∨ zN u q2 ≤ (zI u a0 11).toNatClampNeg then none else (if zK u q1 = 22 then if (((400 : Int32) * (zI u a0 11)) + (zI u q2 (zI u a0 11).toNatClampNeg)) < 0 ∨ zN u q1 ≤ (((400 : Int32) * (zI u a0 11)) + (zI u q2 (zI u a0 11).toNatClampNeg)).toNatClampNeg then none else bs (sI u q1 (((400 : Int32) * (zI u a0 11)) + (zI u q2 (zI u a0 11).toNatClampNeg)).toNatClampNeg (p1 + ((16 : Int32) * p2))) fun u3 => (if zK u3 a0 = 12 then (Option.bind (zR u3 a0 4) fun q4 => (if zK u3 a0 = 12 then (if zK u3 q4 = 22 then if (zI u3 a0 11) < 0 ∨ zN u3 q4 ≤ (zI u3 a0 11).toNatClampNeg then none else (if zK u3 q4 = 22 then if (zI u3 a0 11) < 0 ∨ zN u3 q4 ≤ (zI u3 a0 11).toNatClampNeg then none else bs (sI u3 q4 (zI u3 a0 11).toNatClampNeg ((zI u3 q4 (zI u3 a0 11).toNatClampNeg) + (1 : Int32))) fun u5 => (some ((), u5)) else none) else none) else none)) else none) else none) else none) else none)) else none) else none)) else none
set_option maxRecDepth 20000 in
set_option maxHeartbeats 4000000 in
theorem kX11_puts  (N : Nat)  (l : Launch) (D : va_G) (cT : Nat → ClassId) (z0 : Nat) (ks : Nat × Nat) (a0 : Nat) (p1 : Int32) (p2 : Int32) (u : SG) : Ct l D cT z0 ks yX11_puts cX11_puts 3 none 1 0 0 vU [.ref a0, .int p1, .int p2] u (fX11_puts N  a0 p1 p2 u) := by
  unfold fX11_puts
  refine ct_of (by decide +kernel) (Nat.le_of_ble_eq_true rfl) (fun p e R s m args below meth c hX => ?_)
  show JF _ True 3 0 0 _ 0 [(0, .ref a0), (1, .int p1), (2, .int p2)] [] u _
  refine jf_aload_n hX dX11_puts_0 0 rfl ?_
  refine jf_getR hX ck_X11 3 wfl_22 (by decide) rfl dX11_puts_1 ?_
  refine jf_nn (fun q1 => ?_)
  refine jf_sipush (v := 400) hX dX11_puts_4 (by decide) ?_
  refine jf_aload_n hX dX11_puts_7 0 rfl ?_
  refine jf_getI hX ck_X11 11 wfl_83 (by decide) rfl dX11_puts_8 ?_
  refine jf_imul hX dX11_puts_11 ?_
  refine jf_aload_n hX dX11_puts_12 0 rfl ?_
  refine jf_getR hX ck_X11 4 wfl_23 (by decide) rfl dX11_puts_13 ?_
  refine jf_nn (fun q2 => ?_)
  refine jf_aload_n hX dX11_puts_16 0 rfl ?_
  refine jf_getI hX ck_X11 11 wfl_83 (by decide) rfl dX11_puts_17 ?_
  refine jf_iald hX dX11_puts_20 ?_
  refine jf_iadd hX dX11_puts_21 ?_
  refine jf_iload_n hX dX11_puts_22 1 rfl ?_
  refine jf_bipush (v := 16) hX dX11_puts_23 (by decide) ?_
  refine jf_iload_n hX dX11_puts_25 2 rfl ?_
  refine jf_imul hX dX11_puts_26 ?_
  refine jf_iadd hX dX11_puts_27 ?_
  refine jf_iast hX trivial dX11_puts_28 (fun u3 => ?_)
  refine jf_aload_n hX dX11_puts_29 0 rfl ?_
  refine jf_getR hX ck_X11 4 wfl_23 (by decide) rfl dX11_puts_30 ?_
  refine jf_nn (fun q4 => ?_)
  refine jf_aload_n hX dX11_puts_33 0 rfl ?_
  refine jf_getI hX ck_X11 11 wfl_83 (by decide) rfl dX11_puts_34 ?_
  refine jf_dup2_11 hX dX11_puts_37 rfl rfl ?_
  refine jf_iald hX dX11_puts_38 ?_
  refine jf_iconst (v := 1) hX dX11_puts_39 (by decide) ?_
  refine jf_iadd hX dX11_puts_40 ?_
  refine jf_iast hX trivial dX11_puts_41 (fun u5 => ?_)
  exact jf_vret hX rfl (by decide) (by decide) dX11_puts_42
set_option maxRecDepth 20000 in
def fX11_makes (N : Nat)  (a0 : Nat) (p1 : Int32) (u : SG) : Option (Int32 × SG) := if zK u a0 = 12 then (if (zI u a0 12) = (60 : Int32) then (if zK u a0 = 12 then cl (fX11_fails N a0 (3 : Int32) p1 u) fun r2 u3 => (if r2 = 0 ∨ r2 = 1 then some (r2, u3) else none) else none)
  else (if zK u a0 = 12 then (if zK u a0 = 12 then bs (sI u a0 12 ((zI u a0 12) + (1 : Int32))) fun u1 => (some ((1 : Int32), u1)) else none) else none)) else none
set_option maxRecDepth 20000 in
set_option maxHeartbeats 4000000 in
theorem kX11_makes  (N : Nat)  (l : Launch) (D : va_G) (cT : Nat → ClassId) (z0 : Nat) (ks : Nat × Nat) (a0 : Nat) (p1 : Int32) (u : SG) : Ct l D cT z0 ks yX11_makes cX11_makes 2 (some .boolean) 2 0 0 vI [.ref a0, .int p1] u (fX11_makes N  a0 p1 u) := by
  unfold fX11_makes
  refine ct_of (by decide +kernel) (Nat.le_of_ble_eq_true rfl) (fun p e R s m args below meth c hX => ?_)
  show JF _ True 2 0 0 _ 0 [(0, .ref a0), (1, .int p1)] [] u _
  refine jf_aload_n hX dX11_makes_0 0 rfl ?_
  refine jf_getI hX ck_X11 12 wfl_84 (by decide) rfl dX11_makes_1 ?_
  refine jf_bipush (v := 60) hX dX11_makes_4 (by decide) ?_
  refine jf_icmp_ne (tgt := 16) hX dX11_makes_6 (by decide) ?_ ?_
  · refine jf_aload_n hX dX11_makes_16 0 rfl ?_
    refine jf_dup hX dX11_makes_17 rfl ?_
    refine jf_getI hX ck_X11 12 wfl_84 (by decide) rfl dX11_makes_18 ?_
    refine jf_iconst (v := 1) hX dX11_makes_21 (by decide) ?_
    refine jf_iadd hX dX11_makes_22 ?_
    refine jf_putI hX trivial ck_X11 12 wfl_84 (by decide) rfl rfl rfl dX11_makes_23 (fun u1 => ?_)
    refine jf_iconst (v := 1) hX dX11_makes_26 (by decide) ?_
    exact jf_zretc hX rfl (by decide) (by decide) (by decide) dX11_makes_27
  · refine jf_aload_n hX dX11_makes_9 0 rfl ?_
    refine jf_iconst (v := 3) hX dX11_makes_10 (by decide) ?_
    refine jf_iload_n hX dX11_makes_11 1 rfl ?_
    refine jf_callV (As := [.int (3 : Int32), .int p1]) (st := []) hX mo_X11_fails wml_64 winst_65 wsel_66 11 ck_X11 rfl (fun l D cT z0 ks => kX11_fails N l D cT z0 ks a0 (3 : Int32) p1 u) (by decide) (by decide) (by decide) (by decide) (Nat.le_of_ble_eq_true rfl) rfl rfl dX11_makes_12 (fun r2 u3 => ?_)
    exact jf_zret hX rfl (by decide) (by decide) dX11_makes_15
set_option maxRecDepth 20000 in
def fX11_opens (N : Nat)  (a0 : Nat) (p1 : Int32) (u : SG) : Option (Int32 × SG) := if zK u a0 = 12 then (if (zI u a0 13) = (10 : Int32) then (if zK u a0 = 12 then (if zK u a0 = 12 then cl (fX11_fails N a0 (2 : Int32) (zI u a0 8) u) fun r5 u6 => (if r5 = 0 ∨ r5 = 1 then some (r5, u6) else none) else none) else none)
  else (if zK u a0 = 12 then (if zK u a0 = 12 then bs (sI u a0 13 ((zI u a0 13) + (1 : Int32))) fun u1 => (if zK u1 a0 = 12 then (Option.bind (zR u1 a0 15) fun q2 => (if zK u1 a0 = 12 then (if zK u1 q2 = 22 then if (zI u1 a0 16) < 0 ∨ zN u1 q2 ≤ (zI u1 a0 16).toNatClampNeg then none else bs (sI u1 q2 (zI u1 a0 16).toNatClampNeg p1) fun u3 => (if zK u3 a0 = 12 then (if zK u3 a0 = 12 then bs (sI u3 a0 16 ((zI u3 a0 16) + (1 : Int32))) fun u4 => (some ((1 : Int32), u4)) else none) else none) else none) else none)) else none) else none) else none)) else none
set_option maxRecDepth 20000 in
set_option maxHeartbeats 4000000 in
theorem kX11_opens  (N : Nat)  (l : Launch) (D : va_G) (cT : Nat → ClassId) (z0 : Nat) (ks : Nat × Nat) (a0 : Nat) (p1 : Int32) (u : SG) : Ct l D cT z0 ks yX11_opens cX11_opens 2 (some .boolean) 2 0 0 vI [.ref a0, .int p1] u (fX11_opens N  a0 p1 u) := by
  unfold fX11_opens
  refine ct_of (by decide +kernel) (Nat.le_of_ble_eq_true rfl) (fun p e R s m args below meth c hX => ?_)
  show JF _ True 2 0 0 _ 0 [(0, .ref a0), (1, .int p1)] [] u _
  refine jf_aload_n hX dX11_opens_0 0 rfl ?_
  refine jf_getI hX ck_X11 13 wfl_85 (by decide) rfl dX11_opens_1 ?_
  refine jf_bipush (v := 10) hX dX11_opens_4 (by decide) ?_
  refine jf_icmp_ne (tgt := 19) hX dX11_opens_6 (by decide) ?_ ?_
  · refine jf_aload_n hX dX11_opens_19 0 rfl ?_
    refine jf_dup hX dX11_opens_20 rfl ?_
    refine jf_getI hX ck_X11 13 wfl_85 (by decide) rfl dX11_opens_21 ?_
    refine jf_iconst (v := 1) hX dX11_opens_24 (by decide) ?_
    refine jf_iadd hX dX11_opens_25 ?_
    refine jf_putI hX trivial ck_X11 13 wfl_85 (by decide) rfl rfl rfl dX11_opens_26 (fun u1 => ?_)
    refine jf_aload_n hX dX11_opens_29 0 rfl ?_
    refine jf_getR hX ck_X11 15 wfl_27 (by decide) rfl dX11_opens_30 ?_
    refine jf_nn (fun q2 => ?_)
    refine jf_aload_n hX dX11_opens_33 0 rfl ?_
    refine jf_getI hX ck_X11 16 wfl_86 (by decide) rfl dX11_opens_34 ?_
    refine jf_iload_n hX dX11_opens_37 1 rfl ?_
    refine jf_iast hX trivial dX11_opens_38 (fun u3 => ?_)
    refine jf_aload_n hX dX11_opens_39 0 rfl ?_
    refine jf_dup hX dX11_opens_40 rfl ?_
    refine jf_getI hX ck_X11 16 wfl_86 (by decide) rfl dX11_opens_41 ?_
    refine jf_iconst (v := 1) hX dX11_opens_44 (by decide) ?_
    refine jf_iadd hX dX11_opens_45 ?_
    refine jf_putI hX trivial ck_X11 16 wfl_86 (by decide) rfl rfl rfl dX11_opens_46 (fun u4 => ?_)
    refine jf_iconst (v := 1) hX dX11_opens_49 (by decide) ?_
    exact jf_zretc hX rfl (by decide) (by decide) (by decide) dX11_opens_50
  · refine jf_aload_n hX dX11_opens_9 0 rfl ?_
    refine jf_iconst (v := 2) hX dX11_opens_10 (by decide) ?_
    refine jf_aload_n hX dX11_opens_11 0 rfl ?_
    refine jf_getI hX ck_X11 8 wfl_48 (by decide) rfl dX11_opens_12 ?_
    refine jf_callV (As := [.int (2 : Int32), .int (zI u a0 8)]) (st := []) hX mo_X11_fails wml_64 winst_65 wsel_66 11 ck_X11 rfl (fun l D cT z0 ks => kX11_fails N l D cT z0 ks a0 (2 : Int32) (zI u a0 8) u) (by decide) (by decide) (by decide) (by decide) (Nat.le_of_ble_eq_true rfl) rfl rfl dX11_opens_15 (fun r5 u6 => ?_)
    exact jf_zret hX rfl (by decide) (by decide) dX11_opens_18
set_option maxRecDepth 20000 in
def fX11_strength (N : Nat)  (p1 : Int32) (u : SG) : Option (Int32 × SG) := if p1 = (13 : Int32) then (some ((1 : Int32), u))
  else (if p1 = (12 : Int32) then (some ((2 : Int32), u))
  else (if p1 = (11 : Int32) then (some ((3 : Int32), u))
  else (some ((0 : Int32), u))))
set_option maxRecDepth 20000 in
set_option maxHeartbeats 4000000 in
theorem kX11_strength  (N : Nat)  (l : Launch) (D : va_G) (cT : Nat → ClassId) (z0 : Nat) (ks : Nat × Nat) (p1 : Int32) (u : SG) : Ct l D cT z0 ks yX11_strength cX11_strength 1 (some .int) 1 0 0 vI [.int p1] u (fX11_strength N  p1 u) := by
  unfold fX11_strength
  refine ct_of (by decide +kernel) (Nat.le_of_ble_eq_true rfl) (fun p e R s m args below meth c hX => ?_)
  show JF _ True 1 0 0 _ 0 [(0, .int p1)] [] u _
  refine jf_iload_n hX dX11_strength_0 0 rfl ?_
  refine jf_bipush (v := 13) hX dX11_strength_1 (by decide) ?_
  refine jf_icmp_ne (tgt := 10) hX dX11_strength_3 (by decide) ?_ ?_
  · refine jf_iload_n hX dX11_strength_10 0 rfl ?_
    refine jf_bipush (v := 12) hX dX11_strength_11 (by decide) ?_
    refine jf_icmp_ne (tgt := 20) hX dX11_strength_13 (by decide) ?_ ?_
    · refine jf_iload_n hX dX11_strength_20 0 rfl ?_
      refine jf_bipush (v := 11) hX dX11_strength_21 (by decide) ?_
      refine jf_icmp_ne (tgt := 30) hX dX11_strength_23 (by decide) ?_ ?_
      · refine jf_iconst (v := 0) hX dX11_strength_30 (by decide) ?_
        exact jf_iret hX rfl (by decide) (by decide) dX11_strength_31
      · refine jf_iconst (v := 3) hX dX11_strength_26 (by decide) ?_
        refine jf_goto (tgt := 31) hX dX11_strength_27 (by decide) ?_
        exact jf_iret hX rfl (by decide) (by decide) dX11_strength_31
    · refine jf_iconst (v := 2) hX dX11_strength_16 (by decide) ?_
      refine jf_goto (tgt := 31) hX dX11_strength_17 (by decide) ?_
      exact jf_iret hX rfl (by decide) (by decide) dX11_strength_31
  · refine jf_iconst (v := 1) hX dX11_strength_6 (by decide) ?_
    refine jf_goto (tgt := 31) hX dX11_strength_7 (by decide) ?_
    exact jf_iret hX rfl (by decide) (by decide) dX11_strength_31
set_option maxRecDepth 20000 in
def gX11_settles_0 (N : Nat)   : Nat → Nat → Int32 → SG → Option (Unit × SG)
  | 0, _, _, _ => none
  | n + 1, x0, x1, u => if zK u x0 = 12 then (if (zI u x0 16) ≤ 0 then (some ((), u))
  else (if zK u x0 = 12 then (Option.bind (zR u x0 15) fun q1 => (if zK u x0 = 12 then (if zK u q1 = 22 then if ((zI u x0 16) - (1 : Int32)) < 0 ∨ zN u q1 ≤ ((zI u x0 16) - (1 : Int32)).toNatClampNeg then none else (cl (fX11_strength N (zI u q1 ((zI u x0 16) - (1 : Int32)).toNatClampNeg) u) fun r2 u3 => (if r2 < x1 then (some ((), u3))
  else (if zK u3 x0 = 12 then (if zK u3 x0 = 12 then bs (sI u3 x0 16 ((zI u3 x0 16) - (1 : Int32))) fun u4 => (if zK u4 x0 = 12 then (Option.bind (zR u4 x0 15) fun q5 => (if zK u4 x0 = 12 then (if zK u4 q5 = 22 then if (zI u4 x0 16) < 0 ∨ zN u4 q5 ≤ (zI u4 x0 16).toNatClampNeg then none else (if zK u4 x0 = 12 then cl (fX11_puts N x0 (zI u4 q5 (zI u4 x0 16).toNatClampNeg) (0 : Int32) u4) fun r6 u7 => (if zK u7 x0 = 12 then (Option.bind (zR u7 x0 15) fun q8 => (if zK u7 x0 = 12 then (if zK u7 q8 = 22 then if (zI u7 x0 16) < 0 ∨ zN u7 q8 ≤ (zI u7 x0 16).toNatClampNeg then none else (if (zI u7 q8 (zI u7 x0 16).toNatClampNeg) = (11 : Int32) then (if zK u7 x0 = 12 then (if zK u7 x0 = 12 then bs (sI u7 x0 13 ((zI u7 x0 13) - (1 : Int32))) fun u9 => ((gX11_settles_0 N  n) x0 x1 u9) else none) else none)
  else ((gX11_settles_0 N  n) x0 x1 u7)) else none) else none)) else none) else none) else none) else none)) else none) else none) else none))) else none) else none)) else none)) else none
set_option maxRecDepth 20000 in
set_option maxHeartbeats 4000000 in
theorem jgX11_settles_0   {X : XT} (hX : Cx X yX11_settles cX11_settles 2 none 2 0 0) (N : Nat)  : ∀ (n : Nat) (x0 : Nat) (x1 : Int32) (u : SG), JF X True 2 0 0 (jQ X vU 0 0) 0 [(0, .ref x0), (1, .int x1)] [] u (gX11_settles_0 N   n x0 x1 u) := by
  intro n
  induction n with
  | zero => intros; intro r u9 h9; exact absurd h9 (by simp [gX11_settles_0])
  | succ n ih =>
    intro x0 x1 u
    have hrec0 := ih
    rw [gX11_settles_0]
    refine jf_aload_n hX dX11_settles_0 0 rfl ?_
    refine jf_getI hX ck_X11 16 wfl_86 (by decide) rfl dX11_settles_1 ?_
    refine jf_if_le (tgt := 76) hX dX11_settles_4 (by decide) ?_ ?_
    · exact jf_vret hX rfl (by decide) (by decide) dX11_settles_76
    · refine jf_aload_n hX dX11_settles_7 0 rfl ?_
      refine jf_getR hX ck_X11 15 wfl_27 (by decide) rfl dX11_settles_8 ?_
      refine jf_nn (fun q1 => ?_)
      refine jf_aload_n hX dX11_settles_11 0 rfl ?_
      refine jf_getI hX ck_X11 16 wfl_86 (by decide) rfl dX11_settles_12 ?_
      refine jf_iconst (v := 1) hX dX11_settles_15 (by decide) ?_
      refine jf_isub hX dX11_settles_16 ?_
      refine jf_iald hX dX11_settles_17 ?_
      refine jf_callS (As := [.int (zI u q1 ((zI u x0 16) - (1 : Int32)).toNatClampNeg)]) (st := []) hX mo_X11_strength wml_87 wstat_88 rfl (fun l D cT z0 ks => kX11_strength N l D cT z0 ks (zI u q1 ((zI u x0 16) - (1 : Int32)).toNatClampNeg) u) (by decide) (by decide) (by decide) (by decide) (Nat.le_of_ble_eq_true rfl) rfl rfl dX11_settles_18 (fun r2 u3 => ?_)
      refine jf_iload_n hX dX11_settles_21 1 rfl ?_
      refine jf_icmp_lt (tgt := 76) hX dX11_settles_22 (by decide) ?_ ?_
      · exact jf_vret hX rfl (by decide) (by decide) dX11_settles_76
      · refine jf_aload_n hX dX11_settles_25 0 rfl ?_
        refine jf_dup hX dX11_settles_26 rfl ?_
        refine jf_getI hX ck_X11 16 wfl_86 (by decide) rfl dX11_settles_27 ?_
        refine jf_iconst (v := 1) hX dX11_settles_30 (by decide) ?_
        refine jf_isub hX dX11_settles_31 ?_
        refine jf_putI hX trivial ck_X11 16 wfl_86 (by decide) rfl rfl rfl dX11_settles_32 (fun u4 => ?_)
        refine jf_aload_n hX dX11_settles_35 0 rfl ?_
        refine jf_aload_n hX dX11_settles_36 0 rfl ?_
        refine jf_getR hX ck_X11 15 wfl_27 (by decide) rfl dX11_settles_37 ?_
        refine jf_nn (fun q5 => ?_)
        refine jf_aload_n hX dX11_settles_40 0 rfl ?_
        refine jf_getI hX ck_X11 16 wfl_86 (by decide) rfl dX11_settles_41 ?_
        refine jf_iald hX dX11_settles_44 ?_
        refine jf_iconst (v := 0) hX dX11_settles_45 (by decide) ?_
        refine jf_callV (As := [.int (zI u4 q5 (zI u4 x0 16).toNatClampNeg), .int (0 : Int32)]) (st := []) hX mo_X11_puts wml_89 winst_90 wsel_91 11 ck_X11 rfl (fun l D cT z0 ks => kX11_puts N l D cT z0 ks x0 (zI u4 q5 (zI u4 x0 16).toNatClampNeg) (0 : Int32) u4) (by decide) (by decide) (by decide) (by decide) (Nat.le_of_ble_eq_true rfl) rfl rfl dX11_settles_46 (fun r6 u7 => ?_)
        refine jf_aload_n hX dX11_settles_49 0 rfl ?_
        refine jf_getR hX ck_X11 15 wfl_27 (by decide) rfl dX11_settles_50 ?_
        refine jf_nn (fun q8 => ?_)
        refine jf_aload_n hX dX11_settles_53 0 rfl ?_
        refine jf_getI hX ck_X11 16 wfl_86 (by decide) rfl dX11_settles_54 ?_
        refine jf_iald hX dX11_settles_57 ?_
        refine jf_bipush (v := 11) hX dX11_settles_58 (by decide) ?_
        refine jf_icmp_ne (tgt := 0) hX dX11_settles_60 (by decide) ?_ ?_
        · refine jf_lv [0, 1] rfl ?_
          exact hrec0 x0 x1 u7
        · refine jf_aload_n hX dX11_settles_63 0 rfl ?_
          refine jf_dup hX dX11_settles_64 rfl ?_
          refine jf_getI hX ck_X11 13 wfl_85 (by decide) rfl dX11_settles_65 ?_
          refine jf_iconst (v := 1) hX dX11_settles_68 (by decide) ?_
          refine jf_isub hX dX11_settles_69 ?_
          refine jf_putI hX trivial ck_X11 13 wfl_85 (by decide) rfl rfl rfl dX11_settles_70 (fun u9 => ?_)
          refine jf_goto (tgt := 0) hX dX11_settles_73 (by decide) ?_
          refine jf_lv [0, 1] rfl ?_
          exact hrec0 x0 x1 u9
set_option maxRecDepth 20000 in
def fX11_settles (N : Nat)  (a0 : Nat) (p1 : Int32) (u : SG) : Option (Unit × SG) := gX11_settles_0 N  N a0 p1 u
set_option maxRecDepth 20000 in
set_option maxHeartbeats 4000000 in
theorem kX11_settles  (N : Nat)  (l : Launch) (D : va_G) (cT : Nat → ClassId) (z0 : Nat) (ks : Nat × Nat) (a0 : Nat) (p1 : Int32) (u : SG) : Ct l D cT z0 ks yX11_settles cX11_settles 2 none 2 0 0 vU [.ref a0, .int p1] u (fX11_settles N  a0 p1 u) := by
  unfold fX11_settles
  refine ct_of (by decide +kernel) (Nat.le_of_ble_eq_true rfl) (fun p e R s m args below meth c hX => ?_)
  show JF _ True 2 0 0 _ 0 [(0, .ref a0), (1, .int p1)] [] u _
  refine jf_lv [0, 1] rfl ?_
  exact jgX11_settles_0 hX N  N a0 p1 u
set_option maxRecDepth 20000 in
def fX11_value (N : Nat)  (a0 : Nat) (u : SG) : Option (Int32 × SG) := if zK u a0 = 12 then cl (fX11_see N a0 u) fun r1 u2 => (if zK u2 a0 = 12 then (bs (zI u2 a0 8) fun v3 => (if zK u2 a0 = 12 then (if zK u2 a0 = 12 then cl (fX11_isDigit N a0 (zI u2 a0 8) u2) fun r4 u5 => (if r4 = 0 then (if zK u5 a0 = 12 then cl (fX11_wordHere N a0 u5) fun r6 u7 => (if 0 ≤ r6 then (if zK u7 a0 = 12 then cl (fX11_makes N a0 v3 u7) fun r8 u9 => (if r8 = 0 then (some ((0 : Int32), u9))
  else (if zK u9 a0 = 12 then cl (fX11_passWord N a0 u9) fun r10 u11 => (if zK u11 a0 = 12 then cl (fX11_puts N a0 (1 : Int32) r6 u11) fun r12 u13 => (some ((1 : Int32), u13)) else none) else none)) else none)
  else (if zK u7 a0 = 12 then cl (fX11_fails N a0 (0 : Int32) v3 u7) fun r14 u15 => (if r14 = 0 ∨ r14 = 1 then some (r14, u15) else none) else none)) else none)
  else (if zK u5 a0 = 12 then cl (fX11_numberHere N a0 (0 : Int32) (99999 : Int32) u5) fun r16 u17 => (if r16 = 0 then (some ((0 : Int32), u17))
  else (if zK u17 a0 = 12 then cl (fX11_makes N a0 v3 u17) fun r18 u19 => (if r18 = 0 then (some ((0 : Int32), u19))
  else (if zK u19 a0 = 12 then (if zK u19 a0 = 12 then cl (fX11_puts N a0 (0 : Int32) (zI u19 a0 10) u19) fun r20 u21 => (some ((1 : Int32), u21)) else none) else none)) else none)) else none)) else none) else none)) else none) else none
set_option maxRecDepth 20000 in
set_option maxHeartbeats 4000000 in
theorem kX11_value  (N : Nat)  (l : Launch) (D : va_G) (cT : Nat → ClassId) (z0 : Nat) (ks : Nat × Nat) (a0 : Nat) (u : SG) : Ct l D cT z0 ks yX11_value cX11_value 3 (some .boolean) 4 0 0 vI [.ref a0] u (fX11_value N  a0 u) := by
  unfold fX11_value
  refine ct_of (by decide +kernel) (Nat.le_of_ble_eq_true rfl) (fun p e R s m args below meth c hX => ?_)
  show JF _ True 3 0 0 _ 0 [(0, .ref a0)] [] u _
  refine jf_aload_n hX dX11_value_0 0 rfl ?_
  refine jf_callV (As := []) (st := []) hX mo_X11_see wml_49 winst_50 wsel_51 11 ck_X11 rfl (fun l D cT z0 ks => kX11_see N l D cT z0 ks a0 u) (by decide) (by decide) (by decide) (by decide) (Nat.le_of_ble_eq_true rfl) rfl rfl dX11_value_1 (fun r1 u2 => ?_)
  refine jf_pop hX dX11_value_4 rfl ?_
  refine jf_aload_n hX dX11_value_5 0 rfl ?_
  refine jf_getI hX ck_X11 8 wfl_48 (by decide) rfl dX11_value_6 ?_
  refine jf_nmI (fun v3 => ?_)
  refine jf_istore_n (lv' := [(1, .int v3), (0, .ref a0)]) hX dX11_value_9 rfl (by decide) rfl ?_
  refine jf_aload_n hX dX11_value_10 1 rfl ?_
  refine jf_aload_n hX dX11_value_11 1 rfl ?_
  refine jf_getI hX ck_X11 8 wfl_48 (by decide) rfl dX11_value_12 ?_
  refine jf_callV (As := [.int (zI u2 a0 8)]) (st := []) hX mo_X11_isDigit wml_61 winst_62 wsel_63 11 ck_X11 rfl (fun l D cT z0 ks => kX11_isDigit N l D cT z0 ks a0 (zI u2 a0 8) u2) (by decide) (by decide) (by decide) (by decide) (Nat.le_of_ble_eq_true rfl) rfl rfl dX11_value_15 (fun r4 u5 => ?_)
  refine jf_if_eq (tgt := 52) hX dX11_value_18 (by decide) ?_ ?_
  · refine jf_aload_n hX dX11_value_52 1 rfl ?_
    refine jf_callV (As := []) (st := []) hX mo_X11_wordHere wml_92 winst_93 wsel_94 11 ck_X11 rfl (fun l D cT z0 ks => kX11_wordHere N l D cT z0 ks a0 u5) (by decide) (by decide) (by decide) (by decide) (Nat.le_of_ble_eq_true rfl) rfl rfl dX11_value_53 (fun r6 u7 => ?_)
    refine jf_istore_n (lv' := [(2, .int r6), (1, .int v3), (0, .ref a0)]) hX dX11_value_56 rfl (by decide) rfl ?_
    refine jf_iload_n hX dX11_value_57 0 rfl ?_
    refine jf_if_ge (tgt := 68) hX dX11_value_58 (by decide) ?_ ?_
    · refine jf_aload_n hX dX11_value_68 2 rfl ?_
      refine jf_iload_n hX dX11_value_69 1 rfl ?_
      refine jf_callV (As := [.int v3]) (st := []) hX mo_X11_makes wml_95 winst_96 wsel_97 11 ck_X11 rfl (fun l D cT z0 ks => kX11_makes N l D cT z0 ks a0 v3 u7) (by decide) (by decide) (by decide) (by decide) (Nat.le_of_ble_eq_true rfl) rfl rfl dX11_value_70 (fun r8 u9 => ?_)
      refine jf_if_ne (tgt := 78) hX dX11_value_73 (by decide) ?_ ?_
      · refine jf_aload_n hX dX11_value_78 2 rfl ?_
        refine jf_callV (As := []) (st := []) hX mo_X11_passWord wml_58 winst_59 wsel_60 11 ck_X11 rfl (fun l D cT z0 ks => kX11_passWord N l D cT z0 ks a0 u9) (by decide) (by decide) (by decide) (by decide) (Nat.le_of_ble_eq_true rfl) rfl rfl dX11_value_79 (fun r10 u11 => ?_)
        refine jf_aload_n hX dX11_value_82 2 rfl ?_
        refine jf_iconst (v := 1) hX dX11_value_83 (by decide) ?_
        refine jf_iload_n hX dX11_value_84 0 rfl ?_
        refine jf_callV (As := [.int (1 : Int32), .int r6]) (st := []) hX mo_X11_puts wml_89 winst_90 wsel_91 11 ck_X11 rfl (fun l D cT z0 ks => kX11_puts N l D cT z0 ks a0 (1 : Int32) r6 u11) (by decide) (by decide) (by decide) (by decide) (Nat.le_of_ble_eq_true rfl) rfl rfl dX11_value_85 (fun r12 u13 => ?_)
        refine jf_iconst (v := 1) hX dX11_value_88 (by decide) ?_
        exact jf_zretc hX rfl (by decide) (by decide) (by decide) dX11_value_89
      · refine jf_iconst (v := 0) hX dX11_value_76 (by decide) ?_
        exact jf_zretc hX rfl (by decide) (by decide) (by decide) dX11_value_77
    · refine jf_aload_n hX dX11_value_61 2 rfl ?_
      refine jf_iconst (v := 0) hX dX11_value_62 (by decide) ?_
      refine jf_iload_n hX dX11_value_63 1 rfl ?_
      refine jf_callV (As := [.int (0 : Int32), .int v3]) (st := []) hX mo_X11_fails wml_64 winst_65 wsel_66 11 ck_X11 rfl (fun l D cT z0 ks => kX11_fails N l D cT z0 ks a0 (0 : Int32) v3 u7) (by decide) (by decide) (by decide) (by decide) (Nat.le_of_ble_eq_true rfl) rfl rfl dX11_value_64 (fun r14 u15 => ?_)
      exact jf_zret hX rfl (by decide) (by decide) dX11_value_67
  · refine jf_aload_n hX dX11_value_21 1 rfl ?_
    refine jf_iconst (v := 0) hX dX11_value_22 (by decide) ?_
    refine jf_ldc (v := 99999) hX dX11_value_23 wcon_98 ?_
    refine jf_callV (As := [.int (0 : Int32), .int (99999 : Int32)]) (st := []) hX mo_X11_numberHere wml_99 winst_100 wsel_101 11 ck_X11 rfl (fun l D cT z0 ks => kX11_numberHere N l D cT z0 ks a0 (0 : Int32) (99999 : Int32) u5) (by decide) (by decide) (by decide) (by decide) (Nat.le_of_ble_eq_true rfl) rfl rfl dX11_value_25 (fun r16 u17 => ?_)
    refine jf_if_eq (tgt := 39) hX dX11_value_28 (by decide) ?_ ?_
    · refine jf_iconst (v := 0) hX dX11_value_39 (by decide) ?_
      exact jf_zretc hX rfl (by decide) (by decide) (by decide) dX11_value_40
    · refine jf_aload_n hX dX11_value_31 1 rfl ?_
      refine jf_iload_n hX dX11_value_32 0 rfl ?_
      refine jf_callV (As := [.int v3]) (st := []) hX mo_X11_makes wml_95 winst_96 wsel_97 11 ck_X11 rfl (fun l D cT z0 ks => kX11_makes N l D cT z0 ks a0 v3 u17) (by decide) (by decide) (by decide) (by decide) (Nat.le_of_ble_eq_true rfl) rfl rfl dX11_value_33 (fun r18 u19 => ?_)
      refine jf_if_ne (tgt := 41) hX dX11_value_36 (by decide) ?_ ?_
      · refine jf_aload_n hX dX11_value_41 1 rfl ?_
        refine jf_iconst (v := 0) hX dX11_value_42 (by decide) ?_
        refine jf_aload_n hX dX11_value_43 1 rfl ?_
        refine jf_getI hX ck_X11 10 wfl_67 (by decide) rfl dX11_value_44 ?_
        refine jf_callV (As := [.int (0 : Int32), .int (zI u19 a0 10)]) (st := []) hX mo_X11_puts wml_89 winst_90 wsel_91 11 ck_X11 rfl (fun l D cT z0 ks => kX11_puts N l D cT z0 ks a0 (0 : Int32) (zI u19 a0 10) u19) (by decide) (by decide) (by decide) (by decide) (Nat.le_of_ble_eq_true rfl) rfl rfl dX11_value_47 (fun r20 u21 => ?_)
        refine jf_iconst (v := 1) hX dX11_value_50 (by decide) ?_
        exact jf_zretc hX rfl (by decide) (by decide) (by decide) dX11_value_51
      · refine jf_iconst (v := 0) hX dX11_value_39 (by decide) ?_
        exact jf_zretc hX rfl (by decide) (by decide) (by decide) dX11_value_40
set_option maxRecDepth 20000 in
def gX11_term_74 (N : Nat)  (rec9 : Nat → SG → Option (Int32 × SG)) (x0 : Nat) (s0 : Int32) (u : SG) : Option (Int32 × SG) := if zK u x0 = 12 then (if zK u x0 = 12 then bs (sI u x0 8 ((zI u x0 8) + (1 : Int32))) fun u1 => (if zK u1 x0 = 12 then cl (fX11_value N x0 u1) fun r2 u3 => (if r2 = 0 then (some ((0 : Int32), u3))
  else (if zK u3 x0 = 12 then cl (fX11_puts N x0 s0 (0 : Int32) u3) fun r4 u5 => (rec9 x0 u5) else none)) else none) else none) else none
set_option maxRecDepth 20000 in
set_option maxHeartbeats 4000000 in
theorem jgX11_term_74 {rec9 : Nat → SG → Option (Int32 × SG)}  {X : XT} (hX : Cx X yX11_term cX11_term 2 (some .boolean) 5 0 0) (N : Nat) (hrec9 : ∀ (x0 : Nat)  (u : SG), JF X True 2 0 0 (jQ X vI 0 0) 9 [(0, .ref x0)] [] u (rec9 x0  u)) (x0 : Nat) (s0 : Int32) (u : SG) : JF X True 2 0 0 (jQ X vI 0 0) 74 [(0, .ref x0)] [.int s0] u (gX11_term_74 N  rec9 x0 s0 u) := by
  unfold gX11_term_74
  refine jf_istore_n (lv' := [(1, .int s0), (0, .ref x0)]) hX dX11_term_74 rfl (by decide) rfl ?_
  refine jf_aload_n hX dX11_term_75 1 rfl ?_
  refine jf_dup hX dX11_term_76 rfl ?_
  refine jf_getI hX ck_X11 8 wfl_48 (by decide) rfl dX11_term_77 ?_
  refine jf_iconst (v := 1) hX dX11_term_80 (by decide) ?_
  refine jf_iadd hX dX11_term_81 ?_
  refine jf_putI hX trivial ck_X11 8 wfl_48 (by decide) rfl rfl rfl dX11_term_82 (fun u1 => ?_)
  refine jf_aload_n hX dX11_term_85 1 rfl ?_
  refine jf_callV (As := []) (st := []) hX mo_X11_value wml_102 winst_103 wsel_104 11 ck_X11 rfl (fun l D cT z0 ks => kX11_value N l D cT z0 ks x0 u1) (by decide) (by decide) (by decide) (by decide) (Nat.le_of_ble_eq_true rfl) rfl rfl dX11_term_86 (fun r2 u3 => ?_)
  refine jf_if_ne (tgt := 94) hX dX11_term_89 (by decide) ?_ ?_
  · refine jf_aload_n hX dX11_term_94 1 rfl ?_
    refine jf_iload_n hX dX11_term_95 0 rfl ?_
    refine jf_iconst (v := 0) hX dX11_term_96 (by decide) ?_
    refine jf_callV (As := [.int s0, .int (0 : Int32)]) (st := []) hX mo_X11_puts wml_89 winst_90 wsel_91 11 ck_X11 rfl (fun l D cT z0 ks => kX11_puts N l D cT z0 ks x0 s0 (0 : Int32) u3) (by decide) (by decide) (by decide) (by decide) (Nat.le_of_ble_eq_true rfl) rfl rfl dX11_term_97 (fun r4 u5 => ?_)
    refine jf_goto (tgt := 9) hX dX11_term_100 (by decide) ?_
    refine jf_lv [1] rfl ?_
    exact hrec9 x0 u5
  · refine jf_iconst (v := 0) hX dX11_term_92 (by decide) ?_
    exact jf_zretc hX rfl (by decide) (by decide) (by decide) dX11_term_93
set_option maxRecDepth 20000 in
def gX11_term_36 (N : Nat)  (rec9 : Nat → SG → Option (Int32 × SG)) (x0 : Nat) (u : SG) : Option (Int32 × SG) := if zK u x0 = 12 then (Option.bind (zR u x0 0) fun q1 => (if zK u x0 = 12 then (if zK u q1 = 21 then if (zI u x0 8) < 0 ∨ zN u q1 ≤ (zI u x0 8).toNatClampNeg then none else (if (zI u q1 (zI u x0 8).toNatClampNeg) = (42 : Int32) then (gX11_term_74 N rec9 x0 (4 : Int32) u)
  else (if zK u x0 = 12 then (Option.bind (zR u x0 0) fun q2 => (if zK u x0 = 12 then (if zK u q2 = 21 then if (zI u x0 8) < 0 ∨ zN u q2 ≤ (zI u x0 8).toNatClampNeg then none else (if (zI u q2 (zI u x0 8).toNatClampNeg) = (47 : Int32) then (gX11_term_74 N rec9 x0 (5 : Int32) u)
  else (gX11_term_74 N rec9 x0 (14 : Int32) u)) else none) else none)) else none)) else none) else none)) else none
set_option maxRecDepth 20000 in
set_option maxHeartbeats 4000000 in
theorem jgX11_term_36 {rec9 : Nat → SG → Option (Int32 × SG)}  {X : XT} (hX : Cx X yX11_term cX11_term 2 (some .boolean) 5 0 0) (N : Nat) (hrec9 : ∀ (x0 : Nat)  (u : SG), JF X True 2 0 0 (jQ X vI 0 0) 9 [(0, .ref x0)] [] u (rec9 x0  u)) (x0 : Nat) (u : SG) : JF X True 2 0 0 (jQ X vI 0 0) 36 [(0, .ref x0)] [] u (gX11_term_36 N  rec9 x0 u) := by
  unfold gX11_term_36
  refine jf_aload_n hX dX11_term_36 0 rfl ?_
  refine jf_getR hX ck_X11 0 wfl_20 (by decide) rfl dX11_term_37 ?_
  refine jf_nn (fun q1 => ?_)
  refine jf_aload_n hX dX11_term_40 0 rfl ?_
  refine jf_getI hX ck_X11 8 wfl_48 (by decide) rfl dX11_term_41 ?_
  refine jf_bald hX dX11_term_44 ?_
  refine jf_bipush (v := 42) hX dX11_term_45 (by decide) ?_
  refine jf_icmp_ne (tgt := 54) hX dX11_term_47 (by decide) ?_ ?_
  · refine jf_aload_n hX dX11_term_54 0 rfl ?_
    refine jf_getR hX ck_X11 0 wfl_20 (by decide) rfl dX11_term_55 ?_
    refine jf_nn (fun q2 => ?_)
    refine jf_aload_n hX dX11_term_58 0 rfl ?_
    refine jf_getI hX ck_X11 8 wfl_48 (by decide) rfl dX11_term_59 ?_
    refine jf_bald hX dX11_term_62 ?_
    refine jf_bipush (v := 47) hX dX11_term_63 (by decide) ?_
    refine jf_icmp_ne (tgt := 72) hX dX11_term_65 (by decide) ?_ ?_
    · refine jf_bipush (v := 14) hX dX11_term_72 (by decide) ?_
      refine jf_lv [0] rfl ?_
      exact jgX11_term_74 hX N hrec9 x0 (14 : Int32) u
    · refine jf_iconst (v := 5) hX dX11_term_68 (by decide) ?_
      refine jf_goto (tgt := 74) hX dX11_term_69 (by decide) ?_
      refine jf_lv [0] rfl ?_
      exact jgX11_term_74 hX N hrec9 x0 (5 : Int32) u
  · refine jf_iconst (v := 4) hX dX11_term_50 (by decide) ?_
    refine jf_goto (tgt := 74) hX dX11_term_51 (by decide) ?_
    refine jf_lv [0] rfl ?_
    exact jgX11_term_74 hX N hrec9 x0 (4 : Int32) u
set_option maxRecDepth 20000 in
def gX11_term_9 (N : Nat)   : Nat → Nat → SG → Option (Int32 × SG)
  | 0, _, _ => none
  | n + 1, x0, u => if zK u x0 = 12 then cl (fX11_see N x0 u) fun r1 u2 => (if r1 = (42 : Int32) then (gX11_term_36 N (gX11_term_9 N  n) x0 u2)
  else (if zK u2 x0 = 12 then cl (fX11_see N x0 u2) fun r3 u4 => (if r3 = (47 : Int32) then (gX11_term_36 N (gX11_term_9 N  n) x0 u4)
  else (if zK u4 x0 = 12 then cl (fX11_see N x0 u4) fun r5 u6 => (if r5 = (37 : Int32) then (gX11_term_36 N (gX11_term_9 N  n) x0 u6)
  else (some ((1 : Int32), u6))) else none)) else none)) else none
set_option maxRecDepth 20000 in
set_option maxHeartbeats 4000000 in
theorem jgX11_term_9   {X : XT} (hX : Cx X yX11_term cX11_term 2 (some .boolean) 5 0 0) (N : Nat)  : ∀ (n : Nat) (x0 : Nat) (u : SG), JF X True 2 0 0 (jQ X vI 0 0) 9 [(0, .ref x0)] [] u (gX11_term_9 N   n x0 u) := by
  intro n
  induction n with
  | zero => intros; intro r u9 h9; exact absurd h9 (by simp [gX11_term_9])
  | succ n ih =>
    intro x0 u
    have hrec9 := ih
    rw [gX11_term_9]
    refine jf_aload_n hX dX11_term_9 0 rfl ?_
    refine jf_callV (As := []) (st := []) hX mo_X11_see wml_49 winst_50 wsel_51 11 ck_X11 rfl (fun l D cT z0 ks => kX11_see N l D cT z0 ks x0 u) (by decide) (by decide) (by decide) (by decide) (Nat.le_of_ble_eq_true rfl) rfl rfl dX11_term_10 (fun r1 u2 => ?_)
    refine jf_bipush (v := 42) hX dX11_term_13 (by decide) ?_
    refine jf_icmp_eq (tgt := 36) hX dX11_term_15 (by decide) ?_ ?_
    · refine jf_lv [0] rfl ?_
      exact jgX11_term_36 hX N hrec9 x0 u2
    · refine jf_aload_n hX dX11_term_18 0 rfl ?_
      refine jf_callV (As := []) (st := []) hX mo_X11_see wml_49 winst_50 wsel_51 11 ck_X11 rfl (fun l D cT z0 ks => kX11_see N l D cT z0 ks x0 u2) (by decide) (by decide) (by decide) (by decide) (Nat.le_of_ble_eq_true rfl) rfl rfl dX11_term_19 (fun r3 u4 => ?_)
      refine jf_bipush (v := 47) hX dX11_term_22 (by decide) ?_
      refine jf_icmp_eq (tgt := 36) hX dX11_term_24 (by decide) ?_ ?_
      · refine jf_lv [0] rfl ?_
        exact jgX11_term_36 hX N hrec9 x0 u4
      · refine jf_aload_n hX dX11_term_27 0 rfl ?_
        refine jf_callV (As := []) (st := []) hX mo_X11_see wml_49 winst_50 wsel_51 11 ck_X11 rfl (fun l D cT z0 ks => kX11_see N l D cT z0 ks x0 u4) (by decide) (by decide) (by decide) (by decide) (Nat.le_of_ble_eq_true rfl) rfl rfl dX11_term_28 (fun r5 u6 => ?_)
        refine jf_bipush (v := 37) hX dX11_term_31 (by decide) ?_
        refine jf_icmp_ne (tgt := 103) hX dX11_term_33 (by decide) ?_ ?_
        · refine jf_iconst (v := 1) hX dX11_term_103 (by decide) ?_
          exact jf_zretc hX rfl (by decide) (by decide) (by decide) dX11_term_104
        · refine jf_lv [0] rfl ?_
          exact jgX11_term_36 hX N hrec9 x0 u6
set_option maxRecDepth 20000 in
def fX11_term (N : Nat)  (a0 : Nat) (u : SG) : Option (Int32 × SG) := if zK u a0 = 12 then cl (fX11_value N a0 u) fun r1 u2 => (if r1 = 0 then (some ((0 : Int32), u2))
  else (gX11_term_9 N  N a0 u2)) else none
set_option maxRecDepth 20000 in
set_option maxHeartbeats 4000000 in
theorem kX11_term  (N : Nat)  (l : Launch) (D : va_G) (cT : Nat → ClassId) (z0 : Nat) (ks : Nat × Nat) (a0 : Nat) (u : SG) : Ct l D cT z0 ks yX11_term cX11_term 2 (some .boolean) 5 0 0 vI [.ref a0] u (fX11_term N  a0 u) := by
  unfold fX11_term
  refine ct_of (by decide +kernel) (Nat.le_of_ble_eq_true rfl) (fun p e R s m args below meth c hX => ?_)
  show JF _ True 2 0 0 _ 0 [(0, .ref a0)] [] u _
  refine jf_aload_n hX dX11_term_0 0 rfl ?_
  refine jf_callV (As := []) (st := []) hX mo_X11_value wml_102 winst_103 wsel_104 11 ck_X11 rfl (fun l D cT z0 ks => kX11_value N l D cT z0 ks a0 u) (by decide) (by decide) (by decide) (by decide) (Nat.le_of_ble_eq_true rfl) rfl rfl dX11_term_1 (fun r1 u2 => ?_)
  refine jf_if_ne (tgt := 9) hX dX11_term_4 (by decide) ?_ ?_
  · refine jf_lv [0] rfl ?_
    exact jgX11_term_9 hX N  N a0 u2
  · refine jf_iconst (v := 0) hX dX11_term_7 (by decide) ?_
    exact jf_zretc hX rfl (by decide) (by decide) (by decide) dX11_term_8
set_option maxRecDepth 20000 in
def gX11_sum_46 (N : Nat)  (rec9 : Nat → SG → Option (Int32 × SG)) (x0 : Nat) (s0 : Int32) (u : SG) : Option (Int32 × SG) := if zK u x0 = 12 then (if zK u x0 = 12 then bs (sI u x0 8 ((zI u x0 8) + (1 : Int32))) fun u1 => (if zK u1 x0 = 12 then cl (fX11_term N x0 u1) fun r2 u3 => (if r2 = 0 then (some ((0 : Int32), u3))
  else (if zK u3 x0 = 12 then cl (fX11_puts N x0 s0 (0 : Int32) u3) fun r4 u5 => (rec9 x0 u5) else none)) else none) else none) else none
set_option maxRecDepth 20000 in
set_option maxHeartbeats 4000000 in
theorem jgX11_sum_46 {rec9 : Nat → SG → Option (Int32 × SG)}  {X : XT} (hX : Cx X yX11_sum cX11_sum 2 (some .boolean) 6 0 0) (N : Nat) (hrec9 : ∀ (x0 : Nat)  (u : SG), JF X True 2 0 0 (jQ X vI 0 0) 9 [(0, .ref x0)] [] u (rec9 x0  u)) (x0 : Nat) (s0 : Int32) (u : SG) : JF X True 2 0 0 (jQ X vI 0 0) 46 [(0, .ref x0)] [.int s0] u (gX11_sum_46 N  rec9 x0 s0 u) := by
  unfold gX11_sum_46
  refine jf_istore_n (lv' := [(1, .int s0), (0, .ref x0)]) hX dX11_sum_46 rfl (by decide) rfl ?_
  refine jf_aload_n hX dX11_sum_47 1 rfl ?_
  refine jf_dup hX dX11_sum_48 rfl ?_
  refine jf_getI hX ck_X11 8 wfl_48 (by decide) rfl dX11_sum_49 ?_
  refine jf_iconst (v := 1) hX dX11_sum_52 (by decide) ?_
  refine jf_iadd hX dX11_sum_53 ?_
  refine jf_putI hX trivial ck_X11 8 wfl_48 (by decide) rfl rfl rfl dX11_sum_54 (fun u1 => ?_)
  refine jf_aload_n hX dX11_sum_57 1 rfl ?_
  refine jf_callV (As := []) (st := []) hX mo_X11_term wml_105 winst_106 wsel_107 11 ck_X11 rfl (fun l D cT z0 ks => kX11_term N l D cT z0 ks x0 u1) (by decide) (by decide) (by decide) (by decide) (Nat.le_of_ble_eq_true rfl) rfl rfl dX11_sum_58 (fun r2 u3 => ?_)
  refine jf_if_ne (tgt := 66) hX dX11_sum_61 (by decide) ?_ ?_
  · refine jf_aload_n hX dX11_sum_66 1 rfl ?_
    refine jf_iload_n hX dX11_sum_67 0 rfl ?_
    refine jf_iconst (v := 0) hX dX11_sum_68 (by decide) ?_
    refine jf_callV (As := [.int s0, .int (0 : Int32)]) (st := []) hX mo_X11_puts wml_89 winst_90 wsel_91 11 ck_X11 rfl (fun l D cT z0 ks => kX11_puts N l D cT z0 ks x0 s0 (0 : Int32) u3) (by decide) (by decide) (by decide) (by decide) (Nat.le_of_ble_eq_true rfl) rfl rfl dX11_sum_69 (fun r4 u5 => ?_)
    refine jf_goto (tgt := 9) hX dX11_sum_72 (by decide) ?_
    refine jf_lv [1] rfl ?_
    exact hrec9 x0 u5
  · refine jf_iconst (v := 0) hX dX11_sum_64 (by decide) ?_
    exact jf_zretc hX rfl (by decide) (by decide) (by decide) dX11_sum_65
set_option maxRecDepth 20000 in
def gX11_sum_27 (N : Nat)  (rec9 : Nat → SG → Option (Int32 × SG)) (x0 : Nat) (u : SG) : Option (Int32 × SG) := if zK u x0 = 12 then (Option.bind (zR u x0 0) fun q1 => (if zK u x0 = 12 then (if zK u q1 = 21 then if (zI u x0 8) < 0 ∨ zN u q1 ≤ (zI u x0 8).toNatClampNeg then none else (if (zI u q1 (zI u x0 8).toNatClampNeg) = (43 : Int32) then (gX11_sum_46 N rec9 x0 (2 : Int32) u)
  else (gX11_sum_46 N rec9 x0 (3 : Int32) u)) else none) else none)) else none
set_option maxRecDepth 20000 in
set_option maxHeartbeats 4000000 in
theorem jgX11_sum_27 {rec9 : Nat → SG → Option (Int32 × SG)}  {X : XT} (hX : Cx X yX11_sum cX11_sum 2 (some .boolean) 6 0 0) (N : Nat) (hrec9 : ∀ (x0 : Nat)  (u : SG), JF X True 2 0 0 (jQ X vI 0 0) 9 [(0, .ref x0)] [] u (rec9 x0  u)) (x0 : Nat) (u : SG) : JF X True 2 0 0 (jQ X vI 0 0) 27 [(0, .ref x0)] [] u (gX11_sum_27 N  rec9 x0 u) := by
  unfold gX11_sum_27
  refine jf_aload_n hX dX11_sum_27 0 rfl ?_
  refine jf_getR hX ck_X11 0 wfl_20 (by decide) rfl dX11_sum_28 ?_
  refine jf_nn (fun q1 => ?_)
  refine jf_aload_n hX dX11_sum_31 0 rfl ?_
  refine jf_getI hX ck_X11 8 wfl_48 (by decide) rfl dX11_sum_32 ?_
  refine jf_bald hX dX11_sum_35 ?_
  refine jf_bipush (v := 43) hX dX11_sum_36 (by decide) ?_
  refine jf_icmp_ne (tgt := 45) hX dX11_sum_38 (by decide) ?_ ?_
  · refine jf_iconst (v := 3) hX dX11_sum_45 (by decide) ?_
    refine jf_lv [0] rfl ?_
    exact jgX11_sum_46 hX N hrec9 x0 (3 : Int32) u
  · refine jf_iconst (v := 2) hX dX11_sum_41 (by decide) ?_
    refine jf_goto (tgt := 46) hX dX11_sum_42 (by decide) ?_
    refine jf_lv [0] rfl ?_
    exact jgX11_sum_46 hX N hrec9 x0 (2 : Int32) u
set_option maxRecDepth 20000 in
def gX11_sum_9 (N : Nat)   : Nat → Nat → SG → Option (Int32 × SG)
  | 0, _, _ => none
  | n + 1, x0, u => if zK u x0 = 12 then cl (fX11_see N x0 u) fun r1 u2 => (if r1 = (43 : Int32) then (gX11_sum_27 N (gX11_sum_9 N  n) x0 u2)
  else (if zK u2 x0 = 12 then cl (fX11_see N x0 u2) fun r3 u4 => (if r3 = (45 : Int32) then (gX11_sum_27 N (gX11_sum_9 N  n) x0 u4)
  else (some ((1 : Int32), u4))) else none)) else none
set_option maxRecDepth 20000 in
set_option maxHeartbeats 4000000 in
theorem jgX11_sum_9   {X : XT} (hX : Cx X yX11_sum cX11_sum 2 (some .boolean) 6 0 0) (N : Nat)  : ∀ (n : Nat) (x0 : Nat) (u : SG), JF X True 2 0 0 (jQ X vI 0 0) 9 [(0, .ref x0)] [] u (gX11_sum_9 N   n x0 u) := by
  intro n
  induction n with
  | zero => intros; intro r u9 h9; exact absurd h9 (by simp [gX11_sum_9])
  | succ n ih =>
    intro x0 u
    have hrec9 := ih
    rw [gX11_sum_9]
    refine jf_aload_n hX dX11_sum_9 0 rfl ?_
    refine jf_callV (As := []) (st := []) hX mo_X11_see wml_49 winst_50 wsel_51 11 ck_X11 rfl (fun l D cT z0 ks => kX11_see N l D cT z0 ks x0 u) (by decide) (by decide) (by decide) (by decide) (Nat.le_of_ble_eq_true rfl) rfl rfl dX11_sum_10 (fun r1 u2 => ?_)
    refine jf_bipush (v := 43) hX dX11_sum_13 (by decide) ?_
    refine jf_icmp_eq (tgt := 27) hX dX11_sum_15 (by decide) ?_ ?_
    · refine jf_lv [0] rfl ?_
      exact jgX11_sum_27 hX N hrec9 x0 u2
    · refine jf_aload_n hX dX11_sum_18 0 rfl ?_
      refine jf_callV (As := []) (st := []) hX mo_X11_see wml_49 winst_50 wsel_51 11 ck_X11 rfl (fun l D cT z0 ks => kX11_see N l D cT z0 ks x0 u2) (by decide) (by decide) (by decide) (by decide) (Nat.le_of_ble_eq_true rfl) rfl rfl dX11_sum_19 (fun r3 u4 => ?_)
      refine jf_bipush (v := 45) hX dX11_sum_22 (by decide) ?_
      refine jf_icmp_ne (tgt := 75) hX dX11_sum_24 (by decide) ?_ ?_
      · refine jf_iconst (v := 1) hX dX11_sum_75 (by decide) ?_
        exact jf_zretc hX rfl (by decide) (by decide) (by decide) dX11_sum_76
      · refine jf_lv [0] rfl ?_
        exact jgX11_sum_27 hX N hrec9 x0 u4
set_option maxRecDepth 20000 in
def fX11_sum (N : Nat)  (a0 : Nat) (u : SG) : Option (Int32 × SG) := if zK u a0 = 12 then cl (fX11_term N a0 u) fun r1 u2 => (if r1 = 0 then (some ((0 : Int32), u2))
  else (gX11_sum_9 N  N a0 u2)) else none
set_option maxRecDepth 20000 in
set_option maxHeartbeats 4000000 in
theorem kX11_sum  (N : Nat)  (l : Launch) (D : va_G) (cT : Nat → ClassId) (z0 : Nat) (ks : Nat × Nat) (a0 : Nat) (u : SG) : Ct l D cT z0 ks yX11_sum cX11_sum 2 (some .boolean) 6 0 0 vI [.ref a0] u (fX11_sum N  a0 u) := by
  unfold fX11_sum
  refine ct_of (by decide +kernel) (Nat.le_of_ble_eq_true rfl) (fun p e R s m args below meth c hX => ?_)
  show JF _ True 2 0 0 _ 0 [(0, .ref a0)] [] u _
  refine jf_aload_n hX dX11_sum_0 0 rfl ?_
  refine jf_callV (As := []) (st := []) hX mo_X11_term wml_105 winst_106 wsel_107 11 ck_X11 rfl (fun l D cT z0 ks => kX11_term N l D cT z0 ks a0 u) (by decide) (by decide) (by decide) (by decide) (Nat.le_of_ble_eq_true rfl) rfl rfl dX11_sum_1 (fun r1 u2 => ?_)
  refine jf_if_ne (tgt := 9) hX dX11_sum_4 (by decide) ?_ ?_
  · refine jf_lv [0] rfl ?_
    exact jgX11_sum_9 hX N  N a0 u2
  · refine jf_iconst (v := 0) hX dX11_sum_7 (by decide) ?_
    exact jf_zretc hX rfl (by decide) (by decide) (by decide) dX11_sum_8
set_option maxRecDepth 20000 in
def gX11_compare_152 (N : Nat)   (x0 : Nat) (s0 : Int32) (u : SG) : Option (Int32 × SG) := if zK u x0 = 12 then cl (fX11_sum N x0 u) fun r1 u2 => (if r1 = 0 then (some ((0 : Int32), u2))
  else (if zK u2 x0 = 12 then cl (fX11_puts N x0 ((6 : Int32) + s0) (0 : Int32) u2) fun r3 u4 => (some ((1 : Int32), u4)) else none)) else none
set_option maxRecDepth 20000 in
set_option maxHeartbeats 4000000 in
theorem jgX11_compare_152   {X : XT} (hX : Cx X yX11_compare cX11_compare 5 (some .boolean) 7 0 0) (N : Nat)  (x0 : Nat) (s0 : Int32) (u : SG) : JF X True 5 0 0 (jQ X vI 0 0) 152 [(0, .ref x0)] [.int s0] u (gX11_compare_152 N   x0 s0 u) := by
  unfold gX11_compare_152
  refine jf_istore (lv' := [(4, .int s0), (0, .ref x0)]) hX dX11_compare_152 (by decide) rfl ?_
  refine jf_aload_n hX dX11_compare_154 1 rfl ?_
  refine jf_callV (As := []) (st := []) hX mo_X11_sum wml_108 winst_109 wsel_110 11 ck_X11 rfl (fun l D cT z0 ks => kX11_sum N l D cT z0 ks x0 u) (by decide) (by decide) (by decide) (by decide) (Nat.le_of_ble_eq_true rfl) rfl rfl dX11_compare_155 (fun r1 u2 => ?_)
  refine jf_if_ne (tgt := 163) hX dX11_compare_158 (by decide) ?_ ?_
  · refine jf_aload_n hX dX11_compare_163 1 rfl ?_
    refine jf_bipush (v := 6) hX dX11_compare_164 (by decide) ?_
    refine jf_iload hX dX11_compare_166 0 rfl ?_
    refine jf_iadd hX dX11_compare_168 ?_
    refine jf_iconst (v := 0) hX dX11_compare_169 (by decide) ?_
    refine jf_callV (As := [.int ((6 : Int32) + s0), .int (0 : Int32)]) (st := []) hX mo_X11_puts wml_89 winst_90 wsel_91 11 ck_X11 rfl (fun l D cT z0 ks => kX11_puts N l D cT z0 ks x0 ((6 : Int32) + s0) (0 : Int32) u2) (by decide) (by decide) (by decide) (by decide) (Nat.le_of_ble_eq_true rfl) rfl rfl dX11_compare_170 (fun r3 u4 => ?_)
    refine jf_iconst (v := 1) hX dX11_compare_173 (by decide) ?_
    exact jf_zretc hX rfl (by decide) (by decide) (by decide) dX11_compare_174
  · refine jf_iconst (v := 0) hX dX11_compare_161 (by decide) ?_
    exact jf_zretc hX rfl (by decide) (by decide) (by decide) dX11_compare_162
set_option maxRecDepth 20000 in
def gX11_compare_105 (N : Nat)   (x0 : Nat) (x1 : Int32) (x2 : Int32) (x3 : Int32) (u : SG) : Option (Int32 × SG) := if zK u x0 = 12 then cl (fX11_makes N x0 x2 u) fun r1 u2 => (if r1 = 0 then (some ((0 : Int32), u2))
  else (if x1 = (60 : Int32) then (if x3 = 0 then (gX11_compare_152 N  x0 (0 : Int32) u2)
  else (gX11_compare_152 N  x0 (1 : Int32) u2))
  else (if x1 = (61 : Int32) then (gX11_compare_152 N  x0 (2 : Int32) u2)
  else (if x3 = 0 then (gX11_compare_152 N  x0 (4 : Int32) u2)
  else (gX11_compare_152 N  x0 (3 : Int32) u2))))) else none
set_option maxRecDepth 20000 in
set_option maxHeartbeats 4000000 in
theorem jgX11_compare_105   {X : XT} (hX : Cx X yX11_compare cX11_compare 5 (some .boolean) 7 0 0) (N : Nat)  (x0 : Nat) (x1 : Int32) (x2 : Int32) (x3 : Int32) (u : SG) : JF X True 5 0 0 (jQ X vI 0 0) 105 [(0, .ref x0), (1, .int x1), (2, .int x2), (3, .int x3)] [] u (gX11_compare_105 N   x0 x1 x2 x3 u) := by
  unfold gX11_compare_105
  refine jf_aload_n hX dX11_compare_105 0 rfl ?_
  refine jf_iload_n hX dX11_compare_106 2 rfl ?_
  refine jf_callV (As := [.int x2]) (st := []) hX mo_X11_makes wml_95 winst_96 wsel_97 11 ck_X11 rfl (fun l D cT z0 ks => kX11_makes N l D cT z0 ks x0 x2 u) (by decide) (by decide) (by decide) (by decide) (Nat.le_of_ble_eq_true rfl) rfl rfl dX11_compare_107 (fun r1 u2 => ?_)
  refine jf_if_ne (tgt := 115) hX dX11_compare_110 (by decide) ?_ ?_
  · refine jf_iload_n hX dX11_compare_115 1 rfl ?_
    refine jf_bipush (v := 60) hX dX11_compare_116 (by decide) ?_
    refine jf_icmp_ne (tgt := 133) hX dX11_compare_118 (by decide) ?_ ?_
    · refine jf_iload_n hX dX11_compare_133 1 rfl ?_
      refine jf_bipush (v := 61) hX dX11_compare_134 (by decide) ?_
      refine jf_icmp_ne (tgt := 143) hX dX11_compare_136 (by decide) ?_ ?_
      · refine jf_iload_n hX dX11_compare_143 3 rfl ?_
        refine jf_if_eq (tgt := 151) hX dX11_compare_144 (by decide) ?_ ?_
        · refine jf_iconst (v := 4) hX dX11_compare_151 (by decide) ?_
          refine jf_lv [0] rfl ?_
          exact jgX11_compare_152 hX N  x0 (4 : Int32) u2
        · refine jf_iconst (v := 3) hX dX11_compare_147 (by decide) ?_
          refine jf_goto (tgt := 152) hX dX11_compare_148 (by decide) ?_
          refine jf_lv [0] rfl ?_
          exact jgX11_compare_152 hX N  x0 (3 : Int32) u2
      · refine jf_iconst (v := 2) hX dX11_compare_139 (by decide) ?_
        refine jf_goto (tgt := 152) hX dX11_compare_140 (by decide) ?_
        refine jf_lv [0] rfl ?_
        exact jgX11_compare_152 hX N  x0 (2 : Int32) u2
    · refine jf_iload_n hX dX11_compare_121 3 rfl ?_
      refine jf_if_eq (tgt := 129) hX dX11_compare_122 (by decide) ?_ ?_
      · refine jf_iconst (v := 0) hX dX11_compare_129 (by decide) ?_
        refine jf_goto (tgt := 152) hX dX11_compare_130 (by decide) ?_
        refine jf_lv [0] rfl ?_
        exact jgX11_compare_152 hX N  x0 (0 : Int32) u2
      · refine jf_iconst (v := 1) hX dX11_compare_125 (by decide) ?_
        refine jf_goto (tgt := 152) hX dX11_compare_126 (by decide) ?_
        refine jf_lv [0] rfl ?_
        exact jgX11_compare_152 hX N  x0 (1 : Int32) u2
  · refine jf_iconst (v := 0) hX dX11_compare_113 (by decide) ?_
    exact jf_zretc hX rfl (by decide) (by decide) (by decide) dX11_compare_114
set_option maxRecDepth 20000 in
def gX11_compare_90 (N : Nat)   (x0 : Nat) (x1 : Int32) (x2 : Int32) (s0 : Int32) (u : SG) : Option (Int32 × SG) := if s0 = 0 then (gX11_compare_105 N  x0 x1 x2 s0 u)
  else (if zK u x0 = 12 then (if zK u x0 = 12 then bs (sI u x0 8 ((zI u x0 8) + (1 : Int32))) fun u1 => (gX11_compare_105 N  x0 x1 x2 s0 u1) else none) else none)
set_option maxRecDepth 20000 in
set_option maxHeartbeats 4000000 in
theorem jgX11_compare_90   {X : XT} (hX : Cx X yX11_compare cX11_compare 5 (some .boolean) 7 0 0) (N : Nat)  (x0 : Nat) (x1 : Int32) (x2 : Int32) (s0 : Int32) (u : SG) : JF X True 5 0 0 (jQ X vI 0 0) 90 [(0, .ref x0), (1, .int x1), (2, .int x2)] [.int s0] u (gX11_compare_90 N   x0 x1 x2 s0 u) := by
  unfold gX11_compare_90
  refine jf_istore_n (lv' := [(3, .int s0), (0, .ref x0), (1, .int x1), (2, .int x2)]) hX dX11_compare_90 rfl (by decide) rfl ?_
  refine jf_iload_n hX dX11_compare_91 0 rfl ?_
  refine jf_if_eq (tgt := 105) hX dX11_compare_92 (by decide) ?_ ?_
  · refine jf_lv [1, 2, 3, 0] rfl ?_
    exact jgX11_compare_105 hX N  x0 x1 x2 s0 u
  · refine jf_aload_n hX dX11_compare_95 1 rfl ?_
    refine jf_dup hX dX11_compare_96 rfl ?_
    refine jf_getI hX ck_X11 8 wfl_48 (by decide) rfl dX11_compare_97 ?_
    refine jf_iconst (v := 1) hX dX11_compare_100 (by decide) ?_
    refine jf_iadd hX dX11_compare_101 ?_
    refine jf_putI hX trivial ck_X11 8 wfl_48 (by decide) rfl rfl rfl dX11_compare_102 (fun u1 => ?_)
    refine jf_lv [1, 2, 3, 0] rfl ?_
    exact jgX11_compare_105 hX N  x0 x1 x2 s0 u1
set_option maxRecDepth 20000 in
def gX11_compare_89 (N : Nat)   (x0 : Nat) (x1 : Int32) (x2 : Int32) (u : SG) : Option (Int32 × SG) := gX11_compare_90 N  x0 x1 x2 (0 : Int32) u
set_option maxRecDepth 20000 in
set_option maxHeartbeats 4000000 in
theorem jgX11_compare_89   {X : XT} (hX : Cx X yX11_compare cX11_compare 5 (some .boolean) 7 0 0) (N : Nat)  (x0 : Nat) (x1 : Int32) (x2 : Int32) (u : SG) : JF X True 5 0 0 (jQ X vI 0 0) 89 [(0, .ref x0), (1, .int x1), (2, .int x2)] [] u (gX11_compare_89 N   x0 x1 x2 u) := by
  unfold gX11_compare_89
  refine jf_iconst (v := 0) hX dX11_compare_89 (by decide) ?_
  refine jf_lv [0, 1, 2] rfl ?_
  exact jgX11_compare_90 hX N  x0 x1 x2 (0 : Int32) u
set_option maxRecDepth 20000 in
def gX11_compare_44 (N : Nat)   (x0 : Nat) (x1 : Int32) (x2 : Int32) (u : SG) : Option (Int32 × SG) := if zK u x0 = 12 then (if zK u x0 = 12 then bs (sI u x0 8 ((zI u x0 8) + (1 : Int32))) fun u1 => (if x1 = (61 : Int32) then (gX11_compare_89 N  x0 x1 x2 u1)
  else (if zK u1 x0 = 12 then (if zK u1 x0 = 12 then (if (zI u1 x0 1) ≤ (zI u1 x0 8) then (gX11_compare_89 N  x0 x1 x2 u1)
  else (if zK u1 x0 = 12 then (Option.bind (zR u1 x0 0) fun q2 => (if zK u1 x0 = 12 then (if zK u1 q2 = 21 then if (zI u1 x0 8) < 0 ∨ zN u1 q2 ≤ (zI u1 x0 8).toNatClampNeg then none else (if (zI u1 q2 (zI u1 x0 8).toNatClampNeg) = (61 : Int32) then (gX11_compare_90 N  x0 x1 x2 (1 : Int32) u1)
  else (gX11_compare_89 N  x0 x1 x2 u1)) else none) else none)) else none)) else none) else none)) else none) else none
set_option maxRecDepth 20000 in
set_option maxHeartbeats 4000000 in
theorem jgX11_compare_44   {X : XT} (hX : Cx X yX11_compare cX11_compare 5 (some .boolean) 7 0 0) (N : Nat)  (x0 : Nat) (x1 : Int32) (x2 : Int32) (u : SG) : JF X True 5 0 0 (jQ X vI 0 0) 44 [(0, .ref x0), (1, .int x1), (2, .int x2)] [] u (gX11_compare_44 N   x0 x1 x2 u) := by
  unfold gX11_compare_44
  refine jf_aload_n hX dX11_compare_44 0 rfl ?_
  refine jf_dup hX dX11_compare_45 rfl ?_
  refine jf_getI hX ck_X11 8 wfl_48 (by decide) rfl dX11_compare_46 ?_
  refine jf_iconst (v := 1) hX dX11_compare_49 (by decide) ?_
  refine jf_iadd hX dX11_compare_50 ?_
  refine jf_putI hX trivial ck_X11 8 wfl_48 (by decide) rfl rfl rfl dX11_compare_51 (fun u1 => ?_)
  refine jf_iload_n hX dX11_compare_54 1 rfl ?_
  refine jf_bipush (v := 61) hX dX11_compare_55 (by decide) ?_
  refine jf_icmp_eq (tgt := 89) hX dX11_compare_57 (by decide) ?_ ?_
  · refine jf_lv [0, 1, 2] rfl ?_
    exact jgX11_compare_89 hX N  x0 x1 x2 u1
  · refine jf_aload_n hX dX11_compare_60 0 rfl ?_
    refine jf_getI hX ck_X11 8 wfl_48 (by decide) rfl dX11_compare_61 ?_
    refine jf_aload_n hX dX11_compare_64 0 rfl ?_
    refine jf_getI hX ck_X11 1 wfl_43 (by decide) rfl dX11_compare_65 ?_
    refine jf_icmp_ge (tgt := 89) hX dX11_compare_68 (by decide) ?_ ?_
    · refine jf_lv [0, 1, 2] rfl ?_
      exact jgX11_compare_89 hX N  x0 x1 x2 u1
    · refine jf_aload_n hX dX11_compare_71 0 rfl ?_
      refine jf_getR hX ck_X11 0 wfl_20 (by decide) rfl dX11_compare_72 ?_
      refine jf_nn (fun q2 => ?_)
      refine jf_aload_n hX dX11_compare_75 0 rfl ?_
      refine jf_getI hX ck_X11 8 wfl_48 (by decide) rfl dX11_compare_76 ?_
      refine jf_bald hX dX11_compare_79 ?_
      refine jf_bipush (v := 61) hX dX11_compare_80 (by decide) ?_
      refine jf_icmp_ne (tgt := 89) hX dX11_compare_82 (by decide) ?_ ?_
      · refine jf_lv [0, 1, 2] rfl ?_
        exact jgX11_compare_89 hX N  x0 x1 x2 u1
      · refine jf_iconst (v := 1) hX dX11_compare_85 (by decide) ?_
        refine jf_goto (tgt := 90) hX dX11_compare_86 (by decide) ?_
        refine jf_lv [0, 1, 2] rfl ?_
        exact jgX11_compare_90 hX N  x0 x1 x2 (1 : Int32) u1
set_option maxRecDepth 20000 in
def fX11_compare (N : Nat)  (a0 : Nat) (u : SG) : Option (Int32 × SG) := if zK u a0 = 12 then cl (fX11_sum N a0 u) fun r1 u2 => (if r1 = 0 then (some ((0 : Int32), u2))
  else (if zK u2 a0 = 12 then cl (fX11_see N a0 u2) fun r3 u4 => (if zK u4 a0 = 12 then (bs (zI u4 a0 8) fun v5 => (if r3 = (60 : Int32) then (gX11_compare_44 N  a0 r3 v5 u4)
  else (if r3 = (61 : Int32) then (gX11_compare_44 N  a0 r3 v5 u4)
  else (if r3 = (62 : Int32) then (gX11_compare_44 N  a0 r3 v5 u4)
  else (if zK u4 a0 = 12 then cl (fX11_fails N a0 (0 : Int32) v5 u4) fun r6 u7 => (if r6 = 0 ∨ r6 = 1 then some (r6, u7) else none) else none))))) else none) else none)) else none
set_option maxRecDepth 20000 in
set_option maxHeartbeats 4000000 in
theorem kX11_compare  (N : Nat)  (l : Launch) (D : va_G) (cT : Nat → ClassId) (z0 : Nat) (ks : Nat × Nat) (a0 : Nat) (u : SG) : Ct l D cT z0 ks yX11_compare cX11_compare 5 (some .boolean) 7 0 0 vI [.ref a0] u (fX11_compare N  a0 u) := by
  unfold fX11_compare
  refine ct_of (by decide +kernel) (Nat.le_of_ble_eq_true rfl) (fun p e R s m args below meth c hX => ?_)
  show JF _ True 5 0 0 _ 0 [(0, .ref a0)] [] u _
  refine jf_aload_n hX dX11_compare_0 0 rfl ?_
  refine jf_callV (As := []) (st := []) hX mo_X11_sum wml_108 winst_109 wsel_110 11 ck_X11 rfl (fun l D cT z0 ks => kX11_sum N l D cT z0 ks a0 u) (by decide) (by decide) (by decide) (by decide) (Nat.le_of_ble_eq_true rfl) rfl rfl dX11_compare_1 (fun r1 u2 => ?_)
  refine jf_if_ne (tgt := 9) hX dX11_compare_4 (by decide) ?_ ?_
  · refine jf_aload_n hX dX11_compare_9 0 rfl ?_
    refine jf_callV (As := []) (st := []) hX mo_X11_see wml_49 winst_50 wsel_51 11 ck_X11 rfl (fun l D cT z0 ks => kX11_see N l D cT z0 ks a0 u2) (by decide) (by decide) (by decide) (by decide) (Nat.le_of_ble_eq_true rfl) rfl rfl dX11_compare_10 (fun r3 u4 => ?_)
    refine jf_istore_n (lv' := [(1, .int r3), (0, .ref a0)]) hX dX11_compare_13 rfl (by decide) rfl ?_
    refine jf_aload_n hX dX11_compare_14 1 rfl ?_
    refine jf_getI hX ck_X11 8 wfl_48 (by decide) rfl dX11_compare_15 ?_
    refine jf_nmI (fun v5 => ?_)
    refine jf_istore_n (lv' := [(2, .int v5), (1, .int r3), (0, .ref a0)]) hX dX11_compare_18 rfl (by decide) rfl ?_
    refine jf_iload_n hX dX11_compare_19 1 rfl ?_
    refine jf_bipush (v := 60) hX dX11_compare_20 (by decide) ?_
    refine jf_icmp_eq (tgt := 44) hX dX11_compare_22 (by decide) ?_ ?_
    · refine jf_lv [2, 1, 0] rfl ?_
      exact jgX11_compare_44 hX N  a0 r3 v5 u4
    · refine jf_iload_n hX dX11_compare_25 1 rfl ?_
      refine jf_bipush (v := 61) hX dX11_compare_26 (by decide) ?_
      refine jf_icmp_eq (tgt := 44) hX dX11_compare_28 (by decide) ?_ ?_
      · refine jf_lv [2, 1, 0] rfl ?_
        exact jgX11_compare_44 hX N  a0 r3 v5 u4
      · refine jf_iload_n hX dX11_compare_31 1 rfl ?_
        refine jf_bipush (v := 62) hX dX11_compare_32 (by decide) ?_
        refine jf_icmp_eq (tgt := 44) hX dX11_compare_34 (by decide) ?_ ?_
        · refine jf_lv [2, 1, 0] rfl ?_
          exact jgX11_compare_44 hX N  a0 r3 v5 u4
        · refine jf_aload_n hX dX11_compare_37 2 rfl ?_
          refine jf_iconst (v := 0) hX dX11_compare_38 (by decide) ?_
          refine jf_iload_n hX dX11_compare_39 0 rfl ?_
          refine jf_callV (As := [.int (0 : Int32), .int v5]) (st := []) hX mo_X11_fails wml_64 winst_65 wsel_66 11 ck_X11 rfl (fun l D cT z0 ks => kX11_fails N l D cT z0 ks a0 (0 : Int32) v5 u4) (by decide) (by decide) (by decide) (by decide) (Nat.le_of_ble_eq_true rfl) rfl rfl dX11_compare_40 (fun r6 u7 => ?_)
          exact jf_zret hX rfl (by decide) (by decide) dX11_compare_43
  · refine jf_iconst (v := 0) hX dX11_compare_7 (by decide) ?_
    exact jf_zretc hX rfl (by decide) (by decide) (by decide) dX11_compare_8
set_option maxRecDepth 20000 in
def gX11_fact_2 (N : Nat)   : Nat → Nat → Int32 → SG → Option (Int32 × SG)
  | 0, _, _, _ => none
  | n + 1, x0, x1, u => if x1 = 0 then (if zK u x0 = 12 then cl (fX11_compare N x0 u) fun r1 u2 => (if r1 = 0 ∨ r1 = 1 then some (r1, u2) else none) else none)
  else (if zK u x0 = 12 then cl (fX11_see N x0 u) fun r3 u4 => (if zK u4 x0 = 12 then cl (fX11_isWord N x0 (7237492 : Int64) u4) fun r5 u6 => (if r5 = 0 then (if r3 = (91 : Int32) then (if zK u6 x0 = 12 then cl (fX11_opens N x0 (91 : Int32) u6) fun r7 u8 => (if r7 = 0 then (some ((0 : Int32), u8))
  else (if zK u8 x0 = 12 then (if zK u8 x0 = 12 then bs (sI u8 x0 8 ((zI u8 x0 8) + (1 : Int32))) fun u9 => ((gX11_fact_2 N  n) x0 (1 : Int32) u9) else none) else none)) else none)
  else ((gX11_fact_2 N  n) x0 (0 : Int32) u6))
  else (if zK u6 x0 = 12 then cl (fX11_opens N x0 (11 : Int32) u6) fun r10 u11 => (if r10 = 0 then (some ((0 : Int32), u11))
  else (if zK u11 x0 = 12 then cl (fX11_passWord N x0 u11) fun r12 u13 => ((gX11_fact_2 N  n) x0 (1 : Int32) u13) else none)) else none)) else none) else none)
set_option maxRecDepth 20000 in
set_option maxHeartbeats 4000000 in
theorem jgX11_fact_2   {X : XT} (hX : Cx X yX11_fact cX11_fact 3 (some .boolean) 8 0 0) (N : Nat)  : ∀ (n : Nat) (x0 : Nat) (x1 : Int32) (u : SG), JF X True 3 0 0 (jQ X vI 0 0) 2 [(0, .ref x0), (1, .int x1)] [] u (gX11_fact_2 N   n x0 x1 u) := by
  intro n
  induction n with
  | zero => intros; intro r u9 h9; exact absurd h9 (by simp [gX11_fact_2])
  | succ n ih =>
    intro x0 x1 u
    have hrec2 := ih
    rw [gX11_fact_2]
    refine jf_iload_n hX dX11_fact_2 1 rfl ?_
    refine jf_if_eq (tgt := 75) hX dX11_fact_3 (by decide) ?_ ?_
    · refine jf_aload_n hX dX11_fact_75 0 rfl ?_
      refine jf_callV (As := []) (st := []) hX mo_X11_compare wml_111 winst_112 wsel_113 11 ck_X11 rfl (fun l D cT z0 ks => kX11_compare N l D cT z0 ks x0 u) (by decide) (by decide) (by decide) (by decide) (Nat.le_of_ble_eq_true rfl) rfl rfl dX11_fact_76 (fun r1 u2 => ?_)
      exact jf_zret hX rfl (by decide) (by decide) dX11_fact_79
    · refine jf_iconst (v := 0) hX dX11_fact_6 (by decide) ?_
      refine jf_istore_n (lv' := [(1, .int (0 : Int32)), (0, .ref x0)]) hX dX11_fact_7 rfl (by decide) rfl ?_
      refine jf_aload_n hX dX11_fact_8 1 rfl ?_
      refine jf_callV (As := []) (st := []) hX mo_X11_see wml_49 winst_50 wsel_51 11 ck_X11 rfl (fun l D cT z0 ks => kX11_see N l D cT z0 ks x0 u) (by decide) (by decide) (by decide) (by decide) (Nat.le_of_ble_eq_true rfl) rfl rfl dX11_fact_9 (fun r3 u4 => ?_)
      refine jf_istore_n (lv' := [(2, .int r3), (1, .int (0 : Int32)), (0, .ref x0)]) hX dX11_fact_12 rfl (by decide) rfl ?_
      refine jf_aload_n hX dX11_fact_13 2 rfl ?_
      refine jf_ldc2 (v := 7237492) hX dX11_fact_14 wconl_114 ?_
      refine jf_callV (As := [.long (7237492 : Int64)]) (st := []) hX mo_X11_isWord wml_55 winst_56 wsel_57 11 ck_X11 rfl (fun l D cT z0 ks => kX11_isWord N l D cT z0 ks x0 (7237492 : Int64) u4) (by decide) (by decide) (by decide) (by decide) (Nat.le_of_ble_eq_true rfl) rfl rfl dX11_fact_17 (fun r5 u6 => ?_)
      refine jf_if_eq (tgt := 43) hX dX11_fact_20 (by decide) ?_ ?_
      · refine jf_iload_n hX dX11_fact_43 0 rfl ?_
        refine jf_bipush (v := 91) hX dX11_fact_44 (by decide) ?_
        refine jf_icmp_ne (tgt := 72) hX dX11_fact_46 (by decide) ?_ ?_
        · refine jf_goto (tgt := 2) hX dX11_fact_72 (by decide) ?_
          refine jf_lv [2, 1] rfl ?_
          exact hrec2 x0 (0 : Int32) u6
        · refine jf_aload_n hX dX11_fact_49 2 rfl ?_
          refine jf_bipush (v := 91) hX dX11_fact_50 (by decide) ?_
          refine jf_callV (As := [.int (91 : Int32)]) (st := []) hX mo_X11_opens wml_115 winst_116 wsel_117 11 ck_X11 rfl (fun l D cT z0 ks => kX11_opens N l D cT z0 ks x0 (91 : Int32) u6) (by decide) (by decide) (by decide) (by decide) (Nat.le_of_ble_eq_true rfl) rfl rfl dX11_fact_52 (fun r7 u8 => ?_)
          refine jf_if_ne (tgt := 60) hX dX11_fact_55 (by decide) ?_ ?_
          · refine jf_aload_n hX dX11_fact_60 2 rfl ?_
            refine jf_dup hX dX11_fact_61 rfl ?_
            refine jf_getI hX ck_X11 8 wfl_48 (by decide) rfl dX11_fact_62 ?_
            refine jf_iconst (v := 1) hX dX11_fact_65 (by decide) ?_
            refine jf_iadd hX dX11_fact_66 ?_
            refine jf_putI hX trivial ck_X11 8 wfl_48 (by decide) rfl rfl rfl dX11_fact_67 (fun u9 => ?_)
            refine jf_iconst (v := 1) hX dX11_fact_70 (by decide) ?_
            refine jf_istore_n (lv' := [(1, .int (1 : Int32)), (2, .int r3), (0, .ref x0)]) hX dX11_fact_71 rfl (by decide) rfl ?_
            refine jf_goto (tgt := 2) hX dX11_fact_72 (by decide) ?_
            refine jf_lv [2, 0] rfl ?_
            exact hrec2 x0 (1 : Int32) u9
          · refine jf_iconst (v := 0) hX dX11_fact_58 (by decide) ?_
            exact jf_zretc hX rfl (by decide) (by decide) (by decide) dX11_fact_59
      · refine jf_aload_n hX dX11_fact_23 2 rfl ?_
        refine jf_bipush (v := 11) hX dX11_fact_24 (by decide) ?_
        refine jf_callV (As := [.int (11 : Int32)]) (st := []) hX mo_X11_opens wml_115 winst_116 wsel_117 11 ck_X11 rfl (fun l D cT z0 ks => kX11_opens N l D cT z0 ks x0 (11 : Int32) u6) (by decide) (by decide) (by decide) (by decide) (Nat.le_of_ble_eq_true rfl) rfl rfl dX11_fact_26 (fun r10 u11 => ?_)
        refine jf_if_ne (tgt := 34) hX dX11_fact_29 (by decide) ?_ ?_
        · refine jf_aload_n hX dX11_fact_34 2 rfl ?_
          refine jf_callV (As := []) (st := []) hX mo_X11_passWord wml_58 winst_59 wsel_60 11 ck_X11 rfl (fun l D cT z0 ks => kX11_passWord N l D cT z0 ks x0 u11) (by decide) (by decide) (by decide) (by decide) (Nat.le_of_ble_eq_true rfl) rfl rfl dX11_fact_35 (fun r12 u13 => ?_)
          refine jf_iconst (v := 1) hX dX11_fact_38 (by decide) ?_
          refine jf_istore_n (lv' := [(1, .int (1 : Int32)), (2, .int r3), (0, .ref x0)]) hX dX11_fact_39 rfl (by decide) rfl ?_
          refine jf_goto (tgt := 72) hX dX11_fact_40 (by decide) ?_
          refine jf_goto (tgt := 2) hX dX11_fact_72 (by decide) ?_
          refine jf_lv [2, 0] rfl ?_
          exact hrec2 x0 (1 : Int32) u13
        · refine jf_iconst (v := 0) hX dX11_fact_32 (by decide) ?_
          exact jf_zretc hX rfl (by decide) (by decide) (by decide) dX11_fact_33
set_option maxRecDepth 20000 in
def fX11_fact (N : Nat)  (a0 : Nat) (u : SG) : Option (Int32 × SG) := gX11_fact_2 N  N a0 (1 : Int32) u
set_option maxRecDepth 20000 in
set_option maxHeartbeats 4000000 in
theorem kX11_fact  (N : Nat)  (l : Launch) (D : va_G) (cT : Nat → ClassId) (z0 : Nat) (ks : Nat × Nat) (a0 : Nat) (u : SG) : Ct l D cT z0 ks yX11_fact cX11_fact 3 (some .boolean) 8 0 0 vI [.ref a0] u (fX11_fact N  a0 u) := by
  unfold fX11_fact
  refine ct_of (by decide +kernel) (Nat.le_of_ble_eq_true rfl) (fun p e R s m args below meth c hX => ?_)
  show JF _ True 3 0 0 _ 0 [(0, .ref a0)] [] u _
  refine jf_iconst (v := 1) hX dX11_fact_0 (by decide) ?_
  refine jf_istore_n (lv' := [(1, .int (1 : Int32)), (0, .ref a0)]) hX dX11_fact_1 rfl (by decide) rfl ?_
  refine jf_lv [1, 0] rfl ?_
  exact jgX11_fact_2 hX N  N a0 (1 : Int32) u
set_option maxRecDepth 20000 in
def gX11_isInside_2 (N : Nat)   : Nat → Nat → Int32 → SG → Option (Int32 × SG)
  | 0, _, _, _ => none
  | n + 1, x0, x1, u => if zK u x0 = 12 then (if (zI u x0 16) ≤ x1 then (some ((0 : Int32), u))
  else (if zK u x0 = 12 then (Option.bind (zR u x0 15) fun q1 => (if zK u q1 = 22 then if x1 < 0 ∨ zN u q1 ≤ x1.toNatClampNeg then none else (if (zI u q1 x1.toNatClampNeg) = (91 : Int32) then (some ((1 : Int32), u))
  else ((gX11_isInside_2 N  n) x0 (x1 + (1 : Int32)) u)) else none)) else none)) else none
set_option maxRecDepth 20000 in
set_option maxHeartbeats 4000000 in
theorem jgX11_isInside_2   {X : XT} (hX : Cx X yX11_isInside cX11_isInside 2 (some .boolean) 1 0 0) (N : Nat)  : ∀ (n : Nat) (x0 : Nat) (x1 : Int32) (u : SG), JF X True 2 0 0 (jQ X vI 0 0) 2 [(0, .ref x0), (1, .int x1)] [] u (gX11_isInside_2 N   n x0 x1 u) := by
  intro n
  induction n with
  | zero => intros; intro r u9 h9; exact absurd h9 (by simp [gX11_isInside_2])
  | succ n ih =>
    intro x0 x1 u
    have hrec2 := ih
    rw [gX11_isInside_2]
    refine jf_iload_n hX dX11_isInside_2 1 rfl ?_
    refine jf_aload_n hX dX11_isInside_3 0 rfl ?_
    refine jf_getI hX ck_X11 16 wfl_86 (by decide) rfl dX11_isInside_4 ?_
    refine jf_icmp_ge (tgt := 29) hX dX11_isInside_7 (by decide) ?_ ?_
    · refine jf_iconst (v := 0) hX dX11_isInside_29 (by decide) ?_
      exact jf_zretc hX rfl (by decide) (by decide) (by decide) dX11_isInside_30
    · refine jf_aload_n hX dX11_isInside_10 0 rfl ?_
      refine jf_getR hX ck_X11 15 wfl_27 (by decide) rfl dX11_isInside_11 ?_
      refine jf_nn (fun q1 => ?_)
      refine jf_iload_n hX dX11_isInside_14 1 rfl ?_
      refine jf_iald hX dX11_isInside_15 ?_
      refine jf_bipush (v := 91) hX dX11_isInside_16 (by decide) ?_
      refine jf_icmp_ne (tgt := 23) hX dX11_isInside_18 (by decide) ?_ ?_
      · refine jf_iinc (v := 1) (lv' := [(1, .int (x1 + (1 : Int32))), (0, .ref x0)]) hX dX11_isInside_23 1 rfl (by decide) (by decide) rfl ?_
        refine jf_goto (tgt := 2) hX dX11_isInside_26 (by decide) ?_
        refine jf_lv [1, 0] rfl ?_
        exact hrec2 x0 (x1 + (1 : Int32)) u
      · refine jf_iconst (v := 1) hX dX11_isInside_21 (by decide) ?_
        exact jf_zretc hX rfl (by decide) (by decide) (by decide) dX11_isInside_22
set_option maxRecDepth 20000 in
def fX11_isInside (N : Nat)  (a0 : Nat) (u : SG) : Option (Int32 × SG) := gX11_isInside_2 N  N a0 (0 : Int32) u
set_option maxRecDepth 20000 in
set_option maxHeartbeats 4000000 in
theorem kX11_isInside  (N : Nat)  (l : Launch) (D : va_G) (cT : Nat → ClassId) (z0 : Nat) (ks : Nat × Nat) (a0 : Nat) (u : SG) : Ct l D cT z0 ks yX11_isInside cX11_isInside 2 (some .boolean) 1 0 0 vI [.ref a0] u (fX11_isInside N  a0 u) := by
  unfold fX11_isInside
  refine ct_of (by decide +kernel) (Nat.le_of_ble_eq_true rfl) (fun p e R s m args below meth c hX => ?_)
  show JF _ True 2 0 0 _ 0 [(0, .ref a0)] [] u _
  refine jf_iconst (v := 0) hX dX11_isInside_0 (by decide) ?_
  refine jf_istore_n (lv' := [(1, .int (0 : Int32)), (0, .ref a0)]) hX dX11_isInside_1 rfl (by decide) rfl ?_
  refine jf_lv [1, 0] rfl ?_
  exact jgX11_isInside_2 hX N  N a0 (0 : Int32) u
set_option maxRecDepth 20000 in
def gX11_closes_5 (N : Nat)   : Nat → Nat → SG → Option (Unit × SG)
  | 0, _, _ => none
  | n + 1, x0, u => if zK u x0 = 12 then cl (fX11_see N x0 u) fun r1 u2 => (if r1 = (93 : Int32) then (if zK u2 x0 = 12 then cl (fX11_isInside N x0 u2) fun r3 u4 => (if r3 = 0 then (some ((), u4))
  else (if zK u4 x0 = 12 then cl (fX11_settles N x0 (1 : Int32) u4) fun r5 u6 => (if zK u6 x0 = 12 then (if zK u6 x0 = 12 then bs (sI u6 x0 16 ((zI u6 x0 16) - (1 : Int32))) fun u7 => (if zK u7 x0 = 12 then (if zK u7 x0 = 12 then bs (sI u7 x0 13 ((zI u7 x0 13) - (1 : Int32))) fun u8 => (if zK u8 x0 = 12 then (if zK u8 x0 = 12 then bs (sI u8 x0 8 ((zI u8 x0 8) + (1 : Int32))) fun u9 => (if zK u9 x0 = 12 then cl (fX11_settles N x0 (3 : Int32) u9) fun r10 u11 => ((gX11_closes_5 N  n) x0 u11) else none) else none) else none) else none) else none) else none) else none) else none)) else none)
  else (some ((), u2))) else none
set_option maxRecDepth 20000 in
set_option maxHeartbeats 4000000 in
theorem jgX11_closes_5   {X : XT} (hX : Cx X yX11_closes cX11_closes 1 none 3 0 0) (N : Nat)  : ∀ (n : Nat) (x0 : Nat) (u : SG), JF X True 1 0 0 (jQ X vU 0 0) 5 [(0, .ref x0)] [] u (gX11_closes_5 N   n x0 u) := by
  intro n
  induction n with
  | zero => intros; intro r u9 h9; exact absurd h9 (by simp [gX11_closes_5])
  | succ n ih =>
    intro x0 u
    have hrec5 := ih
    rw [gX11_closes_5]
    refine jf_aload_n hX dX11_closes_5 0 rfl ?_
    refine jf_callV (As := []) (st := []) hX mo_X11_see wml_49 winst_50 wsel_51 11 ck_X11 rfl (fun l D cT z0 ks => kX11_see N l D cT z0 ks x0 u) (by decide) (by decide) (by decide) (by decide) (Nat.le_of_ble_eq_true rfl) rfl rfl dX11_closes_6 (fun r1 u2 => ?_)
    refine jf_bipush (v := 93) hX dX11_closes_9 (by decide) ?_
    refine jf_icmp_ne (tgt := 64) hX dX11_closes_11 (by decide) ?_ ?_
    · exact jf_vret hX rfl (by decide) (by decide) dX11_closes_64
    · refine jf_aload_n hX dX11_closes_14 0 rfl ?_
      refine jf_callV (As := []) (st := []) hX mo_X11_isInside wml_121 winst_122 wsel_123 11 ck_X11 rfl (fun l D cT z0 ks => kX11_isInside N l D cT z0 ks x0 u2) (by decide) (by decide) (by decide) (by decide) (Nat.le_of_ble_eq_true rfl) rfl rfl dX11_closes_15 (fun r3 u4 => ?_)
      refine jf_if_eq (tgt := 64) hX dX11_closes_18 (by decide) ?_ ?_
      · exact jf_vret hX rfl (by decide) (by decide) dX11_closes_64
      · refine jf_aload_n hX dX11_closes_21 0 rfl ?_
        refine jf_iconst (v := 1) hX dX11_closes_22 (by decide) ?_
        refine jf_callV (As := [.int (1 : Int32)]) (st := []) hX mo_X11_settles wml_118 winst_119 wsel_120 11 ck_X11 rfl (fun l D cT z0 ks => kX11_settles N l D cT z0 ks x0 (1 : Int32) u4) (by decide) (by decide) (by decide) (by decide) (Nat.le_of_ble_eq_true rfl) rfl rfl dX11_closes_23 (fun r5 u6 => ?_)
        refine jf_aload_n hX dX11_closes_26 0 rfl ?_
        refine jf_dup hX dX11_closes_27 rfl ?_
        refine jf_getI hX ck_X11 16 wfl_86 (by decide) rfl dX11_closes_28 ?_
        refine jf_iconst (v := 1) hX dX11_closes_31 (by decide) ?_
        refine jf_isub hX dX11_closes_32 ?_
        refine jf_putI hX trivial ck_X11 16 wfl_86 (by decide) rfl rfl rfl dX11_closes_33 (fun u7 => ?_)
        refine jf_aload_n hX dX11_closes_36 0 rfl ?_
        refine jf_dup hX dX11_closes_37 rfl ?_
        refine jf_getI hX ck_X11 13 wfl_85 (by decide) rfl dX11_closes_38 ?_
        refine jf_iconst (v := 1) hX dX11_closes_41 (by decide) ?_
        refine jf_isub hX dX11_closes_42 ?_
        refine jf_putI hX trivial ck_X11 13 wfl_85 (by decide) rfl rfl rfl dX11_closes_43 (fun u8 => ?_)
        refine jf_aload_n hX dX11_closes_46 0 rfl ?_
        refine jf_dup hX dX11_closes_47 rfl ?_
        refine jf_getI hX ck_X11 8 wfl_48 (by decide) rfl dX11_closes_48 ?_
        refine jf_iconst (v := 1) hX dX11_closes_51 (by decide) ?_
        refine jf_iadd hX dX11_closes_52 ?_
        refine jf_putI hX trivial ck_X11 8 wfl_48 (by decide) rfl rfl rfl dX11_closes_53 (fun u9 => ?_)
        refine jf_aload_n hX dX11_closes_56 0 rfl ?_
        refine jf_iconst (v := 3) hX dX11_closes_57 (by decide) ?_
        refine jf_callV (As := [.int (3 : Int32)]) (st := []) hX mo_X11_settles wml_118 winst_119 wsel_120 11 ck_X11 rfl (fun l D cT z0 ks => kX11_settles N l D cT z0 ks x0 (3 : Int32) u9) (by decide) (by decide) (by decide) (by decide) (Nat.le_of_ble_eq_true rfl) rfl rfl dX11_closes_58 (fun r10 u11 => ?_)
        refine jf_goto (tgt := 5) hX dX11_closes_61 (by decide) ?_
        refine jf_lv [0] rfl ?_
        exact hrec5 x0 u11
set_option maxRecDepth 20000 in
def fX11_closes (N : Nat)  (a0 : Nat) (u : SG) : Option (Unit × SG) := if zK u a0 = 12 then cl (fX11_settles N a0 (3 : Int32) u) fun r1 u2 => (gX11_closes_5 N  N a0 u2) else none
set_option maxRecDepth 20000 in
set_option maxHeartbeats 4000000 in
theorem kX11_closes  (N : Nat)  (l : Launch) (D : va_G) (cT : Nat → ClassId) (z0 : Nat) (ks : Nat × Nat) (a0 : Nat) (u : SG) : Ct l D cT z0 ks yX11_closes cX11_closes 1 none 3 0 0 vU [.ref a0] u (fX11_closes N  a0 u) := by
  unfold fX11_closes
  refine ct_of (by decide +kernel) (Nat.le_of_ble_eq_true rfl) (fun p e R s m args below meth c hX => ?_)
  show JF _ True 1 0 0 _ 0 [(0, .ref a0)] [] u _
  refine jf_aload_n hX dX11_closes_0 0 rfl ?_
  refine jf_iconst (v := 3) hX dX11_closes_1 (by decide) ?_
  refine jf_callV (As := [.int (3 : Int32)]) (st := []) hX mo_X11_settles wml_118 winst_119 wsel_120 11 ck_X11 rfl (fun l D cT z0 ks => kX11_settles N l D cT z0 ks a0 (3 : Int32) u) (by decide) (by decide) (by decide) (by decide) (Nat.le_of_ble_eq_true rfl) rfl rfl dX11_closes_2 (fun r1 u2 => ?_)
  refine jf_lv [0] rfl ?_
  exact jgX11_closes_5 hX N  N a0 u2
set_option maxRecDepth 20000 in
def gX11_tested_76 (N : Nat)  (rec12 : Nat → Int32 → SG → Option (Int32 × SG)) (x0 : Nat) (x1 : Int32) (s0 : Int32) (u : SG) : Option (Int32 × SG) := if zK u x0 = 12 then cl (fX11_passWord N x0 u) fun r1 u2 => (cl (fX11_strength N s0 u2) fun r3 u4 => (if zK u4 x0 = 12 then cl (fX11_settles N x0 r3 u4) fun r5 u6 => (if zK u6 x0 = 12 then (Option.bind (zR u6 x0 15) fun q7 => (if zK u6 x0 = 12 then (if zK u6 q7 = 22 then if (zI u6 x0 16) < 0 ∨ zN u6 q7 ≤ (zI u6 x0 16).toNatClampNeg then none else bs (sI u6 q7 (zI u6 x0 16).toNatClampNeg s0) fun u8 => (if zK u8 x0 = 12 then (if zK u8 x0 = 12 then bs (sI u8 x0 16 ((zI u8 x0 16) + (1 : Int32))) fun u9 => (rec12 x0 x1 u9) else none) else none) else none) else none)) else none) else none)) else none
set_option maxRecDepth 20000 in
set_option maxHeartbeats 4000000 in
theorem jgX11_tested_76 {rec12 : Nat → Int32 → SG → Option (Int32 × SG)}  {X : XT} (hX : Cx X yX11_tested cX11_tested 3 (some .boolean) 9 0 0) (N : Nat) (hrec12 : ∀ (x0 : Nat) (x1 : Int32)  (u : SG), JF X True 3 0 0 (jQ X vI 0 0) 12 [(0, .ref x0), (1, .int x1)] [] u (rec12 x0 x1  u)) (x0 : Nat) (x1 : Int32) (s0 : Int32) (u : SG) : JF X True 3 0 0 (jQ X vI 0 0) 76 [(0, .ref x0), (1, .int x1)] [.int s0] u (gX11_tested_76 N  rec12 x0 x1 s0 u) := by
  unfold gX11_tested_76
  refine jf_istore_n (lv' := [(2, .int s0), (0, .ref x0), (1, .int x1)]) hX dX11_tested_76 rfl (by decide) rfl ?_
  refine jf_aload_n hX dX11_tested_77 1 rfl ?_
  refine jf_callV (As := []) (st := []) hX mo_X11_passWord wml_58 winst_59 wsel_60 11 ck_X11 rfl (fun l D cT z0 ks => kX11_passWord N l D cT z0 ks x0 u) (by decide) (by decide) (by decide) (by decide) (Nat.le_of_ble_eq_true rfl) rfl rfl dX11_tested_78 (fun r1 u2 => ?_)
  refine jf_aload_n hX dX11_tested_81 1 rfl ?_
  refine jf_iload_n hX dX11_tested_82 0 rfl ?_
  refine jf_callS (As := [.int s0]) (st := [.ref x0]) hX mo_X11_strength wml_87 wstat_88 rfl (fun l D cT z0 ks => kX11_strength N l D cT z0 ks s0 u2) (by decide) (by decide) (by decide) (by decide) (Nat.le_of_ble_eq_true rfl) rfl rfl dX11_tested_83 (fun r3 u4 => ?_)
  refine jf_callV (As := [.int r3]) (st := []) hX mo_X11_settles wml_118 winst_119 wsel_120 11 ck_X11 rfl (fun l D cT z0 ks => kX11_settles N l D cT z0 ks x0 r3 u4) (by decide) (by decide) (by decide) (by decide) (Nat.le_of_ble_eq_true rfl) rfl rfl dX11_tested_86 (fun r5 u6 => ?_)
  refine jf_aload_n hX dX11_tested_89 1 rfl ?_
  refine jf_getR hX ck_X11 15 wfl_27 (by decide) rfl dX11_tested_90 ?_
  refine jf_nn (fun q7 => ?_)
  refine jf_aload_n hX dX11_tested_93 1 rfl ?_
  refine jf_getI hX ck_X11 16 wfl_86 (by decide) rfl dX11_tested_94 ?_
  refine jf_iload_n hX dX11_tested_97 0 rfl ?_
  refine jf_iast hX trivial dX11_tested_98 (fun u8 => ?_)
  refine jf_aload_n hX dX11_tested_99 1 rfl ?_
  refine jf_dup hX dX11_tested_100 rfl ?_
  refine jf_getI hX ck_X11 16 wfl_86 (by decide) rfl dX11_tested_101 ?_
  refine jf_iconst (v := 1) hX dX11_tested_104 (by decide) ?_
  refine jf_iadd hX dX11_tested_105 ?_
  refine jf_putI hX trivial ck_X11 16 wfl_86 (by decide) rfl rfl rfl dX11_tested_106 (fun u9 => ?_)
  refine jf_goto (tgt := 12) hX dX11_tested_109 (by decide) ?_
  refine jf_lv [1, 2] rfl ?_
  exact hrec12 x0 x1 u9
set_option maxRecDepth 20000 in
def gX11_tested_54 (N : Nat)  (rec12 : Nat → Int32 → SG → Option (Int32 × SG)) (x0 : Nat) (s0 : Int32) (u : SG) : Option (Int32 × SG) := if s0 = 0 then (rec12 x0 s0 u)
  else (if zK u x0 = 12 then cl (fX11_isWord N x0 (6385252 : Int64) u) fun r1 u2 => (if r1 = 0 then (gX11_tested_76 N rec12 x0 s0 (13 : Int32) u2)
  else (gX11_tested_76 N rec12 x0 s0 (12 : Int32) u2)) else none)
set_option maxRecDepth 20000 in
set_option maxHeartbeats 4000000 in
theorem jgX11_tested_54 {rec12 : Nat → Int32 → SG → Option (Int32 × SG)}  {X : XT} (hX : Cx X yX11_tested cX11_tested 3 (some .boolean) 9 0 0) (N : Nat) (hrec12 : ∀ (x0 : Nat) (x1 : Int32)  (u : SG), JF X True 3 0 0 (jQ X vI 0 0) 12 [(0, .ref x0), (1, .int x1)] [] u (rec12 x0 x1  u)) (x0 : Nat) (s0 : Int32) (u : SG) : JF X True 3 0 0 (jQ X vI 0 0) 54 [(0, .ref x0)] [.int s0] u (gX11_tested_54 N  rec12 x0 s0 u) := by
  unfold gX11_tested_54
  refine jf_istore_n (lv' := [(1, .int s0), (0, .ref x0)]) hX dX11_tested_54 rfl (by decide) rfl ?_
  refine jf_iload_n hX dX11_tested_55 0 rfl ?_
  refine jf_if_eq (tgt := 12) hX dX11_tested_56 (by decide) ?_ ?_
  · refine jf_lv [1, 0] rfl ?_
    exact hrec12 x0 s0 u
  · refine jf_aload_n hX dX11_tested_59 1 rfl ?_
    refine jf_ldc2 (v := 6385252) hX dX11_tested_60 wconl_130 ?_
    refine jf_callV (As := [.long (6385252 : Int64)]) (st := []) hX mo_X11_isWord wml_55 winst_56 wsel_57 11 ck_X11 rfl (fun l D cT z0 ks => kX11_isWord N l D cT z0 ks x0 (6385252 : Int64) u) (by decide) (by decide) (by decide) (by decide) (Nat.le_of_ble_eq_true rfl) rfl rfl dX11_tested_63 (fun r1 u2 => ?_)
    refine jf_if_eq (tgt := 74) hX dX11_tested_66 (by decide) ?_ ?_
    · refine jf_bipush (v := 13) hX dX11_tested_74 (by decide) ?_
      refine jf_lv [1, 0] rfl ?_
      exact jgX11_tested_76 hX N hrec12 x0 s0 (13 : Int32) u2
    · refine jf_bipush (v := 12) hX dX11_tested_69 (by decide) ?_
      refine jf_goto (tgt := 76) hX dX11_tested_71 (by decide) ?_
      refine jf_lv [1, 0] rfl ?_
      exact jgX11_tested_76 hX N hrec12 x0 s0 (12 : Int32) u2
set_option maxRecDepth 20000 in
def gX11_tested_49 (N : Nat)  (rec12 : Nat → Int32 → SG → Option (Int32 × SG)) (x0 : Nat) (u : SG) : Option (Int32 × SG) := gX11_tested_54 N rec12 x0 (1 : Int32) u
set_option maxRecDepth 20000 in
set_option maxHeartbeats 4000000 in
theorem jgX11_tested_49 {rec12 : Nat → Int32 → SG → Option (Int32 × SG)}  {X : XT} (hX : Cx X yX11_tested cX11_tested 3 (some .boolean) 9 0 0) (N : Nat) (hrec12 : ∀ (x0 : Nat) (x1 : Int32)  (u : SG), JF X True 3 0 0 (jQ X vI 0 0) 12 [(0, .ref x0), (1, .int x1)] [] u (rec12 x0 x1  u)) (x0 : Nat) (u : SG) : JF X True 3 0 0 (jQ X vI 0 0) 49 [(0, .ref x0)] [] u (gX11_tested_49 N  rec12 x0 u) := by
  unfold gX11_tested_49
  refine jf_iconst (v := 1) hX dX11_tested_49 (by decide) ?_
  refine jf_goto (tgt := 54) hX dX11_tested_50 (by decide) ?_
  refine jf_lv [0] rfl ?_
  exact jgX11_tested_54 hX N hrec12 x0 (1 : Int32) u
set_option maxRecDepth 20000 in
def gX11_tested_12 (N : Nat)   : Nat → Nat → Int32 → SG → Option (Int32 × SG)
  | 0, _, _, _ => none
  | n + 1, x0, x1, u => if x1 = 0 then (if zK u x0 = 12 then cl (fX11_isInside N x0 u) fun r1 u2 => (if r1 = 0 then (if zK u2 x0 = 12 then cl (fX11_settles N x0 (1 : Int32) u2) fun r3 u4 => (some ((1 : Int32), u4)) else none)
  else (if zK u2 x0 = 12 then cl (fX11_see N x0 u2) fun r5 u6 => (if zK u6 x0 = 12 then (if zK u6 x0 = 12 then cl (fX11_fails N x0 (0 : Int32) (zI u6 x0 8) u6) fun r7 u8 => (if r7 = 0 ∨ r7 = 1 then some (r7, u8) else none) else none) else none) else none)) else none)
  else (if zK u x0 = 12 then cl (fX11_fact N x0 u) fun r9 u10 => (if r9 = 0 then (some ((0 : Int32), u10))
  else (if zK u10 x0 = 12 then cl (fX11_closes N x0 u10) fun r11 u12 => (if zK u12 x0 = 12 then cl (fX11_isWord N x0 (6385252 : Int64) u12) fun r13 u14 => (if r13 = 0 then (if zK u14 x0 = 12 then cl (fX11_isWord N x0 (28530 : Int64) u14) fun r15 u16 => (if r15 = 0 then (gX11_tested_54 N (gX11_tested_12 N  n) x0 (0 : Int32) u16)
  else (gX11_tested_49 N (gX11_tested_12 N  n) x0 u16)) else none)
  else (gX11_tested_49 N (gX11_tested_12 N  n) x0 u14)) else none) else none)) else none)
set_option maxRecDepth 20000 in
set_option maxHeartbeats 4000000 in
theorem jgX11_tested_12   {X : XT} (hX : Cx X yX11_tested cX11_tested 3 (some .boolean) 9 0 0) (N : Nat)  : ∀ (n : Nat) (x0 : Nat) (x1 : Int32) (u : SG), JF X True 3 0 0 (jQ X vI 0 0) 12 [(0, .ref x0), (1, .int x1)] [] u (gX11_tested_12 N   n x0 x1 u) := by
  intro n
  induction n with
  | zero => intros; intro r u9 h9; exact absurd h9 (by simp [gX11_tested_12])
  | succ n ih =>
    intro x0 x1 u
    have hrec12 := ih
    rw [gX11_tested_12]
    refine jf_iload_n hX dX11_tested_12 1 rfl ?_
    refine jf_if_eq (tgt := 112) hX dX11_tested_13 (by decide) ?_ ?_
    · refine jf_aload_n hX dX11_tested_112 0 rfl ?_
      refine jf_callV (As := []) (st := []) hX mo_X11_isInside wml_121 winst_122 wsel_123 11 ck_X11 rfl (fun l D cT z0 ks => kX11_isInside N l D cT z0 ks x0 u) (by decide) (by decide) (by decide) (by decide) (Nat.le_of_ble_eq_true rfl) rfl rfl dX11_tested_113 (fun r1 u2 => ?_)
      refine jf_if_eq (tgt := 134) hX dX11_tested_116 (by decide) ?_ ?_
      · refine jf_aload_n hX dX11_tested_134 0 rfl ?_
        refine jf_iconst (v := 1) hX dX11_tested_135 (by decide) ?_
        refine jf_callV (As := [.int (1 : Int32)]) (st := []) hX mo_X11_settles wml_118 winst_119 wsel_120 11 ck_X11 rfl (fun l D cT z0 ks => kX11_settles N l D cT z0 ks x0 (1 : Int32) u2) (by decide) (by decide) (by decide) (by decide) (Nat.le_of_ble_eq_true rfl) rfl rfl dX11_tested_136 (fun r3 u4 => ?_)
        refine jf_iconst (v := 1) hX dX11_tested_139 (by decide) ?_
        exact jf_zretc hX rfl (by decide) (by decide) (by decide) dX11_tested_140
      · refine jf_aload_n hX dX11_tested_119 0 rfl ?_
        refine jf_callV (As := []) (st := []) hX mo_X11_see wml_49 winst_50 wsel_51 11 ck_X11 rfl (fun l D cT z0 ks => kX11_see N l D cT z0 ks x0 u2) (by decide) (by decide) (by decide) (by decide) (Nat.le_of_ble_eq_true rfl) rfl rfl dX11_tested_120 (fun r5 u6 => ?_)
        refine jf_pop hX dX11_tested_123 rfl ?_
        refine jf_aload_n hX dX11_tested_124 0 rfl ?_
        refine jf_iconst (v := 0) hX dX11_tested_125 (by decide) ?_
        refine jf_aload_n hX dX11_tested_126 0 rfl ?_
        refine jf_getI hX ck_X11 8 wfl_48 (by decide) rfl dX11_tested_127 ?_
        refine jf_callV (As := [.int (0 : Int32), .int (zI u6 x0 8)]) (st := []) hX mo_X11_fails wml_64 winst_65 wsel_66 11 ck_X11 rfl (fun l D cT z0 ks => kX11_fails N l D cT z0 ks x0 (0 : Int32) (zI u6 x0 8) u6) (by decide) (by decide) (by decide) (by decide) (Nat.le_of_ble_eq_true rfl) rfl rfl dX11_tested_130 (fun r7 u8 => ?_)
        exact jf_zret hX rfl (by decide) (by decide) dX11_tested_133
    · refine jf_aload_n hX dX11_tested_16 0 rfl ?_
      refine jf_callV (As := []) (st := []) hX mo_X11_fact wml_124 winst_125 wsel_126 11 ck_X11 rfl (fun l D cT z0 ks => kX11_fact N l D cT z0 ks x0 u) (by decide) (by decide) (by decide) (by decide) (Nat.le_of_ble_eq_true rfl) rfl rfl dX11_tested_17 (fun r9 u10 => ?_)
      refine jf_if_ne (tgt := 25) hX dX11_tested_20 (by decide) ?_ ?_
      · refine jf_aload_n hX dX11_tested_25 0 rfl ?_
        refine jf_callV (As := []) (st := []) hX mo_X11_closes wml_127 winst_128 wsel_129 11 ck_X11 rfl (fun l D cT z0 ks => kX11_closes N l D cT z0 ks x0 u10) (by decide) (by decide) (by decide) (by decide) (Nat.le_of_ble_eq_true rfl) rfl rfl dX11_tested_26 (fun r11 u12 => ?_)
        refine jf_aload_n hX dX11_tested_29 0 rfl ?_
        refine jf_ldc2 (v := 6385252) hX dX11_tested_30 wconl_130 ?_
        refine jf_callV (As := [.long (6385252 : Int64)]) (st := []) hX mo_X11_isWord wml_55 winst_56 wsel_57 11 ck_X11 rfl (fun l D cT z0 ks => kX11_isWord N l D cT z0 ks x0 (6385252 : Int64) u12) (by decide) (by decide) (by decide) (by decide) (Nat.le_of_ble_eq_true rfl) rfl rfl dX11_tested_33 (fun r13 u14 => ?_)
        refine jf_if_ne (tgt := 49) hX dX11_tested_36 (by decide) ?_ ?_
        · refine jf_lv [0] rfl ?_
          exact jgX11_tested_49 hX N hrec12 x0 u14
        · refine jf_aload_n hX dX11_tested_39 0 rfl ?_
          refine jf_ldc2 (v := 28530) hX dX11_tested_40 wconl_131 ?_
          refine jf_callV (As := [.long (28530 : Int64)]) (st := []) hX mo_X11_isWord wml_55 winst_56 wsel_57 11 ck_X11 rfl (fun l D cT z0 ks => kX11_isWord N l D cT z0 ks x0 (28530 : Int64) u14) (by decide) (by decide) (by decide) (by decide) (Nat.le_of_ble_eq_true rfl) rfl rfl dX11_tested_43 (fun r15 u16 => ?_)
          refine jf_if_eq (tgt := 53) hX dX11_tested_46 (by decide) ?_ ?_
          · refine jf_iconst (v := 0) hX dX11_tested_53 (by decide) ?_
            refine jf_lv [0] rfl ?_
            exact jgX11_tested_54 hX N hrec12 x0 (0 : Int32) u16
          · refine jf_lv [0] rfl ?_
            exact jgX11_tested_49 hX N hrec12 x0 u16
      · refine jf_iconst (v := 0) hX dX11_tested_23 (by decide) ?_
        exact jf_zretc hX rfl (by decide) (by decide) (by decide) dX11_tested_24
set_option maxRecDepth 20000 in
def fX11_tested (N : Nat)  (a0 : Nat) (u : SG) : Option (Int32 × SG) := if zK u a0 = 12 then bs (sI u a0 16 (0 : Int32)) fun u1 => (if zK u1 a0 = 12 then bs (sI u1 a0 13 (0 : Int32)) fun u2 => (gX11_tested_12 N  N a0 (1 : Int32) u2) else none) else none
set_option maxRecDepth 20000 in
set_option maxHeartbeats 4000000 in
theorem kX11_tested  (N : Nat)  (l : Launch) (D : va_G) (cT : Nat → ClassId) (z0 : Nat) (ks : Nat × Nat) (a0 : Nat) (u : SG) : Ct l D cT z0 ks yX11_tested cX11_tested 3 (some .boolean) 9 0 0 vI [.ref a0] u (fX11_tested N  a0 u) := by
  unfold fX11_tested
  refine ct_of (by decide +kernel) (Nat.le_of_ble_eq_true rfl) (fun p e R s m args below meth c hX => ?_)
  show JF _ True 3 0 0 _ 0 [(0, .ref a0)] [] u _
  refine jf_aload_n hX dX11_tested_0 0 rfl ?_
  refine jf_iconst (v := 0) hX dX11_tested_1 (by decide) ?_
  refine jf_putI hX trivial ck_X11 16 wfl_86 (by decide) rfl rfl rfl dX11_tested_2 (fun u1 => ?_)
  refine jf_aload_n hX dX11_tested_5 0 rfl ?_
  refine jf_iconst (v := 0) hX dX11_tested_6 (by decide) ?_
  refine jf_putI hX trivial ck_X11 13 wfl_85 (by decide) rfl rfl rfl dX11_tested_7 (fun u2 => ?_)
  refine jf_iconst (v := 1) hX dX11_tested_10 (by decide) ?_
  refine jf_istore_n (lv' := [(1, .int (1 : Int32)), (0, .ref a0)]) hX dX11_tested_11 rfl (by decide) rfl ?_
  refine jf_lv [1, 0] rfl ?_
  exact jgX11_tested_12 hX N  N a0 (1 : Int32) u2
set_option maxRecDepth 20000 in
def gX11_isSleepHere_110 (N : Nat)   (x0 : Nat) (x1 : Int32) (u : SG) : Option (Int32 × SG) := if zK u x0 = 12 then (Option.bind (zR u x0 5) fun q1 => (if zK u x0 = 12 then (Option.bind (zR u x0 4) fun q2 => (if zK u x0 = 12 then (if zK u q2 = 22 then if (zI u x0 11) < 0 ∨ zN u q2 ≤ (zI u x0 11).toNatClampNeg then none else (if zK u q1 = 22 then if (x1 + (3 : Int32)) < 0 ∨ zN u q1 ≤ (x1 + (3 : Int32)).toNatClampNeg then none else bs (sI u q1 (x1 + (3 : Int32)).toNatClampNeg (zI u q2 (zI u x0 11).toNatClampNeg)) fun u3 => (if zK u3 x0 = 12 then (Option.bind (zR u3 x0 6) fun q4 => (if zK u3 x0 = 12 then (if zK u3 q4 = 22 then if (zI u3 x0 11) < 0 ∨ zN u3 q4 ≤ (zI u3 x0 11).toNatClampNeg then none else (if zK u3 q4 = 22 then if (zI u3 x0 11) < 0 ∨ zN u3 q4 ≤ (zI u3 x0 11).toNatClampNeg then none else bs (sI u3 q4 (zI u3 x0 11).toNatClampNeg ((zI u3 q4 (zI u3 x0 11).toNatClampNeg) + (1 : Int32))) fun u5 => (some ((1 : Int32), u5)) else none) else none) else none)) else none) else none) else none) else none)) else none)) else none
set_option maxRecDepth 20000 in
set_option maxHeartbeats 4000000 in
theorem jgX11_isSleepHere_110   {X : XT} (hX : Cx X yX11_isSleepHere cX11_isSleepHere 2 (some .boolean) 10 0 0) (N : Nat)  (x0 : Nat) (x1 : Int32) (u : SG) : JF X True 2 0 0 (jQ X vI 0 0) 110 [(0, .ref x0), (1, .int x1)] [] u (gX11_isSleepHere_110 N   x0 x1 u) := by
  unfold gX11_isSleepHere_110
  refine jf_aload_n hX dX11_isSleepHere_110 0 rfl ?_
  refine jf_getR hX ck_X11 5 wfl_24 (by decide) rfl dX11_isSleepHere_111 ?_
  refine jf_nn (fun q1 => ?_)
  refine jf_iload_n hX dX11_isSleepHere_114 1 rfl ?_
  refine jf_iconst (v := 3) hX dX11_isSleepHere_115 (by decide) ?_
  refine jf_iadd hX dX11_isSleepHere_116 ?_
  refine jf_aload_n hX dX11_isSleepHere_117 0 rfl ?_
  refine jf_getR hX ck_X11 4 wfl_23 (by decide) rfl dX11_isSleepHere_118 ?_
  refine jf_nn (fun q2 => ?_)
  refine jf_aload_n hX dX11_isSleepHere_121 0 rfl ?_
  refine jf_getI hX ck_X11 11 wfl_83 (by decide) rfl dX11_isSleepHere_122 ?_
  refine jf_iald hX dX11_isSleepHere_125 ?_
  refine jf_iast hX trivial dX11_isSleepHere_126 (fun u3 => ?_)
  refine jf_aload_n hX dX11_isSleepHere_127 0 rfl ?_
  refine jf_getR hX ck_X11 6 wfl_25 (by decide) rfl dX11_isSleepHere_128 ?_
  refine jf_nn (fun q4 => ?_)
  refine jf_aload_n hX dX11_isSleepHere_131 0 rfl ?_
  refine jf_getI hX ck_X11 11 wfl_83 (by decide) rfl dX11_isSleepHere_132 ?_
  refine jf_dup2_11 hX dX11_isSleepHere_135 rfl rfl ?_
  refine jf_iald hX dX11_isSleepHere_136 ?_
  refine jf_iconst (v := 1) hX dX11_isSleepHere_137 (by decide) ?_
  refine jf_iadd hX dX11_isSleepHere_138 ?_
  refine jf_iast hX trivial dX11_isSleepHere_139 (fun u5 => ?_)
  refine jf_iconst (v := 1) hX dX11_isSleepHere_140 (by decide) ?_
  exact jf_zretc hX rfl (by decide) (by decide) (by decide) dX11_isSleepHere_141
set_option maxRecDepth 20000 in
def fX11_isSleepHere (N : Nat)  (a0 : Nat) (u : SG) : Option (Int32 × SG) := if zK u a0 = 12 then cl (fX11_passWord N a0 u) fun r1 u2 => (if zK u2 a0 = 12 then (if zK u2 a0 = 12 then (Option.bind (zR u2 a0 6) fun q3 => (if zK u2 a0 = 12 then (if zK u2 q3 = 22 then if (zI u2 a0 11) < 0 ∨ zN u2 q3 ≤ (zI u2 a0 11).toNatClampNeg then none else (bs (((48 : Int32) * (zI u2 a0 11)) + ((4 : Int32) * (zI u2 q3 (zI u2 a0 11).toNatClampNeg))) fun v4 => (if zK u2 a0 = 12 then (Option.bind (zR u2 a0 5) fun q5 => (if zK u2 a0 = 12 then (Option.bind (zR u2 a0 4) fun q6 => (if zK u2 a0 = 12 then (if zK u2 q6 = 22 then if (zI u2 a0 11) < 0 ∨ zN u2 q6 ≤ (zI u2 a0 11).toNatClampNeg then none else (if zK u2 q5 = 22 then if v4 < 0 ∨ zN u2 q5 ≤ v4.toNatClampNeg then none else bs (sI u2 q5 v4.toNatClampNeg (zI u2 q6 (zI u2 a0 11).toNatClampNeg)) fun u7 => (if zK u7 a0 = 12 then cl (fX11_sum N a0 u7) fun r8 u9 => (if r8 = 0 then (some ((0 : Int32), u9))
  else (if zK u9 a0 = 12 then (Option.bind (zR u9 a0 5) fun q10 => (if zK u9 a0 = 12 then (Option.bind (zR u9 a0 4) fun q11 => (if zK u9 a0 = 12 then (if zK u9 q11 = 22 then if (zI u9 a0 11) < 0 ∨ zN u9 q11 ≤ (zI u9 a0 11).toNatClampNeg then none else (if zK u9 q10 = 22 then if (v4 + (1 : Int32)) < 0 ∨ zN u9 q10 ≤ (v4 + (1 : Int32)).toNatClampNeg then none else bs (sI u9 q10 (v4 + (1 : Int32)).toNatClampNeg (zI u9 q11 (zI u9 a0 11).toNatClampNeg)) fun u12 => (if zK u12 a0 = 12 then (Option.bind (zR u12 a0 5) fun q13 => (if zK u12 q13 = 22 then if (v4 + (2 : Int32)) < 0 ∨ zN u12 q13 ≤ (v4 + (2 : Int32)).toNatClampNeg then none else bs (sI u12 q13 (v4 + (2 : Int32)).toNatClampNeg (-1 : Int32)) fun u14 => (if zK u14 a0 = 12 then cl (fX11_takesWord N a0 (26982 : Int64) u14) fun r15 u16 => (if r15 = 0 then (gX11_isSleepHere_110 N  a0 v4 u16)
  else (if zK u16 a0 = 12 then (Option.bind (zR u16 a0 5) fun q17 => (if zK u16 a0 = 12 then (Option.bind (zR u16 a0 4) fun q18 => (if zK u16 a0 = 12 then (if zK u16 q18 = 22 then if (zI u16 a0 11) < 0 ∨ zN u16 q18 ≤ (zI u16 a0 11).toNatClampNeg then none else (if zK u16 q17 = 22 then if (v4 + (2 : Int32)) < 0 ∨ zN u16 q17 ≤ (v4 + (2 : Int32)).toNatClampNeg then none else bs (sI u16 q17 (v4 + (2 : Int32)).toNatClampNeg (zI u16 q18 (zI u16 a0 11).toNatClampNeg)) fun u19 => (if zK u19 a0 = 12 then cl (fX11_tested N a0 u19) fun r20 u21 => (if r20 = 0 then (some ((0 : Int32), u21))
  else (gX11_isSleepHere_110 N  a0 v4 u21)) else none) else none) else none) else none)) else none)) else none)) else none) else none)) else none) else none) else none) else none)) else none)) else none)) else none) else none) else none) else none)) else none)) else none)) else none) else none)) else none) else none) else none
set_option maxRecDepth 20000 in
set_option maxHeartbeats 4000000 in
theorem kX11_isSleepHere  (N : Nat)  (l : Launch) (D : va_G) (cT : Nat → ClassId) (z0 : Nat) (ks : Nat × Nat) (a0 : Nat) (u : SG) : Ct l D cT z0 ks yX11_isSleepHere cX11_isSleepHere 2 (some .boolean) 10 0 0 vI [.ref a0] u (fX11_isSleepHere N  a0 u) := by
  unfold fX11_isSleepHere
  refine ct_of (by decide +kernel) (Nat.le_of_ble_eq_true rfl) (fun p e R s m args below meth c hX => ?_)
  show JF _ True 2 0 0 _ 0 [(0, .ref a0)] [] u _
  refine jf_aload_n hX dX11_isSleepHere_0 0 rfl ?_
  refine jf_callV (As := []) (st := []) hX mo_X11_passWord wml_58 winst_59 wsel_60 11 ck_X11 rfl (fun l D cT z0 ks => kX11_passWord N l D cT z0 ks a0 u) (by decide) (by decide) (by decide) (by decide) (Nat.le_of_ble_eq_true rfl) rfl rfl dX11_isSleepHere_1 (fun r1 u2 => ?_)
  refine jf_bipush (v := 48) hX dX11_isSleepHere_4 (by decide) ?_
  refine jf_aload_n hX dX11_isSleepHere_6 0 rfl ?_
  refine jf_getI hX ck_X11 11 wfl_83 (by decide) rfl dX11_isSleepHere_7 ?_
  refine jf_imul hX dX11_isSleepHere_10 ?_
  refine jf_iconst (v := 4) hX dX11_isSleepHere_11 (by decide) ?_
  refine jf_aload_n hX dX11_isSleepHere_12 0 rfl ?_
  refine jf_getR hX ck_X11 6 wfl_25 (by decide) rfl dX11_isSleepHere_13 ?_
  refine jf_nn (fun q3 => ?_)
  refine jf_aload_n hX dX11_isSleepHere_16 0 rfl ?_
  refine jf_getI hX ck_X11 11 wfl_83 (by decide) rfl dX11_isSleepHere_17 ?_
  refine jf_iald hX dX11_isSleepHere_20 ?_
  refine jf_imul hX dX11_isSleepHere_21 ?_
  refine jf_iadd hX dX11_isSleepHere_22 ?_
  refine jf_nmI (fun v4 => ?_)
  refine jf_istore_n (lv' := [(1, .int v4), (0, .ref a0)]) hX dX11_isSleepHere_23 rfl (by decide) rfl ?_
  refine jf_aload_n hX dX11_isSleepHere_24 1 rfl ?_
  refine jf_getR hX ck_X11 5 wfl_24 (by decide) rfl dX11_isSleepHere_25 ?_
  refine jf_nn (fun q5 => ?_)
  refine jf_iload_n hX dX11_isSleepHere_28 0 rfl ?_
  refine jf_aload_n hX dX11_isSleepHere_29 1 rfl ?_
  refine jf_getR hX ck_X11 4 wfl_23 (by decide) rfl dX11_isSleepHere_30 ?_
  refine jf_nn (fun q6 => ?_)
  refine jf_aload_n hX dX11_isSleepHere_33 1 rfl ?_
  refine jf_getI hX ck_X11 11 wfl_83 (by decide) rfl dX11_isSleepHere_34 ?_
  refine jf_iald hX dX11_isSleepHere_37 ?_
  refine jf_iast hX trivial dX11_isSleepHere_38 (fun u7 => ?_)
  refine jf_aload_n hX dX11_isSleepHere_39 1 rfl ?_
  refine jf_callV (As := []) (st := []) hX mo_X11_sum wml_108 winst_109 wsel_110 11 ck_X11 rfl (fun l D cT z0 ks => kX11_sum N l D cT z0 ks a0 u7) (by decide) (by decide) (by decide) (by decide) (Nat.le_of_ble_eq_true rfl) rfl rfl dX11_isSleepHere_40 (fun r8 u9 => ?_)
  refine jf_if_ne (tgt := 48) hX dX11_isSleepHere_43 (by decide) ?_ ?_
  · refine jf_aload_n hX dX11_isSleepHere_48 1 rfl ?_
    refine jf_getR hX ck_X11 5 wfl_24 (by decide) rfl dX11_isSleepHere_49 ?_
    refine jf_nn (fun q10 => ?_)
    refine jf_iload_n hX dX11_isSleepHere_52 0 rfl ?_
    refine jf_iconst (v := 1) hX dX11_isSleepHere_53 (by decide) ?_
    refine jf_iadd hX dX11_isSleepHere_54 ?_
    refine jf_aload_n hX dX11_isSleepHere_55 1 rfl ?_
    refine jf_getR hX ck_X11 4 wfl_23 (by decide) rfl dX11_isSleepHere_56 ?_
    refine jf_nn (fun q11 => ?_)
    refine jf_aload_n hX dX11_isSleepHere_59 1 rfl ?_
    refine jf_getI hX ck_X11 11 wfl_83 (by decide) rfl dX11_isSleepHere_60 ?_
    refine jf_iald hX dX11_isSleepHere_63 ?_
    refine jf_iast hX trivial dX11_isSleepHere_64 (fun u12 => ?_)
    refine jf_aload_n hX dX11_isSleepHere_65 1 rfl ?_
    refine jf_getR hX ck_X11 5 wfl_24 (by decide) rfl dX11_isSleepHere_66 ?_
    refine jf_nn (fun q13 => ?_)
    refine jf_iload_n hX dX11_isSleepHere_69 0 rfl ?_
    refine jf_iconst (v := 2) hX dX11_isSleepHere_70 (by decide) ?_
    refine jf_iadd hX dX11_isSleepHere_71 ?_
    refine jf_iconst (v := -1) hX dX11_isSleepHere_72 (by decide) ?_
    refine jf_iast hX trivial dX11_isSleepHere_73 (fun u14 => ?_)
    refine jf_aload_n hX dX11_isSleepHere_74 1 rfl ?_
    refine jf_ldc2 (v := 26982) hX dX11_isSleepHere_75 wconl_132 ?_
    refine jf_callV (As := [.long (26982 : Int64)]) (st := []) hX mo_X11_takesWord wml_133 winst_134 wsel_135 11 ck_X11 rfl (fun l D cT z0 ks => kX11_takesWord N l D cT z0 ks a0 (26982 : Int64) u14) (by decide) (by decide) (by decide) (by decide) (Nat.le_of_ble_eq_true rfl) rfl rfl dX11_isSleepHere_78 (fun r15 u16 => ?_)
    refine jf_if_eq (tgt := 110) hX dX11_isSleepHere_81 (by decide) ?_ ?_
    · refine jf_lv [1, 0] rfl ?_
      exact jgX11_isSleepHere_110 hX N  a0 v4 u16
    · refine jf_aload_n hX dX11_isSleepHere_84 1 rfl ?_
      refine jf_getR hX ck_X11 5 wfl_24 (by decide) rfl dX11_isSleepHere_85 ?_
      refine jf_nn (fun q17 => ?_)
      refine jf_iload_n hX dX11_isSleepHere_88 0 rfl ?_
      refine jf_iconst (v := 2) hX dX11_isSleepHere_89 (by decide) ?_
      refine jf_iadd hX dX11_isSleepHere_90 ?_
      refine jf_aload_n hX dX11_isSleepHere_91 1 rfl ?_
      refine jf_getR hX ck_X11 4 wfl_23 (by decide) rfl dX11_isSleepHere_92 ?_
      refine jf_nn (fun q18 => ?_)
      refine jf_aload_n hX dX11_isSleepHere_95 1 rfl ?_
      refine jf_getI hX ck_X11 11 wfl_83 (by decide) rfl dX11_isSleepHere_96 ?_
      refine jf_iald hX dX11_isSleepHere_99 ?_
      refine jf_iast hX trivial dX11_isSleepHere_100 (fun u19 => ?_)
      refine jf_aload_n hX dX11_isSleepHere_101 1 rfl ?_
      refine jf_callV (As := []) (st := []) hX mo_X11_tested wml_136 winst_137 wsel_138 11 ck_X11 rfl (fun l D cT z0 ks => kX11_tested N l D cT z0 ks a0 u19) (by decide) (by decide) (by decide) (by decide) (Nat.le_of_ble_eq_true rfl) rfl rfl dX11_isSleepHere_102 (fun r20 u21 => ?_)
      refine jf_if_ne (tgt := 110) hX dX11_isSleepHere_105 (by decide) ?_ ?_
      · refine jf_lv [1, 0] rfl ?_
        exact jgX11_isSleepHere_110 hX N  a0 v4 u21
      · refine jf_iconst (v := 0) hX dX11_isSleepHere_108 (by decide) ?_
        exact jf_zretc hX rfl (by decide) (by decide) (by decide) dX11_isSleepHere_109
  · refine jf_iconst (v := 0) hX dX11_isSleepHere_46 (by decide) ?_
    exact jf_zretc hX rfl (by decide) (by decide) (by decide) dX11_isSleepHere_47
set_option maxRecDepth 20000 in
def fX11_cellHere (N : Nat)  (a0 : Nat) (p1 : Int32) (p2 : Int32) (p3 : Int32) (u : SG) : Option (Int32 × SG) := if zK u a0 = 12 then cl (fX11_numberHere N a0 p2 p3 u) fun r1 u2 => (if r1 = 0 then (some ((0 : Int32), u2))
  else (if zK u2 a0 = 12 then (Option.bind (zR u2 a0 7) fun q3 => (if zK u2 a0 = 12 then (if zK u2 q3 = 22 then if p1 < 0 ∨ zN u2 q3 ≤ p1.toNatClampNeg then none else bs (sI u2 q3 p1.toNatClampNeg (zI u2 a0 10)) fun u4 => (some ((1 : Int32), u4)) else none) else none)) else none)) else none
set_option maxRecDepth 20000 in
set_option maxHeartbeats 4000000 in
theorem kX11_cellHere  (N : Nat)  (l : Launch) (D : va_G) (cT : Nat → ClassId) (z0 : Nat) (ks : Nat × Nat) (a0 : Nat) (p1 : Int32) (p2 : Int32) (p3 : Int32) (u : SG) : Ct l D cT z0 ks yX11_cellHere cX11_cellHere 4 (some .boolean) 3 0 0 vI [.ref a0, .int p1, .int p2, .int p3] u (fX11_cellHere N  a0 p1 p2 p3 u) := by
  unfold fX11_cellHere
  refine ct_of (by decide +kernel) (Nat.le_of_ble_eq_true rfl) (fun p e R s m args below meth c hX => ?_)
  show JF _ True 4 0 0 _ 0 [(0, .ref a0), (1, .int p1), (2, .int p2), (3, .int p3)] [] u _
  refine jf_aload_n hX dX11_cellHere_0 0 rfl ?_
  refine jf_iload_n hX dX11_cellHere_1 2 rfl ?_
  refine jf_iload_n hX dX11_cellHere_2 3 rfl ?_
  refine jf_callV (As := [.int p2, .int p3]) (st := []) hX mo_X11_numberHere wml_99 winst_100 wsel_101 11 ck_X11 rfl (fun l D cT z0 ks => kX11_numberHere N l D cT z0 ks a0 p2 p3 u) (by decide) (by decide) (by decide) (by decide) (Nat.le_of_ble_eq_true rfl) rfl rfl dX11_cellHere_3 (fun r1 u2 => ?_)
  refine jf_if_ne (tgt := 11) hX dX11_cellHere_6 (by decide) ?_ ?_
  · refine jf_aload_n hX dX11_cellHere_11 0 rfl ?_
    refine jf_getR hX ck_X11 7 wfl_26 (by decide) rfl dX11_cellHere_12 ?_
    refine jf_nn (fun q3 => ?_)
    refine jf_iload_n hX dX11_cellHere_15 1 rfl ?_
    refine jf_aload_n hX dX11_cellHere_16 0 rfl ?_
    refine jf_getI hX ck_X11 10 wfl_67 (by decide) rfl dX11_cellHere_17 ?_
    refine jf_iast hX trivial dX11_cellHere_20 (fun u4 => ?_)
    refine jf_iconst (v := 1) hX dX11_cellHere_21 (by decide) ?_
    exact jf_zretc hX rfl (by decide) (by decide) (by decide) dX11_cellHere_22
  · refine jf_iconst (v := 0) hX dX11_cellHere_9 (by decide) ?_
    exact jf_zretc hX rfl (by decide) (by decide) (by decide) dX11_cellHere_10
set_option maxRecDepth 20000 in
def fX11_isStreetHere (N : Nat)  (a0 : Nat) (p1 : Int32) (u : SG) : Option (Int32 × SG) := if zK u a0 = 12 then (Option.bind (zR u a0 7) fun q1 => (if zK u q1 = 22 then if zN u q1 ≤ 0 then none else (if (zI u q1 0) ≤ 0 then (if zK u a0 = 12 then cl (fX11_passWord N a0 u) fun r2 u3 => (if zK u3 a0 = 12 then cl (fX11_cellHere N a0 (0 : Int32) (2 : Int32) (10 : Int32) u3) fun r4 u5 => (if r4 = 0 ∨ r4 = 1 then some (r4, u5) else none) else none) else none)
  else (if zK u a0 = 12 then cl (fX11_fails N a0 (4 : Int32) p1 u) fun r6 u7 => (if r6 = 0 ∨ r6 = 1 then some (r6, u7) else none) else none)) else none)) else none
set_option maxRecDepth 20000 in
set_option maxHeartbeats 4000000 in
theorem kX11_isStreetHere  (N : Nat)  (l : Launch) (D : va_G) (cT : Nat → ClassId) (z0 : Nat) (ks : Nat × Nat) (a0 : Nat) (p1 : Int32) (u : SG) : Ct l D cT z0 ks yX11_isStreetHere cX11_isStreetHere 2 (some .boolean) 4 0 0 vI [.ref a0, .int p1] u (fX11_isStreetHere N  a0 p1 u) := by
  unfold fX11_isStreetHere
  refine ct_of (by decide +kernel) (Nat.le_of_ble_eq_true rfl) (fun p e R s m args below meth c hX => ?_)
  show JF _ True 2 0 0 _ 0 [(0, .ref a0), (1, .int p1)] [] u _
  refine jf_aload_n hX dX11_isStreetHere_0 0 rfl ?_
  refine jf_getR hX ck_X11 7 wfl_26 (by decide) rfl dX11_isStreetHere_1 ?_
  refine jf_nn (fun q1 => ?_)
  refine jf_iconst (v := 0) hX dX11_isStreetHere_4 (by decide) ?_
  refine jf_ialdc 0 hX (by decide) (by decide) dX11_isStreetHere_5 ?_
  refine jf_if_le (tgt := 16) hX dX11_isStreetHere_6 (by decide) ?_ ?_
  · refine jf_aload_n hX dX11_isStreetHere_16 0 rfl ?_
    refine jf_callV (As := []) (st := []) hX mo_X11_passWord wml_58 winst_59 wsel_60 11 ck_X11 rfl (fun l D cT z0 ks => kX11_passWord N l D cT z0 ks a0 u) (by decide) (by decide) (by decide) (by decide) (Nat.le_of_ble_eq_true rfl) rfl rfl dX11_isStreetHere_17 (fun r2 u3 => ?_)
    refine jf_aload_n hX dX11_isStreetHere_20 0 rfl ?_
    refine jf_iconst (v := 0) hX dX11_isStreetHere_21 (by decide) ?_
    refine jf_iconst (v := 2) hX dX11_isStreetHere_22 (by decide) ?_
    refine jf_bipush (v := 10) hX dX11_isStreetHere_23 (by decide) ?_
    refine jf_callV (As := [.int (0 : Int32), .int (2 : Int32), .int (10 : Int32)]) (st := []) hX mo_X11_cellHere wml_139 winst_140 wsel_141 11 ck_X11 rfl (fun l D cT z0 ks => kX11_cellHere N l D cT z0 ks a0 (0 : Int32) (2 : Int32) (10 : Int32) u3) (by decide) (by decide) (by decide) (by decide) (Nat.le_of_ble_eq_true rfl) rfl rfl dX11_isStreetHere_25 (fun r4 u5 => ?_)
    exact jf_zret hX rfl (by decide) (by decide) dX11_isStreetHere_28
  · refine jf_aload_n hX dX11_isStreetHere_9 0 rfl ?_
    refine jf_iconst (v := 4) hX dX11_isStreetHere_10 (by decide) ?_
    refine jf_iload_n hX dX11_isStreetHere_11 1 rfl ?_
    refine jf_callV (As := [.int (4 : Int32), .int p1]) (st := []) hX mo_X11_fails wml_64 winst_65 wsel_66 11 ck_X11 rfl (fun l D cT z0 ks => kX11_fails N l D cT z0 ks a0 (4 : Int32) p1 u) (by decide) (by decide) (by decide) (by decide) (Nat.le_of_ble_eq_true rfl) rfl rfl dX11_isStreetHere_12 (fun r6 u7 => ?_)
    exact jf_zret hX rfl (by decide) (by decide) dX11_isStreetHere_15
