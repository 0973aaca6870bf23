theorem dX10_cheapestHours_0 : decode cX10_cheapestHours 0 = .ok (.iconst 0, 1) := by decide +kernel
theorem dX10_cheapestHours_1 : decode cX10_cheapestHours 1 = .ok (.istore_n 3, 1) := by decide +kernel
theorem dX10_cheapestHours_2 : decode cX10_cheapestHours 2 = .ok (.iconst 0, 1) := by decide +kernel
theorem dX10_cheapestHours_3 : decode cX10_cheapestHours 3 = .ok (.istore 4, 2) := by decide +kernel
theorem dX10_cheapestHours_5 : decode cX10_cheapestHours 5 = .ok (.iload 4, 2) := by decide +kernel
theorem dX10_cheapestHours_7 : decode cX10_cheapestHours 7 = .ok (.iload_n 2, 1) := by decide +kernel
theorem dX10_cheapestHours_8 : decode cX10_cheapestHours 8 = .ok (.if_icmp .ge 94, 3) := by decide +kernel
theorem dX10_cheapestHours_11 : decode cX10_cheapestHours 11 = .ok (.iconst (-1), 1) := by decide +kernel
theorem dX10_cheapestHours_12 : decode cX10_cheapestHours 12 = .ok (.istore 5, 2) := by decide +kernel
theorem dX10_cheapestHours_14 : decode cX10_cheapestHours 14 = .ok (.iconst 0, 1) := by decide +kernel
theorem dX10_cheapestHours_15 : decode cX10_cheapestHours 15 = .ok (.istore 6, 2) := by decide +kernel
theorem dX10_cheapestHours_17 : decode cX10_cheapestHours 17 = .ok (.iload 6, 2) := by decide +kernel
theorem dX10_cheapestHours_19 : decode cX10_cheapestHours 19 = .ok (.bipush 10, 2) := by decide +kernel
theorem dX10_cheapestHours_21 : decode cX10_cheapestHours 21 = .ok (.if_icmp .ge 62, 3) := by decide +kernel
theorem dX10_cheapestHours_24 : decode cX10_cheapestHours 24 = .ok (.iload_n 1, 1) := by decide +kernel
theorem dX10_cheapestHours_25 : decode cX10_cheapestHours 25 = .ok (.iload_n 3, 1) := by decide +kernel
theorem dX10_cheapestHours_26 : decode cX10_cheapestHours 26 = .ok (.iconst (-1), 1) := by decide +kernel
theorem dX10_cheapestHours_27 : decode cX10_cheapestHours 27 = .ok (.ixor, 1) := by decide +kernel
theorem dX10_cheapestHours_28 : decode cX10_cheapestHours 28 = .ok (.iand, 1) := by decide +kernel
theorem dX10_cheapestHours_29 : decode cX10_cheapestHours 29 = .ok (.iload 6, 2) := by decide +kernel
theorem dX10_cheapestHours_31 : decode cX10_cheapestHours 31 = .ok (.invokestatic 150, 3) := by decide +kernel
theorem dX10_cheapestHours_34 : decode cX10_cheapestHours 34 = .ok (.iconst 1, 1) := by decide +kernel
theorem dX10_cheapestHours_35 : decode cX10_cheapestHours 35 = .ok (.if_icmp .ne 7, 3) := by decide +kernel
theorem dX10_cheapestHours_38 : decode cX10_cheapestHours 38 = .ok (.iconst 1, 1) := by decide +kernel
theorem dX10_cheapestHours_39 : decode cX10_cheapestHours 39 = .ok (.goto 4, 3) := by decide +kernel
theorem dX10_cheapestHours_42 : decode cX10_cheapestHours 42 = .ok (.iconst 0, 1) := by decide +kernel
theorem dX10_cheapestHours_43 : decode cX10_cheapestHours 43 = .ok (.istore 7, 2) := by decide +kernel
theorem dX10_cheapestHours_45 : decode cX10_cheapestHours 45 = .ok (.iload 7, 2) := by decide +kernel
theorem dX10_cheapestHours_47 : decode cX10_cheapestHours 47 = .ok (.ifCond .eq 30, 3) := by decide +kernel
theorem dX10_cheapestHours_50 : decode cX10_cheapestHours 50 = .ok (.iload 5, 2) := by decide +kernel
theorem dX10_cheapestHours_52 : decode cX10_cheapestHours 52 = .ok (.iconst (-1), 1) := by decide +kernel
theorem dX10_cheapestHours_53 : decode cX10_cheapestHours 53 = .ok (.if_icmp .eq 20, 3) := by decide +kernel
theorem dX10_cheapestHours_56 : decode cX10_cheapestHours 56 = .ok (.aload_n 0, 1) := by decide +kernel
theorem dX10_cheapestHours_57 : decode cX10_cheapestHours 57 = .ok (.getfield 81, 3) := by decide +kernel
theorem dX10_cheapestHours_60 : decode cX10_cheapestHours 60 = .ok (.iload 6, 2) := by decide +kernel
theorem dX10_cheapestHours_62 : decode cX10_cheapestHours 62 = .ok (.iaload, 1) := by decide +kernel
theorem dX10_cheapestHours_63 : decode cX10_cheapestHours 63 = .ok (.aload_n 0, 1) := by decide +kernel
theorem dX10_cheapestHours_64 : decode cX10_cheapestHours 64 = .ok (.getfield 81, 3) := by decide +kernel
theorem dX10_cheapestHours_67 : decode cX10_cheapestHours 67 = .ok (.iload 5, 2) := by decide +kernel
theorem dX10_cheapestHours_69 : decode cX10_cheapestHours 69 = .ok (.iaload, 1) := by decide +kernel
theorem dX10_cheapestHours_70 : decode cX10_cheapestHours 70 = .ok (.if_icmp .ge 7, 3) := by decide +kernel
theorem dX10_cheapestHours_73 : decode cX10_cheapestHours 73 = .ok (.iload 6, 2) := by decide +kernel
theorem dX10_cheapestHours_75 : decode cX10_cheapestHours 75 = .ok (.istore 5, 2) := by decide +kernel
theorem dX10_cheapestHours_77 : decode cX10_cheapestHours 77 = .ok (.iinc 6 1, 3) := by decide +kernel
theorem dX10_cheapestHours_80 : decode cX10_cheapestHours 80 = .ok (.goto (-63), 3) := by decide +kernel
theorem dX10_cheapestHours_83 : decode cX10_cheapestHours 83 = .ok (.iload 5, 2) := by decide +kernel
theorem dX10_cheapestHours_85 : decode cX10_cheapestHours 85 = .ok (.iconst (-1), 1) := by decide +kernel
theorem dX10_cheapestHours_86 : decode cX10_cheapestHours 86 = .ok (.if_icmp .eq 10, 3) := by decide +kernel
theorem dX10_cheapestHours_89 : decode cX10_cheapestHours 89 = .ok (.iload_n 3, 1) := by decide +kernel
theorem dX10_cheapestHours_90 : decode cX10_cheapestHours 90 = .ok (.iconst 1, 1) := by decide +kernel
theorem dX10_cheapestHours_91 : decode cX10_cheapestHours 91 = .ok (.iload 5, 2) := by decide +kernel
theorem dX10_cheapestHours_93 : decode cX10_cheapestHours 93 = .ok (.ishl, 1) := by decide +kernel
theorem dX10_cheapestHours_94 : decode cX10_cheapestHours 94 = .ok (.ior, 1) := by decide +kernel
theorem dX10_cheapestHours_95 : decode cX10_cheapestHours 95 = .ok (.istore_n 3, 1) := by decide +kernel
theorem dX10_cheapestHours_96 : decode cX10_cheapestHours 96 = .ok (.iinc 4 1, 3) := by decide +kernel
theorem dX10_cheapestHours_99 : decode cX10_cheapestHours 99 = .ok (.goto (-94), 3) := by decide +kernel
theorem dX10_cheapestHours_102 : decode cX10_cheapestHours 102 = .ok (.iload_n 3, 1) := by decide +kernel
theorem dX10_cheapestHours_103 : decode cX10_cheapestHours 103 = .ok (.ireturn, 1) := by decide +kernel
theorem dX10_costOfHours_0 : decode cX10_costOfHours 0 = .ok (.iconst 0, 1) := by decide +kernel
theorem dX10_costOfHours_1 : decode cX10_costOfHours 1 = .ok (.istore_n 2, 1) := by decide +kernel
theorem dX10_costOfHours_2 : decode cX10_costOfHours 2 = .ok (.iconst 0, 1) := by decide +kernel
theorem dX10_costOfHours_3 : decode cX10_costOfHours 3 = .ok (.istore_n 3, 1) := by decide +kernel
theorem dX10_costOfHours_4 : decode cX10_costOfHours 4 = .ok (.iload_n 3, 1) := by decide +kernel
theorem dX10_costOfHours_5 : decode cX10_costOfHours 5 = .ok (.bipush 10, 2) := by decide +kernel
theorem dX10_costOfHours_7 : decode cX10_costOfHours 7 = .ok (.if_icmp .ge 27, 3) := by decide +kernel
theorem dX10_costOfHours_10 : decode cX10_costOfHours 10 = .ok (.iload_n 1, 1) := by decide +kernel
theorem dX10_costOfHours_11 : decode cX10_costOfHours 11 = .ok (.iload_n 3, 1) := by decide +kernel
theorem dX10_costOfHours_12 : decode cX10_costOfHours 12 = .ok (.invokestatic 150, 3) := by decide +kernel
theorem dX10_costOfHours_15 : decode cX10_costOfHours 15 = .ok (.iconst 1, 1) := by decide +kernel
theorem dX10_costOfHours_16 : decode cX10_costOfHours 16 = .ok (.if_icmp .ne 12, 3) := by decide +kernel
theorem dX10_costOfHours_19 : decode cX10_costOfHours 19 = .ok (.iload_n 2, 1) := by decide +kernel
theorem dX10_costOfHours_20 : decode cX10_costOfHours 20 = .ok (.aload_n 0, 1) := by decide +kernel
theorem dX10_costOfHours_21 : decode cX10_costOfHours 21 = .ok (.getfield 81, 3) := by decide +kernel
theorem dX10_costOfHours_24 : decode cX10_costOfHours 24 = .ok (.iload_n 3, 1) := by decide +kernel
theorem dX10_costOfHours_25 : decode cX10_costOfHours 25 = .ok (.iaload, 1) := by decide +kernel
theorem dX10_costOfHours_26 : decode cX10_costOfHours 26 = .ok (.iadd, 1) := by decide +kernel
theorem dX10_costOfHours_27 : decode cX10_costOfHours 27 = .ok (.istore_n 2, 1) := by decide +kernel
theorem dX10_costOfHours_28 : decode cX10_costOfHours 28 = .ok (.iinc 3 1, 3) := by decide +kernel
theorem dX10_costOfHours_31 : decode cX10_costOfHours 31 = .ok (.goto (-27), 3) := by decide +kernel
theorem dX10_costOfHours_34 : decode cX10_costOfHours 34 = .ok (.iload_n 2, 1) := by decide +kernel
theorem dX10_costOfHours_35 : decode cX10_costOfHours 35 = .ok (.ireturn, 1) := by decide +kernel
theorem dX10_sleepTogether_0 : decode cX10_sleepTogether 0 = .ok (.iload_n 2, 1) := by decide +kernel
theorem dX10_sleepTogether_1 : decode cX10_sleepTogether 1 = .ok (.ifCond .lt 18, 3) := by decide +kernel
theorem dX10_sleepTogether_4 : decode cX10_sleepTogether 4 = .ok (.iload_n 2, 1) := by decide +kernel
theorem dX10_sleepTogether_5 : decode cX10_sleepTogether 5 = .ok (.bipush 10, 2) := by decide +kernel
theorem dX10_sleepTogether_7 : decode cX10_sleepTogether 7 = .ok (.if_icmp .gt 12, 3) := by decide +kernel
theorem dX10_sleepTogether_10 : decode cX10_sleepTogether 10 = .ok (.iload_n 3, 1) := by decide +kernel
theorem dX10_sleepTogether_11 : decode cX10_sleepTogether 11 = .ok (.ifCond .lt 8, 3) := by decide +kernel
theorem dX10_sleepTogether_14 : decode cX10_sleepTogether 14 = .ok (.iload_n 3, 1) := by decide +kernel
theorem dX10_sleepTogether_15 : decode cX10_sleepTogether 15 = .ok (.iconst 2, 1) := by decide +kernel
theorem dX10_sleepTogether_16 : decode cX10_sleepTogether 16 = .ok (.if_icmp .le 5, 3) := by decide +kernel
theorem dX10_sleepTogether_19 : decode cX10_sleepTogether 19 = .ok (.iconst (-1), 1) := by decide +kernel
theorem dX10_sleepTogether_20 : decode cX10_sleepTogether 20 = .ok (.ireturn, 1) := by decide +kernel
theorem dX10_sleepTogether_21 : decode cX10_sleepTogether 21 = .ok (.aload_n 0, 1) := by decide +kernel
theorem dX10_sleepTogether_22 : decode cX10_sleepTogether 22 = .ok (.getfield 52, 3) := by decide +kernel
theorem dX10_sleepTogether_25 : decode cX10_sleepTogether 25 = .ok (.getfield 103, 3) := by decide +kernel
theorem dX10_sleepTogether_28 : decode cX10_sleepTogether 28 = .ok (.astore 4, 2) := by decide +kernel
theorem dX10_sleepTogether_30 : decode cX10_sleepTogether 30 = .ok (.iconst 0, 1) := by decide +kernel
theorem dX10_sleepTogether_31 : decode cX10_sleepTogether 31 = .ok (.istore 5, 2) := by decide +kernel
theorem dX10_sleepTogether_33 : decode cX10_sleepTogether 33 = .ok (.iconst 0, 1) := by decide +kernel
theorem dX10_sleepTogether_34 : decode cX10_sleepTogether 34 = .ok (.istore 6, 2) := by decide +kernel
theorem dX10_sleepTogether_36 : decode cX10_sleepTogether 36 = .ok (.iload 6, 2) := by decide +kernel
theorem dX10_sleepTogether_38 : decode cX10_sleepTogether 38 = .ok (.bipush 10, 2) := by decide +kernel
theorem dX10_sleepTogether_40 : decode cX10_sleepTogether 40 = .ok (.if_icmp .ge 93, 3) := by decide +kernel
theorem dX10_sleepTogether_43 : decode cX10_sleepTogether 43 = .ok (.aload_n 0, 1) := by decide +kernel
theorem dX10_sleepTogether_44 : decode cX10_sleepTogether 44 = .ok (.getfield 81, 3) := by decide +kernel
theorem dX10_sleepTogether_47 : decode cX10_sleepTogether 47 = .ok (.iload 6, 2) := by decide +kernel
theorem dX10_sleepTogether_49 : decode cX10_sleepTogether 49 = .ok (.aload 4, 2) := by decide +kernel
theorem dX10_sleepTogether_51 : decode cX10_sleepTogether 51 = .ok (.aload_n 0, 1) := by decide +kernel
theorem dX10_sleepTogether_52 : decode cX10_sleepTogether 52 = .ok (.getfield 52, 3) := by decide +kernel
theorem dX10_sleepTogether_55 : decode cX10_sleepTogether 55 = .ok (.getfield 110, 3) := by decide +kernel
theorem dX10_sleepTogether_58 : decode cX10_sleepTogether 58 = .ok (.aload 4, 2) := by decide +kernel
theorem dX10_sleepTogether_60 : decode cX10_sleepTogether 60 = .ok (.iload 6, 2) := by decide +kernel
theorem dX10_sleepTogether_62 : decode cX10_sleepTogether 62 = .ok (.invokevirtual 324, 3) := by decide +kernel
theorem dX10_sleepTogether_65 : decode cX10_sleepTogether 65 = .ok (.invokevirtual 237, 3) := by decide +kernel
theorem dX10_sleepTogether_68 : decode cX10_sleepTogether 68 = .ok (.iastore, 1) := by decide +kernel
theorem dX10_sleepTogether_69 : decode cX10_sleepTogether 69 = .ok (.iload 6, 2) := by decide +kernel
theorem dX10_sleepTogether_71 : decode cX10_sleepTogether 71 = .ok (.aload_n 0, 1) := by decide +kernel
theorem dX10_sleepTogether_72 : decode cX10_sleepTogether 72 = .ok (.getfield 52, 3) := by decide +kernel
theorem dX10_sleepTogether_75 : decode cX10_sleepTogether 75 = .ok (.getfield 110, 3) := by decide +kernel
theorem dX10_sleepTogether_78 : decode cX10_sleepTogether 78 = .ok (.getfield 308, 3) := by decide +kernel
theorem dX10_sleepTogether_81 : decode cX10_sleepTogether 81 = .ok (.if_icmp .lt 17, 3) := by decide +kernel
theorem dX10_sleepTogether_84 : decode cX10_sleepTogether 84 = .ok (.iload 6, 2) := by decide +kernel
theorem dX10_sleepTogether_86 : decode cX10_sleepTogether 86 = .ok (.aload 4, 2) := by decide +kernel
theorem dX10_sleepTogether_88 : decode cX10_sleepTogether 88 = .ok (.getfield 296, 3) := by decide +kernel
theorem dX10_sleepTogether_91 : decode cX10_sleepTogether 91 = .ok (.if_icmp .ge 7, 3) := by decide +kernel
theorem dX10_sleepTogether_94 : decode cX10_sleepTogether 94 = .ok (.iconst 1, 1) := by decide +kernel
theorem dX10_sleepTogether_95 : decode cX10_sleepTogether 95 = .ok (.goto 4, 3) := by decide +kernel
theorem dX10_sleepTogether_98 : decode cX10_sleepTogether 98 = .ok (.iconst 0, 1) := by decide +kernel
theorem dX10_sleepTogether_99 : decode cX10_sleepTogether 99 = .ok (.istore 7, 2) := by decide +kernel
theorem dX10_sleepTogether_101 : decode cX10_sleepTogether 101 = .ok (.iload 7, 2) := by decide +kernel
theorem dX10_sleepTogether_103 : decode cX10_sleepTogether 103 = .ok (.ifCond .eq 24, 3) := by decide +kernel
theorem dX10_sleepTogether_106 : decode cX10_sleepTogether 106 = .ok (.aload 4, 2) := by decide +kernel
theorem dX10_sleepTogether_108 : decode cX10_sleepTogether 108 = .ok (.iload 6, 2) := by decide +kernel
theorem dX10_sleepTogether_110 : decode cX10_sleepTogether 110 = .ok (.invokevirtual 321, 3) := by decide +kernel
theorem dX10_sleepTogether_113 : decode cX10_sleepTogether 113 = .ok (.iload_n 1, 1) := by decide +kernel
theorem dX10_sleepTogether_114 : decode cX10_sleepTogether 114 = .ok (.iand, 1) := by decide +kernel
theorem dX10_sleepTogether_115 : decode cX10_sleepTogether 115 = .ok (.ifCond .ne 12, 3) := by decide +kernel
theorem dX10_sleepTogether_118 : decode cX10_sleepTogether 118 = .ok (.iload 5, 2) := by decide +kernel
theorem dX10_sleepTogether_120 : decode cX10_sleepTogether 120 = .ok (.iconst 1, 1) := by decide +kernel
theorem dX10_sleepTogether_121 : decode cX10_sleepTogether 121 = .ok (.iload 6, 2) := by decide +kernel
theorem dX10_sleepTogether_123 : decode cX10_sleepTogether 123 = .ok (.ishl, 1) := by decide +kernel
theorem dX10_sleepTogether_124 : decode cX10_sleepTogether 124 = .ok (.ior, 1) := by decide +kernel
theorem dX10_sleepTogether_125 : decode cX10_sleepTogether 125 = .ok (.istore 5, 2) := by decide +kernel
theorem dX10_sleepTogether_127 : decode cX10_sleepTogether 127 = .ok (.iinc 6 1, 3) := by decide +kernel
theorem dX10_sleepTogether_130 : decode cX10_sleepTogether 130 = .ok (.goto (-94), 3) := by decide +kernel
theorem dX10_sleepTogether_133 : decode cX10_sleepTogether 133 = .ok (.iload 5, 2) := by decide +kernel
theorem dX10_sleepTogether_135 : decode cX10_sleepTogether 135 = .ok (.invokestatic 244, 3) := by decide +kernel
theorem dX10_sleepTogether_138 : decode cX10_sleepTogether 138 = .ok (.iload_n 2, 1) := by decide +kernel
theorem dX10_sleepTogether_139 : decode cX10_sleepTogether 139 = .ok (.if_icmp .ge 6, 3) := by decide +kernel
theorem dX10_sleepTogether_142 : decode cX10_sleepTogether 142 = .ok (.bipush (-2), 2) := by decide +kernel
theorem dX10_sleepTogether_144 : decode cX10_sleepTogether 144 = .ok (.ireturn, 1) := by decide +kernel
theorem dX10_sleepTogether_145 : decode cX10_sleepTogether 145 = .ok (.aload_n 0, 1) := by decide +kernel
theorem dX10_sleepTogether_146 : decode cX10_sleepTogether 146 = .ok (.iload 5, 2) := by decide +kernel
theorem dX10_sleepTogether_148 : decode cX10_sleepTogether 148 = .ok (.iload_n 2, 1) := by decide +kernel
theorem dX10_sleepTogether_149 : decode cX10_sleepTogether 149 = .ok (.invokevirtual 332, 3) := by decide +kernel
theorem dX10_sleepTogether_152 : decode cX10_sleepTogether 152 = .ok (.istore 6, 2) := by decide +kernel
theorem dX10_sleepTogether_154 : decode cX10_sleepTogether 154 = .ok (.iload_n 3, 1) := by decide +kernel
theorem dX10_sleepTogether_155 : decode cX10_sleepTogether 155 = .ok (.ifCond .ne 6, 3) := by decide +kernel
theorem dX10_sleepTogether_158 : decode cX10_sleepTogether 158 = .ok (.iload 6, 2) := by decide +kernel
theorem dX10_sleepTogether_160 : decode cX10_sleepTogether 160 = .ok (.ireturn, 1) := by decide +kernel
theorem dX10_sleepTogether_161 : decode cX10_sleepTogether 161 = .ok (.aload_n 0, 1) := by decide +kernel
theorem dX10_sleepTogether_162 : decode cX10_sleepTogether 162 = .ok (.getfield 52, 3) := by decide +kernel
theorem dX10_sleepTogether_165 : decode cX10_sleepTogether 165 = .ok (.getfield 110, 3) := by decide +kernel
theorem dX10_sleepTogether_168 : decode cX10_sleepTogether 168 = .ok (.getfield 147, 3) := by decide +kernel
theorem dX10_sleepTogether_171 : decode cX10_sleepTogether 171 = .ok (.iload_n 1, 1) := by decide +kernel
theorem dX10_sleepTogether_172 : decode cX10_sleepTogether 172 = .ok (.ior, 1) := by decide +kernel
theorem dX10_sleepTogether_173 : decode cX10_sleepTogether 173 = .ok (.invokestatic 244, 3) := by decide +kernel
theorem dX10_sleepTogether_176 : decode cX10_sleepTogether 176 = .ok (.istore 7, 2) := by decide +kernel
theorem dX10_sleepTogether_178 : decode cX10_sleepTogether 178 = .ok (.aload_n 0, 1) := by decide +kernel
theorem dX10_sleepTogether_179 : decode cX10_sleepTogether 179 = .ok (.iload 6, 2) := by decide +kernel
theorem dX10_sleepTogether_181 : decode cX10_sleepTogether 181 = .ok (.invokevirtual 335, 3) := by decide +kernel
theorem dX10_sleepTogether_184 : decode cX10_sleepTogether 184 = .ok (.i2l, 1) := by decide +kernel
theorem dX10_sleepTogether_185 : decode cX10_sleepTogether 185 = .ok (.iload_n 1, 1) := by decide +kernel
theorem dX10_sleepTogether_186 : decode cX10_sleepTogether 186 = .ok (.invokestatic 244, 3) := by decide +kernel
theorem dX10_sleepTogether_189 : decode cX10_sleepTogether 189 = .ok (.i2l, 1) := by decide +kernel
theorem dX10_sleepTogether_190 : decode cX10_sleepTogether 190 = .ok (.lmul, 1) := by decide +kernel
theorem dX10_sleepTogether_191 : decode cX10_sleepTogether 191 = .ok (.iload 7, 2) := by decide +kernel
theorem dX10_sleepTogether_193 : decode cX10_sleepTogether 193 = .ok (.i2l, 1) := by decide +kernel
theorem dX10_sleepTogether_194 : decode cX10_sleepTogether 194 = .ok (.iload_n 3, 1) := by decide +kernel
theorem dX10_sleepTogether_195 : decode cX10_sleepTogether 195 = .ok (.iconst 1, 1) := by decide +kernel
theorem dX10_sleepTogether_196 : decode cX10_sleepTogether 196 = .ok (.isub, 1) := by decide +kernel
theorem dX10_sleepTogether_197 : decode cX10_sleepTogether 197 = .ok (.invokestatic 221, 3) := by decide +kernel
theorem dX10_sleepTogether_200 : decode cX10_sleepTogether 200 = .ok (.ireturn, 1) := by decide +kernel
theorem dX10_cheap_0 : decode cX10_cheap 0 = .ok (.aload_n 0, 1) := by decide +kernel
theorem dX10_cheap_1 : decode cX10_cheap 1 = .ok (.getfield 52, 3) := by decide +kernel
theorem dX10_cheap_4 : decode cX10_cheap 4 = .ok (.getfield 103, 3) := by decide +kernel
theorem dX10_cheap_7 : decode cX10_cheap 7 = .ok (.iload_n 1, 1) := by decide +kernel
theorem dX10_cheap_8 : decode cX10_cheap 8 = .ok (.invokevirtual 138, 3) := by decide +kernel
theorem dX10_cheap_11 : decode cX10_cheap 11 = .ok (.ifCond .ne 5, 3) := by decide +kernel
theorem dX10_cheap_14 : decode cX10_cheap 14 = .ok (.iconst (-1), 1) := by decide +kernel
theorem dX10_cheap_15 : decode cX10_cheap 15 = .ok (.ireturn, 1) := by decide +kernel
theorem dX10_cheap_16 : decode cX10_cheap 16 = .ok (.aload_n 0, 1) := by decide +kernel
theorem dX10_cheap_17 : decode cX10_cheap 17 = .ok (.iconst 1, 1) := by decide +kernel
theorem dX10_cheap_18 : decode cX10_cheap 18 = .ok (.iload_n 1, 1) := by decide +kernel
theorem dX10_cheap_19 : decode cX10_cheap 19 = .ok (.ishl, 1) := by decide +kernel
theorem dX10_cheap_20 : decode cX10_cheap 20 = .ok (.iload_n 2, 1) := by decide +kernel
theorem dX10_cheap_21 : decode cX10_cheap 21 = .ok (.iload_n 3, 1) := by decide +kernel
theorem dX10_cheap_22 : decode cX10_cheap 22 = .ok (.invokevirtual 230, 3) := by decide +kernel
theorem dX10_cheap_25 : decode cX10_cheap 25 = .ok (.ireturn, 1) := by decide +kernel
theorem dX10_isAtRest_0 : decode cX10_isAtRest 0 = .ok (.iload_n 1, 1) := by decide +kernel
theorem dX10_isAtRest_1 : decode cX10_isAtRest 1 = .ok (.invokestatic 244, 3) := by decide +kernel
theorem dX10_isAtRest_4 : decode cX10_isAtRest 4 = .ok (.istore 4, 2) := by decide +kernel
theorem dX10_isAtRest_6 : decode cX10_isAtRest 6 = .ok (.iconst 0, 1) := by decide +kernel
theorem dX10_isAtRest_7 : decode cX10_isAtRest 7 = .ok (.istore 5, 2) := by decide +kernel
theorem dX10_isAtRest_9 : decode cX10_isAtRest 9 = .ok (.iload 5, 2) := by decide +kernel
theorem dX10_isAtRest_11 : decode cX10_isAtRest 11 = .ok (.aload_n 0, 1) := by decide +kernel
theorem dX10_isAtRest_12 : decode cX10_isAtRest 12 = .ok (.getfield 52, 3) := by decide +kernel
theorem dX10_isAtRest_15 : decode cX10_isAtRest 15 = .ok (.getfield 103, 3) := by decide +kernel
theorem dX10_isAtRest_18 : decode cX10_isAtRest 18 = .ok (.getfield 124, 3) := by decide +kernel
theorem dX10_isAtRest_21 : decode cX10_isAtRest 21 = .ok (.if_icmp .ge 68, 3) := by decide +kernel
theorem dX10_isAtRest_24 : decode cX10_isAtRest 24 = .ok (.aload_n 0, 1) := by decide +kernel
theorem dX10_isAtRest_25 : decode cX10_isAtRest 25 = .ok (.getfield 52, 3) := by decide +kernel
theorem dX10_isAtRest_28 : decode cX10_isAtRest 28 = .ok (.getfield 103, 3) := by decide +kernel
theorem dX10_isAtRest_31 : decode cX10_isAtRest 31 = .ok (.getfield 144, 3) := by decide +kernel
theorem dX10_isAtRest_34 : decode cX10_isAtRest 34 = .ok (.iload 5, 2) := by decide +kernel
theorem dX10_isAtRest_36 : decode cX10_isAtRest 36 = .ok (.iaload, 1) := by decide +kernel
theorem dX10_isAtRest_37 : decode cX10_isAtRest 37 = .ok (.istore 6, 2) := by decide +kernel
theorem dX10_isAtRest_39 : decode cX10_isAtRest 39 = .ok (.iload_n 1, 1) := by decide +kernel
theorem dX10_isAtRest_40 : decode cX10_isAtRest 40 = .ok (.iload 5, 2) := by decide +kernel
theorem dX10_isAtRest_42 : decode cX10_isAtRest 42 = .ok (.invokestatic 150, 3) := by decide +kernel
theorem dX10_isAtRest_45 : decode cX10_isAtRest 45 = .ok (.iconst 1, 1) := by decide +kernel
theorem dX10_isAtRest_46 : decode cX10_isAtRest 46 = .ok (.if_icmp .ne 14, 3) := by decide +kernel
theorem dX10_isAtRest_49 : decode cX10_isAtRest 49 = .ok (.iload_n 3, 1) := by decide +kernel
theorem dX10_isAtRest_50 : decode cX10_isAtRest 50 = .ok (.iload 6, 2) := by decide +kernel
theorem dX10_isAtRest_52 : decode cX10_isAtRest 52 = .ok (.iload 4, 2) := by decide +kernel
theorem dX10_isAtRest_54 : decode cX10_isAtRest 54 = .ok (.imul, 1) := by decide +kernel
theorem dX10_isAtRest_55 : decode cX10_isAtRest 55 = .ok (.if_icmp .le 28, 3) := by decide +kernel
theorem dX10_isAtRest_58 : decode cX10_isAtRest 58 = .ok (.iconst 0, 1) := by decide +kernel
theorem dX10_isAtRest_59 : decode cX10_isAtRest 59 = .ok (.ireturn, 1) := by decide +kernel
theorem dX10_isAtRest_60 : decode cX10_isAtRest 60 = .ok (.iload_n 2, 1) := by decide +kernel
theorem dX10_isAtRest_61 : decode cX10_isAtRest 61 = .ok (.iload 5, 2) := by decide +kernel
theorem dX10_isAtRest_63 : decode cX10_isAtRest 63 = .ok (.invokestatic 150, 3) := by decide +kernel
theorem dX10_isAtRest_66 : decode cX10_isAtRest 66 = .ok (.iconst 1, 1) := by decide +kernel
theorem dX10_isAtRest_67 : decode cX10_isAtRest 67 = .ok (.if_icmp .ne 16, 3) := by decide +kernel
theorem dX10_isAtRest_70 : decode cX10_isAtRest 70 = .ok (.iload_n 3, 1) := by decide +kernel
theorem dX10_isAtRest_71 : decode cX10_isAtRest 71 = .ok (.iload 6, 2) := by decide +kernel
theorem dX10_isAtRest_73 : decode cX10_isAtRest 73 = .ok (.iload 4, 2) := by decide +kernel
theorem dX10_isAtRest_75 : decode cX10_isAtRest 75 = .ok (.iconst 1, 1) := by decide +kernel
theorem dX10_isAtRest_76 : decode cX10_isAtRest 76 = .ok (.iadd, 1) := by decide +kernel
theorem dX10_isAtRest_77 : decode cX10_isAtRest 77 = .ok (.imul, 1) := by decide +kernel
theorem dX10_isAtRest_78 : decode cX10_isAtRest 78 = .ok (.if_icmp .ge 5, 3) := by decide +kernel
theorem dX10_isAtRest_81 : decode cX10_isAtRest 81 = .ok (.iconst 0, 1) := by decide +kernel
theorem dX10_isAtRest_82 : decode cX10_isAtRest 82 = .ok (.ireturn, 1) := by decide +kernel
theorem dX10_isAtRest_83 : decode cX10_isAtRest 83 = .ok (.iinc 5 1, 3) := by decide +kernel
theorem dX10_isAtRest_86 : decode cX10_isAtRest 86 = .ok (.goto (-77), 3) := by decide +kernel
theorem dX10_isAtRest_89 : decode cX10_isAtRest 89 = .ok (.iconst 1, 1) := by decide +kernel
theorem dX10_isAtRest_90 : decode cX10_isAtRest 90 = .ok (.ireturn, 1) := by decide +kernel
theorem dX10_rest_0 : decode cX10_rest 0 = .ok (.aload_n 0, 1) := by decide +kernel
theorem dX10_rest_1 : decode cX10_rest 1 = .ok (.getfield 52, 3) := by decide +kernel
theorem dX10_rest_4 : decode cX10_rest 4 = .ok (.getfield 103, 3) := by decide +kernel
theorem dX10_rest_7 : decode cX10_rest 7 = .ok (.invokevirtual 175, 3) := by decide +kernel
theorem dX10_rest_10 : decode cX10_rest 10 = .ok (.ifCond .eq 12, 3) := by decide +kernel
theorem dX10_rest_13 : decode cX10_rest 13 = .ok (.iload_n 1, 1) := by decide +kernel
theorem dX10_rest_14 : decode cX10_rest 14 = .ok (.ifCond .lt 8, 3) := by decide +kernel
theorem dX10_rest_17 : decode cX10_rest 17 = .ok (.iload_n 1, 1) := by decide +kernel
theorem dX10_rest_18 : decode cX10_rest 18 = .ok (.iconst 2, 1) := by decide +kernel
theorem dX10_rest_19 : decode cX10_rest 19 = .ok (.if_icmp .le 5, 3) := by decide +kernel
theorem dX10_rest_22 : decode cX10_rest 22 = .ok (.iconst (-1), 1) := by decide +kernel
theorem dX10_rest_23 : decode cX10_rest 23 = .ok (.ireturn, 1) := by decide +kernel
theorem dX10_rest_24 : decode cX10_rest 24 = .ok (.aload_n 0, 1) := by decide +kernel
theorem dX10_rest_25 : decode cX10_rest 25 = .ok (.getfield 52, 3) := by decide +kernel
theorem dX10_rest_28 : decode cX10_rest 28 = .ok (.getfield 103, 3) := by decide +kernel
theorem dX10_rest_31 : decode cX10_rest 31 = .ok (.invokevirtual 234, 3) := by decide +kernel
theorem dX10_rest_34 : decode cX10_rest 34 = .ok (.aload_n 0, 1) := by decide +kernel
theorem dX10_rest_35 : decode cX10_rest 35 = .ok (.invokevirtual 160, 3) := by decide +kernel
theorem dX10_rest_38 : decode cX10_rest 38 = .ok (.iconst (-1), 1) := by decide +kernel
theorem dX10_rest_39 : decode cX10_rest 39 = .ok (.ixor, 1) := by decide +kernel
theorem dX10_rest_40 : decode cX10_rest 40 = .ok (.iand, 1) := by decide +kernel
theorem dX10_rest_41 : decode cX10_rest 41 = .ok (.istore_n 2, 1) := by decide +kernel
theorem dX10_rest_42 : decode cX10_rest 42 = .ok (.aload_n 0, 1) := by decide +kernel
theorem dX10_rest_43 : decode cX10_rest 43 = .ok (.getfield 52, 3) := by decide +kernel
theorem dX10_rest_46 : decode cX10_rest 46 = .ok (.getfield 103, 3) := by decide +kernel
theorem dX10_rest_49 : decode cX10_rest 49 = .ok (.aload_n 0, 1) := by decide +kernel
theorem dX10_rest_50 : decode cX10_rest 50 = .ok (.invokevirtual 172, 3) := by decide +kernel
theorem dX10_rest_53 : decode cX10_rest 53 = .ok (.invokevirtual 237, 3) := by decide +kernel
theorem dX10_rest_56 : decode cX10_rest 56 = .ok (.istore_n 3, 1) := by decide +kernel
theorem dX10_rest_57 : decode cX10_rest 57 = .ok (.iconst 0, 1) := by decide +kernel
theorem dX10_rest_58 : decode cX10_rest 58 = .ok (.istore 4, 2) := by decide +kernel
theorem dX10_rest_60 : decode cX10_rest 60 = .ok (.bipush (-2), 2) := by decide +kernel
theorem dX10_rest_62 : decode cX10_rest 62 = .ok (.istore 5, 2) := by decide +kernel
theorem dX10_rest_64 : decode cX10_rest 64 = .ok (.bipush (-2), 2) := by decide +kernel
theorem dX10_rest_66 : decode cX10_rest 66 = .ok (.istore 6, 2) := by decide +kernel
theorem dX10_rest_68 : decode cX10_rest 68 = .ok (.iconst 0, 1) := by decide +kernel
theorem dX10_rest_69 : decode cX10_rest 69 = .ok (.istore 7, 2) := by decide +kernel
theorem dX10_rest_71 : decode cX10_rest 71 = .ok (.iload 7, 2) := by decide +kernel
theorem dX10_rest_73 : decode cX10_rest 73 = .ok (.iload_n 2, 1) := by decide +kernel
theorem dX10_rest_74 : decode cX10_rest 74 = .ok (.if_icmp .gt 52, 3) := by decide +kernel
theorem dX10_rest_77 : decode cX10_rest 77 = .ok (.iload 7, 2) := by decide +kernel
theorem dX10_rest_79 : decode cX10_rest 79 = .ok (.iload_n 2, 1) := by decide +kernel
theorem dX10_rest_80 : decode cX10_rest 80 = .ok (.iconst (-1), 1) := by decide +kernel
theorem dX10_rest_81 : decode cX10_rest 81 = .ok (.ixor, 1) := by decide +kernel
theorem dX10_rest_82 : decode cX10_rest 82 = .ok (.iand, 1) := by decide +kernel
theorem dX10_rest_83 : decode cX10_rest 83 = .ok (.ifCond .ne 37, 3) := by decide +kernel
theorem dX10_rest_86 : decode cX10_rest 86 = .ok (.aload_n 0, 1) := by decide +kernel
theorem dX10_rest_87 : decode cX10_rest 87 = .ok (.iload 7, 2) := by decide +kernel
theorem dX10_rest_89 : decode cX10_rest 89 = .ok (.iload_n 2, 1) := by decide +kernel
theorem dX10_rest_90 : decode cX10_rest 90 = .ok (.iload_n 3, 1) := by decide +kernel
theorem dX10_rest_91 : decode cX10_rest 91 = .ok (.invokevirtual 240, 3) := by decide +kernel
theorem dX10_rest_94 : decode cX10_rest 94 = .ok (.ifCond .eq 26, 3) := by decide +kernel
theorem dX10_rest_97 : decode cX10_rest 97 = .ok (.iinc 4 1, 3) := by decide +kernel
theorem dX10_rest_100 : decode cX10_rest 100 = .ok (.iload 5, 2) := by decide +kernel
theorem dX10_rest_102 : decode cX10_rest 102 = .ok (.bipush (-2), 2) := by decide +kernel
theorem dX10_rest_104 : decode cX10_rest 104 = .ok (.if_icmp .ne 8, 3) := by decide +kernel
theorem dX10_rest_107 : decode cX10_rest 107 = .ok (.iload 7, 2) := by decide +kernel
theorem dX10_rest_109 : decode cX10_rest 109 = .ok (.goto 5, 3) := by decide +kernel
theorem dX10_rest_112 : decode cX10_rest 112 = .ok (.iload 5, 2) := by decide +kernel
theorem dX10_rest_114 : decode cX10_rest 114 = .ok (.istore 5, 2) := by decide +kernel
theorem dX10_rest_116 : decode cX10_rest 116 = .ok (.iload 7, 2) := by decide +kernel
theorem dX10_rest_118 : decode cX10_rest 118 = .ok (.istore 6, 2) := by decide +kernel
theorem dX10_rest_120 : decode cX10_rest 120 = .ok (.iinc 7 1, 3) := by decide +kernel
theorem dX10_rest_123 : decode cX10_rest 123 = .ok (.goto (-52), 3) := by decide +kernel
theorem dX10_rest_126 : decode cX10_rest 126 = .ok (.iload_n 1, 1) := by decide +kernel
theorem dX10_rest_127 : decode cX10_rest 127 = .ok (.ifCond .ne 6, 3) := by decide +kernel
theorem dX10_rest_130 : decode cX10_rest 130 = .ok (.iload 4, 2) := by decide +kernel
theorem dX10_rest_132 : decode cX10_rest 132 = .ok (.ireturn, 1) := by decide +kernel
theorem dX10_rest_133 : decode cX10_rest 133 = .ok (.iload_n 1, 1) := by decide +kernel
theorem dX10_rest_134 : decode cX10_rest 134 = .ok (.iconst 1, 1) := by decide +kernel
theorem dX10_rest_135 : decode cX10_rest 135 = .ok (.if_icmp .ne 8, 3) := by decide +kernel
theorem dX10_rest_138 : decode cX10_rest 138 = .ok (.iload 5, 2) := by decide +kernel
theorem dX10_rest_140 : decode cX10_rest 140 = .ok (.goto 5, 3) := by decide +kernel
theorem dX10_rest_143 : decode cX10_rest 143 = .ok (.iload 6, 2) := by decide +kernel
theorem dX10_rest_145 : decode cX10_rest 145 = .ok (.ireturn, 1) := by decide +kernel
theorem dX10_allCouldSleep_0 : decode cX10_allCouldSleep 0 = .ok (.aload_n 0, 1) := by decide +kernel
theorem dX10_allCouldSleep_1 : decode cX10_allCouldSleep 1 = .ok (.getfield 52, 3) := by decide +kernel
theorem dX10_allCouldSleep_4 : decode cX10_allCouldSleep 4 = .ok (.getfield 103, 3) := by decide +kernel
theorem dX10_allCouldSleep_7 : decode cX10_allCouldSleep 7 = .ok (.invokevirtual 234, 3) := by decide +kernel
theorem dX10_allCouldSleep_10 : decode cX10_allCouldSleep 10 = .ok (.aload_n 0, 1) := by decide +kernel
theorem dX10_allCouldSleep_11 : decode cX10_allCouldSleep 11 = .ok (.invokevirtual 160, 3) := by decide +kernel
theorem dX10_allCouldSleep_14 : decode cX10_allCouldSleep 14 = .ok (.iconst (-1), 1) := by decide +kernel
theorem dX10_allCouldSleep_15 : decode cX10_allCouldSleep 15 = .ok (.ixor, 1) := by decide +kernel
theorem dX10_allCouldSleep_16 : decode cX10_allCouldSleep 16 = .ok (.iand, 1) := by decide +kernel
theorem dX10_allCouldSleep_17 : decode cX10_allCouldSleep 17 = .ok (.istore_n 2, 1) := by decide +kernel
theorem dX10_allCouldSleep_18 : decode cX10_allCouldSleep 18 = .ok (.aload_n 0, 1) := by decide +kernel
theorem dX10_allCouldSleep_19 : decode cX10_allCouldSleep 19 = .ok (.getfield 52, 3) := by decide +kernel
theorem dX10_allCouldSleep_22 : decode cX10_allCouldSleep 22 = .ok (.getfield 103, 3) := by decide +kernel
theorem dX10_allCouldSleep_25 : decode cX10_allCouldSleep 25 = .ok (.iload_n 1, 1) := by decide +kernel
theorem dX10_allCouldSleep_26 : decode cX10_allCouldSleep 26 = .ok (.invokevirtual 237, 3) := by decide +kernel
theorem dX10_allCouldSleep_29 : decode cX10_allCouldSleep 29 = .ok (.istore_n 3, 1) := by decide +kernel
theorem dX10_allCouldSleep_30 : decode cX10_allCouldSleep 30 = .ok (.iconst 0, 1) := by decide +kernel
theorem dX10_allCouldSleep_31 : decode cX10_allCouldSleep 31 = .ok (.istore 4, 2) := by decide +kernel
theorem dX10_allCouldSleep_33 : decode cX10_allCouldSleep 33 = .ok (.iload 4, 2) := by decide +kernel
theorem dX10_allCouldSleep_35 : decode cX10_allCouldSleep 35 = .ok (.aload_n 0, 1) := by decide +kernel
theorem dX10_allCouldSleep_36 : decode cX10_allCouldSleep 36 = .ok (.getfield 52, 3) := by decide +kernel
theorem dX10_allCouldSleep_39 : decode cX10_allCouldSleep 39 = .ok (.getfield 103, 3) := by decide +kernel
theorem dX10_allCouldSleep_42 : decode cX10_allCouldSleep 42 = .ok (.getfield 124, 3) := by decide +kernel
theorem dX10_allCouldSleep_45 : decode cX10_allCouldSleep 45 = .ok (.if_icmp .ge 55, 3) := by decide +kernel
theorem dX10_allCouldSleep_48 : decode cX10_allCouldSleep 48 = .ok (.iload_n 2, 1) := by decide +kernel
theorem dX10_allCouldSleep_49 : decode cX10_allCouldSleep 49 = .ok (.iload 4, 2) := by decide +kernel
theorem dX10_allCouldSleep_51 : decode cX10_allCouldSleep 51 = .ok (.invokestatic 150, 3) := by decide +kernel
theorem dX10_allCouldSleep_54 : decode cX10_allCouldSleep 54 = .ok (.iconst 1, 1) := by decide +kernel
theorem dX10_allCouldSleep_55 : decode cX10_allCouldSleep 55 = .ok (.if_icmp .ne 7, 3) := by decide +kernel
theorem dX10_allCouldSleep_58 : decode cX10_allCouldSleep 58 = .ok (.iconst 1, 1) := by decide +kernel
theorem dX10_allCouldSleep_59 : decode cX10_allCouldSleep 59 = .ok (.goto 4, 3) := by decide +kernel
theorem dX10_allCouldSleep_62 : decode cX10_allCouldSleep 62 = .ok (.iconst 0, 1) := by decide +kernel
theorem dX10_allCouldSleep_63 : decode cX10_allCouldSleep 63 = .ok (.istore 5, 2) := by decide +kernel
theorem dX10_allCouldSleep_65 : decode cX10_allCouldSleep 65 = .ok (.iload 5, 2) := by decide +kernel
theorem dX10_allCouldSleep_67 : decode cX10_allCouldSleep 67 = .ok (.ifCond .eq 27, 3) := by decide +kernel
theorem dX10_allCouldSleep_70 : decode cX10_allCouldSleep 70 = .ok (.iload_n 3, 1) := by decide +kernel
theorem dX10_allCouldSleep_71 : decode cX10_allCouldSleep 71 = .ok (.aload_n 0, 1) := by decide +kernel
theorem dX10_allCouldSleep_72 : decode cX10_allCouldSleep 72 = .ok (.getfield 52, 3) := by decide +kernel
theorem dX10_allCouldSleep_75 : decode cX10_allCouldSleep 75 = .ok (.getfield 103, 3) := by decide +kernel
theorem dX10_allCouldSleep_78 : decode cX10_allCouldSleep 78 = .ok (.getfield 144, 3) := by decide +kernel
theorem dX10_allCouldSleep_81 : decode cX10_allCouldSleep 81 = .ok (.iload 4, 2) := by decide +kernel
theorem dX10_allCouldSleep_83 : decode cX10_allCouldSleep 83 = .ok (.iaload, 1) := by decide +kernel
theorem dX10_allCouldSleep_84 : decode cX10_allCouldSleep 84 = .ok (.iload_n 2, 1) := by decide +kernel
theorem dX10_allCouldSleep_85 : decode cX10_allCouldSleep 85 = .ok (.invokestatic 244, 3) := by decide +kernel
theorem dX10_allCouldSleep_88 : decode cX10_allCouldSleep 88 = .ok (.imul, 1) := by decide +kernel
theorem dX10_allCouldSleep_89 : decode cX10_allCouldSleep 89 = .ok (.if_icmp .le 5, 3) := by decide +kernel
theorem dX10_allCouldSleep_92 : decode cX10_allCouldSleep 92 = .ok (.iconst 0, 1) := by decide +kernel
theorem dX10_allCouldSleep_93 : decode cX10_allCouldSleep 93 = .ok (.ireturn, 1) := by decide +kernel
theorem dX10_allCouldSleep_94 : decode cX10_allCouldSleep 94 = .ok (.iinc 4 1, 3) := by decide +kernel
theorem dX10_allCouldSleep_97 : decode cX10_allCouldSleep 97 = .ok (.goto (-64), 3) := by decide +kernel
theorem dX10_allCouldSleep_100 : decode cX10_allCouldSleep 100 = .ok (.iconst 1, 1) := by decide +kernel
theorem dX10_allCouldSleep_101 : decode cX10_allCouldSleep 101 = .ok (.ireturn, 1) := by decide +kernel
theorem dX10_dark_0 : decode cX10_dark 0 = .ok (.aload_n 0, 1) := by decide +kernel
theorem dX10_dark_1 : decode cX10_dark 1 = .ok (.getfield 52, 3) := by decide +kernel
theorem dX10_dark_4 : decode cX10_dark 4 = .ok (.getfield 103, 3) := by decide +kernel
theorem dX10_dark_7 : decode cX10_dark 7 = .ok (.invokevirtual 175, 3) := by decide +kernel
theorem dX10_dark_10 : decode cX10_dark 10 = .ok (.ifCond .eq 12, 3) := by decide +kernel
theorem dX10_dark_13 : decode cX10_dark 13 = .ok (.iload_n 1, 1) := by decide +kernel
theorem dX10_dark_14 : decode cX10_dark 14 = .ok (.ifCond .lt 8, 3) := by decide +kernel
theorem dX10_dark_17 : decode cX10_dark 17 = .ok (.iload_n 1, 1) := by decide +kernel
theorem dX10_dark_18 : decode cX10_dark 18 = .ok (.iconst 1, 1) := by decide +kernel
theorem dX10_dark_19 : decode cX10_dark 19 = .ok (.if_icmp .le 5, 3) := by decide +kernel
theorem dX10_dark_22 : decode cX10_dark 22 = .ok (.iconst (-1), 1) := by decide +kernel
theorem dX10_dark_23 : decode cX10_dark 23 = .ok (.ireturn, 1) := by decide +kernel
theorem dX10_dark_24 : decode cX10_dark 24 = .ok (.aload_n 0, 1) := by decide +kernel
theorem dX10_dark_25 : decode cX10_dark 25 = .ok (.invokevirtual 172, 3) := by decide +kernel
theorem dX10_dark_28 : decode cX10_dark 28 = .ok (.istore_n 2, 1) := by decide +kernel
theorem dX10_dark_29 : decode cX10_dark 29 = .ok (.iload_n 2, 1) := by decide +kernel
theorem dX10_dark_30 : decode cX10_dark 30 = .ok (.istore_n 3, 1) := by decide +kernel
theorem dX10_dark_31 : decode cX10_dark 31 = .ok (.iconst 0, 1) := by decide +kernel
theorem dX10_dark_32 : decode cX10_dark 32 = .ok (.istore 4, 2) := by decide +kernel
theorem dX10_dark_34 : decode cX10_dark 34 = .ok (.iload 4, 2) := by decide +kernel
theorem dX10_dark_36 : decode cX10_dark 36 = .ok (.iload_n 2, 1) := by decide +kernel
theorem dX10_dark_37 : decode cX10_dark 37 = .ok (.if_icmp .ge 58, 3) := by decide +kernel
theorem dX10_dark_40 : decode cX10_dark 40 = .ok (.iload 4, 2) := by decide +kernel
theorem dX10_dark_42 : decode cX10_dark 42 = .ok (.invokestatic 244, 3) := by decide +kernel
theorem dX10_dark_45 : decode cX10_dark 45 = .ok (.iload_n 3, 1) := by decide +kernel
theorem dX10_dark_46 : decode cX10_dark 46 = .ok (.invokestatic 244, 3) := by decide +kernel
theorem dX10_dark_49 : decode cX10_dark 49 = .ok (.if_icmp .ge 7, 3) := by decide +kernel
theorem dX10_dark_52 : decode cX10_dark 52 = .ok (.iconst 1, 1) := by decide +kernel
theorem dX10_dark_53 : decode cX10_dark 53 = .ok (.goto 4, 3) := by decide +kernel
theorem dX10_dark_56 : decode cX10_dark 56 = .ok (.iconst 0, 1) := by decide +kernel
theorem dX10_dark_57 : decode cX10_dark 57 = .ok (.istore 5, 2) := by decide +kernel
theorem dX10_dark_59 : decode cX10_dark 59 = .ok (.iload 4, 2) := by decide +kernel
theorem dX10_dark_61 : decode cX10_dark 61 = .ok (.iload_n 2, 1) := by decide +kernel
theorem dX10_dark_62 : decode cX10_dark 62 = .ok (.iconst (-1), 1) := by decide +kernel
theorem dX10_dark_63 : decode cX10_dark 63 = .ok (.ixor, 1) := by decide +kernel
theorem dX10_dark_64 : decode cX10_dark 64 = .ok (.iand, 1) := by decide +kernel
theorem dX10_dark_65 : decode cX10_dark 65 = .ok (.ifCond .ne 24, 3) := by decide +kernel
theorem dX10_dark_68 : decode cX10_dark 68 = .ok (.iload 5, 2) := by decide +kernel
theorem dX10_dark_70 : decode cX10_dark 70 = .ok (.ifCond .eq 19, 3) := by decide +kernel
theorem dX10_dark_73 : decode cX10_dark 73 = .ok (.aload_n 0, 1) := by decide +kernel
theorem dX10_dark_74 : decode cX10_dark 74 = .ok (.iload_n 2, 1) := by decide +kernel
theorem dX10_dark_75 : decode cX10_dark 75 = .ok (.iload 4, 2) := by decide +kernel
theorem dX10_dark_77 : decode cX10_dark 77 = .ok (.iconst (-1), 1) := by decide +kernel
theorem dX10_dark_78 : decode cX10_dark 78 = .ok (.ixor, 1) := by decide +kernel
theorem dX10_dark_79 : decode cX10_dark 79 = .ok (.iand, 1) := by decide +kernel
theorem dX10_dark_80 : decode cX10_dark 80 = .ok (.invokevirtual 249, 3) := by decide +kernel
theorem dX10_dark_83 : decode cX10_dark 83 = .ok (.ifCond .eq 6, 3) := by decide +kernel
theorem dX10_dark_86 : decode cX10_dark 86 = .ok (.iload 4, 2) := by decide +kernel
theorem dX10_dark_88 : decode cX10_dark 88 = .ok (.istore_n 3, 1) := by decide +kernel
theorem dX10_dark_89 : decode cX10_dark 89 = .ok (.iinc 4 1, 3) := by decide +kernel
theorem dX10_dark_92 : decode cX10_dark 92 = .ok (.goto (-58), 3) := by decide +kernel
theorem dX10_dark_95 : decode cX10_dark 95 = .ok (.iload_n 1, 1) := by decide +kernel
theorem dX10_dark_96 : decode cX10_dark 96 = .ok (.ifCond .ne 10, 3) := by decide +kernel
theorem dX10_dark_99 : decode cX10_dark 99 = .ok (.iload_n 3, 1) := by decide +kernel
theorem dX10_dark_100 : decode cX10_dark 100 = .ok (.invokestatic 244, 3) := by decide +kernel
theorem dX10_dark_103 : decode cX10_dark 103 = .ok (.goto 4, 3) := by decide +kernel
theorem dX10_dark_106 : decode cX10_dark 106 = .ok (.iload_n 3, 1) := by decide +kernel
theorem dX10_dark_107 : decode cX10_dark 107 = .ok (.ireturn, 1) := by decide +kernel
theorem dX10_guild_0 : decode cX10_guild 0 = .ok (.aload_n 0, 1) := by decide +kernel
theorem dX10_guild_1 : decode cX10_guild 1 = .ok (.getfield 52, 3) := by decide +kernel
theorem dX10_guild_4 : decode cX10_guild 4 = .ok (.getfield 103, 3) := by decide +kernel
theorem dX10_guild_7 : decode cX10_guild 7 = .ok (.invokevirtual 175, 3) := by decide +kernel
theorem dX10_guild_10 : decode cX10_guild 10 = .ok (.ifCond .eq 21, 3) := by decide +kernel
theorem dX10_guild_13 : decode cX10_guild 13 = .ok (.iload_n 1, 1) := by decide +kernel
theorem dX10_guild_14 : decode cX10_guild 14 = .ok (.ifCond .le 17, 3) := by decide +kernel
theorem dX10_guild_17 : decode cX10_guild 17 = .ok (.iload_n 1, 1) := by decide +kernel
theorem dX10_guild_18 : decode cX10_guild 18 = .ok (.aload_n 0, 1) := by decide +kernel
theorem dX10_guild_19 : decode cX10_guild 19 = .ok (.getfield 52, 3) := by decide +kernel
theorem dX10_guild_22 : decode cX10_guild 22 = .ok (.getfield 103, 3) := by decide +kernel
theorem dX10_guild_25 : decode cX10_guild 25 = .ok (.invokevirtual 234, 3) := by decide +kernel
theorem dX10_guild_28 : decode cX10_guild 28 = .ok (.if_icmp .le 5, 3) := by decide +kernel
theorem dX10_guild_31 : decode cX10_guild 31 = .ok (.iconst (-1), 1) := by decide +kernel
theorem dX10_guild_32 : decode cX10_guild 32 = .ok (.ireturn, 1) := by decide +kernel
theorem dX10_guild_33 : decode cX10_guild 33 = .ok (.aload_n 0, 1) := by decide +kernel
theorem dX10_guild_34 : decode cX10_guild 34 = .ok (.iload_n 1, 1) := by decide +kernel
theorem dX10_guild_35 : decode cX10_guild 35 = .ok (.iload_n 2, 1) := by decide +kernel
theorem dX10_guild_36 : decode cX10_guild 36 = .ok (.iload_n 3, 1) := by decide +kernel
theorem dX10_guild_37 : decode cX10_guild 37 = .ok (.invokevirtual 230, 3) := by decide +kernel
theorem dX10_guild_40 : decode cX10_guild 40 = .ok (.ireturn, 1) := by decide +kernel
theorem dX10_isFact_0 : decode cX10_isFact 0 = .ok (.iload_n 1, 1) := by decide +kernel
theorem dX10_isFact_1 : decode cX10_isFact 1 = .ok (.tableswitch 110 0 5 #[39, 39, 51, 51, 66, 66], 39) := by decide +kernel
theorem dX10_isFact_40 : decode cX10_isFact 40 = .ok (.aload_n 0, 1) := by decide +kernel
theorem dX10_isFact_41 : decode cX10_isFact 41 = .ok (.getfield 52, 3) := by decide +kernel
theorem dX10_isFact_44 : decode cX10_isFact 44 = .ok (.getfield 103, 3) := by decide +kernel
theorem dX10_isFact_47 : decode cX10_isFact 47 = .ok (.iload_n 2, 1) := by decide +kernel
theorem dX10_isFact_48 : decode cX10_isFact 48 = .ok (.invokevirtual 138, 3) := by decide +kernel
theorem dX10_isFact_51 : decode cX10_isFact 51 = .ok (.ireturn, 1) := by decide +kernel
theorem dX10_isFact_52 : decode cX10_isFact 52 = .ok (.iload_n 2, 1) := by decide +kernel
theorem dX10_isFact_53 : decode cX10_isFact 53 = .ok (.ifCond .lt 12, 3) := by decide +kernel
theorem dX10_isFact_56 : decode cX10_isFact 56 = .ok (.iload_n 2, 1) := by decide +kernel
theorem dX10_isFact_57 : decode cX10_isFact 57 = .ok (.iconst 5, 1) := by decide +kernel
theorem dX10_isFact_58 : decode cX10_isFact 58 = .ok (.if_icmp .gt 7, 3) := by decide +kernel
theorem dX10_isFact_61 : decode cX10_isFact 61 = .ok (.iconst 1, 1) := by decide +kernel
theorem dX10_isFact_62 : decode cX10_isFact 62 = .ok (.goto 4, 3) := by decide +kernel
theorem dX10_isFact_65 : decode cX10_isFact 65 = .ok (.iconst 0, 1) := by decide +kernel
theorem dX10_isFact_66 : decode cX10_isFact 66 = .ok (.ireturn, 1) := by decide +kernel
theorem dX10_isFact_67 : decode cX10_isFact 67 = .ok (.aload_n 0, 1) := by decide +kernel
theorem dX10_isFact_68 : decode cX10_isFact 68 = .ok (.getfield 52, 3) := by decide +kernel
theorem dX10_isFact_71 : decode cX10_isFact 71 = .ok (.getfield 103, 3) := by decide +kernel
theorem dX10_isFact_74 : decode cX10_isFact 74 = .ok (.iload_n 2, 1) := by decide +kernel
theorem dX10_isFact_75 : decode cX10_isFact 75 = .ok (.invokevirtual 138, 3) := by decide +kernel
theorem dX10_isFact_78 : decode cX10_isFact 78 = .ok (.ifCond .eq 31, 3) := by decide +kernel
theorem dX10_isFact_81 : decode cX10_isFact 81 = .ok (.iload_n 3, 1) := by decide +kernel
theorem dX10_isFact_82 : decode cX10_isFact 82 = .ok (.ifCond .lt 27, 3) := by decide +kernel
theorem dX10_isFact_85 : decode cX10_isFact 85 = .ok (.iload_n 3, 1) := by decide +kernel
theorem dX10_isFact_86 : decode cX10_isFact 86 = .ok (.sipush 300, 3) := by decide +kernel
theorem dX10_isFact_89 : decode cX10_isFact 89 = .ok (.if_icmp .gt 20, 3) := by decide +kernel
theorem dX10_isFact_92 : decode cX10_isFact 92 = .ok (.iload 4, 2) := by decide +kernel
theorem dX10_isFact_94 : decode cX10_isFact 94 = .ok (.ifCond .lt 15, 3) := by decide +kernel
theorem dX10_isFact_97 : decode cX10_isFact 97 = .ok (.iload 4, 2) := by decide +kernel
theorem dX10_isFact_99 : decode cX10_isFact 99 = .ok (.sipush 300, 3) := by decide +kernel
theorem dX10_isFact_102 : decode cX10_isFact 102 = .ok (.if_icmp .gt 7, 3) := by decide +kernel
theorem dX10_isFact_105 : decode cX10_isFact 105 = .ok (.iconst 1, 1) := by decide +kernel
theorem dX10_isFact_106 : decode cX10_isFact 106 = .ok (.goto 4, 3) := by decide +kernel
theorem dX10_isFact_109 : decode cX10_isFact 109 = .ok (.iconst 0, 1) := by decide +kernel
theorem dX10_isFact_110 : decode cX10_isFact 110 = .ok (.ireturn, 1) := by decide +kernel
theorem dX10_isFact_111 : decode cX10_isFact 111 = .ok (.iconst 0, 1) := by decide +kernel
theorem dX10_isFact_112 : decode cX10_isFact 112 = .ok (.ireturn, 1) := by decide +kernel
theorem dX10_fact_0 : decode cX10_fact 0 = .ok (.iload_n 1, 1) := by decide +kernel
theorem dX10_fact_1 : decode cX10_fact 1 = .ok (.iconst (-1), 1) := by decide +kernel
theorem dX10_fact_2 : decode cX10_fact 2 = .ok (.if_icmp .ne 15, 3) := by decide +kernel
theorem dX10_fact_5 : decode cX10_fact 5 = .ok (.aload_n 0, 1) := by decide +kernel
theorem dX10_fact_6 : decode cX10_fact 6 = .ok (.getfield 52, 3) := by decide +kernel
theorem dX10_fact_9 : decode cX10_fact 9 = .ok (.getfield 116, 3) := by decide +kernel
theorem dX10_fact_12 : decode cX10_fact 12 = .ok (.invokevirtual 120, 3) := by decide +kernel
theorem dX10_fact_15 : decode cX10_fact 15 = .ok (.iconst 0, 1) := by decide +kernel
theorem dX10_fact_16 : decode cX10_fact 16 = .ok (.ireturn, 1) := by decide +kernel
theorem dX10_fact_17 : decode cX10_fact 17 = .ok (.aload_n 0, 1) := by decide +kernel
theorem dX10_fact_18 : decode cX10_fact 18 = .ok (.getfield 52, 3) := by decide +kernel
theorem dX10_fact_21 : decode cX10_fact 21 = .ok (.getfield 103, 3) := by decide +kernel
theorem dX10_fact_24 : decode cX10_fact 24 = .ok (.invokevirtual 175, 3) := by decide +kernel
theorem dX10_fact_27 : decode cX10_fact 27 = .ok (.ifCond .ne 6, 3) := by decide +kernel
theorem dX10_fact_30 : decode cX10_fact 30 = .ok (.bipush (-2), 2) := by decide +kernel
theorem dX10_fact_32 : decode cX10_fact 32 = .ok (.ireturn, 1) := by decide +kernel
theorem dX10_fact_33 : decode cX10_fact 33 = .ok (.aload_n 0, 1) := by decide +kernel
theorem dX10_fact_34 : decode cX10_fact 34 = .ok (.iload_n 1, 1) := by decide +kernel
theorem dX10_fact_35 : decode cX10_fact 35 = .ok (.iload_n 2, 1) := by decide +kernel
theorem dX10_fact_36 : decode cX10_fact 36 = .ok (.iload_n 3, 1) := by decide +kernel
theorem dX10_fact_37 : decode cX10_fact 37 = .ok (.iload 4, 2) := by decide +kernel
theorem dX10_fact_39 : decode cX10_fact 39 = .ok (.invokevirtual 252, 3) := by decide +kernel
theorem dX10_fact_42 : decode cX10_fact 42 = .ok (.ifCond .eq 21, 3) := by decide +kernel
theorem dX10_fact_45 : decode cX10_fact 45 = .ok (.aload_n 0, 1) := by decide +kernel
theorem dX10_fact_46 : decode cX10_fact 46 = .ok (.getfield 52, 3) := by decide +kernel
theorem dX10_fact_49 : decode cX10_fact 49 = .ok (.getfield 116, 3) := by decide +kernel
theorem dX10_fact_52 : decode cX10_fact 52 = .ok (.iload_n 1, 1) := by decide +kernel
theorem dX10_fact_53 : decode cX10_fact 53 = .ok (.iload_n 2, 1) := by decide +kernel
theorem dX10_fact_54 : decode cX10_fact 54 = .ok (.iload_n 3, 1) := by decide +kernel
theorem dX10_fact_55 : decode cX10_fact 55 = .ok (.iload 4, 2) := by decide +kernel
theorem dX10_fact_57 : decode cX10_fact 57 = .ok (.invokevirtual 256, 3) := by decide +kernel
theorem dX10_fact_60 : decode cX10_fact 60 = .ok (.ifCond .ne 6, 3) := by decide +kernel
theorem dX10_fact_63 : decode cX10_fact 63 = .ok (.bipush (-2), 2) := by decide +kernel
theorem dX10_fact_65 : decode cX10_fact 65 = .ok (.ireturn, 1) := by decide +kernel
theorem dX10_fact_66 : decode cX10_fact 66 = .ok (.aload_n 0, 1) := by decide +kernel
theorem dX10_fact_67 : decode cX10_fact 67 = .ok (.getfield 52, 3) := by decide +kernel
theorem dX10_fact_70 : decode cX10_fact 70 = .ok (.getfield 116, 3) := by decide +kernel
theorem dX10_fact_73 : decode cX10_fact 73 = .ok (.getfield 259, 3) := by decide +kernel
theorem dX10_fact_76 : decode cX10_fact 76 = .ok (.ireturn, 1) := by decide +kernel
theorem dX10_setsWith_0 : decode cX10_setsWith 0 = .ok (.iconst 0, 1) := by decide +kernel
theorem dX10_setsWith_1 : decode cX10_setsWith 1 = .ok (.istore_n 2, 1) := by decide +kernel
theorem dX10_setsWith_2 : decode cX10_setsWith 2 = .ok (.iconst 0, 1) := by decide +kernel
theorem dX10_setsWith_3 : decode cX10_setsWith 3 = .ok (.istore_n 3, 1) := by decide +kernel
theorem dX10_setsWith_4 : decode cX10_setsWith 4 = .ok (.iload_n 3, 1) := by decide +kernel
theorem dX10_setsWith_5 : decode cX10_setsWith 5 = .ok (.aload_n 0, 1) := by decide +kernel
theorem dX10_setsWith_6 : decode cX10_setsWith 6 = .ok (.getfield 52, 3) := by decide +kernel
theorem dX10_setsWith_9 : decode cX10_setsWith 9 = .ok (.getfield 103, 3) := by decide +kernel
theorem dX10_setsWith_12 : decode cX10_setsWith 12 = .ok (.invokevirtual 234, 3) := by decide +kernel
theorem dX10_setsWith_15 : decode cX10_setsWith 15 = .ok (.if_icmp .gt 34, 3) := by decide +kernel
theorem dX10_setsWith_18 : decode cX10_setsWith 18 = .ok (.iload_n 1, 1) := by decide +kernel
theorem dX10_setsWith_19 : decode cX10_setsWith 19 = .ok (.iload_n 3, 1) := by decide +kernel
theorem dX10_setsWith_20 : decode cX10_setsWith 20 = .ok (.iconst (-1), 1) := by decide +kernel
theorem dX10_setsWith_21 : decode cX10_setsWith 21 = .ok (.ixor, 1) := by decide +kernel
theorem dX10_setsWith_22 : decode cX10_setsWith 22 = .ok (.iand, 1) := by decide +kernel
theorem dX10_setsWith_23 : decode cX10_setsWith 23 = .ok (.ifCond .ne 20, 3) := by decide +kernel
theorem dX10_setsWith_26 : decode cX10_setsWith 26 = .ok (.aload_n 0, 1) := by decide +kernel
theorem dX10_setsWith_27 : decode cX10_setsWith 27 = .ok (.getfield 52, 3) := by decide +kernel
theorem dX10_setsWith_30 : decode cX10_setsWith 30 = .ok (.getfield 116, 3) := by decide +kernel
theorem dX10_setsWith_33 : decode cX10_setsWith 33 = .ok (.iload_n 3, 1) := by decide +kernel
theorem dX10_setsWith_34 : decode cX10_setsWith 34 = .ok (.invokevirtual 260, 3) := by decide +kernel
theorem dX10_setsWith_37 : decode cX10_setsWith 37 = .ok (.ifCond .eq 6, 3) := by decide +kernel
theorem dX10_setsWith_40 : decode cX10_setsWith 40 = .ok (.iinc 2 1, 3) := by decide +kernel
theorem dX10_setsWith_43 : decode cX10_setsWith 43 = .ok (.iinc 3 1, 3) := by decide +kernel
theorem dX10_setsWith_46 : decode cX10_setsWith 46 = .ok (.goto (-42), 3) := by decide +kernel
theorem dX10_setsWith_49 : decode cX10_setsWith 49 = .ok (.iload_n 2, 1) := by decide +kernel
theorem dX10_setsWith_50 : decode cX10_setsWith 50 = .ok (.ireturn, 1) := by decide +kernel
theorem dX10_slept_0 : decode cX10_slept 0 = .ok (.aload_n 0, 1) := by decide +kernel
theorem dX10_slept_1 : decode cX10_slept 1 = .ok (.getfield 52, 3) := by decide +kernel
theorem dX10_slept_4 : decode cX10_slept 4 = .ok (.getfield 103, 3) := by decide +kernel
theorem dX10_slept_7 : decode cX10_slept 7 = .ok (.invokevirtual 175, 3) := by decide +kernel
theorem dX10_slept_10 : decode cX10_slept 10 = .ok (.ifCond .eq 12, 3) := by decide +kernel
theorem dX10_slept_13 : decode cX10_slept 13 = .ok (.iload_n 1, 1) := by decide +kernel
theorem dX10_slept_14 : decode cX10_slept 14 = .ok (.ifCond .lt 8, 3) := by decide +kernel
theorem dX10_slept_17 : decode cX10_slept 17 = .ok (.iload_n 1, 1) := by decide +kernel
theorem dX10_slept_18 : decode cX10_slept 18 = .ok (.iconst 3, 1) := by decide +kernel
theorem dX10_slept_19 : decode cX10_slept 19 = .ok (.if_icmp .le 5, 3) := by decide +kernel
theorem dX10_slept_22 : decode cX10_slept 22 = .ok (.iconst (-1), 1) := by decide +kernel
theorem dX10_slept_23 : decode cX10_slept 23 = .ok (.ireturn, 1) := by decide +kernel
theorem dX10_slept_24 : decode cX10_slept 24 = .ok (.aload_n 0, 1) := by decide +kernel
theorem dX10_slept_25 : decode cX10_slept 25 = .ok (.getfield 52, 3) := by decide +kernel
theorem dX10_slept_28 : decode cX10_slept 28 = .ok (.getfield 103, 3) := by decide +kernel
theorem dX10_slept_31 : decode cX10_slept 31 = .ok (.invokevirtual 234, 3) := by decide +kernel
theorem dX10_slept_34 : decode cX10_slept 34 = .ok (.istore_n 2, 1) := by decide +kernel
theorem dX10_slept_35 : decode cX10_slept 35 = .ok (.bipush (-2), 2) := by decide +kernel
theorem dX10_slept_37 : decode cX10_slept 37 = .ok (.istore_n 3, 1) := by decide +kernel
theorem dX10_slept_38 : decode cX10_slept 38 = .ok (.iload_n 2, 1) := by decide +kernel
theorem dX10_slept_39 : decode cX10_slept 39 = .ok (.istore 4, 2) := by decide +kernel
theorem dX10_slept_41 : decode cX10_slept 41 = .ok (.iconst 0, 1) := by decide +kernel
theorem dX10_slept_42 : decode cX10_slept 42 = .ok (.istore 5, 2) := by decide +kernel
theorem dX10_slept_44 : decode cX10_slept 44 = .ok (.iconst 0, 1) := by decide +kernel
theorem dX10_slept_45 : decode cX10_slept 45 = .ok (.istore 6, 2) := by decide +kernel
theorem dX10_slept_47 : decode cX10_slept 47 = .ok (.iload 6, 2) := by decide +kernel
theorem dX10_slept_49 : decode cX10_slept 49 = .ok (.iload_n 2, 1) := by decide +kernel
theorem dX10_slept_50 : decode cX10_slept 50 = .ok (.if_icmp .gt 51, 3) := by decide +kernel
theorem dX10_slept_53 : decode cX10_slept 53 = .ok (.aload_n 0, 1) := by decide +kernel
theorem dX10_slept_54 : decode cX10_slept 54 = .ok (.getfield 52, 3) := by decide +kernel
theorem dX10_slept_57 : decode cX10_slept 57 = .ok (.getfield 116, 3) := by decide +kernel
theorem dX10_slept_60 : decode cX10_slept 60 = .ok (.iload 6, 2) := by decide +kernel
theorem dX10_slept_62 : decode cX10_slept 62 = .ok (.invokevirtual 260, 3) := by decide +kernel
theorem dX10_slept_65 : decode cX10_slept 65 = .ok (.ifCond .eq 30, 3) := by decide +kernel
theorem dX10_slept_68 : decode cX10_slept 68 = .ok (.iload_n 3, 1) := by decide +kernel
theorem dX10_slept_69 : decode cX10_slept 69 = .ok (.bipush (-2), 2) := by decide +kernel
theorem dX10_slept_71 : decode cX10_slept 71 = .ok (.if_icmp .ne 8, 3) := by decide +kernel
theorem dX10_slept_74 : decode cX10_slept 74 = .ok (.iload 6, 2) := by decide +kernel
theorem dX10_slept_76 : decode cX10_slept 76 = .ok (.goto 4, 3) := by decide +kernel
theorem dX10_slept_79 : decode cX10_slept 79 = .ok (.iload_n 3, 1) := by decide +kernel
theorem dX10_slept_80 : decode cX10_slept 80 = .ok (.istore_n 3, 1) := by decide +kernel
theorem dX10_slept_81 : decode cX10_slept 81 = .ok (.iload 4, 2) := by decide +kernel
theorem dX10_slept_83 : decode cX10_slept 83 = .ok (.iload 6, 2) := by decide +kernel
theorem dX10_slept_85 : decode cX10_slept 85 = .ok (.iand, 1) := by decide +kernel
theorem dX10_slept_86 : decode cX10_slept 86 = .ok (.istore 4, 2) := by decide +kernel
theorem dX10_slept_88 : decode cX10_slept 88 = .ok (.iload 5, 2) := by decide +kernel
theorem dX10_slept_90 : decode cX10_slept 90 = .ok (.iload 6, 2) := by decide +kernel
theorem dX10_slept_92 : decode cX10_slept 92 = .ok (.ior, 1) := by decide +kernel
theorem dX10_slept_93 : decode cX10_slept 93 = .ok (.istore 5, 2) := by decide +kernel
theorem dX10_slept_95 : decode cX10_slept 95 = .ok (.iinc 6 1, 3) := by decide +kernel
theorem dX10_slept_98 : decode cX10_slept 98 = .ok (.goto (-51), 3) := by decide +kernel
theorem dX10_slept_101 : decode cX10_slept 101 = .ok (.iload_n 1, 1) := by decide +kernel
theorem dX10_slept_102 : decode cX10_slept 102 = .ok (.tableswitch 47 0 2 #[26, 32, 34], 26) := by decide +kernel
theorem dX10_slept_128 : decode cX10_slept 128 = .ok (.aload_n 0, 1) := by decide +kernel
theorem dX10_slept_129 : decode cX10_slept 129 = .ok (.iconst 0, 1) := by decide +kernel
theorem dX10_slept_130 : decode cX10_slept 130 = .ok (.invokevirtual 263, 3) := by decide +kernel
theorem dX10_slept_133 : decode cX10_slept 133 = .ok (.ireturn, 1) := by decide +kernel
theorem dX10_slept_134 : decode cX10_slept 134 = .ok (.iload_n 3, 1) := by decide +kernel
theorem dX10_slept_135 : decode cX10_slept 135 = .ok (.ireturn, 1) := by decide +kernel
theorem dX10_slept_136 : decode cX10_slept 136 = .ok (.iload_n 3, 1) := by decide +kernel
theorem dX10_slept_137 : decode cX10_slept 137 = .ok (.bipush (-2), 2) := by decide +kernel
theorem dX10_slept_139 : decode cX10_slept 139 = .ok (.if_icmp .ne 7, 3) := by decide +kernel
theorem dX10_slept_142 : decode cX10_slept 142 = .ok (.iconst 0, 1) := by decide +kernel
theorem dX10_slept_143 : decode cX10_slept 143 = .ok (.goto 5, 3) := by decide +kernel
theorem dX10_slept_146 : decode cX10_slept 146 = .ok (.iload 4, 2) := by decide +kernel
theorem dX10_slept_148 : decode cX10_slept 148 = .ok (.ireturn, 1) := by decide +kernel
theorem dX10_slept_149 : decode cX10_slept 149 = .ok (.iload_n 3, 1) := by decide +kernel
theorem dX10_slept_150 : decode cX10_slept 150 = .ok (.bipush (-2), 2) := by decide +kernel
theorem dX10_slept_152 : decode cX10_slept 152 = .ok (.if_icmp .ne 7, 3) := by decide +kernel
theorem dX10_slept_155 : decode cX10_slept 155 = .ok (.iconst 0, 1) := by decide +kernel
theorem dX10_slept_156 : decode cX10_slept 156 = .ok (.goto 9, 3) := by decide +kernel
theorem dX10_slept_159 : decode cX10_slept 159 = .ok (.iload_n 2, 1) := by decide +kernel
theorem dX10_slept_160 : decode cX10_slept 160 = .ok (.iload 5, 2) := by decide +kernel
theorem dX10_slept_162 : decode cX10_slept 162 = .ok (.iconst (-1), 1) := by decide +kernel
theorem dX10_slept_163 : decode cX10_slept 163 = .ok (.ixor, 1) := by decide +kernel
theorem dX10_slept_164 : decode cX10_slept 164 = .ok (.iand, 1) := by decide +kernel
theorem dX10_slept_165 : decode cX10_slept 165 = .ok (.ireturn, 1) := by decide +kernel
theorem dX10_ask_0 : decode cX10_ask 0 = .ok (.aload_n 0, 1) := by decide +kernel
theorem dX10_ask_1 : decode cX10_ask 1 = .ok (.getfield 52, 3) := by decide +kernel
theorem dX10_ask_4 : decode cX10_ask 4 = .ok (.getfield 103, 3) := by decide +kernel
theorem dX10_ask_7 : decode cX10_ask 7 = .ok (.invokevirtual 175, 3) := by decide +kernel
theorem dX10_ask_10 : decode cX10_ask 10 = .ok (.ifCond .eq 12, 3) := by decide +kernel
theorem dX10_ask_13 : decode cX10_ask 13 = .ok (.iload_n 1, 1) := by decide +kernel
theorem dX10_ask_14 : decode cX10_ask 14 = .ok (.ifCond .lt 8, 3) := by decide +kernel
theorem dX10_ask_17 : decode cX10_ask 17 = .ok (.iload_n 1, 1) := by decide +kernel
theorem dX10_ask_18 : decode cX10_ask 18 = .ok (.iconst 1, 1) := by decide +kernel
theorem dX10_ask_19 : decode cX10_ask 19 = .ok (.if_icmp .le 5, 3) := by decide +kernel
theorem dX10_ask_22 : decode cX10_ask 22 = .ok (.iconst (-1), 1) := by decide +kernel
theorem dX10_ask_23 : decode cX10_ask 23 = .ok (.ireturn, 1) := by decide +kernel
theorem dX10_ask_24 : decode cX10_ask 24 = .ok (.aload_n 0, 1) := by decide +kernel
theorem dX10_ask_25 : decode cX10_ask 25 = .ok (.iconst 0, 1) := by decide +kernel
theorem dX10_ask_26 : decode cX10_ask 26 = .ok (.invokevirtual 263, 3) := by decide +kernel
theorem dX10_ask_29 : decode cX10_ask 29 = .ok (.istore_n 2, 1) := by decide +kernel
theorem dX10_ask_30 : decode cX10_ask 30 = .ok (.bipush (-2), 2) := by decide +kernel
theorem dX10_ask_32 : decode cX10_ask 32 = .ok (.istore_n 3, 1) := by decide +kernel
theorem dX10_ask_33 : decode cX10_ask 33 = .ok (.bipush (-2), 2) := by decide +kernel
theorem dX10_ask_35 : decode cX10_ask 35 = .ok (.istore 4, 2) := by decide +kernel
theorem dX10_ask_37 : decode cX10_ask 37 = .ok (.iconst 0, 1) := by decide +kernel
theorem dX10_ask_38 : decode cX10_ask 38 = .ok (.istore 5, 2) := by decide +kernel
theorem dX10_ask_40 : decode cX10_ask 40 = .ok (.iload 5, 2) := by decide +kernel
theorem dX10_ask_42 : decode cX10_ask 42 = .ok (.aload_n 0, 1) := by decide +kernel
theorem dX10_ask_43 : decode cX10_ask 43 = .ok (.getfield 52, 3) := by decide +kernel
theorem dX10_ask_46 : decode cX10_ask 46 = .ok (.getfield 103, 3) := by decide +kernel
theorem dX10_ask_49 : decode cX10_ask 49 = .ok (.getfield 124, 3) := by decide +kernel
theorem dX10_ask_52 : decode cX10_ask 52 = .ok (.if_icmp .ge 54, 3) := by decide +kernel
theorem dX10_ask_55 : decode cX10_ask 55 = .ok (.iload_n 2, 1) := by decide +kernel
theorem dX10_ask_56 : decode cX10_ask 56 = .ok (.ifCond .le 50, 3) := by decide +kernel
theorem dX10_ask_59 : decode cX10_ask 59 = .ok (.aload_n 0, 1) := by decide +kernel
theorem dX10_ask_60 : decode cX10_ask 60 = .ok (.iconst 1, 1) := by decide +kernel
theorem dX10_ask_61 : decode cX10_ask 61 = .ok (.iload 5, 2) := by decide +kernel
theorem dX10_ask_63 : decode cX10_ask 63 = .ok (.ishl, 1) := by decide +kernel
theorem dX10_ask_64 : decode cX10_ask 64 = .ok (.invokevirtual 263, 3) := by decide +kernel
theorem dX10_ask_67 : decode cX10_ask 67 = .ok (.istore 6, 2) := by decide +kernel
theorem dX10_ask_69 : decode cX10_ask 69 = .ok (.iload 6, 2) := by decide +kernel
theorem dX10_ask_71 : decode cX10_ask 71 = .ok (.iload_n 2, 1) := by decide +kernel
theorem dX10_ask_72 : decode cX10_ask 72 = .ok (.iload 6, 2) := by decide +kernel
theorem dX10_ask_74 : decode cX10_ask 74 = .ok (.isub, 1) := by decide +kernel
theorem dX10_ask_75 : decode cX10_ask 75 = .ok (.invokestatic 266, 3) := by decide +kernel
theorem dX10_ask_78 : decode cX10_ask 78 = .ok (.istore 7, 2) := by decide +kernel
theorem dX10_ask_80 : decode cX10_ask 80 = .ok (.iload_n 3, 1) := by decide +kernel
theorem dX10_ask_81 : decode cX10_ask 81 = .ok (.bipush (-2), 2) := by decide +kernel
theorem dX10_ask_83 : decode cX10_ask 83 = .ok (.if_icmp .eq 10, 3) := by decide +kernel
theorem dX10_ask_86 : decode cX10_ask 86 = .ok (.iload 7, 2) := by decide +kernel
theorem dX10_ask_88 : decode cX10_ask 88 = .ok (.iload 4, 2) := by decide +kernel
theorem dX10_ask_90 : decode cX10_ask 90 = .ok (.if_icmp .ge 10, 3) := by decide +kernel
theorem dX10_ask_93 : decode cX10_ask 93 = .ok (.iload 5, 2) := by decide +kernel
theorem dX10_ask_95 : decode cX10_ask 95 = .ok (.istore_n 3, 1) := by decide +kernel
theorem dX10_ask_96 : decode cX10_ask 96 = .ok (.iload 7, 2) := by decide +kernel
theorem dX10_ask_98 : decode cX10_ask 98 = .ok (.istore 4, 2) := by decide +kernel
theorem dX10_ask_100 : decode cX10_ask 100 = .ok (.iinc 5 1, 3) := by decide +kernel
theorem dX10_ask_103 : decode cX10_ask 103 = .ok (.goto (-63), 3) := by decide +kernel
theorem dX10_ask_106 : decode cX10_ask 106 = .ok (.iload_n 1, 1) := by decide +kernel
theorem dX10_ask_107 : decode cX10_ask 107 = .ok (.ifCond .ne 7, 3) := by decide +kernel
theorem dX10_ask_110 : decode cX10_ask 110 = .ok (.iload_n 3, 1) := by decide +kernel
theorem dX10_ask_111 : decode cX10_ask 111 = .ok (.goto 5, 3) := by decide +kernel
theorem dX10_ask_114 : decode cX10_ask 114 = .ok (.iload 4, 2) := by decide +kernel
theorem dX10_ask_116 : decode cX10_ask 116 = .ok (.ireturn, 1) := by decide +kernel
theorem dX10_priceNight_0 : decode cX10_priceNight 0 = .ok (.aload_n 0, 1) := by decide +kernel
theorem dX10_priceNight_1 : decode cX10_priceNight 1 = .ok (.getfield 52, 3) := by decide +kernel
theorem dX10_priceNight_4 : decode cX10_priceNight 4 = .ok (.getfield 103, 3) := by decide +kernel
theorem dX10_priceNight_7 : decode cX10_priceNight 7 = .ok (.astore_n 2, 1) := by decide +kernel
theorem dX10_priceNight_8 : decode cX10_priceNight 8 = .ok (.iconst 0, 1) := by decide +kernel
theorem dX10_priceNight_9 : decode cX10_priceNight 9 = .ok (.istore_n 3, 1) := by decide +kernel
theorem dX10_priceNight_10 : decode cX10_priceNight 10 = .ok (.iconst 0, 1) := by decide +kernel
theorem dX10_priceNight_11 : decode cX10_priceNight 11 = .ok (.istore 4, 2) := by decide +kernel
theorem dX10_priceNight_13 : decode cX10_priceNight 13 = .ok (.iload 4, 2) := by decide +kernel
theorem dX10_priceNight_15 : decode cX10_priceNight 15 = .ok (.bipush 10, 2) := by decide +kernel
theorem dX10_priceNight_17 : decode cX10_priceNight 17 = .ok (.if_icmp .ge 55, 3) := by decide +kernel
theorem dX10_priceNight_20 : decode cX10_priceNight 20 = .ok (.aload_n 0, 1) := by decide +kernel
theorem dX10_priceNight_21 : decode cX10_priceNight 21 = .ok (.getfield 81, 3) := by decide +kernel
theorem dX10_priceNight_24 : decode cX10_priceNight 24 = .ok (.iload 4, 2) := by decide +kernel
theorem dX10_priceNight_26 : decode cX10_priceNight 26 = .ok (.aload_n 2, 1) := by decide +kernel
theorem dX10_priceNight_27 : decode cX10_priceNight 27 = .ok (.aload_n 2, 1) := by decide +kernel
theorem dX10_priceNight_28 : decode cX10_priceNight 28 = .ok (.iload 4, 2) := by decide +kernel
theorem dX10_priceNight_30 : decode cX10_priceNight 30 = .ok (.invokevirtual 338, 3) := by decide +kernel
theorem dX10_priceNight_33 : decode cX10_priceNight 33 = .ok (.invokevirtual 237, 3) := by decide +kernel
theorem dX10_priceNight_36 : decode cX10_priceNight 36 = .ok (.iastore, 1) := by decide +kernel
theorem dX10_priceNight_37 : decode cX10_priceNight 37 = .ok (.iload 4, 2) := by decide +kernel
theorem dX10_priceNight_39 : decode cX10_priceNight 39 = .ok (.aload_n 2, 1) := by decide +kernel
theorem dX10_priceNight_40 : decode cX10_priceNight 40 = .ok (.getfield 296, 3) := by decide +kernel
theorem dX10_priceNight_43 : decode cX10_priceNight 43 = .ok (.if_icmp .ge 23, 3) := by decide +kernel
theorem dX10_priceNight_46 : decode cX10_priceNight 46 = .ok (.aload_n 2, 1) := by decide +kernel
theorem dX10_priceNight_47 : decode cX10_priceNight 47 = .ok (.iload 4, 2) := by decide +kernel
theorem dX10_priceNight_49 : decode cX10_priceNight 49 = .ok (.invokevirtual 321, 3) := by decide +kernel
theorem dX10_priceNight_52 : decode cX10_priceNight 52 = .ok (.iload_n 1, 1) := by decide +kernel
theorem dX10_priceNight_53 : decode cX10_priceNight 53 = .ok (.invokestatic 150, 3) := by decide +kernel
theorem dX10_priceNight_56 : decode cX10_priceNight 56 = .ok (.ifCond .ne 10, 3) := by decide +kernel
theorem dX10_priceNight_59 : decode cX10_priceNight 59 = .ok (.iload_n 3, 1) := by decide +kernel
theorem dX10_priceNight_60 : decode cX10_priceNight 60 = .ok (.iconst 1, 1) := by decide +kernel
theorem dX10_priceNight_61 : decode cX10_priceNight 61 = .ok (.iload 4, 2) := by decide +kernel
theorem dX10_priceNight_63 : decode cX10_priceNight 63 = .ok (.ishl, 1) := by decide +kernel
theorem dX10_priceNight_64 : decode cX10_priceNight 64 = .ok (.ior, 1) := by decide +kernel
theorem dX10_priceNight_65 : decode cX10_priceNight 65 = .ok (.istore_n 3, 1) := by decide +kernel
theorem dX10_priceNight_66 : decode cX10_priceNight 66 = .ok (.iinc 4 1, 3) := by decide +kernel
theorem dX10_priceNight_69 : decode cX10_priceNight 69 = .ok (.goto (-56), 3) := by decide +kernel
theorem dX10_priceNight_72 : decode cX10_priceNight 72 = .ok (.aload_n 2, 1) := by decide +kernel
theorem dX10_priceNight_73 : decode cX10_priceNight 73 = .ok (.getfield 141, 3) := by decide +kernel
theorem dX10_priceNight_76 : decode cX10_priceNight 76 = .ok (.iload_n 1, 1) := by decide +kernel
theorem dX10_priceNight_77 : decode cX10_priceNight 77 = .ok (.iaload, 1) := by decide +kernel
theorem dX10_priceNight_78 : decode cX10_priceNight 78 = .ok (.iload_n 3, 1) := by decide +kernel
theorem dX10_priceNight_79 : decode cX10_priceNight 79 = .ok (.invokestatic 244, 3) := by decide +kernel
theorem dX10_priceNight_82 : decode cX10_priceNight 82 = .ok (.invokestatic 341, 3) := by decide +kernel
theorem dX10_priceNight_85 : decode cX10_priceNight 85 = .ok (.istore 4, 2) := by decide +kernel
theorem dX10_priceNight_87 : decode cX10_priceNight 87 = .ok (.iconst 0, 1) := by decide +kernel
theorem dX10_priceNight_88 : decode cX10_priceNight 88 = .ok (.istore 5, 2) := by decide +kernel
theorem dX10_priceNight_90 : decode cX10_priceNight 90 = .ok (.iload 5, 2) := by decide +kernel
theorem dX10_priceNight_92 : decode cX10_priceNight 92 = .ok (.bipush 10, 2) := by decide +kernel
theorem dX10_priceNight_94 : decode cX10_priceNight 94 = .ok (.if_icmp .gt 32, 3) := by decide +kernel
theorem dX10_priceNight_97 : decode cX10_priceNight 97 = .ok (.aload_n 0, 1) := by decide +kernel
theorem dX10_priceNight_98 : decode cX10_priceNight 98 = .ok (.getfield 85, 3) := by decide +kernel
theorem dX10_priceNight_101 : decode cX10_priceNight 101 = .ok (.iload 5, 2) := by decide +kernel
theorem dX10_priceNight_103 : decode cX10_priceNight 103 = .ok (.aload_n 0, 1) := by decide +kernel
theorem dX10_priceNight_104 : decode cX10_priceNight 104 = .ok (.aload_n 0, 1) := by decide +kernel
theorem dX10_priceNight_105 : decode cX10_priceNight 105 = .ok (.iload_n 3, 1) := by decide +kernel
theorem dX10_priceNight_106 : decode cX10_priceNight 106 = .ok (.iload 5, 2) := by decide +kernel
theorem dX10_priceNight_108 : decode cX10_priceNight 108 = .ok (.iload 4, 2) := by decide +kernel
theorem dX10_priceNight_110 : decode cX10_priceNight 110 = .ok (.invokestatic 341, 3) := by decide +kernel
theorem dX10_priceNight_113 : decode cX10_priceNight 113 = .ok (.invokevirtual 332, 3) := by decide +kernel
theorem dX10_priceNight_116 : decode cX10_priceNight 116 = .ok (.invokevirtual 335, 3) := by decide +kernel
theorem dX10_priceNight_119 : decode cX10_priceNight 119 = .ok (.iastore, 1) := by decide +kernel
theorem dX10_priceNight_120 : decode cX10_priceNight 120 = .ok (.iinc 5 1, 3) := by decide +kernel
theorem dX10_priceNight_123 : decode cX10_priceNight 123 = .ok (.goto (-33), 3) := by decide +kernel
theorem dX10_priceNight_126 : decode cX10_priceNight 126 = .ok (.iload 4, 2) := by decide +kernel
theorem dX10_priceNight_128 : decode cX10_priceNight 128 = .ok (.ireturn, 1) := by decide +kernel
theorem dX10_evenCost_0 : decode cX10_evenCost 0 = .ok (.iload_n 1, 1) := by decide +kernel
theorem dX10_evenCost_1 : decode cX10_evenCost 1 = .ok (.ifCond .gt 5, 3) := by decide +kernel
theorem dX10_evenCost_4 : decode cX10_evenCost 4 = .ok (.iconst 0, 1) := by decide +kernel
theorem dX10_evenCost_5 : decode cX10_evenCost 5 = .ok (.ireturn, 1) := by decide +kernel
theorem dX10_evenCost_6 : decode cX10_evenCost 6 = .ok (.iload_n 2, 1) := by decide +kernel
theorem dX10_evenCost_7 : decode cX10_evenCost 7 = .ok (.iload_n 1, 1) := by decide +kernel
theorem dX10_evenCost_8 : decode cX10_evenCost 8 = .ok (.idiv, 1) := by decide +kernel
theorem dX10_evenCost_9 : decode cX10_evenCost 9 = .ok (.bipush 10, 2) := by decide +kernel
theorem dX10_evenCost_11 : decode cX10_evenCost 11 = .ok (.invokestatic 341, 3) := by decide +kernel
theorem dX10_evenCost_14 : decode cX10_evenCost 14 = .ok (.istore_n 3, 1) := by decide +kernel
theorem dX10_evenCost_15 : decode cX10_evenCost 15 = .ok (.iload_n 2, 1) := by decide +kernel
theorem dX10_evenCost_16 : decode cX10_evenCost 16 = .ok (.iload_n 1, 1) := by decide +kernel
theorem dX10_evenCost_17 : decode cX10_evenCost 17 = .ok (.irem, 1) := by decide +kernel
theorem dX10_evenCost_18 : decode cX10_evenCost 18 = .ok (.istore 4, 2) := by decide +kernel
theorem dX10_evenCost_20 : decode cX10_evenCost 20 = .ok (.iload_n 3, 1) := by decide +kernel
theorem dX10_evenCost_21 : decode cX10_evenCost 21 = .ok (.iconst 1, 1) := by decide +kernel
theorem dX10_evenCost_22 : decode cX10_evenCost 22 = .ok (.iadd, 1) := by decide +kernel
theorem dX10_evenCost_23 : decode cX10_evenCost 23 = .ok (.bipush 10, 2) := by decide +kernel
theorem dX10_evenCost_25 : decode cX10_evenCost 25 = .ok (.invokestatic 341, 3) := by decide +kernel
theorem dX10_evenCost_28 : decode cX10_evenCost 28 = .ok (.istore 5, 2) := by decide +kernel
theorem dX10_evenCost_30 : decode cX10_evenCost 30 = .ok (.iload 4, 2) := by decide +kernel
theorem dX10_evenCost_32 : decode cX10_evenCost 32 = .ok (.aload_n 0, 1) := by decide +kernel
theorem dX10_evenCost_33 : decode cX10_evenCost 33 = .ok (.getfield 85, 3) := by decide +kernel
theorem dX10_evenCost_36 : decode cX10_evenCost 36 = .ok (.iload 5, 2) := by decide +kernel
theorem dX10_evenCost_38 : decode cX10_evenCost 38 = .ok (.iaload, 1) := by decide +kernel
theorem dX10_evenCost_39 : decode cX10_evenCost 39 = .ok (.imul, 1) := by decide +kernel
theorem dX10_evenCost_40 : decode cX10_evenCost 40 = .ok (.iload_n 1, 1) := by decide +kernel
theorem dX10_evenCost_41 : decode cX10_evenCost 41 = .ok (.iload 4, 2) := by decide +kernel
theorem dX10_evenCost_43 : decode cX10_evenCost 43 = .ok (.isub, 1) := by decide +kernel
theorem dX10_evenCost_44 : decode cX10_evenCost 44 = .ok (.aload_n 0, 1) := by decide +kernel
theorem dX10_evenCost_45 : decode cX10_evenCost 45 = .ok (.getfield 85, 3) := by decide +kernel
theorem dX10_evenCost_48 : decode cX10_evenCost 48 = .ok (.iload_n 3, 1) := by decide +kernel
theorem dX10_evenCost_49 : decode cX10_evenCost 49 = .ok (.iaload, 1) := by decide +kernel
theorem dX10_evenCost_50 : decode cX10_evenCost 50 = .ok (.imul, 1) := by decide +kernel
theorem dX10_evenCost_51 : decode cX10_evenCost 51 = .ok (.iadd, 1) := by decide +kernel
theorem dX10_evenCost_52 : decode cX10_evenCost 52 = .ok (.ireturn, 1) := by decide +kernel
theorem dX10_sleepInNight_0 : decode cX10_sleepInNight 0 = .ok (.iload_n 2, 1) := by decide +kernel
theorem dX10_sleepInNight_1 : decode cX10_sleepInNight 1 = .ok (.istore 5, 2) := by decide +kernel
theorem dX10_sleepInNight_3 : decode cX10_sleepInNight 3 = .ok (.iconst 0, 1) := by decide +kernel
theorem dX10_sleepInNight_4 : decode cX10_sleepInNight 4 = .ok (.istore 6, 2) := by decide +kernel
theorem dX10_sleepInNight_6 : decode cX10_sleepInNight 6 = .ok (.iconst 0, 1) := by decide +kernel
theorem dX10_sleepInNight_7 : decode cX10_sleepInNight 7 = .ok (.istore 7, 2) := by decide +kernel
theorem dX10_sleepInNight_9 : decode cX10_sleepInNight 9 = .ok (.iload 7, 2) := by decide +kernel
theorem dX10_sleepInNight_11 : decode cX10_sleepInNight 11 = .ok (.iload 4, 2) := by decide +kernel
theorem dX10_sleepInNight_13 : decode cX10_sleepInNight 13 = .ok (.if_icmp .gt 108, 3) := by decide +kernel
theorem dX10_sleepInNight_16 : decode cX10_sleepInNight 16 = .ok (.iload_n 1, 1) := by decide +kernel
theorem dX10_sleepInNight_17 : decode cX10_sleepInNight 17 = .ok (.iload 7, 2) := by decide +kernel
theorem dX10_sleepInNight_19 : decode cX10_sleepInNight 19 = .ok (.isub, 1) := by decide +kernel
theorem dX10_sleepInNight_20 : decode cX10_sleepInNight 20 = .ok (.iconst 1, 1) := by decide +kernel
theorem dX10_sleepInNight_21 : decode cX10_sleepInNight 21 = .ok (.isub, 1) := by decide +kernel
theorem dX10_sleepInNight_22 : decode cX10_sleepInNight 22 = .ok (.istore 8, 2) := by decide +kernel
theorem dX10_sleepInNight_24 : decode cX10_sleepInNight 24 = .ok (.aload_n 0, 1) := by decide +kernel
theorem dX10_sleepInNight_25 : decode cX10_sleepInNight 25 = .ok (.iload 8, 2) := by decide +kernel
theorem dX10_sleepInNight_27 : decode cX10_sleepInNight 27 = .ok (.iconst 1, 1) := by decide +kernel
theorem dX10_sleepInNight_28 : decode cX10_sleepInNight 28 = .ok (.iadd, 1) := by decide +kernel
theorem dX10_sleepInNight_29 : decode cX10_sleepInNight 29 = .ok (.iload 5, 2) := by decide +kernel
theorem dX10_sleepInNight_31 : decode cX10_sleepInNight 31 = .ok (.invokevirtual 274, 3) := by decide +kernel
theorem dX10_sleepInNight_34 : decode cX10_sleepInNight 34 = .ok (.istore 9, 2) := by decide +kernel
theorem dX10_sleepInNight_36 : decode cX10_sleepInNight 36 = .ok (.iconst 0, 1) := by decide +kernel
theorem dX10_sleepInNight_37 : decode cX10_sleepInNight 37 = .ok (.iload 5, 2) := by decide +kernel
theorem dX10_sleepInNight_39 : decode cX10_sleepInNight 39 = .ok (.iload 8, 2) := by decide +kernel
theorem dX10_sleepInNight_41 : decode cX10_sleepInNight 41 = .ok (.iload_n 3, 1) := by decide +kernel
theorem dX10_sleepInNight_42 : decode cX10_sleepInNight 42 = .ok (.imul, 1) := by decide +kernel
theorem dX10_sleepInNight_43 : decode cX10_sleepInNight 43 = .ok (.isub, 1) := by decide +kernel
theorem dX10_sleepInNight_44 : decode cX10_sleepInNight 44 = .ok (.invokestatic 266, 3) := by decide +kernel
theorem dX10_sleepInNight_47 : decode cX10_sleepInNight 47 = .ok (.istore 6, 2) := by decide +kernel
theorem dX10_sleepInNight_49 : decode cX10_sleepInNight 49 = .ok (.iconst 0, 1) := by decide +kernel
theorem dX10_sleepInNight_50 : decode cX10_sleepInNight 50 = .ok (.istore 10, 2) := by decide +kernel
theorem dX10_sleepInNight_52 : decode cX10_sleepInNight 52 = .ok (.iload 10, 2) := by decide +kernel
theorem dX10_sleepInNight_54 : decode cX10_sleepInNight 54 = .ok (.iload_n 3, 1) := by decide +kernel
theorem dX10_sleepInNight_55 : decode cX10_sleepInNight 55 = .ok (.if_icmp .ge 49, 3) := by decide +kernel
theorem dX10_sleepInNight_58 : decode cX10_sleepInNight 58 = .ok (.iload 6, 2) := by decide +kernel
theorem dX10_sleepInNight_60 : decode cX10_sleepInNight 60 = .ok (.iload_n 3, 1) := by decide +kernel
theorem dX10_sleepInNight_61 : decode cX10_sleepInNight 61 = .ok (.if_icmp .ge 43, 3) := by decide +kernel
theorem dX10_sleepInNight_64 : decode cX10_sleepInNight 64 = .ok (.aload_n 0, 1) := by decide +kernel
theorem dX10_sleepInNight_65 : decode cX10_sleepInNight 65 = .ok (.getfield 85, 3) := by decide +kernel
theorem dX10_sleepInNight_68 : decode cX10_sleepInNight 68 = .ok (.iload 6, 2) := by decide +kernel
theorem dX10_sleepInNight_70 : decode cX10_sleepInNight 70 = .ok (.iaload, 1) := by decide +kernel
theorem dX10_sleepInNight_71 : decode cX10_sleepInNight 71 = .ok (.aload_n 0, 1) := by decide +kernel
theorem dX10_sleepInNight_72 : decode cX10_sleepInNight 72 = .ok (.iload 8, 2) := by decide +kernel
theorem dX10_sleepInNight_74 : decode cX10_sleepInNight 74 = .ok (.iconst 0, 1) := by decide +kernel
theorem dX10_sleepInNight_75 : decode cX10_sleepInNight 75 = .ok (.iload 5, 2) := by decide +kernel
theorem dX10_sleepInNight_77 : decode cX10_sleepInNight 77 = .ok (.iload 6, 2) := by decide +kernel
theorem dX10_sleepInNight_79 : decode cX10_sleepInNight 79 = .ok (.isub, 1) := by decide +kernel
theorem dX10_sleepInNight_80 : decode cX10_sleepInNight 80 = .ok (.invokestatic 266, 3) := by decide +kernel
theorem dX10_sleepInNight_83 : decode cX10_sleepInNight 83 = .ok (.invokevirtual 274, 3) := by decide +kernel
theorem dX10_sleepInNight_86 : decode cX10_sleepInNight 86 = .ok (.iadd, 1) := by decide +kernel
theorem dX10_sleepInNight_87 : decode cX10_sleepInNight 87 = .ok (.iload 9, 2) := by decide +kernel
theorem dX10_sleepInNight_89 : decode cX10_sleepInNight 89 = .ok (.if_icmp .gt 6, 3) := by decide +kernel
theorem dX10_sleepInNight_92 : decode cX10_sleepInNight 92 = .ok (.goto 12, 3) := by decide +kernel
theorem dX10_sleepInNight_95 : decode cX10_sleepInNight 95 = .ok (.iinc 6 1, 3) := by decide +kernel
theorem dX10_sleepInNight_98 : decode cX10_sleepInNight 98 = .ok (.iinc 10 1, 3) := by decide +kernel
theorem dX10_sleepInNight_101 : decode cX10_sleepInNight 101 = .ok (.goto (-49), 3) := by decide +kernel
theorem dX10_sleepInNight_104 : decode cX10_sleepInNight 104 = .ok (.iconst 0, 1) := by decide +kernel
theorem dX10_sleepInNight_105 : decode cX10_sleepInNight 105 = .ok (.iload 5, 2) := by decide +kernel
theorem dX10_sleepInNight_107 : decode cX10_sleepInNight 107 = .ok (.iload 6, 2) := by decide +kernel
theorem dX10_sleepInNight_109 : decode cX10_sleepInNight 109 = .ok (.isub, 1) := by decide +kernel
theorem dX10_sleepInNight_110 : decode cX10_sleepInNight 110 = .ok (.invokestatic 266, 3) := by decide +kernel
theorem dX10_sleepInNight_113 : decode cX10_sleepInNight 113 = .ok (.istore 5, 2) := by decide +kernel
theorem dX10_sleepInNight_115 : decode cX10_sleepInNight 115 = .ok (.iinc 7 1, 3) := by decide +kernel
theorem dX10_sleepInNight_118 : decode cX10_sleepInNight 118 = .ok (.goto (-109), 3) := by decide +kernel
theorem dX10_sleepInNight_121 : decode cX10_sleepInNight 121 = .ok (.iload 6, 2) := by decide +kernel
theorem dX10_sleepInNight_123 : decode cX10_sleepInNight 123 = .ok (.ireturn, 1) := by decide +kernel
theorem dX10_nights_0 : decode cX10_nights 0 = .ok (.aload_n 0, 1) := by decide +kernel
theorem dX10_nights_1 : decode cX10_nights 1 = .ok (.getfield 52, 3) := by decide +kernel
theorem dX10_nights_4 : decode cX10_nights 4 = .ok (.getfield 103, 3) := by decide +kernel
theorem dX10_nights_7 : decode cX10_nights 7 = .ok (.iload_n 1, 1) := by decide +kernel
theorem dX10_nights_8 : decode cX10_nights 8 = .ok (.invokevirtual 138, 3) := by decide +kernel
theorem dX10_nights_11 : decode cX10_nights 11 = .ok (.ifCond .eq 14, 3) := by decide +kernel
theorem dX10_nights_14 : decode cX10_nights 14 = .ok (.iload_n 2, 1) := by decide +kernel
theorem dX10_nights_15 : decode cX10_nights 15 = .ok (.iconst 1, 1) := by decide +kernel
theorem dX10_nights_16 : decode cX10_nights 16 = .ok (.if_icmp .lt 9, 3) := by decide +kernel
theorem dX10_nights_19 : decode cX10_nights 19 = .ok (.iload_n 2, 1) := by decide +kernel
theorem dX10_nights_20 : decode cX10_nights 20 = .ok (.bipush 8, 2) := by decide +kernel
theorem dX10_nights_22 : decode cX10_nights 22 = .ok (.if_icmp .le 6, 3) := by decide +kernel
theorem dX10_nights_25 : decode cX10_nights 25 = .ok (.bipush (-3), 2) := by decide +kernel
theorem dX10_nights_27 : decode cX10_nights 27 = .ok (.ireturn, 1) := by decide +kernel
theorem dX10_nights_28 : decode cX10_nights 28 = .ok (.iload_n 3, 1) := by decide +kernel
theorem dX10_nights_29 : decode cX10_nights 29 = .ok (.ifCond .lt 22, 3) := by decide +kernel
theorem dX10_nights_32 : decode cX10_nights 32 = .ok (.iload_n 3, 1) := by decide +kernel
theorem dX10_nights_33 : decode cX10_nights 33 = .ok (.bipush 99, 2) := by decide +kernel
theorem dX10_nights_35 : decode cX10_nights 35 = .ok (.if_icmp .gt 16, 3) := by decide +kernel
theorem dX10_nights_38 : decode cX10_nights 38 = .ok (.iload 4, 2) := by decide +kernel
theorem dX10_nights_40 : decode cX10_nights 40 = .ok (.iconst (-1), 1) := by decide +kernel
theorem dX10_nights_41 : decode cX10_nights 41 = .ok (.if_icmp .lt 10, 3) := by decide +kernel
theorem dX10_nights_44 : decode cX10_nights 44 = .ok (.iload 4, 2) := by decide +kernel
theorem dX10_nights_46 : decode cX10_nights 46 = .ok (.bipush 7, 2) := by decide +kernel
theorem dX10_nights_48 : decode cX10_nights 48 = .ok (.if_icmp .le 6, 3) := by decide +kernel
theorem dX10_nights_51 : decode cX10_nights 51 = .ok (.bipush (-3), 2) := by decide +kernel
theorem dX10_nights_53 : decode cX10_nights 53 = .ok (.ireturn, 1) := by decide +kernel
theorem dX10_nights_54 : decode cX10_nights 54 = .ok (.aload_n 0, 1) := by decide +kernel
theorem dX10_nights_55 : decode cX10_nights 55 = .ok (.iload_n 1, 1) := by decide +kernel
theorem dX10_nights_56 : decode cX10_nights 56 = .ok (.invokevirtual 271, 3) := by decide +kernel
theorem dX10_nights_59 : decode cX10_nights 59 = .ok (.istore 5, 2) := by decide +kernel
theorem dX10_nights_61 : decode cX10_nights 61 = .ok (.iconst 0, 1) := by decide +kernel
theorem dX10_nights_62 : decode cX10_nights 62 = .ok (.aload_n 0, 1) := by decide +kernel
theorem dX10_nights_63 : decode cX10_nights 63 = .ok (.getfield 52, 3) := by decide +kernel
theorem dX10_nights_66 : decode cX10_nights 66 = .ok (.getfield 110, 3) := by decide +kernel
theorem dX10_nights_69 : decode cX10_nights 69 = .ok (.getfield 157, 3) := by decide +kernel
theorem dX10_nights_72 : decode cX10_nights 72 = .ok (.iload_n 1, 1) := by decide +kernel
theorem dX10_nights_73 : decode cX10_nights 73 = .ok (.iaload, 1) := by decide +kernel
theorem dX10_nights_74 : decode cX10_nights 74 = .ok (.iload_n 2, 1) := by decide +kernel
theorem dX10_nights_75 : decode cX10_nights 75 = .ok (.aload_n 0, 1) := by decide +kernel
theorem dX10_nights_76 : decode cX10_nights 76 = .ok (.getfield 52, 3) := by decide +kernel
theorem dX10_nights_79 : decode cX10_nights 79 = .ok (.getfield 103, 3) := by decide +kernel
theorem dX10_nights_82 : decode cX10_nights 82 = .ok (.getfield 141, 3) := by decide +kernel
theorem dX10_nights_85 : decode cX10_nights 85 = .ok (.iload_n 1, 1) := by decide +kernel
theorem dX10_nights_86 : decode cX10_nights 86 = .ok (.iaload, 1) := by decide +kernel
theorem dX10_nights_87 : decode cX10_nights 87 = .ok (.imul, 1) := by decide +kernel
theorem dX10_nights_88 : decode cX10_nights 88 = .ok (.iadd, 1) := by decide +kernel
theorem dX10_nights_89 : decode cX10_nights 89 = .ok (.iload_n 3, 1) := by decide +kernel
theorem dX10_nights_90 : decode cX10_nights 90 = .ok (.isub, 1) := by decide +kernel
theorem dX10_nights_91 : decode cX10_nights 91 = .ok (.invokestatic 266, 3) := by decide +kernel
theorem dX10_nights_94 : decode cX10_nights 94 = .ok (.istore 6, 2) := by decide +kernel
theorem dX10_nights_96 : decode cX10_nights 96 = .ok (.iload 6, 2) := by decide +kernel
theorem dX10_nights_98 : decode cX10_nights 98 = .ok (.iload_n 2, 1) := by decide +kernel
theorem dX10_nights_99 : decode cX10_nights 99 = .ok (.iload 5, 2) := by decide +kernel
theorem dX10_nights_101 : decode cX10_nights 101 = .ok (.imul, 1) := by decide +kernel
theorem dX10_nights_102 : decode cX10_nights 102 = .ok (.if_icmp .gt 9, 3) := by decide +kernel
theorem dX10_nights_105 : decode cX10_nights 105 = .ok (.iload 4, 2) := by decide +kernel
theorem dX10_nights_107 : decode cX10_nights 107 = .ok (.iload_n 2, 1) := by decide +kernel
theorem dX10_nights_108 : decode cX10_nights 108 = .ok (.if_icmp .lt 6, 3) := by decide +kernel
theorem dX10_nights_111 : decode cX10_nights 111 = .ok (.bipush (-2), 2) := by decide +kernel
theorem dX10_nights_113 : decode cX10_nights 113 = .ok (.ireturn, 1) := by decide +kernel
theorem dX10_nights_114 : decode cX10_nights 114 = .ok (.iload 4, 2) := by decide +kernel
theorem dX10_nights_116 : decode cX10_nights 116 = .ok (.iconst (-1), 1) := by decide +kernel
theorem dX10_nights_117 : decode cX10_nights 117 = .ok (.if_icmp .ne 13, 3) := by decide +kernel
theorem dX10_nights_120 : decode cX10_nights 120 = .ok (.aload_n 0, 1) := by decide +kernel
theorem dX10_nights_121 : decode cX10_nights 121 = .ok (.iload_n 2, 1) := by decide +kernel
theorem dX10_nights_122 : decode cX10_nights 122 = .ok (.iload 6, 2) := by decide +kernel
theorem dX10_nights_124 : decode cX10_nights 124 = .ok (.invokevirtual 274, 3) := by decide +kernel
theorem dX10_nights_127 : decode cX10_nights 127 = .ok (.goto 14, 3) := by decide +kernel
theorem dX10_nights_130 : decode cX10_nights 130 = .ok (.aload_n 0, 1) := by decide +kernel
theorem dX10_nights_131 : decode cX10_nights 131 = .ok (.iload_n 2, 1) := by decide +kernel
theorem dX10_nights_132 : decode cX10_nights 132 = .ok (.iload 6, 2) := by decide +kernel
theorem dX10_nights_134 : decode cX10_nights 134 = .ok (.iload 5, 2) := by decide +kernel
theorem dX10_nights_136 : decode cX10_nights 136 = .ok (.iload 4, 2) := by decide +kernel
theorem dX10_nights_138 : decode cX10_nights 138 = .ok (.invokevirtual 277, 3) := by decide +kernel
theorem dX10_nights_141 : decode cX10_nights 141 = .ok (.ireturn, 1) := by decide +kernel
theorem dX10_isSpan_0 : decode cX10_isSpan 0 = .ok (.iload_n 0, 1) := by decide +kernel
theorem dX10_isSpan_1 : decode cX10_isSpan 1 = .ok (.iconst 1, 1) := by decide +kernel
theorem dX10_isSpan_2 : decode cX10_isSpan 2 = .ok (.if_icmp .lt 13, 3) := by decide +kernel
theorem dX10_isSpan_5 : decode cX10_isSpan 5 = .ok (.iload_n 0, 1) := by decide +kernel
theorem dX10_isSpan_6 : decode cX10_isSpan 6 = .ok (.bipush 60, 2) := by decide +kernel
theorem dX10_isSpan_8 : decode cX10_isSpan 8 = .ok (.if_icmp .gt 7, 3) := by decide +kernel
theorem dX10_isSpan_11 : decode cX10_isSpan 11 = .ok (.iconst 1, 1) := by decide +kernel
theorem dX10_isSpan_12 : decode cX10_isSpan 12 = .ok (.goto 4, 3) := by decide +kernel
theorem dX10_isSpan_15 : decode cX10_isSpan 15 = .ok (.iconst 0, 1) := by decide +kernel
theorem dX10_isSpan_16 : decode cX10_isSpan 16 = .ok (.ireturn, 1) := by decide +kernel
theorem dX10_turned_0 : decode cX10_turned 0 = .ok (.aload_n 0, 1) := by decide +kernel
theorem dX10_turned_1 : decode cX10_turned 1 = .ok (.getfield 52, 3) := by decide +kernel
theorem dX10_turned_4 : decode cX10_turned 4 = .ok (.getfield 103, 3) := by decide +kernel
theorem dX10_turned_7 : decode cX10_turned 7 = .ok (.iload_n 1, 1) := by decide +kernel
theorem dX10_turned_8 : decode cX10_turned 8 = .ok (.invokevirtual 138, 3) := by decide +kernel
theorem dX10_turned_11 : decode cX10_turned 11 = .ok (.ifCond .eq 17, 3) := by decide +kernel
theorem dX10_turned_14 : decode cX10_turned 14 = .ok (.iload_n 2, 1) := by decide +kernel
theorem dX10_turned_15 : decode cX10_turned 15 = .ok (.invokestatic 281, 3) := by decide +kernel
theorem dX10_turned_18 : decode cX10_turned 18 = .ok (.ifCond .eq 10, 3) := by decide +kernel
theorem dX10_turned_21 : decode cX10_turned 21 = .ok (.iload_n 3, 1) := by decide +kernel
theorem dX10_turned_22 : decode cX10_turned 22 = .ok (.invokestatic 208, 3) := by decide +kernel
theorem dX10_turned_25 : decode cX10_turned 25 = .ok (.ifCond .ne 7, 3) := by decide +kernel
theorem dX10_turned_28 : decode cX10_turned 28 = .ok (.ldc_w 284, 3) := by decide +kernel
theorem dX10_turned_31 : decode cX10_turned 31 = .ok (.ireturn, 1) := by decide +kernel
theorem dX10_turned_32 : decode cX10_turned 32 = .ok (.aload_n 0, 1) := by decide +kernel
theorem dX10_turned_33 : decode cX10_turned 33 = .ok (.getfield 77, 3) := by decide +kernel
theorem dX10_turned_36 : decode cX10_turned 36 = .ok (.aload_n 0, 1) := by decide +kernel
theorem dX10_turned_37 : decode cX10_turned 37 = .ok (.getfield 52, 3) := by decide +kernel
theorem dX10_turned_40 : decode cX10_turned 40 = .ok (.getfield 110, 3) := by decide +kernel
theorem dX10_turned_43 : decode cX10_turned 43 = .ok (.invokevirtual 225, 3) := by decide +kernel
theorem dX10_turned_46 : decode cX10_turned 46 = .ok (.lconst 0, 1) := by decide +kernel
theorem dX10_turned_47 : decode cX10_turned 47 = .ok (.lstore 4, 2) := by decide +kernel
theorem dX10_turned_49 : decode cX10_turned 49 = .ok (.iconst 0, 1) := by decide +kernel
theorem dX10_turned_50 : decode cX10_turned 50 = .ok (.istore 6, 2) := by decide +kernel
theorem dX10_turned_52 : decode cX10_turned 52 = .ok (.iload 6, 2) := by decide +kernel
theorem dX10_turned_54 : decode cX10_turned 54 = .ok (.iload_n 2, 1) := by decide +kernel
theorem dX10_turned_55 : decode cX10_turned 55 = .ok (.if_icmp .ge 52, 3) := by decide +kernel
theorem dX10_turned_58 : decode cX10_turned 58 = .ok (.aload_n 0, 1) := by decide +kernel
theorem dX10_turned_59 : decode cX10_turned 59 = .ok (.getfield 70, 3) := by decide +kernel
theorem dX10_turned_62 : decode cX10_turned 62 = .ok (.aload_n 0, 1) := by decide +kernel
theorem dX10_turned_63 : decode cX10_turned 63 = .ok (.getfield 52, 3) := by decide +kernel
theorem dX10_turned_66 : decode cX10_turned 66 = .ok (.getfield 103, 3) := by decide +kernel
theorem dX10_turned_69 : decode cX10_turned 69 = .ok (.aload_n 0, 1) := by decide +kernel
theorem dX10_turned_70 : decode cX10_turned 70 = .ok (.getfield 77, 3) := by decide +kernel
theorem dX10_turned_73 : decode cX10_turned 73 = .ok (.aload_n 0, 1) := by decide +kernel
theorem dX10_turned_74 : decode cX10_turned 74 = .ok (.invokevirtual 187, 3) := by decide +kernel
theorem dX10_turned_77 : decode cX10_turned 77 = .ok (.invokevirtual 190, 3) := by decide +kernel
theorem dX10_turned_80 : decode cX10_turned 80 = .ok (.pop, 1) := by decide +kernel
theorem dX10_turned_81 : decode cX10_turned 81 = .ok (.lload 4, 2) := by decide +kernel
theorem dX10_turned_83 : decode cX10_turned 83 = .ok (.aload_n 0, 1) := by decide +kernel
theorem dX10_turned_84 : decode cX10_turned 84 = .ok (.getfield 70, 3) := by decide +kernel
theorem dX10_turned_87 : decode cX10_turned 87 = .ok (.aload_n 0, 1) := by decide +kernel
theorem dX10_turned_88 : decode cX10_turned 88 = .ok (.getfield 52, 3) := by decide +kernel
theorem dX10_turned_91 : decode cX10_turned 91 = .ok (.getfield 103, 3) := by decide +kernel
theorem dX10_turned_94 : decode cX10_turned 94 = .ok (.iload_n 1, 1) := by decide +kernel
theorem dX10_turned_95 : decode cX10_turned 95 = .ok (.invokevirtual 285, 3) := by decide +kernel
theorem dX10_turned_98 : decode cX10_turned 98 = .ok (.ladd, 1) := by decide +kernel
theorem dX10_turned_99 : decode cX10_turned 99 = .ok (.lstore 4, 2) := by decide +kernel
theorem dX10_turned_101 : decode cX10_turned 101 = .ok (.iinc 6 1, 3) := by decide +kernel
theorem dX10_turned_104 : decode cX10_turned 104 = .ok (.goto (-52), 3) := by decide +kernel
theorem dX10_turned_107 : decode cX10_turned 107 = .ok (.aload_n 0, 1) := by decide +kernel
theorem dX10_turned_108 : decode cX10_turned 108 = .ok (.getfield 77, 3) := by decide +kernel
theorem dX10_turned_111 : decode cX10_turned 111 = .ok (.getfield 211, 3) := by decide +kernel
theorem dX10_turned_114 : decode cX10_turned 114 = .ok (.iload_n 1, 1) := by decide +kernel
theorem dX10_turned_115 : decode cX10_turned 115 = .ok (.laload, 1) := by decide +kernel
theorem dX10_turned_116 : decode cX10_turned 116 = .ok (.aload_n 0, 1) := by decide +kernel
theorem dX10_turned_117 : decode cX10_turned 117 = .ok (.getfield 52, 3) := by decide +kernel
theorem dX10_turned_120 : decode cX10_turned 120 = .ok (.getfield 110, 3) := by decide +kernel
theorem dX10_turned_123 : decode cX10_turned 123 = .ok (.getfield 211, 3) := by decide +kernel
theorem dX10_turned_126 : decode cX10_turned 126 = .ok (.iload_n 1, 1) := by decide +kernel
theorem dX10_turned_127 : decode cX10_turned 127 = .ok (.laload, 1) := by decide +kernel
theorem dX10_turned_128 : decode cX10_turned 128 = .ok (.lsub, 1) := by decide +kernel
theorem dX10_turned_129 : decode cX10_turned 129 = .ok (.lstore 6, 2) := by decide +kernel
theorem dX10_turned_131 : decode cX10_turned 131 = .ok (.lload 4, 2) := by decide +kernel
theorem dX10_turned_133 : decode cX10_turned 133 = .ok (.lload 6, 2) := by decide +kernel
theorem dX10_turned_135 : decode cX10_turned 135 = .ok (.lsub, 1) := by decide +kernel
theorem dX10_turned_136 : decode cX10_turned 136 = .ok (.ldc2_w 219, 3) := by decide +kernel
theorem dX10_turned_139 : decode cX10_turned 139 = .ok (.iload_n 3, 1) := by decide +kernel
theorem dX10_turned_140 : decode cX10_turned 140 = .ok (.invokestatic 221, 3) := by decide +kernel
theorem dX10_turned_143 : decode cX10_turned 143 = .ok (.ireturn, 1) := by decide +kernel
theorem dX10_spite_0 : decode cX10_spite 0 = .ok (.aload_n 0, 1) := by decide +kernel
theorem dX10_spite_1 : decode cX10_spite 1 = .ok (.getfield 52, 3) := by decide +kernel
theorem dX10_spite_4 : decode cX10_spite 4 = .ok (.getfield 103, 3) := by decide +kernel
theorem dX10_spite_7 : decode cX10_spite 7 = .ok (.iload_n 1, 1) := by decide +kernel
theorem dX10_spite_8 : decode cX10_spite 8 = .ok (.invokevirtual 163, 3) := by decide +kernel
theorem dX10_spite_11 : decode cX10_spite 11 = .ok (.ifCond .eq 26, 3) := by decide +kernel
theorem dX10_spite_14 : decode cX10_spite 14 = .ok (.aload_n 0, 1) := by decide +kernel
theorem dX10_spite_15 : decode cX10_spite 15 = .ok (.iload_n 2, 1) := by decide +kernel
theorem dX10_spite_16 : decode cX10_spite 16 = .ok (.invokevirtual 205, 3) := by decide +kernel
theorem dX10_spite_19 : decode cX10_spite 19 = .ok (.ifCond .eq 18, 3) := by decide +kernel
theorem dX10_spite_22 : decode cX10_spite 22 = .ok (.iload_n 3, 1) := by decide +kernel
theorem dX10_spite_23 : decode cX10_spite 23 = .ok (.invokestatic 281, 3) := by decide +kernel
theorem dX10_spite_26 : decode cX10_spite 26 = .ok (.ifCond .eq 11, 3) := by decide +kernel
theorem dX10_spite_29 : decode cX10_spite 29 = .ok (.iload 4, 2) := by decide +kernel
theorem dX10_spite_31 : decode cX10_spite 31 = .ok (.invokestatic 208, 3) := by decide +kernel
theorem dX10_spite_34 : decode cX10_spite 34 = .ok (.ifCond .ne 7, 3) := by decide +kernel
theorem dX10_spite_37 : decode cX10_spite 37 = .ok (.ldc_w 284, 3) := by decide +kernel
theorem dX10_spite_40 : decode cX10_spite 40 = .ok (.ireturn, 1) := by decide +kernel
theorem dX10_spite_41 : decode cX10_spite 41 = .ok (.iload_n 2, 1) := by decide +kernel
theorem dX10_spite_42 : decode cX10_spite 42 = .ok (.invokestatic 215, 3) := by decide +kernel
theorem dX10_spite_45 : decode cX10_spite 45 = .ok (.istore 5, 2) := by decide +kernel
theorem dX10_spite_47 : decode cX10_spite 47 = .ok (.aload_n 0, 1) := by decide +kernel
theorem dX10_spite_48 : decode cX10_spite 48 = .ok (.getfield 77, 3) := by decide +kernel
theorem dX10_spite_51 : decode cX10_spite 51 = .ok (.aload_n 0, 1) := by decide +kernel
theorem dX10_spite_52 : decode cX10_spite 52 = .ok (.getfield 52, 3) := by decide +kernel
theorem dX10_spite_55 : decode cX10_spite 55 = .ok (.getfield 110, 3) := by decide +kernel
theorem dX10_spite_58 : decode cX10_spite 58 = .ok (.invokevirtual 225, 3) := by decide +kernel
theorem dX10_spite_61 : decode cX10_spite 61 = .ok (.aload_n 0, 1) := by decide +kernel
theorem dX10_spite_62 : decode cX10_spite 62 = .ok (.getfield 77, 3) := by decide +kernel
theorem dX10_spite_65 : decode cX10_spite 65 = .ok (.iload_n 1, 1) := by decide +kernel
theorem dX10_spite_66 : decode cX10_spite 66 = .ok (.iconst 1, 1) := by decide +kernel
theorem dX10_spite_67 : decode cX10_spite 67 = .ok (.invokevirtual 194, 3) := by decide +kernel
theorem dX10_spite_70 : decode cX10_spite 70 = .ok (.aload_n 0, 1) := by decide +kernel
theorem dX10_spite_71 : decode cX10_spite 71 = .ok (.iload_n 3, 1) := by decide +kernel
theorem dX10_spite_72 : decode cX10_spite 72 = .ok (.invokevirtual 227, 3) := by decide +kernel
theorem dX10_spite_75 : decode cX10_spite 75 = .ok (.aload_n 0, 1) := by decide +kernel
theorem dX10_spite_76 : decode cX10_spite 76 = .ok (.getfield 77, 3) := by decide +kernel
theorem dX10_spite_79 : decode cX10_spite 79 = .ok (.getfield 211, 3) := by decide +kernel
theorem dX10_spite_82 : decode cX10_spite 82 = .ok (.iload 5, 2) := by decide +kernel
theorem dX10_spite_84 : decode cX10_spite 84 = .ok (.laload, 1) := by decide +kernel
theorem dX10_spite_85 : decode cX10_spite 85 = .ok (.lstore 6, 2) := by decide +kernel
theorem dX10_spite_87 : decode cX10_spite 87 = .ok (.aload_n 0, 1) := by decide +kernel
theorem dX10_spite_88 : decode cX10_spite 88 = .ok (.getfield 77, 3) := by decide +kernel
theorem dX10_spite_91 : decode cX10_spite 91 = .ok (.aload_n 0, 1) := by decide +kernel
theorem dX10_spite_92 : decode cX10_spite 92 = .ok (.getfield 52, 3) := by decide +kernel
theorem dX10_spite_95 : decode cX10_spite 95 = .ok (.getfield 110, 3) := by decide +kernel
theorem dX10_spite_98 : decode cX10_spite 98 = .ok (.invokevirtual 225, 3) := by decide +kernel
theorem dX10_spite_101 : decode cX10_spite 101 = .ok (.aload_n 0, 1) := by decide +kernel
theorem dX10_spite_102 : decode cX10_spite 102 = .ok (.getfield 77, 3) := by decide +kernel
theorem dX10_spite_105 : decode cX10_spite 105 = .ok (.iload_n 1, 1) := by decide +kernel
theorem dX10_spite_106 : decode cX10_spite 106 = .ok (.iconst 0, 1) := by decide +kernel
theorem dX10_spite_107 : decode cX10_spite 107 = .ok (.invokevirtual 194, 3) := by decide +kernel
theorem dX10_spite_110 : decode cX10_spite 110 = .ok (.aload_n 0, 1) := by decide +kernel
theorem dX10_spite_111 : decode cX10_spite 111 = .ok (.iload_n 3, 1) := by decide +kernel
theorem dX10_spite_112 : decode cX10_spite 112 = .ok (.invokevirtual 227, 3) := by decide +kernel
theorem dX10_spite_115 : decode cX10_spite 115 = .ok (.lload 6, 2) := by decide +kernel
theorem dX10_spite_117 : decode cX10_spite 117 = .ok (.aload_n 0, 1) := by decide +kernel
theorem dX10_spite_118 : decode cX10_spite 118 = .ok (.getfield 77, 3) := by decide +kernel
theorem dX10_spite_121 : decode cX10_spite 121 = .ok (.getfield 211, 3) := by decide +kernel
theorem dX10_spite_124 : decode cX10_spite 124 = .ok (.iload 5, 2) := by decide +kernel
theorem dX10_spite_126 : decode cX10_spite 126 = .ok (.laload, 1) := by decide +kernel
theorem dX10_spite_127 : decode cX10_spite 127 = .ok (.lsub, 1) := by decide +kernel
theorem dX10_spite_128 : decode cX10_spite 128 = .ok (.ldc2_w 219, 3) := by decide +kernel
theorem dX10_spite_131 : decode cX10_spite 131 = .ok (.iload 4, 2) := by decide +kernel
theorem dX10_spite_133 : decode cX10_spite 133 = .ok (.invokestatic 221, 3) := by decide +kernel
theorem dX10_spite_136 : decode cX10_spite 136 = .ok (.ireturn, 1) := by decide +kernel
theorem dX10_seed_0 : decode cX10_seed 0 = .ok (.iload_n 1, 1) := by decide +kernel
theorem dX10_seed_1 : decode cX10_seed 1 = .ok (.ifCond .ge 5, 3) := by decide +kernel
theorem dX10_seed_4 : decode cX10_seed 4 = .ok (.iconst (-1), 1) := by decide +kernel
theorem dX10_seed_5 : decode cX10_seed 5 = .ok (.ireturn, 1) := by decide +kernel
theorem dX10_seed_6 : decode cX10_seed 6 = .ok (.aload_n 0, 1) := by decide +kernel
theorem dX10_seed_7 : decode cX10_seed 7 = .ok (.getfield 52, 3) := by decide +kernel
theorem dX10_seed_10 : decode cX10_seed 10 = .ok (.getfield 289, 3) := by decide +kernel
theorem dX10_seed_13 : decode cX10_seed 13 = .ok (.istore_n 2, 1) := by decide +kernel
theorem dX10_seed_14 : decode cX10_seed 14 = .ok (.aload_n 0, 1) := by decide +kernel
theorem dX10_seed_15 : decode cX10_seed 15 = .ok (.getfield 52, 3) := by decide +kernel
theorem dX10_seed_18 : decode cX10_seed 18 = .ok (.iload_n 1, 1) := by decide +kernel
theorem dX10_seed_19 : decode cX10_seed 19 = .ok (.putfield 289, 3) := by decide +kernel
theorem dX10_seed_22 : decode cX10_seed 22 = .ok (.iload_n 2, 1) := by decide +kernel
theorem dX10_seed_23 : decode cX10_seed 23 = .ok (.ireturn, 1) := by decide +kernel
set_option maxRecDepth 20000 in
def gX10_cheapestHours_43 (N : Nat)  (rec5 : Nat → Int32 → Int32 → Int32 → Int32 → SG → Option (Int32 × SG)) (rec17 : Nat → Int32 → Int32 → Int32 → Int32 → Int32 → Int32 → SG → Option (Int32 × SG)) (x0 : Nat) (x1 : Int32) (x2 : Int32) (x3 : Int32) (x4 : Int32) (x5 : Int32) (x6 : Int32) (s0 : Int32) (u : SG) : Option (Int32 × SG) := if s0 = 0 then (rec17 x0 x1 x2 x3 x4 x5 (x6 + (1 : Int32)) u)
  else (if x5 = (-1 : Int32) then (rec17 x0 x1 x2 x3 x4 x6 (x6 + (1 : Int32)) u)
  else (if zK u x0 = 11 then (Option.bind (zR u x0 11) fun q1 => (if zK u q1 = 22 then if x6 < 0 ∨ zN u q1 ≤ x6.toNatClampNeg then none else (if zK u x0 = 11 then (Option.bind (zR u x0 11) fun q2 => (if zK u q2 = 22 then if x5 < 0 ∨ zN u q2 ≤ x5.toNatClampNeg then none else (if (zI u q2 x5.toNatClampNeg) ≤ (zI u q1 x6.toNatClampNeg) then (rec17 x0 x1 x2 x3 x4 x5 (x6 + (1 : Int32)) u)
  else (rec17 x0 x1 x2 x3 x4 x6 (x6 + (1 : Int32)) u)) else none)) else none) else none)) else none))
set_option maxRecDepth 20000 in
set_option maxHeartbeats 4000000 in
theorem jgX10_cheapestHours_43 {rec5 : Nat → Int32 → Int32 → Int32 → Int32 → SG → Option (Int32 × SG)} {rec17 : Nat → Int32 → Int32 → Int32 → Int32 → Int32 → Int32 → SG → Option (Int32 × SG)}  {X : XT} (hX : Cx X yX10_cheapestHours cX10_cheapestHours 8 (some .int) 2 0 0) (N : Nat) (hrec5 : ∀ (x0 : Nat) (x1 : Int32) (x2 : Int32) (x3 : Int32) (x4 : Int32)  (u : SG), JF X True 8 0 0 (jQ X vI 0 0) 5 [(0, .ref x0), (1, .int x1), (2, .int x2), (3, .int x3), (4, .int x4)] [] u (rec5 x0 x1 x2 x3 x4  u)) (hrec17 : ∀ (x0 : Nat) (x1 : Int32) (x2 : Int32) (x3 : Int32) (x4 : Int32) (x5 : Int32) (x6 : Int32)  (u : SG), JF X True 8 0 0 (jQ X vI 0 0) 17 [(0, .ref x0), (1, .int x1), (2, .int x2), (3, .int x3), (4, .int x4), (5, .int x5), (6, .int x6)] [] u (rec17 x0 x1 x2 x3 x4 x5 x6  u)) (x0 : Nat) (x1 : Int32) (x2 : Int32) (x3 : Int32) (x4 : Int32) (x5 : Int32) (x6 : Int32) (s0 : Int32) (u : SG) : JF X True 8 0 0 (jQ X vI 0 0) 43 [(0, .ref x0), (1, .int x1), (2, .int x2), (3, .int x3), (4, .int x4), (5, .int x5), (6, .int x6)] [.int s0] u (gX10_cheapestHours_43 N  rec5 rec17 x0 x1 x2 x3 x4 x5 x6 s0 u) := by
  unfold gX10_cheapestHours_43
  refine jf_istore (lv' := [(7, .int s0), (0, .ref x0), (1, .int x1), (2, .int x2), (3, .int x3), (4, .int x4), (5, .int x5), (6, .int x6)]) hX dX10_cheapestHours_43 (by decide) rfl ?_
  refine jf_iload hX dX10_cheapestHours_45 0 rfl ?_
  refine jf_if_eq (tgt := 77) hX dX10_cheapestHours_47 (by decide) ?_ ?_
  · refine jf_iinc (v := 1) (lv' := [(6, .int (x6 + (1 : Int32))), (7, .int s0), (0, .ref x0), (1, .int x1), (2, .int x2), (3, .int x3), (4, .int x4), (5, .int x5)]) hX dX10_cheapestHours_77 7 rfl (by decide) (by decide) rfl ?_
    refine jf_goto (tgt := 17) hX dX10_cheapestHours_80 (by decide) ?_
    refine jf_lv [2, 3, 4, 5, 6, 7, 0] rfl ?_
    exact hrec17 x0 x1 x2 x3 x4 x5 (x6 + (1 : Int32)) u
  · refine jf_iload hX dX10_cheapestHours_50 6 rfl ?_
    refine jf_iconst (v := -1) hX dX10_cheapestHours_52 (by decide) ?_
    refine jf_icmp_eq (tgt := 73) hX dX10_cheapestHours_53 (by decide) ?_ ?_
    · refine jf_iload hX dX10_cheapestHours_73 7 rfl ?_
      refine jf_istore (lv' := [(5, .int x6), (7, .int s0), (0, .ref x0), (1, .int x1), (2, .int x2), (3, .int x3), (4, .int x4), (6, .int x6)]) hX dX10_cheapestHours_75 (by decide) rfl ?_
      refine jf_iinc (v := 1) (lv' := [(6, .int (x6 + (1 : Int32))), (5, .int x6), (7, .int s0), (0, .ref x0), (1, .int x1), (2, .int x2), (3, .int x3), (4, .int x4)]) hX dX10_cheapestHours_77 7 rfl (by decide) (by decide) rfl ?_
      refine jf_goto (tgt := 17) hX dX10_cheapestHours_80 (by decide) ?_
      refine jf_lv [3, 4, 5, 6, 7, 1, 0] rfl ?_
      exact hrec17 x0 x1 x2 x3 x4 x6 (x6 + (1 : Int32)) u
    · refine jf_aload_n hX dX10_cheapestHours_56 1 rfl ?_
      refine jf_getR hX ck_X10 11 wfl_705 (by decide) rfl dX10_cheapestHours_57 ?_
      refine jf_nn (fun q1 => ?_)
      refine jf_iload hX dX10_cheapestHours_60 7 rfl ?_
      refine jf_iald hX dX10_cheapestHours_62 ?_
      refine jf_aload_n hX dX10_cheapestHours_63 1 rfl ?_
      refine jf_getR hX ck_X10 11 wfl_705 (by decide) rfl dX10_cheapestHours_64 ?_
      refine jf_nn (fun q2 => ?_)
      refine jf_iload hX dX10_cheapestHours_67 6 rfl ?_
      refine jf_iald hX dX10_cheapestHours_69 ?_
      refine jf_icmp_ge (tgt := 77) hX dX10_cheapestHours_70 (by decide) ?_ ?_
      · refine jf_iinc (v := 1) (lv' := [(6, .int (x6 + (1 : Int32))), (7, .int s0), (0, .ref x0), (1, .int x1), (2, .int x2), (3, .int x3), (4, .int x4), (5, .int x5)]) hX dX10_cheapestHours_77 7 rfl (by decide) (by decide) rfl ?_
        refine jf_goto (tgt := 17) hX dX10_cheapestHours_80 (by decide) ?_
        refine jf_lv [2, 3, 4, 5, 6, 7, 0] rfl ?_
        exact hrec17 x0 x1 x2 x3 x4 x5 (x6 + (1 : Int32)) u
      · refine jf_iload hX dX10_cheapestHours_73 7 rfl ?_
        refine jf_istore (lv' := [(5, .int x6), (7, .int s0), (0, .ref x0), (1, .int x1), (2, .int x2), (3, .int x3), (4, .int x4), (6, .int x6)]) hX dX10_cheapestHours_75 (by decide) rfl ?_
        refine jf_iinc (v := 1) (lv' := [(6, .int (x6 + (1 : Int32))), (5, .int x6), (7, .int s0), (0, .ref x0), (1, .int x1), (2, .int x2), (3, .int x3), (4, .int x4)]) hX dX10_cheapestHours_77 7 rfl (by decide) (by decide) rfl ?_
        refine jf_goto (tgt := 17) hX dX10_cheapestHours_80 (by decide) ?_
        refine jf_lv [3, 4, 5, 6, 7, 1, 0] rfl ?_
        exact hrec17 x0 x1 x2 x3 x4 x6 (x6 + (1 : Int32)) u
set_option maxRecDepth 20000 in
def gX10_cheapestHours_17 (N : Nat)  (rec5 : Nat → Int32 → Int32 → Int32 → Int32 → SG → Option (Int32 × SG)) : Nat → Nat → Int32 → Int32 → Int32 → Int32 → Int32 → Int32 → SG → Option (Int32 × SG)
  | 0, _, _, _, _, _, _, _, _ => none
  | n + 1, x0, x1, x2, x3, x4, x5, x6, u => if (10 : Int32) ≤ x6 then (if x5 = (-1 : Int32) then (rec5 x0 x1 x2 x3 (x4 + (1 : Int32)) u)
  else (bs (x3 ||| ((1 : Int32) <<< (x5 &&& 31))) fun v1 => (rec5 x0 x1 x2 v1 (x4 + (1 : Int32)) u)))
  else (cl (fX10_bitOf N (x1 &&& (x3 ^^^ (-1 : Int32))) x6 u) fun r2 u3 => (if r2 = (1 : Int32) then (gX10_cheapestHours_43 N rec5 (gX10_cheapestHours_17 N rec5 n) x0 x1 x2 x3 x4 x5 x6 (1 : Int32) u3)
  else (gX10_cheapestHours_43 N rec5 (gX10_cheapestHours_17 N rec5 n) x0 x1 x2 x3 x4 x5 x6 (0 : Int32) u3)))
set_option maxRecDepth 20000 in
set_option maxHeartbeats 4000000 in
theorem jgX10_cheapestHours_17 {rec5 : Nat → Int32 → Int32 → Int32 → Int32 → SG → Option (Int32 × SG)}  {X : XT} (hX : Cx X yX10_cheapestHours cX10_cheapestHours 8 (some .int) 2 0 0) (N : Nat) (hrec5 : ∀ (x0 : Nat) (x1 : Int32) (x2 : Int32) (x3 : Int32) (x4 : Int32)  (u : SG), JF X True 8 0 0 (jQ X vI 0 0) 5 [(0, .ref x0), (1, .int x1), (2, .int x2), (3, .int x3), (4, .int x4)] [] u (rec5 x0 x1 x2 x3 x4  u)) : ∀ (n : Nat) (x0 : Nat) (x1 : Int32) (x2 : Int32) (x3 : Int32) (x4 : Int32) (x5 : Int32) (x6 : Int32) (u : SG), JF X True 8 0 0 (jQ X vI 0 0) 17 [(0, .ref x0), (1, .int x1), (2, .int x2), (3, .int x3), (4, .int x4), (5, .int x5), (6, .int x6)] [] u (gX10_cheapestHours_17 N  rec5 n x0 x1 x2 x3 x4 x5 x6 u) := by
  intro n
  induction n with
  | zero => intros; intro r u9 h9; exact absurd h9 (by simp [gX10_cheapestHours_17])
  | succ n ih =>
    intro x0 x1 x2 x3 x4 x5 x6 u
    have hrec17 := ih
    rw [gX10_cheapestHours_17]
    refine jf_iload hX dX10_cheapestHours_17 6 rfl ?_
    refine jf_bipush (v := 10) hX dX10_cheapestHours_19 (by decide) ?_
    refine jf_icmp_ge (tgt := 83) hX dX10_cheapestHours_21 (by decide) ?_ ?_
    · refine jf_iload hX dX10_cheapestHours_83 5 rfl ?_
      refine jf_iconst (v := -1) hX dX10_cheapestHours_85 (by decide) ?_
      refine jf_icmp_eq (tgt := 96) hX dX10_cheapestHours_86 (by decide) ?_ ?_
      · refine jf_iinc (v := 1) (lv' := [(4, .int (x4 + (1 : Int32))), (0, .ref x0), (1, .int x1), (2, .int x2), (3, .int x3), (5, .int x5), (6, .int x6)]) hX dX10_cheapestHours_96 4 rfl (by decide) (by decide) rfl ?_
        refine jf_goto (tgt := 5) hX dX10_cheapestHours_99 (by decide) ?_
        refine jf_lv [1, 2, 3, 4, 0] rfl ?_
        exact hrec5 x0 x1 x2 x3 (x4 + (1 : Int32)) u
      · refine jf_iload_n hX dX10_cheapestHours_89 3 rfl ?_
        refine jf_iconst (v := 1) hX dX10_cheapestHours_90 (by decide) ?_
        refine jf_iload hX dX10_cheapestHours_91 5 rfl ?_
        refine jf_ishl hX dX10_cheapestHours_93 ?_
        refine jf_ior hX dX10_cheapestHours_94 ?_
        refine jf_nmI (fun v1 => ?_)
        refine jf_istore_n (lv' := [(3, .int v1), (0, .ref x0), (1, .int x1), (2, .int x2), (4, .int x4), (5, .int x5), (6, .int x6)]) hX dX10_cheapestHours_95 rfl (by decide) rfl ?_
        refine jf_iinc (v := 1) (lv' := [(4, .int (x4 + (1 : Int32))), (3, .int v1), (0, .ref x0), (1, .int x1), (2, .int x2), (5, .int x5), (6, .int x6)]) hX dX10_cheapestHours_96 4 rfl (by decide) (by decide) rfl ?_
        refine jf_goto (tgt := 5) hX dX10_cheapestHours_99 (by decide) ?_
        refine jf_lv [2, 3, 4, 1, 0] rfl ?_
        exact hrec5 x0 x1 x2 v1 (x4 + (1 : Int32)) u
    · refine jf_iload_n hX dX10_cheapestHours_24 1 rfl ?_
      refine jf_iload_n hX dX10_cheapestHours_25 3 rfl ?_
      refine jf_iconst (v := -1) hX dX10_cheapestHours_26 (by decide) ?_
      refine jf_ixor hX dX10_cheapestHours_27 ?_
      refine jf_iand hX dX10_cheapestHours_28 ?_
      refine jf_iload hX dX10_cheapestHours_29 6 rfl ?_
      refine jf_callS (As := [.int (x1 &&& (x3 ^^^ (-1 : Int32))), .int x6]) (st := []) hX mo_X10_bitOf wml_746 wstat_383 rfl (fun l D cT z0 ks => kX10_bitOf N l D cT z0 ks (x1 &&& (x3 ^^^ (-1 : Int32))) x6 u) (by decide) (by decide) (by decide) (by decide) (Nat.le_of_ble_eq_true rfl) rfl rfl dX10_cheapestHours_31 (fun r2 u3 => ?_)
      refine jf_iconst (v := 1) hX dX10_cheapestHours_34 (by decide) ?_
      refine jf_icmp_ne (tgt := 42) hX dX10_cheapestHours_35 (by decide) ?_ ?_
      · refine jf_iconst (v := 0) hX dX10_cheapestHours_42 (by decide) ?_
        refine jf_lv [0, 1, 2, 3, 4, 5, 6] rfl ?_
        exact jgX10_cheapestHours_43 hX N hrec5 hrec17 x0 x1 x2 x3 x4 x5 x6 (0 : Int32) u3
      · refine jf_iconst (v := 1) hX dX10_cheapestHours_38 (by decide) ?_
        refine jf_goto (tgt := 43) hX dX10_cheapestHours_39 (by decide) ?_
        refine jf_lv [0, 1, 2, 3, 4, 5, 6] rfl ?_
        exact jgX10_cheapestHours_43 hX N hrec5 hrec17 x0 x1 x2 x3 x4 x5 x6 (1 : Int32) u3
set_option maxRecDepth 20000 in
def gX10_cheapestHours_5 (N : Nat)   : Nat → Nat → Int32 → Int32 → Int32 → Int32 → SG → Option (Int32 × SG)
  | 0, _, _, _, _, _, _ => none
  | n + 1, x0, x1, x2, x3, x4, u => if x2 ≤ x4 then (some (x3, u))
  else (gX10_cheapestHours_17 N (gX10_cheapestHours_5 N  n) N x0 x1 x2 x3 x4 (-1 : Int32) (0 : Int32) u)
set_option maxRecDepth 20000 in
set_option maxHeartbeats 4000000 in
theorem jgX10_cheapestHours_5   {X : XT} (hX : Cx X yX10_cheapestHours cX10_cheapestHours 8 (some .int) 2 0 0) (N : Nat)  : ∀ (n : Nat) (x0 : Nat) (x1 : Int32) (x2 : Int32) (x3 : Int32) (x4 : Int32) (u : SG), JF X True 8 0 0 (jQ X vI 0 0) 5 [(0, .ref x0), (1, .int x1), (2, .int x2), (3, .int x3), (4, .int x4)] [] u (gX10_cheapestHours_5 N   n x0 x1 x2 x3 x4 u) := by
  intro n
  induction n with
  | zero => intros; intro r u9 h9; exact absurd h9 (by simp [gX10_cheapestHours_5])
  | succ n ih =>
    intro x0 x1 x2 x3 x4 u
    have hrec5 := ih
    rw [gX10_cheapestHours_5]
    refine jf_iload hX dX10_cheapestHours_5 4 rfl ?_
    refine jf_iload_n hX dX10_cheapestHours_7 2 rfl ?_
    refine jf_icmp_ge (tgt := 102) hX dX10_cheapestHours_8 (by decide) ?_ ?_
    · refine jf_iload_n hX dX10_cheapestHours_102 3 rfl ?_
      exact jf_iret hX rfl (by decide) (by decide) dX10_cheapestHours_103
    · refine jf_iconst (v := -1) hX dX10_cheapestHours_11 (by decide) ?_
      refine jf_istore (lv' := [(5, .int (-1 : Int32)), (0, .ref x0), (1, .int x1), (2, .int x2), (3, .int x3), (4, .int x4)]) hX dX10_cheapestHours_12 (by decide) rfl ?_
      refine jf_iconst (v := 0) hX dX10_cheapestHours_14 (by decide) ?_
      refine jf_istore (lv' := [(6, .int (0 : Int32)), (5, .int (-1 : Int32)), (0, .ref x0), (1, .int x1), (2, .int x2), (3, .int x3), (4, .int x4)]) hX dX10_cheapestHours_15 (by decide) rfl ?_
      refine jf_lv [2, 3, 4, 5, 6, 1, 0] rfl ?_
      exact jgX10_cheapestHours_17 hX N hrec5 N x0 x1 x2 x3 x4 (-1 : Int32) (0 : Int32) u
set_option maxRecDepth 20000 in
def fX10_cheapestHours (N : Nat)  (a0 : Nat) (p1 : Int32) (p2 : Int32) (u : SG) : Option (Int32 × SG) := gX10_cheapestHours_5 N  N a0 p1 p2 (0 : Int32) (0 : Int32) u
set_option maxRecDepth 20000 in
set_option maxHeartbeats 4000000 in
theorem kX10_cheapestHours  (N : Nat)  (l : Launch) (D : va_G) (cT : Nat → ClassId) (z0 : Nat) (ks : Nat × Nat) (a0 : Nat) (p1 : Int32) (p2 : Int32) (u : SG) : Ct l D cT z0 ks yX10_cheapestHours cX10_cheapestHours 8 (some .int) 2 0 0 vI [.ref a0, .int p1, .int p2] u (fX10_cheapestHours N  a0 p1 p2 u) := by
  unfold fX10_cheapestHours
  refine ct_of (by decide +kernel) (Nat.le_of_ble_eq_true rfl) (fun p e R s m args below meth c hX => ?_)
  show JF _ True 8 0 0 _ 0 [(0, .ref a0), (1, .int p1), (2, .int p2)] [] u _
  refine jf_iconst (v := 0) hX dX10_cheapestHours_0 (by decide) ?_
  refine jf_istore_n (lv' := [(3, .int (0 : Int32)), (0, .ref a0), (1, .int p1), (2, .int p2)]) hX dX10_cheapestHours_1 rfl (by decide) rfl ?_
  refine jf_iconst (v := 0) hX dX10_cheapestHours_2 (by decide) ?_
  refine jf_istore (lv' := [(4, .int (0 : Int32)), (3, .int (0 : Int32)), (0, .ref a0), (1, .int p1), (2, .int p2)]) hX dX10_cheapestHours_3 (by decide) rfl ?_
  refine jf_lv [2, 3, 4, 1, 0] rfl ?_
  exact jgX10_cheapestHours_5 hX N  N a0 p1 p2 (0 : Int32) (0 : Int32) u
set_option maxRecDepth 20000 in
def gX10_costOfHours_4 (N : Nat)   : Nat → Nat → Int32 → Int32 → Int32 → SG → Option (Int32 × SG)
  | 0, _, _, _, _, _ => none
  | n + 1, x0, x1, x2, x3, u => if (10 : Int32) ≤ x3 then (some (x2, u))
  else (cl (fX10_bitOf N x1 x3 u) fun r1 u2 => (if r1 = (1 : Int32) then (if zK u2 x0 = 11 then (Option.bind (zR u2 x0 11) fun q3 => (if zK u2 q3 = 22 then if x3 < 0 ∨ zN u2 q3 ≤ x3.toNatClampNeg then none else (bs (x2 + (zI u2 q3 x3.toNatClampNeg)) fun v4 => ((gX10_costOfHours_4 N  n) x0 x1 v4 (x3 + (1 : Int32)) u2)) else none)) else none)
  else ((gX10_costOfHours_4 N  n) x0 x1 x2 (x3 + (1 : Int32)) u2)))
set_option maxRecDepth 20000 in
set_option maxHeartbeats 4000000 in
theorem jgX10_costOfHours_4   {X : XT} (hX : Cx X yX10_costOfHours cX10_costOfHours 4 (some .int) 2 0 0) (N : Nat)  : ∀ (n : Nat) (x0 : Nat) (x1 : Int32) (x2 : Int32) (x3 : Int32) (u : SG), JF X True 4 0 0 (jQ X vI 0 0) 4 [(0, .ref x0), (1, .int x1), (2, .int x2), (3, .int x3)] [] u (gX10_costOfHours_4 N   n x0 x1 x2 x3 u) := by
  intro n
  induction n with
  | zero => intros; intro r u9 h9; exact absurd h9 (by simp [gX10_costOfHours_4])
  | succ n ih =>
    intro x0 x1 x2 x3 u
    have hrec4 := ih
    rw [gX10_costOfHours_4]
    refine jf_iload_n hX dX10_costOfHours_4 3 rfl ?_
    refine jf_bipush (v := 10) hX dX10_costOfHours_5 (by decide) ?_
    refine jf_icmp_ge (tgt := 34) hX dX10_costOfHours_7 (by decide) ?_ ?_
    · refine jf_iload_n hX dX10_costOfHours_34 2 rfl ?_
      exact jf_iret hX rfl (by decide) (by decide) dX10_costOfHours_35
    · refine jf_iload_n hX dX10_costOfHours_10 1 rfl ?_
      refine jf_iload_n hX dX10_costOfHours_11 3 rfl ?_
      refine jf_callS (As := [.int x1, .int x3]) (st := []) hX mo_X10_bitOf wml_746 wstat_383 rfl (fun l D cT z0 ks => kX10_bitOf N l D cT z0 ks x1 x3 u) (by decide) (by decide) (by decide) (by decide) (Nat.le_of_ble_eq_true rfl) rfl rfl dX10_costOfHours_12 (fun r1 u2 => ?_)
      refine jf_iconst (v := 1) hX dX10_costOfHours_15 (by decide) ?_
      refine jf_icmp_ne (tgt := 28) hX dX10_costOfHours_16 (by decide) ?_ ?_
      · refine jf_iinc (v := 1) (lv' := [(3, .int (x3 + (1 : Int32))), (0, .ref x0), (1, .int x1), (2, .int x2)]) hX dX10_costOfHours_28 3 rfl (by decide) (by decide) rfl ?_
        refine jf_goto (tgt := 4) hX dX10_costOfHours_31 (by decide) ?_
        refine jf_lv [1, 2, 3, 0] rfl ?_
        exact hrec4 x0 x1 x2 (x3 + (1 : Int32)) u2
      · refine jf_iload_n hX dX10_costOfHours_19 2 rfl ?_
        refine jf_aload_n hX dX10_costOfHours_20 0 rfl ?_
        refine jf_getR hX ck_X10 11 wfl_705 (by decide) rfl dX10_costOfHours_21 ?_
        refine jf_nn (fun q3 => ?_)
        refine jf_iload_n hX dX10_costOfHours_24 3 rfl ?_
        refine jf_iald hX dX10_costOfHours_25 ?_
        refine jf_iadd hX dX10_costOfHours_26 ?_
        refine jf_nmI (fun v4 => ?_)
        refine jf_istore_n (lv' := [(2, .int v4), (0, .ref x0), (1, .int x1), (3, .int x3)]) hX dX10_costOfHours_27 rfl (by decide) rfl ?_
        refine jf_iinc (v := 1) (lv' := [(3, .int (x3 + (1 : Int32))), (2, .int v4), (0, .ref x0), (1, .int x1)]) hX dX10_costOfHours_28 3 rfl (by decide) (by decide) rfl ?_
        refine jf_goto (tgt := 4) hX dX10_costOfHours_31 (by decide) ?_
        refine jf_lv [2, 3, 1, 0] rfl ?_
        exact hrec4 x0 x1 v4 (x3 + (1 : Int32)) u2
set_option maxRecDepth 20000 in
def fX10_costOfHours (N : Nat)  (a0 : Nat) (p1 : Int32) (u : SG) : Option (Int32 × SG) := gX10_costOfHours_4 N  N a0 p1 (0 : Int32) (0 : Int32) u
set_option maxRecDepth 20000 in
set_option maxHeartbeats 4000000 in
theorem kX10_costOfHours  (N : Nat)  (l : Launch) (D : va_G) (cT : Nat → ClassId) (z0 : Nat) (ks : Nat × Nat) (a0 : Nat) (p1 : Int32) (u : SG) : Ct l D cT z0 ks yX10_costOfHours cX10_costOfHours 4 (some .int) 2 0 0 vI [.ref a0, .int p1] u (fX10_costOfHours N  a0 p1 u) := by
  unfold fX10_costOfHours
  refine ct_of (by decide +kernel) (Nat.le_of_ble_eq_true rfl) (fun p e R s m args below meth c hX => ?_)
  show JF _ True 4 0 0 _ 0 [(0, .ref a0), (1, .int p1)] [] u _
  refine jf_iconst (v := 0) hX dX10_costOfHours_0 (by decide) ?_
  refine jf_istore_n (lv' := [(2, .int (0 : Int32)), (0, .ref a0), (1, .int p1)]) hX dX10_costOfHours_1 rfl (by decide) rfl ?_
  refine jf_iconst (v := 0) hX dX10_costOfHours_2 (by decide) ?_
  refine jf_istore_n (lv' := [(3, .int (0 : Int32)), (2, .int (0 : Int32)), (0, .ref a0), (1, .int p1)]) hX dX10_costOfHours_3 rfl (by decide) rfl ?_
  refine jf_lv [2, 3, 1, 0] rfl ?_
  exact jgX10_costOfHours_4 hX N  N a0 p1 (0 : Int32) (0 : Int32) u
set_option maxRecDepth 20000 in
def gX10_sleepTogether_99 (N : Nat)  (rec36 : Nat → Int32 → Int32 → Int32 → Nat → Int32 → Int32 → SG → Option (Int32 × SG)) (x0 : Nat) (x1 : Int32) (x2 : Int32) (x3 : Int32) (x4 : Nat) (x5 : Int32) (x6 : Int32) (s0 : Int32) (u : SG) : Option (Int32 × SG) := if s0 = 0 then (rec36 x0 x1 x2 x3 x4 x5 (x6 + (1 : Int32)) u)
  else (if zK u x4 = 8 then cl (fX7_workersAt N x4 x6 u) fun r1 u2 => (if (r1 &&& x1) = 0 then (bs (x5 ||| ((1 : Int32) <<< (x6 &&& 31))) fun v3 => (rec36 x0 x1 x2 x3 x4 v3 (x6 + (1 : Int32)) u2))
  else (rec36 x0 x1 x2 x3 x4 x5 (x6 + (1 : Int32)) u2)) else none)
set_option maxRecDepth 20000 in
set_option maxHeartbeats 4000000 in
theorem jgX10_sleepTogether_99 {rec36 : Nat → Int32 → Int32 → Int32 → Nat → Int32 → Int32 → SG → Option (Int32 × SG)}  {X : XT} (hX : Cx X yX10_sleepTogether cX10_sleepTogether 8 (some .int) 3 0 0) (N : Nat) (hrec36 : ∀ (x0 : Nat) (x1 : Int32) (x2 : Int32) (x3 : Int32) (x4 : Nat) (x5 : Int32) (x6 : Int32)  (u : SG), JF X True 8 0 0 (jQ X vI 0 0) 36 [(0, .ref x0), (1, .int x1), (2, .int x2), (3, .int x3), (4, .ref x4), (5, .int x5), (6, .int x6)] [] u (rec36 x0 x1 x2 x3 x4 x5 x6  u)) (x0 : Nat) (x1 : Int32) (x2 : Int32) (x3 : Int32) (x4 : Nat) (x5 : Int32) (x6 : Int32) (s0 : Int32) (u : SG) : JF X True 8 0 0 (jQ X vI 0 0) 99 [(0, .ref x0), (1, .int x1), (2, .int x2), (3, .int x3), (4, .ref x4), (5, .int x5), (6, .int x6)] [.int s0] u (gX10_sleepTogether_99 N  rec36 x0 x1 x2 x3 x4 x5 x6 s0 u) := by
  unfold gX10_sleepTogether_99
  refine jf_istore (lv' := [(7, .int s0), (0, .ref x0), (1, .int x1), (2, .int x2), (3, .int x3), (4, .ref x4), (5, .int x5), (6, .int x6)]) hX dX10_sleepTogether_99 (by decide) rfl ?_
  refine jf_iload hX dX10_sleepTogether_101 0 rfl ?_
  refine jf_if_eq (tgt := 127) hX dX10_sleepTogether_103 (by decide) ?_ ?_
  · refine jf_iinc (v := 1) (lv' := [(6, .int (x6 + (1 : Int32))), (7, .int s0), (0, .ref x0), (1, .int x1), (2, .int x2), (3, .int x3), (4, .ref x4), (5, .int x5)]) hX dX10_sleepTogether_127 7 rfl (by decide) (by decide) rfl ?_
    refine jf_goto (tgt := 36) hX dX10_sleepTogether_130 (by decide) ?_
    refine jf_lv [2, 3, 4, 5, 6, 7, 0] rfl ?_
    exact hrec36 x0 x1 x2 x3 x4 x5 (x6 + (1 : Int32)) u
  · refine jf_aload hX dX10_sleepTogether_106 5 rfl ?_
    refine jf_iload hX dX10_sleepTogether_108 7 rfl ?_
    refine jf_callV (As := [.int x6]) (st := []) hX mo_X7_workersAt wml_739 winst_444 wsel_445 7 ck_X7 rfl (fun l D cT z0 ks => kX7_workersAt N l D cT z0 ks x4 x6 u) (by decide) (by decide) (by decide) (by decide) (Nat.le_of_ble_eq_true rfl) rfl rfl dX10_sleepTogether_110 (fun r1 u2 => ?_)
    refine jf_iload_n hX dX10_sleepTogether_113 2 rfl ?_
    refine jf_iand hX dX10_sleepTogether_114 ?_
    refine jf_if_ne (tgt := 127) hX dX10_sleepTogether_115 (by decide) ?_ ?_
    · refine jf_iinc (v := 1) (lv' := [(6, .int (x6 + (1 : Int32))), (7, .int s0), (0, .ref x0), (1, .int x1), (2, .int x2), (3, .int x3), (4, .ref x4), (5, .int x5)]) hX dX10_sleepTogether_127 7 rfl (by decide) (by decide) rfl ?_
      refine jf_goto (tgt := 36) hX dX10_sleepTogether_130 (by decide) ?_
      refine jf_lv [2, 3, 4, 5, 6, 7, 0] rfl ?_
      exact hrec36 x0 x1 x2 x3 x4 x5 (x6 + (1 : Int32)) u2
    · refine jf_iload hX dX10_sleepTogether_118 6 rfl ?_
      refine jf_iconst (v := 1) hX dX10_sleepTogether_120 (by decide) ?_
      refine jf_iload hX dX10_sleepTogether_121 7 rfl ?_
      refine jf_ishl hX dX10_sleepTogether_123 ?_
      refine jf_ior hX dX10_sleepTogether_124 ?_
      refine jf_nmI (fun v3 => ?_)
      refine jf_istore (lv' := [(5, .int v3), (7, .int s0), (0, .ref x0), (1, .int x1), (2, .int x2), (3, .int x3), (4, .ref x4), (6, .int x6)]) hX dX10_sleepTogether_125 (by decide) rfl ?_
      refine jf_iinc (v := 1) (lv' := [(6, .int (x6 + (1 : Int32))), (5, .int v3), (7, .int s0), (0, .ref x0), (1, .int x1), (2, .int x2), (3, .int x3), (4, .ref x4)]) hX dX10_sleepTogether_127 7 rfl (by decide) (by decide) rfl ?_
      refine jf_goto (tgt := 36) hX dX10_sleepTogether_130 (by decide) ?_
      refine jf_lv [3, 4, 5, 6, 7, 1, 0] rfl ?_
      exact hrec36 x0 x1 x2 x3 x4 v3 (x6 + (1 : Int32)) u2
set_option maxRecDepth 20000 in
def gX10_sleepTogether_98 (N : Nat)  (rec36 : Nat → Int32 → Int32 → Int32 → Nat → Int32 → Int32 → SG → Option (Int32 × SG)) (x0 : Nat) (x1 : Int32) (x2 : Int32) (x3 : Int32) (x4 : Nat) (x5 : Int32) (x6 : Int32) (u : SG) : Option (Int32 × SG) := gX10_sleepTogether_99 N rec36 x0 x1 x2 x3 x4 x5 x6 (0 : Int32) u
set_option maxRecDepth 20000 in
set_option maxHeartbeats 4000000 in
theorem jgX10_sleepTogether_98 {rec36 : Nat → Int32 → Int32 → Int32 → Nat → Int32 → Int32 → SG → Option (Int32 × SG)}  {X : XT} (hX : Cx X yX10_sleepTogether cX10_sleepTogether 8 (some .int) 3 0 0) (N : Nat) (hrec36 : ∀ (x0 : Nat) (x1 : Int32) (x2 : Int32) (x3 : Int32) (x4 : Nat) (x5 : Int32) (x6 : Int32)  (u : SG), JF X True 8 0 0 (jQ X vI 0 0) 36 [(0, .ref x0), (1, .int x1), (2, .int x2), (3, .int x3), (4, .ref x4), (5, .int x5), (6, .int x6)] [] u (rec36 x0 x1 x2 x3 x4 x5 x6  u)) (x0 : Nat) (x1 : Int32) (x2 : Int32) (x3 : Int32) (x4 : Nat) (x5 : Int32) (x6 : Int32) (u : SG) : JF X True 8 0 0 (jQ X vI 0 0) 98 [(0, .ref x0), (1, .int x1), (2, .int x2), (3, .int x3), (4, .ref x4), (5, .int x5), (6, .int x6)] [] u (gX10_sleepTogether_98 N  rec36 x0 x1 x2 x3 x4 x5 x6 u) := by
  unfold gX10_sleepTogether_98
  refine jf_iconst (v := 0) hX dX10_sleepTogether_98 (by decide) ?_
  refine jf_lv [0, 1, 2, 3, 4, 5, 6] rfl ?_
  exact jgX10_sleepTogether_99 hX N hrec36 x0 x1 x2 x3 x4 x5 x6 (0 : Int32) u
set_option maxRecDepth 20000 in
def gX10_sleepTogether_36 (N : Nat)   : Nat → Nat → Int32 → Int32 → Int32 → Nat → Int32 → Int32 → SG → Option (Int32 × SG)
  | 0, _, _, _, _, _, _, _, _ => none
  | n + 1, x0, x1, x2, x3, x4, x5, x6, u => if (10 : Int32) ≤ x6 then (cl (fJ6_bitCount_0f7a4 N x5 u) fun r1 u2 => (if x2 ≤ r1 then (if zK u2 x0 = 11 then cl (fX10_cheapestHours N x0 x5 x2 u2) fun r3 u4 => (if x3 = 0 then (some (r3, u4))
  else (if zK u4 x0 = 11 then (Option.bind (zR u4 x0 6) fun q5 => (if zK u4 q5 = 7 then (Option.bind (zR u4 q5 1) fun q6 => (if zK u4 q6 = 3 then (cl (fJ6_bitCount_0f7a4 N ((zI u4 q6 2) ||| x1) u4) fun r7 u8 => (if zK u8 x0 = 11 then cl (fX10_costOfHours N x0 r3 u8) fun r9 u10 => (cl (fJ6_bitCount_0f7a4 N x1 u10) fun r11 u12 => (cl (fX10_fraction N (r9.toInt64 * r11.toInt64) r7.toInt64 (x3 - (1 : Int32)) u12) fun r13 u14 => (some (r13, u14)))) else none)) else none)) else none)) else none)) else none)
  else (some ((-2 : Int32), u2))))
  else (if zK u x0 = 11 then (Option.bind (zR u x0 11) fun q15 => (if zK u x0 = 11 then (Option.bind (zR u x0 6) fun q16 => (if zK u q16 = 7 then (Option.bind (zR u q16 1) fun q17 => (if zK u q17 = 3 then cl (fX2_burningAt N q17 x4 x6 u) fun r18 u19 => (if zK u19 x4 = 8 then cl (fX7_costOf N x4 r18 u19) fun r20 u21 => (if zK u21 q15 = 22 then if x6 < 0 ∨ zN u21 q15 ≤ x6.toNatClampNeg then none else bs (sI u21 q15 x6.toNatClampNeg r20) fun u22 => (if zK u22 x0 = 11 then (Option.bind (zR u22 x0 6) fun q23 => (if zK u22 q23 = 7 then (Option.bind (zR u22 q23 1) fun q24 => (if zK u22 q24 = 3 then (if x6 < (zI u22 q24 0) then (gX10_sleepTogether_98 N (gX10_sleepTogether_36 N  n) x0 x1 x2 x3 x4 x5 x6 u22)
  else (if zK u22 x4 = 8 then (if (zI u22 x4 6) ≤ x6 then (gX10_sleepTogether_98 N (gX10_sleepTogether_36 N  n) x0 x1 x2 x3 x4 x5 x6 u22)
  else (gX10_sleepTogether_99 N (gX10_sleepTogether_36 N  n) x0 x1 x2 x3 x4 x5 x6 (1 : Int32) u22)) else none)) else none)) else none)) else none) else none) else none) else none)) else none)) else none)) else none)
set_option maxRecDepth 20000 in
set_option maxHeartbeats 4000000 in
theorem jgX10_sleepTogether_36   {X : XT} (hX : Cx X yX10_sleepTogether cX10_sleepTogether 8 (some .int) 3 0 0) (N : Nat)  : ∀ (n : Nat) (x0 : Nat) (x1 : Int32) (x2 : Int32) (x3 : Int32) (x4 : Nat) (x5 : Int32) (x6 : Int32) (u : SG), JF X True 8 0 0 (jQ X vI 0 0) 36 [(0, .ref x0), (1, .int x1), (2, .int x2), (3, .int x3), (4, .ref x4), (5, .int x5), (6, .int x6)] [] u (gX10_sleepTogether_36 N   n x0 x1 x2 x3 x4 x5 x6 u) := by
  intro n
  induction n with
  | zero => intros; intro r u9 h9; exact absurd h9 (by simp [gX10_sleepTogether_36])
  | succ n ih =>
    intro x0 x1 x2 x3 x4 x5 x6 u
    have hrec36 := ih
    rw [gX10_sleepTogether_36]
    refine jf_iload hX dX10_sleepTogether_36 6 rfl ?_
    refine jf_bipush (v := 10) hX dX10_sleepTogether_38 (by decide) ?_
    refine jf_icmp_ge (tgt := 133) hX dX10_sleepTogether_40 (by decide) ?_ ?_
    · refine jf_iload hX dX10_sleepTogether_133 5 rfl ?_
      refine jf_callS (As := [.int x5]) (st := []) hX mo_J6_bitCount_0f7a4 wml_800 wstat_381 rfl (fun l D cT z0 ks => kJ6_bitCount_0f7a4 N l D cT z0 ks x5 u) (by decide) (by decide) (by decide) (by decide) (Nat.le_of_ble_eq_true rfl) rfl rfl dX10_sleepTogether_135 (fun r1 u2 => ?_)
      refine jf_iload_n hX dX10_sleepTogether_138 2 rfl ?_
      refine jf_icmp_ge (tgt := 145) hX dX10_sleepTogether_139 (by decide) ?_ ?_
      · refine jf_aload_n hX dX10_sleepTogether_145 0 rfl ?_
        refine jf_iload hX dX10_sleepTogether_146 5 rfl ?_
        refine jf_iload_n hX dX10_sleepTogether_148 2 rfl ?_
        refine jf_callV (As := [.int x5, .int x2]) (st := []) hX mo_X10_cheapestHours wml_801 winst_802 wsel_803 10 ck_X10 rfl (fun l D cT z0 ks => kX10_cheapestHours N l D cT z0 ks x0 x5 x2 u2) (by decide) (by decide) (by decide) (by decide) (Nat.le_of_ble_eq_true rfl) rfl rfl dX10_sleepTogether_149 (fun r3 u4 => ?_)
        refine jf_istore (lv' := [(6, .int r3), (0, .ref x0), (1, .int x1), (2, .int x2), (3, .int x3), (4, .ref x4), (5, .int x5)]) hX dX10_sleepTogether_152 (by decide) rfl ?_
        refine jf_iload_n hX dX10_sleepTogether_154 4 rfl ?_
        refine jf_if_ne (tgt := 161) hX dX10_sleepTogether_155 (by decide) ?_ ?_
        · refine jf_aload_n hX dX10_sleepTogether_161 1 rfl ?_
          refine jf_getR hX ck_X10 6 wfl_687 (by decide) rfl dX10_sleepTogether_162 ?_
          refine jf_nn (fun q5 => ?_)
          refine jf_getR hX ck_X6 1 wfl_719 (by decide) rfl dX10_sleepTogether_165 ?_
          refine jf_nn (fun q6 => ?_)
          refine jf_getI hX ck_X2 2 wfl_745 (by decide) rfl dX10_sleepTogether_168 ?_
          refine jf_iload_n hX dX10_sleepTogether_171 2 rfl ?_
          refine jf_ior hX dX10_sleepTogether_172 ?_
          refine jf_callS (As := [.int ((zI u4 q6 2) ||| x1)]) (st := []) hX mo_J6_bitCount_0f7a4 wml_800 wstat_381 rfl (fun l D cT z0 ks => kJ6_bitCount_0f7a4 N l D cT z0 ks ((zI u4 q6 2) ||| x1) u4) (by decide) (by decide) (by decide) (by decide) (Nat.le_of_ble_eq_true rfl) rfl rfl dX10_sleepTogether_173 (fun r7 u8 => ?_)
          refine jf_istore (lv' := [(7, .int r7), (6, .int r3), (0, .ref x0), (1, .int x1), (2, .int x2), (3, .int x3), (4, .ref x4), (5, .int x5)]) hX dX10_sleepTogether_176 (by decide) rfl ?_
          refine jf_aload_n hX dX10_sleepTogether_178 2 rfl ?_
          refine jf_iload hX dX10_sleepTogether_179 1 rfl ?_
          refine jf_callV (As := [.int r3]) (st := []) hX mo_X10_costOfHours wml_804 winst_805 wsel_806 10 ck_X10 rfl (fun l D cT z0 ks => kX10_costOfHours N l D cT z0 ks x0 r3 u8) (by decide) (by decide) (by decide) (by decide) (Nat.le_of_ble_eq_true rfl) rfl rfl dX10_sleepTogether_181 (fun r9 u10 => ?_)
          refine jf_i2l hX dX10_sleepTogether_184 ?_
          refine jf_iload_n hX dX10_sleepTogether_185 3 rfl ?_
          refine jf_callS (As := [.int x1]) (st := [.long r9.toInt64]) hX mo_J6_bitCount_0f7a4 wml_800 wstat_381 rfl (fun l D cT z0 ks => kJ6_bitCount_0f7a4 N l D cT z0 ks x1 u10) (by decide) (by decide) (by decide) (by decide) (Nat.le_of_ble_eq_true rfl) rfl rfl dX10_sleepTogether_186 (fun r11 u12 => ?_)
          refine jf_i2l hX dX10_sleepTogether_189 ?_
          refine jf_lmul hX dX10_sleepTogether_190 ?_
          refine jf_iload hX dX10_sleepTogether_191 0 rfl ?_
          refine jf_i2l hX dX10_sleepTogether_193 ?_
          refine jf_iload_n hX dX10_sleepTogether_194 5 rfl ?_
          refine jf_iconst (v := 1) hX dX10_sleepTogether_195 (by decide) ?_
          refine jf_isub hX dX10_sleepTogether_196 ?_
          refine jf_callS (As := [.long (r9.toInt64 * r11.toInt64), .long r7.toInt64, .int (x3 - (1 : Int32))]) (st := []) hX mo_X10_fraction wml_794 wstat_795 rfl (fun l D cT z0 ks => kX10_fraction N l D cT z0 ks (r9.toInt64 * r11.toInt64) r7.toInt64 (x3 - (1 : Int32)) u12) (by decide) (by decide) (by decide) (by decide) (Nat.le_of_ble_eq_true rfl) rfl rfl dX10_sleepTogether_197 (fun r13 u14 => ?_)
          exact jf_iret hX rfl (by decide) (by decide) dX10_sleepTogether_200
        · refine jf_iload hX dX10_sleepTogether_158 0 rfl ?_
          exact jf_iret hX rfl (by decide) (by decide) dX10_sleepTogether_160
      · refine jf_bipush (v := -2) hX dX10_sleepTogether_142 (by decide) ?_
        exact jf_iret hX rfl (by decide) (by decide) dX10_sleepTogether_144
    · refine jf_aload_n hX dX10_sleepTogether_43 0 rfl ?_
      refine jf_getR hX ck_X10 11 wfl_705 (by decide) rfl dX10_sleepTogether_44 ?_
      refine jf_nn (fun q15 => ?_)
      refine jf_iload hX dX10_sleepTogether_47 6 rfl ?_
      refine jf_aload hX dX10_sleepTogether_49 4 rfl ?_
      refine jf_aload_n hX dX10_sleepTogether_51 0 rfl ?_
      refine jf_getR hX ck_X10 6 wfl_687 (by decide) rfl dX10_sleepTogether_52 ?_
      refine jf_nn (fun q16 => ?_)
      refine jf_getR hX ck_X6 1 wfl_719 (by decide) rfl dX10_sleepTogether_55 ?_
      refine jf_nn (fun q17 => ?_)
      refine jf_aload hX dX10_sleepTogether_58 4 rfl ?_
      refine jf_iload hX dX10_sleepTogether_60 6 rfl ?_
      refine jf_callV (As := [.ref x4, .int x6]) (st := [.ref x4, .int x6, .ref q15]) hX mo_X2_burningAt wml_752 winst_409 wsel_410 2 ck_X2 rfl (fun l D cT z0 ks => kX2_burningAt N l D cT z0 ks q17 x4 x6 u) (by decide) (by decide) (by decide) (by decide) (Nat.le_of_ble_eq_true rfl) rfl rfl dX10_sleepTogether_62 (fun r18 u19 => ?_)
      refine jf_callV (As := [.int r18]) (st := [.int x6, .ref q15]) hX mo_X7_costOf wml_807 winst_417 wsel_418 7 ck_X7 rfl (fun l D cT z0 ks => kX7_costOf N l D cT z0 ks x4 r18 u19) (by decide) (by decide) (by decide) (by decide) (Nat.le_of_ble_eq_true rfl) rfl rfl dX10_sleepTogether_65 (fun r20 u21 => ?_)
      refine jf_iast hX trivial dX10_sleepTogether_68 (fun u22 => ?_)
      refine jf_iload hX dX10_sleepTogether_69 6 rfl ?_
      refine jf_aload_n hX dX10_sleepTogether_71 0 rfl ?_
      refine jf_getR hX ck_X10 6 wfl_687 (by decide) rfl dX10_sleepTogether_72 ?_
      refine jf_nn (fun q23 => ?_)
      refine jf_getR hX ck_X6 1 wfl_719 (by decide) rfl dX10_sleepTogether_75 ?_
      refine jf_nn (fun q24 => ?_)
      refine jf_getI hX ck_X2 0 wfl_738 (by decide) rfl dX10_sleepTogether_78 ?_
      refine jf_icmp_lt (tgt := 98) hX dX10_sleepTogether_81 (by decide) ?_ ?_
      · refine jf_lv [0, 1, 2, 3, 4, 5, 6] rfl ?_
        exact jgX10_sleepTogether_98 hX N hrec36 x0 x1 x2 x3 x4 x5 x6 u22
      · refine jf_iload hX dX10_sleepTogether_84 6 rfl ?_
        refine jf_aload hX dX10_sleepTogether_86 4 rfl ?_
        refine jf_getI hX ck_X7 6 wfl_808 (by decide) rfl dX10_sleepTogether_88 ?_
        refine jf_icmp_ge (tgt := 98) hX dX10_sleepTogether_91 (by decide) ?_ ?_
        · refine jf_lv [0, 1, 2, 3, 4, 5, 6] rfl ?_
          exact jgX10_sleepTogether_98 hX N hrec36 x0 x1 x2 x3 x4 x5 x6 u22
        · refine jf_iconst (v := 1) hX dX10_sleepTogether_94 (by decide) ?_
          refine jf_goto (tgt := 99) hX dX10_sleepTogether_95 (by decide) ?_
          refine jf_lv [0, 1, 2, 3, 4, 5, 6] rfl ?_
          exact jgX10_sleepTogether_99 hX N hrec36 x0 x1 x2 x3 x4 x5 x6 (1 : Int32) u22
set_option maxRecDepth 20000 in
def fX10_sleepTogether (N : Nat)  (a0 : Nat) (p1 : Int32) (p2 : Int32) (p3 : Int32) (u : SG) : Option (Int32 × SG) := if p2 < 0 then (some ((-1 : Int32), u))
  else (if (10 : Int32) < p2 then (some ((-1 : Int32), u))
  else (if p3 < 0 then (some ((-1 : Int32), u))
  else (if p3 ≤ (2 : Int32) then (if zK u a0 = 11 then (Option.bind (zR u a0 6) fun q1 => (if zK u q1 = 7 then (Option.bind (zR u q1 0) fun q2 => (gX10_sleepTogether_36 N  N a0 p1 p2 p3 q2 (0 : Int32) (0 : Int32) u)) else none)) else none)
  else (some ((-1 : Int32), u)))))
set_option maxRecDepth 20000 in
set_option maxHeartbeats 4000000 in
theorem kX10_sleepTogether  (N : Nat)  (l : Launch) (D : va_G) (cT : Nat → ClassId) (z0 : Nat) (ks : Nat × Nat) (a0 : Nat) (p1 : Int32) (p2 : Int32) (p3 : Int32) (u : SG) : Ct l D cT z0 ks yX10_sleepTogether cX10_sleepTogether 8 (some .int) 3 0 0 vI [.ref a0, .int p1, .int p2, .int p3] u (fX10_sleepTogether N  a0 p1 p2 p3 u) := by
  unfold fX10_sleepTogether
  refine ct_of (by decide +kernel) (Nat.le_of_ble_eq_true rfl) (fun p e R s m args below meth c hX => ?_)
  show JF _ True 8 0 0 _ 0 [(0, .ref a0), (1, .int p1), (2, .int p2), (3, .int p3)] [] u _
  refine jf_iload_n hX dX10_sleepTogether_0 2 rfl ?_
  refine jf_if_lt (tgt := 19) hX dX10_sleepTogether_1 (by decide) ?_ ?_
  · refine jf_iconst (v := -1) hX dX10_sleepTogether_19 (by decide) ?_
    exact jf_iret hX rfl (by decide) (by decide) dX10_sleepTogether_20
  · refine jf_iload_n hX dX10_sleepTogether_4 2 rfl ?_
    refine jf_bipush (v := 10) hX dX10_sleepTogether_5 (by decide) ?_
    refine jf_icmp_gt (tgt := 19) hX dX10_sleepTogether_7 (by decide) ?_ ?_
    · refine jf_iconst (v := -1) hX dX10_sleepTogether_19 (by decide) ?_
      exact jf_iret hX rfl (by decide) (by decide) dX10_sleepTogether_20
    · refine jf_iload_n hX dX10_sleepTogether_10 3 rfl ?_
      refine jf_if_lt (tgt := 19) hX dX10_sleepTogether_11 (by decide) ?_ ?_
      · refine jf_iconst (v := -1) hX dX10_sleepTogether_19 (by decide) ?_
        exact jf_iret hX rfl (by decide) (by decide) dX10_sleepTogether_20
      · refine jf_iload_n hX dX10_sleepTogether_14 3 rfl ?_
        refine jf_iconst (v := 2) hX dX10_sleepTogether_15 (by decide) ?_
        refine jf_icmp_le (tgt := 21) hX dX10_sleepTogether_16 (by decide) ?_ ?_
        · refine jf_aload_n hX dX10_sleepTogether_21 0 rfl ?_
          refine jf_getR hX ck_X10 6 wfl_687 (by decide) rfl dX10_sleepTogether_22 ?_
          refine jf_nn (fun q1 => ?_)
          refine jf_getR hX ck_X6 0 wfl_717 (by decide) rfl dX10_sleepTogether_25 ?_
          refine jf_nn (fun q2 => ?_)
          refine jf_astore (lv' := [(4, .ref q2), (0, .ref a0), (1, .int p1), (2, .int p2), (3, .int p3)]) hX dX10_sleepTogether_28 (by decide) rfl ?_
          refine jf_iconst (v := 0) hX dX10_sleepTogether_30 (by decide) ?_
          refine jf_istore (lv' := [(5, .int (0 : Int32)), (4, .ref q2), (0, .ref a0), (1, .int p1), (2, .int p2), (3, .int p3)]) hX dX10_sleepTogether_31 (by decide) rfl ?_
          refine jf_iconst (v := 0) hX dX10_sleepTogether_33 (by decide) ?_
          refine jf_istore (lv' := [(6, .int (0 : Int32)), (5, .int (0 : Int32)), (4, .ref q2), (0, .ref a0), (1, .int p1), (2, .int p2), (3, .int p3)]) hX dX10_sleepTogether_34 (by decide) rfl ?_
          refine jf_lv [3, 4, 5, 6, 2, 1, 0] rfl ?_
          exact jgX10_sleepTogether_36 hX N  N a0 p1 p2 p3 q2 (0 : Int32) (0 : Int32) u
        · refine jf_iconst (v := -1) hX dX10_sleepTogether_19 (by decide) ?_
          exact jf_iret hX rfl (by decide) (by decide) dX10_sleepTogether_20
set_option maxRecDepth 20000 in
def fX10_cheap (N : Nat)  (a0 : Nat) (p1 : Int32) (p2 : Int32) (p3 : Int32) (u : SG) : Option (Int32 × SG) := if zK u a0 = 11 then (Option.bind (zR u a0 6) fun q1 => (if zK u q1 = 7 then (Option.bind (zR u q1 0) fun q2 => (if zK u q2 = 8 then cl (fX7_isPerson N q2 p1 u) fun r3 u4 => (if r3 = 0 then (some ((-1 : Int32), u4))
  else (if zK u4 a0 = 11 then cl (fX10_sleepTogether N a0 ((1 : Int32) <<< (p1 &&& 31)) p2 p3 u4) fun r5 u6 => (some (r5, u6)) else none)) else none)) else none)) else none
set_option maxRecDepth 20000 in
set_option maxHeartbeats 4000000 in
theorem kX10_cheap  (N : Nat)  (l : Launch) (D : va_G) (cT : Nat → ClassId) (z0 : Nat) (ks : Nat × Nat) (a0 : Nat) (p1 : Int32) (p2 : Int32) (p3 : Int32) (u : SG) : Ct l D cT z0 ks yX10_cheap cX10_cheap 4 (some .int) 4 0 0 vI [.ref a0, .int p1, .int p2, .int p3] u (fX10_cheap N  a0 p1 p2 p3 u) := by
  unfold fX10_cheap
  refine ct_of (by decide +kernel) (Nat.le_of_ble_eq_true rfl) (fun p e R s m args below meth c hX => ?_)
  show JF _ True 4 0 0 _ 0 [(0, .ref a0), (1, .int p1), (2, .int p2), (3, .int p3)] [] u _
  refine jf_aload_n hX dX10_cheap_0 0 rfl ?_
  refine jf_getR hX ck_X10 6 wfl_687 (by decide) rfl dX10_cheap_1 ?_
  refine jf_nn (fun q1 => ?_)
  refine jf_getR hX ck_X6 0 wfl_717 (by decide) rfl dX10_cheap_4 ?_
  refine jf_nn (fun q2 => ?_)
  refine jf_iload_n hX dX10_cheap_7 1 rfl ?_
  refine jf_callV (As := [.int p1]) (st := []) hX mo_X7_isPerson wml_740 winst_741 wsel_742 7 ck_X7 rfl (fun l D cT z0 ks => kX7_isPerson N l D cT z0 ks q2 p1 u) (by decide) (by decide) (by decide) (by decide) (Nat.le_of_ble_eq_true rfl) rfl rfl dX10_cheap_8 (fun r3 u4 => ?_)
  refine jf_if_ne (tgt := 16) hX dX10_cheap_11 (by decide) ?_ ?_
  · refine jf_aload_n hX dX10_cheap_16 0 rfl ?_
    refine jf_iconst (v := 1) hX dX10_cheap_17 (by decide) ?_
    refine jf_iload_n hX dX10_cheap_18 1 rfl ?_
    refine jf_ishl hX dX10_cheap_19 ?_
    refine jf_iload_n hX dX10_cheap_20 2 rfl ?_
    refine jf_iload_n hX dX10_cheap_21 3 rfl ?_
    refine jf_callV (As := [.int ((1 : Int32) <<< (p1 &&& 31)), .int p2, .int p3]) (st := []) hX mo_X10_sleepTogether wml_809 winst_810 wsel_811 10 ck_X10 rfl (fun l D cT z0 ks => kX10_sleepTogether N l D cT z0 ks a0 ((1 : Int32) <<< (p1 &&& 31)) p2 p3 u4) (by decide) (by decide) (by decide) (by decide) (Nat.le_of_ble_eq_true rfl) rfl rfl dX10_cheap_22 (fun r5 u6 => ?_)
    exact jf_iret hX rfl (by decide) (by decide) dX10_cheap_25
  · refine jf_iconst (v := -1) hX dX10_cheap_14 (by decide) ?_
    exact jf_iret hX rfl (by decide) (by decide) dX10_cheap_15
set_option maxRecDepth 20000 in
def gX10_isAtRest_9 (N : Nat)   : Nat → Nat → Int32 → Int32 → Int32 → Int32 → Int32 → SG → Option (Int32 × SG)
  | 0, _, _, _, _, _, _, _ => none
  | n + 1, x0, x1, x2, x3, x4, x5, u => if zK u x0 = 11 then (Option.bind (zR u x0 6) fun q1 => (if zK u q1 = 7 then (Option.bind (zR u q1 0) fun q2 => (if zK u q2 = 8 then (if (zI u q2 7) ≤ x5 then (some ((1 : Int32), u))
  else (if zK u x0 = 11 then (Option.bind (zR u x0 6) fun q3 => (if zK u q3 = 7 then (Option.bind (zR u q3 0) fun q4 => (if zK u q4 = 8 then (Option.bind (zR u q4 1) fun q5 => (if zK u q5 = 22 then if x5 < 0 ∨ zN u q5 ≤ x5.toNatClampNeg then none else (bs (zI u q5 x5.toNatClampNeg) fun v6 => (cl (fX10_bitOf N x1 x5 u) fun r7 u8 => (if r7 = (1 : Int32) then (if x3 ≤ (v6 * x4) then ((gX10_isAtRest_9 N  n) x0 x1 x2 x3 x4 (x5 + (1 : Int32)) u8)
  else (some ((0 : Int32), u8)))
  else (cl (fX10_bitOf N x2 x5 u8) fun r9 u10 => (if r9 = (1 : Int32) then (if (v6 * (x4 + (1 : Int32))) ≤ x3 then ((gX10_isAtRest_9 N  n) x0 x1 x2 x3 x4 (x5 + (1 : Int32)) u10)
  else (some ((0 : Int32), u10)))
  else ((gX10_isAtRest_9 N  n) x0 x1 x2 x3 x4 (x5 + (1 : Int32)) u10)))))) else none)) else none)) else none)) else none)) else none)) else none)) else none
set_option maxRecDepth 20000 in
set_option maxHeartbeats 4000000 in
theorem jgX10_isAtRest_9   {X : XT} (hX : Cx X yX10_isAtRest cX10_isAtRest 7 (some .boolean) 2 0 0) (N : Nat)  : ∀ (n : Nat) (x0 : Nat) (x1 : Int32) (x2 : Int32) (x3 : Int32) (x4 : Int32) (x5 : Int32) (u : SG), JF X True 7 0 0 (jQ X vI 0 0) 9 [(0, .ref x0), (1, .int x1), (2, .int x2), (3, .int x3), (4, .int x4), (5, .int x5)] [] u (gX10_isAtRest_9 N   n x0 x1 x2 x3 x4 x5 u) := by
  intro n
  induction n with
  | zero => intros; intro r u9 h9; exact absurd h9 (by simp [gX10_isAtRest_9])
  | succ n ih =>
    intro x0 x1 x2 x3 x4 x5 u
    have hrec9 := ih
    rw [gX10_isAtRest_9]
    refine jf_iload hX dX10_isAtRest_9 5 rfl ?_
    refine jf_aload_n hX dX10_isAtRest_11 0 rfl ?_
    refine jf_getR hX ck_X10 6 wfl_687 (by decide) rfl dX10_isAtRest_12 ?_
    refine jf_nn (fun q1 => ?_)
    refine jf_getR hX ck_X6 0 wfl_717 (by decide) rfl dX10_isAtRest_15 ?_
    refine jf_nn (fun q2 => ?_)
    refine jf_getI hX ck_X7 7 wfl_730 (by decide) rfl dX10_isAtRest_18 ?_
    refine jf_icmp_ge (tgt := 89) hX dX10_isAtRest_21 (by decide) ?_ ?_
    · refine jf_iconst (v := 1) hX dX10_isAtRest_89 (by decide) ?_
      exact jf_zretc hX rfl (by decide) (by decide) (by decide) dX10_isAtRest_90
    · refine jf_aload_n hX dX10_isAtRest_24 0 rfl ?_
      refine jf_getR hX ck_X10 6 wfl_687 (by decide) rfl dX10_isAtRest_25 ?_
      refine jf_nn (fun q3 => ?_)
      refine jf_getR hX ck_X6 0 wfl_717 (by decide) rfl dX10_isAtRest_28 ?_
      refine jf_nn (fun q4 => ?_)
      refine jf_getR hX ck_X7 1 wfl_744 (by decide) rfl dX10_isAtRest_31 ?_
      refine jf_nn (fun q5 => ?_)
      refine jf_iload hX dX10_isAtRest_34 5 rfl ?_
      refine jf_iald hX dX10_isAtRest_36 ?_
      refine jf_nmI (fun v6 => ?_)
      refine jf_istore (lv' := [(6, .int v6), (0, .ref x0), (1, .int x1), (2, .int x2), (3, .int x3), (4, .int x4), (5, .int x5)]) hX dX10_isAtRest_37 (by decide) rfl ?_
      refine jf_iload_n hX dX10_isAtRest_39 2 rfl ?_
      refine jf_iload hX dX10_isAtRest_40 6 rfl ?_
      refine jf_callS (As := [.int x1, .int x5]) (st := []) hX mo_X10_bitOf wml_746 wstat_383 rfl (fun l D cT z0 ks => kX10_bitOf N l D cT z0 ks x1 x5 u) (by decide) (by decide) (by decide) (by decide) (Nat.le_of_ble_eq_true rfl) rfl rfl dX10_isAtRest_42 (fun r7 u8 => ?_)
      refine jf_iconst (v := 1) hX dX10_isAtRest_45 (by decide) ?_
      refine jf_icmp_ne (tgt := 60) hX dX10_isAtRest_46 (by decide) ?_ ?_
      · refine jf_iload_n hX dX10_isAtRest_60 3 rfl ?_
        refine jf_iload hX dX10_isAtRest_61 6 rfl ?_
        refine jf_callS (As := [.int x2, .int x5]) (st := []) hX mo_X10_bitOf wml_746 wstat_383 rfl (fun l D cT z0 ks => kX10_bitOf N l D cT z0 ks x2 x5 u8) (by decide) (by decide) (by decide) (by decide) (Nat.le_of_ble_eq_true rfl) rfl rfl dX10_isAtRest_63 (fun r9 u10 => ?_)
        refine jf_iconst (v := 1) hX dX10_isAtRest_66 (by decide) ?_
        refine jf_icmp_ne (tgt := 83) hX dX10_isAtRest_67 (by decide) ?_ ?_
        · refine jf_iinc (v := 1) (lv' := [(5, .int (x5 + (1 : Int32))), (6, .int v6), (0, .ref x0), (1, .int x1), (2, .int x2), (3, .int x3), (4, .int x4)]) hX dX10_isAtRest_83 6 rfl (by decide) (by decide) rfl ?_
          refine jf_goto (tgt := 9) hX dX10_isAtRest_86 (by decide) ?_
          refine jf_lv [2, 3, 4, 5, 6, 0] rfl ?_
          exact hrec9 x0 x1 x2 x3 x4 (x5 + (1 : Int32)) u10
        · refine jf_iload_n hX dX10_isAtRest_70 4 rfl ?_
          refine jf_iload hX dX10_isAtRest_71 0 rfl ?_
          refine jf_iload hX dX10_isAtRest_73 5 rfl ?_
          refine jf_iconst (v := 1) hX dX10_isAtRest_75 (by decide) ?_
          refine jf_iadd hX dX10_isAtRest_76 ?_
          refine jf_imul hX dX10_isAtRest_77 ?_
          refine jf_icmp_ge (tgt := 83) hX dX10_isAtRest_78 (by decide) ?_ ?_
          · refine jf_iinc (v := 1) (lv' := [(5, .int (x5 + (1 : Int32))), (6, .int v6), (0, .ref x0), (1, .int x1), (2, .int x2), (3, .int x3), (4, .int x4)]) hX dX10_isAtRest_83 6 rfl (by decide) (by decide) rfl ?_
            refine jf_goto (tgt := 9) hX dX10_isAtRest_86 (by decide) ?_
            refine jf_lv [2, 3, 4, 5, 6, 0] rfl ?_
            exact hrec9 x0 x1 x2 x3 x4 (x5 + (1 : Int32)) u10
          · refine jf_iconst (v := 0) hX dX10_isAtRest_81 (by decide) ?_
            exact jf_zretc hX rfl (by decide) (by decide) (by decide) dX10_isAtRest_82
      · refine jf_iload_n hX dX10_isAtRest_49 4 rfl ?_
        refine jf_iload hX dX10_isAtRest_50 0 rfl ?_
        refine jf_iload hX dX10_isAtRest_52 5 rfl ?_
        refine jf_imul hX dX10_isAtRest_54 ?_
        refine jf_icmp_le (tgt := 83) hX dX10_isAtRest_55 (by decide) ?_ ?_
        · refine jf_iinc (v := 1) (lv' := [(5, .int (x5 + (1 : Int32))), (6, .int v6), (0, .ref x0), (1, .int x1), (2, .int x2), (3, .int x3), (4, .int x4)]) hX dX10_isAtRest_83 6 rfl (by decide) (by decide) rfl ?_
          refine jf_goto (tgt := 9) hX dX10_isAtRest_86 (by decide) ?_
          refine jf_lv [2, 3, 4, 5, 6, 0] rfl ?_
          exact hrec9 x0 x1 x2 x3 x4 (x5 + (1 : Int32)) u8
        · refine jf_iconst (v := 0) hX dX10_isAtRest_58 (by decide) ?_
          exact jf_zretc hX rfl (by decide) (by decide) (by decide) dX10_isAtRest_59
set_option maxRecDepth 20000 in
def fX10_isAtRest (N : Nat)  (a0 : Nat) (p1 : Int32) (p2 : Int32) (p3 : Int32) (u : SG) : Option (Int32 × SG) := cl (fJ6_bitCount_0f7a4 N p1 u) fun r1 u2 => (gX10_isAtRest_9 N  N a0 p1 p2 p3 r1 (0 : Int32) u2)
set_option maxRecDepth 20000 in
set_option maxHeartbeats 4000000 in
theorem kX10_isAtRest  (N : Nat)  (l : Launch) (D : va_G) (cT : Nat → ClassId) (z0 : Nat) (ks : Nat × Nat) (a0 : Nat) (p1 : Int32) (p2 : Int32) (p3 : Int32) (u : SG) : Ct l D cT z0 ks yX10_isAtRest cX10_isAtRest 7 (some .boolean) 2 0 0 vI [.ref a0, .int p1, .int p2, .int p3] u (fX10_isAtRest N  a0 p1 p2 p3 u) := by
  unfold fX10_isAtRest
  refine ct_of (by decide +kernel) (Nat.le_of_ble_eq_true rfl) (fun p e R s m args below meth c hX => ?_)
  show JF _ True 7 0 0 _ 0 [(0, .ref a0), (1, .int p1), (2, .int p2), (3, .int p3)] [] u _
  refine jf_iload_n hX dX10_isAtRest_0 1 rfl ?_
  refine jf_callS (As := [.int p1]) (st := []) hX mo_J6_bitCount_0f7a4 wml_800 wstat_381 rfl (fun l D cT z0 ks => kJ6_bitCount_0f7a4 N l D cT z0 ks p1 u) (by decide) (by decide) (by decide) (by decide) (Nat.le_of_ble_eq_true rfl) rfl rfl dX10_isAtRest_1 (fun r1 u2 => ?_)
  refine jf_istore (lv' := [(4, .int r1), (0, .ref a0), (1, .int p1), (2, .int p2), (3, .int p3)]) hX dX10_isAtRest_4 (by decide) rfl ?_
  refine jf_iconst (v := 0) hX dX10_isAtRest_6 (by decide) ?_
  refine jf_istore (lv' := [(5, .int (0 : Int32)), (4, .int r1), (0, .ref a0), (1, .int p1), (2, .int p2), (3, .int p3)]) hX dX10_isAtRest_7 (by decide) rfl ?_
  refine jf_lv [2, 3, 4, 5, 1, 0] rfl ?_
  exact jgX10_isAtRest_9 hX N  N a0 p1 p2 p3 r1 (0 : Int32) u2
set_option maxRecDepth 20000 in
def gX10_rest_71 (N : Nat)   : Nat → Nat → Int32 → Int32 → Int32 → Int32 → Int32 → Int32 → Int32 → SG → Option (Int32 × SG)
  | 0, _, _, _, _, _, _, _, _, _ => none
  | n + 1, x0, x1, x2, x3, x4, x5, x6, x7, u => if x2 < x7 then (if x1 = 0 then (some (x4, u))
  else (if x1 = (1 : Int32) then (some (x5, u))
  else (some (x6, u))))
  else (if (x7 &&& (x2 ^^^ (-1 : Int32))) = 0 then (if zK u x0 = 11 then cl (fX10_isAtRest N x0 x7 x2 x3 u) fun r1 u2 => (if r1 = 0 then ((gX10_rest_71 N  n) x0 x1 x2 x3 x4 x5 x6 (x7 + (1 : Int32)) u2)
  else (if x5 = (-2 : Int32) then ((gX10_rest_71 N  n) x0 x1 x2 x3 (x4 + (1 : Int32)) x7 x7 (x7 + (1 : Int32)) u2)
  else ((gX10_rest_71 N  n) x0 x1 x2 x3 (x4 + (1 : Int32)) x5 x7 (x7 + (1 : Int32)) u2))) else none)
  else ((gX10_rest_71 N  n) x0 x1 x2 x3 x4 x5 x6 (x7 + (1 : Int32)) u))
set_option maxRecDepth 20000 in
set_option maxHeartbeats 4000000 in
theorem jgX10_rest_71   {X : XT} (hX : Cx X yX10_rest cX10_rest 8 (some .int) 4 0 0) (N : Nat)  : ∀ (n : Nat) (x0 : Nat) (x1 : Int32) (x2 : Int32) (x3 : Int32) (x4 : Int32) (x5 : Int32) (x6 : Int32) (x7 : Int32) (u : SG), JF X True 8 0 0 (jQ X vI 0 0) 71 [(0, .ref x0), (1, .int x1), (2, .int x2), (3, .int x3), (4, .int x4), (5, .int x5), (6, .int x6), (7, .int x7)] [] u (gX10_rest_71 N   n x0 x1 x2 x3 x4 x5 x6 x7 u) := by
  intro n
  induction n with
  | zero => intros; intro r u9 h9; exact absurd h9 (by simp [gX10_rest_71])
  | succ n ih =>
    intro x0 x1 x2 x3 x4 x5 x6 x7 u
    have hrec71 := ih
    rw [gX10_rest_71]
    refine jf_iload hX dX10_rest_71 7 rfl ?_
    refine jf_iload_n hX dX10_rest_73 2 rfl ?_
    refine jf_icmp_gt (tgt := 126) hX dX10_rest_74 (by decide) ?_ ?_
    · refine jf_iload_n hX dX10_rest_126 1 rfl ?_
      refine jf_if_ne (tgt := 133) hX dX10_rest_127 (by decide) ?_ ?_
      · refine jf_iload_n hX dX10_rest_133 1 rfl ?_
        refine jf_iconst (v := 1) hX dX10_rest_134 (by decide) ?_
        refine jf_icmp_ne (tgt := 143) hX dX10_rest_135 (by decide) ?_ ?_
        · refine jf_iload hX dX10_rest_143 6 rfl ?_
          exact jf_iret hX rfl (by decide) (by decide) dX10_rest_145
        · refine jf_iload hX dX10_rest_138 5 rfl ?_
          refine jf_goto (tgt := 145) hX dX10_rest_140 (by decide) ?_
          exact jf_iret hX rfl (by decide) (by decide) dX10_rest_145
      · refine jf_iload hX dX10_rest_130 4 rfl ?_
        exact jf_iret hX rfl (by decide) (by decide) dX10_rest_132
    · refine jf_iload hX dX10_rest_77 7 rfl ?_
      refine jf_iload_n hX dX10_rest_79 2 rfl ?_
      refine jf_iconst (v := -1) hX dX10_rest_80 (by decide) ?_
      refine jf_ixor hX dX10_rest_81 ?_
      refine jf_iand hX dX10_rest_82 ?_
      refine jf_if_ne (tgt := 120) hX dX10_rest_83 (by decide) ?_ ?_
      · refine jf_iinc (v := 1) (lv' := [(7, .int (x7 + (1 : Int32))), (0, .ref x0), (1, .int x1), (2, .int x2), (3, .int x3), (4, .int x4), (5, .int x5), (6, .int x6)]) hX dX10_rest_120 7 rfl (by decide) (by decide) rfl ?_
        refine jf_goto (tgt := 71) hX dX10_rest_123 (by decide) ?_
        refine jf_lv [1, 2, 3, 4, 5, 6, 7, 0] rfl ?_
        exact hrec71 x0 x1 x2 x3 x4 x5 x6 (x7 + (1 : Int32)) u
      · refine jf_aload_n hX dX10_rest_86 0 rfl ?_
        refine jf_iload hX dX10_rest_87 7 rfl ?_
        refine jf_iload_n hX dX10_rest_89 2 rfl ?_
        refine jf_iload_n hX dX10_rest_90 3 rfl ?_
        refine jf_callV (As := [.int x7, .int x2, .int x3]) (st := []) hX mo_X10_isAtRest wml_813 winst_814 wsel_815 10 ck_X10 rfl (fun l D cT z0 ks => kX10_isAtRest N l D cT z0 ks x0 x7 x2 x3 u) (by decide) (by decide) (by decide) (by decide) (Nat.le_of_ble_eq_true rfl) rfl rfl dX10_rest_91 (fun r1 u2 => ?_)
        refine jf_if_eq (tgt := 120) hX dX10_rest_94 (by decide) ?_ ?_
        · refine jf_iinc (v := 1) (lv' := [(7, .int (x7 + (1 : Int32))), (0, .ref x0), (1, .int x1), (2, .int x2), (3, .int x3), (4, .int x4), (5, .int x5), (6, .int x6)]) hX dX10_rest_120 7 rfl (by decide) (by decide) rfl ?_
          refine jf_goto (tgt := 71) hX dX10_rest_123 (by decide) ?_
          refine jf_lv [1, 2, 3, 4, 5, 6, 7, 0] rfl ?_
          exact hrec71 x0 x1 x2 x3 x4 x5 x6 (x7 + (1 : Int32)) u2
        · refine jf_iinc (v := 1) (lv' := [(4, .int (x4 + (1 : Int32))), (0, .ref x0), (1, .int x1), (2, .int x2), (3, .int x3), (5, .int x5), (6, .int x6), (7, .int x7)]) hX dX10_rest_97 4 rfl (by decide) (by decide) rfl ?_
          refine jf_iload hX dX10_rest_100 5 rfl ?_
          refine jf_bipush (v := -2) hX dX10_rest_102 (by decide) ?_
          refine jf_icmp_ne (tgt := 112) hX dX10_rest_104 (by decide) ?_ ?_
          · refine jf_iload hX dX10_rest_112 5 rfl ?_
            refine jf_istore (lv' := [(5, .int x5), (4, .int (x4 + (1 : Int32))), (0, .ref x0), (1, .int x1), (2, .int x2), (3, .int x3), (6, .int x6), (7, .int x7)]) hX dX10_rest_114 (by decide) rfl ?_
            refine jf_iload hX dX10_rest_116 7 rfl ?_
            refine jf_istore (lv' := [(6, .int x7), (5, .int x5), (4, .int (x4 + (1 : Int32))), (0, .ref x0), (1, .int x1), (2, .int x2), (3, .int x3), (7, .int x7)]) hX dX10_rest_118 (by decide) rfl ?_
            refine jf_iinc (v := 1) (lv' := [(7, .int (x7 + (1 : Int32))), (6, .int x7), (5, .int x5), (4, .int (x4 + (1 : Int32))), (0, .ref x0), (1, .int x1), (2, .int x2), (3, .int x3)]) hX dX10_rest_120 7 rfl (by decide) (by decide) rfl ?_
            refine jf_goto (tgt := 71) hX dX10_rest_123 (by decide) ?_
            refine jf_lv [4, 5, 6, 7, 3, 2, 1, 0] rfl ?_
            exact hrec71 x0 x1 x2 x3 (x4 + (1 : Int32)) x5 x7 (x7 + (1 : Int32)) u2
          · refine jf_iload hX dX10_rest_107 7 rfl ?_
            refine jf_goto (tgt := 114) hX dX10_rest_109 (by decide) ?_
            refine jf_istore (lv' := [(5, .int x7), (4, .int (x4 + (1 : Int32))), (0, .ref x0), (1, .int x1), (2, .int x2), (3, .int x3), (6, .int x6), (7, .int x7)]) hX dX10_rest_114 (by decide) rfl ?_
            refine jf_iload hX dX10_rest_116 7 rfl ?_
            refine jf_istore (lv' := [(6, .int x7), (5, .int x7), (4, .int (x4 + (1 : Int32))), (0, .ref x0), (1, .int x1), (2, .int x2), (3, .int x3), (7, .int x7)]) hX dX10_rest_118 (by decide) rfl ?_
            refine jf_iinc (v := 1) (lv' := [(7, .int (x7 + (1 : Int32))), (6, .int x7), (5, .int x7), (4, .int (x4 + (1 : Int32))), (0, .ref x0), (1, .int x1), (2, .int x2), (3, .int x3)]) hX dX10_rest_120 7 rfl (by decide) (by decide) rfl ?_
            refine jf_goto (tgt := 71) hX dX10_rest_123 (by decide) ?_
            refine jf_lv [4, 5, 6, 7, 3, 2, 1, 0] rfl ?_
            exact hrec71 x0 x1 x2 x3 (x4 + (1 : Int32)) x7 x7 (x7 + (1 : Int32)) u2
set_option maxRecDepth 20000 in
def fX10_rest (N : Nat)  (a0 : Nat) (p1 : Int32) (u : SG) : Option (Int32 × SG) := if zK u a0 = 11 then (Option.bind (zR u a0 6) fun q1 => (if zK u q1 = 7 then (Option.bind (zR u q1 0) fun q2 => (if zK u q2 = 8 then cl (fX7_isTold N q2 u) fun r3 u4 => (if r3 = 0 then (some ((-1 : Int32), u4))
  else (if p1 < 0 then (some ((-1 : Int32), u4))
  else (if p1 ≤ (2 : Int32) then (if zK u4 a0 = 11 then (Option.bind (zR u4 a0 6) fun q5 => (if zK u4 q5 = 7 then (Option.bind (zR u4 q5 0) fun q6 => (if zK u4 q6 = 8 then cl (fX7_everyone N q6 u4) fun r7 u8 => (if zK u8 a0 = 11 then cl (fX10_workersNow N a0 u8) fun r9 u10 => (bs (r7 &&& (r9 ^^^ (-1 : Int32))) fun v11 => (if zK u10 a0 = 11 then (Option.bind (zR u10 a0 6) fun q12 => (if zK u10 q12 = 7 then (Option.bind (zR u10 q12 0) fun q13 => (if zK u10 a0 = 11 then cl (fX10_burningNow N a0 u10) fun r14 u15 => (if zK u15 q13 = 8 then cl (fX7_costOf N q13 r14 u15) fun r16 u17 => (gX10_rest_71 N  N a0 p1 v11 r16 (0 : Int32) (-2 : Int32) (-2 : Int32) (0 : Int32) u17) else none) else none)) else none)) else none)) else none) else none)) else none)) else none)
  else (some ((-1 : Int32), u4))))) else none)) else none)) else none
set_option maxRecDepth 20000 in
set_option maxHeartbeats 4000000 in
theorem kX10_rest  (N : Nat)  (l : Launch) (D : va_G) (cT : Nat → ClassId) (z0 : Nat) (ks : Nat × Nat) (a0 : Nat) (p1 : Int32) (u : SG) : Ct l D cT z0 ks yX10_rest cX10_rest 8 (some .int) 4 0 0 vI [.ref a0, .int p1] u (fX10_rest N  a0 p1 u) := by
  unfold fX10_rest
  refine ct_of (by decide +kernel) (Nat.le_of_ble_eq_true rfl) (fun p e R s m args below meth c hX => ?_)
  show JF _ True 8 0 0 _ 0 [(0, .ref a0), (1, .int p1)] [] u _
  refine jf_aload_n hX dX10_rest_0 0 rfl ?_
  refine jf_getR hX ck_X10 6 wfl_687 (by decide) rfl dX10_rest_1 ?_
  refine jf_nn (fun q1 => ?_)
  refine jf_getR hX ck_X6 0 wfl_717 (by decide) rfl dX10_rest_4 ?_
  refine jf_nn (fun q2 => ?_)
  refine jf_callV (As := []) (st := []) hX mo_X7_isTold wml_761 winst_762 wsel_763 7 ck_X7 rfl (fun l D cT z0 ks => kX7_isTold N l D cT z0 ks q2 u) (by decide) (by decide) (by decide) (by decide) (Nat.le_of_ble_eq_true rfl) rfl rfl dX10_rest_7 (fun r3 u4 => ?_)
  refine jf_if_eq (tgt := 22) hX dX10_rest_10 (by decide) ?_ ?_
  · refine jf_iconst (v := -1) hX dX10_rest_22 (by decide) ?_
    exact jf_iret hX rfl (by decide) (by decide) dX10_rest_23
  · refine jf_iload_n hX dX10_rest_13 1 rfl ?_
    refine jf_if_lt (tgt := 22) hX dX10_rest_14 (by decide) ?_ ?_
    · refine jf_iconst (v := -1) hX dX10_rest_22 (by decide) ?_
      exact jf_iret hX rfl (by decide) (by decide) dX10_rest_23
    · refine jf_iload_n hX dX10_rest_17 1 rfl ?_
      refine jf_iconst (v := 2) hX dX10_rest_18 (by decide) ?_
      refine jf_icmp_le (tgt := 24) hX dX10_rest_19 (by decide) ?_ ?_
      · refine jf_aload_n hX dX10_rest_24 0 rfl ?_
        refine jf_getR hX ck_X10 6 wfl_687 (by decide) rfl dX10_rest_25 ?_
        refine jf_nn (fun q5 => ?_)
        refine jf_getR hX ck_X6 0 wfl_717 (by decide) rfl dX10_rest_28 ?_
        refine jf_nn (fun q6 => ?_)
        refine jf_callV (As := []) (st := []) hX mo_X7_everyone wml_812 winst_464 wsel_465 7 ck_X7 rfl (fun l D cT z0 ks => kX7_everyone N l D cT z0 ks q6 u4) (by decide) (by decide) (by decide) (by decide) (Nat.le_of_ble_eq_true rfl) rfl rfl dX10_rest_31 (fun r7 u8 => ?_)
        refine jf_aload_n hX dX10_rest_34 0 rfl ?_
        refine jf_callV (As := []) (st := [.int r7]) hX mo_X10_workersNow wml_749 winst_750 wsel_751 10 ck_X10 rfl (fun l D cT z0 ks => kX10_workersNow N l D cT z0 ks a0 u8) (by decide) (by decide) (by decide) (by decide) (Nat.le_of_ble_eq_true rfl) rfl rfl dX10_rest_35 (fun r9 u10 => ?_)
        refine jf_iconst (v := -1) hX dX10_rest_38 (by decide) ?_
        refine jf_ixor hX dX10_rest_39 ?_
        refine jf_iand hX dX10_rest_40 ?_
        refine jf_nmI (fun v11 => ?_)
        refine jf_istore_n (lv' := [(2, .int v11), (0, .ref a0), (1, .int p1)]) hX dX10_rest_41 rfl (by decide) rfl ?_
        refine jf_aload_n hX dX10_rest_42 1 rfl ?_
        refine jf_getR hX ck_X10 6 wfl_687 (by decide) rfl dX10_rest_43 ?_
        refine jf_nn (fun q12 => ?_)
        refine jf_getR hX ck_X6 0 wfl_717 (by decide) rfl dX10_rest_46 ?_
        refine jf_nn (fun q13 => ?_)
        refine jf_aload_n hX dX10_rest_49 1 rfl ?_
        refine jf_callV (As := []) (st := [.ref q13]) hX mo_X10_burningNow wml_758 winst_759 wsel_760 10 ck_X10 rfl (fun l D cT z0 ks => kX10_burningNow N l D cT z0 ks a0 u10) (by decide) (by decide) (by decide) (by decide) (Nat.le_of_ble_eq_true rfl) rfl rfl dX10_rest_50 (fun r14 u15 => ?_)
        refine jf_callV (As := [.int r14]) (st := []) hX mo_X7_costOf wml_807 winst_417 wsel_418 7 ck_X7 rfl (fun l D cT z0 ks => kX7_costOf N l D cT z0 ks q13 r14 u15) (by decide) (by decide) (by decide) (by decide) (Nat.le_of_ble_eq_true rfl) rfl rfl dX10_rest_53 (fun r16 u17 => ?_)
        refine jf_istore_n (lv' := [(3, .int r16), (2, .int v11), (0, .ref a0), (1, .int p1)]) hX dX10_rest_56 rfl (by decide) rfl ?_
        refine jf_iconst (v := 0) hX dX10_rest_57 (by decide) ?_
        refine jf_istore (lv' := [(4, .int (0 : Int32)), (3, .int r16), (2, .int v11), (0, .ref a0), (1, .int p1)]) hX dX10_rest_58 (by decide) rfl ?_
        refine jf_bipush (v := -2) hX dX10_rest_60 (by decide) ?_
        refine jf_istore (lv' := [(5, .int (-2 : Int32)), (4, .int (0 : Int32)), (3, .int r16), (2, .int v11), (0, .ref a0), (1, .int p1)]) hX dX10_rest_62 (by decide) rfl ?_
        refine jf_bipush (v := -2) hX dX10_rest_64 (by decide) ?_
        refine jf_istore (lv' := [(6, .int (-2 : Int32)), (5, .int (-2 : Int32)), (4, .int (0 : Int32)), (3, .int r16), (2, .int v11), (0, .ref a0), (1, .int p1)]) hX dX10_rest_66 (by decide) rfl ?_
        refine jf_iconst (v := 0) hX dX10_rest_68 (by decide) ?_
        refine jf_istore (lv' := [(7, .int (0 : Int32)), (6, .int (-2 : Int32)), (5, .int (-2 : Int32)), (4, .int (0 : Int32)), (3, .int r16), (2, .int v11), (0, .ref a0), (1, .int p1)]) hX dX10_rest_69 (by decide) rfl ?_
        refine jf_lv [6, 7, 5, 4, 3, 2, 1, 0] rfl ?_
        exact jgX10_rest_71 hX N  N a0 p1 v11 r16 (0 : Int32) (-2 : Int32) (-2 : Int32) (0 : Int32) u17
      · refine jf_iconst (v := -1) hX dX10_rest_22 (by decide) ?_
        exact jf_iret hX rfl (by decide) (by decide) dX10_rest_23
set_option maxRecDepth 20000 in
def gX10_allCouldSleep_63 (N : Nat)  (rec33 : Nat → Int32 → Int32 → Int32 → SG → Option (Int32 × SG)) (x0 : Nat) (x2 : Int32) (x3 : Int32) (x4 : Int32) (s0 : Int32) (u : SG) : Option (Int32 × SG) := if s0 = 0 then (rec33 x0 x2 x3 (x4 + (1 : Int32)) u)
  else (if zK u x0 = 11 then (Option.bind (zR u x0 6) fun q1 => (if zK u q1 = 7 then (Option.bind (zR u q1 0) fun q2 => (if zK u q2 = 8 then (Option.bind (zR u q2 1) fun q3 => (if zK u q3 = 22 then if x4 < 0 ∨ zN u q3 ≤ x4.toNatClampNeg then none else (cl (fJ6_bitCount_0f7a4 N x2 u) fun r4 u5 => (if x3 ≤ ((zI u q3 x4.toNatClampNeg) * r4) then (rec33 x0 x2 x3 (x4 + (1 : Int32)) u5)
  else (some ((0 : Int32), u5)))) else none)) else none)) else none)) else none)
set_option maxRecDepth 20000 in
set_option maxHeartbeats 4000000 in
theorem jgX10_allCouldSleep_63 {rec33 : Nat → Int32 → Int32 → Int32 → SG → Option (Int32 × SG)}  {X : XT} (hX : Cx X yX10_allCouldSleep cX10_allCouldSleep 6 (some .boolean) 3 0 0) (N : Nat) (hrec33 : ∀ (x0 : Nat) (x2 : Int32) (x3 : Int32) (x4 : Int32)  (u : SG), JF X True 6 0 0 (jQ X vI 0 0) 33 [(0, .ref x0), (2, .int x2), (3, .int x3), (4, .int x4)] [] u (rec33 x0 x2 x3 x4  u)) (x0 : Nat) (x2 : Int32) (x3 : Int32) (x4 : Int32) (s0 : Int32) (u : SG) : JF X True 6 0 0 (jQ X vI 0 0) 63 [(0, .ref x0), (2, .int x2), (3, .int x3), (4, .int x4)] [.int s0] u (gX10_allCouldSleep_63 N  rec33 x0 x2 x3 x4 s0 u) := by
  unfold gX10_allCouldSleep_63
  refine jf_istore (lv' := [(5, .int s0), (0, .ref x0), (2, .int x2), (3, .int x3), (4, .int x4)]) hX dX10_allCouldSleep_63 (by decide) rfl ?_
  refine jf_iload hX dX10_allCouldSleep_65 0 rfl ?_
  refine jf_if_eq (tgt := 94) hX dX10_allCouldSleep_67 (by decide) ?_ ?_
  · refine jf_iinc (v := 1) (lv' := [(4, .int (x4 + (1 : Int32))), (5, .int s0), (0, .ref x0), (2, .int x2), (3, .int x3)]) hX dX10_allCouldSleep_94 4 rfl (by decide) (by decide) rfl ?_
    refine jf_goto (tgt := 33) hX dX10_allCouldSleep_97 (by decide) ?_
    refine jf_lv [2, 3, 4, 0] rfl ?_
    exact hrec33 x0 x2 x3 (x4 + (1 : Int32)) u
  · refine jf_iload_n hX dX10_allCouldSleep_70 3 rfl ?_
    refine jf_aload_n hX dX10_allCouldSleep_71 1 rfl ?_
    refine jf_getR hX ck_X10 6 wfl_687 (by decide) rfl dX10_allCouldSleep_72 ?_
    refine jf_nn (fun q1 => ?_)
    refine jf_getR hX ck_X6 0 wfl_717 (by decide) rfl dX10_allCouldSleep_75 ?_
    refine jf_nn (fun q2 => ?_)
    refine jf_getR hX ck_X7 1 wfl_744 (by decide) rfl dX10_allCouldSleep_78 ?_
    refine jf_nn (fun q3 => ?_)
    refine jf_iload hX dX10_allCouldSleep_81 4 rfl ?_
    refine jf_iald hX dX10_allCouldSleep_83 ?_
    refine jf_iload_n hX dX10_allCouldSleep_84 2 rfl ?_
    refine jf_callS (As := [.int x2]) (st := [.int (zI u q3 x4.toNatClampNeg), .int x3]) hX mo_J6_bitCount_0f7a4 wml_800 wstat_381 rfl (fun l D cT z0 ks => kJ6_bitCount_0f7a4 N l D cT z0 ks x2 u) (by decide) (by decide) (by decide) (by decide) (Nat.le_of_ble_eq_true rfl) rfl rfl dX10_allCouldSleep_85 (fun r4 u5 => ?_)
    refine jf_imul hX dX10_allCouldSleep_88 ?_
    refine jf_icmp_le (tgt := 94) hX dX10_allCouldSleep_89 (by decide) ?_ ?_
    · refine jf_iinc (v := 1) (lv' := [(4, .int (x4 + (1 : Int32))), (5, .int s0), (0, .ref x0), (2, .int x2), (3, .int x3)]) hX dX10_allCouldSleep_94 4 rfl (by decide) (by decide) rfl ?_
      refine jf_goto (tgt := 33) hX dX10_allCouldSleep_97 (by decide) ?_
      refine jf_lv [2, 3, 4, 0] rfl ?_
      exact hrec33 x0 x2 x3 (x4 + (1 : Int32)) u5
    · refine jf_iconst (v := 0) hX dX10_allCouldSleep_92 (by decide) ?_
      exact jf_zretc hX rfl (by decide) (by decide) (by decide) dX10_allCouldSleep_93
set_option maxRecDepth 20000 in
def gX10_allCouldSleep_33 (N : Nat)   : Nat → Nat → Int32 → Int32 → Int32 → SG → Option (Int32 × SG)
  | 0, _, _, _, _, _ => none
  | n + 1, x0, x2, x3, x4, u => if zK u x0 = 11 then (Option.bind (zR u x0 6) fun q1 => (if zK u q1 = 7 then (Option.bind (zR u q1 0) fun q2 => (if zK u q2 = 8 then (if (zI u q2 7) ≤ x4 then (some ((1 : Int32), u))
  else (cl (fX10_bitOf N x2 x4 u) fun r3 u4 => (if r3 = (1 : Int32) then (gX10_allCouldSleep_63 N (gX10_allCouldSleep_33 N  n) x0 x2 x3 x4 (1 : Int32) u4)
  else (gX10_allCouldSleep_63 N (gX10_allCouldSleep_33 N  n) x0 x2 x3 x4 (0 : Int32) u4)))) else none)) else none)) else none
set_option maxRecDepth 20000 in
set_option maxHeartbeats 4000000 in
theorem jgX10_allCouldSleep_33   {X : XT} (hX : Cx X yX10_allCouldSleep cX10_allCouldSleep 6 (some .boolean) 3 0 0) (N : Nat)  : ∀ (n : Nat) (x0 : Nat) (x2 : Int32) (x3 : Int32) (x4 : Int32) (u : SG), JF X True 6 0 0 (jQ X vI 0 0) 33 [(0, .ref x0), (2, .int x2), (3, .int x3), (4, .int x4)] [] u (gX10_allCouldSleep_33 N   n x0 x2 x3 x4 u) := by
  intro n
  induction n with
  | zero => intros; intro r u9 h9; exact absurd h9 (by simp [gX10_allCouldSleep_33])
  | succ n ih =>
    intro x0 x2 x3 x4 u
    have hrec33 := ih
    rw [gX10_allCouldSleep_33]
    refine jf_iload hX dX10_allCouldSleep_33 3 rfl ?_
    refine jf_aload_n hX dX10_allCouldSleep_35 0 rfl ?_
    refine jf_getR hX ck_X10 6 wfl_687 (by decide) rfl dX10_allCouldSleep_36 ?_
    refine jf_nn (fun q1 => ?_)
    refine jf_getR hX ck_X6 0 wfl_717 (by decide) rfl dX10_allCouldSleep_39 ?_
    refine jf_nn (fun q2 => ?_)
    refine jf_getI hX ck_X7 7 wfl_730 (by decide) rfl dX10_allCouldSleep_42 ?_
    refine jf_icmp_ge (tgt := 100) hX dX10_allCouldSleep_45 (by decide) ?_ ?_
    · refine jf_iconst (v := 1) hX dX10_allCouldSleep_100 (by decide) ?_
      exact jf_zretc hX rfl (by decide) (by decide) (by decide) dX10_allCouldSleep_101
    · refine jf_iload_n hX dX10_allCouldSleep_48 1 rfl ?_
      refine jf_iload hX dX10_allCouldSleep_49 3 rfl ?_
      refine jf_callS (As := [.int x2, .int x4]) (st := []) hX mo_X10_bitOf wml_746 wstat_383 rfl (fun l D cT z0 ks => kX10_bitOf N l D cT z0 ks x2 x4 u) (by decide) (by decide) (by decide) (by decide) (Nat.le_of_ble_eq_true rfl) rfl rfl dX10_allCouldSleep_51 (fun r3 u4 => ?_)
      refine jf_iconst (v := 1) hX dX10_allCouldSleep_54 (by decide) ?_
      refine jf_icmp_ne (tgt := 62) hX dX10_allCouldSleep_55 (by decide) ?_ ?_
      · refine jf_iconst (v := 0) hX dX10_allCouldSleep_62 (by decide) ?_
        refine jf_lv [0, 1, 2, 3] rfl ?_
        exact jgX10_allCouldSleep_63 hX N hrec33 x0 x2 x3 x4 (0 : Int32) u4
      · refine jf_iconst (v := 1) hX dX10_allCouldSleep_58 (by decide) ?_
        refine jf_goto (tgt := 63) hX dX10_allCouldSleep_59 (by decide) ?_
        refine jf_lv [0, 1, 2, 3] rfl ?_
        exact jgX10_allCouldSleep_63 hX N hrec33 x0 x2 x3 x4 (1 : Int32) u4
set_option maxRecDepth 20000 in
def fX10_allCouldSleep (N : Nat)  (a0 : Nat) (p1 : Int32) (u : SG) : Option (Int32 × SG) := if zK u a0 = 11 then (Option.bind (zR u a0 6) fun q1 => (if zK u q1 = 7 then (Option.bind (zR u q1 0) fun q2 => (if zK u q2 = 8 then cl (fX7_everyone N q2 u) fun r3 u4 => (if zK u4 a0 = 11 then cl (fX10_workersNow N a0 u4) fun r5 u6 => (bs (r3 &&& (r5 ^^^ (-1 : Int32))) fun v7 => (if zK u6 a0 = 11 then (Option.bind (zR u6 a0 6) fun q8 => (if zK u6 q8 = 7 then (Option.bind (zR u6 q8 0) fun q9 => (if zK u6 q9 = 8 then cl (fX7_costOf N q9 p1 u6) fun r10 u11 => (gX10_allCouldSleep_33 N  N a0 v7 r10 (0 : Int32) u11) else none)) else none)) else none)) else none) else none)) else none)) else none
set_option maxRecDepth 20000 in
set_option maxHeartbeats 4000000 in
theorem kX10_allCouldSleep  (N : Nat)  (l : Launch) (D : va_G) (cT : Nat → ClassId) (z0 : Nat) (ks : Nat × Nat) (a0 : Nat) (p1 : Int32) (u : SG) : Ct l D cT z0 ks yX10_allCouldSleep cX10_allCouldSleep 6 (some .boolean) 3 0 0 vI [.ref a0, .int p1] u (fX10_allCouldSleep N  a0 p1 u) := by
  unfold fX10_allCouldSleep
  refine ct_of (by decide +kernel) (Nat.le_of_ble_eq_true rfl) (fun p e R s m args below meth c hX => ?_)
  show JF _ True 6 0 0 _ 0 [(0, .ref a0), (1, .int p1)] [] u _
  refine jf_aload_n hX dX10_allCouldSleep_0 0 rfl ?_
  refine jf_getR hX ck_X10 6 wfl_687 (by decide) rfl dX10_allCouldSleep_1 ?_
  refine jf_nn (fun q1 => ?_)
  refine jf_getR hX ck_X6 0 wfl_717 (by decide) rfl dX10_allCouldSleep_4 ?_
  refine jf_nn (fun q2 => ?_)
  refine jf_callV (As := []) (st := []) hX mo_X7_everyone wml_812 winst_464 wsel_465 7 ck_X7 rfl (fun l D cT z0 ks => kX7_everyone N l D cT z0 ks q2 u) (by decide) (by decide) (by decide) (by decide) (Nat.le_of_ble_eq_true rfl) rfl rfl dX10_allCouldSleep_7 (fun r3 u4 => ?_)
  refine jf_aload_n hX dX10_allCouldSleep_10 0 rfl ?_
  refine jf_callV (As := []) (st := [.int r3]) hX mo_X10_workersNow wml_749 winst_750 wsel_751 10 ck_X10 rfl (fun l D cT z0 ks => kX10_workersNow N l D cT z0 ks a0 u4) (by decide) (by decide) (by decide) (by decide) (Nat.le_of_ble_eq_true rfl) rfl rfl dX10_allCouldSleep_11 (fun r5 u6 => ?_)
  refine jf_iconst (v := -1) hX dX10_allCouldSleep_14 (by decide) ?_
  refine jf_ixor hX dX10_allCouldSleep_15 ?_
  refine jf_iand hX dX10_allCouldSleep_16 ?_
  refine jf_nmI (fun v7 => ?_)
  refine jf_istore_n (lv' := [(2, .int v7), (0, .ref a0), (1, .int p1)]) hX dX10_allCouldSleep_17 rfl (by decide) rfl ?_
  refine jf_aload_n hX dX10_allCouldSleep_18 1 rfl ?_
  refine jf_getR hX ck_X10 6 wfl_687 (by decide) rfl dX10_allCouldSleep_19 ?_
  refine jf_nn (fun q8 => ?_)
  refine jf_getR hX ck_X6 0 wfl_717 (by decide) rfl dX10_allCouldSleep_22 ?_
  refine jf_nn (fun q9 => ?_)
  refine jf_iload_n hX dX10_allCouldSleep_25 2 rfl ?_
  refine jf_callV (As := [.int p1]) (st := []) hX mo_X7_costOf wml_807 winst_417 wsel_418 7 ck_X7 rfl (fun l D cT z0 ks => kX7_costOf N l D cT z0 ks q9 p1 u6) (by decide) (by decide) (by decide) (by decide) (Nat.le_of_ble_eq_true rfl) rfl rfl dX10_allCouldSleep_26 (fun r10 u11 => ?_)
  refine jf_istore_n (lv' := [(3, .int r10), (2, .int v7), (0, .ref a0), (1, .int p1)]) hX dX10_allCouldSleep_29 rfl (by decide) rfl ?_
  refine jf_iconst (v := 0) hX dX10_allCouldSleep_30 (by decide) ?_
  refine jf_istore (lv' := [(4, .int (0 : Int32)), (3, .int r10), (2, .int v7), (0, .ref a0), (1, .int p1)]) hX dX10_allCouldSleep_31 (by decide) rfl ?_
  refine jf_lv [3, 2, 1, 0] rfl ?_
  exact jgX10_allCouldSleep_33 hX N  N a0 v7 r10 (0 : Int32) u11
set_option maxRecDepth 20000 in
def gX10_dark_57 (N : Nat)  (rec34 : Nat → Int32 → Int32 → Int32 → Int32 → SG → Option (Int32 × SG)) (x0 : Nat) (x1 : Int32) (x2 : Int32) (x3 : Int32) (x4 : Int32) (s0 : Int32) (u : SG) : Option (Int32 × SG) := if (x4 &&& (x2 ^^^ (-1 : Int32))) = 0 then (if s0 = 0 then (rec34 x0 x1 x2 x3 (x4 + (1 : Int32)) u)
  else (if zK u x0 = 11 then cl (fX10_allCouldSleep N x0 (x2 &&& (x4 ^^^ (-1 : Int32))) u) fun r1 u2 => (if r1 = 0 then (rec34 x0 x1 x2 x3 (x4 + (1 : Int32)) u2)
  else (rec34 x0 x1 x2 x4 (x4 + (1 : Int32)) u2)) else none))
  else (rec34 x0 x1 x2 x3 (x4 + (1 : Int32)) u)
set_option maxRecDepth 20000 in
set_option maxHeartbeats 4000000 in
theorem jgX10_dark_57 {rec34 : Nat → Int32 → Int32 → Int32 → Int32 → SG → Option (Int32 × SG)}  {X : XT} (hX : Cx X yX10_dark cX10_dark 6 (some .int) 4 0 0) (N : Nat) (hrec34 : ∀ (x0 : Nat) (x1 : Int32) (x2 : Int32) (x3 : Int32) (x4 : Int32)  (u : SG), JF X True 6 0 0 (jQ X vI 0 0) 34 [(0, .ref x0), (1, .int x1), (2, .int x2), (3, .int x3), (4, .int x4)] [] u (rec34 x0 x1 x2 x3 x4  u)) (x0 : Nat) (x1 : Int32) (x2 : Int32) (x3 : Int32) (x4 : Int32) (s0 : Int32) (u : SG) : JF X True 6 0 0 (jQ X vI 0 0) 57 [(0, .ref x0), (1, .int x1), (2, .int x2), (3, .int x3), (4, .int x4)] [.int s0] u (gX10_dark_57 N  rec34 x0 x1 x2 x3 x4 s0 u) := by
  unfold gX10_dark_57
  refine jf_istore (lv' := [(5, .int s0), (0, .ref x0), (1, .int x1), (2, .int x2), (3, .int x3), (4, .int x4)]) hX dX10_dark_57 (by decide) rfl ?_
  refine jf_iload hX dX10_dark_59 5 rfl ?_
  refine jf_iload_n hX dX10_dark_61 3 rfl ?_
  refine jf_iconst (v := -1) hX dX10_dark_62 (by decide) ?_
  refine jf_ixor hX dX10_dark_63 ?_
  refine jf_iand hX dX10_dark_64 ?_
  refine jf_if_ne (tgt := 89) hX dX10_dark_65 (by decide) ?_ ?_
  · refine jf_iinc (v := 1) (lv' := [(4, .int (x4 + (1 : Int32))), (5, .int s0), (0, .ref x0), (1, .int x1), (2, .int x2), (3, .int x3)]) hX dX10_dark_89 5 rfl (by decide) (by decide) rfl ?_
    refine jf_goto (tgt := 34) hX dX10_dark_92 (by decide) ?_
    refine jf_lv [2, 3, 4, 5, 0] rfl ?_
    exact hrec34 x0 x1 x2 x3 (x4 + (1 : Int32)) u
  · refine jf_iload hX dX10_dark_68 0 rfl ?_
    refine jf_if_eq (tgt := 89) hX dX10_dark_70 (by decide) ?_ ?_
    · refine jf_iinc (v := 1) (lv' := [(4, .int (x4 + (1 : Int32))), (5, .int s0), (0, .ref x0), (1, .int x1), (2, .int x2), (3, .int x3)]) hX dX10_dark_89 5 rfl (by decide) (by decide) rfl ?_
      refine jf_goto (tgt := 34) hX dX10_dark_92 (by decide) ?_
      refine jf_lv [2, 3, 4, 5, 0] rfl ?_
      exact hrec34 x0 x1 x2 x3 (x4 + (1 : Int32)) u
    · refine jf_aload_n hX dX10_dark_73 1 rfl ?_
      refine jf_iload_n hX dX10_dark_74 3 rfl ?_
      refine jf_iload hX dX10_dark_75 5 rfl ?_
      refine jf_iconst (v := -1) hX dX10_dark_77 (by decide) ?_
      refine jf_ixor hX dX10_dark_78 ?_
      refine jf_iand hX dX10_dark_79 ?_
      refine jf_callV (As := [.int (x2 &&& (x4 ^^^ (-1 : Int32)))]) (st := []) hX mo_X10_allCouldSleep wml_816 winst_817 wsel_818 10 ck_X10 rfl (fun l D cT z0 ks => kX10_allCouldSleep N l D cT z0 ks x0 (x2 &&& (x4 ^^^ (-1 : Int32))) u) (by decide) (by decide) (by decide) (by decide) (Nat.le_of_ble_eq_true rfl) rfl rfl dX10_dark_80 (fun r1 u2 => ?_)
      refine jf_if_eq (tgt := 89) hX dX10_dark_83 (by decide) ?_ ?_
      · refine jf_iinc (v := 1) (lv' := [(4, .int (x4 + (1 : Int32))), (5, .int s0), (0, .ref x0), (1, .int x1), (2, .int x2), (3, .int x3)]) hX dX10_dark_89 5 rfl (by decide) (by decide) rfl ?_
        refine jf_goto (tgt := 34) hX dX10_dark_92 (by decide) ?_
        refine jf_lv [2, 3, 4, 5, 0] rfl ?_
        exact hrec34 x0 x1 x2 x3 (x4 + (1 : Int32)) u2
      · refine jf_iload hX dX10_dark_86 5 rfl ?_
        refine jf_istore_n (lv' := [(3, .int x4), (5, .int s0), (0, .ref x0), (1, .int x1), (2, .int x2), (4, .int x4)]) hX dX10_dark_88 rfl (by decide) rfl ?_
        refine jf_iinc (v := 1) (lv' := [(4, .int (x4 + (1 : Int32))), (3, .int x4), (5, .int s0), (0, .ref x0), (1, .int x1), (2, .int x2)]) hX dX10_dark_89 5 rfl (by decide) (by decide) rfl ?_
        refine jf_goto (tgt := 34) hX dX10_dark_92 (by decide) ?_
        refine jf_lv [3, 4, 5, 1, 0] rfl ?_
        exact hrec34 x0 x1 x2 x4 (x4 + (1 : Int32)) u2
set_option maxRecDepth 20000 in
def gX10_dark_34 (N : Nat)   : Nat → Nat → Int32 → Int32 → Int32 → Int32 → SG → Option (Int32 × SG)
  | 0, _, _, _, _, _, _ => none
  | n + 1, x0, x1, x2, x3, x4, u => if x2 ≤ x4 then (if x1 = 0 then (cl (fJ6_bitCount_0f7a4 N x3 u) fun r1 u2 => (some (r1, u2)))
  else (some (x3, u)))
  else (cl (fJ6_bitCount_0f7a4 N x4 u) fun r3 u4 => (cl (fJ6_bitCount_0f7a4 N x3 u4) fun r5 u6 => (if r5 ≤ r3 then (gX10_dark_57 N (gX10_dark_34 N  n) x0 x1 x2 x3 x4 (0 : Int32) u6)
  else (gX10_dark_57 N (gX10_dark_34 N  n) x0 x1 x2 x3 x4 (1 : Int32) u6))))
set_option maxRecDepth 20000 in
set_option maxHeartbeats 4000000 in
theorem jgX10_dark_34   {X : XT} (hX : Cx X yX10_dark cX10_dark 6 (some .int) 4 0 0) (N : Nat)  : ∀ (n : Nat) (x0 : Nat) (x1 : Int32) (x2 : Int32) (x3 : Int32) (x4 : Int32) (u : SG), JF X True 6 0 0 (jQ X vI 0 0) 34 [(0, .ref x0), (1, .int x1), (2, .int x2), (3, .int x3), (4, .int x4)] [] u (gX10_dark_34 N   n x0 x1 x2 x3 x4 u) := by
  intro n
  induction n with
  | zero => intros; intro r u9 h9; exact absurd h9 (by simp [gX10_dark_34])
  | succ n ih =>
    intro x0 x1 x2 x3 x4 u
    have hrec34 := ih
    rw [gX10_dark_34]
    refine jf_iload hX dX10_dark_34 4 rfl ?_
    refine jf_iload_n hX dX10_dark_36 2 rfl ?_
    refine jf_icmp_ge (tgt := 95) hX dX10_dark_37 (by decide) ?_ ?_
    · refine jf_iload_n hX dX10_dark_95 1 rfl ?_
      refine jf_if_ne (tgt := 106) hX dX10_dark_96 (by decide) ?_ ?_
      · refine jf_iload_n hX dX10_dark_106 3 rfl ?_
        exact jf_iret hX rfl (by decide) (by decide) dX10_dark_107
      · refine jf_iload_n hX dX10_dark_99 3 rfl ?_
        refine jf_callS (As := [.int x3]) (st := []) hX mo_J6_bitCount_0f7a4 wml_800 wstat_381 rfl (fun l D cT z0 ks => kJ6_bitCount_0f7a4 N l D cT z0 ks x3 u) (by decide) (by decide) (by decide) (by decide) (Nat.le_of_ble_eq_true rfl) rfl rfl dX10_dark_100 (fun r1 u2 => ?_)
        refine jf_goto (tgt := 107) hX dX10_dark_103 (by decide) ?_
        exact jf_iret hX rfl (by decide) (by decide) dX10_dark_107
    · refine jf_iload hX dX10_dark_40 4 rfl ?_
      refine jf_callS (As := [.int x4]) (st := []) hX mo_J6_bitCount_0f7a4 wml_800 wstat_381 rfl (fun l D cT z0 ks => kJ6_bitCount_0f7a4 N l D cT z0 ks x4 u) (by decide) (by decide) (by decide) (by decide) (Nat.le_of_ble_eq_true rfl) rfl rfl dX10_dark_42 (fun r3 u4 => ?_)
      refine jf_iload_n hX dX10_dark_45 3 rfl ?_
      refine jf_callS (As := [.int x3]) (st := [.int r3]) hX mo_J6_bitCount_0f7a4 wml_800 wstat_381 rfl (fun l D cT z0 ks => kJ6_bitCount_0f7a4 N l D cT z0 ks x3 u4) (by decide) (by decide) (by decide) (by decide) (Nat.le_of_ble_eq_true rfl) rfl rfl dX10_dark_46 (fun r5 u6 => ?_)
      refine jf_icmp_ge (tgt := 56) hX dX10_dark_49 (by decide) ?_ ?_
      · refine jf_iconst (v := 0) hX dX10_dark_56 (by decide) ?_
        refine jf_lv [0, 1, 2, 3, 4] rfl ?_
        exact jgX10_dark_57 hX N hrec34 x0 x1 x2 x3 x4 (0 : Int32) u6
      · refine jf_iconst (v := 1) hX dX10_dark_52 (by decide) ?_
        refine jf_goto (tgt := 57) hX dX10_dark_53 (by decide) ?_
        refine jf_lv [0, 1, 2, 3, 4] rfl ?_
        exact jgX10_dark_57 hX N hrec34 x0 x1 x2 x3 x4 (1 : Int32) u6
set_option maxRecDepth 20000 in
def fX10_dark (N : Nat)  (a0 : Nat) (p1 : Int32) (u : SG) : Option (Int32 × SG) := if zK u a0 = 11 then (Option.bind (zR u a0 6) fun q1 => (if zK u q1 = 7 then (Option.bind (zR u q1 0) fun q2 => (if zK u q2 = 8 then cl (fX7_isTold N q2 u) fun r3 u4 => (if r3 = 0 then (some ((-1 : Int32), u4))
  else (if p1 < 0 then (some ((-1 : Int32), u4))
  else (if p1 ≤ (1 : Int32) then (if zK u4 a0 = 11 then cl (fX10_burningNow N a0 u4) fun r5 u6 => (gX10_dark_34 N  N a0 p1 r5 r5 (0 : Int32) u6) else none)
  else (some ((-1 : Int32), u4))))) else none)) else none)) else none
set_option maxRecDepth 20000 in
set_option maxHeartbeats 4000000 in
theorem kX10_dark  (N : Nat)  (l : Launch) (D : va_G) (cT : Nat → ClassId) (z0 : Nat) (ks : Nat × Nat) (a0 : Nat) (p1 : Int32) (u : SG) : Ct l D cT z0 ks yX10_dark cX10_dark 6 (some .int) 4 0 0 vI [.ref a0, .int p1] u (fX10_dark N  a0 p1 u) := by
  unfold fX10_dark
  refine ct_of (by decide +kernel) (Nat.le_of_ble_eq_true rfl) (fun p e R s m args below meth c hX => ?_)
  show JF _ True 6 0 0 _ 0 [(0, .ref a0), (1, .int p1)] [] u _
  refine jf_aload_n hX dX10_dark_0 0 rfl ?_
  refine jf_getR hX ck_X10 6 wfl_687 (by decide) rfl dX10_dark_1 ?_
  refine jf_nn (fun q1 => ?_)
  refine jf_getR hX ck_X6 0 wfl_717 (by decide) rfl dX10_dark_4 ?_
  refine jf_nn (fun q2 => ?_)
  refine jf_callV (As := []) (st := []) hX mo_X7_isTold wml_761 winst_762 wsel_763 7 ck_X7 rfl (fun l D cT z0 ks => kX7_isTold N l D cT z0 ks q2 u) (by decide) (by decide) (by decide) (by decide) (Nat.le_of_ble_eq_true rfl) rfl rfl dX10_dark_7 (fun r3 u4 => ?_)
  refine jf_if_eq (tgt := 22) hX dX10_dark_10 (by decide) ?_ ?_
  · refine jf_iconst (v := -1) hX dX10_dark_22 (by decide) ?_
    exact jf_iret hX rfl (by decide) (by decide) dX10_dark_23
  · refine jf_iload_n hX dX10_dark_13 1 rfl ?_
    refine jf_if_lt (tgt := 22) hX dX10_dark_14 (by decide) ?_ ?_
    · refine jf_iconst (v := -1) hX dX10_dark_22 (by decide) ?_
      exact jf_iret hX rfl (by decide) (by decide) dX10_dark_23
    · refine jf_iload_n hX dX10_dark_17 1 rfl ?_
      refine jf_iconst (v := 1) hX dX10_dark_18 (by decide) ?_
      refine jf_icmp_le (tgt := 24) hX dX10_dark_19 (by decide) ?_ ?_
      · refine jf_aload_n hX dX10_dark_24 0 rfl ?_
        refine jf_callV (As := []) (st := []) hX mo_X10_burningNow wml_758 winst_759 wsel_760 10 ck_X10 rfl (fun l D cT z0 ks => kX10_burningNow N l D cT z0 ks a0 u4) (by decide) (by decide) (by decide) (by decide) (Nat.le_of_ble_eq_true rfl) rfl rfl dX10_dark_25 (fun r5 u6 => ?_)
        refine jf_istore_n (lv' := [(2, .int r5), (0, .ref a0), (1, .int p1)]) hX dX10_dark_28 rfl (by decide) rfl ?_
        refine jf_iload_n hX dX10_dark_29 0 rfl ?_
        refine jf_istore_n (lv' := [(3, .int r5), (2, .int r5), (0, .ref a0), (1, .int p1)]) hX dX10_dark_30 rfl (by decide) rfl ?_
        refine jf_iconst (v := 0) hX dX10_dark_31 (by decide) ?_
        refine jf_istore (lv' := [(4, .int (0 : Int32)), (3, .int r5), (2, .int r5), (0, .ref a0), (1, .int p1)]) hX dX10_dark_32 (by decide) rfl ?_
        refine jf_lv [3, 4, 2, 1, 0] rfl ?_
        exact jgX10_dark_34 hX N  N a0 p1 r5 r5 (0 : Int32) u6
      · refine jf_iconst (v := -1) hX dX10_dark_22 (by decide) ?_
        exact jf_iret hX rfl (by decide) (by decide) dX10_dark_23
set_option maxRecDepth 20000 in
def fX10_guild (N : Nat)  (a0 : Nat) (p1 : Int32) (p2 : Int32) (p3 : Int32) (u : SG) : Option (Int32 × SG) := if zK u a0 = 11 then (Option.bind (zR u a0 6) fun q1 => (if zK u q1 = 7 then (Option.bind (zR u q1 0) fun q2 => (if zK u q2 = 8 then cl (fX7_isTold N q2 u) fun r3 u4 => (if r3 = 0 then (some ((-1 : Int32), u4))
  else (if p1 ≤ 0 then (some ((-1 : Int32), u4))
  else (if zK u4 a0 = 11 then (Option.bind (zR u4 a0 6) fun q5 => (if zK u4 q5 = 7 then (Option.bind (zR u4 q5 0) fun q6 => (if zK u4 q6 = 8 then cl (fX7_everyone N q6 u4) fun r7 u8 => (if p1 ≤ r7 then (if zK u8 a0 = 11 then cl (fX10_sleepTogether N a0 p1 p2 p3 u8) fun r9 u10 => (some (r9, u10)) else none)
  else (some ((-1 : Int32), u8))) else none)) else none)) else none))) else none)) else none)) else none
set_option maxRecDepth 20000 in
set_option maxHeartbeats 4000000 in
theorem kX10_guild  (N : Nat)  (l : Launch) (D : va_G) (cT : Nat → ClassId) (z0 : Nat) (ks : Nat × Nat) (a0 : Nat) (p1 : Int32) (p2 : Int32) (p3 : Int32) (u : SG) : Ct l D cT z0 ks yX10_guild cX10_guild 4 (some .int) 4 0 0 vI [.ref a0, .int p1, .int p2, .int p3] u (fX10_guild N  a0 p1 p2 p3 u) := by
  unfold fX10_guild
  refine ct_of (by decide +kernel) (Nat.le_of_ble_eq_true rfl) (fun p e R s m args below meth c hX => ?_)
  show JF _ True 4 0 0 _ 0 [(0, .ref a0), (1, .int p1), (2, .int p2), (3, .int p3)] [] u _
  refine jf_aload_n hX dX10_guild_0 0 rfl ?_
  refine jf_getR hX ck_X10 6 wfl_687 (by decide) rfl dX10_guild_1 ?_
  refine jf_nn (fun q1 => ?_)
  refine jf_getR hX ck_X6 0 wfl_717 (by decide) rfl dX10_guild_4 ?_
  refine jf_nn (fun q2 => ?_)
  refine jf_callV (As := []) (st := []) hX mo_X7_isTold wml_761 winst_762 wsel_763 7 ck_X7 rfl (fun l D cT z0 ks => kX7_isTold N l D cT z0 ks q2 u) (by decide) (by decide) (by decide) (by decide) (Nat.le_of_ble_eq_true rfl) rfl rfl dX10_guild_7 (fun r3 u4 => ?_)
  refine jf_if_eq (tgt := 31) hX dX10_guild_10 (by decide) ?_ ?_
  · refine jf_iconst (v := -1) hX dX10_guild_31 (by decide) ?_
    exact jf_iret hX rfl (by decide) (by decide) dX10_guild_32
  · refine jf_iload_n hX dX10_guild_13 1 rfl ?_
    refine jf_if_le (tgt := 31) hX dX10_guild_14 (by decide) ?_ ?_
    · refine jf_iconst (v := -1) hX dX10_guild_31 (by decide) ?_
      exact jf_iret hX rfl (by decide) (by decide) dX10_guild_32
    · refine jf_iload_n hX dX10_guild_17 1 rfl ?_
      refine jf_aload_n hX dX10_guild_18 0 rfl ?_
      refine jf_getR hX ck_X10 6 wfl_687 (by decide) rfl dX10_guild_19 ?_
      refine jf_nn (fun q5 => ?_)
      refine jf_getR hX ck_X6 0 wfl_717 (by decide) rfl dX10_guild_22 ?_
      refine jf_nn (fun q6 => ?_)
      refine jf_callV (As := []) (st := [.int p1]) hX mo_X7_everyone wml_812 winst_464 wsel_465 7 ck_X7 rfl (fun l D cT z0 ks => kX7_everyone N l D cT z0 ks q6 u4) (by decide) (by decide) (by decide) (by decide) (Nat.le_of_ble_eq_true rfl) rfl rfl dX10_guild_25 (fun r7 u8 => ?_)
      refine jf_icmp_le (tgt := 33) hX dX10_guild_28 (by decide) ?_ ?_
      · refine jf_aload_n hX dX10_guild_33 0 rfl ?_
        refine jf_iload_n hX dX10_guild_34 1 rfl ?_
        refine jf_iload_n hX dX10_guild_35 2 rfl ?_
        refine jf_iload_n hX dX10_guild_36 3 rfl ?_
        refine jf_callV (As := [.int p1, .int p2, .int p3]) (st := []) hX mo_X10_sleepTogether wml_809 winst_810 wsel_811 10 ck_X10 rfl (fun l D cT z0 ks => kX10_sleepTogether N l D cT z0 ks a0 p1 p2 p3 u8) (by decide) (by decide) (by decide) (by decide) (Nat.le_of_ble_eq_true rfl) rfl rfl dX10_guild_37 (fun r9 u10 => ?_)
        exact jf_iret hX rfl (by decide) (by decide) dX10_guild_40
      · refine jf_iconst (v := -1) hX dX10_guild_31 (by decide) ?_
        exact jf_iret hX rfl (by decide) (by decide) dX10_guild_32
set_option maxRecDepth 20000 in
def gX10_isFact_40 (N : Nat)   (x0 : Nat) (x2 : Int32) (u : SG) : Option (Int32 × SG) := if zK u x0 = 11 then (Option.bind (zR u x0 6) fun q1 => (if zK u q1 = 7 then (Option.bind (zR u q1 0) fun q2 => (if zK u q2 = 8 then cl (fX7_isPerson N q2 x2 u) fun r3 u4 => (if r3 = 0 ∨ r3 = 1 then some (r3, u4) else none) else none)) else none)) else none
set_option maxRecDepth 20000 in
set_option maxHeartbeats 4000000 in
theorem jgX10_isFact_40   {X : XT} (hX : Cx X yX10_isFact cX10_isFact 5 (some .boolean) 2 0 0) (N : Nat)  (x0 : Nat) (x2 : Int32) (u : SG) : JF X True 5 0 0 (jQ X vI 0 0) 40 [(0, .ref x0), (2, .int x2)] [] u (gX10_isFact_40 N   x0 x2 u) := by
  unfold gX10_isFact_40
  refine jf_aload_n hX dX10_isFact_40 0 rfl ?_
  refine jf_getR hX ck_X10 6 wfl_687 (by decide) rfl dX10_isFact_41 ?_
  refine jf_nn (fun q1 => ?_)
  refine jf_getR hX ck_X6 0 wfl_717 (by decide) rfl dX10_isFact_44 ?_
  refine jf_nn (fun q2 => ?_)
  refine jf_iload_n hX dX10_isFact_47 1 rfl ?_
  refine jf_callV (As := [.int x2]) (st := []) hX mo_X7_isPerson wml_740 winst_741 wsel_742 7 ck_X7 rfl (fun l D cT z0 ks => kX7_isPerson N l D cT z0 ks q2 x2 u) (by decide) (by decide) (by decide) (by decide) (Nat.le_of_ble_eq_true rfl) rfl rfl dX10_isFact_48 (fun r3 u4 => ?_)
  exact jf_zret hX rfl (by decide) (by decide) dX10_isFact_51
set_option maxRecDepth 20000 in
def gX10_isFact_52 (N : Nat)   (x2 : Int32) (u : SG) : Option (Int32 × SG) := if x2 < 0 then (some ((0 : Int32), u))
  else (if (5 : Int32) < x2 then (some ((0 : Int32), u))
  else (some ((1 : Int32), u)))
set_option maxRecDepth 20000 in
set_option maxHeartbeats 4000000 in
theorem jgX10_isFact_52   {X : XT} (hX : Cx X yX10_isFact cX10_isFact 5 (some .boolean) 2 0 0) (N : Nat)  (x2 : Int32) (u : SG) : JF X True 5 0 0 (jQ X vI 0 0) 52 [(2, .int x2)] [] u (gX10_isFact_52 N   x2 u) := by
  unfold gX10_isFact_52
  refine jf_iload_n hX dX10_isFact_52 0 rfl ?_
  refine jf_if_lt (tgt := 65) hX dX10_isFact_53 (by decide) ?_ ?_
  · refine jf_iconst (v := 0) hX dX10_isFact_65 (by decide) ?_
    exact jf_zretc hX rfl (by decide) (by decide) (by decide) dX10_isFact_66
  · refine jf_iload_n hX dX10_isFact_56 0 rfl ?_
    refine jf_iconst (v := 5) hX dX10_isFact_57 (by decide) ?_
    refine jf_icmp_gt (tgt := 65) hX dX10_isFact_58 (by decide) ?_ ?_
    · refine jf_iconst (v := 0) hX dX10_isFact_65 (by decide) ?_
      exact jf_zretc hX rfl (by decide) (by decide) (by decide) dX10_isFact_66
    · refine jf_iconst (v := 1) hX dX10_isFact_61 (by decide) ?_
      refine jf_goto (tgt := 66) hX dX10_isFact_62 (by decide) ?_
      exact jf_zretc hX rfl (by decide) (by decide) (by decide) dX10_isFact_66
set_option maxRecDepth 20000 in
def gX10_isFact_67 (N : Nat)   (x0 : Nat) (x2 : Int32) (x3 : Int32) (x4 : Int32) (u : SG) : Option (Int32 × SG) := if zK u x0 = 11 then (Option.bind (zR u x0 6) fun q1 => (if zK u q1 = 7 then (Option.bind (zR u q1 0) fun q2 => (if zK u q2 = 8 then cl (fX7_isPerson N q2 x2 u) fun r3 u4 => (if r3 = 0 then (some ((0 : Int32), u4))
  else (if x3 < 0 then (some ((0 : Int32), u4))
  else (if (300 : Int32) < x3 then (some ((0 : Int32), u4))
  else (if x4 < 0 then (some ((0 : Int32), u4))
  else (if (300 : Int32) < x4 then (some ((0 : Int32), u4))
  else (some ((1 : Int32), u4))))))) else none)) else none)) else none
set_option maxRecDepth 20000 in
set_option maxHeartbeats 4000000 in
theorem jgX10_isFact_67   {X : XT} (hX : Cx X yX10_isFact cX10_isFact 5 (some .boolean) 2 0 0) (N : Nat)  (x0 : Nat) (x2 : Int32) (x3 : Int32) (x4 : Int32) (u : SG) : JF X True 5 0 0 (jQ X vI 0 0) 67 [(0, .ref x0), (2, .int x2), (3, .int x3), (4, .int x4)] [] u (gX10_isFact_67 N   x0 x2 x3 x4 u) := by
  unfold gX10_isFact_67
  refine jf_aload_n hX dX10_isFact_67 0 rfl ?_
  refine jf_getR hX ck_X10 6 wfl_687 (by decide) rfl dX10_isFact_68 ?_
  refine jf_nn (fun q1 => ?_)
  refine jf_getR hX ck_X6 0 wfl_717 (by decide) rfl dX10_isFact_71 ?_
  refine jf_nn (fun q2 => ?_)
  refine jf_iload_n hX dX10_isFact_74 1 rfl ?_
  refine jf_callV (As := [.int x2]) (st := []) hX mo_X7_isPerson wml_740 winst_741 wsel_742 7 ck_X7 rfl (fun l D cT z0 ks => kX7_isPerson N l D cT z0 ks q2 x2 u) (by decide) (by decide) (by decide) (by decide) (Nat.le_of_ble_eq_true rfl) rfl rfl dX10_isFact_75 (fun r3 u4 => ?_)
  refine jf_if_eq (tgt := 109) hX dX10_isFact_78 (by decide) ?_ ?_
  · refine jf_iconst (v := 0) hX dX10_isFact_109 (by decide) ?_
    exact jf_zretc hX rfl (by decide) (by decide) (by decide) dX10_isFact_110
  · refine jf_iload_n hX dX10_isFact_81 2 rfl ?_
    refine jf_if_lt (tgt := 109) hX dX10_isFact_82 (by decide) ?_ ?_
    · refine jf_iconst (v := 0) hX dX10_isFact_109 (by decide) ?_
      exact jf_zretc hX rfl (by decide) (by decide) (by decide) dX10_isFact_110
    · refine jf_iload_n hX dX10_isFact_85 2 rfl ?_
      refine jf_sipush (v := 300) hX dX10_isFact_86 (by decide) ?_
      refine jf_icmp_gt (tgt := 109) hX dX10_isFact_89 (by decide) ?_ ?_
      · refine jf_iconst (v := 0) hX dX10_isFact_109 (by decide) ?_
        exact jf_zretc hX rfl (by decide) (by decide) (by decide) dX10_isFact_110
      · refine jf_iload hX dX10_isFact_92 3 rfl ?_
        refine jf_if_lt (tgt := 109) hX dX10_isFact_94 (by decide) ?_ ?_
        · refine jf_iconst (v := 0) hX dX10_isFact_109 (by decide) ?_
          exact jf_zretc hX rfl (by decide) (by decide) (by decide) dX10_isFact_110
        · refine jf_iload hX dX10_isFact_97 3 rfl ?_
          refine jf_sipush (v := 300) hX dX10_isFact_99 (by decide) ?_
          refine jf_icmp_gt (tgt := 109) hX dX10_isFact_102 (by decide) ?_ ?_
          · refine jf_iconst (v := 0) hX dX10_isFact_109 (by decide) ?_
            exact jf_zretc hX rfl (by decide) (by decide) (by decide) dX10_isFact_110
          · refine jf_iconst (v := 1) hX dX10_isFact_105 (by decide) ?_
            refine jf_goto (tgt := 110) hX dX10_isFact_106 (by decide) ?_
            exact jf_zretc hX rfl (by decide) (by decide) (by decide) dX10_isFact_110
set_option maxRecDepth 20000 in
def fX10_isFact (N : Nat)  (a0 : Nat) (p1 : Int32) (p2 : Int32) (p3 : Int32) (p4 : Int32) (u : SG) : Option (Int32 × SG) := if p1 = (0 : Int32) then (gX10_isFact_40 N  a0 p2 u)
  else if p1 = (1 : Int32) then (gX10_isFact_40 N  a0 p2 u)
  else if p1 = (2 : Int32) then (gX10_isFact_52 N  p2 u)
  else if p1 = (3 : Int32) then (gX10_isFact_52 N  p2 u)
  else if p1 = (4 : Int32) then (gX10_isFact_67 N  a0 p2 p3 p4 u)
  else if p1 = (5 : Int32) then (gX10_isFact_67 N  a0 p2 p3 p4 u)
  else (some ((0 : Int32), u))
set_option maxRecDepth 20000 in
set_option maxHeartbeats 4000000 in
theorem kX10_isFact  (N : Nat)  (l : Launch) (D : va_G) (cT : Nat → ClassId) (z0 : Nat) (ks : Nat × Nat) (a0 : Nat) (p1 : Int32) (p2 : Int32) (p3 : Int32) (p4 : Int32) (u : SG) : Ct l D cT z0 ks yX10_isFact cX10_isFact 5 (some .boolean) 2 0 0 vI [.ref a0, .int p1, .int p2, .int p3, .int p4] u (fX10_isFact N  a0 p1 p2 p3 p4 u) := by
  unfold fX10_isFact
  refine ct_of (by decide +kernel) (Nat.le_of_ble_eq_true rfl) (fun p e R s m args below meth c hX => ?_)
  show JF _ True 5 0 0 _ 0 [(0, .ref a0), (1, .int p1), (2, .int p2), (3, .int p3), (4, .int p4)] [] u _
  refine jf_iload_n hX dX10_isFact_0 1 rfl ?_
  refine jf_tcase (k := 0) (kv := 0) (tgt := 40) hX dX10_isFact_1 rfl (by decide) (by decide) rfl (by decide) ?_ (fun hn0 => ?_)
  · refine jf_lv [0, 2] rfl ?_
    exact jgX10_isFact_40 hX N  a0 p2 u
  refine jf_tcase (k := 1) (kv := 1) (tgt := 40) hX dX10_isFact_1 rfl (by decide) (by decide) rfl (by decide) ?_ (fun hn1 => ?_)
  · refine jf_lv [0, 2] rfl ?_
    exact jgX10_isFact_40 hX N  a0 p2 u
  refine jf_tcase (k := 2) (kv := 2) (tgt := 52) hX dX10_isFact_1 rfl (by decide) (by decide) rfl (by decide) ?_ (fun hn2 => ?_)
  · refine jf_lv [2] rfl ?_
    exact jgX10_isFact_52 hX N  p2 u
  refine jf_tcase (k := 3) (kv := 3) (tgt := 52) hX dX10_isFact_1 rfl (by decide) (by decide) rfl (by decide) ?_ (fun hn3 => ?_)
  · refine jf_lv [2] rfl ?_
    exact jgX10_isFact_52 hX N  p2 u
  refine jf_tcase (k := 4) (kv := 4) (tgt := 67) hX dX10_isFact_1 rfl (by decide) (by decide) rfl (by decide) ?_ (fun hn4 => ?_)
  · refine jf_lv [0, 2, 3, 4] rfl ?_
    exact jgX10_isFact_67 hX N  a0 p2 p3 p4 u
  refine jf_tcase (k := 5) (kv := 5) (tgt := 67) hX dX10_isFact_1 rfl (by decide) (by decide) rfl (by decide) ?_ (fun hn5 => ?_)
  · refine jf_lv [0, 2, 3, 4] rfl ?_
    exact jgX10_isFact_67 hX N  a0 p2 p3 p4 u
  refine jf_tdef (tgt := 111) hX dX10_isFact_1 (by rcases Int.lt_or_le p1.toInt (0) with h9 | h9; exact Or.inl h9; exact Or.inr (istep (istep (istep (istep (istep (istep h9 (lv_neT (a := 0) hn0 rfl)) (lv_neT (a := 1) hn1 rfl)) (lv_neT (a := 2) hn2 rfl)) (lv_neT (a := 3) hn3 rfl)) (lv_neT (a := 4) hn4 rfl)) (lv_neT (a := 5) hn5 rfl))) (by decide) ?_
  refine jf_iconst (v := 0) hX dX10_isFact_111 (by decide) ?_
  exact jf_zretc hX rfl (by decide) (by decide) (by decide) dX10_isFact_112
set_option maxRecDepth 20000 in
def fX10_fact (N : Nat)  (a0 : Nat) (p1 : Int32) (p2 : Int32) (p3 : Int32) (p4 : Int32) (u : SG) : Option (Int32 × SG) := if p1 = (-1 : Int32) then (if zK u a0 = 11 then (Option.bind (zR u a0 6) fun q13 => (if zK u q13 = 7 then (Option.bind (zR u q13 2) fun q14 => (if zK u q14 = 2 then cl (fX1_clear N q14 u) fun r15 u16 => (some ((0 : Int32), u16)) else none)) else none)) else none)
  else (if zK u a0 = 11 then (Option.bind (zR u a0 6) fun q1 => (if zK u q1 = 7 then (Option.bind (zR u q1 0) fun q2 => (if zK u q2 = 8 then cl (fX7_isTold N q2 u) fun r3 u4 => (if r3 = 0 then (some ((-2 : Int32), u4))
  else (if zK u4 a0 = 11 then cl (fX10_isFact N a0 p1 p2 p3 p4 u4) fun r5 u6 => (if r5 = 0 then (some ((-2 : Int32), u6))
  else (if zK u6 a0 = 11 then (Option.bind (zR u6 a0 6) fun q7 => (if zK u6 q7 = 7 then (Option.bind (zR u6 q7 2) fun q8 => (if zK u6 q8 = 2 then cl (fX1_add N q8 p1 p2 p3 p4 u6) fun r9 u10 => (if r9 = 0 then (some ((-2 : Int32), u10))
  else (if zK u10 a0 = 11 then (Option.bind (zR u10 a0 6) fun q11 => (if zK u10 q11 = 7 then (Option.bind (zR u10 q11 2) fun q12 => (if zK u10 q12 = 2 then (some (zI u10 q12 4, u10)) else none)) else none)) else none)) else none)) else none)) else none)) else none)) else none)) else none)) else none)
set_option maxRecDepth 20000 in
set_option maxHeartbeats 4000000 in
theorem kX10_fact  (N : Nat)  (l : Launch) (D : va_G) (cT : Nat → ClassId) (z0 : Nat) (ks : Nat × Nat) (a0 : Nat) (p1 : Int32) (p2 : Int32) (p3 : Int32) (p4 : Int32) (u : SG) : Ct l D cT z0 ks yX10_fact cX10_fact 5 (some .int) 3 0 0 vI [.ref a0, .int p1, .int p2, .int p3, .int p4] u (fX10_fact N  a0 p1 p2 p3 p4 u) := by
  unfold fX10_fact
  refine ct_of (by decide +kernel) (Nat.le_of_ble_eq_true rfl) (fun p e R s m args below meth c hX => ?_)
  show JF _ True 5 0 0 _ 0 [(0, .ref a0), (1, .int p1), (2, .int p2), (3, .int p3), (4, .int p4)] [] u _
  refine jf_iload_n hX dX10_fact_0 1 rfl ?_
  refine jf_iconst (v := -1) hX dX10_fact_1 (by decide) ?_
  refine jf_icmp_ne (tgt := 17) hX dX10_fact_2 (by decide) ?_ ?_
  · refine jf_aload_n hX dX10_fact_17 0 rfl ?_
    refine jf_getR hX ck_X10 6 wfl_687 (by decide) rfl dX10_fact_18 ?_
    refine jf_nn (fun q1 => ?_)
    refine jf_getR hX ck_X6 0 wfl_717 (by decide) rfl dX10_fact_21 ?_
    refine jf_nn (fun q2 => ?_)
    refine jf_callV (As := []) (st := []) hX mo_X7_isTold wml_761 winst_762 wsel_763 7 ck_X7 rfl (fun l D cT z0 ks => kX7_isTold N l D cT z0 ks q2 u) (by decide) (by decide) (by decide) (by decide) (Nat.le_of_ble_eq_true rfl) rfl rfl dX10_fact_24 (fun r3 u4 => ?_)
    refine jf_if_ne (tgt := 33) hX dX10_fact_27 (by decide) ?_ ?_
    · refine jf_aload_n hX dX10_fact_33 0 rfl ?_
      refine jf_iload_n hX dX10_fact_34 1 rfl ?_
      refine jf_iload_n hX dX10_fact_35 2 rfl ?_
      refine jf_iload_n hX dX10_fact_36 3 rfl ?_
      refine jf_iload hX dX10_fact_37 4 rfl ?_
      refine jf_callV (As := [.int p1, .int p2, .int p3, .int p4]) (st := []) hX mo_X10_isFact wml_819 winst_820 wsel_821 10 ck_X10 rfl (fun l D cT z0 ks => kX10_isFact N l D cT z0 ks a0 p1 p2 p3 p4 u4) (by decide) (by decide) (by decide) (by decide) (Nat.le_of_ble_eq_true rfl) rfl rfl dX10_fact_39 (fun r5 u6 => ?_)
      refine jf_if_eq (tgt := 63) hX dX10_fact_42 (by decide) ?_ ?_
      · refine jf_bipush (v := -2) hX dX10_fact_63 (by decide) ?_
        exact jf_iret hX rfl (by decide) (by decide) dX10_fact_65
      · refine jf_aload_n hX dX10_fact_45 0 rfl ?_
        refine jf_getR hX ck_X10 6 wfl_687 (by decide) rfl dX10_fact_46 ?_
        refine jf_nn (fun q7 => ?_)
        refine jf_getR hX ck_X6 2 wfl_723 (by decide) rfl dX10_fact_49 ?_
        refine jf_nn (fun q8 => ?_)
        refine jf_iload_n hX dX10_fact_52 1 rfl ?_
        refine jf_iload_n hX dX10_fact_53 2 rfl ?_
        refine jf_iload_n hX dX10_fact_54 3 rfl ?_
        refine jf_iload hX dX10_fact_55 4 rfl ?_
        refine jf_callV (As := [.int p1, .int p2, .int p3, .int p4]) (st := []) hX mo_X1_add wml_822 winst_823 wsel_824 1 ck_X1 rfl (fun l D cT z0 ks => kX1_add N l D cT z0 ks q8 p1 p2 p3 p4 u6) (by decide) (by decide) (by decide) (by decide) (Nat.le_of_ble_eq_true rfl) rfl rfl dX10_fact_57 (fun r9 u10 => ?_)
        refine jf_if_ne (tgt := 66) hX dX10_fact_60 (by decide) ?_ ?_
        · refine jf_aload_n hX dX10_fact_66 0 rfl ?_
          refine jf_getR hX ck_X10 6 wfl_687 (by decide) rfl dX10_fact_67 ?_
          refine jf_nn (fun q11 => ?_)
          refine jf_getR hX ck_X6 2 wfl_723 (by decide) rfl dX10_fact_70 ?_
          refine jf_nn (fun q12 => ?_)
          refine jf_getI hX ck_X1 4 wfl_825 (by decide) rfl dX10_fact_73 ?_
          exact jf_iret hX rfl (by decide) (by decide) dX10_fact_76
        · refine jf_bipush (v := -2) hX dX10_fact_63 (by decide) ?_
          exact jf_iret hX rfl (by decide) (by decide) dX10_fact_65
    · refine jf_bipush (v := -2) hX dX10_fact_30 (by decide) ?_
      exact jf_iret hX rfl (by decide) (by decide) dX10_fact_32
  · refine jf_aload_n hX dX10_fact_5 0 rfl ?_
    refine jf_getR hX ck_X10 6 wfl_687 (by decide) rfl dX10_fact_6 ?_
    refine jf_nn (fun q13 => ?_)
    refine jf_getR hX ck_X6 2 wfl_723 (by decide) rfl dX10_fact_9 ?_
    refine jf_nn (fun q14 => ?_)
    refine jf_callV (As := []) (st := []) hX mo_X1_clear wml_724 winst_725 wsel_726 1 ck_X1 rfl (fun l D cT z0 ks => kX1_clear N l D cT z0 ks q14 u) (by decide) (by decide) (by decide) (by decide) (Nat.le_of_ble_eq_true rfl) rfl rfl dX10_fact_12 (fun r15 u16 => ?_)
    refine jf_iconst (v := 0) hX dX10_fact_15 (by decide) ?_
    exact jf_iret hX rfl (by decide) (by decide) dX10_fact_16
set_option maxRecDepth 20000 in
def gX10_setsWith_4 (N : Nat)   : Nat → Nat → Int32 → Int32 → Int32 → SG → Option (Int32 × SG)
  | 0, _, _, _, _, _ => none
  | n + 1, x0, x1, x2, x3, u => if zK u x0 = 11 then (Option.bind (zR u x0 6) fun q1 => (if zK u q1 = 7 then (Option.bind (zR u q1 0) fun q2 => (if zK u q2 = 8 then cl (fX7_everyone N q2 u) fun r3 u4 => (if r3 < x3 then (some (x2, u4))
  else (if (x1 &&& (x3 ^^^ (-1 : Int32))) = 0 then (if zK u4 x0 = 11 then (Option.bind (zR u4 x0 6) fun q5 => (if zK u4 q5 = 7 then (Option.bind (zR u4 q5 2) fun q6 => (if zK u4 q6 = 2 then cl (fX1_allow N q6 x3 u4) fun r7 u8 => (if r7 = 0 then ((gX10_setsWith_4 N  n) x0 x1 x2 (x3 + (1 : Int32)) u8)
  else ((gX10_setsWith_4 N  n) x0 x1 (x2 + (1 : Int32)) (x3 + (1 : Int32)) u8)) else none)) else none)) else none)
  else ((gX10_setsWith_4 N  n) x0 x1 x2 (x3 + (1 : Int32)) u4))) else none)) else none)) else none
set_option maxRecDepth 20000 in
set_option maxHeartbeats 4000000 in
theorem jgX10_setsWith_4   {X : XT} (hX : Cx X yX10_setsWith cX10_setsWith 4 (some .int) 4 0 0) (N : Nat)  : ∀ (n : Nat) (x0 : Nat) (x1 : Int32) (x2 : Int32) (x3 : Int32) (u : SG), JF X True 4 0 0 (jQ X vI 0 0) 4 [(0, .ref x0), (1, .int x1), (2, .int x2), (3, .int x3)] [] u (gX10_setsWith_4 N   n x0 x1 x2 x3 u) := by
  intro n
  induction n with
  | zero => intros; intro r u9 h9; exact absurd h9 (by simp [gX10_setsWith_4])
  | succ n ih =>
    intro x0 x1 x2 x3 u
    have hrec4 := ih
    rw [gX10_setsWith_4]
    refine jf_iload_n hX dX10_setsWith_4 3 rfl ?_
    refine jf_aload_n hX dX10_setsWith_5 0 rfl ?_
    refine jf_getR hX ck_X10 6 wfl_687 (by decide) rfl dX10_setsWith_6 ?_
    refine jf_nn (fun q1 => ?_)
    refine jf_getR hX ck_X6 0 wfl_717 (by decide) rfl dX10_setsWith_9 ?_
    refine jf_nn (fun q2 => ?_)
    refine jf_callV (As := []) (st := [.int x3]) hX mo_X7_everyone wml_812 winst_464 wsel_465 7 ck_X7 rfl (fun l D cT z0 ks => kX7_everyone N l D cT z0 ks q2 u) (by decide) (by decide) (by decide) (by decide) (Nat.le_of_ble_eq_true rfl) rfl rfl dX10_setsWith_12 (fun r3 u4 => ?_)
    refine jf_icmp_gt (tgt := 49) hX dX10_setsWith_15 (by decide) ?_ ?_
    · refine jf_iload_n hX dX10_setsWith_49 2 rfl ?_
      exact jf_iret hX rfl (by decide) (by decide) dX10_setsWith_50
    · refine jf_iload_n hX dX10_setsWith_18 1 rfl ?_
      refine jf_iload_n hX dX10_setsWith_19 3 rfl ?_
      refine jf_iconst (v := -1) hX dX10_setsWith_20 (by decide) ?_
      refine jf_ixor hX dX10_setsWith_21 ?_
      refine jf_iand hX dX10_setsWith_22 ?_
      refine jf_if_ne (tgt := 43) hX dX10_setsWith_23 (by decide) ?_ ?_
      · refine jf_iinc (v := 1) (lv' := [(3, .int (x3 + (1 : Int32))), (0, .ref x0), (1, .int x1), (2, .int x2)]) hX dX10_setsWith_43 3 rfl (by decide) (by decide) rfl ?_
        refine jf_goto (tgt := 4) hX dX10_setsWith_46 (by decide) ?_
        refine jf_lv [1, 2, 3, 0] rfl ?_
        exact hrec4 x0 x1 x2 (x3 + (1 : Int32)) u4
      · refine jf_aload_n hX dX10_setsWith_26 0 rfl ?_
        refine jf_getR hX ck_X10 6 wfl_687 (by decide) rfl dX10_setsWith_27 ?_
        refine jf_nn (fun q5 => ?_)
        refine jf_getR hX ck_X6 2 wfl_723 (by decide) rfl dX10_setsWith_30 ?_
        refine jf_nn (fun q6 => ?_)
        refine jf_iload_n hX dX10_setsWith_33 3 rfl ?_
        refine jf_callV (As := [.int x3]) (st := []) hX mo_X1_allow wml_826 winst_827 wsel_828 1 ck_X1 rfl (fun l D cT z0 ks => kX1_allow N l D cT z0 ks q6 x3 u4) (by decide) (by decide) (by decide) (by decide) (Nat.le_of_ble_eq_true rfl) rfl rfl dX10_setsWith_34 (fun r7 u8 => ?_)
        refine jf_if_eq (tgt := 43) hX dX10_setsWith_37 (by decide) ?_ ?_
        · refine jf_iinc (v := 1) (lv' := [(3, .int (x3 + (1 : Int32))), (0, .ref x0), (1, .int x1), (2, .int x2)]) hX dX10_setsWith_43 3 rfl (by decide) (by decide) rfl ?_
          refine jf_goto (tgt := 4) hX dX10_setsWith_46 (by decide) ?_
          refine jf_lv [1, 2, 3, 0] rfl ?_
          exact hrec4 x0 x1 x2 (x3 + (1 : Int32)) u8
        · refine jf_iinc (v := 1) (lv' := [(2, .int (x2 + (1 : Int32))), (0, .ref x0), (1, .int x1), (3, .int x3)]) hX dX10_setsWith_40 2 rfl (by decide) (by decide) rfl ?_
          refine jf_iinc (v := 1) (lv' := [(3, .int (x3 + (1 : Int32))), (2, .int (x2 + (1 : Int32))), (0, .ref x0), (1, .int x1)]) hX dX10_setsWith_43 3 rfl (by decide) (by decide) rfl ?_
          refine jf_goto (tgt := 4) hX dX10_setsWith_46 (by decide) ?_
          refine jf_lv [2, 3, 1, 0] rfl ?_
          exact hrec4 x0 x1 (x2 + (1 : Int32)) (x3 + (1 : Int32)) u8
set_option maxRecDepth 20000 in
def fX10_setsWith (N : Nat)  (a0 : Nat) (p1 : Int32) (u : SG) : Option (Int32 × SG) := gX10_setsWith_4 N  N a0 p1 (0 : Int32) (0 : Int32) u
set_option maxRecDepth 20000 in
set_option maxHeartbeats 4000000 in
theorem kX10_setsWith  (N : Nat)  (l : Launch) (D : va_G) (cT : Nat → ClassId) (z0 : Nat) (ks : Nat × Nat) (a0 : Nat) (p1 : Int32) (u : SG) : Ct l D cT z0 ks yX10_setsWith cX10_setsWith 4 (some .int) 4 0 0 vI [.ref a0, .int p1] u (fX10_setsWith N  a0 p1 u) := by
  unfold fX10_setsWith
  refine ct_of (by decide +kernel) (Nat.le_of_ble_eq_true rfl) (fun p e R s m args below meth c hX => ?_)
  show JF _ True 4 0 0 _ 0 [(0, .ref a0), (1, .int p1)] [] u _
  refine jf_iconst (v := 0) hX dX10_setsWith_0 (by decide) ?_
  refine jf_istore_n (lv' := [(2, .int (0 : Int32)), (0, .ref a0), (1, .int p1)]) hX dX10_setsWith_1 rfl (by decide) rfl ?_
  refine jf_iconst (v := 0) hX dX10_setsWith_2 (by decide) ?_
  refine jf_istore_n (lv' := [(3, .int (0 : Int32)), (2, .int (0 : Int32)), (0, .ref a0), (1, .int p1)]) hX dX10_setsWith_3 rfl (by decide) rfl ?_
  refine jf_lv [2, 3, 1, 0] rfl ?_
  exact jgX10_setsWith_4 hX N  N a0 p1 (0 : Int32) (0 : Int32) u
set_option maxRecDepth 20000 in
def gX10_slept_80 (N : Nat)  (rec47 : Nat → Int32 → Int32 → Int32 → Int32 → Int32 → Int32 → SG → Option (Int32 × SG)) (x0 : Nat) (x1 : Int32) (x2 : Int32) (x4 : Int32) (x5 : Int32) (x6 : Int32) (s0 : Int32) (u : SG) : Option (Int32 × SG) := bs (x4 &&& x6) fun v1 => (bs (x5 ||| x6) fun v2 => (rec47 x0 x1 x2 s0 v1 v2 (x6 + (1 : Int32)) u))
set_option maxRecDepth 20000 in
set_option maxHeartbeats 4000000 in
theorem jgX10_slept_80 {rec47 : Nat → Int32 → Int32 → Int32 → Int32 → Int32 → Int32 → SG → Option (Int32 × SG)}  {X : XT} (hX : Cx X yX10_slept cX10_slept 7 (some .int) 5 0 0) (N : Nat) (hrec47 : ∀ (x0 : Nat) (x1 : Int32) (x2 : Int32) (x3 : Int32) (x4 : Int32) (x5 : Int32) (x6 : Int32)  (u : SG), JF X True 7 0 0 (jQ X vI 0 0) 47 [(0, .ref x0), (1, .int x1), (2, .int x2), (3, .int x3), (4, .int x4), (5, .int x5), (6, .int x6)] [] u (rec47 x0 x1 x2 x3 x4 x5 x6  u)) (x0 : Nat) (x1 : Int32) (x2 : Int32) (x4 : Int32) (x5 : Int32) (x6 : Int32) (s0 : Int32) (u : SG) : JF X True 7 0 0 (jQ X vI 0 0) 80 [(0, .ref x0), (1, .int x1), (2, .int x2), (4, .int x4), (5, .int x5), (6, .int x6)] [.int s0] u (gX10_slept_80 N  rec47 x0 x1 x2 x4 x5 x6 s0 u) := by
  unfold gX10_slept_80
  refine jf_istore_n (lv' := [(3, .int s0), (0, .ref x0), (1, .int x1), (2, .int x2), (4, .int x4), (5, .int x5), (6, .int x6)]) hX dX10_slept_80 rfl (by decide) rfl ?_
  refine jf_iload hX dX10_slept_81 4 rfl ?_
  refine jf_iload hX dX10_slept_83 6 rfl ?_
  refine jf_iand hX dX10_slept_85 ?_
  refine jf_nmI (fun v1 => ?_)
  refine jf_istore (lv' := [(4, .int v1), (3, .int s0), (0, .ref x0), (1, .int x1), (2, .int x2), (5, .int x5), (6, .int x6)]) hX dX10_slept_86 (by decide) rfl ?_
  refine jf_iload hX dX10_slept_88 5 rfl ?_
  refine jf_iload hX dX10_slept_90 6 rfl ?_
  refine jf_ior hX dX10_slept_92 ?_
  refine jf_nmI (fun v2 => ?_)
  refine jf_istore (lv' := [(5, .int v2), (4, .int v1), (3, .int s0), (0, .ref x0), (1, .int x1), (2, .int x2), (6, .int x6)]) hX dX10_slept_93 (by decide) rfl ?_
  refine jf_iinc (v := 1) (lv' := [(6, .int (x6 + (1 : Int32))), (5, .int v2), (4, .int v1), (3, .int s0), (0, .ref x0), (1, .int x1), (2, .int x2)]) hX dX10_slept_95 6 rfl (by decide) (by decide) rfl ?_
  refine jf_goto (tgt := 47) hX dX10_slept_98 (by decide) ?_
  refine jf_lv [4, 5, 6, 3, 2, 1, 0] rfl ?_
  exact hrec47 x0 x1 x2 s0 v1 v2 (x6 + (1 : Int32)) u
set_option maxRecDepth 20000 in
def gX10_slept_47 (N : Nat)   : Nat → Nat → Int32 → Int32 → Int32 → Int32 → Int32 → Int32 → SG → Option (Int32 × SG)
  | 0, _, _, _, _, _, _, _, _ => none
  | n + 1, x0, x1, x2, x3, x4, x5, x6, u => if x2 < x6 then (if x1 = (0 : Int32) then (if zK u x0 = 11 then cl (fX10_setsWith N x0 (0 : Int32) u) fun r1 u2 => (some (r1, u2)) else none)
  else if x1 = (1 : Int32) then (some (x3, u))
  else if x1 = (2 : Int32) then (if x3 = (-2 : Int32) then (some ((0 : Int32), u))
  else (some (x4, u)))
  else (if x3 = (-2 : Int32) then (some ((0 : Int32), u))
  else (some (x2 &&& (x5 ^^^ (-1 : Int32)), u))))
  else (if zK u x0 = 11 then (Option.bind (zR u x0 6) fun q3 => (if zK u q3 = 7 then (Option.bind (zR u q3 2) fun q4 => (if zK u q4 = 2 then cl (fX1_allow N q4 x6 u) fun r5 u6 => (if r5 = 0 then ((gX10_slept_47 N  n) x0 x1 x2 x3 x4 x5 (x6 + (1 : Int32)) u6)
  else (if x3 = (-2 : Int32) then (gX10_slept_80 N (gX10_slept_47 N  n) x0 x1 x2 x4 x5 x6 x6 u6)
  else (gX10_slept_80 N (gX10_slept_47 N  n) x0 x1 x2 x4 x5 x6 x3 u6))) else none)) else none)) else none)
set_option maxRecDepth 20000 in
set_option maxHeartbeats 4000000 in
theorem jgX10_slept_47   {X : XT} (hX : Cx X yX10_slept cX10_slept 7 (some .int) 5 0 0) (N : Nat)  : ∀ (n : Nat) (x0 : Nat) (x1 : Int32) (x2 : Int32) (x3 : Int32) (x4 : Int32) (x5 : Int32) (x6 : Int32) (u : SG), JF X True 7 0 0 (jQ X vI 0 0) 47 [(0, .ref x0), (1, .int x1), (2, .int x2), (3, .int x3), (4, .int x4), (5, .int x5), (6, .int x6)] [] u (gX10_slept_47 N   n x0 x1 x2 x3 x4 x5 x6 u) := by
  intro n
  induction n with
  | zero => intros; intro r u9 h9; exact absurd h9 (by simp [gX10_slept_47])
  | succ n ih =>
    intro x0 x1 x2 x3 x4 x5 x6 u
    have hrec47 := ih
    rw [gX10_slept_47]
    refine jf_iload hX dX10_slept_47 6 rfl ?_
    refine jf_iload_n hX dX10_slept_49 2 rfl ?_
    refine jf_icmp_gt (tgt := 101) hX dX10_slept_50 (by decide) ?_ ?_
    · refine jf_iload_n hX dX10_slept_101 1 rfl ?_
      refine jf_tcase (k := 0) (kv := 0) (tgt := 128) hX dX10_slept_102 rfl (by decide) (by decide) rfl (by decide) ?_ (fun hn0 => ?_)
      · refine jf_aload_n hX dX10_slept_128 0 rfl ?_
        refine jf_iconst (v := 0) hX dX10_slept_129 (by decide) ?_
        refine jf_callV (As := [.int (0 : Int32)]) (st := []) hX mo_X10_setsWith wml_829 winst_830 wsel_831 10 ck_X10 rfl (fun l D cT z0 ks => kX10_setsWith N l D cT z0 ks x0 (0 : Int32) u) (by decide) (by decide) (by decide) (by decide) (Nat.le_of_ble_eq_true rfl) rfl rfl dX10_slept_130 (fun r1 u2 => ?_)
        exact jf_iret hX rfl (by decide) (by decide) dX10_slept_133
      refine jf_tcase (k := 1) (kv := 1) (tgt := 134) hX dX10_slept_102 rfl (by decide) (by decide) rfl (by decide) ?_ (fun hn1 => ?_)
      · refine jf_iload_n hX dX10_slept_134 3 rfl ?_
        exact jf_iret hX rfl (by decide) (by decide) dX10_slept_135
      refine jf_tcase (k := 2) (kv := 2) (tgt := 136) hX dX10_slept_102 rfl (by decide) (by decide) rfl (by decide) ?_ (fun hn2 => ?_)
      · refine jf_iload_n hX dX10_slept_136 3 rfl ?_
        refine jf_bipush (v := -2) hX dX10_slept_137 (by decide) ?_
        refine jf_icmp_ne (tgt := 146) hX dX10_slept_139 (by decide) ?_ ?_
        · refine jf_iload hX dX10_slept_146 4 rfl ?_
          exact jf_iret hX rfl (by decide) (by decide) dX10_slept_148
        · refine jf_iconst (v := 0) hX dX10_slept_142 (by decide) ?_
          refine jf_goto (tgt := 148) hX dX10_slept_143 (by decide) ?_
          exact jf_iret hX rfl (by decide) (by decide) dX10_slept_148
      refine jf_tdef (tgt := 149) hX dX10_slept_102 (by rcases Int.lt_or_le x1.toInt (0) with h9 | h9; exact Or.inl h9; exact Or.inr (istep (istep (istep h9 (lv_neT (a := 0) hn0 rfl)) (lv_neT (a := 1) hn1 rfl)) (lv_neT (a := 2) hn2 rfl))) (by decide) ?_
      refine jf_iload_n hX dX10_slept_149 3 rfl ?_
      refine jf_bipush (v := -2) hX dX10_slept_150 (by decide) ?_
      refine jf_icmp_ne (tgt := 159) hX dX10_slept_152 (by decide) ?_ ?_
      · refine jf_iload_n hX dX10_slept_159 2 rfl ?_
        refine jf_iload hX dX10_slept_160 5 rfl ?_
        refine jf_iconst (v := -1) hX dX10_slept_162 (by decide) ?_
        refine jf_ixor hX dX10_slept_163 ?_
        refine jf_iand hX dX10_slept_164 ?_
        exact jf_iret hX rfl (by decide) (by decide) dX10_slept_165
      · refine jf_iconst (v := 0) hX dX10_slept_155 (by decide) ?_
        refine jf_goto (tgt := 165) hX dX10_slept_156 (by decide) ?_
        exact jf_iret hX rfl (by decide) (by decide) dX10_slept_165
    · refine jf_aload_n hX dX10_slept_53 0 rfl ?_
      refine jf_getR hX ck_X10 6 wfl_687 (by decide) rfl dX10_slept_54 ?_
      refine jf_nn (fun q3 => ?_)
      refine jf_getR hX ck_X6 2 wfl_723 (by decide) rfl dX10_slept_57 ?_
      refine jf_nn (fun q4 => ?_)
      refine jf_iload hX dX10_slept_60 6 rfl ?_
      refine jf_callV (As := [.int x6]) (st := []) hX mo_X1_allow wml_826 winst_827 wsel_828 1 ck_X1 rfl (fun l D cT z0 ks => kX1_allow N l D cT z0 ks q4 x6 u) (by decide) (by decide) (by decide) (by decide) (Nat.le_of_ble_eq_true rfl) rfl rfl dX10_slept_62 (fun r5 u6 => ?_)
      refine jf_if_eq (tgt := 95) hX dX10_slept_65 (by decide) ?_ ?_
      · refine jf_iinc (v := 1) (lv' := [(6, .int (x6 + (1 : Int32))), (0, .ref x0), (1, .int x1), (2, .int x2), (3, .int x3), (4, .int x4), (5, .int x5)]) hX dX10_slept_95 6 rfl (by decide) (by decide) rfl ?_
        refine jf_goto (tgt := 47) hX dX10_slept_98 (by decide) ?_
        refine jf_lv [1, 2, 3, 4, 5, 6, 0] rfl ?_
        exact hrec47 x0 x1 x2 x3 x4 x5 (x6 + (1 : Int32)) u6
      · refine jf_iload_n hX dX10_slept_68 3 rfl ?_
        refine jf_bipush (v := -2) hX dX10_slept_69 (by decide) ?_
        refine jf_icmp_ne (tgt := 79) hX dX10_slept_71 (by decide) ?_ ?_
        · refine jf_iload_n hX dX10_slept_79 3 rfl ?_
          refine jf_lv [0, 1, 2, 4, 5, 6] rfl ?_
          exact jgX10_slept_80 hX N hrec47 x0 x1 x2 x4 x5 x6 x3 u6
        · refine jf_iload hX dX10_slept_74 6 rfl ?_
          refine jf_goto (tgt := 80) hX dX10_slept_76 (by decide) ?_
          refine jf_lv [0, 1, 2, 4, 5, 6] rfl ?_
          exact jgX10_slept_80 hX N hrec47 x0 x1 x2 x4 x5 x6 x6 u6
set_option maxRecDepth 20000 in
def fX10_slept (N : Nat)  (a0 : Nat) (p1 : Int32) (u : SG) : Option (Int32 × SG) := if zK u a0 = 11 then (Option.bind (zR u a0 6) fun q1 => (if zK u q1 = 7 then (Option.bind (zR u q1 0) fun q2 => (if zK u q2 = 8 then cl (fX7_isTold N q2 u) fun r3 u4 => (if r3 = 0 then (some ((-1 : Int32), u4))
  else (if p1 < 0 then (some ((-1 : Int32), u4))
  else (if p1 ≤ (3 : Int32) then (if zK u4 a0 = 11 then (Option.bind (zR u4 a0 6) fun q5 => (if zK u4 q5 = 7 then (Option.bind (zR u4 q5 0) fun q6 => (if zK u4 q6 = 8 then cl (fX7_everyone N q6 u4) fun r7 u8 => (gX10_slept_47 N  N a0 p1 r7 (-2 : Int32) r7 (0 : Int32) (0 : Int32) u8) else none)) else none)) else none)
  else (some ((-1 : Int32), u4))))) else none)) else none)) else none
set_option maxRecDepth 20000 in
set_option maxHeartbeats 4000000 in
theorem kX10_slept  (N : Nat)  (l : Launch) (D : va_G) (cT : Nat → ClassId) (z0 : Nat) (ks : Nat × Nat) (a0 : Nat) (p1 : Int32) (u : SG) : Ct l D cT z0 ks yX10_slept cX10_slept 7 (some .int) 5 0 0 vI [.ref a0, .int p1] u (fX10_slept N  a0 p1 u) := by
  unfold fX10_slept
  refine ct_of (by decide +kernel) (Nat.le_of_ble_eq_true rfl) (fun p e R s m args below meth c hX => ?_)
  show JF _ True 7 0 0 _ 0 [(0, .ref a0), (1, .int p1)] [] u _
  refine jf_aload_n hX dX10_slept_0 0 rfl ?_
  refine jf_getR hX ck_X10 6 wfl_687 (by decide) rfl dX10_slept_1 ?_
  refine jf_nn (fun q1 => ?_)
  refine jf_getR hX ck_X6 0 wfl_717 (by decide) rfl dX10_slept_4 ?_
  refine jf_nn (fun q2 => ?_)
  refine jf_callV (As := []) (st := []) hX mo_X7_isTold wml_761 winst_762 wsel_763 7 ck_X7 rfl (fun l D cT z0 ks => kX7_isTold N l D cT z0 ks q2 u) (by decide) (by decide) (by decide) (by decide) (Nat.le_of_ble_eq_true rfl) rfl rfl dX10_slept_7 (fun r3 u4 => ?_)
  refine jf_if_eq (tgt := 22) hX dX10_slept_10 (by decide) ?_ ?_
  · refine jf_iconst (v := -1) hX dX10_slept_22 (by decide) ?_
    exact jf_iret hX rfl (by decide) (by decide) dX10_slept_23
  · refine jf_iload_n hX dX10_slept_13 1 rfl ?_
    refine jf_if_lt (tgt := 22) hX dX10_slept_14 (by decide) ?_ ?_
    · refine jf_iconst (v := -1) hX dX10_slept_22 (by decide) ?_
      exact jf_iret hX rfl (by decide) (by decide) dX10_slept_23
    · refine jf_iload_n hX dX10_slept_17 1 rfl ?_
      refine jf_iconst (v := 3) hX dX10_slept_18 (by decide) ?_
      refine jf_icmp_le (tgt := 24) hX dX10_slept_19 (by decide) ?_ ?_
      · refine jf_aload_n hX dX10_slept_24 0 rfl ?_
        refine jf_getR hX ck_X10 6 wfl_687 (by decide) rfl dX10_slept_25 ?_
        refine jf_nn (fun q5 => ?_)
        refine jf_getR hX ck_X6 0 wfl_717 (by decide) rfl dX10_slept_28 ?_
        refine jf_nn (fun q6 => ?_)
        refine jf_callV (As := []) (st := []) hX mo_X7_everyone wml_812 winst_464 wsel_465 7 ck_X7 rfl (fun l D cT z0 ks => kX7_everyone N l D cT z0 ks q6 u4) (by decide) (by decide) (by decide) (by decide) (Nat.le_of_ble_eq_true rfl) rfl rfl dX10_slept_31 (fun r7 u8 => ?_)
        refine jf_istore_n (lv' := [(2, .int r7), (0, .ref a0), (1, .int p1)]) hX dX10_slept_34 rfl (by decide) rfl ?_
        refine jf_bipush (v := -2) hX dX10_slept_35 (by decide) ?_
        refine jf_istore_n (lv' := [(3, .int (-2 : Int32)), (2, .int r7), (0, .ref a0), (1, .int p1)]) hX dX10_slept_37 rfl (by decide) rfl ?_
        refine jf_iload_n hX dX10_slept_38 1 rfl ?_
        refine jf_istore (lv' := [(4, .int r7), (3, .int (-2 : Int32)), (2, .int r7), (0, .ref a0), (1, .int p1)]) hX dX10_slept_39 (by decide) rfl ?_
        refine jf_iconst (v := 0) hX dX10_slept_41 (by decide) ?_
        refine jf_istore (lv' := [(5, .int (0 : Int32)), (4, .int r7), (3, .int (-2 : Int32)), (2, .int r7), (0, .ref a0), (1, .int p1)]) hX dX10_slept_42 (by decide) rfl ?_
        refine jf_iconst (v := 0) hX dX10_slept_44 (by decide) ?_
        refine jf_istore (lv' := [(6, .int (0 : Int32)), (5, .int (0 : Int32)), (4, .int r7), (3, .int (-2 : Int32)), (2, .int r7), (0, .ref a0), (1, .int p1)]) hX dX10_slept_45 (by decide) rfl ?_
        refine jf_lv [5, 6, 4, 3, 2, 1, 0] rfl ?_
        exact jgX10_slept_47 hX N  N a0 p1 r7 (-2 : Int32) r7 (0 : Int32) (0 : Int32) u8
      · refine jf_iconst (v := -1) hX dX10_slept_22 (by decide) ?_
        exact jf_iret hX rfl (by decide) (by decide) dX10_slept_23
set_option maxRecDepth 20000 in
def gX10_ask_106 (N : Nat)   (x1 : Int32) (x3 : Int32) (x4 : Int32) (u : SG) : Option (Int32 × SG) := if x1 = 0 then (some (x3, u))
  else (some (x4, u))
set_option maxRecDepth 20000 in
set_option maxHeartbeats 4000000 in
theorem jgX10_ask_106   {X : XT} (hX : Cx X yX10_ask cX10_ask 8 (some .int) 5 0 0) (N : Nat)  (x1 : Int32) (x3 : Int32) (x4 : Int32) (u : SG) : JF X True 8 0 0 (jQ X vI 0 0) 106 [(1, .int x1), (3, .int x3), (4, .int x4)] [] u (gX10_ask_106 N   x1 x3 x4 u) := by
  unfold gX10_ask_106
  refine jf_iload_n hX dX10_ask_106 0 rfl ?_
  refine jf_if_ne (tgt := 114) hX dX10_ask_107 (by decide) ?_ ?_
  · refine jf_iload hX dX10_ask_114 2 rfl ?_
    exact jf_iret hX rfl (by decide) (by decide) dX10_ask_116
  · refine jf_iload_n hX dX10_ask_110 1 rfl ?_
    refine jf_goto (tgt := 116) hX dX10_ask_111 (by decide) ?_
    exact jf_iret hX rfl (by decide) (by decide) dX10_ask_116
set_option maxRecDepth 20000 in
def gX10_ask_40 (N : Nat)   : Nat → Nat → Int32 → Int32 → Int32 → Int32 → Int32 → SG → Option (Int32 × SG)
  | 0, _, _, _, _, _, _, _ => none
  | n + 1, x0, x1, x2, x3, x4, x5, u => if zK u x0 = 11 then (Option.bind (zR u x0 6) fun q1 => (if zK u q1 = 7 then (Option.bind (zR u q1 0) fun q2 => (if zK u q2 = 8 then (if (zI u q2 7) ≤ x5 then (gX10_ask_106 N  x1 x3 x4 u)
  else (if x2 ≤ 0 then (gX10_ask_106 N  x1 x3 x4 u)
  else (if zK u x0 = 11 then cl (fX10_setsWith N x0 ((1 : Int32) <<< (x5 &&& 31)) u) fun r3 u4 => (cl (fJ9_max_7cf53 N r3 (x2 - r3) u4) fun r5 u6 => (if x3 = (-2 : Int32) then ((gX10_ask_40 N  n) x0 x1 x2 x5 r5 (x5 + (1 : Int32)) u6)
  else (if x4 ≤ r5 then ((gX10_ask_40 N  n) x0 x1 x2 x3 x4 (x5 + (1 : Int32)) u6)
  else ((gX10_ask_40 N  n) x0 x1 x2 x5 r5 (x5 + (1 : Int32)) u6)))) else none))) else none)) else none)) else none
set_option maxRecDepth 20000 in
set_option maxHeartbeats 4000000 in
theorem jgX10_ask_40   {X : XT} (hX : Cx X yX10_ask cX10_ask 8 (some .int) 5 0 0) (N : Nat)  : ∀ (n : Nat) (x0 : Nat) (x1 : Int32) (x2 : Int32) (x3 : Int32) (x4 : Int32) (x5 : Int32) (u : SG), JF X True 8 0 0 (jQ X vI 0 0) 40 [(0, .ref x0), (1, .int x1), (2, .int x2), (3, .int x3), (4, .int x4), (5, .int x5)] [] u (gX10_ask_40 N   n x0 x1 x2 x3 x4 x5 u) := by
  intro n
  induction n with
  | zero => intros; intro r u9 h9; exact absurd h9 (by simp [gX10_ask_40])
  | succ n ih =>
    intro x0 x1 x2 x3 x4 x5 u
    have hrec40 := ih
    rw [gX10_ask_40]
    refine jf_iload hX dX10_ask_40 5 rfl ?_
    refine jf_aload_n hX dX10_ask_42 0 rfl ?_
    refine jf_getR hX ck_X10 6 wfl_687 (by decide) rfl dX10_ask_43 ?_
    refine jf_nn (fun q1 => ?_)
    refine jf_getR hX ck_X6 0 wfl_717 (by decide) rfl dX10_ask_46 ?_
    refine jf_nn (fun q2 => ?_)
    refine jf_getI hX ck_X7 7 wfl_730 (by decide) rfl dX10_ask_49 ?_
    refine jf_icmp_ge (tgt := 106) hX dX10_ask_52 (by decide) ?_ ?_
    · refine jf_lv [1, 3, 4] rfl ?_
      exact jgX10_ask_106 hX N  x1 x3 x4 u
    · refine jf_iload_n hX dX10_ask_55 2 rfl ?_
      refine jf_if_le (tgt := 106) hX dX10_ask_56 (by decide) ?_ ?_
      · refine jf_lv [1, 3, 4] rfl ?_
        exact jgX10_ask_106 hX N  x1 x3 x4 u
      · refine jf_aload_n hX dX10_ask_59 0 rfl ?_
        refine jf_iconst (v := 1) hX dX10_ask_60 (by decide) ?_
        refine jf_iload hX dX10_ask_61 5 rfl ?_
        refine jf_ishl hX dX10_ask_63 ?_
        refine jf_callV (As := [.int ((1 : Int32) <<< (x5 &&& 31))]) (st := []) hX mo_X10_setsWith wml_829 winst_830 wsel_831 10 ck_X10 rfl (fun l D cT z0 ks => kX10_setsWith N l D cT z0 ks x0 ((1 : Int32) <<< (x5 &&& 31)) u) (by decide) (by decide) (by decide) (by decide) (Nat.le_of_ble_eq_true rfl) rfl rfl dX10_ask_64 (fun r3 u4 => ?_)
        refine jf_istore (lv' := [(6, .int r3), (0, .ref x0), (1, .int x1), (2, .int x2), (3, .int x3), (4, .int x4), (5, .int x5)]) hX dX10_ask_67 (by decide) rfl ?_
        refine jf_iload hX dX10_ask_69 0 rfl ?_
        refine jf_iload_n hX dX10_ask_71 3 rfl ?_
        refine jf_iload hX dX10_ask_72 0 rfl ?_
        refine jf_isub hX dX10_ask_74 ?_
        refine jf_callS (As := [.int r3, .int (x2 - r3)]) (st := []) hX mo_J9_max_7cf53 wml_832 wstat_396 rfl (fun l D cT z0 ks => kJ9_max_7cf53 N l D cT z0 ks r3 (x2 - r3) u4) (by decide) (by decide) (by decide) (by decide) (Nat.le_of_ble_eq_true rfl) rfl rfl dX10_ask_75 (fun r5 u6 => ?_)
        refine jf_istore (lv' := [(7, .int r5), (6, .int r3), (0, .ref x0), (1, .int x1), (2, .int x2), (3, .int x3), (4, .int x4), (5, .int x5)]) hX dX10_ask_78 (by decide) rfl ?_
        refine jf_iload_n hX dX10_ask_80 5 rfl ?_
        refine jf_bipush (v := -2) hX dX10_ask_81 (by decide) ?_
        refine jf_icmp_eq (tgt := 93) hX dX10_ask_83 (by decide) ?_ ?_
        · refine jf_iload hX dX10_ask_93 7 rfl ?_
          refine jf_istore_n (lv' := [(3, .int x5), (7, .int r5), (6, .int r3), (0, .ref x0), (1, .int x1), (2, .int x2), (4, .int x4), (5, .int x5)]) hX dX10_ask_95 rfl (by decide) rfl ?_
          refine jf_iload hX dX10_ask_96 1 rfl ?_
          refine jf_istore (lv' := [(4, .int r5), (3, .int x5), (7, .int r5), (6, .int r3), (0, .ref x0), (1, .int x1), (2, .int x2), (5, .int x5)]) hX dX10_ask_98 (by decide) rfl ?_
          refine jf_iinc (v := 1) (lv' := [(5, .int (x5 + (1 : Int32))), (4, .int r5), (3, .int x5), (7, .int r5), (6, .int r3), (0, .ref x0), (1, .int x1), (2, .int x2)]) hX dX10_ask_100 7 rfl (by decide) (by decide) rfl ?_
          refine jf_goto (tgt := 40) hX dX10_ask_103 (by decide) ?_
          refine jf_lv [5, 6, 7, 2, 1, 0] rfl ?_
          exact hrec40 x0 x1 x2 x5 r5 (x5 + (1 : Int32)) u6
        · refine jf_iload hX dX10_ask_86 0 rfl ?_
          refine jf_iload hX dX10_ask_88 6 rfl ?_
          refine jf_icmp_ge (tgt := 100) hX dX10_ask_90 (by decide) ?_ ?_
          · refine jf_iinc (v := 1) (lv' := [(5, .int (x5 + (1 : Int32))), (7, .int r5), (6, .int r3), (0, .ref x0), (1, .int x1), (2, .int x2), (3, .int x3), (4, .int x4)]) hX dX10_ask_100 7 rfl (by decide) (by decide) rfl ?_
            refine jf_goto (tgt := 40) hX dX10_ask_103 (by decide) ?_
            refine jf_lv [3, 4, 5, 6, 7, 0] rfl ?_
            exact hrec40 x0 x1 x2 x3 x4 (x5 + (1 : Int32)) u6
          · refine jf_iload hX dX10_ask_93 7 rfl ?_
            refine jf_istore_n (lv' := [(3, .int x5), (7, .int r5), (6, .int r3), (0, .ref x0), (1, .int x1), (2, .int x2), (4, .int x4), (5, .int x5)]) hX dX10_ask_95 rfl (by decide) rfl ?_
            refine jf_iload hX dX10_ask_96 1 rfl ?_
            refine jf_istore (lv' := [(4, .int r5), (3, .int x5), (7, .int r5), (6, .int r3), (0, .ref x0), (1, .int x1), (2, .int x2), (5, .int x5)]) hX dX10_ask_98 (by decide) rfl ?_
            refine jf_iinc (v := 1) (lv' := [(5, .int (x5 + (1 : Int32))), (4, .int r5), (3, .int x5), (7, .int r5), (6, .int r3), (0, .ref x0), (1, .int x1), (2, .int x2)]) hX dX10_ask_100 7 rfl (by decide) (by decide) rfl ?_
            refine jf_goto (tgt := 40) hX dX10_ask_103 (by decide) ?_
            refine jf_lv [5, 6, 7, 2, 1, 0] rfl ?_
            exact hrec40 x0 x1 x2 x5 r5 (x5 + (1 : Int32)) u6
set_option maxRecDepth 20000 in
def fX10_ask (N : Nat)  (a0 : Nat) (p1 : Int32) (u : SG) : Option (Int32 × SG) := if zK u a0 = 11 then (Option.bind (zR u a0 6) fun q1 => (if zK u q1 = 7 then (Option.bind (zR u q1 0) fun q2 => (if zK u q2 = 8 then cl (fX7_isTold N q2 u) fun r3 u4 => (if r3 = 0 then (some ((-1 : Int32), u4))
  else (if p1 < 0 then (some ((-1 : Int32), u4))
  else (if p1 ≤ (1 : Int32) then (if zK u4 a0 = 11 then cl (fX10_setsWith N a0 (0 : Int32) u4) fun r5 u6 => (gX10_ask_40 N  N a0 p1 r5 (-2 : Int32) (-2 : Int32) (0 : Int32) u6) else none)
  else (some ((-1 : Int32), u4))))) else none)) else none)) else none
set_option maxRecDepth 20000 in
set_option maxHeartbeats 4000000 in
theorem kX10_ask  (N : Nat)  (l : Launch) (D : va_G) (cT : Nat → ClassId) (z0 : Nat) (ks : Nat × Nat) (a0 : Nat) (p1 : Int32) (u : SG) : Ct l D cT z0 ks yX10_ask cX10_ask 8 (some .int) 5 0 0 vI [.ref a0, .int p1] u (fX10_ask N  a0 p1 u) := by
  unfold fX10_ask
  refine ct_of (by decide +kernel) (Nat.le_of_ble_eq_true rfl) (fun p e R s m args below meth c hX => ?_)
  show JF _ True 8 0 0 _ 0 [(0, .ref a0), (1, .int p1)] [] u _
  refine jf_aload_n hX dX10_ask_0 0 rfl ?_
  refine jf_getR hX ck_X10 6 wfl_687 (by decide) rfl dX10_ask_1 ?_
  refine jf_nn (fun q1 => ?_)
  refine jf_getR hX ck_X6 0 wfl_717 (by decide) rfl dX10_ask_4 ?_
  refine jf_nn (fun q2 => ?_)
  refine jf_callV (As := []) (st := []) hX mo_X7_isTold wml_761 winst_762 wsel_763 7 ck_X7 rfl (fun l D cT z0 ks => kX7_isTold N l D cT z0 ks q2 u) (by decide) (by decide) (by decide) (by decide) (Nat.le_of_ble_eq_true rfl) rfl rfl dX10_ask_7 (fun r3 u4 => ?_)
  refine jf_if_eq (tgt := 22) hX dX10_ask_10 (by decide) ?_ ?_
  · refine jf_iconst (v := -1) hX dX10_ask_22 (by decide) ?_
    exact jf_iret hX rfl (by decide) (by decide) dX10_ask_23
  · refine jf_iload_n hX dX10_ask_13 1 rfl ?_
    refine jf_if_lt (tgt := 22) hX dX10_ask_14 (by decide) ?_ ?_
    · refine jf_iconst (v := -1) hX dX10_ask_22 (by decide) ?_
      exact jf_iret hX rfl (by decide) (by decide) dX10_ask_23
    · refine jf_iload_n hX dX10_ask_17 1 rfl ?_
      refine jf_iconst (v := 1) hX dX10_ask_18 (by decide) ?_
      refine jf_icmp_le (tgt := 24) hX dX10_ask_19 (by decide) ?_ ?_
      · refine jf_aload_n hX dX10_ask_24 0 rfl ?_
        refine jf_iconst (v := 0) hX dX10_ask_25 (by decide) ?_
        refine jf_callV (As := [.int (0 : Int32)]) (st := []) hX mo_X10_setsWith wml_829 winst_830 wsel_831 10 ck_X10 rfl (fun l D cT z0 ks => kX10_setsWith N l D cT z0 ks a0 (0 : Int32) u4) (by decide) (by decide) (by decide) (by decide) (Nat.le_of_ble_eq_true rfl) rfl rfl dX10_ask_26 (fun r5 u6 => ?_)
        refine jf_istore_n (lv' := [(2, .int r5), (0, .ref a0), (1, .int p1)]) hX dX10_ask_29 rfl (by decide) rfl ?_
        refine jf_bipush (v := -2) hX dX10_ask_30 (by decide) ?_
        refine jf_istore_n (lv' := [(3, .int (-2 : Int32)), (2, .int r5), (0, .ref a0), (1, .int p1)]) hX dX10_ask_32 rfl (by decide) rfl ?_
        refine jf_bipush (v := -2) hX dX10_ask_33 (by decide) ?_
        refine jf_istore (lv' := [(4, .int (-2 : Int32)), (3, .int (-2 : Int32)), (2, .int r5), (0, .ref a0), (1, .int p1)]) hX dX10_ask_35 (by decide) rfl ?_
        refine jf_iconst (v := 0) hX dX10_ask_37 (by decide) ?_
        refine jf_istore (lv' := [(5, .int (0 : Int32)), (4, .int (-2 : Int32)), (3, .int (-2 : Int32)), (2, .int r5), (0, .ref a0), (1, .int p1)]) hX dX10_ask_38 (by decide) rfl ?_
        refine jf_lv [4, 5, 3, 2, 1, 0] rfl ?_
        exact jgX10_ask_40 hX N  N a0 p1 r5 (-2 : Int32) (-2 : Int32) (0 : Int32) u6
      · refine jf_iconst (v := -1) hX dX10_ask_22 (by decide) ?_
        exact jf_iret hX rfl (by decide) (by decide) dX10_ask_23
set_option maxRecDepth 20000 in
def gX10_priceNight_90 (N : Nat)   : Nat → Nat → Int32 → Int32 → Int32 → SG → Option (Int32 × SG)
  | 0, _, _, _, _, _ => none
  | n + 1, x0, x3, x4, x5, u => if (10 : Int32) < x5 then (some (x4, u))
  else (if zK u x0 = 11 then (Option.bind (zR u x0 12) fun q1 => (cl (fJ9_min_7cf53 N x5 x4 u) fun r2 u3 => (if zK u3 x0 = 11 then cl (fX10_cheapestHours N x0 x3 r2 u3) fun r4 u5 => (if zK u5 x0 = 11 then cl (fX10_costOfHours N x0 r4 u5) fun r6 u7 => (if zK u7 q1 = 22 then if x5 < 0 ∨ zN u7 q1 ≤ x5.toNatClampNeg then none else bs (sI u7 q1 x5.toNatClampNeg r6) fun u8 => ((gX10_priceNight_90 N  n) x0 x3 x4 (x5 + (1 : Int32)) u8) else none) else none) else none))) else none)
set_option maxRecDepth 20000 in
set_option maxHeartbeats 4000000 in
theorem jgX10_priceNight_90   {X : XT} (hX : Cx X yX10_priceNight cX10_priceNight 6 (some .int) 3 0 0) (N : Nat)  : ∀ (n : Nat) (x0 : Nat) (x3 : Int32) (x4 : Int32) (x5 : Int32) (u : SG), JF X True 6 0 0 (jQ X vI 0 0) 90 [(0, .ref x0), (3, .int x3), (4, .int x4), (5, .int x5)] [] u (gX10_priceNight_90 N   n x0 x3 x4 x5 u) := by
  intro n
  induction n with
  | zero => intros; intro r u9 h9; exact absurd h9 (by simp [gX10_priceNight_90])
  | succ n ih =>
    intro x0 x3 x4 x5 u
    have hrec90 := ih
    rw [gX10_priceNight_90]
    refine jf_iload hX dX10_priceNight_90 3 rfl ?_
    refine jf_bipush (v := 10) hX dX10_priceNight_92 (by decide) ?_
    refine jf_icmp_gt (tgt := 126) hX dX10_priceNight_94 (by decide) ?_ ?_
    · refine jf_iload hX dX10_priceNight_126 2 rfl ?_
      exact jf_iret hX rfl (by decide) (by decide) dX10_priceNight_128
    · refine jf_aload_n hX dX10_priceNight_97 0 rfl ?_
      refine jf_getR hX ck_X10 12 wfl_706 (by decide) rfl dX10_priceNight_98 ?_
      refine jf_nn (fun q1 => ?_)
      refine jf_iload hX dX10_priceNight_101 3 rfl ?_
      refine jf_aload_n hX dX10_priceNight_103 0 rfl ?_
      refine jf_aload_n hX dX10_priceNight_104 0 rfl ?_
      refine jf_iload_n hX dX10_priceNight_105 1 rfl ?_
      refine jf_iload hX dX10_priceNight_106 3 rfl ?_
      refine jf_iload hX dX10_priceNight_108 2 rfl ?_
      refine jf_callS (As := [.int x5, .int x4]) (st := [.int x3, .ref x0, .ref x0, .int x5, .ref q1]) hX mo_J9_min_7cf53 wml_833 wstat_367 rfl (fun l D cT z0 ks => kJ9_min_7cf53 N l D cT z0 ks x5 x4 u) (by decide) (by decide) (by decide) (by decide) (Nat.le_of_ble_eq_true rfl) rfl rfl dX10_priceNight_110 (fun r2 u3 => ?_)
      refine jf_callV (As := [.int x3, .int r2]) (st := [.ref x0, .int x5, .ref q1]) hX mo_X10_cheapestHours wml_801 winst_802 wsel_803 10 ck_X10 rfl (fun l D cT z0 ks => kX10_cheapestHours N l D cT z0 ks x0 x3 r2 u3) (by decide) (by decide) (by decide) (by decide) (Nat.le_of_ble_eq_true rfl) rfl rfl dX10_priceNight_113 (fun r4 u5 => ?_)
      refine jf_callV (As := [.int r4]) (st := [.int x5, .ref q1]) hX mo_X10_costOfHours wml_804 winst_805 wsel_806 10 ck_X10 rfl (fun l D cT z0 ks => kX10_costOfHours N l D cT z0 ks x0 r4 u5) (by decide) (by decide) (by decide) (by decide) (Nat.le_of_ble_eq_true rfl) rfl rfl dX10_priceNight_116 (fun r6 u7 => ?_)
      refine jf_iast hX trivial dX10_priceNight_119 (fun u8 => ?_)
      refine jf_iinc (v := 1) (lv' := [(5, .int (x5 + (1 : Int32))), (0, .ref x0), (3, .int x3), (4, .int x4)]) hX dX10_priceNight_120 3 rfl (by decide) (by decide) rfl ?_
      refine jf_goto (tgt := 90) hX dX10_priceNight_123 (by decide) ?_
      refine jf_lv [1, 2, 3, 0] rfl ?_
      exact hrec90 x0 x3 x4 (x5 + (1 : Int32)) u8
set_option maxRecDepth 20000 in
def gX10_priceNight_13 (N : Nat)   : Nat → Nat → Int32 → Nat → Int32 → Int32 → SG → Option (Int32 × SG)
  | 0, _, _, _, _, _, _ => none
  | n + 1, x0, x1, x2, x3, x4, u => if (10 : Int32) ≤ x4 then (if zK u x2 = 8 then (Option.bind (zR u x2 0) fun q1 => (if zK u q1 = 22 then if x1 < 0 ∨ zN u q1 ≤ x1.toNatClampNeg then none else (cl (fJ6_bitCount_0f7a4 N x3 u) fun r2 u3 => (cl (fJ9_min_7cf53 N (zI u q1 x1.toNatClampNeg) r2 u3) fun r4 u5 => (gX10_priceNight_90 N  N x0 x3 r4 (0 : Int32) u5))) else none)) else none)
  else (if zK u x0 = 11 then (Option.bind (zR u x0 11) fun q6 => (if zK u x2 = 8 then cl (fX7_litAt N x2 x4 u) fun r7 u8 => (if zK u8 x2 = 8 then cl (fX7_costOf N x2 r7 u8) fun r9 u10 => (if zK u10 q6 = 22 then if x4 < 0 ∨ zN u10 q6 ≤ x4.toNatClampNeg then none else bs (sI u10 q6 x4.toNatClampNeg r9) fun u11 => (if zK u11 x2 = 8 then (if (zI u11 x2 6) ≤ x4 then ((gX10_priceNight_13 N  n) x0 x1 x2 x3 (x4 + (1 : Int32)) u11)
  else (if zK u11 x2 = 8 then cl (fX7_workersAt N x2 x4 u11) fun r12 u13 => (cl (fX10_bitOf N r12 x1 u13) fun r14 u15 => (if r14 = 0 then (bs (x3 ||| ((1 : Int32) <<< (x4 &&& 31))) fun v16 => ((gX10_priceNight_13 N  n) x0 x1 x2 v16 (x4 + (1 : Int32)) u15))
  else ((gX10_priceNight_13 N  n) x0 x1 x2 x3 (x4 + (1 : Int32)) u15))) else none)) else none) else none) else none) else none)) else none)
set_option maxRecDepth 20000 in
set_option maxHeartbeats 4000000 in
theorem jgX10_priceNight_13   {X : XT} (hX : Cx X yX10_priceNight cX10_priceNight 6 (some .int) 3 0 0) (N : Nat)  : ∀ (n : Nat) (x0 : Nat) (x1 : Int32) (x2 : Nat) (x3 : Int32) (x4 : Int32) (u : SG), JF X True 6 0 0 (jQ X vI 0 0) 13 [(0, .ref x0), (1, .int x1), (2, .ref x2), (3, .int x3), (4, .int x4)] [] u (gX10_priceNight_13 N   n x0 x1 x2 x3 x4 u) := by
  intro n
  induction n with
  | zero => intros; intro r u9 h9; exact absurd h9 (by simp [gX10_priceNight_13])
  | succ n ih =>
    intro x0 x1 x2 x3 x4 u
    have hrec13 := ih
    rw [gX10_priceNight_13]
    refine jf_iload hX dX10_priceNight_13 4 rfl ?_
    refine jf_bipush (v := 10) hX dX10_priceNight_15 (by decide) ?_
    refine jf_icmp_ge (tgt := 72) hX dX10_priceNight_17 (by decide) ?_ ?_
    · refine jf_aload_n hX dX10_priceNight_72 2 rfl ?_
      refine jf_getR hX ck_X7 0 wfl_743 (by decide) rfl dX10_priceNight_73 ?_
      refine jf_nn (fun q1 => ?_)
      refine jf_iload_n hX dX10_priceNight_76 1 rfl ?_
      refine jf_iald hX dX10_priceNight_77 ?_
      refine jf_iload_n hX dX10_priceNight_78 3 rfl ?_
      refine jf_callS (As := [.int x3]) (st := [.int (zI u q1 x1.toNatClampNeg)]) hX mo_J6_bitCount_0f7a4 wml_800 wstat_381 rfl (fun l D cT z0 ks => kJ6_bitCount_0f7a4 N l D cT z0 ks x3 u) (by decide) (by decide) (by decide) (by decide) (Nat.le_of_ble_eq_true rfl) rfl rfl dX10_priceNight_79 (fun r2 u3 => ?_)
      refine jf_callS (As := [.int (zI u q1 x1.toNatClampNeg), .int r2]) (st := []) hX mo_J9_min_7cf53 wml_833 wstat_367 rfl (fun l D cT z0 ks => kJ9_min_7cf53 N l D cT z0 ks (zI u q1 x1.toNatClampNeg) r2 u3) (by decide) (by decide) (by decide) (by decide) (Nat.le_of_ble_eq_true rfl) rfl rfl dX10_priceNight_82 (fun r4 u5 => ?_)
      refine jf_istore (lv' := [(4, .int r4), (0, .ref x0), (1, .int x1), (2, .ref x2), (3, .int x3)]) hX dX10_priceNight_85 (by decide) rfl ?_
      refine jf_iconst (v := 0) hX dX10_priceNight_87 (by decide) ?_
      refine jf_istore (lv' := [(5, .int (0 : Int32)), (4, .int r4), (0, .ref x0), (1, .int x1), (2, .ref x2), (3, .int x3)]) hX dX10_priceNight_88 (by decide) rfl ?_
      refine jf_lv [2, 5, 1, 0] rfl ?_
      exact jgX10_priceNight_90 hX N  N x0 x3 r4 (0 : Int32) u5
    · refine jf_aload_n hX dX10_priceNight_20 0 rfl ?_
      refine jf_getR hX ck_X10 11 wfl_705 (by decide) rfl dX10_priceNight_21 ?_
      refine jf_nn (fun q6 => ?_)
      refine jf_iload hX dX10_priceNight_24 4 rfl ?_
      refine jf_aload_n hX dX10_priceNight_26 2 rfl ?_
      refine jf_aload_n hX dX10_priceNight_27 2 rfl ?_
      refine jf_iload hX dX10_priceNight_28 4 rfl ?_
      refine jf_callV (As := [.int x4]) (st := [.ref x2, .int x4, .ref q6]) hX mo_X7_litAt wml_834 winst_390 wsel_391 7 ck_X7 rfl (fun l D cT z0 ks => kX7_litAt N l D cT z0 ks x2 x4 u) (by decide) (by decide) (by decide) (by decide) (Nat.le_of_ble_eq_true rfl) rfl rfl dX10_priceNight_30 (fun r7 u8 => ?_)
      refine jf_callV (As := [.int r7]) (st := [.int x4, .ref q6]) hX mo_X7_costOf wml_807 winst_417 wsel_418 7 ck_X7 rfl (fun l D cT z0 ks => kX7_costOf N l D cT z0 ks x2 r7 u8) (by decide) (by decide) (by decide) (by decide) (Nat.le_of_ble_eq_true rfl) rfl rfl dX10_priceNight_33 (fun r9 u10 => ?_)
      refine jf_iast hX trivial dX10_priceNight_36 (fun u11 => ?_)
      refine jf_iload hX dX10_priceNight_37 4 rfl ?_
      refine jf_aload_n hX dX10_priceNight_39 2 rfl ?_
      refine jf_getI hX ck_X7 6 wfl_808 (by decide) rfl dX10_priceNight_40 ?_
      refine jf_icmp_ge (tgt := 66) hX dX10_priceNight_43 (by decide) ?_ ?_
      · refine jf_iinc (v := 1) (lv' := [(4, .int (x4 + (1 : Int32))), (0, .ref x0), (1, .int x1), (2, .ref x2), (3, .int x3)]) hX dX10_priceNight_66 4 rfl (by decide) (by decide) rfl ?_
        refine jf_goto (tgt := 13) hX dX10_priceNight_69 (by decide) ?_
        refine jf_lv [1, 2, 3, 4, 0] rfl ?_
        exact hrec13 x0 x1 x2 x3 (x4 + (1 : Int32)) u11
      · refine jf_aload_n hX dX10_priceNight_46 2 rfl ?_
        refine jf_iload hX dX10_priceNight_47 4 rfl ?_
        refine jf_callV (As := [.int x4]) (st := []) hX mo_X7_workersAt wml_739 winst_444 wsel_445 7 ck_X7 rfl (fun l D cT z0 ks => kX7_workersAt N l D cT z0 ks x2 x4 u11) (by decide) (by decide) (by decide) (by decide) (Nat.le_of_ble_eq_true rfl) rfl rfl dX10_priceNight_49 (fun r12 u13 => ?_)
        refine jf_iload_n hX dX10_priceNight_52 1 rfl ?_
        refine jf_callS (As := [.int r12, .int x1]) (st := []) hX mo_X10_bitOf wml_746 wstat_383 rfl (fun l D cT z0 ks => kX10_bitOf N l D cT z0 ks r12 x1 u13) (by decide) (by decide) (by decide) (by decide) (Nat.le_of_ble_eq_true rfl) rfl rfl dX10_priceNight_53 (fun r14 u15 => ?_)
        refine jf_if_ne (tgt := 66) hX dX10_priceNight_56 (by decide) ?_ ?_
        · refine jf_iinc (v := 1) (lv' := [(4, .int (x4 + (1 : Int32))), (0, .ref x0), (1, .int x1), (2, .ref x2), (3, .int x3)]) hX dX10_priceNight_66 4 rfl (by decide) (by decide) rfl ?_
          refine jf_goto (tgt := 13) hX dX10_priceNight_69 (by decide) ?_
          refine jf_lv [1, 2, 3, 4, 0] rfl ?_
          exact hrec13 x0 x1 x2 x3 (x4 + (1 : Int32)) u15
        · refine jf_iload_n hX dX10_priceNight_59 3 rfl ?_
          refine jf_iconst (v := 1) hX dX10_priceNight_60 (by decide) ?_
          refine jf_iload hX dX10_priceNight_61 4 rfl ?_
          refine jf_ishl hX dX10_priceNight_63 ?_
          refine jf_ior hX dX10_priceNight_64 ?_
          refine jf_nmI (fun v16 => ?_)
          refine jf_istore_n (lv' := [(3, .int v16), (0, .ref x0), (1, .int x1), (2, .ref x2), (4, .int x4)]) hX dX10_priceNight_65 rfl (by decide) rfl ?_
          refine jf_iinc (v := 1) (lv' := [(4, .int (x4 + (1 : Int32))), (3, .int v16), (0, .ref x0), (1, .int x1), (2, .ref x2)]) hX dX10_priceNight_66 4 rfl (by decide) (by decide) rfl ?_
          refine jf_goto (tgt := 13) hX dX10_priceNight_69 (by decide) ?_
          refine jf_lv [2, 3, 4, 1, 0] rfl ?_
          exact hrec13 x0 x1 x2 v16 (x4 + (1 : Int32)) u15
set_option maxRecDepth 20000 in
def fX10_priceNight (N : Nat)  (a0 : Nat) (p1 : Int32) (u : SG) : Option (Int32 × SG) := if zK u a0 = 11 then (Option.bind (zR u a0 6) fun q1 => (if zK u q1 = 7 then (Option.bind (zR u q1 0) fun q2 => (gX10_priceNight_13 N  N a0 p1 q2 (0 : Int32) (0 : Int32) u)) else none)) else none
set_option maxRecDepth 20000 in
set_option maxHeartbeats 4000000 in
theorem kX10_priceNight  (N : Nat)  (l : Launch) (D : va_G) (cT : Nat → ClassId) (z0 : Nat) (ks : Nat × Nat) (a0 : Nat) (p1 : Int32) (u : SG) : Ct l D cT z0 ks yX10_priceNight cX10_priceNight 6 (some .int) 3 0 0 vI [.ref a0, .int p1] u (fX10_priceNight N  a0 p1 u) := by
  unfold fX10_priceNight
  refine ct_of (by decide +kernel) (Nat.le_of_ble_eq_true rfl) (fun p e R s m args below meth c hX => ?_)
  show JF _ True 6 0 0 _ 0 [(0, .ref a0), (1, .int p1)] [] u _
  refine jf_aload_n hX dX10_priceNight_0 0 rfl ?_
  refine jf_getR hX ck_X10 6 wfl_687 (by decide) rfl dX10_priceNight_1 ?_
  refine jf_nn (fun q1 => ?_)
  refine jf_getR hX ck_X6 0 wfl_717 (by decide) rfl dX10_priceNight_4 ?_
  refine jf_nn (fun q2 => ?_)
  refine jf_astore_n (lv' := [(2, .ref q2), (0, .ref a0), (1, .int p1)]) hX dX10_priceNight_7 rfl (by decide) rfl ?_
  refine jf_iconst (v := 0) hX dX10_priceNight_8 (by decide) ?_
  refine jf_istore_n (lv' := [(3, .int (0 : Int32)), (2, .ref q2), (0, .ref a0), (1, .int p1)]) hX dX10_priceNight_9 rfl (by decide) rfl ?_
  refine jf_iconst (v := 0) hX dX10_priceNight_10 (by decide) ?_
  refine jf_istore (lv' := [(4, .int (0 : Int32)), (3, .int (0 : Int32)), (2, .ref q2), (0, .ref a0), (1, .int p1)]) hX dX10_priceNight_11 (by decide) rfl ?_
  refine jf_lv [3, 4, 2, 1, 0] rfl ?_
  exact jgX10_priceNight_13 hX N  N a0 p1 q2 (0 : Int32) (0 : Int32) u
set_option maxRecDepth 20000 in
def fX10_evenCost (N : Nat)  (a0 : Nat) (p1 : Int32) (p2 : Int32) (u : SG) : Option (Int32 × SG) := if 0 < p1 then (if p1 = 0 then none else (cl (fJ9_min_7cf53 N (p2 / p1) (10 : Int32) u) fun r1 u2 => (if p1 = 0 then none else (bs (p2 - p2 / p1 * p1) fun v3 => (cl (fJ9_min_7cf53 N (r1 + (1 : Int32)) (10 : Int32) u2) fun r4 u5 => (if zK u5 a0 = 11 then (Option.bind (zR u5 a0 12) fun q6 => (if zK u5 q6 = 22 then if r4 < 0 ∨ zN u5 q6 ≤ r4.toNatClampNeg then none else (if zK u5 a0 = 11 then (Option.bind (zR u5 a0 12) fun q7 => (if zK u5 q7 = 22 then if r1 < 0 ∨ zN u5 q7 ≤ r1.toNatClampNeg then none else (some ((v3 * (zI u5 q6 r4.toNatClampNeg)) + ((p1 - v3) * (zI u5 q7 r1.toNatClampNeg)), u5)) else none)) else none) else none)) else none))))))
  else (some ((0 : Int32), u))
set_option maxRecDepth 20000 in
set_option maxHeartbeats 4000000 in
theorem kX10_evenCost  (N : Nat)  (l : Launch) (D : va_G) (cT : Nat → ClassId) (z0 : Nat) (ks : Nat × Nat) (a0 : Nat) (p1 : Int32) (p2 : Int32) (u : SG) : Ct l D cT z0 ks yX10_evenCost cX10_evenCost 6 (some .int) 2 0 0 vI [.ref a0, .int p1, .int p2] u (fX10_evenCost N  a0 p1 p2 u) := by
  unfold fX10_evenCost
  refine ct_of (by decide +kernel) (Nat.le_of_ble_eq_true rfl) (fun p e R s m args below meth c hX => ?_)
  show JF _ True 6 0 0 _ 0 [(0, .ref a0), (1, .int p1), (2, .int p2)] [] u _
  refine jf_iload_n hX dX10_evenCost_0 1 rfl ?_
  refine jf_if_gt (tgt := 6) hX dX10_evenCost_1 (by decide) ?_ ?_
  · refine jf_iload_n hX dX10_evenCost_6 2 rfl ?_
    refine jf_iload_n hX dX10_evenCost_7 1 rfl ?_
    refine jf_idiv hX dX10_evenCost_8 ?_
    refine jf_bipush (v := 10) hX dX10_evenCost_9 (by decide) ?_
    refine jf_callS (As := [.int (p2 / p1), .int (10 : Int32)]) (st := []) hX mo_J9_min_7cf53 wml_833 wstat_367 rfl (fun l D cT z0 ks => kJ9_min_7cf53 N l D cT z0 ks (p2 / p1) (10 : Int32) u) (by decide) (by decide) (by decide) (by decide) (Nat.le_of_ble_eq_true rfl) rfl rfl dX10_evenCost_11 (fun r1 u2 => ?_)
    refine jf_istore_n (lv' := [(3, .int r1), (0, .ref a0), (1, .int p1), (2, .int p2)]) hX dX10_evenCost_14 rfl (by decide) rfl ?_
    refine jf_iload_n hX dX10_evenCost_15 3 rfl ?_
    refine jf_iload_n hX dX10_evenCost_16 2 rfl ?_
    refine jf_irem hX dX10_evenCost_17 ?_
    refine jf_nmI (fun v3 => ?_)
    refine jf_istore (lv' := [(4, .int v3), (3, .int r1), (0, .ref a0), (1, .int p1), (2, .int p2)]) hX dX10_evenCost_18 (by decide) rfl ?_
    refine jf_iload_n hX dX10_evenCost_20 1 rfl ?_
    refine jf_iconst (v := 1) hX dX10_evenCost_21 (by decide) ?_
    refine jf_iadd hX dX10_evenCost_22 ?_
    refine jf_bipush (v := 10) hX dX10_evenCost_23 (by decide) ?_
    refine jf_callS (As := [.int (r1 + (1 : Int32)), .int (10 : Int32)]) (st := []) hX mo_J9_min_7cf53 wml_833 wstat_367 rfl (fun l D cT z0 ks => kJ9_min_7cf53 N l D cT z0 ks (r1 + (1 : Int32)) (10 : Int32) u2) (by decide) (by decide) (by decide) (by decide) (Nat.le_of_ble_eq_true rfl) rfl rfl dX10_evenCost_25 (fun r4 u5 => ?_)
    refine jf_istore (lv' := [(5, .int r4), (4, .int v3), (3, .int r1), (0, .ref a0), (1, .int p1), (2, .int p2)]) hX dX10_evenCost_28 (by decide) rfl ?_
    refine jf_iload hX dX10_evenCost_30 1 rfl ?_
    refine jf_aload_n hX dX10_evenCost_32 3 rfl ?_
    refine jf_getR hX ck_X10 12 wfl_706 (by decide) rfl dX10_evenCost_33 ?_
    refine jf_nn (fun q6 => ?_)
    refine jf_iload hX dX10_evenCost_36 0 rfl ?_
    refine jf_iald hX dX10_evenCost_38 ?_
    refine jf_imul hX dX10_evenCost_39 ?_
    refine jf_iload_n hX dX10_evenCost_40 4 rfl ?_
    refine jf_iload hX dX10_evenCost_41 1 rfl ?_
    refine jf_isub hX dX10_evenCost_43 ?_
    refine jf_aload_n hX dX10_evenCost_44 3 rfl ?_
    refine jf_getR hX ck_X10 12 wfl_706 (by decide) rfl dX10_evenCost_45 ?_
    refine jf_nn (fun q7 => ?_)
    refine jf_iload_n hX dX10_evenCost_48 2 rfl ?_
    refine jf_iald hX dX10_evenCost_49 ?_
    refine jf_imul hX dX10_evenCost_50 ?_
    refine jf_iadd hX dX10_evenCost_51 ?_
    exact jf_iret hX rfl (by decide) (by decide) dX10_evenCost_52
  · refine jf_iconst (v := 0) hX dX10_evenCost_4 (by decide) ?_
    exact jf_iret hX rfl (by decide) (by decide) dX10_evenCost_5
set_option maxRecDepth 20000 in
def gX10_sleepInNight_104 (N : Nat)  (rec9 : Nat → Int32 → Int32 → Int32 → Int32 → Int32 → Int32 → SG → Option (Int32 × SG)) (x0 : Nat) (x1 : Int32) (x3 : Int32) (x4 : Int32) (x5 : Int32) (x6 : Int32) (x7 : Int32) (u : SG) : Option (Int32 × SG) := cl (fJ9_max_7cf53 N (0 : Int32) (x5 - x6) u) fun r1 u2 => (rec9 x0 x1 x3 x4 r1 x6 (x7 + (1 : Int32)) u2)
set_option maxRecDepth 20000 in
set_option maxHeartbeats 4000000 in
theorem jgX10_sleepInNight_104 {rec9 : Nat → Int32 → Int32 → Int32 → Int32 → Int32 → Int32 → SG → Option (Int32 × SG)}  {X : XT} (hX : Cx X yX10_sleepInNight cX10_sleepInNight 11 (some .int) 3 0 0) (N : Nat) (hrec9 : ∀ (x0 : Nat) (x1 : Int32) (x3 : Int32) (x4 : Int32) (x5 : Int32) (x6 : Int32) (x7 : Int32)  (u : SG), JF X True 11 0 0 (jQ X vI 0 0) 9 [(0, .ref x0), (1, .int x1), (3, .int x3), (4, .int x4), (5, .int x5), (6, .int x6), (7, .int x7)] [] u (rec9 x0 x1 x3 x4 x5 x6 x7  u)) (x0 : Nat) (x1 : Int32) (x3 : Int32) (x4 : Int32) (x5 : Int32) (x6 : Int32) (x7 : Int32) (u : SG) : JF X True 11 0 0 (jQ X vI 0 0) 104 [(0, .ref x0), (1, .int x1), (3, .int x3), (4, .int x4), (5, .int x5), (6, .int x6), (7, .int x7)] [] u (gX10_sleepInNight_104 N  rec9 x0 x1 x3 x4 x5 x6 x7 u) := by
  unfold gX10_sleepInNight_104
  refine jf_iconst (v := 0) hX dX10_sleepInNight_104 (by decide) ?_
  refine jf_iload hX dX10_sleepInNight_105 4 rfl ?_
  refine jf_iload hX dX10_sleepInNight_107 5 rfl ?_
  refine jf_isub hX dX10_sleepInNight_109 ?_
  refine jf_callS (As := [.int (0 : Int32), .int (x5 - x6)]) (st := []) hX mo_J9_max_7cf53 wml_832 wstat_396 rfl (fun l D cT z0 ks => kJ9_max_7cf53 N l D cT z0 ks (0 : Int32) (x5 - x6) u) (by decide) (by decide) (by decide) (by decide) (Nat.le_of_ble_eq_true rfl) rfl rfl dX10_sleepInNight_110 (fun r1 u2 => ?_)
  refine jf_istore (lv' := [(5, .int r1), (0, .ref x0), (1, .int x1), (3, .int x3), (4, .int x4), (6, .int x6), (7, .int x7)]) hX dX10_sleepInNight_113 (by decide) rfl ?_
  refine jf_iinc (v := 1) (lv' := [(7, .int (x7 + (1 : Int32))), (5, .int r1), (0, .ref x0), (1, .int x1), (3, .int x3), (4, .int x4), (6, .int x6)]) hX dX10_sleepInNight_115 6 rfl (by decide) (by decide) rfl ?_
  refine jf_goto (tgt := 9) hX dX10_sleepInNight_118 (by decide) ?_
  refine jf_lv [2, 3, 4, 5, 1, 6, 0] rfl ?_
  exact hrec9 x0 x1 x3 x4 r1 x6 (x7 + (1 : Int32)) u2
set_option maxRecDepth 20000 in
def gX10_sleepInNight_52 (N : Nat)  (rec9 : Nat → Int32 → Int32 → Int32 → Int32 → Int32 → Int32 → SG → Option (Int32 × SG)) : Nat → Nat → Int32 → Int32 → Int32 → Int32 → Int32 → Int32 → Int32 → Int32 → Int32 → SG → Option (Int32 × SG)
  | 0, _, _, _, _, _, _, _, _, _, _, _ => none
  | n + 1, x0, x1, x3, x4, x5, x6, x7, x8, x9, x10, u => if x3 ≤ x10 then (gX10_sleepInNight_104 N rec9 x0 x1 x3 x4 x5 x6 x7 u)
  else (if x3 ≤ x6 then (gX10_sleepInNight_104 N rec9 x0 x1 x3 x4 x5 x6 x7 u)
  else (if zK u x0 = 11 then (Option.bind (zR u x0 12) fun q1 => (if zK u q1 = 22 then if x6 < 0 ∨ zN u q1 ≤ x6.toNatClampNeg then none else (cl (fJ9_max_7cf53 N (0 : Int32) (x5 - x6) u) fun r2 u3 => (if zK u3 x0 = 11 then cl (fX10_evenCost N x0 x8 r2 u3) fun r4 u5 => (if x9 < ((zI u q1 x6.toNatClampNeg) + r4) then ((gX10_sleepInNight_52 N rec9 n) x0 x1 x3 x4 x5 (x6 + (1 : Int32)) x7 x8 x9 (x10 + (1 : Int32)) u5)
  else (gX10_sleepInNight_104 N rec9 x0 x1 x3 x4 x5 x6 x7 u5)) else none)) else none)) else none))
set_option maxRecDepth 20000 in
set_option maxHeartbeats 4000000 in
theorem jgX10_sleepInNight_52 {rec9 : Nat → Int32 → Int32 → Int32 → Int32 → Int32 → Int32 → SG → Option (Int32 × SG)}  {X : XT} (hX : Cx X yX10_sleepInNight cX10_sleepInNight 11 (some .int) 3 0 0) (N : Nat) (hrec9 : ∀ (x0 : Nat) (x1 : Int32) (x3 : Int32) (x4 : Int32) (x5 : Int32) (x6 : Int32) (x7 : Int32)  (u : SG), JF X True 11 0 0 (jQ X vI 0 0) 9 [(0, .ref x0), (1, .int x1), (3, .int x3), (4, .int x4), (5, .int x5), (6, .int x6), (7, .int x7)] [] u (rec9 x0 x1 x3 x4 x5 x6 x7  u)) : ∀ (n : Nat) (x0 : Nat) (x1 : Int32) (x3 : Int32) (x4 : Int32) (x5 : Int32) (x6 : Int32) (x7 : Int32) (x8 : Int32) (x9 : Int32) (x10 : Int32) (u : SG), JF X True 11 0 0 (jQ X vI 0 0) 52 [(0, .ref x0), (1, .int x1), (3, .int x3), (4, .int x4), (5, .int x5), (6, .int x6), (7, .int x7), (8, .int x8), (9, .int x9), (10, .int x10)] [] u (gX10_sleepInNight_52 N  rec9 n x0 x1 x3 x4 x5 x6 x7 x8 x9 x10 u) := by
  intro n
  induction n with
  | zero => intros; intro r u9 h9; exact absurd h9 (by simp [gX10_sleepInNight_52])
  | succ n ih =>
    intro x0 x1 x3 x4 x5 x6 x7 x8 x9 x10 u
    have hrec52 := ih
    rw [gX10_sleepInNight_52]
    refine jf_iload hX dX10_sleepInNight_52 9 rfl ?_
    refine jf_iload_n hX dX10_sleepInNight_54 2 rfl ?_
    refine jf_icmp_ge (tgt := 104) hX dX10_sleepInNight_55 (by decide) ?_ ?_
    · refine jf_lv [0, 1, 2, 3, 4, 5, 6] rfl ?_
      exact jgX10_sleepInNight_104 hX N hrec9 x0 x1 x3 x4 x5 x6 x7 u
    · refine jf_iload hX dX10_sleepInNight_58 5 rfl ?_
      refine jf_iload_n hX dX10_sleepInNight_60 2 rfl ?_
      refine jf_icmp_ge (tgt := 104) hX dX10_sleepInNight_61 (by decide) ?_ ?_
      · refine jf_lv [0, 1, 2, 3, 4, 5, 6] rfl ?_
        exact jgX10_sleepInNight_104 hX N hrec9 x0 x1 x3 x4 x5 x6 x7 u
      · refine jf_aload_n hX dX10_sleepInNight_64 0 rfl ?_
        refine jf_getR hX ck_X10 12 wfl_706 (by decide) rfl dX10_sleepInNight_65 ?_
        refine jf_nn (fun q1 => ?_)
        refine jf_iload hX dX10_sleepInNight_68 5 rfl ?_
        refine jf_iald hX dX10_sleepInNight_70 ?_
        refine jf_aload_n hX dX10_sleepInNight_71 0 rfl ?_
        refine jf_iload hX dX10_sleepInNight_72 7 rfl ?_
        refine jf_iconst (v := 0) hX dX10_sleepInNight_74 (by decide) ?_
        refine jf_iload hX dX10_sleepInNight_75 4 rfl ?_
        refine jf_iload hX dX10_sleepInNight_77 5 rfl ?_
        refine jf_isub hX dX10_sleepInNight_79 ?_
        refine jf_callS (As := [.int (0 : Int32), .int (x5 - x6)]) (st := [.int x8, .ref x0, .int (zI u q1 x6.toNatClampNeg)]) hX mo_J9_max_7cf53 wml_832 wstat_396 rfl (fun l D cT z0 ks => kJ9_max_7cf53 N l D cT z0 ks (0 : Int32) (x5 - x6) u) (by decide) (by decide) (by decide) (by decide) (Nat.le_of_ble_eq_true rfl) rfl rfl dX10_sleepInNight_80 (fun r2 u3 => ?_)
        refine jf_callV (As := [.int x8, .int r2]) (st := [.int (zI u q1 x6.toNatClampNeg)]) hX mo_X10_evenCost wml_835 winst_836 wsel_837 10 ck_X10 rfl (fun l D cT z0 ks => kX10_evenCost N l D cT z0 ks x0 x8 r2 u3) (by decide) (by decide) (by decide) (by decide) (Nat.le_of_ble_eq_true rfl) rfl rfl dX10_sleepInNight_83 (fun r4 u5 => ?_)
        refine jf_iadd hX dX10_sleepInNight_86 ?_
        refine jf_iload hX dX10_sleepInNight_87 8 rfl ?_
        refine jf_icmp_gt (tgt := 95) hX dX10_sleepInNight_89 (by decide) ?_ ?_
        · refine jf_iinc (v := 1) (lv' := [(6, .int (x6 + (1 : Int32))), (0, .ref x0), (1, .int x1), (3, .int x3), (4, .int x4), (5, .int x5), (7, .int x7), (8, .int x8), (9, .int x9), (10, .int x10)]) hX dX10_sleepInNight_95 5 rfl (by decide) (by decide) rfl ?_
          refine jf_iinc (v := 1) (lv' := [(10, .int (x10 + (1 : Int32))), (6, .int (x6 + (1 : Int32))), (0, .ref x0), (1, .int x1), (3, .int x3), (4, .int x4), (5, .int x5), (7, .int x7), (8, .int x8), (9, .int x9)]) hX dX10_sleepInNight_98 9 rfl (by decide) (by decide) rfl ?_
          refine jf_goto (tgt := 52) hX dX10_sleepInNight_101 (by decide) ?_
          refine jf_lv [2, 3, 4, 5, 6, 1, 7, 8, 9, 0] rfl ?_
          exact hrec52 x0 x1 x3 x4 x5 (x6 + (1 : Int32)) x7 x8 x9 (x10 + (1 : Int32)) u5
        · refine jf_goto (tgt := 104) hX dX10_sleepInNight_92 (by decide) ?_
          refine jf_lv [0, 1, 2, 3, 4, 5, 6] rfl ?_
          exact jgX10_sleepInNight_104 hX N hrec9 x0 x1 x3 x4 x5 x6 x7 u5
set_option maxRecDepth 20000 in
def gX10_sleepInNight_9 (N : Nat)   : Nat → Nat → Int32 → Int32 → Int32 → Int32 → Int32 → Int32 → SG → Option (Int32 × SG)
  | 0, _, _, _, _, _, _, _, _ => none
  | n + 1, x0, x1, x3, x4, x5, x6, x7, u => if x4 < x7 then (some (x6, u))
  else (bs ((x1 - x7) - (1 : Int32)) fun v1 => (if zK u x0 = 11 then cl (fX10_evenCost N x0 (v1 + (1 : Int32)) x5 u) fun r2 u3 => (cl (fJ9_max_7cf53 N (0 : Int32) (x5 - (v1 * x3)) u3) fun r4 u5 => (gX10_sleepInNight_52 N (gX10_sleepInNight_9 N  n) N x0 x1 x3 x4 x5 r4 x7 v1 r2 (0 : Int32) u5)) else none))
set_option maxRecDepth 20000 in
set_option maxHeartbeats 4000000 in
theorem jgX10_sleepInNight_9   {X : XT} (hX : Cx X yX10_sleepInNight cX10_sleepInNight 11 (some .int) 3 0 0) (N : Nat)  : ∀ (n : Nat) (x0 : Nat) (x1 : Int32) (x3 : Int32) (x4 : Int32) (x5 : Int32) (x6 : Int32) (x7 : Int32) (u : SG), JF X True 11 0 0 (jQ X vI 0 0) 9 [(0, .ref x0), (1, .int x1), (3, .int x3), (4, .int x4), (5, .int x5), (6, .int x6), (7, .int x7)] [] u (gX10_sleepInNight_9 N   n x0 x1 x3 x4 x5 x6 x7 u) := by
  intro n
  induction n with
  | zero => intros; intro r u9 h9; exact absurd h9 (by simp [gX10_sleepInNight_9])
  | succ n ih =>
    intro x0 x1 x3 x4 x5 x6 x7 u
    have hrec9 := ih
    rw [gX10_sleepInNight_9]
    refine jf_iload hX dX10_sleepInNight_9 6 rfl ?_
    refine jf_iload hX dX10_sleepInNight_11 3 rfl ?_
    refine jf_icmp_gt (tgt := 121) hX dX10_sleepInNight_13 (by decide) ?_ ?_
    · refine jf_iload hX dX10_sleepInNight_121 5 rfl ?_
      exact jf_iret hX rfl (by decide) (by decide) dX10_sleepInNight_123
    · refine jf_iload_n hX dX10_sleepInNight_16 1 rfl ?_
      refine jf_iload hX dX10_sleepInNight_17 6 rfl ?_
      refine jf_isub hX dX10_sleepInNight_19 ?_
      refine jf_iconst (v := 1) hX dX10_sleepInNight_20 (by decide) ?_
      refine jf_isub hX dX10_sleepInNight_21 ?_
      refine jf_nmI (fun v1 => ?_)
      refine jf_istore (lv' := [(8, .int v1), (0, .ref x0), (1, .int x1), (3, .int x3), (4, .int x4), (5, .int x5), (6, .int x6), (7, .int x7)]) hX dX10_sleepInNight_22 (by decide) rfl ?_
      refine jf_aload_n hX dX10_sleepInNight_24 1 rfl ?_
      refine jf_iload hX dX10_sleepInNight_25 0 rfl ?_
      refine jf_iconst (v := 1) hX dX10_sleepInNight_27 (by decide) ?_
      refine jf_iadd hX dX10_sleepInNight_28 ?_
      refine jf_iload hX dX10_sleepInNight_29 5 rfl ?_
      refine jf_callV (As := [.int (v1 + (1 : Int32)), .int x5]) (st := []) hX mo_X10_evenCost wml_835 winst_836 wsel_837 10 ck_X10 rfl (fun l D cT z0 ks => kX10_evenCost N l D cT z0 ks x0 (v1 + (1 : Int32)) x5 u) (by decide) (by decide) (by decide) (by decide) (Nat.le_of_ble_eq_true rfl) rfl rfl dX10_sleepInNight_31 (fun r2 u3 => ?_)
      refine jf_istore (lv' := [(9, .int r2), (8, .int v1), (0, .ref x0), (1, .int x1), (3, .int x3), (4, .int x4), (5, .int x5), (6, .int x6), (7, .int x7)]) hX dX10_sleepInNight_34 (by decide) rfl ?_
      refine jf_iconst (v := 0) hX dX10_sleepInNight_36 (by decide) ?_
      refine jf_iload hX dX10_sleepInNight_37 6 rfl ?_
      refine jf_iload hX dX10_sleepInNight_39 1 rfl ?_
      refine jf_iload_n hX dX10_sleepInNight_41 4 rfl ?_
      refine jf_imul hX dX10_sleepInNight_42 ?_
      refine jf_isub hX dX10_sleepInNight_43 ?_
      refine jf_callS (As := [.int (0 : Int32), .int (x5 - (v1 * x3))]) (st := []) hX mo_J9_max_7cf53 wml_832 wstat_396 rfl (fun l D cT z0 ks => kJ9_max_7cf53 N l D cT z0 ks (0 : Int32) (x5 - (v1 * x3)) u3) (by decide) (by decide) (by decide) (by decide) (Nat.le_of_ble_eq_true rfl) rfl rfl dX10_sleepInNight_44 (fun r4 u5 => ?_)
      refine jf_istore (lv' := [(6, .int r4), (9, .int r2), (8, .int v1), (0, .ref x0), (1, .int x1), (3, .int x3), (4, .int x4), (5, .int x5), (7, .int x7)]) hX dX10_sleepInNight_47 (by decide) rfl ?_
      refine jf_iconst (v := 0) hX dX10_sleepInNight_49 (by decide) ?_
      refine jf_istore (lv' := [(10, .int (0 : Int32)), (6, .int r4), (9, .int r2), (8, .int v1), (0, .ref x0), (1, .int x1), (3, .int x3), (4, .int x4), (5, .int x5), (7, .int x7)]) hX dX10_sleepInNight_50 (by decide) rfl ?_
      refine jf_lv [4, 5, 6, 7, 8, 1, 9, 3, 2, 0] rfl ?_
      exact jgX10_sleepInNight_52 hX N hrec9 N x0 x1 x3 x4 x5 r4 x7 v1 r2 (0 : Int32) u5
set_option maxRecDepth 20000 in
def fX10_sleepInNight (N : Nat)  (a0 : Nat) (p1 : Int32) (p2 : Int32) (p3 : Int32) (p4 : Int32) (u : SG) : Option (Int32 × SG) := gX10_sleepInNight_9 N  N a0 p1 p3 p4 p2 (0 : Int32) (0 : Int32) u
set_option maxRecDepth 20000 in
set_option maxHeartbeats 4000000 in
theorem kX10_sleepInNight  (N : Nat)  (l : Launch) (D : va_G) (cT : Nat → ClassId) (z0 : Nat) (ks : Nat × Nat) (a0 : Nat) (p1 : Int32) (p2 : Int32) (p3 : Int32) (p4 : Int32) (u : SG) : Ct l D cT z0 ks yX10_sleepInNight cX10_sleepInNight 11 (some .int) 3 0 0 vI [.ref a0, .int p1, .int p2, .int p3, .int p4] u (fX10_sleepInNight N  a0 p1 p2 p3 p4 u) := by
  unfold fX10_sleepInNight
  refine ct_of (by decide +kernel) (Nat.le_of_ble_eq_true rfl) (fun p e R s m args below meth c hX => ?_)
  show JF _ True 11 0 0 _ 0 [(0, .ref a0), (1, .int p1), (2, .int p2), (3, .int p3), (4, .int p4)] [] u _
  refine jf_iload_n hX dX10_sleepInNight_0 2 rfl ?_
  refine jf_istore (lv' := [(5, .int p2), (0, .ref a0), (1, .int p1), (2, .int p2), (3, .int p3), (4, .int p4)]) hX dX10_sleepInNight_1 (by decide) rfl ?_
  refine jf_iconst (v := 0) hX dX10_sleepInNight_3 (by decide) ?_
  refine jf_istore (lv' := [(6, .int (0 : Int32)), (5, .int p2), (0, .ref a0), (1, .int p1), (2, .int p2), (3, .int p3), (4, .int p4)]) hX dX10_sleepInNight_4 (by decide) rfl ?_
  refine jf_iconst (v := 0) hX dX10_sleepInNight_6 (by decide) ?_
  refine jf_istore (lv' := [(7, .int (0 : Int32)), (6, .int (0 : Int32)), (5, .int p2), (0, .ref a0), (1, .int p1), (2, .int p2), (3, .int p3), (4, .int p4)]) hX dX10_sleepInNight_7 (by decide) rfl ?_
  refine jf_lv [3, 4, 6, 7, 2, 1, 0] rfl ?_
  exact jgX10_sleepInNight_9 hX N  N a0 p1 p3 p4 p2 (0 : Int32) (0 : Int32) u
set_option maxRecDepth 20000 in
def fX10_nights (N : Nat)  (a0 : Nat) (p1 : Int32) (p2 : Int32) (p3 : Int32) (p4 : Int32) (u : SG) : Option (Int32 × SG) := if zK u a0 = 11 then (Option.bind (zR u a0 6) fun q1 => (if zK u q1 = 7 then (Option.bind (zR u q1 0) fun q2 => (if zK u q2 = 8 then cl (fX7_isPerson N q2 p1 u) fun r3 u4 => (if r3 = 0 then (some ((-3 : Int32), u4))
  else (if p2 < (1 : Int32) then (some ((-3 : Int32), u4))
  else (if p2 ≤ (8 : Int32) then (if p3 < 0 then (some ((-3 : Int32), u4))
  else (if (99 : Int32) < p3 then (some ((-3 : Int32), u4))
  else (if p4 < (-1 : Int32) then (some ((-3 : Int32), u4))
  else (if p4 ≤ (7 : Int32) then (if zK u4 a0 = 11 then cl (fX10_priceNight N a0 p1 u4) fun r5 u6 => (if zK u6 a0 = 11 then (Option.bind (zR u6 a0 6) fun q7 => (if zK u6 q7 = 7 then (Option.bind (zR u6 q7 1) fun q8 => (if zK u6 q8 = 3 then (Option.bind (zR u6 q8 6) fun q9 => (if zK u6 q9 = 22 then if p1 < 0 ∨ zN u6 q9 ≤ p1.toNatClampNeg then none else (if zK u6 a0 = 11 then (Option.bind (zR u6 a0 6) fun q10 => (if zK u6 q10 = 7 then (Option.bind (zR u6 q10 0) fun q11 => (if zK u6 q11 = 8 then (Option.bind (zR u6 q11 0) fun q12 => (if zK u6 q12 = 22 then if p1 < 0 ∨ zN u6 q12 ≤ p1.toNatClampNeg then none else (cl (fJ9_max_7cf53 N (0 : Int32) (((zI u6 q9 p1.toNatClampNeg) + (p2 * (zI u6 q12 p1.toNatClampNeg))) - p3) u6) fun r13 u14 => (if (p2 * r5) < r13 then (some ((-2 : Int32), u14))
  else (if p4 < p2 then (if p4 = (-1 : Int32) then (if zK u14 a0 = 11 then cl (fX10_evenCost N a0 p2 r13 u14) fun r17 u18 => (some (r17, u18)) else none)
  else (if zK u14 a0 = 11 then cl (fX10_sleepInNight N a0 p2 r13 r5 p4 u14) fun r15 u16 => (some (r15, u16)) else none))
  else (some ((-2 : Int32), u14))))) else none)) else none)) else none)) else none) else none)) else none)) else none)) else none) else none)
  else (some ((-3 : Int32), u4))))))
  else (some ((-3 : Int32), u4))))) else none)) else none)) else none
set_option maxRecDepth 20000 in
set_option maxHeartbeats 4000000 in
theorem kX10_nights  (N : Nat)  (l : Launch) (D : va_G) (cT : Nat → ClassId) (z0 : Nat) (ks : Nat × Nat) (a0 : Nat) (p1 : Int32) (p2 : Int32) (p3 : Int32) (p4 : Int32) (u : SG) : Ct l D cT z0 ks yX10_nights cX10_nights 7 (some .int) 4 0 0 vI [.ref a0, .int p1, .int p2, .int p3, .int p4] u (fX10_nights N  a0 p1 p2 p3 p4 u) := by
  unfold fX10_nights
  refine ct_of (by decide +kernel) (Nat.le_of_ble_eq_true rfl) (fun p e R s m args below meth c hX => ?_)
  show JF _ True 7 0 0 _ 0 [(0, .ref a0), (1, .int p1), (2, .int p2), (3, .int p3), (4, .int p4)] [] u _
  refine jf_aload_n hX dX10_nights_0 0 rfl ?_
  refine jf_getR hX ck_X10 6 wfl_687 (by decide) rfl dX10_nights_1 ?_
  refine jf_nn (fun q1 => ?_)
  refine jf_getR hX ck_X6 0 wfl_717 (by decide) rfl dX10_nights_4 ?_
  refine jf_nn (fun q2 => ?_)
  refine jf_iload_n hX dX10_nights_7 1 rfl ?_
  refine jf_callV (As := [.int p1]) (st := []) hX mo_X7_isPerson wml_740 winst_741 wsel_742 7 ck_X7 rfl (fun l D cT z0 ks => kX7_isPerson N l D cT z0 ks q2 p1 u) (by decide) (by decide) (by decide) (by decide) (Nat.le_of_ble_eq_true rfl) rfl rfl dX10_nights_8 (fun r3 u4 => ?_)
  refine jf_if_eq (tgt := 25) hX dX10_nights_11 (by decide) ?_ ?_
  · refine jf_bipush (v := -3) hX dX10_nights_25 (by decide) ?_
    exact jf_iret hX rfl (by decide) (by decide) dX10_nights_27
  · refine jf_iload_n hX dX10_nights_14 2 rfl ?_
    refine jf_iconst (v := 1) hX dX10_nights_15 (by decide) ?_
    refine jf_icmp_lt (tgt := 25) hX dX10_nights_16 (by decide) ?_ ?_
    · refine jf_bipush (v := -3) hX dX10_nights_25 (by decide) ?_
      exact jf_iret hX rfl (by decide) (by decide) dX10_nights_27
    · refine jf_iload_n hX dX10_nights_19 2 rfl ?_
      refine jf_bipush (v := 8) hX dX10_nights_20 (by decide) ?_
      refine jf_icmp_le (tgt := 28) hX dX10_nights_22 (by decide) ?_ ?_
      · refine jf_iload_n hX dX10_nights_28 3 rfl ?_
        refine jf_if_lt (tgt := 51) hX dX10_nights_29 (by decide) ?_ ?_
        · refine jf_bipush (v := -3) hX dX10_nights_51 (by decide) ?_
          exact jf_iret hX rfl (by decide) (by decide) dX10_nights_53
        · refine jf_iload_n hX dX10_nights_32 3 rfl ?_
          refine jf_bipush (v := 99) hX dX10_nights_33 (by decide) ?_
          refine jf_icmp_gt (tgt := 51) hX dX10_nights_35 (by decide) ?_ ?_
          · refine jf_bipush (v := -3) hX dX10_nights_51 (by decide) ?_
            exact jf_iret hX rfl (by decide) (by decide) dX10_nights_53
          · refine jf_iload hX dX10_nights_38 4 rfl ?_
            refine jf_iconst (v := -1) hX dX10_nights_40 (by decide) ?_
            refine jf_icmp_lt (tgt := 51) hX dX10_nights_41 (by decide) ?_ ?_
            · refine jf_bipush (v := -3) hX dX10_nights_51 (by decide) ?_
              exact jf_iret hX rfl (by decide) (by decide) dX10_nights_53
            · refine jf_iload hX dX10_nights_44 4 rfl ?_
              refine jf_bipush (v := 7) hX dX10_nights_46 (by decide) ?_
              refine jf_icmp_le (tgt := 54) hX dX10_nights_48 (by decide) ?_ ?_
              · refine jf_aload_n hX dX10_nights_54 0 rfl ?_
                refine jf_iload_n hX dX10_nights_55 1 rfl ?_
                refine jf_callV (As := [.int p1]) (st := []) hX mo_X10_priceNight wml_838 winst_839 wsel_840 10 ck_X10 rfl (fun l D cT z0 ks => kX10_priceNight N l D cT z0 ks a0 p1 u4) (by decide) (by decide) (by decide) (by decide) (Nat.le_of_ble_eq_true rfl) rfl rfl dX10_nights_56 (fun r5 u6 => ?_)
                refine jf_istore (lv' := [(5, .int r5), (0, .ref a0), (1, .int p1), (2, .int p2), (3, .int p3), (4, .int p4)]) hX dX10_nights_59 (by decide) rfl ?_
                refine jf_iconst (v := 0) hX dX10_nights_61 (by decide) ?_
                refine jf_aload_n hX dX10_nights_62 1 rfl ?_
                refine jf_getR hX ck_X10 6 wfl_687 (by decide) rfl dX10_nights_63 ?_
                refine jf_nn (fun q7 => ?_)
                refine jf_getR hX ck_X6 1 wfl_719 (by decide) rfl dX10_nights_66 ?_
                refine jf_nn (fun q8 => ?_)
                refine jf_getR hX ck_X2 6 wfl_748 (by decide) rfl dX10_nights_69 ?_
                refine jf_nn (fun q9 => ?_)
                refine jf_iload_n hX dX10_nights_72 2 rfl ?_
                refine jf_iald hX dX10_nights_73 ?_
                refine jf_iload_n hX dX10_nights_74 3 rfl ?_
                refine jf_aload_n hX dX10_nights_75 1 rfl ?_
                refine jf_getR hX ck_X10 6 wfl_687 (by decide) rfl dX10_nights_76 ?_
                refine jf_nn (fun q10 => ?_)
                refine jf_getR hX ck_X6 0 wfl_717 (by decide) rfl dX10_nights_79 ?_
                refine jf_nn (fun q11 => ?_)
                refine jf_getR hX ck_X7 0 wfl_743 (by decide) rfl dX10_nights_82 ?_
                refine jf_nn (fun q12 => ?_)
                refine jf_iload_n hX dX10_nights_85 2 rfl ?_
                refine jf_iald hX dX10_nights_86 ?_
                refine jf_imul hX dX10_nights_87 ?_
                refine jf_iadd hX dX10_nights_88 ?_
                refine jf_iload_n hX dX10_nights_89 4 rfl ?_
                refine jf_isub hX dX10_nights_90 ?_
                refine jf_callS (As := [.int (0 : Int32), .int (((zI u6 q9 p1.toNatClampNeg) + (p2 * (zI u6 q12 p1.toNatClampNeg))) - p3)]) (st := []) hX mo_J9_max_7cf53 wml_832 wstat_396 rfl (fun l D cT z0 ks => kJ9_max_7cf53 N l D cT z0 ks (0 : Int32) (((zI u6 q9 p1.toNatClampNeg) + (p2 * (zI u6 q12 p1.toNatClampNeg))) - p3) u6) (by decide) (by decide) (by decide) (by decide) (Nat.le_of_ble_eq_true rfl) rfl rfl dX10_nights_91 (fun r13 u14 => ?_)
                refine jf_istore (lv' := [(6, .int r13), (5, .int r5), (0, .ref a0), (1, .int p1), (2, .int p2), (3, .int p3), (4, .int p4)]) hX dX10_nights_94 (by decide) rfl ?_
                refine jf_iload hX dX10_nights_96 0 rfl ?_
                refine jf_iload_n hX dX10_nights_98 4 rfl ?_
                refine jf_iload hX dX10_nights_99 1 rfl ?_
                refine jf_imul hX dX10_nights_101 ?_
                refine jf_icmp_gt (tgt := 111) hX dX10_nights_102 (by decide) ?_ ?_
                · refine jf_bipush (v := -2) hX dX10_nights_111 (by decide) ?_
                  exact jf_iret hX rfl (by decide) (by decide) dX10_nights_113
                · refine jf_iload hX dX10_nights_105 6 rfl ?_
                  refine jf_iload_n hX dX10_nights_107 4 rfl ?_
                  refine jf_icmp_lt (tgt := 114) hX dX10_nights_108 (by decide) ?_ ?_
                  · refine jf_iload hX dX10_nights_114 6 rfl ?_
                    refine jf_iconst (v := -1) hX dX10_nights_116 (by decide) ?_
                    refine jf_icmp_ne (tgt := 130) hX dX10_nights_117 (by decide) ?_ ?_
                    · refine jf_aload_n hX dX10_nights_130 2 rfl ?_
                      refine jf_iload_n hX dX10_nights_131 4 rfl ?_
                      refine jf_iload hX dX10_nights_132 0 rfl ?_
                      refine jf_iload hX dX10_nights_134 1 rfl ?_
                      refine jf_iload hX dX10_nights_136 6 rfl ?_
                      refine jf_callV (As := [.int p2, .int r13, .int r5, .int p4]) (st := []) hX mo_X10_sleepInNight wml_841 winst_842 wsel_843 10 ck_X10 rfl (fun l D cT z0 ks => kX10_sleepInNight N l D cT z0 ks a0 p2 r13 r5 p4 u14) (by decide) (by decide) (by decide) (by decide) (Nat.le_of_ble_eq_true rfl) rfl rfl dX10_nights_138 (fun r15 u16 => ?_)
                      exact jf_iret hX rfl (by decide) (by decide) dX10_nights_141
                    · refine jf_aload_n hX dX10_nights_120 2 rfl ?_
                      refine jf_iload_n hX dX10_nights_121 4 rfl ?_
                      refine jf_iload hX dX10_nights_122 0 rfl ?_
                      refine jf_callV (As := [.int p2, .int r13]) (st := []) hX mo_X10_evenCost wml_835 winst_836 wsel_837 10 ck_X10 rfl (fun l D cT z0 ks => kX10_evenCost N l D cT z0 ks a0 p2 r13 u14) (by decide) (by decide) (by decide) (by decide) (Nat.le_of_ble_eq_true rfl) rfl rfl dX10_nights_124 (fun r17 u18 => ?_)
                      refine jf_goto (tgt := 141) hX dX10_nights_127 (by decide) ?_
                      exact jf_iret hX rfl (by decide) (by decide) dX10_nights_141
                  · refine jf_bipush (v := -2) hX dX10_nights_111 (by decide) ?_
                    exact jf_iret hX rfl (by decide) (by decide) dX10_nights_113
              · refine jf_bipush (v := -3) hX dX10_nights_51 (by decide) ?_
                exact jf_iret hX rfl (by decide) (by decide) dX10_nights_53
      · refine jf_bipush (v := -3) hX dX10_nights_25 (by decide) ?_
        exact jf_iret hX rfl (by decide) (by decide) dX10_nights_27
set_option maxRecDepth 20000 in
def fX10_isSpan (N : Nat)  (p1 : Int32) (u : SG) : Option (Int32 × SG) := if p1 < (1 : Int32) then (some ((0 : Int32), u))
  else (if (60 : Int32) < p1 then (some ((0 : Int32), u))
  else (some ((1 : Int32), u)))
set_option maxRecDepth 20000 in
set_option maxHeartbeats 4000000 in
theorem kX10_isSpan  (N : Nat)  (l : Launch) (D : va_G) (cT : Nat → ClassId) (z0 : Nat) (ks : Nat × Nat) (p1 : Int32) (u : SG) : Ct l D cT z0 ks yX10_isSpan cX10_isSpan 1 (some .boolean) 1 0 0 vI [.int p1] u (fX10_isSpan N  p1 u) := by
  unfold fX10_isSpan
  refine ct_of (by decide +kernel) (Nat.le_of_ble_eq_true rfl) (fun p e R s m args below meth c hX => ?_)
  show JF _ True 1 0 0 _ 0 [(0, .int p1)] [] u _
  refine jf_iload_n hX dX10_isSpan_0 0 rfl ?_
  refine jf_iconst (v := 1) hX dX10_isSpan_1 (by decide) ?_
  refine jf_icmp_lt (tgt := 15) hX dX10_isSpan_2 (by decide) ?_ ?_
  · refine jf_iconst (v := 0) hX dX10_isSpan_15 (by decide) ?_
    exact jf_zretc hX rfl (by decide) (by decide) (by decide) dX10_isSpan_16
  · refine jf_iload_n hX dX10_isSpan_5 0 rfl ?_
    refine jf_bipush (v := 60) hX dX10_isSpan_6 (by decide) ?_
    refine jf_icmp_gt (tgt := 15) hX dX10_isSpan_8 (by decide) ?_ ?_
    · refine jf_iconst (v := 0) hX dX10_isSpan_15 (by decide) ?_
      exact jf_zretc hX rfl (by decide) (by decide) (by decide) dX10_isSpan_16
    · refine jf_iconst (v := 1) hX dX10_isSpan_11 (by decide) ?_
      refine jf_goto (tgt := 16) hX dX10_isSpan_12 (by decide) ?_
      exact jf_zretc hX rfl (by decide) (by decide) (by decide) dX10_isSpan_16
set_option maxRecDepth 20000 in
def gX10_turned_52 (N : Nat)   : Nat → Nat → Int32 → Int32 → Int32 → Int64 → Int32 → SG → Option (Int32 × SG)
  | 0, _, _, _, _, _, _, _ => none
  | n + 1, x0, x1, x2, x3, x4, x6, u => if x2 ≤ x6 then (if zK u x0 = 11 then (Option.bind (zR u x0 10) fun q1 => (if zK u q1 = 3 then (Option.bind (zR u q1 7) fun q2 => (if zK u q2 = 23 then if x1 < 0 ∨ zN u q2 ≤ x1.toNatClampNeg then none else (if zK u x0 = 11 then (Option.bind (zR u x0 6) fun q3 => (if zK u q3 = 7 then (Option.bind (zR u q3 1) fun q4 => (if zK u q4 = 3 then (Option.bind (zR u q4 7) fun q5 => (if zK u q5 = 23 then if x1 < 0 ∨ zN u q5 ≤ x1.toNatClampNeg then none else (bs ((zL u q2 x1.toNatClampNeg) - (zL u q5 x1.toNatClampNeg)) fun v6 => (cl (fX10_fraction N (x4 - v6) (60 : Int64) x3 u) fun r7 u8 => (some (r7, u8)))) else none)) else none)) else none)) else none) else none)) else none)) else none)
  else (if zK u x0 = 11 then (Option.bind (zR u x0 9) fun q9 => (if zK u x0 = 11 then (Option.bind (zR u x0 6) fun q10 => (if zK u q10 = 7 then (Option.bind (zR u q10 0) fun q11 => (if zK u x0 = 11 then (Option.bind (zR u x0 10) fun q12 => (if zK u x0 = 11 then cl (fX10_ruleNow N x0 u) fun r13 u14 => (if zK u14 q9 = 4 then cl (fX3_play N q9 q11 q12 r13 u14) fun r15 u16 => (if zK u16 x0 = 11 then (Option.bind (zR u16 x0 9) fun q17 => (if zK u16 x0 = 11 then (Option.bind (zR u16 x0 6) fun q18 => (if zK u16 q18 = 7 then (Option.bind (zR u16 q18 0) fun q19 => (if zK u16 q17 = 4 then cl (fX3_shareIfWakingPaid N q17 q19 x1 u16) fun r20 u21 => (bs (x4 + r20) fun v22 => ((gX10_turned_52 N  n) x0 x1 x2 x3 v22 (x6 + (1 : Int32)) u21)) else none)) else none)) else none)) else none) else none) else none)) else none)) else none)) else none)) else none)
set_option maxRecDepth 20000 in
set_option maxHeartbeats 4000000 in
theorem jgX10_turned_52   {X : XT} (hX : Cx X yX10_turned cX10_turned 8 (some .int) 6 0 0) (N : Nat)  : ∀ (n : Nat) (x0 : Nat) (x1 : Int32) (x2 : Int32) (x3 : Int32) (x4 : Int64) (x6 : Int32) (u : SG), JF X True 8 0 0 (jQ X vI 0 0) 52 [(0, .ref x0), (1, .int x1), (2, .int x2), (3, .int x3), (4, .long x4), (6, .int x6)] [] u (gX10_turned_52 N   n x0 x1 x2 x3 x4 x6 u) := by
  intro n
  induction n with
  | zero => intros; intro r u9 h9; exact absurd h9 (by simp [gX10_turned_52])
  | succ n ih =>
    intro x0 x1 x2 x3 x4 x6 u
    have hrec52 := ih
    rw [gX10_turned_52]
    refine jf_iload hX dX10_turned_52 5 rfl ?_
    refine jf_iload_n hX dX10_turned_54 2 rfl ?_
    refine jf_icmp_ge (tgt := 107) hX dX10_turned_55 (by decide) ?_ ?_
    · refine jf_aload_n hX dX10_turned_107 0 rfl ?_
      refine jf_getR hX ck_X10 10 wfl_704 (by decide) rfl dX10_turned_108 ?_
      refine jf_nn (fun q1 => ?_)
      refine jf_getR hX ck_X2 7 wfl_790 (by decide) rfl dX10_turned_111 ?_
      refine jf_nn (fun q2 => ?_)
      refine jf_iload_n hX dX10_turned_114 1 rfl ?_
      refine jf_lald hX dX10_turned_115 ?_
      refine jf_aload_n hX dX10_turned_116 0 rfl ?_
      refine jf_getR hX ck_X10 6 wfl_687 (by decide) rfl dX10_turned_117 ?_
      refine jf_nn (fun q3 => ?_)
      refine jf_getR hX ck_X6 1 wfl_719 (by decide) rfl dX10_turned_120 ?_
      refine jf_nn (fun q4 => ?_)
      refine jf_getR hX ck_X2 7 wfl_790 (by decide) rfl dX10_turned_123 ?_
      refine jf_nn (fun q5 => ?_)
      refine jf_iload_n hX dX10_turned_126 1 rfl ?_
      refine jf_lald hX dX10_turned_127 ?_
      refine jf_lsub hX dX10_turned_128 ?_
      refine jf_nmL (fun v6 => ?_)
      refine jf_lstore (lv' := [(6, .long v6), (0, .ref x0), (1, .int x1), (2, .int x2), (3, .int x3), (4, .long x4)]) hX dX10_turned_129 (by decide) rfl ?_
      refine jf_lload hX dX10_turned_131 5 rfl ?_
      refine jf_lload hX dX10_turned_133 0 rfl ?_
      refine jf_lsub hX dX10_turned_135 ?_
      refine jf_ldc2 (v := 60) hX dX10_turned_136 wconl_793 ?_
      refine jf_iload_n hX dX10_turned_139 4 rfl ?_
      refine jf_callS (As := [.long (x4 - v6), .long (60 : Int64), .int x3]) (st := []) hX mo_X10_fraction wml_794 wstat_795 rfl (fun l D cT z0 ks => kX10_fraction N l D cT z0 ks (x4 - v6) (60 : Int64) x3 u) (by decide) (by decide) (by decide) (by decide) (Nat.le_of_ble_eq_true rfl) rfl rfl dX10_turned_140 (fun r7 u8 => ?_)
      exact jf_iret hX rfl (by decide) (by decide) dX10_turned_143
    · refine jf_aload_n hX dX10_turned_58 0 rfl ?_
      refine jf_getR hX ck_X10 9 wfl_701 (by decide) rfl dX10_turned_59 ?_
      refine jf_nn (fun q9 => ?_)
      refine jf_aload_n hX dX10_turned_62 0 rfl ?_
      refine jf_getR hX ck_X10 6 wfl_687 (by decide) rfl dX10_turned_63 ?_
      refine jf_nn (fun q10 => ?_)
      refine jf_getR hX ck_X6 0 wfl_717 (by decide) rfl dX10_turned_66 ?_
      refine jf_nn (fun q11 => ?_)
      refine jf_aload_n hX dX10_turned_69 0 rfl ?_
      refine jf_getR hX ck_X10 10 wfl_704 (by decide) rfl dX10_turned_70 ?_
      refine jf_nn (fun q12 => ?_)
      refine jf_aload_n hX dX10_turned_73 0 rfl ?_
      refine jf_callV (As := []) (st := [.ref q12, .ref q11, .ref q9]) hX mo_X10_ruleNow wml_770 winst_771 wsel_772 10 ck_X10 rfl (fun l D cT z0 ks => kX10_ruleNow N l D cT z0 ks x0 u) (by decide) (by decide) (by decide) (by decide) (Nat.le_of_ble_eq_true rfl) rfl rfl dX10_turned_74 (fun r13 u14 => ?_)
      refine jf_callV (As := [.ref q11, .ref q12, va_rf r13]) (st := []) hX mo_X3_play wml_773 winst_774 wsel_775 3 ck_X3 rfl (fun l D cT z0 ks => kX3_play N l D cT z0 ks q9 q11 q12 r13 u14) (by decide) (by decide) (by decide) (by decide) (Nat.le_of_ble_eq_true rfl) rfl rfl dX10_turned_77 (fun r15 u16 => ?_)
      refine jf_pop hX dX10_turned_80 rfl ?_
      refine jf_lload hX dX10_turned_81 4 rfl ?_
      refine jf_aload_n hX dX10_turned_83 0 rfl ?_
      refine jf_getR hX ck_X10 9 wfl_701 (by decide) rfl dX10_turned_84 ?_
      refine jf_nn (fun q17 => ?_)
      refine jf_aload_n hX dX10_turned_87 0 rfl ?_
      refine jf_getR hX ck_X10 6 wfl_687 (by decide) rfl dX10_turned_88 ?_
      refine jf_nn (fun q18 => ?_)
      refine jf_getR hX ck_X6 0 wfl_717 (by decide) rfl dX10_turned_91 ?_
      refine jf_nn (fun q19 => ?_)
      refine jf_iload_n hX dX10_turned_94 1 rfl ?_
      refine jf_callV (As := [.ref q19, .int x1]) (st := [.long x4]) hX mo_X3_shareIfWakingPaid wml_847 winst_848 wsel_849 3 ck_X3 rfl (fun l D cT z0 ks => kX3_shareIfWakingPaid N l D cT z0 ks q17 q19 x1 u16) (by decide) (by decide) (by decide) (by decide) (Nat.le_of_ble_eq_true rfl) rfl rfl dX10_turned_95 (fun r20 u21 => ?_)
      refine jf_ladd hX dX10_turned_98 ?_
      refine jf_nmL (fun v22 => ?_)
      refine jf_lstore (lv' := [(4, .long v22), (0, .ref x0), (1, .int x1), (2, .int x2), (3, .int x3), (6, .int x6)]) hX dX10_turned_99 (by decide) rfl ?_
      refine jf_iinc (v := 1) (lv' := [(6, .int (x6 + (1 : Int32))), (4, .long v22), (0, .ref x0), (1, .int x1), (2, .int x2), (3, .int x3)]) hX dX10_turned_101 5 rfl (by decide) (by decide) rfl ?_
      refine jf_goto (tgt := 52) hX dX10_turned_104 (by decide) ?_
      refine jf_lv [2, 3, 4, 5, 1, 0] rfl ?_
      exact hrec52 x0 x1 x2 x3 v22 (x6 + (1 : Int32)) u21
set_option maxRecDepth 20000 in
def fX10_turned (N : Nat)  (a0 : Nat) (p1 : Int32) (p2 : Int32) (p3 : Int32) (u : SG) : Option (Int32 × SG) := if zK u a0 = 11 then (Option.bind (zR u a0 6) fun q1 => (if zK u q1 = 7 then (Option.bind (zR u q1 0) fun q2 => (if zK u q2 = 8 then cl (fX7_isPerson N q2 p1 u) fun r3 u4 => (if r3 = 0 then (some ((-1000000 : Int32), u4))
  else (cl (fX10_isSpan N p2 u4) fun r5 u6 => (if r5 = 0 then (some ((-1000000 : Int32), u6))
  else (cl (fX10_isPart N p3 u6) fun r7 u8 => (if r7 = 0 then (some ((-1000000 : Int32), u8))
  else (if zK u8 a0 = 11 then (Option.bind (zR u8 a0 10) fun q9 => (if zK u8 a0 = 11 then (Option.bind (zR u8 a0 6) fun q10 => (if zK u8 q10 = 7 then (Option.bind (zR u8 q10 1) fun q11 => (if zK u8 q9 = 3 then cl (fX2_copyOf N q9 q11 u8) fun r12 u13 => (gX10_turned_52 N  N a0 p1 p2 p3 (0 : Int64) (0 : Int32) u13) else none)) else none)) else none)) else none)))))) else none)) else none)) else none
set_option maxRecDepth 20000 in
set_option maxHeartbeats 4000000 in
theorem kX10_turned  (N : Nat)  (l : Launch) (D : va_G) (cT : Nat → ClassId) (z0 : Nat) (ks : Nat × Nat) (a0 : Nat) (p1 : Int32) (p2 : Int32) (p3 : Int32) (u : SG) : Ct l D cT z0 ks yX10_turned cX10_turned 8 (some .int) 6 0 0 vI [.ref a0, .int p1, .int p2, .int p3] u (fX10_turned N  a0 p1 p2 p3 u) := by
  unfold fX10_turned
  refine ct_of (by decide +kernel) (Nat.le_of_ble_eq_true rfl) (fun p e R s m args below meth c hX => ?_)
  show JF _ True 8 0 0 _ 0 [(0, .ref a0), (1, .int p1), (2, .int p2), (3, .int p3)] [] u _
  refine jf_aload_n hX dX10_turned_0 0 rfl ?_
  refine jf_getR hX ck_X10 6 wfl_687 (by decide) rfl dX10_turned_1 ?_
  refine jf_nn (fun q1 => ?_)
  refine jf_getR hX ck_X6 0 wfl_717 (by decide) rfl dX10_turned_4 ?_
  refine jf_nn (fun q2 => ?_)
  refine jf_iload_n hX dX10_turned_7 1 rfl ?_
  refine jf_callV (As := [.int p1]) (st := []) hX mo_X7_isPerson wml_740 winst_741 wsel_742 7 ck_X7 rfl (fun l D cT z0 ks => kX7_isPerson N l D cT z0 ks q2 p1 u) (by decide) (by decide) (by decide) (by decide) (Nat.le_of_ble_eq_true rfl) rfl rfl dX10_turned_8 (fun r3 u4 => ?_)
  refine jf_if_eq (tgt := 28) hX dX10_turned_11 (by decide) ?_ ?_
  · refine jf_ldcw (v := -1000000) hX dX10_turned_28 wcon_844 ?_
    exact jf_iret hX rfl (by decide) (by decide) dX10_turned_31
  · refine jf_iload_n hX dX10_turned_14 2 rfl ?_
    refine jf_callS (As := [.int p2]) (st := []) hX mo_X10_isSpan wml_845 wstat_846 rfl (fun l D cT z0 ks => kX10_isSpan N l D cT z0 ks p2 u4) (by decide) (by decide) (by decide) (by decide) (Nat.le_of_ble_eq_true rfl) rfl rfl dX10_turned_15 (fun r5 u6 => ?_)
    refine jf_if_eq (tgt := 28) hX dX10_turned_18 (by decide) ?_ ?_
    · refine jf_ldcw (v := -1000000) hX dX10_turned_28 wcon_844 ?_
      exact jf_iret hX rfl (by decide) (by decide) dX10_turned_31
    · refine jf_iload_n hX dX10_turned_21 3 rfl ?_
      refine jf_callS (As := [.int p3]) (st := []) hX mo_X10_isPart wml_788 wstat_789 rfl (fun l D cT z0 ks => kX10_isPart N l D cT z0 ks p3 u6) (by decide) (by decide) (by decide) (by decide) (Nat.le_of_ble_eq_true rfl) rfl rfl dX10_turned_22 (fun r7 u8 => ?_)
      refine jf_if_ne (tgt := 32) hX dX10_turned_25 (by decide) ?_ ?_
      · refine jf_aload_n hX dX10_turned_32 0 rfl ?_
        refine jf_getR hX ck_X10 10 wfl_704 (by decide) rfl dX10_turned_33 ?_
        refine jf_nn (fun q9 => ?_)
        refine jf_aload_n hX dX10_turned_36 0 rfl ?_
        refine jf_getR hX ck_X10 6 wfl_687 (by decide) rfl dX10_turned_37 ?_
        refine jf_nn (fun q10 => ?_)
        refine jf_getR hX ck_X6 1 wfl_719 (by decide) rfl dX10_turned_40 ?_
        refine jf_nn (fun q11 => ?_)
        refine jf_callV (As := [.ref q11]) (st := []) hX mo_X2_copyOf wml_796 winst_364 wsel_365 2 ck_X2 rfl (fun l D cT z0 ks => kX2_copyOf N l D cT z0 ks q9 q11 u8) (by decide) (by decide) (by decide) (by decide) (Nat.le_of_ble_eq_true rfl) rfl rfl dX10_turned_43 (fun r12 u13 => ?_)
        refine jf_lconst (v := 0) hX dX10_turned_46 (by decide) ?_
        refine jf_lstore (lv' := [(4, .long (0 : Int64)), (0, .ref a0), (1, .int p1), (2, .int p2), (3, .int p3)]) hX dX10_turned_47 (by decide) rfl ?_
        refine jf_iconst (v := 0) hX dX10_turned_49 (by decide) ?_
        refine jf_istore (lv' := [(6, .int (0 : Int32)), (4, .long (0 : Int64)), (0, .ref a0), (1, .int p1), (2, .int p2), (3, .int p3)]) hX dX10_turned_50 (by decide) rfl ?_
        refine jf_lv [2, 3, 4, 5, 1, 0] rfl ?_
        exact jgX10_turned_52 hX N  N a0 p1 p2 p3 (0 : Int64) (0 : Int32) u13
      · refine jf_ldcw (v := -1000000) hX dX10_turned_28 wcon_844 ?_
        exact jf_iret hX rfl (by decide) (by decide) dX10_turned_31
set_option maxRecDepth 20000 in
def fX10_spite (N : Nat)  (a0 : Nat) (p1 : Int32) (p2 : Int32) (p3 : Int32) (p4 : Int32) (u : SG) : Option (Int32 × SG) := if zK u a0 = 11 then (Option.bind (zR u a0 6) fun q1 => (if zK u q1 = 7 then (Option.bind (zR u q1 0) fun q2 => (if zK u q2 = 8 then cl (fX7_isLamp N q2 p1 u) fun r3 u4 => (if r3 = 0 then (some ((-1000000 : Int32), u4))
  else (if zK u4 a0 = 11 then cl (fX10_isDebtor N a0 p2 u4) fun r5 u6 => (if r5 = 0 then (some ((-1000000 : Int32), u6))
  else (cl (fX10_isSpan N p3 u6) fun r7 u8 => (if r7 = 0 then (some ((-1000000 : Int32), u8))
  else (cl (fX10_isPart N p4 u8) fun r9 u10 => (if r9 = 0 then (some ((-1000000 : Int32), u10))
  else (cl (fX10_debtorRow N p2 u10) fun r11 u12 => (if zK u12 a0 = 11 then (Option.bind (zR u12 a0 10) fun q13 => (if zK u12 a0 = 11 then (Option.bind (zR u12 a0 6) fun q14 => (if zK u12 q14 = 7 then (Option.bind (zR u12 q14 1) fun q15 => (if zK u12 q13 = 3 then cl (fX2_copyOf N q13 q15 u12) fun r16 u17 => (if zK u17 a0 = 11 then (Option.bind (zR u17 a0 10) fun q18 => (if zK u17 q18 = 3 then cl (fX2_setLamp N q18 p1 (1 : Int32) u17) fun r19 u20 => (if zK u20 a0 = 11 then cl (fX10_playTrial N a0 p3 u20) fun r21 u22 => (if zK u22 a0 = 11 then (Option.bind (zR u22 a0 10) fun q23 => (if zK u22 q23 = 3 then (Option.bind (zR u22 q23 7) fun q24 => (if zK u22 q24 = 23 then if r11 < 0 ∨ zN u22 q24 ≤ r11.toNatClampNeg then none else (bs (zL u22 q24 r11.toNatClampNeg) fun v25 => (if zK u22 a0 = 11 then (Option.bind (zR u22 a0 10) fun q26 => (if zK u22 a0 = 11 then (Option.bind (zR u22 a0 6) fun q27 => (if zK u22 q27 = 7 then (Option.bind (zR u22 q27 1) fun q28 => (if zK u22 q26 = 3 then cl (fX2_copyOf N q26 q28 u22) fun r29 u30 => (if zK u30 a0 = 11 then (Option.bind (zR u30 a0 10) fun q31 => (if zK u30 q31 = 3 then cl (fX2_setLamp N q31 p1 (0 : Int32) u30) fun r32 u33 => (if zK u33 a0 = 11 then cl (fX10_playTrial N a0 p3 u33) fun r34 u35 => (if zK u35 a0 = 11 then (Option.bind (zR u35 a0 10) fun q36 => (if zK u35 q36 = 3 then (Option.bind (zR u35 q36 7) fun q37 => (if zK u35 q37 = 23 then if r11 < 0 ∨ zN u35 q37 ≤ r11.toNatClampNeg then none else (cl (fX10_fraction N (v25 - (zL u35 q37 r11.toNatClampNeg)) (60 : Int64) p4 u35) fun r38 u39 => (some (r38, u39))) else none)) else none)) else none) else none) else none)) else none) else none)) else none)) else none)) else none)) else none)) else none)) else none) else none) else none)) else none) else none)) else none)) else none)) else none))))))) else none)) else none)) else none)) else none
set_option maxRecDepth 20000 in
set_option maxHeartbeats 4000000 in
theorem kX10_spite  (N : Nat)  (l : Launch) (D : va_G) (cT : Nat → ClassId) (z0 : Nat) (ks : Nat × Nat) (a0 : Nat) (p1 : Int32) (p2 : Int32) (p3 : Int32) (p4 : Int32) (u : SG) : Ct l D cT z0 ks yX10_spite cX10_spite 8 (some .int) 7 0 0 vI [.ref a0, .int p1, .int p2, .int p3, .int p4] u (fX10_spite N  a0 p1 p2 p3 p4 u) := by
  unfold fX10_spite
  refine ct_of (by decide +kernel) (Nat.le_of_ble_eq_true rfl) (fun p e R s m args below meth c hX => ?_)
  show JF _ True 8 0 0 _ 0 [(0, .ref a0), (1, .int p1), (2, .int p2), (3, .int p3), (4, .int p4)] [] u _
  refine jf_aload_n hX dX10_spite_0 0 rfl ?_
  refine jf_getR hX ck_X10 6 wfl_687 (by decide) rfl dX10_spite_1 ?_
  refine jf_nn (fun q1 => ?_)
  refine jf_getR hX ck_X6 0 wfl_717 (by decide) rfl dX10_spite_4 ?_
  refine jf_nn (fun q2 => ?_)
  refine jf_iload_n hX dX10_spite_7 1 rfl ?_
  refine jf_callV (As := [.int p1]) (st := []) hX mo_X7_isLamp wml_753 winst_754 wsel_755 7 ck_X7 rfl (fun l D cT z0 ks => kX7_isLamp N l D cT z0 ks q2 p1 u) (by decide) (by decide) (by decide) (by decide) (Nat.le_of_ble_eq_true rfl) rfl rfl dX10_spite_8 (fun r3 u4 => ?_)
  refine jf_if_eq (tgt := 37) hX dX10_spite_11 (by decide) ?_ ?_
  · refine jf_ldcw (v := -1000000) hX dX10_spite_37 wcon_844 ?_
    exact jf_iret hX rfl (by decide) (by decide) dX10_spite_40
  · refine jf_aload_n hX dX10_spite_14 0 rfl ?_
    refine jf_iload_n hX dX10_spite_15 2 rfl ?_
    refine jf_callV (As := [.int p2]) (st := []) hX mo_X10_isDebtor wml_785 winst_786 wsel_787 10 ck_X10 rfl (fun l D cT z0 ks => kX10_isDebtor N l D cT z0 ks a0 p2 u4) (by decide) (by decide) (by decide) (by decide) (Nat.le_of_ble_eq_true rfl) rfl rfl dX10_spite_16 (fun r5 u6 => ?_)
    refine jf_if_eq (tgt := 37) hX dX10_spite_19 (by decide) ?_ ?_
    · refine jf_ldcw (v := -1000000) hX dX10_spite_37 wcon_844 ?_
      exact jf_iret hX rfl (by decide) (by decide) dX10_spite_40
    · refine jf_iload_n hX dX10_spite_22 3 rfl ?_
      refine jf_callS (As := [.int p3]) (st := []) hX mo_X10_isSpan wml_845 wstat_846 rfl (fun l D cT z0 ks => kX10_isSpan N l D cT z0 ks p3 u6) (by decide) (by decide) (by decide) (by decide) (Nat.le_of_ble_eq_true rfl) rfl rfl dX10_spite_23 (fun r7 u8 => ?_)
      refine jf_if_eq (tgt := 37) hX dX10_spite_26 (by decide) ?_ ?_
      · refine jf_ldcw (v := -1000000) hX dX10_spite_37 wcon_844 ?_
        exact jf_iret hX rfl (by decide) (by decide) dX10_spite_40
      · refine jf_iload hX dX10_spite_29 4 rfl ?_
        refine jf_callS (As := [.int p4]) (st := []) hX mo_X10_isPart wml_788 wstat_789 rfl (fun l D cT z0 ks => kX10_isPart N l D cT z0 ks p4 u8) (by decide) (by decide) (by decide) (by decide) (Nat.le_of_ble_eq_true rfl) rfl rfl dX10_spite_31 (fun r9 u10 => ?_)
        refine jf_if_ne (tgt := 41) hX dX10_spite_34 (by decide) ?_ ?_
        · refine jf_iload_n hX dX10_spite_41 2 rfl ?_
          refine jf_callS (As := [.int p2]) (st := []) hX mo_X10_debtorRow wml_791 wstat_792 rfl (fun l D cT z0 ks => kX10_debtorRow N l D cT z0 ks p2 u10) (by decide) (by decide) (by decide) (by decide) (Nat.le_of_ble_eq_true rfl) rfl rfl dX10_spite_42 (fun r11 u12 => ?_)
          refine jf_istore (lv' := [(5, .int r11), (0, .ref a0), (1, .int p1), (2, .int p2), (3, .int p3), (4, .int p4)]) hX dX10_spite_45 (by decide) rfl ?_
          refine jf_aload_n hX dX10_spite_47 1 rfl ?_
          refine jf_getR hX ck_X10 10 wfl_704 (by decide) rfl dX10_spite_48 ?_
          refine jf_nn (fun q13 => ?_)
          refine jf_aload_n hX dX10_spite_51 1 rfl ?_
          refine jf_getR hX ck_X10 6 wfl_687 (by decide) rfl dX10_spite_52 ?_
          refine jf_nn (fun q14 => ?_)
          refine jf_getR hX ck_X6 1 wfl_719 (by decide) rfl dX10_spite_55 ?_
          refine jf_nn (fun q15 => ?_)
          refine jf_callV (As := [.ref q15]) (st := []) hX mo_X2_copyOf wml_796 winst_364 wsel_365 2 ck_X2 rfl (fun l D cT z0 ks => kX2_copyOf N l D cT z0 ks q13 q15 u12) (by decide) (by decide) (by decide) (by decide) (Nat.le_of_ble_eq_true rfl) rfl rfl dX10_spite_58 (fun r16 u17 => ?_)
          refine jf_aload_n hX dX10_spite_61 1 rfl ?_
          refine jf_getR hX ck_X10 10 wfl_704 (by decide) rfl dX10_spite_62 ?_
          refine jf_nn (fun q18 => ?_)
          refine jf_iload_n hX dX10_spite_65 2 rfl ?_
          refine jf_iconst (v := 1) hX dX10_spite_66 (by decide) ?_
          refine jf_callV (As := [.int p1, .int (1 : Int32)]) (st := []) hX mo_X2_setLamp wml_776 winst_777 wsel_778 2 ck_X2 rfl (fun l D cT z0 ks => kX2_setLamp N l D cT z0 ks q18 p1 (1 : Int32) u17) (by decide) (by decide) (by decide) (by decide) (Nat.le_of_ble_eq_true rfl) rfl rfl dX10_spite_67 (fun r19 u20 => ?_)
          refine jf_aload_n hX dX10_spite_70 1 rfl ?_
          refine jf_iload_n hX dX10_spite_71 4 rfl ?_
          refine jf_callV (As := [.int p3]) (st := []) hX mo_X10_playTrial wml_797 winst_798 wsel_799 10 ck_X10 rfl (fun l D cT z0 ks => kX10_playTrial N l D cT z0 ks a0 p3 u20) (by decide) (by decide) (by decide) (by decide) (Nat.le_of_ble_eq_true rfl) rfl rfl dX10_spite_72 (fun r21 u22 => ?_)
          refine jf_aload_n hX dX10_spite_75 1 rfl ?_
          refine jf_getR hX ck_X10 10 wfl_704 (by decide) rfl dX10_spite_76 ?_
          refine jf_nn (fun q23 => ?_)
          refine jf_getR hX ck_X2 7 wfl_790 (by decide) rfl dX10_spite_79 ?_
          refine jf_nn (fun q24 => ?_)
          refine jf_iload hX dX10_spite_82 0 rfl ?_
          refine jf_lald hX dX10_spite_84 ?_
          refine jf_nmL (fun v25 => ?_)
          refine jf_lstore (lv' := [(6, .long v25), (5, .int r11), (0, .ref a0), (1, .int p1), (2, .int p2), (3, .int p3), (4, .int p4)]) hX dX10_spite_85 (by decide) rfl ?_
          refine jf_aload_n hX dX10_spite_87 2 rfl ?_
          refine jf_getR hX ck_X10 10 wfl_704 (by decide) rfl dX10_spite_88 ?_
          refine jf_nn (fun q26 => ?_)
          refine jf_aload_n hX dX10_spite_91 2 rfl ?_
          refine jf_getR hX ck_X10 6 wfl_687 (by decide) rfl dX10_spite_92 ?_
          refine jf_nn (fun q27 => ?_)
          refine jf_getR hX ck_X6 1 wfl_719 (by decide) rfl dX10_spite_95 ?_
          refine jf_nn (fun q28 => ?_)
          refine jf_callV (As := [.ref q28]) (st := []) hX mo_X2_copyOf wml_796 winst_364 wsel_365 2 ck_X2 rfl (fun l D cT z0 ks => kX2_copyOf N l D cT z0 ks q26 q28 u22) (by decide) (by decide) (by decide) (by decide) (Nat.le_of_ble_eq_true rfl) rfl rfl dX10_spite_98 (fun r29 u30 => ?_)
          refine jf_aload_n hX dX10_spite_101 2 rfl ?_
          refine jf_getR hX ck_X10 10 wfl_704 (by decide) rfl dX10_spite_102 ?_
          refine jf_nn (fun q31 => ?_)
          refine jf_iload_n hX dX10_spite_105 3 rfl ?_
          refine jf_iconst (v := 0) hX dX10_spite_106 (by decide) ?_
          refine jf_callV (As := [.int p1, .int (0 : Int32)]) (st := []) hX mo_X2_setLamp wml_776 winst_777 wsel_778 2 ck_X2 rfl (fun l D cT z0 ks => kX2_setLamp N l D cT z0 ks q31 p1 (0 : Int32) u30) (by decide) (by decide) (by decide) (by decide) (Nat.le_of_ble_eq_true rfl) rfl rfl dX10_spite_107 (fun r32 u33 => ?_)
          refine jf_aload_n hX dX10_spite_110 2 rfl ?_
          refine jf_iload_n hX dX10_spite_111 5 rfl ?_
          refine jf_callV (As := [.int p3]) (st := []) hX mo_X10_playTrial wml_797 winst_798 wsel_799 10 ck_X10 rfl (fun l D cT z0 ks => kX10_playTrial N l D cT z0 ks a0 p3 u33) (by decide) (by decide) (by decide) (by decide) (Nat.le_of_ble_eq_true rfl) rfl rfl dX10_spite_112 (fun r34 u35 => ?_)
          refine jf_lload hX dX10_spite_115 0 rfl ?_
          refine jf_aload_n hX dX10_spite_117 2 rfl ?_
          refine jf_getR hX ck_X10 10 wfl_704 (by decide) rfl dX10_spite_118 ?_
          refine jf_nn (fun q36 => ?_)
          refine jf_getR hX ck_X2 7 wfl_790 (by decide) rfl dX10_spite_121 ?_
          refine jf_nn (fun q37 => ?_)
          refine jf_iload hX dX10_spite_124 1 rfl ?_
          refine jf_lald hX dX10_spite_126 ?_
          refine jf_lsub hX dX10_spite_127 ?_
          refine jf_ldc2 (v := 60) hX dX10_spite_128 wconl_793 ?_
          refine jf_iload hX dX10_spite_131 6 rfl ?_
          refine jf_callS (As := [.long (v25 - (zL u35 q37 r11.toNatClampNeg)), .long (60 : Int64), .int p4]) (st := []) hX mo_X10_fraction wml_794 wstat_795 rfl (fun l D cT z0 ks => kX10_fraction N l D cT z0 ks (v25 - (zL u35 q37 r11.toNatClampNeg)) (60 : Int64) p4 u35) (by decide) (by decide) (by decide) (by decide) (Nat.le_of_ble_eq_true rfl) rfl rfl dX10_spite_133 (fun r38 u39 => ?_)
          exact jf_iret hX rfl (by decide) (by decide) dX10_spite_136
        · refine jf_ldcw (v := -1000000) hX dX10_spite_37 wcon_844 ?_
          exact jf_iret hX rfl (by decide) (by decide) dX10_spite_40
set_option maxRecDepth 20000 in
def fX10_seed (N : Nat)  (a0 : Nat) (p1 : Int32) (u : SG) : Option (Int32 × SG) := if 0 ≤ p1 then (if zK u a0 = 11 then (Option.bind (zR u a0 6) fun q1 => (if zK u q1 = 7 then (bs (zI u q1 4) fun v2 => (if zK u a0 = 11 then (Option.bind (zR u a0 6) fun q3 => (if zK u q3 = 7 then bs (sI u q3 4 p1) fun u4 => (some (v2, u4)) else none)) else none)) else none)) else none)
  else (some ((-1 : Int32), u))
set_option maxRecDepth 20000 in
set_option maxHeartbeats 4000000 in
theorem kX10_seed  (N : Nat)  (l : Launch) (D : va_G) (cT : Nat → ClassId) (z0 : Nat) (ks : Nat × Nat) (a0 : Nat) (p1 : Int32) (u : SG) : Ct l D cT z0 ks yX10_seed cX10_seed 3 (some .int) 1 0 0 vI [.ref a0, .int p1] u (fX10_seed N  a0 p1 u) := by
  unfold fX10_seed
  refine ct_of (by decide +kernel) (Nat.le_of_ble_eq_true rfl) (fun p e R s m args below meth c hX => ?_)
  show JF _ True 3 0 0 _ 0 [(0, .ref a0), (1, .int p1)] [] u _
  refine jf_iload_n hX dX10_seed_0 1 rfl ?_
  refine jf_if_ge (tgt := 6) hX dX10_seed_1 (by decide) ?_ ?_
  · refine jf_aload_n hX dX10_seed_6 0 rfl ?_
    refine jf_getR hX ck_X10 6 wfl_687 (by decide) rfl dX10_seed_7 ?_
    refine jf_nn (fun q1 => ?_)
    refine jf_getI hX ck_X6 4 wfl_850 (by decide) rfl dX10_seed_10 ?_
    refine jf_nmI (fun v2 => ?_)
    refine jf_istore_n (lv' := [(2, .int v2), (0, .ref a0), (1, .int p1)]) hX dX10_seed_13 rfl (by decide) rfl ?_
    refine jf_aload_n hX dX10_seed_14 1 rfl ?_
    refine jf_getR hX ck_X10 6 wfl_687 (by decide) rfl dX10_seed_15 ?_
    refine jf_nn (fun q3 => ?_)
    refine jf_iload_n hX dX10_seed_18 2 rfl ?_
    refine jf_putI hX trivial ck_X6 4 wfl_850 (by decide) rfl rfl rfl dX10_seed_19 (fun u4 => ?_)
    refine jf_iload_n hX dX10_seed_22 0 rfl ?_
    exact jf_iret hX rfl (by decide) (by decide) dX10_seed_23
  · refine jf_iconst (v := -1) hX dX10_seed_4 (by decide) ?_
    exact jf_iret hX rfl (by decide) (by decide) dX10_seed_5
