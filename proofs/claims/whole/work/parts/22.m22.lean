theorem dX11_words_0 : decode cX11_words 0 = .ok (.aload_n 0, 1) := by decide +kernel
theorem dX11_words_1 : decode cX11_words 1 = .ok (.getfield 36, 3) := by decide +kernel
theorem dX11_words_4 : decode cX11_words 4 = .ok (.iconst 0, 1) := by decide +kernel
theorem dX11_words_5 : decode cX11_words 5 = .ok (.iload_n 1, 1) := by decide +kernel
theorem dX11_words_6 : decode cX11_words 6 = .ok (.i2l, 1) := by decide +kernel
theorem dX11_words_7 : decode cX11_words 7 = .ok (.lastore, 1) := by decide +kernel
theorem dX11_words_8 : decode cX11_words 8 = .ok (.aload_n 0, 1) := by decide +kernel
theorem dX11_words_9 : decode cX11_words 9 = .ok (.getfield 36, 3) := by decide +kernel
theorem dX11_words_12 : decode cX11_words 12 = .ok (.iconst 1, 1) := by decide +kernel
theorem dX11_words_13 : decode cX11_words 13 = .ok (.aload_n 0, 1) := by decide +kernel
theorem dX11_words_14 : decode cX11_words 14 = .ok (.getfield 39, 3) := by decide +kernel
theorem dX11_words_17 : decode cX11_words 17 = .ok (.iconst 5, 1) := by decide +kernel
theorem dX11_words_18 : decode cX11_words 18 = .ok (.iaload, 1) := by decide +kernel
theorem dX11_words_19 : decode cX11_words 19 = .ok (.i2l, 1) := by decide +kernel
theorem dX11_words_20 : decode cX11_words 20 = .ok (.lastore, 1) := by decide +kernel
theorem dX11_words_21 : decode cX11_words 21 = .ok (.aload_n 0, 1) := by decide +kernel
theorem dX11_words_22 : decode cX11_words 22 = .ok (.getfield 36, 3) := by decide +kernel
theorem dX11_words_25 : decode cX11_words 25 = .ok (.iconst 2, 1) := by decide +kernel
theorem dX11_words_26 : decode cX11_words 26 = .ok (.aload_n 0, 1) := by decide +kernel
theorem dX11_words_27 : decode cX11_words 27 = .ok (.getfield 39, 3) := by decide +kernel
theorem dX11_words_30 : decode cX11_words 30 = .ok (.bipush 6, 2) := by decide +kernel
theorem dX11_words_32 : decode cX11_words 32 = .ok (.iaload, 1) := by decide +kernel
theorem dX11_words_33 : decode cX11_words 33 = .ok (.i2l, 1) := by decide +kernel
theorem dX11_words_34 : decode cX11_words 34 = .ok (.lastore, 1) := by decide +kernel
theorem dX11_words_35 : decode cX11_words 35 = .ok (.aload_n 0, 1) := by decide +kernel
theorem dX11_words_36 : decode cX11_words 36 = .ok (.getfield 36, 3) := by decide +kernel
theorem dX11_words_39 : decode cX11_words 39 = .ok (.iconst 3, 1) := by decide +kernel
theorem dX11_words_40 : decode cX11_words 40 = .ok (.aload_n 0, 1) := by decide +kernel
theorem dX11_words_41 : decode cX11_words 41 = .ok (.iload_n 1, 1) := by decide +kernel
theorem dX11_words_42 : decode cX11_words 42 = .ok (.iconst 0, 1) := by decide +kernel
theorem dX11_words_43 : decode cX11_words 43 = .ok (.invokevirtual 294, 3) := by decide +kernel
theorem dX11_words_46 : decode cX11_words 46 = .ok (.i2l, 1) := by decide +kernel
theorem dX11_words_47 : decode cX11_words 47 = .ok (.lastore, 1) := by decide +kernel
theorem dX11_words_48 : decode cX11_words 48 = .ok (.aload_n 0, 1) := by decide +kernel
theorem dX11_words_49 : decode cX11_words 49 = .ok (.getfield 36, 3) := by decide +kernel
theorem dX11_words_52 : decode cX11_words 52 = .ok (.iconst 4, 1) := by decide +kernel
theorem dX11_words_53 : decode cX11_words 53 = .ok (.aload_n 0, 1) := by decide +kernel
theorem dX11_words_54 : decode cX11_words 54 = .ok (.iload_n 1, 1) := by decide +kernel
theorem dX11_words_55 : decode cX11_words 55 = .ok (.iconst 1, 1) := by decide +kernel
theorem dX11_words_56 : decode cX11_words 56 = .ok (.invokevirtual 294, 3) := by decide +kernel
theorem dX11_words_59 : decode cX11_words 59 = .ok (.i2l, 1) := by decide +kernel
theorem dX11_words_60 : decode cX11_words 60 = .ok (.lastore, 1) := by decide +kernel
theorem dX11_words_61 : decode cX11_words 61 = .ok (.aload_n 0, 1) := by decide +kernel
theorem dX11_words_62 : decode cX11_words 62 = .ok (.getfield 36, 3) := by decide +kernel
theorem dX11_words_65 : decode cX11_words 65 = .ok (.iconst 5, 1) := by decide +kernel
theorem dX11_words_66 : decode cX11_words 66 = .ok (.aload_n 0, 1) := by decide +kernel
theorem dX11_words_67 : decode cX11_words 67 = .ok (.iload_n 1, 1) := by decide +kernel
theorem dX11_words_68 : decode cX11_words 68 = .ok (.iconst 3, 1) := by decide +kernel
theorem dX11_words_69 : decode cX11_words 69 = .ok (.invokevirtual 294, 3) := by decide +kernel
theorem dX11_words_72 : decode cX11_words 72 = .ok (.i2l, 1) := by decide +kernel
theorem dX11_words_73 : decode cX11_words 73 = .ok (.lastore, 1) := by decide +kernel
theorem dX11_words_74 : decode cX11_words 74 = .ok (.aload_n 0, 1) := by decide +kernel
theorem dX11_words_75 : decode cX11_words 75 = .ok (.getfield 36, 3) := by decide +kernel
theorem dX11_words_78 : decode cX11_words 78 = .ok (.bipush 6, 2) := by decide +kernel
theorem dX11_words_80 : decode cX11_words 80 = .ok (.aload_n 0, 1) := by decide +kernel
theorem dX11_words_81 : decode cX11_words 81 = .ok (.getfield 39, 3) := by decide +kernel
theorem dX11_words_84 : decode cX11_words 84 = .ok (.iconst 0, 1) := by decide +kernel
theorem dX11_words_85 : decode cX11_words 85 = .ok (.iaload, 1) := by decide +kernel
theorem dX11_words_86 : decode cX11_words 86 = .ok (.aload_n 0, 1) := by decide +kernel
theorem dX11_words_87 : decode cX11_words 87 = .ok (.getfield 39, 3) := by decide +kernel
theorem dX11_words_90 : decode cX11_words 90 = .ok (.iconst 5, 1) := by decide +kernel
theorem dX11_words_91 : decode cX11_words 91 = .ok (.iaload, 1) := by decide +kernel
theorem dX11_words_92 : decode cX11_words 92 = .ok (.isub, 1) := by decide +kernel
theorem dX11_words_93 : decode cX11_words 93 = .ok (.i2l, 1) := by decide +kernel
theorem dX11_words_94 : decode cX11_words 94 = .ok (.lastore, 1) := by decide +kernel
theorem dX11_words_95 : decode cX11_words 95 = .ok (.aload_n 0, 1) := by decide +kernel
theorem dX11_words_96 : decode cX11_words 96 = .ok (.getfield 36, 3) := by decide +kernel
theorem dX11_words_99 : decode cX11_words 99 = .ok (.bipush 7, 2) := by decide +kernel
theorem dX11_words_101 : decode cX11_words 101 = .ok (.aload_n 0, 1) := by decide +kernel
theorem dX11_words_102 : decode cX11_words 102 = .ok (.aload_n 0, 1) := by decide +kernel
theorem dX11_words_103 : decode cX11_words 103 = .ok (.getfield 39, 3) := by decide +kernel
theorem dX11_words_106 : decode cX11_words 106 = .ok (.iconst 5, 1) := by decide +kernel
theorem dX11_words_107 : decode cX11_words 107 = .ok (.iaload, 1) := by decide +kernel
theorem dX11_words_108 : decode cX11_words 108 = .ok (.invokevirtual 314, 3) := by decide +kernel
theorem dX11_words_111 : decode cX11_words 111 = .ok (.i2l, 1) := by decide +kernel
theorem dX11_words_112 : decode cX11_words 112 = .ok (.lastore, 1) := by decide +kernel
theorem dX11_words_113 : decode cX11_words 113 = .ok (.aload_n 0, 1) := by decide +kernel
theorem dX11_words_114 : decode cX11_words 114 = .ok (.getfield 36, 3) := by decide +kernel
theorem dX11_words_117 : decode cX11_words 117 = .ok (.bipush 8, 2) := by decide +kernel
theorem dX11_words_119 : decode cX11_words 119 = .ok (.aload_n 0, 1) := by decide +kernel
theorem dX11_words_120 : decode cX11_words 120 = .ok (.invokevirtual 317, 3) := by decide +kernel
theorem dX11_words_123 : decode cX11_words 123 = .ok (.iconst 1, 1) := by decide +kernel
theorem dX11_words_124 : decode cX11_words 124 = .ok (.iload_n 1, 1) := by decide +kernel
theorem dX11_words_125 : decode cX11_words 125 = .ok (.ishl, 1) := by decide +kernel
theorem dX11_words_126 : decode cX11_words 126 = .ok (.iconst (-1), 1) := by decide +kernel
theorem dX11_words_127 : decode cX11_words 127 = .ok (.ixor, 1) := by decide +kernel
theorem dX11_words_128 : decode cX11_words 128 = .ok (.iand, 1) := by decide +kernel
theorem dX11_words_129 : decode cX11_words 129 = .ok (.invokestatic 320, 3) := by decide +kernel
theorem dX11_words_132 : decode cX11_words 132 = .ok (.i2l, 1) := by decide +kernel
theorem dX11_words_133 : decode cX11_words 133 = .ok (.lastore, 1) := by decide +kernel
theorem dX11_words_134 : decode cX11_words 134 = .ok (.aload_n 0, 1) := by decide +kernel
theorem dX11_words_135 : decode cX11_words 135 = .ok (.getfield 36, 3) := by decide +kernel
theorem dX11_words_138 : decode cX11_words 138 = .ok (.bipush 9, 2) := by decide +kernel
theorem dX11_words_140 : decode cX11_words 140 = .ok (.aload_n 0, 1) := by decide +kernel
theorem dX11_words_141 : decode cX11_words 141 = .ok (.iload_n 1, 1) := by decide +kernel
theorem dX11_words_142 : decode cX11_words 142 = .ok (.iconst 2, 1) := by decide +kernel
theorem dX11_words_143 : decode cX11_words 143 = .ok (.invokevirtual 294, 3) := by decide +kernel
theorem dX11_words_146 : decode cX11_words 146 = .ok (.i2l, 1) := by decide +kernel
theorem dX11_words_147 : decode cX11_words 147 = .ok (.lastore, 1) := by decide +kernel
theorem dX11_words_148 : decode cX11_words 148 = .ok (.aload_n 0, 1) := by decide +kernel
theorem dX11_words_149 : decode cX11_words 149 = .ok (.getfield 36, 3) := by decide +kernel
theorem dX11_words_152 : decode cX11_words 152 = .ok (.bipush 10, 2) := by decide +kernel
theorem dX11_words_154 : decode cX11_words 154 = .ok (.aload_n 0, 1) := by decide +kernel
theorem dX11_words_155 : decode cX11_words 155 = .ok (.iload_n 1, 1) := by decide +kernel
theorem dX11_words_156 : decode cX11_words 156 = .ok (.iconst 5, 1) := by decide +kernel
theorem dX11_words_157 : decode cX11_words 157 = .ok (.invokevirtual 294, 3) := by decide +kernel
theorem dX11_words_160 : decode cX11_words 160 = .ok (.bipush 60, 2) := by decide +kernel
theorem dX11_words_162 : decode cX11_words 162 = .ok (.idiv, 1) := by decide +kernel
theorem dX11_words_163 : decode cX11_words 163 = .ok (.i2l, 1) := by decide +kernel
theorem dX11_words_164 : decode cX11_words 164 = .ok (.lastore, 1) := by decide +kernel
theorem dX11_words_165 : decode cX11_words 165 = .ok (.aload_n 0, 1) := by decide +kernel
theorem dX11_words_166 : decode cX11_words 166 = .ok (.getfield 36, 3) := by decide +kernel
theorem dX11_words_169 : decode cX11_words 169 = .ok (.bipush 11, 2) := by decide +kernel
theorem dX11_words_171 : decode cX11_words 171 = .ok (.aload_n 0, 1) := by decide +kernel
theorem dX11_words_172 : decode cX11_words 172 = .ok (.iload_n 1, 1) := by decide +kernel
theorem dX11_words_173 : decode cX11_words 173 = .ok (.iconst 4, 1) := by decide +kernel
theorem dX11_words_174 : decode cX11_words 174 = .ok (.invokevirtual 294, 3) := by decide +kernel
theorem dX11_words_177 : decode cX11_words 177 = .ok (.i2l, 1) := by decide +kernel
theorem dX11_words_178 : decode cX11_words 178 = .ok (.lastore, 1) := by decide +kernel
theorem dX11_words_179 : decode cX11_words 179 = .ok (.aload_n 0, 1) := by decide +kernel
theorem dX11_words_180 : decode cX11_words 180 = .ok (.getfield 36, 3) := by decide +kernel
theorem dX11_words_183 : decode cX11_words 183 = .ok (.bipush 12, 2) := by decide +kernel
theorem dX11_words_185 : decode cX11_words 185 = .ok (.aload_n 0, 1) := by decide +kernel
theorem dX11_words_186 : decode cX11_words 186 = .ok (.iload_n 1, 1) := by decide +kernel
theorem dX11_words_187 : decode cX11_words 187 = .ok (.invokevirtual 323, 3) := by decide +kernel
theorem dX11_words_190 : decode cX11_words 190 = .ok (.i2l, 1) := by decide +kernel
theorem dX11_words_191 : decode cX11_words 191 = .ok (.lastore, 1) := by decide +kernel
theorem dX11_words_192 : decode cX11_words 192 = .ok (.return_, 1) := by decide +kernel
theorem dX11_summedBy_0 : decode cX11_summedBy 0 = .ok (.iconst 0, 1) := by decide +kernel
theorem dX11_summedBy_1 : decode cX11_summedBy 1 = .ok (.istore_n 2, 1) := by decide +kernel
theorem dX11_summedBy_2 : decode cX11_summedBy 2 = .ok (.iload_n 2, 1) := by decide +kernel
theorem dX11_summedBy_3 : decode cX11_summedBy 3 = .ok (.aload_n 0, 1) := by decide +kernel
theorem dX11_summedBy_4 : decode cX11_summedBy 4 = .ok (.getfield 23, 3) := by decide +kernel
theorem dX11_summedBy_7 : decode cX11_summedBy 7 = .ok (.iload_n 1, 1) := by decide +kernel
theorem dX11_summedBy_8 : decode cX11_summedBy 8 = .ok (.iaload, 1) := by decide +kernel
theorem dX11_summedBy_9 : decode cX11_summedBy 9 = .ok (.if_icmp .ge 75, 3) := by decide +kernel
theorem dX11_summedBy_12 : decode cX11_summedBy 12 = .ok (.bipush 48, 2) := by decide +kernel
theorem dX11_summedBy_14 : decode cX11_summedBy 14 = .ok (.iload_n 1, 1) := by decide +kernel
theorem dX11_summedBy_15 : decode cX11_summedBy 15 = .ok (.imul, 1) := by decide +kernel
theorem dX11_summedBy_16 : decode cX11_summedBy 16 = .ok (.iconst 4, 1) := by decide +kernel
theorem dX11_summedBy_17 : decode cX11_summedBy 17 = .ok (.iload_n 2, 1) := by decide +kernel
theorem dX11_summedBy_18 : decode cX11_summedBy 18 = .ok (.imul, 1) := by decide +kernel
theorem dX11_summedBy_19 : decode cX11_summedBy 19 = .ok (.iadd, 1) := by decide +kernel
theorem dX11_summedBy_20 : decode cX11_summedBy 20 = .ok (.istore_n 3, 1) := by decide +kernel
theorem dX11_summedBy_21 : decode cX11_summedBy 21 = .ok (.aload_n 0, 1) := by decide +kernel
theorem dX11_summedBy_22 : decode cX11_summedBy 22 = .ok (.getfield 20, 3) := by decide +kernel
theorem dX11_summedBy_25 : decode cX11_summedBy 25 = .ok (.iload_n 3, 1) := by decide +kernel
theorem dX11_summedBy_26 : decode cX11_summedBy 26 = .ok (.iconst 2, 1) := by decide +kernel
theorem dX11_summedBy_27 : decode cX11_summedBy 27 = .ok (.iadd, 1) := by decide +kernel
theorem dX11_summedBy_28 : decode cX11_summedBy 28 = .ok (.iaload, 1) := by decide +kernel
theorem dX11_summedBy_29 : decode cX11_summedBy 29 = .ok (.ifCond .lt 29, 3) := by decide +kernel
theorem dX11_summedBy_32 : decode cX11_summedBy 32 = .ok (.aload_n 0, 1) := by decide +kernel
theorem dX11_summedBy_33 : decode cX11_summedBy 33 = .ok (.iload_n 1, 1) := by decide +kernel
theorem dX11_summedBy_34 : decode cX11_summedBy 34 = .ok (.aload_n 0, 1) := by decide +kernel
theorem dX11_summedBy_35 : decode cX11_summedBy 35 = .ok (.getfield 20, 3) := by decide +kernel
theorem dX11_summedBy_38 : decode cX11_summedBy 38 = .ok (.iload_n 3, 1) := by decide +kernel
theorem dX11_summedBy_39 : decode cX11_summedBy 39 = .ok (.iconst 2, 1) := by decide +kernel
theorem dX11_summedBy_40 : decode cX11_summedBy 40 = .ok (.iadd, 1) := by decide +kernel
theorem dX11_summedBy_41 : decode cX11_summedBy 41 = .ok (.iaload, 1) := by decide +kernel
theorem dX11_summedBy_42 : decode cX11_summedBy 42 = .ok (.aload_n 0, 1) := by decide +kernel
theorem dX11_summedBy_43 : decode cX11_summedBy 43 = .ok (.getfield 20, 3) := by decide +kernel
theorem dX11_summedBy_46 : decode cX11_summedBy 46 = .ok (.iload_n 3, 1) := by decide +kernel
theorem dX11_summedBy_47 : decode cX11_summedBy 47 = .ok (.iconst 3, 1) := by decide +kernel
theorem dX11_summedBy_48 : decode cX11_summedBy 48 = .ok (.iadd, 1) := by decide +kernel
theorem dX11_summedBy_49 : decode cX11_summedBy 49 = .ok (.iaload, 1) := by decide +kernel
theorem dX11_summedBy_50 : decode cX11_summedBy 50 = .ok (.invokevirtual 326, 3) := by decide +kernel
theorem dX11_summedBy_53 : decode cX11_summedBy 53 = .ok (.lconst 1, 1) := by decide +kernel
theorem dX11_summedBy_54 : decode cX11_summedBy 54 = .ok (.lcmp, 1) := by decide +kernel
theorem dX11_summedBy_55 : decode cX11_summedBy 55 = .ok (.ifCond .ne 23, 3) := by decide +kernel
theorem dX11_summedBy_58 : decode cX11_summedBy 58 = .ok (.aload_n 0, 1) := by decide +kernel
theorem dX11_summedBy_59 : decode cX11_summedBy 59 = .ok (.iload_n 1, 1) := by decide +kernel
theorem dX11_summedBy_60 : decode cX11_summedBy 60 = .ok (.aload_n 0, 1) := by decide +kernel
theorem dX11_summedBy_61 : decode cX11_summedBy 61 = .ok (.getfield 20, 3) := by decide +kernel
theorem dX11_summedBy_64 : decode cX11_summedBy 64 = .ok (.iload_n 3, 1) := by decide +kernel
theorem dX11_summedBy_65 : decode cX11_summedBy 65 = .ok (.iaload, 1) := by decide +kernel
theorem dX11_summedBy_66 : decode cX11_summedBy 66 = .ok (.aload_n 0, 1) := by decide +kernel
theorem dX11_summedBy_67 : decode cX11_summedBy 67 = .ok (.getfield 20, 3) := by decide +kernel
theorem dX11_summedBy_70 : decode cX11_summedBy 70 = .ok (.iload_n 3, 1) := by decide +kernel
theorem dX11_summedBy_71 : decode cX11_summedBy 71 = .ok (.iconst 1, 1) := by decide +kernel
theorem dX11_summedBy_72 : decode cX11_summedBy 72 = .ok (.iadd, 1) := by decide +kernel
theorem dX11_summedBy_73 : decode cX11_summedBy 73 = .ok (.iaload, 1) := by decide +kernel
theorem dX11_summedBy_74 : decode cX11_summedBy 74 = .ok (.invokevirtual 326, 3) := by decide +kernel
theorem dX11_summedBy_77 : decode cX11_summedBy 77 = .ok (.lreturn, 1) := by decide +kernel
theorem dX11_summedBy_78 : decode cX11_summedBy 78 = .ok (.iinc 2 1, 3) := by decide +kernel
theorem dX11_summedBy_81 : decode cX11_summedBy 81 = .ok (.goto (-79), 3) := by decide +kernel
theorem dX11_summedBy_84 : decode cX11_summedBy 84 = .ok (.lconst 0, 1) := by decide +kernel
theorem dX11_summedBy_85 : decode cX11_summedBy 85 = .ok (.lreturn, 1) := by decide +kernel
theorem dX11_setsAsleep_0 : decode cX11_setsAsleep 0 = .ok (.aload_n 0, 1) := by decide +kernel
theorem dX11_setsAsleep_1 : decode cX11_setsAsleep 1 = .ok (.getfield 39, 3) := by decide +kernel
theorem dX11_setsAsleep_4 : decode cX11_setsAsleep 4 = .ok (.bipush 10, 2) := by decide +kernel
theorem dX11_setsAsleep_6 : decode cX11_setsAsleep 6 = .ok (.bipush 6, 2) := by decide +kernel
theorem dX11_setsAsleep_8 : decode cX11_setsAsleep 8 = .ok (.iload_n 1, 1) := by decide +kernel
theorem dX11_setsAsleep_9 : decode cX11_setsAsleep 9 = .ok (.imul, 1) := by decide +kernel
theorem dX11_setsAsleep_10 : decode cX11_setsAsleep 10 = .ok (.iadd, 1) := by decide +kernel
theorem dX11_setsAsleep_11 : decode cX11_setsAsleep 11 = .ok (.iconst 2, 1) := by decide +kernel
theorem dX11_setsAsleep_12 : decode cX11_setsAsleep 12 = .ok (.iadd, 1) := by decide +kernel
theorem dX11_setsAsleep_13 : decode cX11_setsAsleep 13 = .ok (.iload_n 2, 1) := by decide +kernel
theorem dX11_setsAsleep_14 : decode cX11_setsAsleep 14 = .ok (.ifCond .eq 7, 3) := by decide +kernel
theorem dX11_setsAsleep_17 : decode cX11_setsAsleep 17 = .ok (.iconst 1, 1) := by decide +kernel
theorem dX11_setsAsleep_18 : decode cX11_setsAsleep 18 = .ok (.goto 4, 3) := by decide +kernel
theorem dX11_setsAsleep_21 : decode cX11_setsAsleep 21 = .ok (.iconst 0, 1) := by decide +kernel
theorem dX11_setsAsleep_22 : decode cX11_setsAsleep 22 = .ok (.iastore, 1) := by decide +kernel
theorem dX11_setsAsleep_23 : decode cX11_setsAsleep 23 = .ok (.return_, 1) := by decide +kernel
theorem dX11_wakesWorkers_0 : decode cX11_wakesWorkers 0 = .ok (.iconst 0, 1) := by decide +kernel
theorem dX11_wakesWorkers_1 : decode cX11_wakesWorkers 1 = .ok (.istore_n 1, 1) := by decide +kernel
theorem dX11_wakesWorkers_2 : decode cX11_wakesWorkers 2 = .ok (.iload_n 1, 1) := by decide +kernel
theorem dX11_wakesWorkers_3 : decode cX11_wakesWorkers 3 = .ok (.aload_n 0, 1) := by decide +kernel
theorem dX11_wakesWorkers_4 : decode cX11_wakesWorkers 4 = .ok (.getfield 39, 3) := by decide +kernel
theorem dX11_wakesWorkers_7 : decode cX11_wakesWorkers 7 = .ok (.iconst 1, 1) := by decide +kernel
theorem dX11_wakesWorkers_8 : decode cX11_wakesWorkers 8 = .ok (.iaload, 1) := by decide +kernel
theorem dX11_wakesWorkers_9 : decode cX11_wakesWorkers 9 = .ok (.if_icmp .ge 29, 3) := by decide +kernel
theorem dX11_wakesWorkers_12 : decode cX11_wakesWorkers 12 = .ok (.aload_n 0, 1) := by decide +kernel
theorem dX11_wakesWorkers_13 : decode cX11_wakesWorkers 13 = .ok (.iload_n 1, 1) := by decide +kernel
theorem dX11_wakesWorkers_14 : decode cX11_wakesWorkers 14 = .ok (.aload_n 0, 1) := by decide +kernel
theorem dX11_wakesWorkers_15 : decode cX11_wakesWorkers 15 = .ok (.getfield 39, 3) := by decide +kernel
theorem dX11_wakesWorkers_18 : decode cX11_wakesWorkers 18 = .ok (.iconst 5, 1) := by decide +kernel
theorem dX11_wakesWorkers_19 : decode cX11_wakesWorkers 19 = .ok (.iaload, 1) := by decide +kernel
theorem dX11_wakesWorkers_20 : decode cX11_wakesWorkers 20 = .ok (.invokevirtual 298, 3) := by decide +kernel
theorem dX11_wakesWorkers_23 : decode cX11_wakesWorkers 23 = .ok (.ifCond .eq 9, 3) := by decide +kernel
theorem dX11_wakesWorkers_26 : decode cX11_wakesWorkers 26 = .ok (.aload_n 0, 1) := by decide +kernel
theorem dX11_wakesWorkers_27 : decode cX11_wakesWorkers 27 = .ok (.iload_n 1, 1) := by decide +kernel
theorem dX11_wakesWorkers_28 : decode cX11_wakesWorkers 28 = .ok (.iconst 0, 1) := by decide +kernel
theorem dX11_wakesWorkers_29 : decode cX11_wakesWorkers 29 = .ok (.invokevirtual 330, 3) := by decide +kernel
theorem dX11_wakesWorkers_32 : decode cX11_wakesWorkers 32 = .ok (.iinc 1 1, 3) := by decide +kernel
theorem dX11_wakesWorkers_35 : decode cX11_wakesWorkers 35 = .ok (.goto (-33), 3) := by decide +kernel
theorem dX11_wakesWorkers_38 : decode cX11_wakesWorkers 38 = .ok (.return_, 1) := by decide +kernel
theorem dX11_sleepsByRule_0 : decode cX11_sleepsByRule 0 = .ok (.iconst 0, 1) := by decide +kernel
theorem dX11_sleepsByRule_1 : decode cX11_sleepsByRule 1 = .ok (.istore_n 1, 1) := by decide +kernel
theorem dX11_sleepsByRule_2 : decode cX11_sleepsByRule 2 = .ok (.iload_n 1, 1) := by decide +kernel
theorem dX11_sleepsByRule_3 : decode cX11_sleepsByRule 3 = .ok (.aload_n 0, 1) := by decide +kernel
theorem dX11_sleepsByRule_4 : decode cX11_sleepsByRule 4 = .ok (.getfield 39, 3) := by decide +kernel
theorem dX11_sleepsByRule_7 : decode cX11_sleepsByRule 7 = .ok (.iconst 1, 1) := by decide +kernel
theorem dX11_sleepsByRule_8 : decode cX11_sleepsByRule 8 = .ok (.iaload, 1) := by decide +kernel
theorem dX11_sleepsByRule_9 : decode cX11_sleepsByRule 9 = .ok (.if_icmp .ge 61, 3) := by decide +kernel
theorem dX11_sleepsByRule_12 : decode cX11_sleepsByRule 12 = .ok (.aload_n 0, 1) := by decide +kernel
theorem dX11_sleepsByRule_13 : decode cX11_sleepsByRule 13 = .ok (.getfield 42, 3) := by decide +kernel
theorem dX11_sleepsByRule_16 : decode cX11_sleepsByRule 16 = .ok (.ifCond .lt 54, 3) := by decide +kernel
theorem dX11_sleepsByRule_19 : decode cX11_sleepsByRule 19 = .ok (.aload_n 0, 1) := by decide +kernel
theorem dX11_sleepsByRule_20 : decode cX11_sleepsByRule 20 = .ok (.iload_n 1, 1) := by decide +kernel
theorem dX11_sleepsByRule_21 : decode cX11_sleepsByRule 21 = .ok (.aload_n 0, 1) := by decide +kernel
theorem dX11_sleepsByRule_22 : decode cX11_sleepsByRule 22 = .ok (.getfield 39, 3) := by decide +kernel
theorem dX11_sleepsByRule_25 : decode cX11_sleepsByRule 25 = .ok (.iconst 5, 1) := by decide +kernel
theorem dX11_sleepsByRule_26 : decode cX11_sleepsByRule 26 = .ok (.iaload, 1) := by decide +kernel
theorem dX11_sleepsByRule_27 : decode cX11_sleepsByRule 27 = .ok (.invokevirtual 298, 3) := by decide +kernel
theorem dX11_sleepsByRule_30 : decode cX11_sleepsByRule 30 = .ok (.ifCond .eq 6, 3) := by decide +kernel
theorem dX11_sleepsByRule_33 : decode cX11_sleepsByRule 33 = .ok (.goto 31, 3) := by decide +kernel
theorem dX11_sleepsByRule_36 : decode cX11_sleepsByRule 36 = .ok (.aload_n 0, 1) := by decide +kernel
theorem dX11_sleepsByRule_37 : decode cX11_sleepsByRule 37 = .ok (.iload_n 1, 1) := by decide +kernel
theorem dX11_sleepsByRule_38 : decode cX11_sleepsByRule 38 = .ok (.invokevirtual 334, 3) := by decide +kernel
theorem dX11_sleepsByRule_41 : decode cX11_sleepsByRule 41 = .ok (.aload_n 0, 1) := by decide +kernel
theorem dX11_sleepsByRule_42 : decode cX11_sleepsByRule 42 = .ok (.iload_n 1, 1) := by decide +kernel
theorem dX11_sleepsByRule_43 : decode cX11_sleepsByRule 43 = .ok (.aload_n 0, 1) := by decide +kernel
theorem dX11_sleepsByRule_44 : decode cX11_sleepsByRule 44 = .ok (.aload_n 0, 1) := by decide +kernel
theorem dX11_sleepsByRule_45 : decode cX11_sleepsByRule 45 = .ok (.getfield 42, 3) := by decide +kernel
theorem dX11_sleepsByRule_48 : decode cX11_sleepsByRule 48 = .ok (.invokevirtual 337, 3) := by decide +kernel
theorem dX11_sleepsByRule_51 : decode cX11_sleepsByRule 51 = .ok (.lconst 0, 1) := by decide +kernel
theorem dX11_sleepsByRule_52 : decode cX11_sleepsByRule 52 = .ok (.lcmp, 1) := by decide +kernel
theorem dX11_sleepsByRule_53 : decode cX11_sleepsByRule 53 = .ok (.ifCond .le 7, 3) := by decide +kernel
theorem dX11_sleepsByRule_56 : decode cX11_sleepsByRule 56 = .ok (.iconst 1, 1) := by decide +kernel
theorem dX11_sleepsByRule_57 : decode cX11_sleepsByRule 57 = .ok (.goto 4, 3) := by decide +kernel
theorem dX11_sleepsByRule_60 : decode cX11_sleepsByRule 60 = .ok (.iconst 0, 1) := by decide +kernel
theorem dX11_sleepsByRule_61 : decode cX11_sleepsByRule 61 = .ok (.invokevirtual 330, 3) := by decide +kernel
theorem dX11_sleepsByRule_64 : decode cX11_sleepsByRule 64 = .ok (.iinc 1 1, 3) := by decide +kernel
theorem dX11_sleepsByRule_67 : decode cX11_sleepsByRule 67 = .ok (.goto (-65), 3) := by decide +kernel
theorem dX11_sleepsByRule_70 : decode cX11_sleepsByRule 70 = .ok (.return_, 1) := by decide +kernel
theorem dX11_endsNight_0 : decode cX11_endsNight 0 = .ok (.aload_n 0, 1) := by decide +kernel
theorem dX11_endsNight_1 : decode cX11_endsNight 1 = .ok (.getfield 39, 3) := by decide +kernel
theorem dX11_endsNight_4 : decode cX11_endsNight 4 = .ok (.iconst 5, 1) := by decide +kernel
theorem dX11_endsNight_5 : decode cX11_endsNight 5 = .ok (.iconst 0, 1) := by decide +kernel
theorem dX11_endsNight_6 : decode cX11_endsNight 6 = .ok (.iastore, 1) := by decide +kernel
theorem dX11_endsNight_7 : decode cX11_endsNight 7 = .ok (.aload_n 0, 1) := by decide +kernel
theorem dX11_endsNight_8 : decode cX11_endsNight 8 = .ok (.getfield 39, 3) := by decide +kernel
theorem dX11_endsNight_11 : decode cX11_endsNight 11 = .ok (.bipush 6, 2) := by decide +kernel
theorem dX11_endsNight_13 : decode cX11_endsNight 13 = .ok (.dup2, 1) := by decide +kernel
theorem dX11_endsNight_14 : decode cX11_endsNight 14 = .ok (.iaload, 1) := by decide +kernel
theorem dX11_endsNight_15 : decode cX11_endsNight 15 = .ok (.iconst 1, 1) := by decide +kernel
theorem dX11_endsNight_16 : decode cX11_endsNight 16 = .ok (.iadd, 1) := by decide +kernel
theorem dX11_endsNight_17 : decode cX11_endsNight 17 = .ok (.iastore, 1) := by decide +kernel
theorem dX11_endsNight_18 : decode cX11_endsNight 18 = .ok (.iconst 0, 1) := by decide +kernel
theorem dX11_endsNight_19 : decode cX11_endsNight 19 = .ok (.istore_n 1, 1) := by decide +kernel
theorem dX11_endsNight_20 : decode cX11_endsNight 20 = .ok (.iload_n 1, 1) := by decide +kernel
theorem dX11_endsNight_21 : decode cX11_endsNight 21 = .ok (.aload_n 0, 1) := by decide +kernel
theorem dX11_endsNight_22 : decode cX11_endsNight 22 = .ok (.getfield 39, 3) := by decide +kernel
theorem dX11_endsNight_25 : decode cX11_endsNight 25 = .ok (.iconst 1, 1) := by decide +kernel
theorem dX11_endsNight_26 : decode cX11_endsNight 26 = .ok (.iaload, 1) := by decide +kernel
theorem dX11_endsNight_27 : decode cX11_endsNight 27 = .ok (.if_icmp .ge 90, 3) := by decide +kernel
theorem dX11_endsNight_30 : decode cX11_endsNight 30 = .ok (.bipush 10, 2) := by decide +kernel
theorem dX11_endsNight_32 : decode cX11_endsNight 32 = .ok (.bipush 6, 2) := by decide +kernel
theorem dX11_endsNight_34 : decode cX11_endsNight 34 = .ok (.iload_n 1, 1) := by decide +kernel
theorem dX11_endsNight_35 : decode cX11_endsNight 35 = .ok (.imul, 1) := by decide +kernel
theorem dX11_endsNight_36 : decode cX11_endsNight 36 = .ok (.iadd, 1) := by decide +kernel
theorem dX11_endsNight_37 : decode cX11_endsNight 37 = .ok (.istore_n 2, 1) := by decide +kernel
theorem dX11_endsNight_38 : decode cX11_endsNight 38 = .ok (.aload_n 0, 1) := by decide +kernel
theorem dX11_endsNight_39 : decode cX11_endsNight 39 = .ok (.getfield 39, 3) := by decide +kernel
theorem dX11_endsNight_42 : decode cX11_endsNight 42 = .ok (.iload_n 2, 1) := by decide +kernel
theorem dX11_endsNight_43 : decode cX11_endsNight 43 = .ok (.iconst 4, 1) := by decide +kernel
theorem dX11_endsNight_44 : decode cX11_endsNight 44 = .ok (.iadd, 1) := by decide +kernel
theorem dX11_endsNight_45 : decode cX11_endsNight 45 = .ok (.iaload, 1) := by decide +kernel
theorem dX11_endsNight_46 : decode cX11_endsNight 46 = .ok (.aload_n 0, 1) := by decide +kernel
theorem dX11_endsNight_47 : decode cX11_endsNight 47 = .ok (.getfield 39, 3) := by decide +kernel
theorem dX11_endsNight_50 : decode cX11_endsNight 50 = .ok (.iload_n 2, 1) := by decide +kernel
theorem dX11_endsNight_51 : decode cX11_endsNight 51 = .ok (.iaload, 1) := by decide +kernel
theorem dX11_endsNight_52 : decode cX11_endsNight 52 = .ok (.iadd, 1) := by decide +kernel
theorem dX11_endsNight_53 : decode cX11_endsNight 53 = .ok (.aload_n 0, 1) := by decide +kernel
theorem dX11_endsNight_54 : decode cX11_endsNight 54 = .ok (.getfield 39, 3) := by decide +kernel
theorem dX11_endsNight_57 : decode cX11_endsNight 57 = .ok (.iload_n 2, 1) := by decide +kernel
theorem dX11_endsNight_58 : decode cX11_endsNight 58 = .ok (.iconst 3, 1) := by decide +kernel
theorem dX11_endsNight_59 : decode cX11_endsNight 59 = .ok (.iadd, 1) := by decide +kernel
theorem dX11_endsNight_60 : decode cX11_endsNight 60 = .ok (.iaload, 1) := by decide +kernel
theorem dX11_endsNight_61 : decode cX11_endsNight 61 = .ok (.isub, 1) := by decide +kernel
theorem dX11_endsNight_62 : decode cX11_endsNight 62 = .ok (.istore_n 3, 1) := by decide +kernel
theorem dX11_endsNight_63 : decode cX11_endsNight 63 = .ok (.aload_n 0, 1) := by decide +kernel
theorem dX11_endsNight_64 : decode cX11_endsNight 64 = .ok (.getfield 39, 3) := by decide +kernel
theorem dX11_endsNight_67 : decode cX11_endsNight 67 = .ok (.iload_n 2, 1) := by decide +kernel
theorem dX11_endsNight_68 : decode cX11_endsNight 68 = .ok (.iconst 2, 1) := by decide +kernel
theorem dX11_endsNight_69 : decode cX11_endsNight 69 = .ok (.iadd, 1) := by decide +kernel
theorem dX11_endsNight_70 : decode cX11_endsNight 70 = .ok (.iconst 0, 1) := by decide +kernel
theorem dX11_endsNight_71 : decode cX11_endsNight 71 = .ok (.iastore, 1) := by decide +kernel
theorem dX11_endsNight_72 : decode cX11_endsNight 72 = .ok (.aload_n 0, 1) := by decide +kernel
theorem dX11_endsNight_73 : decode cX11_endsNight 73 = .ok (.getfield 39, 3) := by decide +kernel
theorem dX11_endsNight_76 : decode cX11_endsNight 76 = .ok (.iload_n 2, 1) := by decide +kernel
theorem dX11_endsNight_77 : decode cX11_endsNight 77 = .ok (.iconst 3, 1) := by decide +kernel
theorem dX11_endsNight_78 : decode cX11_endsNight 78 = .ok (.iadd, 1) := by decide +kernel
theorem dX11_endsNight_79 : decode cX11_endsNight 79 = .ok (.iconst 0, 1) := by decide +kernel
theorem dX11_endsNight_80 : decode cX11_endsNight 80 = .ok (.iastore, 1) := by decide +kernel
theorem dX11_endsNight_81 : decode cX11_endsNight 81 = .ok (.aload_n 0, 1) := by decide +kernel
theorem dX11_endsNight_82 : decode cX11_endsNight 82 = .ok (.getfield 39, 3) := by decide +kernel
theorem dX11_endsNight_85 : decode cX11_endsNight 85 = .ok (.iload_n 2, 1) := by decide +kernel
theorem dX11_endsNight_86 : decode cX11_endsNight 86 = .ok (.iconst 4, 1) := by decide +kernel
theorem dX11_endsNight_87 : decode cX11_endsNight 87 = .ok (.iadd, 1) := by decide +kernel
theorem dX11_endsNight_88 : decode cX11_endsNight 88 = .ok (.iload_n 3, 1) := by decide +kernel
theorem dX11_endsNight_89 : decode cX11_endsNight 89 = .ok (.ifCond .ge 7, 3) := by decide +kernel
theorem dX11_endsNight_92 : decode cX11_endsNight 92 = .ok (.iconst 0, 1) := by decide +kernel
theorem dX11_endsNight_93 : decode cX11_endsNight 93 = .ok (.goto 17, 3) := by decide +kernel
theorem dX11_endsNight_96 : decode cX11_endsNight 96 = .ok (.iload_n 3, 1) := by decide +kernel
theorem dX11_endsNight_97 : decode cX11_endsNight 97 = .ok (.sipush 999, 3) := by decide +kernel
theorem dX11_endsNight_100 : decode cX11_endsNight 100 = .ok (.if_icmp .le 9, 3) := by decide +kernel
theorem dX11_endsNight_103 : decode cX11_endsNight 103 = .ok (.sipush 999, 3) := by decide +kernel
theorem dX11_endsNight_106 : decode cX11_endsNight 106 = .ok (.goto 4, 3) := by decide +kernel
theorem dX11_endsNight_109 : decode cX11_endsNight 109 = .ok (.iload_n 3, 1) := by decide +kernel
theorem dX11_endsNight_110 : decode cX11_endsNight 110 = .ok (.iastore, 1) := by decide +kernel
theorem dX11_endsNight_111 : decode cX11_endsNight 111 = .ok (.iinc 1 1, 3) := by decide +kernel
theorem dX11_endsNight_114 : decode cX11_endsNight 114 = .ok (.goto (-94), 3) := by decide +kernel
theorem dX11_endsNight_117 : decode cX11_endsNight 117 = .ok (.iconst 0, 1) := by decide +kernel
theorem dX11_endsNight_118 : decode cX11_endsNight 118 = .ok (.istore_n 1, 1) := by decide +kernel
theorem dX11_endsNight_119 : decode cX11_endsNight 119 = .ok (.iload_n 1, 1) := by decide +kernel
theorem dX11_endsNight_120 : decode cX11_endsNight 120 = .ok (.iconst 5, 1) := by decide +kernel
theorem dX11_endsNight_121 : decode cX11_endsNight 121 = .ok (.if_icmp .ge 19, 3) := by decide +kernel
theorem dX11_endsNight_124 : decode cX11_endsNight 124 = .ok (.aload_n 0, 1) := by decide +kernel
theorem dX11_endsNight_125 : decode cX11_endsNight 125 = .ok (.getfield 39, 3) := by decide +kernel
theorem dX11_endsNight_128 : decode cX11_endsNight 128 = .ok (.bipush 40, 2) := by decide +kernel
theorem dX11_endsNight_130 : decode cX11_endsNight 130 = .ok (.iload_n 1, 1) := by decide +kernel
theorem dX11_endsNight_131 : decode cX11_endsNight 131 = .ok (.iadd, 1) := by decide +kernel
theorem dX11_endsNight_132 : decode cX11_endsNight 132 = .ok (.iconst 0, 1) := by decide +kernel
theorem dX11_endsNight_133 : decode cX11_endsNight 133 = .ok (.iastore, 1) := by decide +kernel
theorem dX11_endsNight_134 : decode cX11_endsNight 134 = .ok (.iinc 1 1, 3) := by decide +kernel
theorem dX11_endsNight_137 : decode cX11_endsNight 137 = .ok (.goto (-18), 3) := by decide +kernel
theorem dX11_endsNight_140 : decode cX11_endsNight 140 = .ok (.return_, 1) := by decide +kernel
theorem dX11_shares_0 : decode cX11_shares 0 = .ok (.bipush 60, 2) := by decide +kernel
theorem dX11_shares_2 : decode cX11_shares 2 = .ok (.aload_n 0, 1) := by decide +kernel
theorem dX11_shares_3 : decode cX11_shares 3 = .ok (.aload_n 0, 1) := by decide +kernel
theorem dX11_shares_4 : decode cX11_shares 4 = .ok (.getfield 39, 3) := by decide +kernel
theorem dX11_shares_7 : decode cX11_shares 7 = .ok (.iconst 5, 1) := by decide +kernel
theorem dX11_shares_8 : decode cX11_shares 8 = .ok (.iaload, 1) := by decide +kernel
theorem dX11_shares_9 : decode cX11_shares 9 = .ok (.invokevirtual 314, 3) := by decide +kernel
theorem dX11_shares_12 : decode cX11_shares 12 = .ok (.imul, 1) := by decide +kernel
theorem dX11_shares_13 : decode cX11_shares 13 = .ok (.istore_n 1, 1) := by decide +kernel
theorem dX11_shares_14 : decode cX11_shares 14 = .ok (.aload_n 0, 1) := by decide +kernel
theorem dX11_shares_15 : decode cX11_shares 15 = .ok (.invokevirtual 317, 3) := by decide +kernel
theorem dX11_shares_18 : decode cX11_shares 18 = .ok (.invokestatic 320, 3) := by decide +kernel
theorem dX11_shares_21 : decode cX11_shares 21 = .ok (.istore_n 2, 1) := by decide +kernel
theorem dX11_shares_22 : decode cX11_shares 22 = .ok (.iconst 0, 1) := by decide +kernel
theorem dX11_shares_23 : decode cX11_shares 23 = .ok (.istore_n 3, 1) := by decide +kernel
theorem dX11_shares_24 : decode cX11_shares 24 = .ok (.iload_n 3, 1) := by decide +kernel
theorem dX11_shares_25 : decode cX11_shares 25 = .ok (.aload_n 0, 1) := by decide +kernel
theorem dX11_shares_26 : decode cX11_shares 26 = .ok (.getfield 39, 3) := by decide +kernel
theorem dX11_shares_29 : decode cX11_shares 29 = .ok (.iconst 1, 1) := by decide +kernel
theorem dX11_shares_30 : decode cX11_shares 30 = .ok (.iaload, 1) := by decide +kernel
theorem dX11_shares_31 : decode cX11_shares 31 = .ok (.if_icmp .ge 80, 3) := by decide +kernel
theorem dX11_shares_34 : decode cX11_shares 34 = .ok (.bipush 10, 2) := by decide +kernel
theorem dX11_shares_36 : decode cX11_shares 36 = .ok (.bipush 6, 2) := by decide +kernel
theorem dX11_shares_38 : decode cX11_shares 38 = .ok (.iload_n 3, 1) := by decide +kernel
theorem dX11_shares_39 : decode cX11_shares 39 = .ok (.imul, 1) := by decide +kernel
theorem dX11_shares_40 : decode cX11_shares 40 = .ok (.iadd, 1) := by decide +kernel
theorem dX11_shares_41 : decode cX11_shares 41 = .ok (.istore 4, 2) := by decide +kernel
theorem dX11_shares_43 : decode cX11_shares 43 = .ok (.aload_n 0, 1) := by decide +kernel
theorem dX11_shares_44 : decode cX11_shares 44 = .ok (.getfield 39, 3) := by decide +kernel
theorem dX11_shares_47 : decode cX11_shares 47 = .ok (.iload 4, 2) := by decide +kernel
theorem dX11_shares_49 : decode cX11_shares 49 = .ok (.iconst 2, 1) := by decide +kernel
theorem dX11_shares_50 : decode cX11_shares 50 = .ok (.iadd, 1) := by decide +kernel
theorem dX11_shares_51 : decode cX11_shares 51 = .ok (.iaload, 1) := by decide +kernel
theorem dX11_shares_52 : decode cX11_shares 52 = .ok (.ifCond .ne 25, 3) := by decide +kernel
theorem dX11_shares_55 : decode cX11_shares 55 = .ok (.aload_n 0, 1) := by decide +kernel
theorem dX11_shares_56 : decode cX11_shares 56 = .ok (.getfield 46, 3) := by decide +kernel
theorem dX11_shares_59 : decode cX11_shares 59 = .ok (.iload_n 3, 1) := by decide +kernel
theorem dX11_shares_60 : decode cX11_shares 60 = .ok (.dup2, 1) := by decide +kernel
theorem dX11_shares_61 : decode cX11_shares 61 = .ok (.iaload, 1) := by decide +kernel
theorem dX11_shares_62 : decode cX11_shares 62 = .ok (.iload_n 1, 1) := by decide +kernel
theorem dX11_shares_63 : decode cX11_shares 63 = .ok (.aload_n 0, 1) := by decide +kernel
theorem dX11_shares_64 : decode cX11_shares 64 = .ok (.getfield 39, 3) := by decide +kernel
theorem dX11_shares_67 : decode cX11_shares 67 = .ok (.iconst 1, 1) := by decide +kernel
theorem dX11_shares_68 : decode cX11_shares 68 = .ok (.iaload, 1) := by decide +kernel
theorem dX11_shares_69 : decode cX11_shares 69 = .ok (.iload_n 2, 1) := by decide +kernel
theorem dX11_shares_70 : decode cX11_shares 70 = .ok (.isub, 1) := by decide +kernel
theorem dX11_shares_71 : decode cX11_shares 71 = .ok (.idiv, 1) := by decide +kernel
theorem dX11_shares_72 : decode cX11_shares 72 = .ok (.iadd, 1) := by decide +kernel
theorem dX11_shares_73 : decode cX11_shares 73 = .ok (.iastore, 1) := by decide +kernel
theorem dX11_shares_74 : decode cX11_shares 74 = .ok (.goto 31, 3) := by decide +kernel
theorem dX11_shares_77 : decode cX11_shares 77 = .ok (.aload_n 0, 1) := by decide +kernel
theorem dX11_shares_78 : decode cX11_shares 78 = .ok (.getfield 39, 3) := by decide +kernel
theorem dX11_shares_81 : decode cX11_shares 81 = .ok (.iload 4, 2) := by decide +kernel
theorem dX11_shares_83 : decode cX11_shares 83 = .ok (.iconst 5, 1) := by decide +kernel
theorem dX11_shares_84 : decode cX11_shares 84 = .ok (.iadd, 1) := by decide +kernel
theorem dX11_shares_85 : decode cX11_shares 85 = .ok (.dup2, 1) := by decide +kernel
theorem dX11_shares_86 : decode cX11_shares 86 = .ok (.iaload, 1) := by decide +kernel
theorem dX11_shares_87 : decode cX11_shares 87 = .ok (.iload_n 1, 1) := by decide +kernel
theorem dX11_shares_88 : decode cX11_shares 88 = .ok (.iload_n 2, 1) := by decide +kernel
theorem dX11_shares_89 : decode cX11_shares 89 = .ok (.idiv, 1) := by decide +kernel
theorem dX11_shares_90 : decode cX11_shares 90 = .ok (.iadd, 1) := by decide +kernel
theorem dX11_shares_91 : decode cX11_shares 91 = .ok (.iastore, 1) := by decide +kernel
theorem dX11_shares_92 : decode cX11_shares 92 = .ok (.aload_n 0, 1) := by decide +kernel
theorem dX11_shares_93 : decode cX11_shares 93 = .ok (.getfield 39, 3) := by decide +kernel
theorem dX11_shares_96 : decode cX11_shares 96 = .ok (.iload 4, 2) := by decide +kernel
theorem dX11_shares_98 : decode cX11_shares 98 = .ok (.iconst 3, 1) := by decide +kernel
theorem dX11_shares_99 : decode cX11_shares 99 = .ok (.iadd, 1) := by decide +kernel
theorem dX11_shares_100 : decode cX11_shares 100 = .ok (.dup2, 1) := by decide +kernel
theorem dX11_shares_101 : decode cX11_shares 101 = .ok (.iaload, 1) := by decide +kernel
theorem dX11_shares_102 : decode cX11_shares 102 = .ok (.iconst 1, 1) := by decide +kernel
theorem dX11_shares_103 : decode cX11_shares 103 = .ok (.iadd, 1) := by decide +kernel
theorem dX11_shares_104 : decode cX11_shares 104 = .ok (.iastore, 1) := by decide +kernel
theorem dX11_shares_105 : decode cX11_shares 105 = .ok (.iinc 3 1, 3) := by decide +kernel
theorem dX11_shares_108 : decode cX11_shares 108 = .ok (.goto (-84), 3) := by decide +kernel
theorem dX11_shares_111 : decode cX11_shares 111 = .ok (.iload_n 2, 1) := by decide +kernel
theorem dX11_shares_112 : decode cX11_shares 112 = .ok (.ifCond .ne 14, 3) := by decide +kernel
theorem dX11_shares_115 : decode cX11_shares 115 = .ok (.aload_n 0, 1) := by decide +kernel
theorem dX11_shares_116 : decode cX11_shares 116 = .ok (.getfield 39, 3) := by decide +kernel
theorem dX11_shares_119 : decode cX11_shares 119 = .ok (.bipush 7, 2) := by decide +kernel
theorem dX11_shares_121 : decode cX11_shares 121 = .ok (.dup2, 1) := by decide +kernel
theorem dX11_shares_122 : decode cX11_shares 122 = .ok (.iaload, 1) := by decide +kernel
theorem dX11_shares_123 : decode cX11_shares 123 = .ok (.iload_n 1, 1) := by decide +kernel
theorem dX11_shares_124 : decode cX11_shares 124 = .ok (.iadd, 1) := by decide +kernel
theorem dX11_shares_125 : decode cX11_shares 125 = .ok (.iastore, 1) := by decide +kernel
theorem dX11_shares_126 : decode cX11_shares 126 = .ok (.aload_n 0, 1) := by decide +kernel
theorem dX11_shares_127 : decode cX11_shares 127 = .ok (.getfield 39, 3) := by decide +kernel
theorem dX11_shares_130 : decode cX11_shares 130 = .ok (.iconst 5, 1) := by decide +kernel
theorem dX11_shares_131 : decode cX11_shares 131 = .ok (.dup2, 1) := by decide +kernel
theorem dX11_shares_132 : decode cX11_shares 132 = .ok (.iaload, 1) := by decide +kernel
theorem dX11_shares_133 : decode cX11_shares 133 = .ok (.iconst 1, 1) := by decide +kernel
theorem dX11_shares_134 : decode cX11_shares 134 = .ok (.iadd, 1) := by decide +kernel
theorem dX11_shares_135 : decode cX11_shares 135 = .ok (.iastore, 1) := by decide +kernel
theorem dX11_shares_136 : decode cX11_shares 136 = .ok (.aload_n 0, 1) := by decide +kernel
theorem dX11_shares_137 : decode cX11_shares 137 = .ok (.getfield 39, 3) := by decide +kernel
theorem dX11_shares_140 : decode cX11_shares 140 = .ok (.iconst 5, 1) := by decide +kernel
theorem dX11_shares_141 : decode cX11_shares 141 = .ok (.iaload, 1) := by decide +kernel
theorem dX11_shares_142 : decode cX11_shares 142 = .ok (.aload_n 0, 1) := by decide +kernel
theorem dX11_shares_143 : decode cX11_shares 143 = .ok (.getfield 39, 3) := by decide +kernel
theorem dX11_shares_146 : decode cX11_shares 146 = .ok (.iconst 0, 1) := by decide +kernel
theorem dX11_shares_147 : decode cX11_shares 147 = .ok (.iaload, 1) := by decide +kernel
theorem dX11_shares_148 : decode cX11_shares 148 = .ok (.if_icmp .ne 7, 3) := by decide +kernel
theorem dX11_shares_151 : decode cX11_shares 151 = .ok (.aload_n 0, 1) := by decide +kernel
theorem dX11_shares_152 : decode cX11_shares 152 = .ok (.invokevirtual 341, 3) := by decide +kernel
theorem dX11_shares_155 : decode cX11_shares 155 = .ok (.iload_n 2, 1) := by decide +kernel
theorem dX11_shares_156 : decode cX11_shares 156 = .ok (.ireturn, 1) := by decide +kernel
theorem dX11_passes_0 : decode cX11_passes 0 = .ok (.aload_n 0, 1) := by decide +kernel
theorem dX11_passes_1 : decode cX11_passes 1 = .ok (.invokevirtual 344, 3) := by decide +kernel
theorem dX11_passes_4 : decode cX11_passes 4 = .ok (.aload_n 0, 1) := by decide +kernel
theorem dX11_passes_5 : decode cX11_passes 5 = .ok (.invokevirtual 347, 3) := by decide +kernel
theorem dX11_passes_8 : decode cX11_passes 8 = .ok (.aload_n 0, 1) := by decide +kernel
theorem dX11_passes_9 : decode cX11_passes 9 = .ok (.invokevirtual 350, 3) := by decide +kernel
theorem dX11_passes_12 : decode cX11_passes 12 = .ok (.ireturn, 1) := by decide +kernel
theorem dX11_keepsAct_0 : decode cX11_keepsAct 0 = .ok (.aload_n 0, 1) := by decide +kernel
theorem dX11_keepsAct_1 : decode cX11_keepsAct 1 = .ok (.getfield 267, 3) := by decide +kernel
theorem dX11_keepsAct_4 : decode cX11_keepsAct 4 = .ok (.bipush 20, 2) := by decide +kernel
theorem dX11_keepsAct_6 : decode cX11_keepsAct 6 = .ok (.if_icmp .ne 44, 3) := by decide +kernel
theorem dX11_keepsAct_9 : decode cX11_keepsAct 9 = .ok (.bipush 45, 2) := by decide +kernel
theorem dX11_keepsAct_11 : decode cX11_keepsAct 11 = .ok (.istore_n 1, 1) := by decide +kernel
theorem dX11_keepsAct_12 : decode cX11_keepsAct 12 = .ok (.iload_n 1, 1) := by decide +kernel
theorem dX11_keepsAct_13 : decode cX11_keepsAct 13 = .ok (.sipush 900, 3) := by decide +kernel
theorem dX11_keepsAct_16 : decode cX11_keepsAct 16 = .ok (.if_icmp .ge 24, 3) := by decide +kernel
theorem dX11_keepsAct_19 : decode cX11_keepsAct 19 = .ok (.aload_n 0, 1) := by decide +kernel
theorem dX11_keepsAct_20 : decode cX11_keepsAct 20 = .ok (.getfield 49, 3) := by decide +kernel
theorem dX11_keepsAct_23 : decode cX11_keepsAct 23 = .ok (.iload_n 1, 1) := by decide +kernel
theorem dX11_keepsAct_24 : decode cX11_keepsAct 24 = .ok (.bipush 45, 2) := by decide +kernel
theorem dX11_keepsAct_26 : decode cX11_keepsAct 26 = .ok (.isub, 1) := by decide +kernel
theorem dX11_keepsAct_27 : decode cX11_keepsAct 27 = .ok (.aload_n 0, 1) := by decide +kernel
theorem dX11_keepsAct_28 : decode cX11_keepsAct 28 = .ok (.getfield 49, 3) := by decide +kernel
theorem dX11_keepsAct_31 : decode cX11_keepsAct 31 = .ok (.iload_n 1, 1) := by decide +kernel
theorem dX11_keepsAct_32 : decode cX11_keepsAct 32 = .ok (.iaload, 1) := by decide +kernel
theorem dX11_keepsAct_33 : decode cX11_keepsAct 33 = .ok (.iastore, 1) := by decide +kernel
theorem dX11_keepsAct_34 : decode cX11_keepsAct 34 = .ok (.iinc 1 1, 3) := by decide +kernel
theorem dX11_keepsAct_37 : decode cX11_keepsAct 37 = .ok (.goto (-25), 3) := by decide +kernel
theorem dX11_keepsAct_40 : decode cX11_keepsAct 40 = .ok (.aload_n 0, 1) := by decide +kernel
theorem dX11_keepsAct_41 : decode cX11_keepsAct 41 = .ok (.dup, 1) := by decide +kernel
theorem dX11_keepsAct_42 : decode cX11_keepsAct 42 = .ok (.getfield 267, 3) := by decide +kernel
theorem dX11_keepsAct_45 : decode cX11_keepsAct 45 = .ok (.iconst 1, 1) := by decide +kernel
theorem dX11_keepsAct_46 : decode cX11_keepsAct 46 = .ok (.isub, 1) := by decide +kernel
theorem dX11_keepsAct_47 : decode cX11_keepsAct 47 = .ok (.putfield 267, 3) := by decide +kernel
theorem dX11_keepsAct_50 : decode cX11_keepsAct 50 = .ok (.iconst 0, 1) := by decide +kernel
theorem dX11_keepsAct_51 : decode cX11_keepsAct 51 = .ok (.istore_n 1, 1) := by decide +kernel
theorem dX11_keepsAct_52 : decode cX11_keepsAct 52 = .ok (.iload_n 1, 1) := by decide +kernel
theorem dX11_keepsAct_53 : decode cX11_keepsAct 53 = .ok (.bipush 45, 2) := by decide +kernel
theorem dX11_keepsAct_55 : decode cX11_keepsAct 55 = .ok (.if_icmp .ge 29, 3) := by decide +kernel
theorem dX11_keepsAct_58 : decode cX11_keepsAct 58 = .ok (.aload_n 0, 1) := by decide +kernel
theorem dX11_keepsAct_59 : decode cX11_keepsAct 59 = .ok (.getfield 49, 3) := by decide +kernel
theorem dX11_keepsAct_62 : decode cX11_keepsAct 62 = .ok (.bipush 45, 2) := by decide +kernel
theorem dX11_keepsAct_64 : decode cX11_keepsAct 64 = .ok (.aload_n 0, 1) := by decide +kernel
theorem dX11_keepsAct_65 : decode cX11_keepsAct 65 = .ok (.getfield 267, 3) := by decide +kernel
theorem dX11_keepsAct_68 : decode cX11_keepsAct 68 = .ok (.imul, 1) := by decide +kernel
theorem dX11_keepsAct_69 : decode cX11_keepsAct 69 = .ok (.iload_n 1, 1) := by decide +kernel
theorem dX11_keepsAct_70 : decode cX11_keepsAct 70 = .ok (.iadd, 1) := by decide +kernel
theorem dX11_keepsAct_71 : decode cX11_keepsAct 71 = .ok (.aload_n 0, 1) := by decide +kernel
theorem dX11_keepsAct_72 : decode cX11_keepsAct 72 = .ok (.getfield 39, 3) := by decide +kernel
theorem dX11_keepsAct_75 : decode cX11_keepsAct 75 = .ok (.iload_n 1, 1) := by decide +kernel
theorem dX11_keepsAct_76 : decode cX11_keepsAct 76 = .ok (.iaload, 1) := by decide +kernel
theorem dX11_keepsAct_77 : decode cX11_keepsAct 77 = .ok (.iastore, 1) := by decide +kernel
theorem dX11_keepsAct_78 : decode cX11_keepsAct 78 = .ok (.iinc 1 1, 3) := by decide +kernel
theorem dX11_keepsAct_81 : decode cX11_keepsAct 81 = .ok (.goto (-29), 3) := by decide +kernel
theorem dX11_keepsAct_84 : decode cX11_keepsAct 84 = .ok (.aload_n 0, 1) := by decide +kernel
theorem dX11_keepsAct_85 : decode cX11_keepsAct 85 = .ok (.dup, 1) := by decide +kernel
theorem dX11_keepsAct_86 : decode cX11_keepsAct 86 = .ok (.getfield 267, 3) := by decide +kernel
theorem dX11_keepsAct_89 : decode cX11_keepsAct 89 = .ok (.iconst 1, 1) := by decide +kernel
theorem dX11_keepsAct_90 : decode cX11_keepsAct 90 = .ok (.iadd, 1) := by decide +kernel
theorem dX11_keepsAct_91 : decode cX11_keepsAct 91 = .ok (.putfield 267, 3) := by decide +kernel
theorem dX11_keepsAct_94 : decode cX11_keepsAct 94 = .ok (.return_, 1) := by decide +kernel
theorem dX11_undo_0 : decode cX11_undo 0 = .ok (.aload_n 0, 1) := by decide +kernel
theorem dX11_undo_1 : decode cX11_undo 1 = .ok (.getfield 267, 3) := by decide +kernel
theorem dX11_undo_4 : decode cX11_undo 4 = .ok (.ifCond .ne 5, 3) := by decide +kernel
theorem dX11_undo_7 : decode cX11_undo 7 = .ok (.iconst (-1), 1) := by decide +kernel
theorem dX11_undo_8 : decode cX11_undo 8 = .ok (.ireturn, 1) := by decide +kernel
theorem dX11_undo_9 : decode cX11_undo 9 = .ok (.aload_n 0, 1) := by decide +kernel
theorem dX11_undo_10 : decode cX11_undo 10 = .ok (.dup, 1) := by decide +kernel
theorem dX11_undo_11 : decode cX11_undo 11 = .ok (.getfield 267, 3) := by decide +kernel
theorem dX11_undo_14 : decode cX11_undo 14 = .ok (.iconst 1, 1) := by decide +kernel
theorem dX11_undo_15 : decode cX11_undo 15 = .ok (.isub, 1) := by decide +kernel
theorem dX11_undo_16 : decode cX11_undo 16 = .ok (.putfield 267, 3) := by decide +kernel
theorem dX11_undo_19 : decode cX11_undo 19 = .ok (.iconst 0, 1) := by decide +kernel
theorem dX11_undo_20 : decode cX11_undo 20 = .ok (.istore_n 1, 1) := by decide +kernel
theorem dX11_undo_21 : decode cX11_undo 21 = .ok (.iload_n 1, 1) := by decide +kernel
theorem dX11_undo_22 : decode cX11_undo 22 = .ok (.bipush 45, 2) := by decide +kernel
theorem dX11_undo_24 : decode cX11_undo 24 = .ok (.if_icmp .ge 29, 3) := by decide +kernel
theorem dX11_undo_27 : decode cX11_undo 27 = .ok (.aload_n 0, 1) := by decide +kernel
theorem dX11_undo_28 : decode cX11_undo 28 = .ok (.getfield 39, 3) := by decide +kernel
theorem dX11_undo_31 : decode cX11_undo 31 = .ok (.iload_n 1, 1) := by decide +kernel
theorem dX11_undo_32 : decode cX11_undo 32 = .ok (.aload_n 0, 1) := by decide +kernel
theorem dX11_undo_33 : decode cX11_undo 33 = .ok (.getfield 49, 3) := by decide +kernel
theorem dX11_undo_36 : decode cX11_undo 36 = .ok (.bipush 45, 2) := by decide +kernel
theorem dX11_undo_38 : decode cX11_undo 38 = .ok (.aload_n 0, 1) := by decide +kernel
theorem dX11_undo_39 : decode cX11_undo 39 = .ok (.getfield 267, 3) := by decide +kernel
theorem dX11_undo_42 : decode cX11_undo 42 = .ok (.imul, 1) := by decide +kernel
theorem dX11_undo_43 : decode cX11_undo 43 = .ok (.iload_n 1, 1) := by decide +kernel
theorem dX11_undo_44 : decode cX11_undo 44 = .ok (.iadd, 1) := by decide +kernel
theorem dX11_undo_45 : decode cX11_undo 45 = .ok (.iaload, 1) := by decide +kernel
theorem dX11_undo_46 : decode cX11_undo 46 = .ok (.iastore, 1) := by decide +kernel
theorem dX11_undo_47 : decode cX11_undo 47 = .ok (.iinc 1 1, 3) := by decide +kernel
theorem dX11_undo_50 : decode cX11_undo 50 = .ok (.goto (-29), 3) := by decide +kernel
theorem dX11_undo_53 : decode cX11_undo 53 = .ok (.aload_n 0, 1) := by decide +kernel
theorem dX11_undo_54 : decode cX11_undo 54 = .ok (.getfield 267, 3) := by decide +kernel
theorem dX11_undo_57 : decode cX11_undo 57 = .ok (.ireturn, 1) := by decide +kernel
theorem dX11_hour_0 : decode cX11_hour 0 = .ok (.aload_n 0, 1) := by decide +kernel
theorem dX11_hour_1 : decode cX11_hour 1 = .ok (.invokevirtual 353, 3) := by decide +kernel
theorem dX11_hour_4 : decode cX11_hour 4 = .ok (.ifCond .eq 33, 3) := by decide +kernel
theorem dX11_hour_7 : decode cX11_hour 7 = .ok (.aload_n 0, 1) := by decide +kernel
theorem dX11_hour_8 : decode cX11_hour 8 = .ok (.getfield 39, 3) := by decide +kernel
theorem dX11_hour_11 : decode cX11_hour 11 = .ok (.bipush 6, 2) := by decide +kernel
theorem dX11_hour_13 : decode cX11_hour 13 = .ok (.iaload, 1) := by decide +kernel
theorem dX11_hour_14 : decode cX11_hour 14 = .ok (.sipush 999, 3) := by decide +kernel
theorem dX11_hour_17 : decode cX11_hour 17 = .ok (.if_icmp .ne 22, 3) := by decide +kernel
theorem dX11_hour_20 : decode cX11_hour 20 = .ok (.aload_n 0, 1) := by decide +kernel
theorem dX11_hour_21 : decode cX11_hour 21 = .ok (.getfield 39, 3) := by decide +kernel
theorem dX11_hour_24 : decode cX11_hour 24 = .ok (.iconst 5, 1) := by decide +kernel
theorem dX11_hour_25 : decode cX11_hour 25 = .ok (.iaload, 1) := by decide +kernel
theorem dX11_hour_26 : decode cX11_hour 26 = .ok (.aload_n 0, 1) := by decide +kernel
theorem dX11_hour_27 : decode cX11_hour 27 = .ok (.getfield 39, 3) := by decide +kernel
theorem dX11_hour_30 : decode cX11_hour 30 = .ok (.iconst 0, 1) := by decide +kernel
theorem dX11_hour_31 : decode cX11_hour 31 = .ok (.iaload, 1) := by decide +kernel
theorem dX11_hour_32 : decode cX11_hour 32 = .ok (.iconst 1, 1) := by decide +kernel
theorem dX11_hour_33 : decode cX11_hour 33 = .ok (.isub, 1) := by decide +kernel
theorem dX11_hour_34 : decode cX11_hour 34 = .ok (.if_icmp .ne 5, 3) := by decide +kernel
theorem dX11_hour_37 : decode cX11_hour 37 = .ok (.iconst (-1), 1) := by decide +kernel
theorem dX11_hour_38 : decode cX11_hour 38 = .ok (.ireturn, 1) := by decide +kernel
theorem dX11_hour_39 : decode cX11_hour 39 = .ok (.aload_n 0, 1) := by decide +kernel
theorem dX11_hour_40 : decode cX11_hour 40 = .ok (.invokevirtual 356, 3) := by decide +kernel
theorem dX11_hour_43 : decode cX11_hour 43 = .ok (.aload_n 0, 1) := by decide +kernel
theorem dX11_hour_44 : decode cX11_hour 44 = .ok (.invokevirtual 359, 3) := by decide +kernel
theorem dX11_hour_47 : decode cX11_hour 47 = .ok (.ireturn, 1) := by decide +kernel
theorem dX11_sleep_0 : decode cX11_sleep 0 = .ok (.aload_n 0, 1) := by decide +kernel
theorem dX11_sleep_1 : decode cX11_sleep 1 = .ok (.iload_n 1, 1) := by decide +kernel
theorem dX11_sleep_2 : decode cX11_sleep 2 = .ok (.invokevirtual 304, 3) := by decide +kernel
theorem dX11_sleep_5 : decode cX11_sleep 5 = .ok (.ifCond .eq 40, 3) := by decide +kernel
theorem dX11_sleep_8 : decode cX11_sleep 8 = .ok (.aload_n 0, 1) := by decide +kernel
theorem dX11_sleep_9 : decode cX11_sleep 9 = .ok (.iload_n 1, 1) := by decide +kernel
theorem dX11_sleep_10 : decode cX11_sleep 10 = .ok (.iconst 2, 1) := by decide +kernel
theorem dX11_sleep_11 : decode cX11_sleep 11 = .ok (.invokevirtual 294, 3) := by decide +kernel
theorem dX11_sleep_14 : decode cX11_sleep 14 = .ok (.iconst 1, 1) := by decide +kernel
theorem dX11_sleep_15 : decode cX11_sleep 15 = .ok (.if_icmp .ne 7, 3) := by decide +kernel
theorem dX11_sleep_18 : decode cX11_sleep 18 = .ok (.iconst 1, 1) := by decide +kernel
theorem dX11_sleep_19 : decode cX11_sleep 19 = .ok (.goto 4, 3) := by decide +kernel
theorem dX11_sleep_22 : decode cX11_sleep 22 = .ok (.iconst 0, 1) := by decide +kernel
theorem dX11_sleep_23 : decode cX11_sleep 23 = .ok (.iload_n 2, 1) := by decide +kernel
theorem dX11_sleep_24 : decode cX11_sleep 24 = .ok (.if_icmp .eq 21, 3) := by decide +kernel
theorem dX11_sleep_27 : decode cX11_sleep 27 = .ok (.iload_n 2, 1) := by decide +kernel
theorem dX11_sleep_28 : decode cX11_sleep 28 = .ok (.ifCond .eq 19, 3) := by decide +kernel
theorem dX11_sleep_31 : decode cX11_sleep 31 = .ok (.aload_n 0, 1) := by decide +kernel
theorem dX11_sleep_32 : decode cX11_sleep 32 = .ok (.iload_n 1, 1) := by decide +kernel
theorem dX11_sleep_33 : decode cX11_sleep 33 = .ok (.aload_n 0, 1) := by decide +kernel
theorem dX11_sleep_34 : decode cX11_sleep 34 = .ok (.getfield 39, 3) := by decide +kernel
theorem dX11_sleep_37 : decode cX11_sleep 37 = .ok (.iconst 5, 1) := by decide +kernel
theorem dX11_sleep_38 : decode cX11_sleep 38 = .ok (.iaload, 1) := by decide +kernel
theorem dX11_sleep_39 : decode cX11_sleep 39 = .ok (.invokevirtual 298, 3) := by decide +kernel
theorem dX11_sleep_42 : decode cX11_sleep 42 = .ok (.ifCond .eq 5, 3) := by decide +kernel
theorem dX11_sleep_45 : decode cX11_sleep 45 = .ok (.iconst 0, 1) := by decide +kernel
theorem dX11_sleep_46 : decode cX11_sleep 46 = .ok (.ireturn, 1) := by decide +kernel
theorem dX11_sleep_47 : decode cX11_sleep 47 = .ok (.aload_n 0, 1) := by decide +kernel
theorem dX11_sleep_48 : decode cX11_sleep 48 = .ok (.invokevirtual 356, 3) := by decide +kernel
theorem dX11_sleep_51 : decode cX11_sleep 51 = .ok (.aload_n 0, 1) := by decide +kernel
theorem dX11_sleep_52 : decode cX11_sleep 52 = .ok (.iload_n 1, 1) := by decide +kernel
theorem dX11_sleep_53 : decode cX11_sleep 53 = .ok (.iload_n 2, 1) := by decide +kernel
theorem dX11_sleep_54 : decode cX11_sleep 54 = .ok (.invokevirtual 330, 3) := by decide +kernel
theorem dX11_sleep_57 : decode cX11_sleep 57 = .ok (.iconst 1, 1) := by decide +kernel
theorem dX11_sleep_58 : decode cX11_sleep 58 = .ok (.ireturn, 1) := by decide +kernel
theorem dX11_light_0 : decode cX11_light 0 = .ok (.aload_n 0, 1) := by decide +kernel
theorem dX11_light_1 : decode cX11_light 1 = .ok (.iload_n 1, 1) := by decide +kernel
theorem dX11_light_2 : decode cX11_light 2 = .ok (.invokevirtual 309, 3) := by decide +kernel
theorem dX11_light_5 : decode cX11_light 5 = .ok (.ifCond .eq 18, 3) := by decide +kernel
theorem dX11_light_8 : decode cX11_light 8 = .ok (.aload_n 0, 1) := by decide +kernel
theorem dX11_light_9 : decode cX11_light 9 = .ok (.iload_n 1, 1) := by decide +kernel
theorem dX11_light_10 : decode cX11_light 10 = .ok (.aload_n 0, 1) := by decide +kernel
theorem dX11_light_11 : decode cX11_light 11 = .ok (.getfield 39, 3) := by decide +kernel
theorem dX11_light_14 : decode cX11_light 14 = .ok (.iconst 5, 1) := by decide +kernel
theorem dX11_light_15 : decode cX11_light 15 = .ok (.iaload, 1) := by decide +kernel
theorem dX11_light_16 : decode cX11_light 16 = .ok (.invokevirtual 288, 3) := by decide +kernel
theorem dX11_light_19 : decode cX11_light 19 = .ok (.iload_n 2, 1) := by decide +kernel
theorem dX11_light_20 : decode cX11_light 20 = .ok (.if_icmp .ne 5, 3) := by decide +kernel
theorem dX11_light_23 : decode cX11_light 23 = .ok (.iconst 0, 1) := by decide +kernel
theorem dX11_light_24 : decode cX11_light 24 = .ok (.ireturn, 1) := by decide +kernel
theorem dX11_light_25 : decode cX11_light 25 = .ok (.aload_n 0, 1) := by decide +kernel
theorem dX11_light_26 : decode cX11_light 26 = .ok (.invokevirtual 356, 3) := by decide +kernel
theorem dX11_light_29 : decode cX11_light 29 = .ok (.aload_n 0, 1) := by decide +kernel
theorem dX11_light_30 : decode cX11_light 30 = .ok (.getfield 39, 3) := by decide +kernel
theorem dX11_light_33 : decode cX11_light 33 = .ok (.bipush 40, 2) := by decide +kernel
theorem dX11_light_35 : decode cX11_light 35 = .ok (.iload_n 1, 1) := by decide +kernel
theorem dX11_light_36 : decode cX11_light 36 = .ok (.iadd, 1) := by decide +kernel
theorem dX11_light_37 : decode cX11_light 37 = .ok (.iload_n 2, 1) := by decide +kernel
theorem dX11_light_38 : decode cX11_light 38 = .ok (.ifCond .eq 7, 3) := by decide +kernel
theorem dX11_light_41 : decode cX11_light 41 = .ok (.iconst 1, 1) := by decide +kernel
theorem dX11_light_42 : decode cX11_light 42 = .ok (.goto 4, 3) := by decide +kernel
theorem dX11_light_45 : decode cX11_light 45 = .ok (.iconst 2, 1) := by decide +kernel
theorem dX11_light_46 : decode cX11_light 46 = .ok (.iastore, 1) := by decide +kernel
theorem dX11_light_47 : decode cX11_light 47 = .ok (.iconst 1, 1) := by decide +kernel
theorem dX11_light_48 : decode cX11_light 48 = .ok (.ireturn, 1) := by decide +kernel
theorem dX11_divisor_0 : decode cX11_divisor 0 = .ok (.iload_n 0, 1) := by decide +kernel
theorem dX11_divisor_1 : decode cX11_divisor 1 = .ok (.istore_n 2, 1) := by decide +kernel
theorem dX11_divisor_2 : decode cX11_divisor 2 = .ok (.iload_n 1, 1) := by decide +kernel
theorem dX11_divisor_3 : decode cX11_divisor 3 = .ok (.istore_n 3, 1) := by decide +kernel
theorem dX11_divisor_4 : decode cX11_divisor 4 = .ok (.iload_n 3, 1) := by decide +kernel
theorem dX11_divisor_5 : decode cX11_divisor 5 = .ok (.ifCond .eq 16, 3) := by decide +kernel
theorem dX11_divisor_8 : decode cX11_divisor 8 = .ok (.iload_n 2, 1) := by decide +kernel
theorem dX11_divisor_9 : decode cX11_divisor 9 = .ok (.iload_n 3, 1) := by decide +kernel
theorem dX11_divisor_10 : decode cX11_divisor 10 = .ok (.irem, 1) := by decide +kernel
theorem dX11_divisor_11 : decode cX11_divisor 11 = .ok (.istore 4, 2) := by decide +kernel
theorem dX11_divisor_13 : decode cX11_divisor 13 = .ok (.iload_n 3, 1) := by decide +kernel
theorem dX11_divisor_14 : decode cX11_divisor 14 = .ok (.istore_n 2, 1) := by decide +kernel
theorem dX11_divisor_15 : decode cX11_divisor 15 = .ok (.iload 4, 2) := by decide +kernel
theorem dX11_divisor_17 : decode cX11_divisor 17 = .ok (.istore_n 3, 1) := by decide +kernel
theorem dX11_divisor_18 : decode cX11_divisor 18 = .ok (.goto (-14), 3) := by decide +kernel
theorem dX11_divisor_21 : decode cX11_divisor 21 = .ok (.iload_n 2, 1) := by decide +kernel
theorem dX11_divisor_22 : decode cX11_divisor 22 = .ok (.ireturn, 1) := by decide +kernel
theorem dX11_fraction_0 : decode cX11_fraction 0 = .ok (.iload_n 1, 1) := by decide +kernel
theorem dX11_fraction_1 : decode cX11_fraction 1 = .ok (.iload_n 0, 1) := by decide +kernel
theorem dX11_fraction_2 : decode cX11_fraction 2 = .ok (.ifCond .ge 8, 3) := by decide +kernel
theorem dX11_fraction_5 : decode cX11_fraction 5 = .ok (.iload_n 0, 1) := by decide +kernel
theorem dX11_fraction_6 : decode cX11_fraction 6 = .ok (.ineg, 1) := by decide +kernel
theorem dX11_fraction_7 : decode cX11_fraction 7 = .ok (.goto 4, 3) := by decide +kernel
theorem dX11_fraction_10 : decode cX11_fraction 10 = .ok (.iload_n 0, 1) := by decide +kernel
theorem dX11_fraction_11 : decode cX11_fraction 11 = .ok (.invokestatic 362, 3) := by decide +kernel
theorem dX11_fraction_14 : decode cX11_fraction 14 = .ok (.istore_n 3, 1) := by decide +kernel
theorem dX11_fraction_15 : decode cX11_fraction 15 = .ok (.iload_n 2, 1) := by decide +kernel
theorem dX11_fraction_16 : decode cX11_fraction 16 = .ok (.ifCond .ne 7, 3) := by decide +kernel
theorem dX11_fraction_19 : decode cX11_fraction 19 = .ok (.iload_n 0, 1) := by decide +kernel
theorem dX11_fraction_20 : decode cX11_fraction 20 = .ok (.goto 4, 3) := by decide +kernel
theorem dX11_fraction_23 : decode cX11_fraction 23 = .ok (.iload_n 1, 1) := by decide +kernel
theorem dX11_fraction_24 : decode cX11_fraction 24 = .ok (.iload_n 3, 1) := by decide +kernel
theorem dX11_fraction_25 : decode cX11_fraction 25 = .ok (.idiv, 1) := by decide +kernel
theorem dX11_fraction_26 : decode cX11_fraction 26 = .ok (.ireturn, 1) := by decide +kernel
theorem dX11_owed_0 : decode cX11_owed 0 = .ok (.aload_n 0, 1) := by decide +kernel
theorem dX11_owed_1 : decode cX11_owed 1 = .ok (.invokevirtual 353, 3) := by decide +kernel
theorem dX11_owed_4 : decode cX11_owed 4 = .ok (.ifCond .eq 26, 3) := by decide +kernel
theorem dX11_owed_7 : decode cX11_owed 7 = .ok (.iload_n 1, 1) := by decide +kernel
theorem dX11_owed_8 : decode cX11_owed 8 = .ok (.iconst (-1), 1) := by decide +kernel
theorem dX11_owed_9 : decode cX11_owed 9 = .ok (.if_icmp .eq 11, 3) := by decide +kernel
theorem dX11_owed_12 : decode cX11_owed 12 = .ok (.aload_n 0, 1) := by decide +kernel
theorem dX11_owed_13 : decode cX11_owed 13 = .ok (.iload_n 1, 1) := by decide +kernel
theorem dX11_owed_14 : decode cX11_owed 14 = .ok (.invokevirtual 304, 3) := by decide +kernel
theorem dX11_owed_17 : decode cX11_owed 17 = .ok (.ifCond .eq 13, 3) := by decide +kernel
theorem dX11_owed_20 : decode cX11_owed 20 = .ok (.iload_n 2, 1) := by decide +kernel
theorem dX11_owed_21 : decode cX11_owed 21 = .ok (.i2l, 1) := by decide +kernel
theorem dX11_owed_22 : decode cX11_owed 22 = .ok (.lconst 0, 1) := by decide +kernel
theorem dX11_owed_23 : decode cX11_owed 23 = .ok (.lconst 1, 1) := by decide +kernel
theorem dX11_owed_24 : decode cX11_owed 24 = .ok (.invokestatic 112, 3) := by decide +kernel
theorem dX11_owed_27 : decode cX11_owed 27 = .ok (.ifCond .ne 5, 3) := by decide +kernel
theorem dX11_owed_30 : decode cX11_owed 30 = .ok (.iconst (-1), 1) := by decide +kernel
theorem dX11_owed_31 : decode cX11_owed 31 = .ok (.ireturn, 1) := by decide +kernel
theorem dX11_owed_32 : decode cX11_owed 32 = .ok (.iload_n 1, 1) := by decide +kernel
theorem dX11_owed_33 : decode cX11_owed 33 = .ok (.iconst (-1), 1) := by decide +kernel
theorem dX11_owed_34 : decode cX11_owed 34 = .ok (.if_icmp .ne 13, 3) := by decide +kernel
theorem dX11_owed_37 : decode cX11_owed 37 = .ok (.aload_n 0, 1) := by decide +kernel
theorem dX11_owed_38 : decode cX11_owed 38 = .ok (.getfield 39, 3) := by decide +kernel
theorem dX11_owed_41 : decode cX11_owed 41 = .ok (.bipush 7, 2) := by decide +kernel
theorem dX11_owed_43 : decode cX11_owed 43 = .ok (.iaload, 1) := by decide +kernel
theorem dX11_owed_44 : decode cX11_owed 44 = .ok (.goto 9, 3) := by decide +kernel
theorem dX11_owed_47 : decode cX11_owed 47 = .ok (.aload_n 0, 1) := by decide +kernel
theorem dX11_owed_48 : decode cX11_owed 48 = .ok (.iload_n 1, 1) := by decide +kernel
theorem dX11_owed_49 : decode cX11_owed 49 = .ok (.iconst 5, 1) := by decide +kernel
theorem dX11_owed_50 : decode cX11_owed 50 = .ok (.invokevirtual 294, 3) := by decide +kernel
theorem dX11_owed_53 : decode cX11_owed 53 = .ok (.bipush 60, 2) := by decide +kernel
theorem dX11_owed_55 : decode cX11_owed 55 = .ok (.iload_n 2, 1) := by decide +kernel
theorem dX11_owed_56 : decode cX11_owed 56 = .ok (.invokestatic 365, 3) := by decide +kernel
theorem dX11_owed_59 : decode cX11_owed 59 = .ok (.ireturn, 1) := by decide +kernel
theorem dX11_keeps_0 : decode cX11_keeps 0 = .ok (.iconst 0, 1) := by decide +kernel
theorem dX11_keeps_1 : decode cX11_keeps 1 = .ok (.istore_n 1, 1) := by decide +kernel
theorem dX11_keeps_2 : decode cX11_keeps 2 = .ok (.iload_n 1, 1) := by decide +kernel
theorem dX11_keeps_3 : decode cX11_keeps 3 = .ok (.bipush 45, 2) := by decide +kernel
theorem dX11_keeps_5 : decode cX11_keeps 5 = .ok (.if_icmp .ge 21, 3) := by decide +kernel
theorem dX11_keeps_8 : decode cX11_keeps 8 = .ok (.aload_n 0, 1) := by decide +kernel
theorem dX11_keeps_9 : decode cX11_keeps 9 = .ok (.getfield 52, 3) := by decide +kernel
theorem dX11_keeps_12 : decode cX11_keeps 12 = .ok (.iload_n 1, 1) := by decide +kernel
theorem dX11_keeps_13 : decode cX11_keeps 13 = .ok (.aload_n 0, 1) := by decide +kernel
theorem dX11_keeps_14 : decode cX11_keeps 14 = .ok (.getfield 39, 3) := by decide +kernel
theorem dX11_keeps_17 : decode cX11_keeps 17 = .ok (.iload_n 1, 1) := by decide +kernel
theorem dX11_keeps_18 : decode cX11_keeps 18 = .ok (.iaload, 1) := by decide +kernel
theorem dX11_keeps_19 : decode cX11_keeps 19 = .ok (.iastore, 1) := by decide +kernel
theorem dX11_keeps_20 : decode cX11_keeps 20 = .ok (.iinc 1 1, 3) := by decide +kernel
theorem dX11_keeps_23 : decode cX11_keeps 23 = .ok (.goto (-21), 3) := by decide +kernel
theorem dX11_keeps_26 : decode cX11_keeps 26 = .ok (.iconst 0, 1) := by decide +kernel
theorem dX11_keeps_27 : decode cX11_keeps 27 = .ok (.istore_n 1, 1) := by decide +kernel
theorem dX11_keeps_28 : decode cX11_keeps 28 = .ok (.iload_n 1, 1) := by decide +kernel
theorem dX11_keeps_29 : decode cX11_keeps 29 = .ok (.iconst 5, 1) := by decide +kernel
theorem dX11_keeps_30 : decode cX11_keeps 30 = .ok (.if_icmp .ge 16, 3) := by decide +kernel
theorem dX11_keeps_33 : decode cX11_keeps 33 = .ok (.aload_n 0, 1) := by decide +kernel
theorem dX11_keeps_34 : decode cX11_keeps 34 = .ok (.getfield 46, 3) := by decide +kernel
theorem dX11_keeps_37 : decode cX11_keeps 37 = .ok (.iload_n 1, 1) := by decide +kernel
theorem dX11_keeps_38 : decode cX11_keeps 38 = .ok (.iconst 0, 1) := by decide +kernel
theorem dX11_keeps_39 : decode cX11_keeps 39 = .ok (.iastore, 1) := by decide +kernel
theorem dX11_keeps_40 : decode cX11_keeps 40 = .ok (.iinc 1 1, 3) := by decide +kernel
theorem dX11_keeps_43 : decode cX11_keeps 43 = .ok (.goto (-15), 3) := by decide +kernel
theorem dX11_keeps_46 : decode cX11_keeps 46 = .ok (.return_, 1) := by decide +kernel
theorem dX11_laysBack_0 : decode cX11_laysBack 0 = .ok (.iconst 0, 1) := by decide +kernel
theorem dX11_laysBack_1 : decode cX11_laysBack 1 = .ok (.istore_n 1, 1) := by decide +kernel
theorem dX11_laysBack_2 : decode cX11_laysBack 2 = .ok (.iload_n 1, 1) := by decide +kernel
theorem dX11_laysBack_3 : decode cX11_laysBack 3 = .ok (.bipush 45, 2) := by decide +kernel
theorem dX11_laysBack_5 : decode cX11_laysBack 5 = .ok (.if_icmp .ge 21, 3) := by decide +kernel
theorem dX11_laysBack_8 : decode cX11_laysBack 8 = .ok (.aload_n 0, 1) := by decide +kernel
theorem dX11_laysBack_9 : decode cX11_laysBack 9 = .ok (.getfield 39, 3) := by decide +kernel
theorem dX11_laysBack_12 : decode cX11_laysBack 12 = .ok (.iload_n 1, 1) := by decide +kernel
theorem dX11_laysBack_13 : decode cX11_laysBack 13 = .ok (.aload_n 0, 1) := by decide +kernel
theorem dX11_laysBack_14 : decode cX11_laysBack 14 = .ok (.getfield 52, 3) := by decide +kernel
theorem dX11_laysBack_17 : decode cX11_laysBack 17 = .ok (.iload_n 1, 1) := by decide +kernel
theorem dX11_laysBack_18 : decode cX11_laysBack 18 = .ok (.iaload, 1) := by decide +kernel
theorem dX11_laysBack_19 : decode cX11_laysBack 19 = .ok (.iastore, 1) := by decide +kernel
theorem dX11_laysBack_20 : decode cX11_laysBack 20 = .ok (.iinc 1 1, 3) := by decide +kernel
theorem dX11_laysBack_23 : decode cX11_laysBack 23 = .ok (.goto (-21), 3) := by decide +kernel
theorem dX11_laysBack_26 : decode cX11_laysBack 26 = .ok (.return_, 1) := by decide +kernel
theorem dX11_ahead_0 : decode cX11_ahead 0 = .ok (.aload_n 0, 1) := by decide +kernel
theorem dX11_ahead_1 : decode cX11_ahead 1 = .ok (.iload_n 1, 1) := by decide +kernel
theorem dX11_ahead_2 : decode cX11_ahead 2 = .ok (.invokevirtual 304, 3) := by decide +kernel
theorem dX11_ahead_5 : decode cX11_ahead 5 = .ok (.ifCond .eq 27, 3) := by decide +kernel
theorem dX11_ahead_8 : decode cX11_ahead 8 = .ok (.iload_n 2, 1) := by decide +kernel
theorem dX11_ahead_9 : decode cX11_ahead 9 = .ok (.i2l, 1) := by decide +kernel
theorem dX11_ahead_10 : decode cX11_ahead 10 = .ok (.lconst 0, 1) := by decide +kernel
theorem dX11_ahead_11 : decode cX11_ahead 11 = .ok (.ldc2_w 369, 3) := by decide +kernel
theorem dX11_ahead_14 : decode cX11_ahead 14 = .ok (.invokestatic 112, 3) := by decide +kernel
theorem dX11_ahead_17 : decode cX11_ahead 17 = .ok (.ifCond .eq 15, 3) := by decide +kernel
theorem dX11_ahead_20 : decode cX11_ahead 20 = .ok (.iload_n 3, 1) := by decide +kernel
theorem dX11_ahead_21 : decode cX11_ahead 21 = .ok (.i2l, 1) := by decide +kernel
theorem dX11_ahead_22 : decode cX11_ahead 22 = .ok (.lconst 0, 1) := by decide +kernel
theorem dX11_ahead_23 : decode cX11_ahead 23 = .ok (.ldc2_w 312, 3) := by decide +kernel
theorem dX11_ahead_26 : decode cX11_ahead 26 = .ok (.invokestatic 112, 3) := by decide +kernel
theorem dX11_ahead_29 : decode cX11_ahead 29 = .ok (.ifCond .ne 5, 3) := by decide +kernel
theorem dX11_ahead_32 : decode cX11_ahead 32 = .ok (.iconst (-1), 1) := by decide +kernel
theorem dX11_ahead_33 : decode cX11_ahead 33 = .ok (.ireturn, 1) := by decide +kernel
theorem dX11_ahead_34 : decode cX11_ahead 34 = .ok (.aload_n 0, 1) := by decide +kernel
theorem dX11_ahead_35 : decode cX11_ahead 35 = .ok (.invokevirtual 371, 3) := by decide +kernel
theorem dX11_ahead_38 : decode cX11_ahead 38 = .ok (.iconst 0, 1) := by decide +kernel
theorem dX11_ahead_39 : decode cX11_ahead 39 = .ok (.istore 4, 2) := by decide +kernel
theorem dX11_ahead_41 : decode cX11_ahead 41 = .ok (.iload 4, 2) := by decide +kernel
theorem dX11_ahead_43 : decode cX11_ahead 43 = .ok (.iload_n 2, 1) := by decide +kernel
theorem dX11_ahead_44 : decode cX11_ahead 44 = .ok (.if_icmp .ge 14, 3) := by decide +kernel
theorem dX11_ahead_47 : decode cX11_ahead 47 = .ok (.aload_n 0, 1) := by decide +kernel
theorem dX11_ahead_48 : decode cX11_ahead 48 = .ok (.invokevirtual 359, 3) := by decide +kernel
theorem dX11_ahead_51 : decode cX11_ahead 51 = .ok (.pop, 1) := by decide +kernel
theorem dX11_ahead_52 : decode cX11_ahead 52 = .ok (.iinc 4 1, 3) := by decide +kernel
theorem dX11_ahead_55 : decode cX11_ahead 55 = .ok (.goto (-14), 3) := by decide +kernel
theorem dX11_ahead_58 : decode cX11_ahead 58 = .ok (.aload_n 0, 1) := by decide +kernel
theorem dX11_ahead_59 : decode cX11_ahead 59 = .ok (.iload_n 1, 1) := by decide +kernel
theorem dX11_ahead_60 : decode cX11_ahead 60 = .ok (.iconst 2, 1) := by decide +kernel
theorem dX11_ahead_61 : decode cX11_ahead 61 = .ok (.iload_n 3, 1) := by decide +kernel
theorem dX11_ahead_62 : decode cX11_ahead 62 = .ok (.iadd, 1) := by decide +kernel
theorem dX11_ahead_63 : decode cX11_ahead 63 = .ok (.invokevirtual 294, 3) := by decide +kernel
theorem dX11_ahead_66 : decode cX11_ahead 66 = .ok (.istore 4, 2) := by decide +kernel
theorem dX11_ahead_68 : decode cX11_ahead 68 = .ok (.aload_n 0, 1) := by decide +kernel
theorem dX11_ahead_69 : decode cX11_ahead 69 = .ok (.invokevirtual 374, 3) := by decide +kernel
theorem dX11_ahead_72 : decode cX11_ahead 72 = .ok (.iload 4, 2) := by decide +kernel
theorem dX11_ahead_74 : decode cX11_ahead 74 = .ok (.ireturn, 1) := by decide +kernel
theorem dX11_worksOne_0 : decode cX11_worksOne 0 = .ok (.iconst 0, 1) := by decide +kernel
theorem dX11_worksOne_1 : decode cX11_worksOne 1 = .ok (.istore_n 3, 1) := by decide +kernel
theorem dX11_worksOne_2 : decode cX11_worksOne 2 = .ok (.iload_n 3, 1) := by decide +kernel
theorem dX11_worksOne_3 : decode cX11_worksOne 3 = .ok (.aload_n 0, 1) := by decide +kernel
theorem dX11_worksOne_4 : decode cX11_worksOne 4 = .ok (.getfield 39, 3) := by decide +kernel
theorem dX11_worksOne_7 : decode cX11_worksOne 7 = .ok (.iconst 1, 1) := by decide +kernel
theorem dX11_worksOne_8 : decode cX11_worksOne 8 = .ok (.iaload, 1) := by decide +kernel
theorem dX11_worksOne_9 : decode cX11_worksOne 9 = .ok (.if_icmp .ge 28, 3) := by decide +kernel
theorem dX11_worksOne_12 : decode cX11_worksOne 12 = .ok (.iload_n 1, 1) := by decide +kernel
theorem dX11_worksOne_13 : decode cX11_worksOne 13 = .ok (.iload_n 3, 1) := by decide +kernel
theorem dX11_worksOne_14 : decode cX11_worksOne 14 = .ok (.invokestatic 377, 3) := by decide +kernel
theorem dX11_worksOne_17 : decode cX11_worksOne 17 = .ok (.ifCond .eq 14, 3) := by decide +kernel
theorem dX11_worksOne_20 : decode cX11_worksOne 20 = .ok (.aload_n 0, 1) := by decide +kernel
theorem dX11_worksOne_21 : decode cX11_worksOne 21 = .ok (.iload_n 3, 1) := by decide +kernel
theorem dX11_worksOne_22 : decode cX11_worksOne 22 = .ok (.iload_n 2, 1) := by decide +kernel
theorem dX11_worksOne_23 : decode cX11_worksOne 23 = .ok (.invokevirtual 298, 3) := by decide +kernel
theorem dX11_worksOne_26 : decode cX11_worksOne 26 = .ok (.ifCond .eq 5, 3) := by decide +kernel
theorem dX11_worksOne_29 : decode cX11_worksOne 29 = .ok (.iconst 1, 1) := by decide +kernel
theorem dX11_worksOne_30 : decode cX11_worksOne 30 = .ok (.ireturn, 1) := by decide +kernel
theorem dX11_worksOne_31 : decode cX11_worksOne 31 = .ok (.iinc 3 1, 3) := by decide +kernel
theorem dX11_worksOne_34 : decode cX11_worksOne 34 = .ok (.goto (-32), 3) := by decide +kernel
theorem dX11_worksOne_37 : decode cX11_worksOne 37 = .ok (.iconst 0, 1) := by decide +kernel
theorem dX11_worksOne_38 : decode cX11_worksOne 38 = .ok (.ireturn, 1) := by decide +kernel
theorem dX11_findsCheap_0 : decode cX11_findsCheap 0 = .ok (.iconst 0, 1) := by decide +kernel
theorem dX11_findsCheap_1 : decode cX11_findsCheap 1 = .ok (.istore_n 3, 1) := by decide +kernel
theorem dX11_findsCheap_2 : decode cX11_findsCheap 2 = .ok (.aload_n 0, 1) := by decide +kernel
theorem dX11_findsCheap_3 : decode cX11_findsCheap 3 = .ok (.getfield 39, 3) := by decide +kernel
theorem dX11_findsCheap_6 : decode cX11_findsCheap 6 = .ok (.iconst 5, 1) := by decide +kernel
theorem dX11_findsCheap_7 : decode cX11_findsCheap 7 = .ok (.iaload, 1) := by decide +kernel
theorem dX11_findsCheap_8 : decode cX11_findsCheap 8 = .ok (.istore 4, 2) := by decide +kernel
theorem dX11_findsCheap_10 : decode cX11_findsCheap 10 = .ok (.iload 4, 2) := by decide +kernel
theorem dX11_findsCheap_12 : decode cX11_findsCheap 12 = .ok (.aload_n 0, 1) := by decide +kernel
theorem dX11_findsCheap_13 : decode cX11_findsCheap 13 = .ok (.getfield 39, 3) := by decide +kernel
theorem dX11_findsCheap_16 : decode cX11_findsCheap 16 = .ok (.iconst 0, 1) := by decide +kernel
theorem dX11_findsCheap_17 : decode cX11_findsCheap 17 = .ok (.iaload, 1) := by decide +kernel
theorem dX11_findsCheap_18 : decode cX11_findsCheap 18 = .ok (.if_icmp .ge 30, 3) := by decide +kernel
theorem dX11_findsCheap_21 : decode cX11_findsCheap 21 = .ok (.iload_n 3, 1) := by decide +kernel
theorem dX11_findsCheap_22 : decode cX11_findsCheap 22 = .ok (.aload_n 0, 1) := by decide +kernel
theorem dX11_findsCheap_23 : decode cX11_findsCheap 23 = .ok (.iload_n 1, 1) := by decide +kernel
theorem dX11_findsCheap_24 : decode cX11_findsCheap 24 = .ok (.iload 4, 2) := by decide +kernel
theorem dX11_findsCheap_26 : decode cX11_findsCheap 26 = .ok (.invokevirtual 380, 3) := by decide +kernel
theorem dX11_findsCheap_29 : decode cX11_findsCheap 29 = .ok (.ifCond .eq 7, 3) := by decide +kernel
theorem dX11_findsCheap_32 : decode cX11_findsCheap 32 = .ok (.iconst 0, 1) := by decide +kernel
theorem dX11_findsCheap_33 : decode cX11_findsCheap 33 = .ok (.goto 7, 3) := by decide +kernel
theorem dX11_findsCheap_36 : decode cX11_findsCheap 36 = .ok (.iconst 1, 1) := by decide +kernel
theorem dX11_findsCheap_37 : decode cX11_findsCheap 37 = .ok (.iload 4, 2) := by decide +kernel
theorem dX11_findsCheap_39 : decode cX11_findsCheap 39 = .ok (.ishl, 1) := by decide +kernel
theorem dX11_findsCheap_40 : decode cX11_findsCheap 40 = .ok (.ior, 1) := by decide +kernel
theorem dX11_findsCheap_41 : decode cX11_findsCheap 41 = .ok (.istore_n 3, 1) := by decide +kernel
theorem dX11_findsCheap_42 : decode cX11_findsCheap 42 = .ok (.iinc 4 1, 3) := by decide +kernel
theorem dX11_findsCheap_45 : decode cX11_findsCheap 45 = .ok (.goto (-35), 3) := by decide +kernel
theorem dX11_findsCheap_48 : decode cX11_findsCheap 48 = .ok (.aload_n 0, 1) := by decide +kernel
theorem dX11_findsCheap_49 : decode cX11_findsCheap 49 = .ok (.iconst (-1), 1) := by decide +kernel
theorem dX11_findsCheap_50 : decode cX11_findsCheap 50 = .ok (.putfield 383, 3) := by decide +kernel
theorem dX11_findsCheap_53 : decode cX11_findsCheap 53 = .ok (.aload_n 0, 1) := by decide +kernel
theorem dX11_findsCheap_54 : decode cX11_findsCheap 54 = .ok (.iconst 0, 1) := by decide +kernel
theorem dX11_findsCheap_55 : decode cX11_findsCheap 55 = .ok (.putfield 386, 3) := by decide +kernel
theorem dX11_findsCheap_58 : decode cX11_findsCheap 58 = .ok (.iconst 0, 1) := by decide +kernel
theorem dX11_findsCheap_59 : decode cX11_findsCheap 59 = .ok (.istore 4, 2) := by decide +kernel
theorem dX11_findsCheap_61 : decode cX11_findsCheap 61 = .ok (.iload 4, 2) := by decide +kernel
theorem dX11_findsCheap_63 : decode cX11_findsCheap 63 = .ok (.iconst 1, 1) := by decide +kernel
theorem dX11_findsCheap_64 : decode cX11_findsCheap 64 = .ok (.aload_n 0, 1) := by decide +kernel
theorem dX11_findsCheap_65 : decode cX11_findsCheap 65 = .ok (.getfield 39, 3) := by decide +kernel
theorem dX11_findsCheap_68 : decode cX11_findsCheap 68 = .ok (.iconst 0, 1) := by decide +kernel
theorem dX11_findsCheap_69 : decode cX11_findsCheap 69 = .ok (.iaload, 1) := by decide +kernel
theorem dX11_findsCheap_70 : decode cX11_findsCheap 70 = .ok (.ishl, 1) := by decide +kernel
theorem dX11_findsCheap_71 : decode cX11_findsCheap 71 = .ok (.if_icmp .ge 109, 3) := by decide +kernel
theorem dX11_findsCheap_74 : decode cX11_findsCheap 74 = .ok (.iload 4, 2) := by decide +kernel
theorem dX11_findsCheap_76 : decode cX11_findsCheap 76 = .ok (.iload_n 3, 1) := by decide +kernel
theorem dX11_findsCheap_77 : decode cX11_findsCheap 77 = .ok (.iconst (-1), 1) := by decide +kernel
theorem dX11_findsCheap_78 : decode cX11_findsCheap 78 = .ok (.ixor, 1) := by decide +kernel
theorem dX11_findsCheap_79 : decode cX11_findsCheap 79 = .ok (.iand, 1) := by decide +kernel
theorem dX11_findsCheap_80 : decode cX11_findsCheap 80 = .ok (.ifCond .ne 94, 3) := by decide +kernel
theorem dX11_findsCheap_83 : decode cX11_findsCheap 83 = .ok (.iload 4, 2) := by decide +kernel
theorem dX11_findsCheap_85 : decode cX11_findsCheap 85 = .ok (.invokestatic 320, 3) := by decide +kernel
theorem dX11_findsCheap_88 : decode cX11_findsCheap 88 = .ok (.iload_n 2, 1) := by decide +kernel
theorem dX11_findsCheap_89 : decode cX11_findsCheap 89 = .ok (.if_icmp .eq 6, 3) := by decide +kernel
theorem dX11_findsCheap_92 : decode cX11_findsCheap 92 = .ok (.goto 82, 3) := by decide +kernel
theorem dX11_findsCheap_95 : decode cX11_findsCheap 95 = .ok (.iconst 0, 1) := by decide +kernel
theorem dX11_findsCheap_96 : decode cX11_findsCheap 96 = .ok (.istore 5, 2) := by decide +kernel
theorem dX11_findsCheap_98 : decode cX11_findsCheap 98 = .ok (.iconst 0, 1) := by decide +kernel
theorem dX11_findsCheap_99 : decode cX11_findsCheap 99 = .ok (.istore 6, 2) := by decide +kernel
theorem dX11_findsCheap_101 : decode cX11_findsCheap 101 = .ok (.iload 6, 2) := by decide +kernel
theorem dX11_findsCheap_103 : decode cX11_findsCheap 103 = .ok (.aload_n 0, 1) := by decide +kernel
theorem dX11_findsCheap_104 : decode cX11_findsCheap 104 = .ok (.getfield 39, 3) := by decide +kernel
theorem dX11_findsCheap_107 : decode cX11_findsCheap 107 = .ok (.iconst 0, 1) := by decide +kernel
theorem dX11_findsCheap_108 : decode cX11_findsCheap 108 = .ok (.iaload, 1) := by decide +kernel
theorem dX11_findsCheap_109 : decode cX11_findsCheap 109 = .ok (.if_icmp .ge 34, 3) := by decide +kernel
theorem dX11_findsCheap_112 : decode cX11_findsCheap 112 = .ok (.iload 5, 2) := by decide +kernel
theorem dX11_findsCheap_114 : decode cX11_findsCheap 114 = .ok (.iload 4, 2) := by decide +kernel
theorem dX11_findsCheap_116 : decode cX11_findsCheap 116 = .ok (.iload 6, 2) := by decide +kernel
theorem dX11_findsCheap_118 : decode cX11_findsCheap 118 = .ok (.invokestatic 377, 3) := by decide +kernel
theorem dX11_findsCheap_121 : decode cX11_findsCheap 121 = .ok (.ifCond .eq 12, 3) := by decide +kernel
theorem dX11_findsCheap_124 : decode cX11_findsCheap 124 = .ok (.aload_n 0, 1) := by decide +kernel
theorem dX11_findsCheap_125 : decode cX11_findsCheap 125 = .ok (.iload 6, 2) := by decide +kernel
theorem dX11_findsCheap_127 : decode cX11_findsCheap 127 = .ok (.invokevirtual 314, 3) := by decide +kernel
theorem dX11_findsCheap_130 : decode cX11_findsCheap 130 = .ok (.goto 4, 3) := by decide +kernel
theorem dX11_findsCheap_133 : decode cX11_findsCheap 133 = .ok (.iconst 0, 1) := by decide +kernel
theorem dX11_findsCheap_134 : decode cX11_findsCheap 134 = .ok (.iadd, 1) := by decide +kernel
theorem dX11_findsCheap_135 : decode cX11_findsCheap 135 = .ok (.istore 5, 2) := by decide +kernel
theorem dX11_findsCheap_137 : decode cX11_findsCheap 137 = .ok (.iinc 6 1, 3) := by decide +kernel
theorem dX11_findsCheap_140 : decode cX11_findsCheap 140 = .ok (.goto (-39), 3) := by decide +kernel
theorem dX11_findsCheap_143 : decode cX11_findsCheap 143 = .ok (.aload_n 0, 1) := by decide +kernel
theorem dX11_findsCheap_144 : decode cX11_findsCheap 144 = .ok (.getfield 383, 3) := by decide +kernel
theorem dX11_findsCheap_147 : decode cX11_findsCheap 147 = .ok (.ifCond .lt 15, 3) := by decide +kernel
theorem dX11_findsCheap_150 : decode cX11_findsCheap 150 = .ok (.iload 5, 2) := by decide +kernel
theorem dX11_findsCheap_152 : decode cX11_findsCheap 152 = .ok (.aload_n 0, 1) := by decide +kernel
theorem dX11_findsCheap_153 : decode cX11_findsCheap 153 = .ok (.getfield 386, 3) := by decide +kernel
theorem dX11_findsCheap_156 : decode cX11_findsCheap 156 = .ok (.if_icmp .lt 6, 3) := by decide +kernel
theorem dX11_findsCheap_159 : decode cX11_findsCheap 159 = .ok (.goto 15, 3) := by decide +kernel
theorem dX11_findsCheap_162 : decode cX11_findsCheap 162 = .ok (.aload_n 0, 1) := by decide +kernel
theorem dX11_findsCheap_163 : decode cX11_findsCheap 163 = .ok (.iload 4, 2) := by decide +kernel
theorem dX11_findsCheap_165 : decode cX11_findsCheap 165 = .ok (.putfield 383, 3) := by decide +kernel
theorem dX11_findsCheap_168 : decode cX11_findsCheap 168 = .ok (.aload_n 0, 1) := by decide +kernel
theorem dX11_findsCheap_169 : decode cX11_findsCheap 169 = .ok (.iload 5, 2) := by decide +kernel
theorem dX11_findsCheap_171 : decode cX11_findsCheap 171 = .ok (.putfield 386, 3) := by decide +kernel
theorem dX11_findsCheap_174 : decode cX11_findsCheap 174 = .ok (.iinc 4 1, 3) := by decide +kernel
theorem dX11_findsCheap_177 : decode cX11_findsCheap 177 = .ok (.goto (-116), 3) := by decide +kernel
theorem dX11_findsCheap_180 : decode cX11_findsCheap 180 = .ok (.return_, 1) := by decide +kernel
theorem dX11_cheapest_0 : decode cX11_cheapest 0 = .ok (.iload_n 1, 1) := by decide +kernel
theorem dX11_cheapest_1 : decode cX11_cheapest 1 = .ok (.invokestatic 320, 3) := by decide +kernel
theorem dX11_cheapest_4 : decode cX11_cheapest 4 = .ok (.istore 4, 2) := by decide +kernel
theorem dX11_cheapest_6 : decode cX11_cheapest 6 = .ok (.aload_n 0, 1) := by decide +kernel
theorem dX11_cheapest_7 : decode cX11_cheapest 7 = .ok (.iload_n 1, 1) := by decide +kernel
theorem dX11_cheapest_8 : decode cX11_cheapest 8 = .ok (.iload_n 2, 1) := by decide +kernel
theorem dX11_cheapest_9 : decode cX11_cheapest 9 = .ok (.invokevirtual 389, 3) := by decide +kernel
theorem dX11_cheapest_12 : decode cX11_cheapest 12 = .ok (.aload_n 0, 1) := by decide +kernel
theorem dX11_cheapest_13 : decode cX11_cheapest 13 = .ok (.getfield 383, 3) := by decide +kernel
theorem dX11_cheapest_16 : decode cX11_cheapest 16 = .ok (.ifCond .ge 6, 3) := by decide +kernel
theorem dX11_cheapest_19 : decode cX11_cheapest 19 = .ok (.bipush (-2), 2) := by decide +kernel
theorem dX11_cheapest_21 : decode cX11_cheapest 21 = .ok (.ireturn, 1) := by decide +kernel
theorem dX11_cheapest_22 : decode cX11_cheapest 22 = .ok (.iload_n 3, 1) := by decide +kernel
theorem dX11_cheapest_23 : decode cX11_cheapest 23 = .ok (.ifCond .ne 10, 3) := by decide +kernel
theorem dX11_cheapest_26 : decode cX11_cheapest 26 = .ok (.aload_n 0, 1) := by decide +kernel
theorem dX11_cheapest_27 : decode cX11_cheapest 27 = .ok (.getfield 383, 3) := by decide +kernel
theorem dX11_cheapest_30 : decode cX11_cheapest 30 = .ok (.goto 30, 3) := by decide +kernel
theorem dX11_cheapest_33 : decode cX11_cheapest 33 = .ok (.aload_n 0, 1) := by decide +kernel
theorem dX11_cheapest_34 : decode cX11_cheapest 34 = .ok (.getfield 386, 3) := by decide +kernel
theorem dX11_cheapest_37 : decode cX11_cheapest 37 = .ok (.iload 4, 2) := by decide +kernel
theorem dX11_cheapest_39 : decode cX11_cheapest 39 = .ok (.imul, 1) := by decide +kernel
theorem dX11_cheapest_40 : decode cX11_cheapest 40 = .ok (.iload 4, 2) := by decide +kernel
theorem dX11_cheapest_42 : decode cX11_cheapest 42 = .ok (.aload_n 0, 1) := by decide +kernel
theorem dX11_cheapest_43 : decode cX11_cheapest 43 = .ok (.invokevirtual 317, 3) := by decide +kernel
theorem dX11_cheapest_46 : decode cX11_cheapest 46 = .ok (.iload_n 1, 1) := by decide +kernel
theorem dX11_cheapest_47 : decode cX11_cheapest 47 = .ok (.iconst (-1), 1) := by decide +kernel
theorem dX11_cheapest_48 : decode cX11_cheapest 48 = .ok (.ixor, 1) := by decide +kernel
theorem dX11_cheapest_49 : decode cX11_cheapest 49 = .ok (.iand, 1) := by decide +kernel
theorem dX11_cheapest_50 : decode cX11_cheapest 50 = .ok (.invokestatic 320, 3) := by decide +kernel
theorem dX11_cheapest_53 : decode cX11_cheapest 53 = .ok (.iadd, 1) := by decide +kernel
theorem dX11_cheapest_54 : decode cX11_cheapest 54 = .ok (.iload_n 3, 1) := by decide +kernel
theorem dX11_cheapest_55 : decode cX11_cheapest 55 = .ok (.iconst 1, 1) := by decide +kernel
theorem dX11_cheapest_56 : decode cX11_cheapest 56 = .ok (.isub, 1) := by decide +kernel
theorem dX11_cheapest_57 : decode cX11_cheapest 57 = .ok (.invokestatic 365, 3) := by decide +kernel
theorem dX11_cheapest_60 : decode cX11_cheapest 60 = .ok (.ireturn, 1) := by decide +kernel
theorem dX11_cheap_0 : decode cX11_cheap 0 = .ok (.aload_n 0, 1) := by decide +kernel
theorem dX11_cheap_1 : decode cX11_cheap 1 = .ok (.iload_n 1, 1) := by decide +kernel
theorem dX11_cheap_2 : decode cX11_cheap 2 = .ok (.invokevirtual 304, 3) := by decide +kernel
theorem dX11_cheap_5 : decode cX11_cheap 5 = .ok (.ifCond .eq 27, 3) := by decide +kernel
theorem dX11_cheap_8 : decode cX11_cheap 8 = .ok (.iload_n 2, 1) := by decide +kernel
theorem dX11_cheap_9 : decode cX11_cheap 9 = .ok (.i2l, 1) := by decide +kernel
theorem dX11_cheap_10 : decode cX11_cheap 10 = .ok (.lconst 0, 1) := by decide +kernel
theorem dX11_cheap_11 : decode cX11_cheap 11 = .ok (.ldc2_w 392, 3) := by decide +kernel
theorem dX11_cheap_14 : decode cX11_cheap 14 = .ok (.invokestatic 112, 3) := by decide +kernel
theorem dX11_cheap_17 : decode cX11_cheap 17 = .ok (.ifCond .eq 15, 3) := by decide +kernel
theorem dX11_cheap_20 : decode cX11_cheap 20 = .ok (.iload_n 3, 1) := by decide +kernel
theorem dX11_cheap_21 : decode cX11_cheap 21 = .ok (.i2l, 1) := by decide +kernel
theorem dX11_cheap_22 : decode cX11_cheap 22 = .ok (.lconst 0, 1) := by decide +kernel
theorem dX11_cheap_23 : decode cX11_cheap 23 = .ok (.ldc2_w 312, 3) := by decide +kernel
theorem dX11_cheap_26 : decode cX11_cheap 26 = .ok (.invokestatic 112, 3) := by decide +kernel
theorem dX11_cheap_29 : decode cX11_cheap 29 = .ok (.ifCond .ne 5, 3) := by decide +kernel
theorem dX11_cheap_32 : decode cX11_cheap 32 = .ok (.iconst (-1), 1) := by decide +kernel
theorem dX11_cheap_33 : decode cX11_cheap 33 = .ok (.ireturn, 1) := by decide +kernel
theorem dX11_cheap_34 : decode cX11_cheap 34 = .ok (.aload_n 0, 1) := by decide +kernel
theorem dX11_cheap_35 : decode cX11_cheap 35 = .ok (.iconst 1, 1) := by decide +kernel
theorem dX11_cheap_36 : decode cX11_cheap 36 = .ok (.iload_n 1, 1) := by decide +kernel
theorem dX11_cheap_37 : decode cX11_cheap 37 = .ok (.ishl, 1) := by decide +kernel
theorem dX11_cheap_38 : decode cX11_cheap 38 = .ok (.iload_n 2, 1) := by decide +kernel
theorem dX11_cheap_39 : decode cX11_cheap 39 = .ok (.iload_n 3, 1) := by decide +kernel
theorem dX11_cheap_40 : decode cX11_cheap 40 = .ok (.invokevirtual 394, 3) := by decide +kernel
theorem dX11_cheap_43 : decode cX11_cheap 43 = .ok (.ireturn, 1) := by decide +kernel
theorem dX11_guild_0 : decode cX11_guild 0 = .ok (.aload_n 0, 1) := by decide +kernel
theorem dX11_guild_1 : decode cX11_guild 1 = .ok (.invokevirtual 353, 3) := by decide +kernel
theorem dX11_guild_4 : decode cX11_guild 4 = .ok (.ifCond .eq 43, 3) := by decide +kernel
theorem dX11_guild_7 : decode cX11_guild 7 = .ok (.iload_n 1, 1) := by decide +kernel
theorem dX11_guild_8 : decode cX11_guild 8 = .ok (.ifCond .le 39, 3) := by decide +kernel
theorem dX11_guild_11 : decode cX11_guild 11 = .ok (.iload_n 1, 1) := by decide +kernel
theorem dX11_guild_12 : decode cX11_guild 12 = .ok (.iconst 1, 1) := by decide +kernel
theorem dX11_guild_13 : decode cX11_guild 13 = .ok (.aload_n 0, 1) := by decide +kernel
theorem dX11_guild_14 : decode cX11_guild 14 = .ok (.getfield 39, 3) := by decide +kernel
theorem dX11_guild_17 : decode cX11_guild 17 = .ok (.iconst 1, 1) := by decide +kernel
theorem dX11_guild_18 : decode cX11_guild 18 = .ok (.iaload, 1) := by decide +kernel
theorem dX11_guild_19 : decode cX11_guild 19 = .ok (.ishl, 1) := by decide +kernel
theorem dX11_guild_20 : decode cX11_guild 20 = .ok (.if_icmp .ge 27, 3) := by decide +kernel
theorem dX11_guild_23 : decode cX11_guild 23 = .ok (.iload_n 2, 1) := by decide +kernel
theorem dX11_guild_24 : decode cX11_guild 24 = .ok (.i2l, 1) := by decide +kernel
theorem dX11_guild_25 : decode cX11_guild 25 = .ok (.lconst 0, 1) := by decide +kernel
theorem dX11_guild_26 : decode cX11_guild 26 = .ok (.ldc2_w 392, 3) := by decide +kernel
theorem dX11_guild_29 : decode cX11_guild 29 = .ok (.invokestatic 112, 3) := by decide +kernel
theorem dX11_guild_32 : decode cX11_guild 32 = .ok (.ifCond .eq 15, 3) := by decide +kernel
theorem dX11_guild_35 : decode cX11_guild 35 = .ok (.iload_n 3, 1) := by decide +kernel
theorem dX11_guild_36 : decode cX11_guild 36 = .ok (.i2l, 1) := by decide +kernel
theorem dX11_guild_37 : decode cX11_guild 37 = .ok (.lconst 0, 1) := by decide +kernel
theorem dX11_guild_38 : decode cX11_guild 38 = .ok (.ldc2_w 312, 3) := by decide +kernel
theorem dX11_guild_41 : decode cX11_guild 41 = .ok (.invokestatic 112, 3) := by decide +kernel
theorem dX11_guild_44 : decode cX11_guild 44 = .ok (.ifCond .ne 5, 3) := by decide +kernel
theorem dX11_guild_47 : decode cX11_guild 47 = .ok (.iconst (-1), 1) := by decide +kernel
theorem dX11_guild_48 : decode cX11_guild 48 = .ok (.ireturn, 1) := by decide +kernel
theorem dX11_guild_49 : decode cX11_guild 49 = .ok (.aload_n 0, 1) := by decide +kernel
theorem dX11_guild_50 : decode cX11_guild 50 = .ok (.iload_n 1, 1) := by decide +kernel
theorem dX11_guild_51 : decode cX11_guild 51 = .ok (.iload_n 2, 1) := by decide +kernel
theorem dX11_guild_52 : decode cX11_guild 52 = .ok (.iload_n 3, 1) := by decide +kernel
theorem dX11_guild_53 : decode cX11_guild 53 = .ok (.invokevirtual 394, 3) := by decide +kernel
theorem dX11_guild_56 : decode cX11_guild 56 = .ok (.ireturn, 1) := by decide +kernel
theorem dX11_isRest_0 : decode cX11_isRest 0 = .ok (.aload_n 0, 1) := by decide +kernel
theorem dX11_isRest_1 : decode cX11_isRest 1 = .ok (.invokevirtual 397, 3) := by decide +kernel
theorem dX11_isRest_4 : decode cX11_isRest 4 = .ok (.istore_n 2, 1) := by decide +kernel
theorem dX11_isRest_5 : decode cX11_isRest 5 = .ok (.aload_n 0, 1) := by decide +kernel
theorem dX11_isRest_6 : decode cX11_isRest 6 = .ok (.aload_n 0, 1) := by decide +kernel
theorem dX11_isRest_7 : decode cX11_isRest 7 = .ok (.getfield 39, 3) := by decide +kernel
theorem dX11_isRest_10 : decode cX11_isRest 10 = .ok (.iconst 5, 1) := by decide +kernel
theorem dX11_isRest_11 : decode cX11_isRest 11 = .ok (.iaload, 1) := by decide +kernel
theorem dX11_isRest_12 : decode cX11_isRest 12 = .ok (.invokevirtual 314, 3) := by decide +kernel
theorem dX11_isRest_15 : decode cX11_isRest 15 = .ok (.istore_n 3, 1) := by decide +kernel
theorem dX11_isRest_16 : decode cX11_isRest 16 = .ok (.iload_n 1, 1) := by decide +kernel
theorem dX11_isRest_17 : decode cX11_isRest 17 = .ok (.invokestatic 320, 3) := by decide +kernel
theorem dX11_isRest_20 : decode cX11_isRest 20 = .ok (.istore 4, 2) := by decide +kernel
theorem dX11_isRest_22 : decode cX11_isRest 22 = .ok (.iload_n 1, 1) := by decide +kernel
theorem dX11_isRest_23 : decode cX11_isRest 23 = .ok (.iload_n 2, 1) := by decide +kernel
theorem dX11_isRest_24 : decode cX11_isRest 24 = .ok (.iconst (-1), 1) := by decide +kernel
theorem dX11_isRest_25 : decode cX11_isRest 25 = .ok (.ixor, 1) := by decide +kernel
theorem dX11_isRest_26 : decode cX11_isRest 26 = .ok (.iand, 1) := by decide +kernel
theorem dX11_isRest_27 : decode cX11_isRest 27 = .ok (.ifCond .eq 5, 3) := by decide +kernel
theorem dX11_isRest_30 : decode cX11_isRest 30 = .ok (.iconst 0, 1) := by decide +kernel
theorem dX11_isRest_31 : decode cX11_isRest 31 = .ok (.ireturn, 1) := by decide +kernel
theorem dX11_isRest_32 : decode cX11_isRest 32 = .ok (.iconst 0, 1) := by decide +kernel
theorem dX11_isRest_33 : decode cX11_isRest 33 = .ok (.istore 5, 2) := by decide +kernel
theorem dX11_isRest_35 : decode cX11_isRest 35 = .ok (.iload 5, 2) := by decide +kernel
theorem dX11_isRest_37 : decode cX11_isRest 37 = .ok (.aload_n 0, 1) := by decide +kernel
theorem dX11_isRest_38 : decode cX11_isRest 38 = .ok (.getfield 39, 3) := by decide +kernel
theorem dX11_isRest_41 : decode cX11_isRest 41 = .ok (.iconst 1, 1) := by decide +kernel
theorem dX11_isRest_42 : decode cX11_isRest 42 = .ok (.iaload, 1) := by decide +kernel
theorem dX11_isRest_43 : decode cX11_isRest 43 = .ok (.if_icmp .ge 64, 3) := by decide +kernel
theorem dX11_isRest_46 : decode cX11_isRest 46 = .ok (.iload_n 2, 1) := by decide +kernel
theorem dX11_isRest_47 : decode cX11_isRest 47 = .ok (.iload 5, 2) := by decide +kernel
theorem dX11_isRest_49 : decode cX11_isRest 49 = .ok (.invokestatic 377, 3) := by decide +kernel
theorem dX11_isRest_52 : decode cX11_isRest 52 = .ok (.ifCond .ne 6, 3) := by decide +kernel
theorem dX11_isRest_55 : decode cX11_isRest 55 = .ok (.goto 46, 3) := by decide +kernel
theorem dX11_isRest_58 : decode cX11_isRest 58 = .ok (.aload_n 0, 1) := by decide +kernel
theorem dX11_isRest_59 : decode cX11_isRest 59 = .ok (.iload 5, 2) := by decide +kernel
theorem dX11_isRest_61 : decode cX11_isRest 61 = .ok (.iconst 1, 1) := by decide +kernel
theorem dX11_isRest_62 : decode cX11_isRest 62 = .ok (.invokevirtual 294, 3) := by decide +kernel
theorem dX11_isRest_65 : decode cX11_isRest 65 = .ok (.istore 6, 2) := by decide +kernel
theorem dX11_isRest_67 : decode cX11_isRest 67 = .ok (.iload_n 1, 1) := by decide +kernel
theorem dX11_isRest_68 : decode cX11_isRest 68 = .ok (.iload 5, 2) := by decide +kernel
theorem dX11_isRest_70 : decode cX11_isRest 70 = .ok (.invokestatic 377, 3) := by decide +kernel
theorem dX11_isRest_73 : decode cX11_isRest 73 = .ok (.ifCond .eq 15, 3) := by decide +kernel
theorem dX11_isRest_76 : decode cX11_isRest 76 = .ok (.iload_n 3, 1) := by decide +kernel
theorem dX11_isRest_77 : decode cX11_isRest 77 = .ok (.iload 6, 2) := by decide +kernel
theorem dX11_isRest_79 : decode cX11_isRest 79 = .ok (.iload 4, 2) := by decide +kernel
theorem dX11_isRest_81 : decode cX11_isRest 81 = .ok (.imul, 1) := by decide +kernel
theorem dX11_isRest_82 : decode cX11_isRest 82 = .ok (.if_icmp .le 19, 3) := by decide +kernel
theorem dX11_isRest_85 : decode cX11_isRest 85 = .ok (.goto 14, 3) := by decide +kernel
theorem dX11_isRest_88 : decode cX11_isRest 88 = .ok (.iload_n 3, 1) := by decide +kernel
theorem dX11_isRest_89 : decode cX11_isRest 89 = .ok (.iload 6, 2) := by decide +kernel
theorem dX11_isRest_91 : decode cX11_isRest 91 = .ok (.iload 4, 2) := by decide +kernel
theorem dX11_isRest_93 : decode cX11_isRest 93 = .ok (.iconst 1, 1) := by decide +kernel
theorem dX11_isRest_94 : decode cX11_isRest 94 = .ok (.iadd, 1) := by decide +kernel
theorem dX11_isRest_95 : decode cX11_isRest 95 = .ok (.imul, 1) := by decide +kernel
theorem dX11_isRest_96 : decode cX11_isRest 96 = .ok (.if_icmp .ge 5, 3) := by decide +kernel
theorem dX11_isRest_99 : decode cX11_isRest 99 = .ok (.iconst 0, 1) := by decide +kernel
theorem dX11_isRest_100 : decode cX11_isRest 100 = .ok (.ireturn, 1) := by decide +kernel
theorem dX11_isRest_101 : decode cX11_isRest 101 = .ok (.iinc 5 1, 3) := by decide +kernel
theorem dX11_isRest_104 : decode cX11_isRest 104 = .ok (.goto (-69), 3) := by decide +kernel
theorem dX11_isRest_107 : decode cX11_isRest 107 = .ok (.iconst 1, 1) := by decide +kernel
theorem dX11_isRest_108 : decode cX11_isRest 108 = .ok (.ireturn, 1) := by decide +kernel
theorem dX11_rest_0 : decode cX11_rest 0 = .ok (.aload_n 0, 1) := by decide +kernel
theorem dX11_rest_1 : decode cX11_rest 1 = .ok (.invokevirtual 353, 3) := by decide +kernel
theorem dX11_rest_4 : decode cX11_rest 4 = .ok (.ifCond .eq 15, 3) := by decide +kernel
theorem dX11_rest_7 : decode cX11_rest 7 = .ok (.iload_n 1, 1) := by decide +kernel
theorem dX11_rest_8 : decode cX11_rest 8 = .ok (.i2l, 1) := by decide +kernel
theorem dX11_rest_9 : decode cX11_rest 9 = .ok (.lconst 0, 1) := by decide +kernel
theorem dX11_rest_10 : decode cX11_rest 10 = .ok (.ldc2_w 312, 3) := by decide +kernel
theorem dX11_rest_13 : decode cX11_rest 13 = .ok (.invokestatic 112, 3) := by decide +kernel
theorem dX11_rest_16 : decode cX11_rest 16 = .ok (.ifCond .ne 5, 3) := by decide +kernel
theorem dX11_rest_19 : decode cX11_rest 19 = .ok (.iconst (-1), 1) := by decide +kernel
theorem dX11_rest_20 : decode cX11_rest 20 = .ok (.ireturn, 1) := by decide +kernel
theorem dX11_rest_21 : decode cX11_rest 21 = .ok (.iconst 0, 1) := by decide +kernel
theorem dX11_rest_22 : decode cX11_rest 22 = .ok (.istore_n 2, 1) := by decide +kernel
theorem dX11_rest_23 : decode cX11_rest 23 = .ok (.bipush (-2), 2) := by decide +kernel
theorem dX11_rest_25 : decode cX11_rest 25 = .ok (.istore_n 3, 1) := by decide +kernel
theorem dX11_rest_26 : decode cX11_rest 26 = .ok (.bipush (-2), 2) := by decide +kernel
theorem dX11_rest_28 : decode cX11_rest 28 = .ok (.istore 4, 2) := by decide +kernel
theorem dX11_rest_30 : decode cX11_rest 30 = .ok (.iconst 0, 1) := by decide +kernel
theorem dX11_rest_31 : decode cX11_rest 31 = .ok (.istore 5, 2) := by decide +kernel
theorem dX11_rest_33 : decode cX11_rest 33 = .ok (.iload 5, 2) := by decide +kernel
theorem dX11_rest_35 : decode cX11_rest 35 = .ok (.iconst 1, 1) := by decide +kernel
theorem dX11_rest_36 : decode cX11_rest 36 = .ok (.aload_n 0, 1) := by decide +kernel
theorem dX11_rest_37 : decode cX11_rest 37 = .ok (.getfield 39, 3) := by decide +kernel
theorem dX11_rest_40 : decode cX11_rest 40 = .ok (.iconst 1, 1) := by decide +kernel
theorem dX11_rest_41 : decode cX11_rest 41 = .ok (.iaload, 1) := by decide +kernel
theorem dX11_rest_42 : decode cX11_rest 42 = .ok (.ishl, 1) := by decide +kernel
theorem dX11_rest_43 : decode cX11_rest 43 = .ok (.if_icmp .ge 39, 3) := by decide +kernel
theorem dX11_rest_46 : decode cX11_rest 46 = .ok (.aload_n 0, 1) := by decide +kernel
theorem dX11_rest_47 : decode cX11_rest 47 = .ok (.iload 5, 2) := by decide +kernel
theorem dX11_rest_49 : decode cX11_rest 49 = .ok (.invokevirtual 400, 3) := by decide +kernel
theorem dX11_rest_52 : decode cX11_rest 52 = .ok (.ifCond .ne 6, 3) := by decide +kernel
theorem dX11_rest_55 : decode cX11_rest 55 = .ok (.goto 21, 3) := by decide +kernel
theorem dX11_rest_58 : decode cX11_rest 58 = .ok (.iload_n 2, 1) := by decide +kernel
theorem dX11_rest_59 : decode cX11_rest 59 = .ok (.ifCond .ne 8, 3) := by decide +kernel
theorem dX11_rest_62 : decode cX11_rest 62 = .ok (.iload 5, 2) := by decide +kernel
theorem dX11_rest_64 : decode cX11_rest 64 = .ok (.goto 4, 3) := by decide +kernel
theorem dX11_rest_67 : decode cX11_rest 67 = .ok (.iload_n 3, 1) := by decide +kernel
theorem dX11_rest_68 : decode cX11_rest 68 = .ok (.istore_n 3, 1) := by decide +kernel
theorem dX11_rest_69 : decode cX11_rest 69 = .ok (.iload 5, 2) := by decide +kernel
theorem dX11_rest_71 : decode cX11_rest 71 = .ok (.istore 4, 2) := by decide +kernel
theorem dX11_rest_73 : decode cX11_rest 73 = .ok (.iinc 2 1, 3) := by decide +kernel
theorem dX11_rest_76 : decode cX11_rest 76 = .ok (.iinc 5 1, 3) := by decide +kernel
theorem dX11_rest_79 : decode cX11_rest 79 = .ok (.goto (-46), 3) := by decide +kernel
theorem dX11_rest_82 : decode cX11_rest 82 = .ok (.iload_n 1, 1) := by decide +kernel
theorem dX11_rest_83 : decode cX11_rest 83 = .ok (.ifCond .ne 7, 3) := by decide +kernel
theorem dX11_rest_86 : decode cX11_rest 86 = .ok (.iload_n 2, 1) := by decide +kernel
theorem dX11_rest_87 : decode cX11_rest 87 = .ok (.goto 14, 3) := by decide +kernel
theorem dX11_rest_90 : decode cX11_rest 90 = .ok (.iload_n 1, 1) := by decide +kernel
theorem dX11_rest_91 : decode cX11_rest 91 = .ok (.iconst 1, 1) := by decide +kernel
theorem dX11_rest_92 : decode cX11_rest 92 = .ok (.if_icmp .ne 7, 3) := by decide +kernel
theorem dX11_rest_95 : decode cX11_rest 95 = .ok (.iload_n 3, 1) := by decide +kernel
theorem dX11_rest_96 : decode cX11_rest 96 = .ok (.goto 5, 3) := by decide +kernel
theorem dX11_rest_99 : decode cX11_rest 99 = .ok (.iload 4, 2) := by decide +kernel
theorem dX11_rest_101 : decode cX11_rest 101 = .ok (.ireturn, 1) := by decide +kernel
theorem dX11_isDarkEnough_0 : decode cX11_isDarkEnough 0 = .ok (.aload_n 0, 1) := by decide +kernel
theorem dX11_isDarkEnough_1 : decode cX11_isDarkEnough 1 = .ok (.invokevirtual 397, 3) := by decide +kernel
theorem dX11_isDarkEnough_4 : decode cX11_isDarkEnough 4 = .ok (.istore_n 2, 1) := by decide +kernel
theorem dX11_isDarkEnough_5 : decode cX11_isDarkEnough 5 = .ok (.iconst 0, 1) := by decide +kernel
theorem dX11_isDarkEnough_6 : decode cX11_isDarkEnough 6 = .ok (.istore_n 3, 1) := by decide +kernel
theorem dX11_isDarkEnough_7 : decode cX11_isDarkEnough 7 = .ok (.iconst 0, 1) := by decide +kernel
theorem dX11_isDarkEnough_8 : decode cX11_isDarkEnough 8 = .ok (.istore 4, 2) := by decide +kernel
theorem dX11_isDarkEnough_10 : decode cX11_isDarkEnough 10 = .ok (.iload 4, 2) := by decide +kernel
theorem dX11_isDarkEnough_12 : decode cX11_isDarkEnough 12 = .ok (.aload_n 0, 1) := by decide +kernel
theorem dX11_isDarkEnough_13 : decode cX11_isDarkEnough 13 = .ok (.getfield 39, 3) := by decide +kernel
theorem dX11_isDarkEnough_16 : decode cX11_isDarkEnough 16 = .ok (.iconst 3, 1) := by decide +kernel
theorem dX11_isDarkEnough_17 : decode cX11_isDarkEnough 17 = .ok (.iaload, 1) := by decide +kernel
theorem dX11_isDarkEnough_18 : decode cX11_isDarkEnough 18 = .ok (.if_icmp .ge 46, 3) := by decide +kernel
theorem dX11_isDarkEnough_21 : decode cX11_isDarkEnough 21 = .ok (.iload_n 3, 1) := by decide +kernel
theorem dX11_isDarkEnough_22 : decode cX11_isDarkEnough 22 = .ok (.aload_n 0, 1) := by decide +kernel
theorem dX11_isDarkEnough_23 : decode cX11_isDarkEnough 23 = .ok (.iload 4, 2) := by decide +kernel
theorem dX11_isDarkEnough_25 : decode cX11_isDarkEnough 25 = .ok (.aload_n 0, 1) := by decide +kernel
theorem dX11_isDarkEnough_26 : decode cX11_isDarkEnough 26 = .ok (.getfield 39, 3) := by decide +kernel
theorem dX11_isDarkEnough_29 : decode cX11_isDarkEnough 29 = .ok (.iconst 5, 1) := by decide +kernel
theorem dX11_isDarkEnough_30 : decode cX11_isDarkEnough 30 = .ok (.iaload, 1) := by decide +kernel
theorem dX11_isDarkEnough_31 : decode cX11_isDarkEnough 31 = .ok (.invokevirtual 288, 3) := by decide +kernel
theorem dX11_isDarkEnough_34 : decode cX11_isDarkEnough 34 = .ok (.ifCond .eq 21, 3) := by decide +kernel
theorem dX11_isDarkEnough_37 : decode cX11_isDarkEnough 37 = .ok (.iload_n 1, 1) := by decide +kernel
theorem dX11_isDarkEnough_38 : decode cX11_isDarkEnough 38 = .ok (.iload 4, 2) := by decide +kernel
theorem dX11_isDarkEnough_40 : decode cX11_isDarkEnough 40 = .ok (.invokestatic 377, 3) := by decide +kernel
theorem dX11_isDarkEnough_43 : decode cX11_isDarkEnough 43 = .ok (.ifCond .ne 12, 3) := by decide +kernel
theorem dX11_isDarkEnough_46 : decode cX11_isDarkEnough 46 = .ok (.aload_n 0, 1) := by decide +kernel
theorem dX11_isDarkEnough_47 : decode cX11_isDarkEnough 47 = .ok (.iload 4, 2) := by decide +kernel
theorem dX11_isDarkEnough_49 : decode cX11_isDarkEnough 49 = .ok (.invokevirtual 291, 3) := by decide +kernel
theorem dX11_isDarkEnough_52 : decode cX11_isDarkEnough 52 = .ok (.goto 4, 3) := by decide +kernel
theorem dX11_isDarkEnough_55 : decode cX11_isDarkEnough 55 = .ok (.iconst 0, 1) := by decide +kernel
theorem dX11_isDarkEnough_56 : decode cX11_isDarkEnough 56 = .ok (.iadd, 1) := by decide +kernel
theorem dX11_isDarkEnough_57 : decode cX11_isDarkEnough 57 = .ok (.istore_n 3, 1) := by decide +kernel
theorem dX11_isDarkEnough_58 : decode cX11_isDarkEnough 58 = .ok (.iinc 4 1, 3) := by decide +kernel
theorem dX11_isDarkEnough_61 : decode cX11_isDarkEnough 61 = .ok (.goto (-51), 3) := by decide +kernel
theorem dX11_isDarkEnough_64 : decode cX11_isDarkEnough 64 = .ok (.iconst 0, 1) := by decide +kernel
theorem dX11_isDarkEnough_65 : decode cX11_isDarkEnough 65 = .ok (.istore 4, 2) := by decide +kernel
theorem dX11_isDarkEnough_67 : decode cX11_isDarkEnough 67 = .ok (.iload 4, 2) := by decide +kernel
theorem dX11_isDarkEnough_69 : decode cX11_isDarkEnough 69 = .ok (.aload_n 0, 1) := by decide +kernel
theorem dX11_isDarkEnough_70 : decode cX11_isDarkEnough 70 = .ok (.getfield 39, 3) := by decide +kernel
theorem dX11_isDarkEnough_73 : decode cX11_isDarkEnough 73 = .ok (.iconst 1, 1) := by decide +kernel
theorem dX11_isDarkEnough_74 : decode cX11_isDarkEnough 74 = .ok (.iaload, 1) := by decide +kernel
theorem dX11_isDarkEnough_75 : decode cX11_isDarkEnough 75 = .ok (.if_icmp .ge 36, 3) := by decide +kernel
theorem dX11_isDarkEnough_78 : decode cX11_isDarkEnough 78 = .ok (.iload_n 2, 1) := by decide +kernel
theorem dX11_isDarkEnough_79 : decode cX11_isDarkEnough 79 = .ok (.iload 4, 2) := by decide +kernel
theorem dX11_isDarkEnough_81 : decode cX11_isDarkEnough 81 = .ok (.invokestatic 377, 3) := by decide +kernel
theorem dX11_isDarkEnough_84 : decode cX11_isDarkEnough 84 = .ok (.ifCond .eq 21, 3) := by decide +kernel
theorem dX11_isDarkEnough_87 : decode cX11_isDarkEnough 87 = .ok (.iload_n 3, 1) := by decide +kernel
theorem dX11_isDarkEnough_88 : decode cX11_isDarkEnough 88 = .ok (.aload_n 0, 1) := by decide +kernel
theorem dX11_isDarkEnough_89 : decode cX11_isDarkEnough 89 = .ok (.iload 4, 2) := by decide +kernel
theorem dX11_isDarkEnough_91 : decode cX11_isDarkEnough 91 = .ok (.iconst 1, 1) := by decide +kernel
theorem dX11_isDarkEnough_92 : decode cX11_isDarkEnough 92 = .ok (.invokevirtual 294, 3) := by decide +kernel
theorem dX11_isDarkEnough_95 : decode cX11_isDarkEnough 95 = .ok (.iload_n 2, 1) := by decide +kernel
theorem dX11_isDarkEnough_96 : decode cX11_isDarkEnough 96 = .ok (.invokestatic 320, 3) := by decide +kernel
theorem dX11_isDarkEnough_99 : decode cX11_isDarkEnough 99 = .ok (.imul, 1) := by decide +kernel
theorem dX11_isDarkEnough_100 : decode cX11_isDarkEnough 100 = .ok (.if_icmp .le 5, 3) := by decide +kernel
theorem dX11_isDarkEnough_103 : decode cX11_isDarkEnough 103 = .ok (.iconst 0, 1) := by decide +kernel
theorem dX11_isDarkEnough_104 : decode cX11_isDarkEnough 104 = .ok (.ireturn, 1) := by decide +kernel
theorem dX11_isDarkEnough_105 : decode cX11_isDarkEnough 105 = .ok (.iinc 4 1, 3) := by decide +kernel
theorem dX11_isDarkEnough_108 : decode cX11_isDarkEnough 108 = .ok (.goto (-41), 3) := by decide +kernel
theorem dX11_isDarkEnough_111 : decode cX11_isDarkEnough 111 = .ok (.iconst 1, 1) := by decide +kernel
theorem dX11_isDarkEnough_112 : decode cX11_isDarkEnough 112 = .ok (.ireturn, 1) := by decide +kernel
set_option maxRecDepth 20000 in
def fX11_words (N : Nat)  (a0 : Nat) (p1 : Int32) (u : SG) : Option (Unit × SG) := if zK u a0 = 12 then (Option.bind (zR u a0 19) fun q1 => (if zK u q1 = 23 then if zN u q1 ≤ 0 then none else bs (sL u q1 0 p1.toInt64) fun u2 => (if zK u2 a0 = 12 then (Option.bind (zR u2 a0 19) fun q3 => (if zK u2 a0 = 12 then (Option.bind (zR u2 a0 20) fun q4 => (if zK u2 q4 = 22 then if zN u2 q4 ≤ 5 then none else (if zK u2 q3 = 23 then if zN u2 q3 ≤ 1 then none else bs (sL u2 q3 1 ((zI u2 q4 5).toInt64)) fun u5 => (if zK u5 a0 = 12 then (Option.bind (zR u5 a0 19) fun q6 => (if zK u5 a0 = 12 then (Option.bind (zR u5 a0 20) fun q7 => (if zK u5 q7 = 22 then if zN u5 q7 ≤ 6 then none else (if zK u5 q6 = 23 then if zN u5 q6 ≤ 2 then none else bs (sL u5 q6 2 ((zI u5 q7 6).toInt64)) fun u8 => (if zK u8 a0 = 12 then (Option.bind (zR u8 a0 19) fun q9 => (if zK u8 a0 = 12 then cl (fX11_personOf N a0 p1 (0 : Int32) u8) fun r10 u11 => (if zK u11 q9 = 23 then if zN u11 q9 ≤ 3 then none else bs (sL u11 q9 3 r10.toInt64) fun u12 => (if zK u12 a0 = 12 then (Option.bind (zR u12 a0 19) fun q13 => (if zK u12 a0 = 12 then cl (fX11_personOf N a0 p1 (1 : Int32) u12) fun r14 u15 => (if zK u15 q13 = 23 then if zN u15 q13 ≤ 4 then none else bs (sL u15 q13 4 r14.toInt64) fun u16 => (if zK u16 a0 = 12 then (Option.bind (zR u16 a0 19) fun q17 => (if zK u16 a0 = 12 then cl (fX11_personOf N a0 p1 (3 : Int32) u16) fun r18 u19 => (if zK u19 q17 = 23 then if zN u19 q17 ≤ 5 then none else bs (sL u19 q17 5 r18.toInt64) fun u20 => (if zK u20 a0 = 12 then (Option.bind (zR u20 a0 19) fun q21 => (if zK u20 a0 = 12 then (Option.bind (zR u20 a0 20) fun q22 => (if zK u20 q22 = 22 then if zN u20 q22 ≤ 0 then none else (if zK u20 a0 = 12 then (Option.bind (zR u20 a0 20) fun q23 => (if zK u20 q23 = 22 then if zN u20 q23 ≤ 5 then none else (if zK u20 q21 = 23 then if zN u20 q21 ≤ 6 then none else bs (sL u20 q21 6 (((zI u20 q22 0) - (zI u20 q23 5)).toInt64)) fun u24 => (if zK u24 a0 = 12 then (Option.bind (zR u24 a0 19) fun q25 => (if zK u24 a0 = 12 then (Option.bind (zR u24 a0 20) fun q26 => (if zK u24 q26 = 22 then if zN u24 q26 ≤ 5 then none else (if zK u24 a0 = 12 then cl (fX11_costIn N a0 (zI u24 q26 5) u24) fun r27 u28 => (if zK u28 q25 = 23 then if zN u28 q25 ≤ 7 then none else bs (sL u28 q25 7 r27.toInt64) fun u29 => (if zK u29 a0 = 12 then (Option.bind (zR u29 a0 19) fun q30 => (if zK u29 a0 = 12 then cl (fX11_sleepers N a0 u29) fun r31 u32 => (cl (fX11_bits N (r31 &&& (((1 : Int32) <<< (p1 &&& 31)) ^^^ (-1 : Int32))) u32) fun r33 u34 => (if zK u34 q30 = 23 then if zN u34 q30 ≤ 8 then none else bs (sL u34 q30 8 r33.toInt64) fun u35 => (if zK u35 a0 = 12 then (Option.bind (zR u35 a0 19) fun q36 => (if zK u35 a0 = 12 then cl (fX11_personOf N a0 p1 (2 : Int32) u35) fun r37 u38 => (if zK u38 q36 = 23 then if zN u38 q36 ≤ 9 then none else bs (sL u38 q36 9 r37.toInt64) fun u39 => (if zK u39 a0 = 12 then (Option.bind (zR u39 a0 19) fun q40 => (if zK u39 a0 = 12 then cl (fX11_personOf N a0 p1 (5 : Int32) u39) fun r41 u42 => (if (60 : Int32) = 0 then none else (if zK u42 q40 = 23 then if zN u42 q40 ≤ 10 then none else bs (sL u42 q40 10 ((r41 / (60 : Int32)).toInt64)) fun u43 => (if zK u43 a0 = 12 then (Option.bind (zR u43 a0 19) fun q44 => (if zK u43 a0 = 12 then cl (fX11_personOf N a0 p1 (4 : Int32) u43) fun r45 u46 => (if zK u46 q44 = 23 then if zN u46 q44 ≤ 11 then none else bs (sL u46 q44 11 r45.toInt64) fun u47 => (if zK u47 a0 = 12 then (Option.bind (zR u47 a0 19) fun q48 => (if zK u47 a0 = 12 then cl (fX11_ownCost N a0 p1 u47) fun r49 u50 => (if zK u50 q48 = 23 then if zN u50 q48 ≤ 12 then none else bs (sL u50 q48 12 r49.toInt64) fun u51 => (some ((), u51)) else none) else none)) else none) else none) else none)) else none) else none)) else none)) else none) else none) else none)) else none) else none)) else none)) else none) else none) else none) else none)) else none)) else none) else none) else none)) else none) else none)) else none)) else none) else none) else none)) else none) else none) else none)) else none) else none) else none)) else none) else none) else none)) else none)) else none) else none) else none)) else none)) else none) else none)) else none
set_option maxRecDepth 20000 in
set_option maxHeartbeats 4000000 in
theorem kX11_words  (N : Nat)  (l : Launch) (D : va_G) (cT : Nat → ClassId) (z0 : Nat) (ks : Nat × Nat) (a0 : Nat) (p1 : Int32) (u : SG) : Ct l D cT z0 ks yX11_words cX11_words 2 none 4 0 0 vU [.ref a0, .int p1] u (fX11_words N  a0 p1 u) := by
  unfold fX11_words
  refine ct_of (by decide +kernel) (Nat.le_of_ble_eq_true rfl) (fun p e R s m args below meth c hX => ?_)
  show JF _ True 2 0 0 _ 0 [(0, .ref a0), (1, .int p1)] [] u _
  refine jf_aload_n hX dX11_words_0 0 rfl ?_
  refine jf_getR hX ck_X11 19 wfl_30 (by decide) rfl dX11_words_1 ?_
  refine jf_nn (fun q1 => ?_)
  refine jf_iconst (v := 0) hX dX11_words_4 (by decide) ?_
  refine jf_iload_n hX dX11_words_5 1 rfl ?_
  refine jf_i2l hX dX11_words_6 ?_
  refine jf_lastc 0 hX trivial (by decide) (by decide) dX11_words_7 (fun u2 => ?_)
  refine jf_aload_n hX dX11_words_8 0 rfl ?_
  refine jf_getR hX ck_X11 19 wfl_30 (by decide) rfl dX11_words_9 ?_
  refine jf_nn (fun q3 => ?_)
  refine jf_iconst (v := 1) hX dX11_words_12 (by decide) ?_
  refine jf_aload_n hX dX11_words_13 0 rfl ?_
  refine jf_getR hX ck_X11 20 wfl_31 (by decide) rfl dX11_words_14 ?_
  refine jf_nn (fun q4 => ?_)
  refine jf_iconst (v := 5) hX dX11_words_17 (by decide) ?_
  refine jf_ialdc 5 hX (by decide) (by decide) dX11_words_18 ?_
  refine jf_i2l hX dX11_words_19 ?_
  refine jf_lastc 1 hX trivial (by decide) (by decide) dX11_words_20 (fun u5 => ?_)
  refine jf_aload_n hX dX11_words_21 0 rfl ?_
  refine jf_getR hX ck_X11 19 wfl_30 (by decide) rfl dX11_words_22 ?_
  refine jf_nn (fun q6 => ?_)
  refine jf_iconst (v := 2) hX dX11_words_25 (by decide) ?_
  refine jf_aload_n hX dX11_words_26 0 rfl ?_
  refine jf_getR hX ck_X11 20 wfl_31 (by decide) rfl dX11_words_27 ?_
  refine jf_nn (fun q7 => ?_)
  refine jf_bipush (v := 6) hX dX11_words_30 (by decide) ?_
  refine jf_ialdc 6 hX (by decide) (by decide) dX11_words_32 ?_
  refine jf_i2l hX dX11_words_33 ?_
  refine jf_lastc 2 hX trivial (by decide) (by decide) dX11_words_34 (fun u8 => ?_)
  refine jf_aload_n hX dX11_words_35 0 rfl ?_
  refine jf_getR hX ck_X11 19 wfl_30 (by decide) rfl dX11_words_36 ?_
  refine jf_nn (fun q9 => ?_)
  refine jf_iconst (v := 3) hX dX11_words_39 (by decide) ?_
  refine jf_aload_n hX dX11_words_40 0 rfl ?_
  refine jf_iload_n hX dX11_words_41 1 rfl ?_
  refine jf_iconst (v := 0) hX dX11_words_42 (by decide) ?_
  refine jf_callV (As := [.int p1, .int (0 : Int32)]) (st := [.int (3 : Int32), .ref q9]) hX mo_X11_personOf wml_201 winst_202 wsel_203 11 ck_X11 rfl (fun l D cT z0 ks => kX11_personOf N l D cT z0 ks a0 p1 (0 : Int32) u8) (by decide) (by decide) (by decide) (by decide) (Nat.le_of_ble_eq_true rfl) rfl rfl dX11_words_43 (fun r10 u11 => ?_)
  refine jf_i2l hX dX11_words_46 ?_
  refine jf_lastc 3 hX trivial (by decide) (by decide) dX11_words_47 (fun u12 => ?_)
  refine jf_aload_n hX dX11_words_48 0 rfl ?_
  refine jf_getR hX ck_X11 19 wfl_30 (by decide) rfl dX11_words_49 ?_
  refine jf_nn (fun q13 => ?_)
  refine jf_iconst (v := 4) hX dX11_words_52 (by decide) ?_
  refine jf_aload_n hX dX11_words_53 0 rfl ?_
  refine jf_iload_n hX dX11_words_54 1 rfl ?_
  refine jf_iconst (v := 1) hX dX11_words_55 (by decide) ?_
  refine jf_callV (As := [.int p1, .int (1 : Int32)]) (st := [.int (4 : Int32), .ref q13]) hX mo_X11_personOf wml_201 winst_202 wsel_203 11 ck_X11 rfl (fun l D cT z0 ks => kX11_personOf N l D cT z0 ks a0 p1 (1 : Int32) u12) (by decide) (by decide) (by decide) (by decide) (Nat.le_of_ble_eq_true rfl) rfl rfl dX11_words_56 (fun r14 u15 => ?_)
  refine jf_i2l hX dX11_words_59 ?_
  refine jf_lastc 4 hX trivial (by decide) (by decide) dX11_words_60 (fun u16 => ?_)
  refine jf_aload_n hX dX11_words_61 0 rfl ?_
  refine jf_getR hX ck_X11 19 wfl_30 (by decide) rfl dX11_words_62 ?_
  refine jf_nn (fun q17 => ?_)
  refine jf_iconst (v := 5) hX dX11_words_65 (by decide) ?_
  refine jf_aload_n hX dX11_words_66 0 rfl ?_
  refine jf_iload_n hX dX11_words_67 1 rfl ?_
  refine jf_iconst (v := 3) hX dX11_words_68 (by decide) ?_
  refine jf_callV (As := [.int p1, .int (3 : Int32)]) (st := [.int (5 : Int32), .ref q17]) hX mo_X11_personOf wml_201 winst_202 wsel_203 11 ck_X11 rfl (fun l D cT z0 ks => kX11_personOf N l D cT z0 ks a0 p1 (3 : Int32) u16) (by decide) (by decide) (by decide) (by decide) (Nat.le_of_ble_eq_true rfl) rfl rfl dX11_words_69 (fun r18 u19 => ?_)
  refine jf_i2l hX dX11_words_72 ?_
  refine jf_lastc 5 hX trivial (by decide) (by decide) dX11_words_73 (fun u20 => ?_)
  refine jf_aload_n hX dX11_words_74 0 rfl ?_
  refine jf_getR hX ck_X11 19 wfl_30 (by decide) rfl dX11_words_75 ?_
  refine jf_nn (fun q21 => ?_)
  refine jf_bipush (v := 6) hX dX11_words_78 (by decide) ?_
  refine jf_aload_n hX dX11_words_80 0 rfl ?_
  refine jf_getR hX ck_X11 20 wfl_31 (by decide) rfl dX11_words_81 ?_
  refine jf_nn (fun q22 => ?_)
  refine jf_iconst (v := 0) hX dX11_words_84 (by decide) ?_
  refine jf_ialdc 0 hX (by decide) (by decide) dX11_words_85 ?_
  refine jf_aload_n hX dX11_words_86 0 rfl ?_
  refine jf_getR hX ck_X11 20 wfl_31 (by decide) rfl dX11_words_87 ?_
  refine jf_nn (fun q23 => ?_)
  refine jf_iconst (v := 5) hX dX11_words_90 (by decide) ?_
  refine jf_ialdc 5 hX (by decide) (by decide) dX11_words_91 ?_
  refine jf_isub hX dX11_words_92 ?_
  refine jf_i2l hX dX11_words_93 ?_
  refine jf_lastc 6 hX trivial (by decide) (by decide) dX11_words_94 (fun u24 => ?_)
  refine jf_aload_n hX dX11_words_95 0 rfl ?_
  refine jf_getR hX ck_X11 19 wfl_30 (by decide) rfl dX11_words_96 ?_
  refine jf_nn (fun q25 => ?_)
  refine jf_bipush (v := 7) hX dX11_words_99 (by decide) ?_
  refine jf_aload_n hX dX11_words_101 0 rfl ?_
  refine jf_aload_n hX dX11_words_102 0 rfl ?_
  refine jf_getR hX ck_X11 20 wfl_31 (by decide) rfl dX11_words_103 ?_
  refine jf_nn (fun q26 => ?_)
  refine jf_iconst (v := 5) hX dX11_words_106 (by decide) ?_
  refine jf_ialdc 5 hX (by decide) (by decide) dX11_words_107 ?_
  refine jf_callV (As := [.int (zI u24 q26 5)]) (st := [.int (7 : Int32), .ref q25]) hX mo_X11_costIn wml_218 winst_219 wsel_220 11 ck_X11 rfl (fun l D cT z0 ks => kX11_costIn N l D cT z0 ks a0 (zI u24 q26 5) u24) (by decide) (by decide) (by decide) (by decide) (Nat.le_of_ble_eq_true rfl) rfl rfl dX11_words_108 (fun r27 u28 => ?_)
  refine jf_i2l hX dX11_words_111 ?_
  refine jf_lastc 7 hX trivial (by decide) (by decide) dX11_words_112 (fun u29 => ?_)
  refine jf_aload_n hX dX11_words_113 0 rfl ?_
  refine jf_getR hX ck_X11 19 wfl_30 (by decide) rfl dX11_words_114 ?_
  refine jf_nn (fun q30 => ?_)
  refine jf_bipush (v := 8) hX dX11_words_117 (by decide) ?_
  refine jf_aload_n hX dX11_words_119 0 rfl ?_
  refine jf_callV (As := []) (st := [.int (8 : Int32), .ref q30]) hX mo_X11_sleepers wml_221 winst_222 wsel_223 11 ck_X11 rfl (fun l D cT z0 ks => kX11_sleepers N l D cT z0 ks a0 u29) (by decide) (by decide) (by decide) (by decide) (Nat.le_of_ble_eq_true rfl) rfl rfl dX11_words_120 (fun r31 u32 => ?_)
  refine jf_iconst (v := 1) hX dX11_words_123 (by decide) ?_
  refine jf_iload_n hX dX11_words_124 1 rfl ?_
  refine jf_ishl hX dX11_words_125 ?_
  refine jf_iconst (v := -1) hX dX11_words_126 (by decide) ?_
  refine jf_ixor hX dX11_words_127 ?_
  refine jf_iand hX dX11_words_128 ?_
  refine jf_callS (As := [.int (r31 &&& (((1 : Int32) <<< (p1 &&& 31)) ^^^ (-1 : Int32)))]) (st := [.int (8 : Int32), .ref q30]) hX mo_X11_bits wml_224 wstat_225 rfl (fun l D cT z0 ks => kX11_bits N l D cT z0 ks (r31 &&& (((1 : Int32) <<< (p1 &&& 31)) ^^^ (-1 : Int32))) u32) (by decide) (by decide) (by decide) (by decide) (Nat.le_of_ble_eq_true rfl) rfl rfl dX11_words_129 (fun r33 u34 => ?_)
  refine jf_i2l hX dX11_words_132 ?_
  refine jf_lastc 8 hX trivial (by decide) (by decide) dX11_words_133 (fun u35 => ?_)
  refine jf_aload_n hX dX11_words_134 0 rfl ?_
  refine jf_getR hX ck_X11 19 wfl_30 (by decide) rfl dX11_words_135 ?_
  refine jf_nn (fun q36 => ?_)
  refine jf_bipush (v := 9) hX dX11_words_138 (by decide) ?_
  refine jf_aload_n hX dX11_words_140 0 rfl ?_
  refine jf_iload_n hX dX11_words_141 1 rfl ?_
  refine jf_iconst (v := 2) hX dX11_words_142 (by decide) ?_
  refine jf_callV (As := [.int p1, .int (2 : Int32)]) (st := [.int (9 : Int32), .ref q36]) hX mo_X11_personOf wml_201 winst_202 wsel_203 11 ck_X11 rfl (fun l D cT z0 ks => kX11_personOf N l D cT z0 ks a0 p1 (2 : Int32) u35) (by decide) (by decide) (by decide) (by decide) (Nat.le_of_ble_eq_true rfl) rfl rfl dX11_words_143 (fun r37 u38 => ?_)
  refine jf_i2l hX dX11_words_146 ?_
  refine jf_lastc 9 hX trivial (by decide) (by decide) dX11_words_147 (fun u39 => ?_)
  refine jf_aload_n hX dX11_words_148 0 rfl ?_
  refine jf_getR hX ck_X11 19 wfl_30 (by decide) rfl dX11_words_149 ?_
  refine jf_nn (fun q40 => ?_)
  refine jf_bipush (v := 10) hX dX11_words_152 (by decide) ?_
  refine jf_aload_n hX dX11_words_154 0 rfl ?_
  refine jf_iload_n hX dX11_words_155 1 rfl ?_
  refine jf_iconst (v := 5) hX dX11_words_156 (by decide) ?_
  refine jf_callV (As := [.int p1, .int (5 : Int32)]) (st := [.int (10 : Int32), .ref q40]) hX mo_X11_personOf wml_201 winst_202 wsel_203 11 ck_X11 rfl (fun l D cT z0 ks => kX11_personOf N l D cT z0 ks a0 p1 (5 : Int32) u39) (by decide) (by decide) (by decide) (by decide) (Nat.le_of_ble_eq_true rfl) rfl rfl dX11_words_157 (fun r41 u42 => ?_)
  refine jf_bipush (v := 60) hX dX11_words_160 (by decide) ?_
  refine jf_idiv hX dX11_words_162 ?_
  refine jf_i2l hX dX11_words_163 ?_
  refine jf_lastc 10 hX trivial (by decide) (by decide) dX11_words_164 (fun u43 => ?_)
  refine jf_aload_n hX dX11_words_165 0 rfl ?_
  refine jf_getR hX ck_X11 19 wfl_30 (by decide) rfl dX11_words_166 ?_
  refine jf_nn (fun q44 => ?_)
  refine jf_bipush (v := 11) hX dX11_words_169 (by decide) ?_
  refine jf_aload_n hX dX11_words_171 0 rfl ?_
  refine jf_iload_n hX dX11_words_172 1 rfl ?_
  refine jf_iconst (v := 4) hX dX11_words_173 (by decide) ?_
  refine jf_callV (As := [.int p1, .int (4 : Int32)]) (st := [.int (11 : Int32), .ref q44]) hX mo_X11_personOf wml_201 winst_202 wsel_203 11 ck_X11 rfl (fun l D cT z0 ks => kX11_personOf N l D cT z0 ks a0 p1 (4 : Int32) u43) (by decide) (by decide) (by decide) (by decide) (Nat.le_of_ble_eq_true rfl) rfl rfl dX11_words_174 (fun r45 u46 => ?_)
  refine jf_i2l hX dX11_words_177 ?_
  refine jf_lastc 11 hX trivial (by decide) (by decide) dX11_words_178 (fun u47 => ?_)
  refine jf_aload_n hX dX11_words_179 0 rfl ?_
  refine jf_getR hX ck_X11 19 wfl_30 (by decide) rfl dX11_words_180 ?_
  refine jf_nn (fun q48 => ?_)
  refine jf_bipush (v := 12) hX dX11_words_183 (by decide) ?_
  refine jf_aload_n hX dX11_words_185 0 rfl ?_
  refine jf_iload_n hX dX11_words_186 1 rfl ?_
  refine jf_callV (As := [.int p1]) (st := [.int (12 : Int32), .ref q48]) hX mo_X11_ownCost wml_226 winst_227 wsel_228 11 ck_X11 rfl (fun l D cT z0 ks => kX11_ownCost N l D cT z0 ks a0 p1 u47) (by decide) (by decide) (by decide) (by decide) (Nat.le_of_ble_eq_true rfl) rfl rfl dX11_words_187 (fun r49 u50 => ?_)
  refine jf_i2l hX dX11_words_190 ?_
  refine jf_lastc 12 hX trivial (by decide) (by decide) dX11_words_191 (fun u51 => ?_)
  exact jf_vret hX rfl (by decide) (by decide) dX11_words_192
set_option maxRecDepth 20000 in
def gX11_summedBy_58 (N : Nat)   (x0 : Nat) (x1 : Int32) (x3 : Int32) (u : SG) : Option (Int64 × SG) := if zK u x0 = 12 then (Option.bind (zR u x0 5) fun q1 => (if zK u q1 = 22 then if x3 < 0 ∨ zN u q1 ≤ x3.toNatClampNeg then none else (if zK u x0 = 12 then (Option.bind (zR u x0 5) fun q2 => (if zK u q2 = 22 then if (x3 + (1 : Int32)) < 0 ∨ zN u q2 ≤ (x3 + (1 : Int32)).toNatClampNeg then none else (if zK u x0 = 12 then cl (fX11_reckons N x0 x1 (zI u q1 x3.toNatClampNeg) (zI u q2 (x3 + (1 : Int32)).toNatClampNeg) u) fun r3 u4 => (some (r3, u4)) else none) else none)) else none) else none)) else none
set_option maxRecDepth 20000 in
set_option maxHeartbeats 4000000 in
theorem jgX11_summedBy_58   {X : XT} (hX : Cx X yX11_summedBy cX11_summedBy 4 (some .long) 3 0 0) (N : Nat)  (x0 : Nat) (x1 : Int32) (x3 : Int32) (u : SG) : JF X True 4 0 0 (jQ X vL 0 0) 58 [(0, .ref x0), (1, .int x1), (3, .int x3)] [] u (gX11_summedBy_58 N   x0 x1 x3 u) := by
  unfold gX11_summedBy_58
  refine jf_aload_n hX dX11_summedBy_58 0 rfl ?_
  refine jf_iload_n hX dX11_summedBy_59 1 rfl ?_
  refine jf_aload_n hX dX11_summedBy_60 0 rfl ?_
  refine jf_getR hX ck_X11 5 wfl_24 (by decide) rfl dX11_summedBy_61 ?_
  refine jf_nn (fun q1 => ?_)
  refine jf_iload_n hX dX11_summedBy_64 2 rfl ?_
  refine jf_iald hX dX11_summedBy_65 ?_
  refine jf_aload_n hX dX11_summedBy_66 0 rfl ?_
  refine jf_getR hX ck_X11 5 wfl_24 (by decide) rfl dX11_summedBy_67 ?_
  refine jf_nn (fun q2 => ?_)
  refine jf_iload_n hX dX11_summedBy_70 2 rfl ?_
  refine jf_iconst (v := 1) hX dX11_summedBy_71 (by decide) ?_
  refine jf_iadd hX dX11_summedBy_72 ?_
  refine jf_iald hX dX11_summedBy_73 ?_
  refine jf_callV (As := [.int x1, .int (zI u q1 x3.toNatClampNeg), .int (zI u q2 (x3 + (1 : Int32)).toNatClampNeg)]) (st := []) hX mo_X11_reckons wml_229 winst_230 wsel_231 11 ck_X11 rfl (fun l D cT z0 ks => kX11_reckons N l D cT z0 ks x0 x1 (zI u q1 x3.toNatClampNeg) (zI u q2 (x3 + (1 : Int32)).toNatClampNeg) u) (by decide) (by decide) (by decide) (by decide) (Nat.le_of_ble_eq_true rfl) rfl rfl dX11_summedBy_74 (fun r3 u4 => ?_)
  exact jf_lret hX rfl (by decide) (by decide) dX11_summedBy_77
set_option maxRecDepth 20000 in
def gX11_summedBy_2 (N : Nat)   : Nat → Nat → Int32 → Int32 → SG → Option (Int64 × SG)
  | 0, _, _, _, _ => none
  | n + 1, x0, x1, x2, u => if zK u x0 = 12 then (Option.bind (zR u x0 6) fun q1 => (if zK u q1 = 22 then if x1 < 0 ∨ zN u q1 ≤ x1.toNatClampNeg then none else (if (zI u q1 x1.toNatClampNeg) ≤ x2 then (some ((0 : Int64), u))
  else (bs (((48 : Int32) * x1) + ((4 : Int32) * x2)) fun v2 => (if zK u x0 = 12 then (Option.bind (zR u x0 5) fun q3 => (if zK u q3 = 22 then if (v2 + (2 : Int32)) < 0 ∨ zN u q3 ≤ (v2 + (2 : Int32)).toNatClampNeg then none else (if (zI u q3 (v2 + (2 : Int32)).toNatClampNeg) < 0 then (gX11_summedBy_58 N  x0 x1 v2 u)
  else (if zK u x0 = 12 then (Option.bind (zR u x0 5) fun q4 => (if zK u q4 = 22 then if (v2 + (2 : Int32)) < 0 ∨ zN u q4 ≤ (v2 + (2 : Int32)).toNatClampNeg then none else (if zK u x0 = 12 then (Option.bind (zR u x0 5) fun q5 => (if zK u q5 = 22 then if (v2 + (3 : Int32)) < 0 ∨ zN u q5 ≤ (v2 + (3 : Int32)).toNatClampNeg then none else (if zK u x0 = 12 then cl (fX11_reckons N x0 x1 (zI u q4 (v2 + (2 : Int32)).toNatClampNeg) (zI u q5 (v2 + (3 : Int32)).toNatClampNeg) u) fun r6 u7 => (if (lg_cmp r6 (1 : Int64)) = 0 then (gX11_summedBy_58 N  x0 x1 v2 u7)
  else ((gX11_summedBy_2 N  n) x0 x1 (x2 + (1 : Int32)) u7)) else none) else none)) else none) else none)) else none)) else none)) else none))) else none)) else none
set_option maxRecDepth 20000 in
set_option maxHeartbeats 4000000 in
theorem jgX11_summedBy_2   {X : XT} (hX : Cx X yX11_summedBy cX11_summedBy 4 (some .long) 3 0 0) (N : Nat)  : ∀ (n : Nat) (x0 : Nat) (x1 : Int32) (x2 : Int32) (u : SG), JF X True 4 0 0 (jQ X vL 0 0) 2 [(0, .ref x0), (1, .int x1), (2, .int x2)] [] u (gX11_summedBy_2 N   n x0 x1 x2 u) := by
  intro n
  induction n with
  | zero => intros; intro r u9 h9; exact absurd h9 (by simp [gX11_summedBy_2])
  | succ n ih =>
    intro x0 x1 x2 u
    have hrec2 := ih
    rw [gX11_summedBy_2]
    refine jf_iload_n hX dX11_summedBy_2 2 rfl ?_
    refine jf_aload_n hX dX11_summedBy_3 0 rfl ?_
    refine jf_getR hX ck_X11 6 wfl_25 (by decide) rfl dX11_summedBy_4 ?_
    refine jf_nn (fun q1 => ?_)
    refine jf_iload_n hX dX11_summedBy_7 1 rfl ?_
    refine jf_iald hX dX11_summedBy_8 ?_
    refine jf_icmp_ge (tgt := 84) hX dX11_summedBy_9 (by decide) ?_ ?_
    · refine jf_lconst (v := 0) hX dX11_summedBy_84 (by decide) ?_
      exact jf_lret hX rfl (by decide) (by decide) dX11_summedBy_85
    · refine jf_bipush (v := 48) hX dX11_summedBy_12 (by decide) ?_
      refine jf_iload_n hX dX11_summedBy_14 1 rfl ?_
      refine jf_imul hX dX11_summedBy_15 ?_
      refine jf_iconst (v := 4) hX dX11_summedBy_16 (by decide) ?_
      refine jf_iload_n hX dX11_summedBy_17 2 rfl ?_
      refine jf_imul hX dX11_summedBy_18 ?_
      refine jf_iadd hX dX11_summedBy_19 ?_
      refine jf_nmI (fun v2 => ?_)
      refine jf_istore_n (lv' := [(3, .int v2), (0, .ref x0), (1, .int x1), (2, .int x2)]) hX dX11_summedBy_20 rfl (by decide) rfl ?_
      refine jf_aload_n hX dX11_summedBy_21 1 rfl ?_
      refine jf_getR hX ck_X11 5 wfl_24 (by decide) rfl dX11_summedBy_22 ?_
      refine jf_nn (fun q3 => ?_)
      refine jf_iload_n hX dX11_summedBy_25 0 rfl ?_
      refine jf_iconst (v := 2) hX dX11_summedBy_26 (by decide) ?_
      refine jf_iadd hX dX11_summedBy_27 ?_
      refine jf_iald hX dX11_summedBy_28 ?_
      refine jf_if_lt (tgt := 58) hX dX11_summedBy_29 (by decide) ?_ ?_
      · refine jf_lv [1, 2, 0] rfl ?_
        exact jgX11_summedBy_58 hX N  x0 x1 v2 u
      · refine jf_aload_n hX dX11_summedBy_32 1 rfl ?_
        refine jf_iload_n hX dX11_summedBy_33 2 rfl ?_
        refine jf_aload_n hX dX11_summedBy_34 1 rfl ?_
        refine jf_getR hX ck_X11 5 wfl_24 (by decide) rfl dX11_summedBy_35 ?_
        refine jf_nn (fun q4 => ?_)
        refine jf_iload_n hX dX11_summedBy_38 0 rfl ?_
        refine jf_iconst (v := 2) hX dX11_summedBy_39 (by decide) ?_
        refine jf_iadd hX dX11_summedBy_40 ?_
        refine jf_iald hX dX11_summedBy_41 ?_
        refine jf_aload_n hX dX11_summedBy_42 1 rfl ?_
        refine jf_getR hX ck_X11 5 wfl_24 (by decide) rfl dX11_summedBy_43 ?_
        refine jf_nn (fun q5 => ?_)
        refine jf_iload_n hX dX11_summedBy_46 0 rfl ?_
        refine jf_iconst (v := 3) hX dX11_summedBy_47 (by decide) ?_
        refine jf_iadd hX dX11_summedBy_48 ?_
        refine jf_iald hX dX11_summedBy_49 ?_
        refine jf_callV (As := [.int x1, .int (zI u q4 (v2 + (2 : Int32)).toNatClampNeg), .int (zI u q5 (v2 + (3 : Int32)).toNatClampNeg)]) (st := []) hX mo_X11_reckons wml_229 winst_230 wsel_231 11 ck_X11 rfl (fun l D cT z0 ks => kX11_reckons N l D cT z0 ks x0 x1 (zI u q4 (v2 + (2 : Int32)).toNatClampNeg) (zI u q5 (v2 + (3 : Int32)).toNatClampNeg) u) (by decide) (by decide) (by decide) (by decide) (Nat.le_of_ble_eq_true rfl) rfl rfl dX11_summedBy_50 (fun r6 u7 => ?_)
        refine jf_lconst (v := 1) hX dX11_summedBy_53 (by decide) ?_
        refine jf_lcmp hX dX11_summedBy_54 ?_
        refine jf_if_ne (tgt := 78) hX dX11_summedBy_55 (by decide) ?_ ?_
        · refine jf_iinc (v := 1) (lv' := [(2, .int (x2 + (1 : Int32))), (3, .int v2), (0, .ref x0), (1, .int x1)]) hX dX11_summedBy_78 3 rfl (by decide) (by decide) rfl ?_
          refine jf_goto (tgt := 2) hX dX11_summedBy_81 (by decide) ?_
          refine jf_lv [2, 3, 0] rfl ?_
          exact hrec2 x0 x1 (x2 + (1 : Int32)) u7
        · refine jf_lv [1, 2, 0] rfl ?_
          exact jgX11_summedBy_58 hX N  x0 x1 v2 u7
set_option maxRecDepth 20000 in
def fX11_summedBy (N : Nat)  (a0 : Nat) (p1 : Int32) (u : SG) : Option (Int64 × SG) := gX11_summedBy_2 N  N a0 p1 (0 : Int32) u
set_option maxRecDepth 20000 in
set_option maxHeartbeats 4000000 in
theorem kX11_summedBy  (N : Nat)  (l : Launch) (D : va_G) (cT : Nat → ClassId) (z0 : Nat) (ks : Nat × Nat) (a0 : Nat) (p1 : Int32) (u : SG) : Ct l D cT z0 ks yX11_summedBy cX11_summedBy 4 (some .long) 3 0 0 vL [.ref a0, .int p1] u (fX11_summedBy N  a0 p1 u) := by
  unfold fX11_summedBy
  refine ct_of (by decide +kernel) (Nat.le_of_ble_eq_true rfl) (fun p e R s m args below meth c hX => ?_)
  show JF _ True 4 0 0 _ 0 [(0, .ref a0), (1, .int p1)] [] u _
  refine jf_iconst (v := 0) hX dX11_summedBy_0 (by decide) ?_
  refine jf_istore_n (lv' := [(2, .int (0 : Int32)), (0, .ref a0), (1, .int p1)]) hX dX11_summedBy_1 rfl (by decide) rfl ?_
  refine jf_lv [1, 2, 0] rfl ?_
  exact jgX11_summedBy_2 hX N  N a0 p1 (0 : Int32) u
set_option maxRecDepth 20000 in
def fX11_setsAsleep (N : Nat)  (a0 : Nat) (p1 : Int32) (p2 : Int32) (u : SG) : Option (Unit × SG) := if zK u a0 = 12 then (Option.bind (zR u a0 20) fun q1 => (if p2 = 0 then (if zK u q1 = 22 then if (((10 : Int32) + ((6 : Int32) * p1)) + (2 : Int32)) < 0 ∨ zN u q1 ≤ (((10 : Int32) + ((6 : Int32) * p1)) + (2 : Int32)).toNatClampNeg then none else bs (sI u q1 (((10 : Int32) + ((6 : Int32) * p1)) + (2 : Int32)).toNatClampNeg (0 : Int32)) fun u2 => (some ((), u2)) else none)
  else (if zK u q1 = 22 then if (((10 : Int32) + ((6 : Int32) * p1)) + (2 : Int32)) < 0 ∨ zN u q1 ≤ (((10 : Int32) + ((6 : Int32) * p1)) + (2 : Int32)).toNatClampNeg then none else bs (sI u q1 (((10 : Int32) + ((6 : Int32) * p1)) + (2 : Int32)).toNatClampNeg (1 : Int32)) fun u3 => (some ((), u3)) else none))) else none
set_option maxRecDepth 20000 in
set_option maxHeartbeats 4000000 in
theorem kX11_setsAsleep  (N : Nat)  (l : Launch) (D : va_G) (cT : Nat → ClassId) (z0 : Nat) (ks : Nat × Nat) (a0 : Nat) (p1 : Int32) (p2 : Int32) (u : SG) : Ct l D cT z0 ks yX11_setsAsleep cX11_setsAsleep 3 none 1 0 0 vU [.ref a0, .int p1, .int p2] u (fX11_setsAsleep N  a0 p1 p2 u) := by
  unfold fX11_setsAsleep
  refine ct_of (by decide +kernel) (Nat.le_of_ble_eq_true rfl) (fun p e R s m args below meth c hX => ?_)
  show JF _ True 3 0 0 _ 0 [(0, .ref a0), (1, .int p1), (2, .int p2)] [] u _
  refine jf_aload_n hX dX11_setsAsleep_0 0 rfl ?_
  refine jf_getR hX ck_X11 20 wfl_31 (by decide) rfl dX11_setsAsleep_1 ?_
  refine jf_nn (fun q1 => ?_)
  refine jf_bipush (v := 10) hX dX11_setsAsleep_4 (by decide) ?_
  refine jf_bipush (v := 6) hX dX11_setsAsleep_6 (by decide) ?_
  refine jf_iload_n hX dX11_setsAsleep_8 1 rfl ?_
  refine jf_imul hX dX11_setsAsleep_9 ?_
  refine jf_iadd hX dX11_setsAsleep_10 ?_
  refine jf_iconst (v := 2) hX dX11_setsAsleep_11 (by decide) ?_
  refine jf_iadd hX dX11_setsAsleep_12 ?_
  refine jf_iload_n hX dX11_setsAsleep_13 2 rfl ?_
  refine jf_if_eq (tgt := 21) hX dX11_setsAsleep_14 (by decide) ?_ ?_
  · refine jf_iconst (v := 0) hX dX11_setsAsleep_21 (by decide) ?_
    refine jf_iast hX trivial dX11_setsAsleep_22 (fun u2 => ?_)
    exact jf_vret hX rfl (by decide) (by decide) dX11_setsAsleep_23
  · refine jf_iconst (v := 1) hX dX11_setsAsleep_17 (by decide) ?_
    refine jf_goto (tgt := 22) hX dX11_setsAsleep_18 (by decide) ?_
    refine jf_iast hX trivial dX11_setsAsleep_22 (fun u3 => ?_)
    exact jf_vret hX rfl (by decide) (by decide) dX11_setsAsleep_23
set_option maxRecDepth 20000 in
def gX11_wakesWorkers_2 (N : Nat)   : Nat → Nat → Int32 → SG → Option (Unit × SG)
  | 0, _, _, _ => none
  | n + 1, x0, x1, u => if zK u x0 = 12 then (Option.bind (zR u x0 20) fun q1 => (if zK u q1 = 22 then if zN u q1 ≤ 1 then none else (if (zI u q1 1) ≤ x1 then (some ((), u))
  else (if zK u x0 = 12 then (Option.bind (zR u x0 20) fun q2 => (if zK u q2 = 22 then if zN u q2 ≤ 5 then none else (if zK u x0 = 12 then cl (fX11_worksIn N x0 x1 (zI u q2 5) u) fun r3 u4 => (if r3 = 0 then ((gX11_wakesWorkers_2 N  n) x0 (x1 + (1 : Int32)) u4)
  else (if zK u4 x0 = 12 then cl (fX11_setsAsleep N x0 x1 (0 : Int32) u4) fun r5 u6 => ((gX11_wakesWorkers_2 N  n) x0 (x1 + (1 : Int32)) u6) else none)) else none) else none)) else none)) else none)) else none
set_option maxRecDepth 20000 in
set_option maxHeartbeats 4000000 in
theorem jgX11_wakesWorkers_2   {X : XT} (hX : Cx X yX11_wakesWorkers cX11_wakesWorkers 2 none 2 0 0) (N : Nat)  : ∀ (n : Nat) (x0 : Nat) (x1 : Int32) (u : SG), JF X True 2 0 0 (jQ X vU 0 0) 2 [(0, .ref x0), (1, .int x1)] [] u (gX11_wakesWorkers_2 N   n x0 x1 u) := by
  intro n
  induction n with
  | zero => intros; intro r u9 h9; exact absurd h9 (by simp [gX11_wakesWorkers_2])
  | succ n ih =>
    intro x0 x1 u
    have hrec2 := ih
    rw [gX11_wakesWorkers_2]
    refine jf_iload_n hX dX11_wakesWorkers_2 1 rfl ?_
    refine jf_aload_n hX dX11_wakesWorkers_3 0 rfl ?_
    refine jf_getR hX ck_X11 20 wfl_31 (by decide) rfl dX11_wakesWorkers_4 ?_
    refine jf_nn (fun q1 => ?_)
    refine jf_iconst (v := 1) hX dX11_wakesWorkers_7 (by decide) ?_
    refine jf_ialdc 1 hX (by decide) (by decide) dX11_wakesWorkers_8 ?_
    refine jf_icmp_ge (tgt := 38) hX dX11_wakesWorkers_9 (by decide) ?_ ?_
    · exact jf_vret hX rfl (by decide) (by decide) dX11_wakesWorkers_38
    · refine jf_aload_n hX dX11_wakesWorkers_12 0 rfl ?_
      refine jf_iload_n hX dX11_wakesWorkers_13 1 rfl ?_
      refine jf_aload_n hX dX11_wakesWorkers_14 0 rfl ?_
      refine jf_getR hX ck_X11 20 wfl_31 (by decide) rfl dX11_wakesWorkers_15 ?_
      refine jf_nn (fun q2 => ?_)
      refine jf_iconst (v := 5) hX dX11_wakesWorkers_18 (by decide) ?_
      refine jf_ialdc 5 hX (by decide) (by decide) dX11_wakesWorkers_19 ?_
      refine jf_callV (As := [.int x1, .int (zI u q2 5)]) (st := []) hX mo_X11_worksIn wml_204 winst_205 wsel_206 11 ck_X11 rfl (fun l D cT z0 ks => kX11_worksIn N l D cT z0 ks x0 x1 (zI u q2 5) u) (by decide) (by decide) (by decide) (by decide) (Nat.le_of_ble_eq_true rfl) rfl rfl dX11_wakesWorkers_20 (fun r3 u4 => ?_)
      refine jf_if_eq (tgt := 32) hX dX11_wakesWorkers_23 (by decide) ?_ ?_
      · refine jf_iinc (v := 1) (lv' := [(1, .int (x1 + (1 : Int32))), (0, .ref x0)]) hX dX11_wakesWorkers_32 1 rfl (by decide) (by decide) rfl ?_
        refine jf_goto (tgt := 2) hX dX11_wakesWorkers_35 (by decide) ?_
        refine jf_lv [1, 0] rfl ?_
        exact hrec2 x0 (x1 + (1 : Int32)) u4
      · refine jf_aload_n hX dX11_wakesWorkers_26 0 rfl ?_
        refine jf_iload_n hX dX11_wakesWorkers_27 1 rfl ?_
        refine jf_iconst (v := 0) hX dX11_wakesWorkers_28 (by decide) ?_
        refine jf_callV (As := [.int x1, .int (0 : Int32)]) (st := []) hX mo_X11_setsAsleep wml_232 winst_233 wsel_234 11 ck_X11 rfl (fun l D cT z0 ks => kX11_setsAsleep N l D cT z0 ks x0 x1 (0 : Int32) u4) (by decide) (by decide) (by decide) (by decide) (Nat.le_of_ble_eq_true rfl) rfl rfl dX11_wakesWorkers_29 (fun r5 u6 => ?_)
        refine jf_iinc (v := 1) (lv' := [(1, .int (x1 + (1 : Int32))), (0, .ref x0)]) hX dX11_wakesWorkers_32 1 rfl (by decide) (by decide) rfl ?_
        refine jf_goto (tgt := 2) hX dX11_wakesWorkers_35 (by decide) ?_
        refine jf_lv [1, 0] rfl ?_
        exact hrec2 x0 (x1 + (1 : Int32)) u6
set_option maxRecDepth 20000 in
def fX11_wakesWorkers (N : Nat)  (a0 : Nat) (u : SG) : Option (Unit × SG) := gX11_wakesWorkers_2 N  N a0 (0 : Int32) u
set_option maxRecDepth 20000 in
set_option maxHeartbeats 4000000 in
theorem kX11_wakesWorkers  (N : Nat)  (l : Launch) (D : va_G) (cT : Nat → ClassId) (z0 : Nat) (ks : Nat × Nat) (a0 : Nat) (u : SG) : Ct l D cT z0 ks yX11_wakesWorkers cX11_wakesWorkers 2 none 2 0 0 vU [.ref a0] u (fX11_wakesWorkers N  a0 u) := by
  unfold fX11_wakesWorkers
  refine ct_of (by decide +kernel) (Nat.le_of_ble_eq_true rfl) (fun p e R s m args below meth c hX => ?_)
  show JF _ True 2 0 0 _ 0 [(0, .ref a0)] [] u _
  refine jf_iconst (v := 0) hX dX11_wakesWorkers_0 (by decide) ?_
  refine jf_istore_n (lv' := [(1, .int (0 : Int32)), (0, .ref a0)]) hX dX11_wakesWorkers_1 rfl (by decide) rfl ?_
  refine jf_lv [1, 0] rfl ?_
  exact jgX11_wakesWorkers_2 hX N  N a0 (0 : Int32) u
set_option maxRecDepth 20000 in
def gX11_sleepsByRule_61 (N : Nat)  (rec2 : Nat → Int32 → SG → Option (Unit × SG)) (x0 : Nat) (x1 : Int32) (s0 : Nat) (s1 : Int32) (s2 : Int32) (u : SG) : Option (Unit × SG) := if zK u s0 = 12 then cl (fX11_setsAsleep N s0 s1 s2 u) fun r1 u2 => (rec2 x0 (x1 + (1 : Int32)) u2) else none
set_option maxRecDepth 20000 in
set_option maxHeartbeats 4000000 in
theorem jgX11_sleepsByRule_61 {rec2 : Nat → Int32 → SG → Option (Unit × SG)}  {X : XT} (hX : Cx X yX11_sleepsByRule cX11_sleepsByRule 2 none 5 0 0) (N : Nat) (hrec2 : ∀ (x0 : Nat) (x1 : Int32)  (u : SG), JF X True 2 0 0 (jQ X vU 0 0) 2 [(0, .ref x0), (1, .int x1)] [] u (rec2 x0 x1  u)) (x0 : Nat) (x1 : Int32) (s0 : Nat) (s1 : Int32) (s2 : Int32) (u : SG) : JF X True 2 0 0 (jQ X vU 0 0) 61 [(0, .ref x0), (1, .int x1)] [.int s2, .int s1, .ref s0] u (gX11_sleepsByRule_61 N  rec2 x0 x1 s0 s1 s2 u) := by
  unfold gX11_sleepsByRule_61
  refine jf_callV (As := [.int s1, .int s2]) (st := []) hX mo_X11_setsAsleep wml_232 winst_233 wsel_234 11 ck_X11 rfl (fun l D cT z0 ks => kX11_setsAsleep N l D cT z0 ks s0 s1 s2 u) (by decide) (by decide) (by decide) (by decide) (Nat.le_of_ble_eq_true rfl) rfl rfl dX11_sleepsByRule_61 (fun r1 u2 => ?_)
  refine jf_iinc (v := 1) (lv' := [(1, .int (x1 + (1 : Int32))), (0, .ref x0)]) hX dX11_sleepsByRule_64 1 rfl (by decide) (by decide) rfl ?_
  refine jf_goto (tgt := 2) hX dX11_sleepsByRule_67 (by decide) ?_
  refine jf_lv [1, 0] rfl ?_
  exact hrec2 x0 (x1 + (1 : Int32)) u2
set_option maxRecDepth 20000 in
def gX11_sleepsByRule_2 (N : Nat)   : Nat → Nat → Int32 → SG → Option (Unit × SG)
  | 0, _, _, _ => none
  | n + 1, x0, x1, u => if zK u x0 = 12 then (Option.bind (zR u x0 20) fun q1 => (if zK u q1 = 22 then if zN u q1 ≤ 1 then none else (if (zI u q1 1) ≤ x1 then (some ((), u))
  else (if zK u x0 = 12 then (if (zI u x0 21) < 0 then (some ((), u))
  else (if zK u x0 = 12 then (Option.bind (zR u x0 20) fun q2 => (if zK u q2 = 22 then if zN u q2 ≤ 5 then none else (if zK u x0 = 12 then cl (fX11_worksIn N x0 x1 (zI u q2 5) u) fun r3 u4 => (if r3 = 0 then (if zK u4 x0 = 12 then cl (fX11_words N x0 x1 u4) fun r5 u6 => (if zK u6 x0 = 12 then (if zK u6 x0 = 12 then cl (fX11_summedBy N x0 (zI u6 x0 21) u6) fun r7 u8 => (if (lg_cmp r7 (0 : Int64)) ≤ 0 then (gX11_sleepsByRule_61 N (gX11_sleepsByRule_2 N  n) x0 x1 x0 x1 (0 : Int32) u8)
  else (gX11_sleepsByRule_61 N (gX11_sleepsByRule_2 N  n) x0 x1 x0 x1 (1 : Int32) u8)) else none) else none) else none)
  else ((gX11_sleepsByRule_2 N  n) x0 (x1 + (1 : Int32)) u4)) else none) else none)) else none)) else none)) else none)) else none
set_option maxRecDepth 20000 in
set_option maxHeartbeats 4000000 in
theorem jgX11_sleepsByRule_2   {X : XT} (hX : Cx X yX11_sleepsByRule cX11_sleepsByRule 2 none 5 0 0) (N : Nat)  : ∀ (n : Nat) (x0 : Nat) (x1 : Int32) (u : SG), JF X True 2 0 0 (jQ X vU 0 0) 2 [(0, .ref x0), (1, .int x1)] [] u (gX11_sleepsByRule_2 N   n x0 x1 u) := by
  intro n
  induction n with
  | zero => intros; intro r u9 h9; exact absurd h9 (by simp [gX11_sleepsByRule_2])
  | succ n ih =>
    intro x0 x1 u
    have hrec2 := ih
    rw [gX11_sleepsByRule_2]
    refine jf_iload_n hX dX11_sleepsByRule_2 1 rfl ?_
    refine jf_aload_n hX dX11_sleepsByRule_3 0 rfl ?_
    refine jf_getR hX ck_X11 20 wfl_31 (by decide) rfl dX11_sleepsByRule_4 ?_
    refine jf_nn (fun q1 => ?_)
    refine jf_iconst (v := 1) hX dX11_sleepsByRule_7 (by decide) ?_
    refine jf_ialdc 1 hX (by decide) (by decide) dX11_sleepsByRule_8 ?_
    refine jf_icmp_ge (tgt := 70) hX dX11_sleepsByRule_9 (by decide) ?_ ?_
    · exact jf_vret hX rfl (by decide) (by decide) dX11_sleepsByRule_70
    · refine jf_aload_n hX dX11_sleepsByRule_12 0 rfl ?_
      refine jf_getI hX ck_X11 21 wfl_32 (by decide) rfl dX11_sleepsByRule_13 ?_
      refine jf_if_lt (tgt := 70) hX dX11_sleepsByRule_16 (by decide) ?_ ?_
      · exact jf_vret hX rfl (by decide) (by decide) dX11_sleepsByRule_70
      · refine jf_aload_n hX dX11_sleepsByRule_19 0 rfl ?_
        refine jf_iload_n hX dX11_sleepsByRule_20 1 rfl ?_
        refine jf_aload_n hX dX11_sleepsByRule_21 0 rfl ?_
        refine jf_getR hX ck_X11 20 wfl_31 (by decide) rfl dX11_sleepsByRule_22 ?_
        refine jf_nn (fun q2 => ?_)
        refine jf_iconst (v := 5) hX dX11_sleepsByRule_25 (by decide) ?_
        refine jf_ialdc 5 hX (by decide) (by decide) dX11_sleepsByRule_26 ?_
        refine jf_callV (As := [.int x1, .int (zI u q2 5)]) (st := []) hX mo_X11_worksIn wml_204 winst_205 wsel_206 11 ck_X11 rfl (fun l D cT z0 ks => kX11_worksIn N l D cT z0 ks x0 x1 (zI u q2 5) u) (by decide) (by decide) (by decide) (by decide) (Nat.le_of_ble_eq_true rfl) rfl rfl dX11_sleepsByRule_27 (fun r3 u4 => ?_)
        refine jf_if_eq (tgt := 36) hX dX11_sleepsByRule_30 (by decide) ?_ ?_
        · refine jf_aload_n hX dX11_sleepsByRule_36 0 rfl ?_
          refine jf_iload_n hX dX11_sleepsByRule_37 1 rfl ?_
          refine jf_callV (As := [.int x1]) (st := []) hX mo_X11_words wml_235 winst_236 wsel_237 11 ck_X11 rfl (fun l D cT z0 ks => kX11_words N l D cT z0 ks x0 x1 u4) (by decide) (by decide) (by decide) (by decide) (Nat.le_of_ble_eq_true rfl) rfl rfl dX11_sleepsByRule_38 (fun r5 u6 => ?_)
          refine jf_aload_n hX dX11_sleepsByRule_41 0 rfl ?_
          refine jf_iload_n hX dX11_sleepsByRule_42 1 rfl ?_
          refine jf_aload_n hX dX11_sleepsByRule_43 0 rfl ?_
          refine jf_aload_n hX dX11_sleepsByRule_44 0 rfl ?_
          refine jf_getI hX ck_X11 21 wfl_32 (by decide) rfl dX11_sleepsByRule_45 ?_
          refine jf_callV (As := [.int (zI u6 x0 21)]) (st := [.int x1, .ref x0]) hX mo_X11_summedBy wml_238 winst_239 wsel_240 11 ck_X11 rfl (fun l D cT z0 ks => kX11_summedBy N l D cT z0 ks x0 (zI u6 x0 21) u6) (by decide) (by decide) (by decide) (by decide) (Nat.le_of_ble_eq_true rfl) rfl rfl dX11_sleepsByRule_48 (fun r7 u8 => ?_)
          refine jf_lconst (v := 0) hX dX11_sleepsByRule_51 (by decide) ?_
          refine jf_lcmp hX dX11_sleepsByRule_52 ?_
          refine jf_if_le (tgt := 60) hX dX11_sleepsByRule_53 (by decide) ?_ ?_
          · refine jf_iconst (v := 0) hX dX11_sleepsByRule_60 (by decide) ?_
            refine jf_lv [0, 1] rfl ?_
            exact jgX11_sleepsByRule_61 hX N hrec2 x0 x1 x0 x1 (0 : Int32) u8
          · refine jf_iconst (v := 1) hX dX11_sleepsByRule_56 (by decide) ?_
            refine jf_goto (tgt := 61) hX dX11_sleepsByRule_57 (by decide) ?_
            refine jf_lv [0, 1] rfl ?_
            exact jgX11_sleepsByRule_61 hX N hrec2 x0 x1 x0 x1 (1 : Int32) u8
        · refine jf_goto (tgt := 64) hX dX11_sleepsByRule_33 (by decide) ?_
          refine jf_iinc (v := 1) (lv' := [(1, .int (x1 + (1 : Int32))), (0, .ref x0)]) hX dX11_sleepsByRule_64 1 rfl (by decide) (by decide) rfl ?_
          refine jf_goto (tgt := 2) hX dX11_sleepsByRule_67 (by decide) ?_
          refine jf_lv [1, 0] rfl ?_
          exact hrec2 x0 (x1 + (1 : Int32)) u4
set_option maxRecDepth 20000 in
def fX11_sleepsByRule (N : Nat)  (a0 : Nat) (u : SG) : Option (Unit × SG) := gX11_sleepsByRule_2 N  N a0 (0 : Int32) u
set_option maxRecDepth 20000 in
set_option maxHeartbeats 4000000 in
theorem kX11_sleepsByRule  (N : Nat)  (l : Launch) (D : va_G) (cT : Nat → ClassId) (z0 : Nat) (ks : Nat × Nat) (a0 : Nat) (u : SG) : Ct l D cT z0 ks yX11_sleepsByRule cX11_sleepsByRule 2 none 5 0 0 vU [.ref a0] u (fX11_sleepsByRule N  a0 u) := by
  unfold fX11_sleepsByRule
  refine ct_of (by decide +kernel) (Nat.le_of_ble_eq_true rfl) (fun p e R s m args below meth c hX => ?_)
  show JF _ True 2 0 0 _ 0 [(0, .ref a0)] [] u _
  refine jf_iconst (v := 0) hX dX11_sleepsByRule_0 (by decide) ?_
  refine jf_istore_n (lv' := [(1, .int (0 : Int32)), (0, .ref a0)]) hX dX11_sleepsByRule_1 rfl (by decide) rfl ?_
  refine jf_lv [1, 0] rfl ?_
  exact jgX11_sleepsByRule_2 hX N  N a0 (0 : Int32) u
set_option maxRecDepth 20000 in
def gX11_endsNight_119 (N : Nat)   : Nat → Nat → Int32 → SG → Option (Unit × SG)
  | 0, _, _, _ => none
  | n + 1, x0, x1, u => if (5 : Int32) ≤ x1 then (some ((), u))
  else (if zK u x0 = 12 then (Option.bind (zR u x0 20) fun q1 => (if zK u q1 = 22 then if ((40 : Int32) + x1) < 0 ∨ zN u q1 ≤ ((40 : Int32) + x1).toNatClampNeg then none else bs (sI u q1 ((40 : Int32) + x1).toNatClampNeg (0 : Int32)) fun u2 => ((gX11_endsNight_119 N  n) x0 (x1 + (1 : Int32)) u2) else none)) else none)
set_option maxRecDepth 20000 in
set_option maxHeartbeats 4000000 in
theorem jgX11_endsNight_119   {X : XT} (hX : Cx X yX11_endsNight cX11_endsNight 4 none 1 0 0) (N : Nat)  : ∀ (n : Nat) (x0 : Nat) (x1 : Int32) (u : SG), JF X True 4 0 0 (jQ X vU 0 0) 119 [(0, .ref x0), (1, .int x1)] [] u (gX11_endsNight_119 N   n x0 x1 u) := by
  intro n
  induction n with
  | zero => intros; intro r u9 h9; exact absurd h9 (by simp [gX11_endsNight_119])
  | succ n ih =>
    intro x0 x1 u
    have hrec119 := ih
    rw [gX11_endsNight_119]
    refine jf_iload_n hX dX11_endsNight_119 1 rfl ?_
    refine jf_iconst (v := 5) hX dX11_endsNight_120 (by decide) ?_
    refine jf_icmp_ge (tgt := 140) hX dX11_endsNight_121 (by decide) ?_ ?_
    · exact jf_vret hX rfl (by decide) (by decide) dX11_endsNight_140
    · refine jf_aload_n hX dX11_endsNight_124 0 rfl ?_
      refine jf_getR hX ck_X11 20 wfl_31 (by decide) rfl dX11_endsNight_125 ?_
      refine jf_nn (fun q1 => ?_)
      refine jf_bipush (v := 40) hX dX11_endsNight_128 (by decide) ?_
      refine jf_iload_n hX dX11_endsNight_130 1 rfl ?_
      refine jf_iadd hX dX11_endsNight_131 ?_
      refine jf_iconst (v := 0) hX dX11_endsNight_132 (by decide) ?_
      refine jf_iast hX trivial dX11_endsNight_133 (fun u2 => ?_)
      refine jf_iinc (v := 1) (lv' := [(1, .int (x1 + (1 : Int32))), (0, .ref x0)]) hX dX11_endsNight_134 1 rfl (by decide) (by decide) rfl ?_
      refine jf_goto (tgt := 119) hX dX11_endsNight_137 (by decide) ?_
      refine jf_lv [1, 0] rfl ?_
      exact hrec119 x0 (x1 + (1 : Int32)) u2
set_option maxRecDepth 20000 in
def gX11_endsNight_20 (N : Nat)   : Nat → Nat → Int32 → SG → Option (Unit × SG)
  | 0, _, _, _ => none
  | n + 1, x0, x1, u => if zK u x0 = 12 then (Option.bind (zR u x0 20) fun q1 => (if zK u q1 = 22 then if zN u q1 ≤ 1 then none else (if (zI u q1 1) ≤ x1 then (gX11_endsNight_119 N  N x0 (0 : Int32) u)
  else (bs ((10 : Int32) + ((6 : Int32) * x1)) fun v2 => (if zK u x0 = 12 then (Option.bind (zR u x0 20) fun q3 => (if zK u q3 = 22 then if (v2 + (4 : Int32)) < 0 ∨ zN u q3 ≤ (v2 + (4 : Int32)).toNatClampNeg then none else (if zK u x0 = 12 then (Option.bind (zR u x0 20) fun q4 => (if zK u q4 = 22 then if v2 < 0 ∨ zN u q4 ≤ v2.toNatClampNeg then none else (if zK u x0 = 12 then (Option.bind (zR u x0 20) fun q5 => (if zK u q5 = 22 then if (v2 + (3 : Int32)) < 0 ∨ zN u q5 ≤ (v2 + (3 : Int32)).toNatClampNeg then none else (bs (((zI u q3 (v2 + (4 : Int32)).toNatClampNeg) + (zI u q4 v2.toNatClampNeg)) - (zI u q5 (v2 + (3 : Int32)).toNatClampNeg)) fun v6 => (if zK u x0 = 12 then (Option.bind (zR u x0 20) fun q7 => (if zK u q7 = 22 then if (v2 + (2 : Int32)) < 0 ∨ zN u q7 ≤ (v2 + (2 : Int32)).toNatClampNeg then none else bs (sI u q7 (v2 + (2 : Int32)).toNatClampNeg (0 : Int32)) fun u8 => (if zK u8 x0 = 12 then (Option.bind (zR u8 x0 20) fun q9 => (if zK u8 q9 = 22 then if (v2 + (3 : Int32)) < 0 ∨ zN u8 q9 ≤ (v2 + (3 : Int32)).toNatClampNeg then none else bs (sI u8 q9 (v2 + (3 : Int32)).toNatClampNeg (0 : Int32)) fun u10 => (if zK u10 x0 = 12 then (Option.bind (zR u10 x0 20) fun q11 => (if 0 ≤ v6 then (if v6 ≤ (999 : Int32) then (if zK u10 q11 = 22 then if (v2 + (4 : Int32)) < 0 ∨ zN u10 q11 ≤ (v2 + (4 : Int32)).toNatClampNeg then none else bs (sI u10 q11 (v2 + (4 : Int32)).toNatClampNeg v6) fun u12 => ((gX11_endsNight_20 N  n) x0 (x1 + (1 : Int32)) u12) else none)
  else (if zK u10 q11 = 22 then if (v2 + (4 : Int32)) < 0 ∨ zN u10 q11 ≤ (v2 + (4 : Int32)).toNatClampNeg then none else bs (sI u10 q11 (v2 + (4 : Int32)).toNatClampNeg (999 : Int32)) fun u13 => ((gX11_endsNight_20 N  n) x0 (x1 + (1 : Int32)) u13) else none))
  else (if zK u10 q11 = 22 then if (v2 + (4 : Int32)) < 0 ∨ zN u10 q11 ≤ (v2 + (4 : Int32)).toNatClampNeg then none else bs (sI u10 q11 (v2 + (4 : Int32)).toNatClampNeg (0 : Int32)) fun u14 => ((gX11_endsNight_20 N  n) x0 (x1 + (1 : Int32)) u14) else none))) else none) else none)) else none) else none)) else none)) else none)) else none) else none)) else none) else none)) else none))) else none)) else none
set_option maxRecDepth 20000 in
set_option maxHeartbeats 4000000 in
theorem jgX11_endsNight_20   {X : XT} (hX : Cx X yX11_endsNight cX11_endsNight 4 none 1 0 0) (N : Nat)  : ∀ (n : Nat) (x0 : Nat) (x1 : Int32) (u : SG), JF X True 4 0 0 (jQ X vU 0 0) 20 [(0, .ref x0), (1, .int x1)] [] u (gX11_endsNight_20 N   n x0 x1 u) := by
  intro n
  induction n with
  | zero => intros; intro r u9 h9; exact absurd h9 (by simp [gX11_endsNight_20])
  | succ n ih =>
    intro x0 x1 u
    have hrec20 := ih
    rw [gX11_endsNight_20]
    refine jf_iload_n hX dX11_endsNight_20 1 rfl ?_
    refine jf_aload_n hX dX11_endsNight_21 0 rfl ?_
    refine jf_getR hX ck_X11 20 wfl_31 (by decide) rfl dX11_endsNight_22 ?_
    refine jf_nn (fun q1 => ?_)
    refine jf_iconst (v := 1) hX dX11_endsNight_25 (by decide) ?_
    refine jf_ialdc 1 hX (by decide) (by decide) dX11_endsNight_26 ?_
    refine jf_icmp_ge (tgt := 117) hX dX11_endsNight_27 (by decide) ?_ ?_
    · refine jf_iconst (v := 0) hX dX11_endsNight_117 (by decide) ?_
      refine jf_istore_n (lv' := [(1, .int (0 : Int32)), (0, .ref x0)]) hX dX11_endsNight_118 rfl (by decide) rfl ?_
      refine jf_lv [1, 0] rfl ?_
      exact jgX11_endsNight_119 hX N  N x0 (0 : Int32) u
    · refine jf_bipush (v := 10) hX dX11_endsNight_30 (by decide) ?_
      refine jf_bipush (v := 6) hX dX11_endsNight_32 (by decide) ?_
      refine jf_iload_n hX dX11_endsNight_34 1 rfl ?_
      refine jf_imul hX dX11_endsNight_35 ?_
      refine jf_iadd hX dX11_endsNight_36 ?_
      refine jf_nmI (fun v2 => ?_)
      refine jf_istore_n (lv' := [(2, .int v2), (0, .ref x0), (1, .int x1)]) hX dX11_endsNight_37 rfl (by decide) rfl ?_
      refine jf_aload_n hX dX11_endsNight_38 1 rfl ?_
      refine jf_getR hX ck_X11 20 wfl_31 (by decide) rfl dX11_endsNight_39 ?_
      refine jf_nn (fun q3 => ?_)
      refine jf_iload_n hX dX11_endsNight_42 0 rfl ?_
      refine jf_iconst (v := 4) hX dX11_endsNight_43 (by decide) ?_
      refine jf_iadd hX dX11_endsNight_44 ?_
      refine jf_iald hX dX11_endsNight_45 ?_
      refine jf_aload_n hX dX11_endsNight_46 1 rfl ?_
      refine jf_getR hX ck_X11 20 wfl_31 (by decide) rfl dX11_endsNight_47 ?_
      refine jf_nn (fun q4 => ?_)
      refine jf_iload_n hX dX11_endsNight_50 0 rfl ?_
      refine jf_iald hX dX11_endsNight_51 ?_
      refine jf_iadd hX dX11_endsNight_52 ?_
      refine jf_aload_n hX dX11_endsNight_53 1 rfl ?_
      refine jf_getR hX ck_X11 20 wfl_31 (by decide) rfl dX11_endsNight_54 ?_
      refine jf_nn (fun q5 => ?_)
      refine jf_iload_n hX dX11_endsNight_57 0 rfl ?_
      refine jf_iconst (v := 3) hX dX11_endsNight_58 (by decide) ?_
      refine jf_iadd hX dX11_endsNight_59 ?_
      refine jf_iald hX dX11_endsNight_60 ?_
      refine jf_isub hX dX11_endsNight_61 ?_
      refine jf_nmI (fun v6 => ?_)
      refine jf_istore_n (lv' := [(3, .int v6), (2, .int v2), (0, .ref x0), (1, .int x1)]) hX dX11_endsNight_62 rfl (by decide) rfl ?_
      refine jf_aload_n hX dX11_endsNight_63 2 rfl ?_
      refine jf_getR hX ck_X11 20 wfl_31 (by decide) rfl dX11_endsNight_64 ?_
      refine jf_nn (fun q7 => ?_)
      refine jf_iload_n hX dX11_endsNight_67 1 rfl ?_
      refine jf_iconst (v := 2) hX dX11_endsNight_68 (by decide) ?_
      refine jf_iadd hX dX11_endsNight_69 ?_
      refine jf_iconst (v := 0) hX dX11_endsNight_70 (by decide) ?_
      refine jf_iast hX trivial dX11_endsNight_71 (fun u8 => ?_)
      refine jf_aload_n hX dX11_endsNight_72 2 rfl ?_
      refine jf_getR hX ck_X11 20 wfl_31 (by decide) rfl dX11_endsNight_73 ?_
      refine jf_nn (fun q9 => ?_)
      refine jf_iload_n hX dX11_endsNight_76 1 rfl ?_
      refine jf_iconst (v := 3) hX dX11_endsNight_77 (by decide) ?_
      refine jf_iadd hX dX11_endsNight_78 ?_
      refine jf_iconst (v := 0) hX dX11_endsNight_79 (by decide) ?_
      refine jf_iast hX trivial dX11_endsNight_80 (fun u10 => ?_)
      refine jf_aload_n hX dX11_endsNight_81 2 rfl ?_
      refine jf_getR hX ck_X11 20 wfl_31 (by decide) rfl dX11_endsNight_82 ?_
      refine jf_nn (fun q11 => ?_)
      refine jf_iload_n hX dX11_endsNight_85 1 rfl ?_
      refine jf_iconst (v := 4) hX dX11_endsNight_86 (by decide) ?_
      refine jf_iadd hX dX11_endsNight_87 ?_
      refine jf_iload_n hX dX11_endsNight_88 0 rfl ?_
      refine jf_if_ge (tgt := 96) hX dX11_endsNight_89 (by decide) ?_ ?_
      · refine jf_iload_n hX dX11_endsNight_96 0 rfl ?_
        refine jf_sipush (v := 999) hX dX11_endsNight_97 (by decide) ?_
        refine jf_icmp_le (tgt := 109) hX dX11_endsNight_100 (by decide) ?_ ?_
        · refine jf_iload_n hX dX11_endsNight_109 0 rfl ?_
          refine jf_iast hX trivial dX11_endsNight_110 (fun u12 => ?_)
          refine jf_iinc (v := 1) (lv' := [(1, .int (x1 + (1 : Int32))), (3, .int v6), (2, .int v2), (0, .ref x0)]) hX dX11_endsNight_111 3 rfl (by decide) (by decide) rfl ?_
          refine jf_goto (tgt := 20) hX dX11_endsNight_114 (by decide) ?_
          refine jf_lv [3, 0] rfl ?_
          exact hrec20 x0 (x1 + (1 : Int32)) u12
        · refine jf_sipush (v := 999) hX dX11_endsNight_103 (by decide) ?_
          refine jf_goto (tgt := 110) hX dX11_endsNight_106 (by decide) ?_
          refine jf_iast hX trivial dX11_endsNight_110 (fun u13 => ?_)
          refine jf_iinc (v := 1) (lv' := [(1, .int (x1 + (1 : Int32))), (3, .int v6), (2, .int v2), (0, .ref x0)]) hX dX11_endsNight_111 3 rfl (by decide) (by decide) rfl ?_
          refine jf_goto (tgt := 20) hX dX11_endsNight_114 (by decide) ?_
          refine jf_lv [3, 0] rfl ?_
          exact hrec20 x0 (x1 + (1 : Int32)) u13
      · refine jf_iconst (v := 0) hX dX11_endsNight_92 (by decide) ?_
        refine jf_goto (tgt := 110) hX dX11_endsNight_93 (by decide) ?_
        refine jf_iast hX trivial dX11_endsNight_110 (fun u14 => ?_)
        refine jf_iinc (v := 1) (lv' := [(1, .int (x1 + (1 : Int32))), (3, .int v6), (2, .int v2), (0, .ref x0)]) hX dX11_endsNight_111 3 rfl (by decide) (by decide) rfl ?_
        refine jf_goto (tgt := 20) hX dX11_endsNight_114 (by decide) ?_
        refine jf_lv [3, 0] rfl ?_
        exact hrec20 x0 (x1 + (1 : Int32)) u14
set_option maxRecDepth 20000 in
def fX11_endsNight (N : Nat)  (a0 : Nat) (u : SG) : Option (Unit × SG) := if zK u a0 = 12 then (Option.bind (zR u a0 20) fun q1 => (if zK u q1 = 22 then if zN u q1 ≤ 5 then none else bs (sI u q1 5 (0 : Int32)) fun u2 => (if zK u2 a0 = 12 then (Option.bind (zR u2 a0 20) fun q3 => (if zK u2 q3 = 22 then if zN u2 q3 ≤ 6 then none else (if zK u2 q3 = 22 then if zN u2 q3 ≤ 6 then none else bs (sI u2 q3 6 ((zI u2 q3 6) + (1 : Int32))) fun u4 => (gX11_endsNight_20 N  N a0 (0 : Int32) u4) else none) else none)) else none) else none)) else none
set_option maxRecDepth 20000 in
set_option maxHeartbeats 4000000 in
theorem kX11_endsNight  (N : Nat)  (l : Launch) (D : va_G) (cT : Nat → ClassId) (z0 : Nat) (ks : Nat × Nat) (a0 : Nat) (u : SG) : Ct l D cT z0 ks yX11_endsNight cX11_endsNight 4 none 1 0 0 vU [.ref a0] u (fX11_endsNight N  a0 u) := by
  unfold fX11_endsNight
  refine ct_of (by decide +kernel) (Nat.le_of_ble_eq_true rfl) (fun p e R s m args below meth c hX => ?_)
  show JF _ True 4 0 0 _ 0 [(0, .ref a0)] [] u _
  refine jf_aload_n hX dX11_endsNight_0 0 rfl ?_
  refine jf_getR hX ck_X11 20 wfl_31 (by decide) rfl dX11_endsNight_1 ?_
  refine jf_nn (fun q1 => ?_)
  refine jf_iconst (v := 5) hX dX11_endsNight_4 (by decide) ?_
  refine jf_iconst (v := 0) hX dX11_endsNight_5 (by decide) ?_
  refine jf_iastc 5 hX trivial (by decide) (by decide) dX11_endsNight_6 (fun u2 => ?_)
  refine jf_aload_n hX dX11_endsNight_7 0 rfl ?_
  refine jf_getR hX ck_X11 20 wfl_31 (by decide) rfl dX11_endsNight_8 ?_
  refine jf_nn (fun q3 => ?_)
  refine jf_bipush (v := 6) hX dX11_endsNight_11 (by decide) ?_
  refine jf_dup2_11 hX dX11_endsNight_13 rfl rfl ?_
  refine jf_ialdc 6 hX (by decide) (by decide) dX11_endsNight_14 ?_
  refine jf_iconst (v := 1) hX dX11_endsNight_15 (by decide) ?_
  refine jf_iadd hX dX11_endsNight_16 ?_
  refine jf_iastc 6 hX trivial (by decide) (by decide) dX11_endsNight_17 (fun u4 => ?_)
  refine jf_iconst (v := 0) hX dX11_endsNight_18 (by decide) ?_
  refine jf_istore_n (lv' := [(1, .int (0 : Int32)), (0, .ref a0)]) hX dX11_endsNight_19 rfl (by decide) rfl ?_
  refine jf_lv [1, 0] rfl ?_
  exact jgX11_endsNight_20 hX N  N a0 (0 : Int32) u4
set_option maxRecDepth 20000 in
def gX11_shares_126 (N : Nat)   (x0 : Nat) (x2 : Int32) (u : SG) : Option (Int32 × SG) := if zK u x0 = 12 then (Option.bind (zR u x0 20) fun q1 => (if zK u q1 = 22 then if zN u q1 ≤ 5 then none else (if zK u q1 = 22 then if zN u q1 ≤ 5 then none else bs (sI u q1 5 ((zI u q1 5) + (1 : Int32))) fun u2 => (if zK u2 x0 = 12 then (Option.bind (zR u2 x0 20) fun q3 => (if zK u2 q3 = 22 then if zN u2 q3 ≤ 5 then none else (if zK u2 x0 = 12 then (Option.bind (zR u2 x0 20) fun q4 => (if zK u2 q4 = 22 then if zN u2 q4 ≤ 0 then none else (if (zI u2 q3 5) = (zI u2 q4 0) then (if zK u2 x0 = 12 then cl (fX11_endsNight N x0 u2) fun r5 u6 => (some (x2, u6)) else none)
  else (some (x2, u2))) else none)) else none) else none)) else none) else none) else none)) else none
set_option maxRecDepth 20000 in
set_option maxHeartbeats 4000000 in
theorem jgX11_shares_126   {X : XT} (hX : Cx X yX11_shares cX11_shares 5 (some .int) 4 0 0) (N : Nat)  (x0 : Nat) (x2 : Int32) (u : SG) : JF X True 5 0 0 (jQ X vI 0 0) 126 [(0, .ref x0), (2, .int x2)] [] u (gX11_shares_126 N   x0 x2 u) := by
  unfold gX11_shares_126
  refine jf_aload_n hX dX11_shares_126 0 rfl ?_
  refine jf_getR hX ck_X11 20 wfl_31 (by decide) rfl dX11_shares_127 ?_
  refine jf_nn (fun q1 => ?_)
  refine jf_iconst (v := 5) hX dX11_shares_130 (by decide) ?_
  refine jf_dup2_11 hX dX11_shares_131 rfl rfl ?_
  refine jf_ialdc 5 hX (by decide) (by decide) dX11_shares_132 ?_
  refine jf_iconst (v := 1) hX dX11_shares_133 (by decide) ?_
  refine jf_iadd hX dX11_shares_134 ?_
  refine jf_iastc 5 hX trivial (by decide) (by decide) dX11_shares_135 (fun u2 => ?_)
  refine jf_aload_n hX dX11_shares_136 0 rfl ?_
  refine jf_getR hX ck_X11 20 wfl_31 (by decide) rfl dX11_shares_137 ?_
  refine jf_nn (fun q3 => ?_)
  refine jf_iconst (v := 5) hX dX11_shares_140 (by decide) ?_
  refine jf_ialdc 5 hX (by decide) (by decide) dX11_shares_141 ?_
  refine jf_aload_n hX dX11_shares_142 0 rfl ?_
  refine jf_getR hX ck_X11 20 wfl_31 (by decide) rfl dX11_shares_143 ?_
  refine jf_nn (fun q4 => ?_)
  refine jf_iconst (v := 0) hX dX11_shares_146 (by decide) ?_
  refine jf_ialdc 0 hX (by decide) (by decide) dX11_shares_147 ?_
  refine jf_icmp_ne (tgt := 155) hX dX11_shares_148 (by decide) ?_ ?_
  · refine jf_iload_n hX dX11_shares_155 1 rfl ?_
    exact jf_iret hX rfl (by decide) (by decide) dX11_shares_156
  · refine jf_aload_n hX dX11_shares_151 0 rfl ?_
    refine jf_callV (As := []) (st := []) hX mo_X11_endsNight wml_241 winst_242 wsel_243 11 ck_X11 rfl (fun l D cT z0 ks => kX11_endsNight N l D cT z0 ks x0 u2) (by decide) (by decide) (by decide) (by decide) (Nat.le_of_ble_eq_true rfl) rfl rfl dX11_shares_152 (fun r5 u6 => ?_)
    refine jf_iload_n hX dX11_shares_155 1 rfl ?_
    exact jf_iret hX rfl (by decide) (by decide) dX11_shares_156
set_option maxRecDepth 20000 in
def gX11_shares_24 (N : Nat)   : Nat → Nat → Int32 → Int32 → Int32 → SG → Option (Int32 × SG)
  | 0, _, _, _, _, _ => none
  | n + 1, x0, x1, x2, x3, u => if zK u x0 = 12 then (Option.bind (zR u x0 20) fun q1 => (if zK u q1 = 22 then if zN u q1 ≤ 1 then none else (if (zI u q1 1) ≤ x3 then (if x2 = 0 then (if zK u x0 = 12 then (Option.bind (zR u x0 20) fun q2 => (if zK u q2 = 22 then if zN u q2 ≤ 7 then none else (if zK u q2 = 22 then if zN u q2 ≤ 7 then none else bs (sI u q2 7 ((zI u q2 7) + x1)) fun u3 => (gX11_shares_126 N  x0 x2 u3) else none) else none)) else none)
  else (gX11_shares_126 N  x0 x2 u))
  else (bs ((10 : Int32) + ((6 : Int32) * x3)) fun v4 => (if zK u x0 = 12 then (Option.bind (zR u x0 20) fun q5 => (if zK u q5 = 22 then if (v4 + (2 : Int32)) < 0 ∨ zN u q5 ≤ (v4 + (2 : Int32)).toNatClampNeg then none else (if (zI u q5 (v4 + (2 : Int32)).toNatClampNeg) = 0 then (if zK u x0 = 12 then (Option.bind (zR u x0 23) fun q10 => (if zK u q10 = 22 then if x3 < 0 ∨ zN u q10 ≤ x3.toNatClampNeg then none else (if zK u x0 = 12 then (Option.bind (zR u x0 20) fun q11 => (if zK u q11 = 22 then if zN u q11 ≤ 1 then none else (if (zI u q11 1) - x2 = 0 then none else (if zK u q10 = 22 then if x3 < 0 ∨ zN u q10 ≤ x3.toNatClampNeg then none else bs (sI u q10 x3.toNatClampNeg ((zI u q10 x3.toNatClampNeg) + (x1 / ((zI u q11 1) - x2)))) fun u12 => ((gX11_shares_24 N  n) x0 x1 x2 (x3 + (1 : Int32)) u12) else none)) else none)) else none) else none)) else none)
  else (if zK u x0 = 12 then (Option.bind (zR u x0 20) fun q6 => (if zK u q6 = 22 then if (v4 + (5 : Int32)) < 0 ∨ zN u q6 ≤ (v4 + (5 : Int32)).toNatClampNeg then none else (if x2 = 0 then none else (if zK u q6 = 22 then if (v4 + (5 : Int32)) < 0 ∨ zN u q6 ≤ (v4 + (5 : Int32)).toNatClampNeg then none else bs (sI u q6 (v4 + (5 : Int32)).toNatClampNeg ((zI u q6 (v4 + (5 : Int32)).toNatClampNeg) + (x1 / x2))) fun u7 => (if zK u7 x0 = 12 then (Option.bind (zR u7 x0 20) fun q8 => (if zK u7 q8 = 22 then if (v4 + (3 : Int32)) < 0 ∨ zN u7 q8 ≤ (v4 + (3 : Int32)).toNatClampNeg then none else (if zK u7 q8 = 22 then if (v4 + (3 : Int32)) < 0 ∨ zN u7 q8 ≤ (v4 + (3 : Int32)).toNatClampNeg then none else bs (sI u7 q8 (v4 + (3 : Int32)).toNatClampNeg ((zI u7 q8 (v4 + (3 : Int32)).toNatClampNeg) + (1 : Int32))) fun u9 => ((gX11_shares_24 N  n) x0 x1 x2 (x3 + (1 : Int32)) u9) else none) else none)) else none) else none)) else none)) else none)) else none)) else none))) else none)) else none
set_option maxRecDepth 20000 in
set_option maxHeartbeats 4000000 in
theorem jgX11_shares_24   {X : XT} (hX : Cx X yX11_shares cX11_shares 5 (some .int) 4 0 0) (N : Nat)  : ∀ (n : Nat) (x0 : Nat) (x1 : Int32) (x2 : Int32) (x3 : Int32) (u : SG), JF X True 5 0 0 (jQ X vI 0 0) 24 [(0, .ref x0), (1, .int x1), (2, .int x2), (3, .int x3)] [] u (gX11_shares_24 N   n x0 x1 x2 x3 u) := by
  intro n
  induction n with
  | zero => intros; intro r u9 h9; exact absurd h9 (by simp [gX11_shares_24])
  | succ n ih =>
    intro x0 x1 x2 x3 u
    have hrec24 := ih
    rw [gX11_shares_24]
    refine jf_iload_n hX dX11_shares_24 3 rfl ?_
    refine jf_aload_n hX dX11_shares_25 0 rfl ?_
    refine jf_getR hX ck_X11 20 wfl_31 (by decide) rfl dX11_shares_26 ?_
    refine jf_nn (fun q1 => ?_)
    refine jf_iconst (v := 1) hX dX11_shares_29 (by decide) ?_
    refine jf_ialdc 1 hX (by decide) (by decide) dX11_shares_30 ?_
    refine jf_icmp_ge (tgt := 111) hX dX11_shares_31 (by decide) ?_ ?_
    · refine jf_iload_n hX dX11_shares_111 2 rfl ?_
      refine jf_if_ne (tgt := 126) hX dX11_shares_112 (by decide) ?_ ?_
      · refine jf_lv [0, 2] rfl ?_
        exact jgX11_shares_126 hX N  x0 x2 u
      · refine jf_aload_n hX dX11_shares_115 0 rfl ?_
        refine jf_getR hX ck_X11 20 wfl_31 (by decide) rfl dX11_shares_116 ?_
        refine jf_nn (fun q2 => ?_)
        refine jf_bipush (v := 7) hX dX11_shares_119 (by decide) ?_
        refine jf_dup2_11 hX dX11_shares_121 rfl rfl ?_
        refine jf_ialdc 7 hX (by decide) (by decide) dX11_shares_122 ?_
        refine jf_iload_n hX dX11_shares_123 1 rfl ?_
        refine jf_iadd hX dX11_shares_124 ?_
        refine jf_iastc 7 hX trivial (by decide) (by decide) dX11_shares_125 (fun u3 => ?_)
        refine jf_lv [0, 2] rfl ?_
        exact jgX11_shares_126 hX N  x0 x2 u3
    · refine jf_bipush (v := 10) hX dX11_shares_34 (by decide) ?_
      refine jf_bipush (v := 6) hX dX11_shares_36 (by decide) ?_
      refine jf_iload_n hX dX11_shares_38 3 rfl ?_
      refine jf_imul hX dX11_shares_39 ?_
      refine jf_iadd hX dX11_shares_40 ?_
      refine jf_nmI (fun v4 => ?_)
      refine jf_istore (lv' := [(4, .int v4), (0, .ref x0), (1, .int x1), (2, .int x2), (3, .int x3)]) hX dX11_shares_41 (by decide) rfl ?_
      refine jf_aload_n hX dX11_shares_43 1 rfl ?_
      refine jf_getR hX ck_X11 20 wfl_31 (by decide) rfl dX11_shares_44 ?_
      refine jf_nn (fun q5 => ?_)
      refine jf_iload hX dX11_shares_47 0 rfl ?_
      refine jf_iconst (v := 2) hX dX11_shares_49 (by decide) ?_
      refine jf_iadd hX dX11_shares_50 ?_
      refine jf_iald hX dX11_shares_51 ?_
      refine jf_if_ne (tgt := 77) hX dX11_shares_52 (by decide) ?_ ?_
      · refine jf_aload_n hX dX11_shares_77 1 rfl ?_
        refine jf_getR hX ck_X11 20 wfl_31 (by decide) rfl dX11_shares_78 ?_
        refine jf_nn (fun q6 => ?_)
        refine jf_iload hX dX11_shares_81 0 rfl ?_
        refine jf_iconst (v := 5) hX dX11_shares_83 (by decide) ?_
        refine jf_iadd hX dX11_shares_84 ?_
        refine jf_dup2_11 hX dX11_shares_85 rfl rfl ?_
        refine jf_iald hX dX11_shares_86 ?_
        refine jf_iload_n hX dX11_shares_87 2 rfl ?_
        refine jf_iload_n hX dX11_shares_88 3 rfl ?_
        refine jf_idiv hX dX11_shares_89 ?_
        refine jf_iadd hX dX11_shares_90 ?_
        refine jf_iast hX trivial dX11_shares_91 (fun u7 => ?_)
        refine jf_aload_n hX dX11_shares_92 1 rfl ?_
        refine jf_getR hX ck_X11 20 wfl_31 (by decide) rfl dX11_shares_93 ?_
        refine jf_nn (fun q8 => ?_)
        refine jf_iload hX dX11_shares_96 0 rfl ?_
        refine jf_iconst (v := 3) hX dX11_shares_98 (by decide) ?_
        refine jf_iadd hX dX11_shares_99 ?_
        refine jf_dup2_11 hX dX11_shares_100 rfl rfl ?_
        refine jf_iald hX dX11_shares_101 ?_
        refine jf_iconst (v := 1) hX dX11_shares_102 (by decide) ?_
        refine jf_iadd hX dX11_shares_103 ?_
        refine jf_iast hX trivial dX11_shares_104 (fun u9 => ?_)
        refine jf_iinc (v := 1) (lv' := [(3, .int (x3 + (1 : Int32))), (4, .int v4), (0, .ref x0), (1, .int x1), (2, .int x2)]) hX dX11_shares_105 4 rfl (by decide) (by decide) rfl ?_
        refine jf_goto (tgt := 24) hX dX11_shares_108 (by decide) ?_
        refine jf_lv [2, 3, 4, 0] rfl ?_
        exact hrec24 x0 x1 x2 (x3 + (1 : Int32)) u9
      · refine jf_aload_n hX dX11_shares_55 1 rfl ?_
        refine jf_getR hX ck_X11 23 wfl_33 (by decide) rfl dX11_shares_56 ?_
        refine jf_nn (fun q10 => ?_)
        refine jf_iload_n hX dX11_shares_59 4 rfl ?_
        refine jf_dup2_11 hX dX11_shares_60 rfl rfl ?_
        refine jf_iald hX dX11_shares_61 ?_
        refine jf_iload_n hX dX11_shares_62 2 rfl ?_
        refine jf_aload_n hX dX11_shares_63 1 rfl ?_
        refine jf_getR hX ck_X11 20 wfl_31 (by decide) rfl dX11_shares_64 ?_
        refine jf_nn (fun q11 => ?_)
        refine jf_iconst (v := 1) hX dX11_shares_67 (by decide) ?_
        refine jf_ialdc 1 hX (by decide) (by decide) dX11_shares_68 ?_
        refine jf_iload_n hX dX11_shares_69 3 rfl ?_
        refine jf_isub hX dX11_shares_70 ?_
        refine jf_idiv hX dX11_shares_71 ?_
        refine jf_iadd hX dX11_shares_72 ?_
        refine jf_iast hX trivial dX11_shares_73 (fun u12 => ?_)
        refine jf_goto (tgt := 105) hX dX11_shares_74 (by decide) ?_
        refine jf_iinc (v := 1) (lv' := [(3, .int (x3 + (1 : Int32))), (4, .int v4), (0, .ref x0), (1, .int x1), (2, .int x2)]) hX dX11_shares_105 4 rfl (by decide) (by decide) rfl ?_
        refine jf_goto (tgt := 24) hX dX11_shares_108 (by decide) ?_
        refine jf_lv [2, 3, 4, 0] rfl ?_
        exact hrec24 x0 x1 x2 (x3 + (1 : Int32)) u12
set_option maxRecDepth 20000 in
def fX11_shares (N : Nat)  (a0 : Nat) (u : SG) : Option (Int32 × SG) := if zK u a0 = 12 then (Option.bind (zR u a0 20) fun q1 => (if zK u q1 = 22 then if zN u q1 ≤ 5 then none else (if zK u a0 = 12 then cl (fX11_costIn N a0 (zI u q1 5) u) fun r2 u3 => (bs ((60 : Int32) * r2) fun v4 => (if zK u3 a0 = 12 then cl (fX11_sleepers N a0 u3) fun r5 u6 => (cl (fX11_bits N r5 u6) fun r7 u8 => (gX11_shares_24 N  N a0 v4 r7 (0 : Int32) u8)) else none)) else none) else none)) else none
set_option maxRecDepth 20000 in
set_option maxHeartbeats 4000000 in
theorem kX11_shares  (N : Nat)  (l : Launch) (D : va_G) (cT : Nat → ClassId) (z0 : Nat) (ks : Nat × Nat) (a0 : Nat) (u : SG) : Ct l D cT z0 ks yX11_shares cX11_shares 5 (some .int) 4 0 0 vI [.ref a0] u (fX11_shares N  a0 u) := by
  unfold fX11_shares
  refine ct_of (by decide +kernel) (Nat.le_of_ble_eq_true rfl) (fun p e R s m args below meth c hX => ?_)
  show JF _ True 5 0 0 _ 0 [(0, .ref a0)] [] u _
  refine jf_bipush (v := 60) hX dX11_shares_0 (by decide) ?_
  refine jf_aload_n hX dX11_shares_2 0 rfl ?_
  refine jf_aload_n hX dX11_shares_3 0 rfl ?_
  refine jf_getR hX ck_X11 20 wfl_31 (by decide) rfl dX11_shares_4 ?_
  refine jf_nn (fun q1 => ?_)
  refine jf_iconst (v := 5) hX dX11_shares_7 (by decide) ?_
  refine jf_ialdc 5 hX (by decide) (by decide) dX11_shares_8 ?_
  refine jf_callV (As := [.int (zI u q1 5)]) (st := [.int (60 : Int32)]) hX mo_X11_costIn wml_218 winst_219 wsel_220 11 ck_X11 rfl (fun l D cT z0 ks => kX11_costIn N l D cT z0 ks a0 (zI u q1 5) u) (by decide) (by decide) (by decide) (by decide) (Nat.le_of_ble_eq_true rfl) rfl rfl dX11_shares_9 (fun r2 u3 => ?_)
  refine jf_imul hX dX11_shares_12 ?_
  refine jf_nmI (fun v4 => ?_)
  refine jf_istore_n (lv' := [(1, .int v4), (0, .ref a0)]) hX dX11_shares_13 rfl (by decide) rfl ?_
  refine jf_aload_n hX dX11_shares_14 1 rfl ?_
  refine jf_callV (As := []) (st := []) hX mo_X11_sleepers wml_221 winst_222 wsel_223 11 ck_X11 rfl (fun l D cT z0 ks => kX11_sleepers N l D cT z0 ks a0 u3) (by decide) (by decide) (by decide) (by decide) (Nat.le_of_ble_eq_true rfl) rfl rfl dX11_shares_15 (fun r5 u6 => ?_)
  refine jf_callS (As := [.int r5]) (st := []) hX mo_X11_bits wml_224 wstat_225 rfl (fun l D cT z0 ks => kX11_bits N l D cT z0 ks r5 u6) (by decide) (by decide) (by decide) (by decide) (Nat.le_of_ble_eq_true rfl) rfl rfl dX11_shares_18 (fun r7 u8 => ?_)
  refine jf_istore_n (lv' := [(2, .int r7), (1, .int v4), (0, .ref a0)]) hX dX11_shares_21 rfl (by decide) rfl ?_
  refine jf_iconst (v := 0) hX dX11_shares_22 (by decide) ?_
  refine jf_istore_n (lv' := [(3, .int (0 : Int32)), (2, .int r7), (1, .int v4), (0, .ref a0)]) hX dX11_shares_23 rfl (by decide) rfl ?_
  refine jf_lv [3, 2, 1, 0] rfl ?_
  exact jgX11_shares_24 hX N  N a0 v4 r7 (0 : Int32) u8
set_option maxRecDepth 20000 in
def fX11_passes (N : Nat)  (a0 : Nat) (u : SG) : Option (Int32 × SG) := if zK u a0 = 12 then cl (fX11_wakesWorkers N a0 u) fun r1 u2 => (if zK u2 a0 = 12 then cl (fX11_sleepsByRule N a0 u2) fun r3 u4 => (if zK u4 a0 = 12 then cl (fX11_shares N a0 u4) fun r5 u6 => (some (r5, u6)) else none) else none) else none
set_option maxRecDepth 20000 in
set_option maxHeartbeats 4000000 in
theorem kX11_passes  (N : Nat)  (l : Launch) (D : va_G) (cT : Nat → ClassId) (z0 : Nat) (ks : Nat × Nat) (a0 : Nat) (u : SG) : Ct l D cT z0 ks yX11_passes cX11_passes 1 (some .int) 6 0 0 vI [.ref a0] u (fX11_passes N  a0 u) := by
  unfold fX11_passes
  refine ct_of (by decide +kernel) (Nat.le_of_ble_eq_true rfl) (fun p e R s m args below meth c hX => ?_)
  show JF _ True 1 0 0 _ 0 [(0, .ref a0)] [] u _
  refine jf_aload_n hX dX11_passes_0 0 rfl ?_
  refine jf_callV (As := []) (st := []) hX mo_X11_wakesWorkers wml_244 winst_245 wsel_246 11 ck_X11 rfl (fun l D cT z0 ks => kX11_wakesWorkers N l D cT z0 ks a0 u) (by decide) (by decide) (by decide) (by decide) (Nat.le_of_ble_eq_true rfl) rfl rfl dX11_passes_1 (fun r1 u2 => ?_)
  refine jf_aload_n hX dX11_passes_4 0 rfl ?_
  refine jf_callV (As := []) (st := []) hX mo_X11_sleepsByRule wml_247 winst_248 wsel_249 11 ck_X11 rfl (fun l D cT z0 ks => kX11_sleepsByRule N l D cT z0 ks a0 u2) (by decide) (by decide) (by decide) (by decide) (Nat.le_of_ble_eq_true rfl) rfl rfl dX11_passes_5 (fun r3 u4 => ?_)
  refine jf_aload_n hX dX11_passes_8 0 rfl ?_
  refine jf_callV (As := []) (st := []) hX mo_X11_shares wml_250 winst_251 wsel_252 11 ck_X11 rfl (fun l D cT z0 ks => kX11_shares N l D cT z0 ks a0 u4) (by decide) (by decide) (by decide) (by decide) (Nat.le_of_ble_eq_true rfl) rfl rfl dX11_passes_9 (fun r5 u6 => ?_)
  exact jf_iret hX rfl (by decide) (by decide) dX11_passes_12
set_option maxRecDepth 20000 in
def gX11_keepsAct_52 (N : Nat)   : Nat → Nat → Int32 → SG → Option (Unit × SG)
  | 0, _, _, _ => none
  | n + 1, x0, x1, u => if (45 : Int32) ≤ x1 then (if zK u x0 = 12 then (if zK u x0 = 12 then bs (sI u x0 25 ((zI u x0 25) + (1 : Int32))) fun u1 => (some ((), u1)) else none) else none)
  else (if zK u x0 = 12 then (Option.bind (zR u x0 24) fun q2 => (if zK u x0 = 12 then (if zK u x0 = 12 then (Option.bind (zR u x0 20) fun q3 => (if zK u q3 = 22 then if x1 < 0 ∨ zN u q3 ≤ x1.toNatClampNeg then none else (if zK u q2 = 22 then if (((45 : Int32) * (zI u x0 25)) + x1) < 0 ∨ zN u q2 ≤ (((45 : Int32) * (zI u x0 25)) + x1).toNatClampNeg then none else bs (sI u q2 (((45 : Int32) * (zI u x0 25)) + x1).toNatClampNeg (zI u q3 x1.toNatClampNeg)) fun u4 => ((gX11_keepsAct_52 N  n) x0 (x1 + (1 : Int32)) u4) else none) else none)) else none) else none)) else none)
set_option maxRecDepth 20000 in
set_option maxHeartbeats 4000000 in
theorem jgX11_keepsAct_52   {X : XT} (hX : Cx X yX11_keepsAct cX11_keepsAct 2 none 1 0 0) (N : Nat)  : ∀ (n : Nat) (x0 : Nat) (x1 : Int32) (u : SG), JF X True 2 0 0 (jQ X vU 0 0) 52 [(0, .ref x0), (1, .int x1)] [] u (gX11_keepsAct_52 N   n x0 x1 u) := by
  intro n
  induction n with
  | zero => intros; intro r u9 h9; exact absurd h9 (by simp [gX11_keepsAct_52])
  | succ n ih =>
    intro x0 x1 u
    have hrec52 := ih
    rw [gX11_keepsAct_52]
    refine jf_iload_n hX dX11_keepsAct_52 1 rfl ?_
    refine jf_bipush (v := 45) hX dX11_keepsAct_53 (by decide) ?_
    refine jf_icmp_ge (tgt := 84) hX dX11_keepsAct_55 (by decide) ?_ ?_
    · refine jf_aload_n hX dX11_keepsAct_84 0 rfl ?_
      refine jf_dup hX dX11_keepsAct_85 rfl ?_
      refine jf_getI hX ck_X11 25 wfl_182 (by decide) rfl dX11_keepsAct_86 ?_
      refine jf_iconst (v := 1) hX dX11_keepsAct_89 (by decide) ?_
      refine jf_iadd hX dX11_keepsAct_90 ?_
      refine jf_putI hX trivial ck_X11 25 wfl_182 (by decide) rfl rfl rfl dX11_keepsAct_91 (fun u1 => ?_)
      exact jf_vret hX rfl (by decide) (by decide) dX11_keepsAct_94
    · refine jf_aload_n hX dX11_keepsAct_58 0 rfl ?_
      refine jf_getR hX ck_X11 24 wfl_34 (by decide) rfl dX11_keepsAct_59 ?_
      refine jf_nn (fun q2 => ?_)
      refine jf_bipush (v := 45) hX dX11_keepsAct_62 (by decide) ?_
      refine jf_aload_n hX dX11_keepsAct_64 0 rfl ?_
      refine jf_getI hX ck_X11 25 wfl_182 (by decide) rfl dX11_keepsAct_65 ?_
      refine jf_imul hX dX11_keepsAct_68 ?_
      refine jf_iload_n hX dX11_keepsAct_69 1 rfl ?_
      refine jf_iadd hX dX11_keepsAct_70 ?_
      refine jf_aload_n hX dX11_keepsAct_71 0 rfl ?_
      refine jf_getR hX ck_X11 20 wfl_31 (by decide) rfl dX11_keepsAct_72 ?_
      refine jf_nn (fun q3 => ?_)
      refine jf_iload_n hX dX11_keepsAct_75 1 rfl ?_
      refine jf_iald hX dX11_keepsAct_76 ?_
      refine jf_iast hX trivial dX11_keepsAct_77 (fun u4 => ?_)
      refine jf_iinc (v := 1) (lv' := [(1, .int (x1 + (1 : Int32))), (0, .ref x0)]) hX dX11_keepsAct_78 1 rfl (by decide) (by decide) rfl ?_
      refine jf_goto (tgt := 52) hX dX11_keepsAct_81 (by decide) ?_
      refine jf_lv [1, 0] rfl ?_
      exact hrec52 x0 (x1 + (1 : Int32)) u4
set_option maxRecDepth 20000 in
def gX11_keepsAct_12 (N : Nat)   : Nat → Nat → Int32 → SG → Option (Unit × SG)
  | 0, _, _, _ => none
  | n + 1, x0, x1, u => if (900 : Int32) ≤ x1 then (if zK u x0 = 12 then (if zK u x0 = 12 then bs (sI u x0 25 ((zI u x0 25) - (1 : Int32))) fun u1 => (gX11_keepsAct_52 N  N x0 (0 : Int32) u1) else none) else none)
  else (if zK u x0 = 12 then (Option.bind (zR u x0 24) fun q2 => (if zK u x0 = 12 then (Option.bind (zR u x0 24) fun q3 => (if zK u q3 = 22 then if x1 < 0 ∨ zN u q3 ≤ x1.toNatClampNeg then none else (if zK u q2 = 22 then if (x1 - (45 : Int32)) < 0 ∨ zN u q2 ≤ (x1 - (45 : Int32)).toNatClampNeg then none else bs (sI u q2 (x1 - (45 : Int32)).toNatClampNeg (zI u q3 x1.toNatClampNeg)) fun u4 => ((gX11_keepsAct_12 N  n) x0 (x1 + (1 : Int32)) u4) else none) else none)) else none)) else none)
set_option maxRecDepth 20000 in
set_option maxHeartbeats 4000000 in
theorem jgX11_keepsAct_12   {X : XT} (hX : Cx X yX11_keepsAct cX11_keepsAct 2 none 1 0 0) (N : Nat)  : ∀ (n : Nat) (x0 : Nat) (x1 : Int32) (u : SG), JF X True 2 0 0 (jQ X vU 0 0) 12 [(0, .ref x0), (1, .int x1)] [] u (gX11_keepsAct_12 N   n x0 x1 u) := by
  intro n
  induction n with
  | zero => intros; intro r u9 h9; exact absurd h9 (by simp [gX11_keepsAct_12])
  | succ n ih =>
    intro x0 x1 u
    have hrec12 := ih
    rw [gX11_keepsAct_12]
    refine jf_iload_n hX dX11_keepsAct_12 1 rfl ?_
    refine jf_sipush (v := 900) hX dX11_keepsAct_13 (by decide) ?_
    refine jf_icmp_ge (tgt := 40) hX dX11_keepsAct_16 (by decide) ?_ ?_
    · refine jf_aload_n hX dX11_keepsAct_40 0 rfl ?_
      refine jf_dup hX dX11_keepsAct_41 rfl ?_
      refine jf_getI hX ck_X11 25 wfl_182 (by decide) rfl dX11_keepsAct_42 ?_
      refine jf_iconst (v := 1) hX dX11_keepsAct_45 (by decide) ?_
      refine jf_isub hX dX11_keepsAct_46 ?_
      refine jf_putI hX trivial ck_X11 25 wfl_182 (by decide) rfl rfl rfl dX11_keepsAct_47 (fun u1 => ?_)
      refine jf_iconst (v := 0) hX dX11_keepsAct_50 (by decide) ?_
      refine jf_istore_n (lv' := [(1, .int (0 : Int32)), (0, .ref x0)]) hX dX11_keepsAct_51 rfl (by decide) rfl ?_
      refine jf_lv [1, 0] rfl ?_
      exact jgX11_keepsAct_52 hX N  N x0 (0 : Int32) u1
    · refine jf_aload_n hX dX11_keepsAct_19 0 rfl ?_
      refine jf_getR hX ck_X11 24 wfl_34 (by decide) rfl dX11_keepsAct_20 ?_
      refine jf_nn (fun q2 => ?_)
      refine jf_iload_n hX dX11_keepsAct_23 1 rfl ?_
      refine jf_bipush (v := 45) hX dX11_keepsAct_24 (by decide) ?_
      refine jf_isub hX dX11_keepsAct_26 ?_
      refine jf_aload_n hX dX11_keepsAct_27 0 rfl ?_
      refine jf_getR hX ck_X11 24 wfl_34 (by decide) rfl dX11_keepsAct_28 ?_
      refine jf_nn (fun q3 => ?_)
      refine jf_iload_n hX dX11_keepsAct_31 1 rfl ?_
      refine jf_iald hX dX11_keepsAct_32 ?_
      refine jf_iast hX trivial dX11_keepsAct_33 (fun u4 => ?_)
      refine jf_iinc (v := 1) (lv' := [(1, .int (x1 + (1 : Int32))), (0, .ref x0)]) hX dX11_keepsAct_34 1 rfl (by decide) (by decide) rfl ?_
      refine jf_goto (tgt := 12) hX dX11_keepsAct_37 (by decide) ?_
      refine jf_lv [1, 0] rfl ?_
      exact hrec12 x0 (x1 + (1 : Int32)) u4
set_option maxRecDepth 20000 in
def fX11_keepsAct (N : Nat)  (a0 : Nat) (u : SG) : Option (Unit × SG) := if zK u a0 = 12 then (if (zI u a0 25) = (20 : Int32) then (gX11_keepsAct_12 N  N a0 (45 : Int32) u)
  else (gX11_keepsAct_52 N  N a0 (0 : Int32) u)) else none
set_option maxRecDepth 20000 in
set_option maxHeartbeats 4000000 in
theorem kX11_keepsAct  (N : Nat)  (l : Launch) (D : va_G) (cT : Nat → ClassId) (z0 : Nat) (ks : Nat × Nat) (a0 : Nat) (u : SG) : Ct l D cT z0 ks yX11_keepsAct cX11_keepsAct 2 none 1 0 0 vU [.ref a0] u (fX11_keepsAct N  a0 u) := by
  unfold fX11_keepsAct
  refine ct_of (by decide +kernel) (Nat.le_of_ble_eq_true rfl) (fun p e R s m args below meth c hX => ?_)
  show JF _ True 2 0 0 _ 0 [(0, .ref a0)] [] u _
  refine jf_aload_n hX dX11_keepsAct_0 0 rfl ?_
  refine jf_getI hX ck_X11 25 wfl_182 (by decide) rfl dX11_keepsAct_1 ?_
  refine jf_bipush (v := 20) hX dX11_keepsAct_4 (by decide) ?_
  refine jf_icmp_ne (tgt := 50) hX dX11_keepsAct_6 (by decide) ?_ ?_
  · refine jf_iconst (v := 0) hX dX11_keepsAct_50 (by decide) ?_
    refine jf_istore_n (lv' := [(1, .int (0 : Int32)), (0, .ref a0)]) hX dX11_keepsAct_51 rfl (by decide) rfl ?_
    refine jf_lv [1, 0] rfl ?_
    exact jgX11_keepsAct_52 hX N  N a0 (0 : Int32) u
  · refine jf_bipush (v := 45) hX dX11_keepsAct_9 (by decide) ?_
    refine jf_istore_n (lv' := [(1, .int (45 : Int32)), (0, .ref a0)]) hX dX11_keepsAct_11 rfl (by decide) rfl ?_
    refine jf_lv [1, 0] rfl ?_
    exact jgX11_keepsAct_12 hX N  N a0 (45 : Int32) u
set_option maxRecDepth 20000 in
def gX11_undo_21 (N : Nat)   : Nat → Nat → Int32 → SG → Option (Int32 × SG)
  | 0, _, _, _ => none
  | n + 1, x0, x1, u => if (45 : Int32) ≤ x1 then (if zK u x0 = 12 then (some (zI u x0 25, u)) else none)
  else (if zK u x0 = 12 then (Option.bind (zR u x0 20) fun q1 => (if zK u x0 = 12 then (Option.bind (zR u x0 24) fun q2 => (if zK u x0 = 12 then (if zK u q2 = 22 then if (((45 : Int32) * (zI u x0 25)) + x1) < 0 ∨ zN u q2 ≤ (((45 : Int32) * (zI u x0 25)) + x1).toNatClampNeg then none else (if zK u q1 = 22 then if x1 < 0 ∨ zN u q1 ≤ x1.toNatClampNeg then none else bs (sI u q1 x1.toNatClampNeg (zI u q2 (((45 : Int32) * (zI u x0 25)) + x1).toNatClampNeg)) fun u3 => ((gX11_undo_21 N  n) x0 (x1 + (1 : Int32)) u3) else none) else none) else none)) else none)) else none)
set_option maxRecDepth 20000 in
set_option maxHeartbeats 4000000 in
theorem jgX11_undo_21   {X : XT} (hX : Cx X yX11_undo cX11_undo 2 (some .int) 1 0 0) (N : Nat)  : ∀ (n : Nat) (x0 : Nat) (x1 : Int32) (u : SG), JF X True 2 0 0 (jQ X vI 0 0) 21 [(0, .ref x0), (1, .int x1)] [] u (gX11_undo_21 N   n x0 x1 u) := by
  intro n
  induction n with
  | zero => intros; intro r u9 h9; exact absurd h9 (by simp [gX11_undo_21])
  | succ n ih =>
    intro x0 x1 u
    have hrec21 := ih
    rw [gX11_undo_21]
    refine jf_iload_n hX dX11_undo_21 1 rfl ?_
    refine jf_bipush (v := 45) hX dX11_undo_22 (by decide) ?_
    refine jf_icmp_ge (tgt := 53) hX dX11_undo_24 (by decide) ?_ ?_
    · refine jf_aload_n hX dX11_undo_53 0 rfl ?_
      refine jf_getI hX ck_X11 25 wfl_182 (by decide) rfl dX11_undo_54 ?_
      exact jf_iret hX rfl (by decide) (by decide) dX11_undo_57
    · refine jf_aload_n hX dX11_undo_27 0 rfl ?_
      refine jf_getR hX ck_X11 20 wfl_31 (by decide) rfl dX11_undo_28 ?_
      refine jf_nn (fun q1 => ?_)
      refine jf_iload_n hX dX11_undo_31 1 rfl ?_
      refine jf_aload_n hX dX11_undo_32 0 rfl ?_
      refine jf_getR hX ck_X11 24 wfl_34 (by decide) rfl dX11_undo_33 ?_
      refine jf_nn (fun q2 => ?_)
      refine jf_bipush (v := 45) hX dX11_undo_36 (by decide) ?_
      refine jf_aload_n hX dX11_undo_38 0 rfl ?_
      refine jf_getI hX ck_X11 25 wfl_182 (by decide) rfl dX11_undo_39 ?_
      refine jf_imul hX dX11_undo_42 ?_
      refine jf_iload_n hX dX11_undo_43 1 rfl ?_
      refine jf_iadd hX dX11_undo_44 ?_
      refine jf_iald hX dX11_undo_45 ?_
      refine jf_iast hX trivial dX11_undo_46 (fun u3 => ?_)
      refine jf_iinc (v := 1) (lv' := [(1, .int (x1 + (1 : Int32))), (0, .ref x0)]) hX dX11_undo_47 1 rfl (by decide) (by decide) rfl ?_
      refine jf_goto (tgt := 21) hX dX11_undo_50 (by decide) ?_
      refine jf_lv [1, 0] rfl ?_
      exact hrec21 x0 (x1 + (1 : Int32)) u3
set_option maxRecDepth 20000 in
def fX11_undo (N : Nat)  (a0 : Nat) (u : SG) : Option (Int32 × SG) := if zK u a0 = 12 then (if (zI u a0 25) = 0 then (some ((-1 : Int32), u))
  else (if zK u a0 = 12 then (if zK u a0 = 12 then bs (sI u a0 25 ((zI u a0 25) - (1 : Int32))) fun u1 => (gX11_undo_21 N  N a0 (0 : Int32) u1) else none) else none)) else none
set_option maxRecDepth 20000 in
set_option maxHeartbeats 4000000 in
theorem kX11_undo  (N : Nat)  (l : Launch) (D : va_G) (cT : Nat → ClassId) (z0 : Nat) (ks : Nat × Nat) (a0 : Nat) (u : SG) : Ct l D cT z0 ks yX11_undo cX11_undo 2 (some .int) 1 0 0 vI [.ref a0] u (fX11_undo N  a0 u) := by
  unfold fX11_undo
  refine ct_of (by decide +kernel) (Nat.le_of_ble_eq_true rfl) (fun p e R s m args below meth c hX => ?_)
  show JF _ True 2 0 0 _ 0 [(0, .ref a0)] [] u _
  refine jf_aload_n hX dX11_undo_0 0 rfl ?_
  refine jf_getI hX ck_X11 25 wfl_182 (by decide) rfl dX11_undo_1 ?_
  refine jf_if_ne (tgt := 9) hX dX11_undo_4 (by decide) ?_ ?_
  · refine jf_aload_n hX dX11_undo_9 0 rfl ?_
    refine jf_dup hX dX11_undo_10 rfl ?_
    refine jf_getI hX ck_X11 25 wfl_182 (by decide) rfl dX11_undo_11 ?_
    refine jf_iconst (v := 1) hX dX11_undo_14 (by decide) ?_
    refine jf_isub hX dX11_undo_15 ?_
    refine jf_putI hX trivial ck_X11 25 wfl_182 (by decide) rfl rfl rfl dX11_undo_16 (fun u1 => ?_)
    refine jf_iconst (v := 0) hX dX11_undo_19 (by decide) ?_
    refine jf_istore_n (lv' := [(1, .int (0 : Int32)), (0, .ref a0)]) hX dX11_undo_20 rfl (by decide) rfl ?_
    refine jf_lv [1, 0] rfl ?_
    exact jgX11_undo_21 hX N  N a0 (0 : Int32) u1
  · refine jf_iconst (v := -1) hX dX11_undo_7 (by decide) ?_
    exact jf_iret hX rfl (by decide) (by decide) dX11_undo_8
set_option maxRecDepth 20000 in
def gX11_hour_39 (N : Nat)   (x0 : Nat) (u : SG) : Option (Int32 × SG) := if zK u x0 = 12 then cl (fX11_keepsAct N x0 u) fun r1 u2 => (if zK u2 x0 = 12 then cl (fX11_passes N x0 u2) fun r3 u4 => (some (r3, u4)) else none) else none
set_option maxRecDepth 20000 in
set_option maxHeartbeats 4000000 in
theorem jgX11_hour_39   {X : XT} (hX : Cx X yX11_hour cX11_hour 1 (some .int) 7 0 0) (N : Nat)  (x0 : Nat) (u : SG) : JF X True 1 0 0 (jQ X vI 0 0) 39 [(0, .ref x0)] [] u (gX11_hour_39 N   x0 u) := by
  unfold gX11_hour_39
  refine jf_aload_n hX dX11_hour_39 0 rfl ?_
  refine jf_callV (As := []) (st := []) hX mo_X11_keepsAct wml_256 winst_257 wsel_258 11 ck_X11 rfl (fun l D cT z0 ks => kX11_keepsAct N l D cT z0 ks x0 u) (by decide) (by decide) (by decide) (by decide) (Nat.le_of_ble_eq_true rfl) rfl rfl dX11_hour_40 (fun r1 u2 => ?_)
  refine jf_aload_n hX dX11_hour_43 0 rfl ?_
  refine jf_callV (As := []) (st := []) hX mo_X11_passes wml_259 winst_260 wsel_261 11 ck_X11 rfl (fun l D cT z0 ks => kX11_passes N l D cT z0 ks x0 u2) (by decide) (by decide) (by decide) (by decide) (Nat.le_of_ble_eq_true rfl) rfl rfl dX11_hour_44 (fun r3 u4 => ?_)
  exact jf_iret hX rfl (by decide) (by decide) dX11_hour_47
set_option maxRecDepth 20000 in
def fX11_hour (N : Nat)  (a0 : Nat) (u : SG) : Option (Int32 × SG) := if zK u a0 = 12 then cl (fX11_isStreet N a0 u) fun r1 u2 => (if r1 = 0 then (some ((-1 : Int32), u2))
  else (if zK u2 a0 = 12 then (Option.bind (zR u2 a0 20) fun q3 => (if zK u2 q3 = 22 then if zN u2 q3 ≤ 6 then none else (if (zI u2 q3 6) = (999 : Int32) then (if zK u2 a0 = 12 then (Option.bind (zR u2 a0 20) fun q4 => (if zK u2 q4 = 22 then if zN u2 q4 ≤ 5 then none else (if zK u2 a0 = 12 then (Option.bind (zR u2 a0 20) fun q5 => (if zK u2 q5 = 22 then if zN u2 q5 ≤ 0 then none else (if (zI u2 q4 5) = ((zI u2 q5 0) - (1 : Int32)) then (some ((-1 : Int32), u2))
  else (gX11_hour_39 N  a0 u2)) else none)) else none) else none)) else none)
  else (gX11_hour_39 N  a0 u2)) else none)) else none)) else none
set_option maxRecDepth 20000 in
set_option maxHeartbeats 4000000 in
theorem kX11_hour  (N : Nat)  (l : Launch) (D : va_G) (cT : Nat → ClassId) (z0 : Nat) (ks : Nat × Nat) (a0 : Nat) (u : SG) : Ct l D cT z0 ks yX11_hour cX11_hour 1 (some .int) 7 0 0 vI [.ref a0] u (fX11_hour N  a0 u) := by
  unfold fX11_hour
  refine ct_of (by decide +kernel) (Nat.le_of_ble_eq_true rfl) (fun p e R s m args below meth c hX => ?_)
  show JF _ True 1 0 0 _ 0 [(0, .ref a0)] [] u _
  refine jf_aload_n hX dX11_hour_0 0 rfl ?_
  refine jf_callV (As := []) (st := []) hX mo_X11_isStreet wml_253 winst_254 wsel_255 11 ck_X11 rfl (fun l D cT z0 ks => kX11_isStreet N l D cT z0 ks a0 u) (by decide) (by decide) (by decide) (by decide) (Nat.le_of_ble_eq_true rfl) rfl rfl dX11_hour_1 (fun r1 u2 => ?_)
  refine jf_if_eq (tgt := 37) hX dX11_hour_4 (by decide) ?_ ?_
  · refine jf_iconst (v := -1) hX dX11_hour_37 (by decide) ?_
    exact jf_iret hX rfl (by decide) (by decide) dX11_hour_38
  · refine jf_aload_n hX dX11_hour_7 0 rfl ?_
    refine jf_getR hX ck_X11 20 wfl_31 (by decide) rfl dX11_hour_8 ?_
    refine jf_nn (fun q3 => ?_)
    refine jf_bipush (v := 6) hX dX11_hour_11 (by decide) ?_
    refine jf_ialdc 6 hX (by decide) (by decide) dX11_hour_13 ?_
    refine jf_sipush (v := 999) hX dX11_hour_14 (by decide) ?_
    refine jf_icmp_ne (tgt := 39) hX dX11_hour_17 (by decide) ?_ ?_
    · refine jf_lv [0] rfl ?_
      exact jgX11_hour_39 hX N  a0 u2
    · refine jf_aload_n hX dX11_hour_20 0 rfl ?_
      refine jf_getR hX ck_X11 20 wfl_31 (by decide) rfl dX11_hour_21 ?_
      refine jf_nn (fun q4 => ?_)
      refine jf_iconst (v := 5) hX dX11_hour_24 (by decide) ?_
      refine jf_ialdc 5 hX (by decide) (by decide) dX11_hour_25 ?_
      refine jf_aload_n hX dX11_hour_26 0 rfl ?_
      refine jf_getR hX ck_X11 20 wfl_31 (by decide) rfl dX11_hour_27 ?_
      refine jf_nn (fun q5 => ?_)
      refine jf_iconst (v := 0) hX dX11_hour_30 (by decide) ?_
      refine jf_ialdc 0 hX (by decide) (by decide) dX11_hour_31 ?_
      refine jf_iconst (v := 1) hX dX11_hour_32 (by decide) ?_
      refine jf_isub hX dX11_hour_33 ?_
      refine jf_icmp_ne (tgt := 39) hX dX11_hour_34 (by decide) ?_ ?_
      · refine jf_lv [0] rfl ?_
        exact jgX11_hour_39 hX N  a0 u2
      · refine jf_iconst (v := -1) hX dX11_hour_37 (by decide) ?_
        exact jf_iret hX rfl (by decide) (by decide) dX11_hour_38
set_option maxRecDepth 20000 in
def gX11_sleep_47 (N : Nat)   (x0 : Nat) (x1 : Int32) (x2 : Int32) (u : SG) : Option (Int32 × SG) := if zK u x0 = 12 then cl (fX11_keepsAct N x0 u) fun r1 u2 => (if zK u2 x0 = 12 then cl (fX11_setsAsleep N x0 x1 x2 u2) fun r3 u4 => (some ((1 : Int32), u4)) else none) else none
set_option maxRecDepth 20000 in
set_option maxHeartbeats 4000000 in
theorem jgX11_sleep_47   {X : XT} (hX : Cx X yX11_sleep cX11_sleep 3 (some .boolean) 2 0 0) (N : Nat)  (x0 : Nat) (x1 : Int32) (x2 : Int32) (u : SG) : JF X True 3 0 0 (jQ X vI 0 0) 47 [(0, .ref x0), (1, .int x1), (2, .int x2)] [] u (gX11_sleep_47 N   x0 x1 x2 u) := by
  unfold gX11_sleep_47
  refine jf_aload_n hX dX11_sleep_47 0 rfl ?_
  refine jf_callV (As := []) (st := []) hX mo_X11_keepsAct wml_256 winst_257 wsel_258 11 ck_X11 rfl (fun l D cT z0 ks => kX11_keepsAct N l D cT z0 ks x0 u) (by decide) (by decide) (by decide) (by decide) (Nat.le_of_ble_eq_true rfl) rfl rfl dX11_sleep_48 (fun r1 u2 => ?_)
  refine jf_aload_n hX dX11_sleep_51 0 rfl ?_
  refine jf_iload_n hX dX11_sleep_52 1 rfl ?_
  refine jf_iload_n hX dX11_sleep_53 2 rfl ?_
  refine jf_callV (As := [.int x1, .int x2]) (st := []) hX mo_X11_setsAsleep wml_232 winst_233 wsel_234 11 ck_X11 rfl (fun l D cT z0 ks => kX11_setsAsleep N l D cT z0 ks x0 x1 x2 u2) (by decide) (by decide) (by decide) (by decide) (Nat.le_of_ble_eq_true rfl) rfl rfl dX11_sleep_54 (fun r3 u4 => ?_)
  refine jf_iconst (v := 1) hX dX11_sleep_57 (by decide) ?_
  exact jf_zretc hX rfl (by decide) (by decide) (by decide) dX11_sleep_58
set_option maxRecDepth 20000 in
def gX11_sleep_23 (N : Nat)   (x0 : Nat) (x1 : Int32) (x2 : Int32) (s0 : Int32) (u : SG) : Option (Int32 × SG) := if s0 = x2 then (some ((0 : Int32), u))
  else (if x2 = 0 then (gX11_sleep_47 N  x0 x1 x2 u)
  else (if zK u x0 = 12 then (Option.bind (zR u x0 20) fun q1 => (if zK u q1 = 22 then if zN u q1 ≤ 5 then none else (if zK u x0 = 12 then cl (fX11_worksIn N x0 x1 (zI u q1 5) u) fun r2 u3 => (if r2 = 0 then (gX11_sleep_47 N  x0 x1 x2 u3)
  else (some ((0 : Int32), u3))) else none) else none)) else none))
set_option maxRecDepth 20000 in
set_option maxHeartbeats 4000000 in
theorem jgX11_sleep_23   {X : XT} (hX : Cx X yX11_sleep cX11_sleep 3 (some .boolean) 2 0 0) (N : Nat)  (x0 : Nat) (x1 : Int32) (x2 : Int32) (s0 : Int32) (u : SG) : JF X True 3 0 0 (jQ X vI 0 0) 23 [(0, .ref x0), (1, .int x1), (2, .int x2)] [.int s0] u (gX11_sleep_23 N   x0 x1 x2 s0 u) := by
  unfold gX11_sleep_23
  refine jf_iload_n hX dX11_sleep_23 2 rfl ?_
  refine jf_icmp_eq (tgt := 45) hX dX11_sleep_24 (by decide) ?_ ?_
  · refine jf_iconst (v := 0) hX dX11_sleep_45 (by decide) ?_
    exact jf_zretc hX rfl (by decide) (by decide) (by decide) dX11_sleep_46
  · refine jf_iload_n hX dX11_sleep_27 2 rfl ?_
    refine jf_if_eq (tgt := 47) hX dX11_sleep_28 (by decide) ?_ ?_
    · refine jf_lv [0, 1, 2] rfl ?_
      exact jgX11_sleep_47 hX N  x0 x1 x2 u
    · refine jf_aload_n hX dX11_sleep_31 0 rfl ?_
      refine jf_iload_n hX dX11_sleep_32 1 rfl ?_
      refine jf_aload_n hX dX11_sleep_33 0 rfl ?_
      refine jf_getR hX ck_X11 20 wfl_31 (by decide) rfl dX11_sleep_34 ?_
      refine jf_nn (fun q1 => ?_)
      refine jf_iconst (v := 5) hX dX11_sleep_37 (by decide) ?_
      refine jf_ialdc 5 hX (by decide) (by decide) dX11_sleep_38 ?_
      refine jf_callV (As := [.int x1, .int (zI u q1 5)]) (st := []) hX mo_X11_worksIn wml_204 winst_205 wsel_206 11 ck_X11 rfl (fun l D cT z0 ks => kX11_worksIn N l D cT z0 ks x0 x1 (zI u q1 5) u) (by decide) (by decide) (by decide) (by decide) (Nat.le_of_ble_eq_true rfl) rfl rfl dX11_sleep_39 (fun r2 u3 => ?_)
      refine jf_if_eq (tgt := 47) hX dX11_sleep_42 (by decide) ?_ ?_
      · refine jf_lv [0, 1, 2] rfl ?_
        exact jgX11_sleep_47 hX N  x0 x1 x2 u3
      · refine jf_iconst (v := 0) hX dX11_sleep_45 (by decide) ?_
        exact jf_zretc hX rfl (by decide) (by decide) (by decide) dX11_sleep_46
set_option maxRecDepth 20000 in
def fX11_sleep (N : Nat)  (a0 : Nat) (p1 : Int32) (p2 : Int32) (u : SG) : Option (Int32 × SG) := if zK u a0 = 12 then cl (fX11_isPerson N a0 p1 u) fun r1 u2 => (if r1 = 0 then (some ((0 : Int32), u2))
  else (if zK u2 a0 = 12 then cl (fX11_personOf N a0 p1 (2 : Int32) u2) fun r3 u4 => (if r3 = (1 : Int32) then (gX11_sleep_23 N  a0 p1 p2 (1 : Int32) u4)
  else (gX11_sleep_23 N  a0 p1 p2 (0 : Int32) u4)) else none)) else none
set_option maxRecDepth 20000 in
set_option maxHeartbeats 4000000 in
theorem kX11_sleep  (N : Nat)  (l : Launch) (D : va_G) (cT : Nat → ClassId) (z0 : Nat) (ks : Nat × Nat) (a0 : Nat) (p1 : Int32) (p2 : Int32) (u : SG) : Ct l D cT z0 ks yX11_sleep cX11_sleep 3 (some .boolean) 2 0 0 vI [.ref a0, .int p1, .int p2] u (fX11_sleep N  a0 p1 p2 u) := by
  unfold fX11_sleep
  refine ct_of (by decide +kernel) (Nat.le_of_ble_eq_true rfl) (fun p e R s m args below meth c hX => ?_)
  show JF _ True 3 0 0 _ 0 [(0, .ref a0), (1, .int p1), (2, .int p2)] [] u _
  refine jf_aload_n hX dX11_sleep_0 0 rfl ?_
  refine jf_iload_n hX dX11_sleep_1 1 rfl ?_
  refine jf_callV (As := [.int p1]) (st := []) hX mo_X11_isPerson wml_210 winst_211 wsel_212 11 ck_X11 rfl (fun l D cT z0 ks => kX11_isPerson N l D cT z0 ks a0 p1 u) (by decide) (by decide) (by decide) (by decide) (Nat.le_of_ble_eq_true rfl) rfl rfl dX11_sleep_2 (fun r1 u2 => ?_)
  refine jf_if_eq (tgt := 45) hX dX11_sleep_5 (by decide) ?_ ?_
  · refine jf_iconst (v := 0) hX dX11_sleep_45 (by decide) ?_
    exact jf_zretc hX rfl (by decide) (by decide) (by decide) dX11_sleep_46
  · refine jf_aload_n hX dX11_sleep_8 0 rfl ?_
    refine jf_iload_n hX dX11_sleep_9 1 rfl ?_
    refine jf_iconst (v := 2) hX dX11_sleep_10 (by decide) ?_
    refine jf_callV (As := [.int p1, .int (2 : Int32)]) (st := []) hX mo_X11_personOf wml_201 winst_202 wsel_203 11 ck_X11 rfl (fun l D cT z0 ks => kX11_personOf N l D cT z0 ks a0 p1 (2 : Int32) u2) (by decide) (by decide) (by decide) (by decide) (Nat.le_of_ble_eq_true rfl) rfl rfl dX11_sleep_11 (fun r3 u4 => ?_)
    refine jf_iconst (v := 1) hX dX11_sleep_14 (by decide) ?_
    refine jf_icmp_ne (tgt := 22) hX dX11_sleep_15 (by decide) ?_ ?_
    · refine jf_iconst (v := 0) hX dX11_sleep_22 (by decide) ?_
      refine jf_lv [0, 1, 2] rfl ?_
      exact jgX11_sleep_23 hX N  a0 p1 p2 (0 : Int32) u4
    · refine jf_iconst (v := 1) hX dX11_sleep_18 (by decide) ?_
      refine jf_goto (tgt := 23) hX dX11_sleep_19 (by decide) ?_
      refine jf_lv [0, 1, 2] rfl ?_
      exact jgX11_sleep_23 hX N  a0 p1 p2 (1 : Int32) u4
set_option maxRecDepth 20000 in
def fX11_light (N : Nat)  (a0 : Nat) (p1 : Int32) (p2 : Int32) (u : SG) : Option (Int32 × SG) := if zK u a0 = 12 then cl (fX11_isLamp N a0 p1 u) fun r1 u2 => (if r1 = 0 then (some ((0 : Int32), u2))
  else (if zK u2 a0 = 12 then (Option.bind (zR u2 a0 20) fun q3 => (if zK u2 q3 = 22 then if zN u2 q3 ≤ 5 then none else (if zK u2 a0 = 12 then cl (fX11_burnsIn N a0 p1 (zI u2 q3 5) u2) fun r4 u5 => (if r4 = p2 then (some ((0 : Int32), u5))
  else (if zK u5 a0 = 12 then cl (fX11_keepsAct N a0 u5) fun r6 u7 => (if zK u7 a0 = 12 then (Option.bind (zR u7 a0 20) fun q8 => (if p2 = 0 then (if zK u7 q8 = 22 then if ((40 : Int32) + p1) < 0 ∨ zN u7 q8 ≤ ((40 : Int32) + p1).toNatClampNeg then none else bs (sI u7 q8 ((40 : Int32) + p1).toNatClampNeg (2 : Int32)) fun u9 => (some ((1 : Int32), u9)) else none)
  else (if zK u7 q8 = 22 then if ((40 : Int32) + p1) < 0 ∨ zN u7 q8 ≤ ((40 : Int32) + p1).toNatClampNeg then none else bs (sI u7 q8 ((40 : Int32) + p1).toNatClampNeg (1 : Int32)) fun u10 => (some ((1 : Int32), u10)) else none))) else none) else none)) else none) else none)) else none)) else none
set_option maxRecDepth 20000 in
set_option maxHeartbeats 4000000 in
theorem kX11_light  (N : Nat)  (l : Launch) (D : va_G) (cT : Nat → ClassId) (z0 : Nat) (ks : Nat × Nat) (a0 : Nat) (p1 : Int32) (p2 : Int32) (u : SG) : Ct l D cT z0 ks yX11_light cX11_light 3 (some .boolean) 3 0 0 vI [.ref a0, .int p1, .int p2] u (fX11_light N  a0 p1 p2 u) := by
  unfold fX11_light
  refine ct_of (by decide +kernel) (Nat.le_of_ble_eq_true rfl) (fun p e R s m args below meth c hX => ?_)
  show JF _ True 3 0 0 _ 0 [(0, .ref a0), (1, .int p1), (2, .int p2)] [] u _
  refine jf_aload_n hX dX11_light_0 0 rfl ?_
  refine jf_iload_n hX dX11_light_1 1 rfl ?_
  refine jf_callV (As := [.int p1]) (st := []) hX mo_X11_isLamp wml_214 winst_215 wsel_216 11 ck_X11 rfl (fun l D cT z0 ks => kX11_isLamp N l D cT z0 ks a0 p1 u) (by decide) (by decide) (by decide) (by decide) (Nat.le_of_ble_eq_true rfl) rfl rfl dX11_light_2 (fun r1 u2 => ?_)
  refine jf_if_eq (tgt := 23) hX dX11_light_5 (by decide) ?_ ?_
  · refine jf_iconst (v := 0) hX dX11_light_23 (by decide) ?_
    exact jf_zretc hX rfl (by decide) (by decide) (by decide) dX11_light_24
  · refine jf_aload_n hX dX11_light_8 0 rfl ?_
    refine jf_iload_n hX dX11_light_9 1 rfl ?_
    refine jf_aload_n hX dX11_light_10 0 rfl ?_
    refine jf_getR hX ck_X11 20 wfl_31 (by decide) rfl dX11_light_11 ?_
    refine jf_nn (fun q3 => ?_)
    refine jf_iconst (v := 5) hX dX11_light_14 (by decide) ?_
    refine jf_ialdc 5 hX (by decide) (by decide) dX11_light_15 ?_
    refine jf_callV (As := [.int p1, .int (zI u2 q3 5)]) (st := []) hX mo_X11_burnsIn wml_195 winst_196 wsel_197 11 ck_X11 rfl (fun l D cT z0 ks => kX11_burnsIn N l D cT z0 ks a0 p1 (zI u2 q3 5) u2) (by decide) (by decide) (by decide) (by decide) (Nat.le_of_ble_eq_true rfl) rfl rfl dX11_light_16 (fun r4 u5 => ?_)
    refine jf_iload_n hX dX11_light_19 2 rfl ?_
    refine jf_icmp_ne (tgt := 25) hX dX11_light_20 (by decide) ?_ ?_
    · refine jf_aload_n hX dX11_light_25 0 rfl ?_
      refine jf_callV (As := []) (st := []) hX mo_X11_keepsAct wml_256 winst_257 wsel_258 11 ck_X11 rfl (fun l D cT z0 ks => kX11_keepsAct N l D cT z0 ks a0 u5) (by decide) (by decide) (by decide) (by decide) (Nat.le_of_ble_eq_true rfl) rfl rfl dX11_light_26 (fun r6 u7 => ?_)
      refine jf_aload_n hX dX11_light_29 0 rfl ?_
      refine jf_getR hX ck_X11 20 wfl_31 (by decide) rfl dX11_light_30 ?_
      refine jf_nn (fun q8 => ?_)
      refine jf_bipush (v := 40) hX dX11_light_33 (by decide) ?_
      refine jf_iload_n hX dX11_light_35 1 rfl ?_
      refine jf_iadd hX dX11_light_36 ?_
      refine jf_iload_n hX dX11_light_37 2 rfl ?_
      refine jf_if_eq (tgt := 45) hX dX11_light_38 (by decide) ?_ ?_
      · refine jf_iconst (v := 2) hX dX11_light_45 (by decide) ?_
        refine jf_iast hX trivial dX11_light_46 (fun u9 => ?_)
        refine jf_iconst (v := 1) hX dX11_light_47 (by decide) ?_
        exact jf_zretc hX rfl (by decide) (by decide) (by decide) dX11_light_48
      · refine jf_iconst (v := 1) hX dX11_light_41 (by decide) ?_
        refine jf_goto (tgt := 46) hX dX11_light_42 (by decide) ?_
        refine jf_iast hX trivial dX11_light_46 (fun u10 => ?_)
        refine jf_iconst (v := 1) hX dX11_light_47 (by decide) ?_
        exact jf_zretc hX rfl (by decide) (by decide) (by decide) dX11_light_48
    · refine jf_iconst (v := 0) hX dX11_light_23 (by decide) ?_
      exact jf_zretc hX rfl (by decide) (by decide) (by decide) dX11_light_24
set_option maxRecDepth 20000 in
def gX11_divisor_4 (N : Nat)   : Nat → Int32 → Int32 → SG → Option (Int32 × SG)
  | 0, _, _, _ => none
  | n + 1, x2, x3, u => if x3 = 0 then (some (x2, u))
  else (if x3 = 0 then none else (bs (x2 - x2 / x3 * x3) fun v1 => ((gX11_divisor_4 N  n) x3 v1 u)))
set_option maxRecDepth 20000 in
set_option maxHeartbeats 4000000 in
theorem jgX11_divisor_4   {X : XT} (hX : Cx X yX11_divisor cX11_divisor 5 (some .int) 1 0 0) (N : Nat)  : ∀ (n : Nat) (x2 : Int32) (x3 : Int32) (u : SG), JF X True 5 0 0 (jQ X vI 0 0) 4 [(2, .int x2), (3, .int x3)] [] u (gX11_divisor_4 N   n x2 x3 u) := by
  intro n
  induction n with
  | zero => intros; intro r u9 h9; exact absurd h9 (by simp [gX11_divisor_4])
  | succ n ih =>
    intro x2 x3 u
    have hrec4 := ih
    rw [gX11_divisor_4]
    refine jf_iload_n hX dX11_divisor_4 1 rfl ?_
    refine jf_if_eq (tgt := 21) hX dX11_divisor_5 (by decide) ?_ ?_
    · refine jf_iload_n hX dX11_divisor_21 0 rfl ?_
      exact jf_iret hX rfl (by decide) (by decide) dX11_divisor_22
    · refine jf_iload_n hX dX11_divisor_8 0 rfl ?_
      refine jf_iload_n hX dX11_divisor_9 1 rfl ?_
      refine jf_irem hX dX11_divisor_10 ?_
      refine jf_nmI (fun v1 => ?_)
      refine jf_istore (lv' := [(4, .int v1), (2, .int x2), (3, .int x3)]) hX dX11_divisor_11 (by decide) rfl ?_
      refine jf_iload_n hX dX11_divisor_13 2 rfl ?_
      refine jf_istore_n (lv' := [(2, .int x3), (4, .int v1), (3, .int x3)]) hX dX11_divisor_14 rfl (by decide) rfl ?_
      refine jf_iload hX dX11_divisor_15 1 rfl ?_
      refine jf_istore_n (lv' := [(3, .int v1), (2, .int x3), (4, .int v1)]) hX dX11_divisor_17 rfl (by decide) rfl ?_
      refine jf_goto (tgt := 4) hX dX11_divisor_18 (by decide) ?_
      refine jf_lv [1, 0] rfl ?_
      exact hrec4 x3 v1 u
set_option maxRecDepth 20000 in
def fX11_divisor (N : Nat)  (p1 : Int32) (p2 : Int32) (u : SG) : Option (Int32 × SG) := gX11_divisor_4 N  N p1 p2 u
set_option maxRecDepth 20000 in
set_option maxHeartbeats 4000000 in
theorem kX11_divisor  (N : Nat)  (l : Launch) (D : va_G) (cT : Nat → ClassId) (z0 : Nat) (ks : Nat × Nat) (p1 : Int32) (p2 : Int32) (u : SG) : Ct l D cT z0 ks yX11_divisor cX11_divisor 5 (some .int) 1 0 0 vI [.int p1, .int p2] u (fX11_divisor N  p1 p2 u) := by
  unfold fX11_divisor
  refine ct_of (by decide +kernel) (Nat.le_of_ble_eq_true rfl) (fun p e R s m args below meth c hX => ?_)
  show JF _ True 5 0 0 _ 0 [(0, .int p1), (1, .int p2)] [] u _
  refine jf_iload_n hX dX11_divisor_0 0 rfl ?_
  refine jf_istore_n (lv' := [(2, .int p1), (0, .int p1), (1, .int p2)]) hX dX11_divisor_1 rfl (by decide) rfl ?_
  refine jf_iload_n hX dX11_divisor_2 2 rfl ?_
  refine jf_istore_n (lv' := [(3, .int p2), (2, .int p1), (0, .int p1), (1, .int p2)]) hX dX11_divisor_3 rfl (by decide) rfl ?_
  refine jf_lv [1, 0] rfl ?_
  exact jgX11_divisor_4 hX N  N p1 p2 u
set_option maxRecDepth 20000 in
def gX11_fraction_11 (N : Nat)   (x0 : Int32) (x1 : Int32) (x2 : Int32) (s0 : Int32) (s1 : Int32) (u : SG) : Option (Int32 × SG) := cl (fX11_divisor N s0 s1 u) fun r1 u2 => (if x2 = 0 then (if r1 = 0 then none else (some (x0 / r1, u2)))
  else (if r1 = 0 then none else (some (x1 / r1, u2))))
set_option maxRecDepth 20000 in
set_option maxHeartbeats 4000000 in
theorem jgX11_fraction_11   {X : XT} (hX : Cx X yX11_fraction cX11_fraction 4 (some .int) 2 0 0) (N : Nat)  (x0 : Int32) (x1 : Int32) (x2 : Int32) (s0 : Int32) (s1 : Int32) (u : SG) : JF X True 4 0 0 (jQ X vI 0 0) 11 [(0, .int x0), (1, .int x1), (2, .int x2)] [.int s1, .int s0] u (gX11_fraction_11 N   x0 x1 x2 s0 s1 u) := by
  unfold gX11_fraction_11
  refine jf_callS (As := [.int s0, .int s1]) (st := []) hX mo_X11_divisor wml_262 wstat_263 rfl (fun l D cT z0 ks => kX11_divisor N l D cT z0 ks s0 s1 u) (by decide) (by decide) (by decide) (by decide) (Nat.le_of_ble_eq_true rfl) rfl rfl dX11_fraction_11 (fun r1 u2 => ?_)
  refine jf_istore_n (lv' := [(3, .int r1), (0, .int x0), (1, .int x1), (2, .int x2)]) hX dX11_fraction_14 rfl (by decide) rfl ?_
  refine jf_iload_n hX dX11_fraction_15 3 rfl ?_
  refine jf_if_ne (tgt := 23) hX dX11_fraction_16 (by decide) ?_ ?_
  · refine jf_iload_n hX dX11_fraction_23 2 rfl ?_
    refine jf_iload_n hX dX11_fraction_24 0 rfl ?_
    refine jf_idiv hX dX11_fraction_25 ?_
    exact jf_iret hX rfl (by decide) (by decide) dX11_fraction_26
  · refine jf_iload_n hX dX11_fraction_19 1 rfl ?_
    refine jf_goto (tgt := 24) hX dX11_fraction_20 (by decide) ?_
    refine jf_iload_n hX dX11_fraction_24 0 rfl ?_
    refine jf_idiv hX dX11_fraction_25 ?_
    exact jf_iret hX rfl (by decide) (by decide) dX11_fraction_26
set_option maxRecDepth 20000 in
def fX11_fraction (N : Nat)  (p1 : Int32) (p2 : Int32) (p3 : Int32) (u : SG) : Option (Int32 × SG) := if 0 ≤ p1 then (gX11_fraction_11 N  p1 p2 p3 p2 p1 u)
  else (gX11_fraction_11 N  p1 p2 p3 p2 (0 - p1) u)
set_option maxRecDepth 20000 in
set_option maxHeartbeats 4000000 in
theorem kX11_fraction  (N : Nat)  (l : Launch) (D : va_G) (cT : Nat → ClassId) (z0 : Nat) (ks : Nat × Nat) (p1 : Int32) (p2 : Int32) (p3 : Int32) (u : SG) : Ct l D cT z0 ks yX11_fraction cX11_fraction 4 (some .int) 2 0 0 vI [.int p1, .int p2, .int p3] u (fX11_fraction N  p1 p2 p3 u) := by
  unfold fX11_fraction
  refine ct_of (by decide +kernel) (Nat.le_of_ble_eq_true rfl) (fun p e R s m args below meth c hX => ?_)
  show JF _ True 4 0 0 _ 0 [(0, .int p1), (1, .int p2), (2, .int p3)] [] u _
  refine jf_iload_n hX dX11_fraction_0 1 rfl ?_
  refine jf_iload_n hX dX11_fraction_1 0 rfl ?_
  refine jf_if_ge (tgt := 10) hX dX11_fraction_2 (by decide) ?_ ?_
  · refine jf_iload_n hX dX11_fraction_10 0 rfl ?_
    refine jf_lv [0, 1, 2] rfl ?_
    exact jgX11_fraction_11 hX N  p1 p2 p3 p2 p1 u
  · refine jf_iload_n hX dX11_fraction_5 0 rfl ?_
    refine jf_ineg hX dX11_fraction_6 ?_
    refine jf_goto (tgt := 11) hX dX11_fraction_7 (by decide) ?_
    refine jf_lv [0, 1, 2] rfl ?_
    exact jgX11_fraction_11 hX N  p1 p2 p3 p2 (0 - p1) u
set_option maxRecDepth 20000 in
def gX11_owed_53 (N : Nat)   (x2 : Int32) (s0 : Int32) (u : SG) : Option (Int32 × SG) := cl (fX11_fraction N s0 (60 : Int32) x2 u) fun r1 u2 => (some (r1, u2))
set_option maxRecDepth 20000 in
set_option maxHeartbeats 4000000 in
theorem jgX11_owed_53   {X : XT} (hX : Cx X yX11_owed cX11_owed 3 (some .int) 3 0 0) (N : Nat)  (x2 : Int32) (s0 : Int32) (u : SG) : JF X True 3 0 0 (jQ X vI 0 0) 53 [(2, .int x2)] [.int s0] u (gX11_owed_53 N   x2 s0 u) := by
  unfold gX11_owed_53
  refine jf_bipush (v := 60) hX dX11_owed_53 (by decide) ?_
  refine jf_iload_n hX dX11_owed_55 0 rfl ?_
  refine jf_callS (As := [.int s0, .int (60 : Int32), .int x2]) (st := []) hX mo_X11_fraction wml_264 wstat_265 rfl (fun l D cT z0 ks => kX11_fraction N l D cT z0 ks s0 (60 : Int32) x2 u) (by decide) (by decide) (by decide) (by decide) (Nat.le_of_ble_eq_true rfl) rfl rfl dX11_owed_56 (fun r1 u2 => ?_)
  exact jf_iret hX rfl (by decide) (by decide) dX11_owed_59
set_option maxRecDepth 20000 in
def gX11_owed_20 (N : Nat)   (x0 : Nat) (x1 : Int32) (x2 : Int32) (u : SG) : Option (Int32 × SG) := cl (fX11_in N x2.toInt64 (0 : Int64) (1 : Int64) u) fun r1 u2 => (if r1 = 0 then (some ((-1 : Int32), u2))
  else (if x1 = (-1 : Int32) then (if zK u2 x0 = 12 then (Option.bind (zR u2 x0 20) fun q5 => (if zK u2 q5 = 22 then if zN u2 q5 ≤ 7 then none else (gX11_owed_53 N  x2 (zI u2 q5 7) u2) else none)) else none)
  else (if zK u2 x0 = 12 then cl (fX11_personOf N x0 x1 (5 : Int32) u2) fun r3 u4 => (gX11_owed_53 N  x2 r3 u4) else none)))
set_option maxRecDepth 20000 in
set_option maxHeartbeats 4000000 in
theorem jgX11_owed_20   {X : XT} (hX : Cx X yX11_owed cX11_owed 3 (some .int) 3 0 0) (N : Nat)  (x0 : Nat) (x1 : Int32) (x2 : Int32) (u : SG) : JF X True 3 0 0 (jQ X vI 0 0) 20 [(0, .ref x0), (1, .int x1), (2, .int x2)] [] u (gX11_owed_20 N   x0 x1 x2 u) := by
  unfold gX11_owed_20
  refine jf_iload_n hX dX11_owed_20 2 rfl ?_
  refine jf_i2l hX dX11_owed_21 ?_
  refine jf_lconst (v := 0) hX dX11_owed_22 (by decide) ?_
  refine jf_lconst (v := 1) hX dX11_owed_23 (by decide) ?_
  refine jf_callS (As := [.long x2.toInt64, .long (0 : Int64), .long (1 : Int64)]) (st := []) hX mo_X11_in wml_68 wstat_69 rfl (fun l D cT z0 ks => kX11_in N l D cT z0 ks x2.toInt64 (0 : Int64) (1 : Int64) u) (by decide) (by decide) (by decide) (by decide) (Nat.le_of_ble_eq_true rfl) rfl rfl dX11_owed_24 (fun r1 u2 => ?_)
  refine jf_if_ne (tgt := 32) hX dX11_owed_27 (by decide) ?_ ?_
  · refine jf_iload_n hX dX11_owed_32 1 rfl ?_
    refine jf_iconst (v := -1) hX dX11_owed_33 (by decide) ?_
    refine jf_icmp_ne (tgt := 47) hX dX11_owed_34 (by decide) ?_ ?_
    · refine jf_aload_n hX dX11_owed_47 0 rfl ?_
      refine jf_iload_n hX dX11_owed_48 1 rfl ?_
      refine jf_iconst (v := 5) hX dX11_owed_49 (by decide) ?_
      refine jf_callV (As := [.int x1, .int (5 : Int32)]) (st := []) hX mo_X11_personOf wml_201 winst_202 wsel_203 11 ck_X11 rfl (fun l D cT z0 ks => kX11_personOf N l D cT z0 ks x0 x1 (5 : Int32) u2) (by decide) (by decide) (by decide) (by decide) (Nat.le_of_ble_eq_true rfl) rfl rfl dX11_owed_50 (fun r3 u4 => ?_)
      refine jf_lv [2] rfl ?_
      exact jgX11_owed_53 hX N  x2 r3 u4
    · refine jf_aload_n hX dX11_owed_37 0 rfl ?_
      refine jf_getR hX ck_X11 20 wfl_31 (by decide) rfl dX11_owed_38 ?_
      refine jf_nn (fun q5 => ?_)
      refine jf_bipush (v := 7) hX dX11_owed_41 (by decide) ?_
      refine jf_ialdc 7 hX (by decide) (by decide) dX11_owed_43 ?_
      refine jf_goto (tgt := 53) hX dX11_owed_44 (by decide) ?_
      refine jf_lv [2] rfl ?_
      exact jgX11_owed_53 hX N  x2 (zI u2 q5 7) u2
  · refine jf_iconst (v := -1) hX dX11_owed_30 (by decide) ?_
    exact jf_iret hX rfl (by decide) (by decide) dX11_owed_31
set_option maxRecDepth 20000 in
def fX11_owed (N : Nat)  (a0 : Nat) (p1 : Int32) (p2 : Int32) (u : SG) : Option (Int32 × SG) := if zK u a0 = 12 then cl (fX11_isStreet N a0 u) fun r1 u2 => (if r1 = 0 then (some ((-1 : Int32), u2))
  else (if p1 = (-1 : Int32) then (gX11_owed_20 N  a0 p1 p2 u2)
  else (if zK u2 a0 = 12 then cl (fX11_isPerson N a0 p1 u2) fun r3 u4 => (if r3 = 0 then (some ((-1 : Int32), u4))
  else (gX11_owed_20 N  a0 p1 p2 u4)) else none))) else none
set_option maxRecDepth 20000 in
set_option maxHeartbeats 4000000 in
theorem kX11_owed  (N : Nat)  (l : Launch) (D : va_G) (cT : Nat → ClassId) (z0 : Nat) (ks : Nat × Nat) (a0 : Nat) (p1 : Int32) (p2 : Int32) (u : SG) : Ct l D cT z0 ks yX11_owed cX11_owed 3 (some .int) 3 0 0 vI [.ref a0, .int p1, .int p2] u (fX11_owed N  a0 p1 p2 u) := by
  unfold fX11_owed
  refine ct_of (by decide +kernel) (Nat.le_of_ble_eq_true rfl) (fun p e R s m args below meth c hX => ?_)
  show JF _ True 3 0 0 _ 0 [(0, .ref a0), (1, .int p1), (2, .int p2)] [] u _
  refine jf_aload_n hX dX11_owed_0 0 rfl ?_
  refine jf_callV (As := []) (st := []) hX mo_X11_isStreet wml_253 winst_254 wsel_255 11 ck_X11 rfl (fun l D cT z0 ks => kX11_isStreet N l D cT z0 ks a0 u) (by decide) (by decide) (by decide) (by decide) (Nat.le_of_ble_eq_true rfl) rfl rfl dX11_owed_1 (fun r1 u2 => ?_)
  refine jf_if_eq (tgt := 30) hX dX11_owed_4 (by decide) ?_ ?_
  · refine jf_iconst (v := -1) hX dX11_owed_30 (by decide) ?_
    exact jf_iret hX rfl (by decide) (by decide) dX11_owed_31
  · refine jf_iload_n hX dX11_owed_7 1 rfl ?_
    refine jf_iconst (v := -1) hX dX11_owed_8 (by decide) ?_
    refine jf_icmp_eq (tgt := 20) hX dX11_owed_9 (by decide) ?_ ?_
    · refine jf_lv [0, 1, 2] rfl ?_
      exact jgX11_owed_20 hX N  a0 p1 p2 u2
    · refine jf_aload_n hX dX11_owed_12 0 rfl ?_
      refine jf_iload_n hX dX11_owed_13 1 rfl ?_
      refine jf_callV (As := [.int p1]) (st := []) hX mo_X11_isPerson wml_210 winst_211 wsel_212 11 ck_X11 rfl (fun l D cT z0 ks => kX11_isPerson N l D cT z0 ks a0 p1 u2) (by decide) (by decide) (by decide) (by decide) (Nat.le_of_ble_eq_true rfl) rfl rfl dX11_owed_14 (fun r3 u4 => ?_)
      refine jf_if_eq (tgt := 30) hX dX11_owed_17 (by decide) ?_ ?_
      · refine jf_iconst (v := -1) hX dX11_owed_30 (by decide) ?_
        exact jf_iret hX rfl (by decide) (by decide) dX11_owed_31
      · refine jf_lv [0, 1, 2] rfl ?_
        exact jgX11_owed_20 hX N  a0 p1 p2 u4
set_option maxRecDepth 20000 in
def gX11_keeps_28 (N : Nat)   : Nat → Nat → Int32 → SG → Option (Unit × SG)
  | 0, _, _, _ => none
  | n + 1, x0, x1, u => if (5 : Int32) ≤ x1 then (some ((), u))
  else (if zK u x0 = 12 then (Option.bind (zR u x0 23) fun q1 => (if zK u q1 = 22 then if x1 < 0 ∨ zN u q1 ≤ x1.toNatClampNeg then none else bs (sI u q1 x1.toNatClampNeg (0 : Int32)) fun u2 => ((gX11_keeps_28 N  n) x0 (x1 + (1 : Int32)) u2) else none)) else none)
set_option maxRecDepth 20000 in
set_option maxHeartbeats 4000000 in
theorem jgX11_keeps_28   {X : XT} (hX : Cx X yX11_keeps cX11_keeps 2 none 1 0 0) (N : Nat)  : ∀ (n : Nat) (x0 : Nat) (x1 : Int32) (u : SG), JF X True 2 0 0 (jQ X vU 0 0) 28 [(0, .ref x0), (1, .int x1)] [] u (gX11_keeps_28 N   n x0 x1 u) := by
  intro n
  induction n with
  | zero => intros; intro r u9 h9; exact absurd h9 (by simp [gX11_keeps_28])
  | succ n ih =>
    intro x0 x1 u
    have hrec28 := ih
    rw [gX11_keeps_28]
    refine jf_iload_n hX dX11_keeps_28 1 rfl ?_
    refine jf_iconst (v := 5) hX dX11_keeps_29 (by decide) ?_
    refine jf_icmp_ge (tgt := 46) hX dX11_keeps_30 (by decide) ?_ ?_
    · exact jf_vret hX rfl (by decide) (by decide) dX11_keeps_46
    · refine jf_aload_n hX dX11_keeps_33 0 rfl ?_
      refine jf_getR hX ck_X11 23 wfl_33 (by decide) rfl dX11_keeps_34 ?_
      refine jf_nn (fun q1 => ?_)
      refine jf_iload_n hX dX11_keeps_37 1 rfl ?_
      refine jf_iconst (v := 0) hX dX11_keeps_38 (by decide) ?_
      refine jf_iast hX trivial dX11_keeps_39 (fun u2 => ?_)
      refine jf_iinc (v := 1) (lv' := [(1, .int (x1 + (1 : Int32))), (0, .ref x0)]) hX dX11_keeps_40 1 rfl (by decide) (by decide) rfl ?_
      refine jf_goto (tgt := 28) hX dX11_keeps_43 (by decide) ?_
      refine jf_lv [1, 0] rfl ?_
      exact hrec28 x0 (x1 + (1 : Int32)) u2
set_option maxRecDepth 20000 in
def gX11_keeps_2 (N : Nat)   : Nat → Nat → Int32 → SG → Option (Unit × SG)
  | 0, _, _, _ => none
  | n + 1, x0, x1, u => if (45 : Int32) ≤ x1 then (gX11_keeps_28 N  N x0 (0 : Int32) u)
  else (if zK u x0 = 12 then (Option.bind (zR u x0 26) fun q1 => (if zK u x0 = 12 then (Option.bind (zR u x0 20) fun q2 => (if zK u q2 = 22 then if x1 < 0 ∨ zN u q2 ≤ x1.toNatClampNeg then none else (if zK u q1 = 22 then if x1 < 0 ∨ zN u q1 ≤ x1.toNatClampNeg then none else bs (sI u q1 x1.toNatClampNeg (zI u q2 x1.toNatClampNeg)) fun u3 => ((gX11_keeps_2 N  n) x0 (x1 + (1 : Int32)) u3) else none) else none)) else none)) else none)
set_option maxRecDepth 20000 in
set_option maxHeartbeats 4000000 in
theorem jgX11_keeps_2   {X : XT} (hX : Cx X yX11_keeps cX11_keeps 2 none 1 0 0) (N : Nat)  : ∀ (n : Nat) (x0 : Nat) (x1 : Int32) (u : SG), JF X True 2 0 0 (jQ X vU 0 0) 2 [(0, .ref x0), (1, .int x1)] [] u (gX11_keeps_2 N   n x0 x1 u) := by
  intro n
  induction n with
  | zero => intros; intro r u9 h9; exact absurd h9 (by simp [gX11_keeps_2])
  | succ n ih =>
    intro x0 x1 u
    have hrec2 := ih
    rw [gX11_keeps_2]
    refine jf_iload_n hX dX11_keeps_2 1 rfl ?_
    refine jf_bipush (v := 45) hX dX11_keeps_3 (by decide) ?_
    refine jf_icmp_ge (tgt := 26) hX dX11_keeps_5 (by decide) ?_ ?_
    · refine jf_iconst (v := 0) hX dX11_keeps_26 (by decide) ?_
      refine jf_istore_n (lv' := [(1, .int (0 : Int32)), (0, .ref x0)]) hX dX11_keeps_27 rfl (by decide) rfl ?_
      refine jf_lv [1, 0] rfl ?_
      exact jgX11_keeps_28 hX N  N x0 (0 : Int32) u
    · refine jf_aload_n hX dX11_keeps_8 0 rfl ?_
      refine jf_getR hX ck_X11 26 wfl_35 (by decide) rfl dX11_keeps_9 ?_
      refine jf_nn (fun q1 => ?_)
      refine jf_iload_n hX dX11_keeps_12 1 rfl ?_
      refine jf_aload_n hX dX11_keeps_13 0 rfl ?_
      refine jf_getR hX ck_X11 20 wfl_31 (by decide) rfl dX11_keeps_14 ?_
      refine jf_nn (fun q2 => ?_)
      refine jf_iload_n hX dX11_keeps_17 1 rfl ?_
      refine jf_iald hX dX11_keeps_18 ?_
      refine jf_iast hX trivial dX11_keeps_19 (fun u3 => ?_)
      refine jf_iinc (v := 1) (lv' := [(1, .int (x1 + (1 : Int32))), (0, .ref x0)]) hX dX11_keeps_20 1 rfl (by decide) (by decide) rfl ?_
      refine jf_goto (tgt := 2) hX dX11_keeps_23 (by decide) ?_
      refine jf_lv [1, 0] rfl ?_
      exact hrec2 x0 (x1 + (1 : Int32)) u3
set_option maxRecDepth 20000 in
def fX11_keeps (N : Nat)  (a0 : Nat) (u : SG) : Option (Unit × SG) := gX11_keeps_2 N  N a0 (0 : Int32) u
set_option maxRecDepth 20000 in
set_option maxHeartbeats 4000000 in
theorem kX11_keeps  (N : Nat)  (l : Launch) (D : va_G) (cT : Nat → ClassId) (z0 : Nat) (ks : Nat × Nat) (a0 : Nat) (u : SG) : Ct l D cT z0 ks yX11_keeps cX11_keeps 2 none 1 0 0 vU [.ref a0] u (fX11_keeps N  a0 u) := by
  unfold fX11_keeps
  refine ct_of (by decide +kernel) (Nat.le_of_ble_eq_true rfl) (fun p e R s m args below meth c hX => ?_)
  show JF _ True 2 0 0 _ 0 [(0, .ref a0)] [] u _
  refine jf_iconst (v := 0) hX dX11_keeps_0 (by decide) ?_
  refine jf_istore_n (lv' := [(1, .int (0 : Int32)), (0, .ref a0)]) hX dX11_keeps_1 rfl (by decide) rfl ?_
  refine jf_lv [1, 0] rfl ?_
  exact jgX11_keeps_2 hX N  N a0 (0 : Int32) u
set_option maxRecDepth 20000 in
def gX11_laysBack_2 (N : Nat)   : Nat → Nat → Int32 → SG → Option (Unit × SG)
  | 0, _, _, _ => none
  | n + 1, x0, x1, u => if (45 : Int32) ≤ x1 then (some ((), u))
  else (if zK u x0 = 12 then (Option.bind (zR u x0 20) fun q1 => (if zK u x0 = 12 then (Option.bind (zR u x0 26) fun q2 => (if zK u q2 = 22 then if x1 < 0 ∨ zN u q2 ≤ x1.toNatClampNeg then none else (if zK u q1 = 22 then if x1 < 0 ∨ zN u q1 ≤ x1.toNatClampNeg then none else bs (sI u q1 x1.toNatClampNeg (zI u q2 x1.toNatClampNeg)) fun u3 => ((gX11_laysBack_2 N  n) x0 (x1 + (1 : Int32)) u3) else none) else none)) else none)) else none)
set_option maxRecDepth 20000 in
set_option maxHeartbeats 4000000 in
theorem jgX11_laysBack_2   {X : XT} (hX : Cx X yX11_laysBack cX11_laysBack 2 none 1 0 0) (N : Nat)  : ∀ (n : Nat) (x0 : Nat) (x1 : Int32) (u : SG), JF X True 2 0 0 (jQ X vU 0 0) 2 [(0, .ref x0), (1, .int x1)] [] u (gX11_laysBack_2 N   n x0 x1 u) := by
  intro n
  induction n with
  | zero => intros; intro r u9 h9; exact absurd h9 (by simp [gX11_laysBack_2])
  | succ n ih =>
    intro x0 x1 u
    have hrec2 := ih
    rw [gX11_laysBack_2]
    refine jf_iload_n hX dX11_laysBack_2 1 rfl ?_
    refine jf_bipush (v := 45) hX dX11_laysBack_3 (by decide) ?_
    refine jf_icmp_ge (tgt := 26) hX dX11_laysBack_5 (by decide) ?_ ?_
    · exact jf_vret hX rfl (by decide) (by decide) dX11_laysBack_26
    · refine jf_aload_n hX dX11_laysBack_8 0 rfl ?_
      refine jf_getR hX ck_X11 20 wfl_31 (by decide) rfl dX11_laysBack_9 ?_
      refine jf_nn (fun q1 => ?_)
      refine jf_iload_n hX dX11_laysBack_12 1 rfl ?_
      refine jf_aload_n hX dX11_laysBack_13 0 rfl ?_
      refine jf_getR hX ck_X11 26 wfl_35 (by decide) rfl dX11_laysBack_14 ?_
      refine jf_nn (fun q2 => ?_)
      refine jf_iload_n hX dX11_laysBack_17 1 rfl ?_
      refine jf_iald hX dX11_laysBack_18 ?_
      refine jf_iast hX trivial dX11_laysBack_19 (fun u3 => ?_)
      refine jf_iinc (v := 1) (lv' := [(1, .int (x1 + (1 : Int32))), (0, .ref x0)]) hX dX11_laysBack_20 1 rfl (by decide) (by decide) rfl ?_
      refine jf_goto (tgt := 2) hX dX11_laysBack_23 (by decide) ?_
      refine jf_lv [1, 0] rfl ?_
      exact hrec2 x0 (x1 + (1 : Int32)) u3
set_option maxRecDepth 20000 in
def fX11_laysBack (N : Nat)  (a0 : Nat) (u : SG) : Option (Unit × SG) := gX11_laysBack_2 N  N a0 (0 : Int32) u
set_option maxRecDepth 20000 in
set_option maxHeartbeats 4000000 in
theorem kX11_laysBack  (N : Nat)  (l : Launch) (D : va_G) (cT : Nat → ClassId) (z0 : Nat) (ks : Nat × Nat) (a0 : Nat) (u : SG) : Ct l D cT z0 ks yX11_laysBack cX11_laysBack 2 none 1 0 0 vU [.ref a0] u (fX11_laysBack N  a0 u) := by
  unfold fX11_laysBack
  refine ct_of (by decide +kernel) (Nat.le_of_ble_eq_true rfl) (fun p e R s m args below meth c hX => ?_)
  show JF _ True 2 0 0 _ 0 [(0, .ref a0)] [] u _
  refine jf_iconst (v := 0) hX dX11_laysBack_0 (by decide) ?_
  refine jf_istore_n (lv' := [(1, .int (0 : Int32)), (0, .ref a0)]) hX dX11_laysBack_1 rfl (by decide) rfl ?_
  refine jf_lv [1, 0] rfl ?_
  exact jgX11_laysBack_2 hX N  N a0 (0 : Int32) u
set_option maxRecDepth 20000 in
def gX11_ahead_41 (N : Nat)   : Nat → Nat → Int32 → Int32 → Int32 → Int32 → SG → Option (Int32 × SG)
  | 0, _, _, _, _, _, _ => none
  | n + 1, x0, x1, x2, x3, x4, u => if x2 ≤ x4 then (if zK u x0 = 12 then cl (fX11_personOf N x0 x1 ((2 : Int32) + x3) u) fun r1 u2 => (if zK u2 x0 = 12 then cl (fX11_laysBack N x0 u2) fun r3 u4 => (some (r1, u4)) else none) else none)
  else (if zK u x0 = 12 then cl (fX11_passes N x0 u) fun r5 u6 => ((gX11_ahead_41 N  n) x0 x1 x2 x3 (x4 + (1 : Int32)) u6) else none)
set_option maxRecDepth 20000 in
set_option maxHeartbeats 4000000 in
theorem jgX11_ahead_41   {X : XT} (hX : Cx X yX11_ahead cX11_ahead 5 (some .int) 7 0 0) (N : Nat)  : ∀ (n : Nat) (x0 : Nat) (x1 : Int32) (x2 : Int32) (x3 : Int32) (x4 : Int32) (u : SG), JF X True 5 0 0 (jQ X vI 0 0) 41 [(0, .ref x0), (1, .int x1), (2, .int x2), (3, .int x3), (4, .int x4)] [] u (gX11_ahead_41 N   n x0 x1 x2 x3 x4 u) := by
  intro n
  induction n with
  | zero => intros; intro r u9 h9; exact absurd h9 (by simp [gX11_ahead_41])
  | succ n ih =>
    intro x0 x1 x2 x3 x4 u
    have hrec41 := ih
    rw [gX11_ahead_41]
    refine jf_iload hX dX11_ahead_41 4 rfl ?_
    refine jf_iload_n hX dX11_ahead_43 2 rfl ?_
    refine jf_icmp_ge (tgt := 58) hX dX11_ahead_44 (by decide) ?_ ?_
    · refine jf_aload_n hX dX11_ahead_58 0 rfl ?_
      refine jf_iload_n hX dX11_ahead_59 1 rfl ?_
      refine jf_iconst (v := 2) hX dX11_ahead_60 (by decide) ?_
      refine jf_iload_n hX dX11_ahead_61 3 rfl ?_
      refine jf_iadd hX dX11_ahead_62 ?_
      refine jf_callV (As := [.int x1, .int ((2 : Int32) + x3)]) (st := []) hX mo_X11_personOf wml_201 winst_202 wsel_203 11 ck_X11 rfl (fun l D cT z0 ks => kX11_personOf N l D cT z0 ks x0 x1 ((2 : Int32) + x3) u) (by decide) (by decide) (by decide) (by decide) (Nat.le_of_ble_eq_true rfl) rfl rfl dX11_ahead_63 (fun r1 u2 => ?_)
      refine jf_istore (lv' := [(4, .int r1), (0, .ref x0), (1, .int x1), (2, .int x2), (3, .int x3)]) hX dX11_ahead_66 (by decide) rfl ?_
      refine jf_aload_n hX dX11_ahead_68 1 rfl ?_
      refine jf_callV (As := []) (st := []) hX mo_X11_laysBack wml_270 winst_271 wsel_272 11 ck_X11 rfl (fun l D cT z0 ks => kX11_laysBack N l D cT z0 ks x0 u2) (by decide) (by decide) (by decide) (by decide) (Nat.le_of_ble_eq_true rfl) rfl rfl dX11_ahead_69 (fun r3 u4 => ?_)
      refine jf_iload hX dX11_ahead_72 0 rfl ?_
      exact jf_iret hX rfl (by decide) (by decide) dX11_ahead_74
    · refine jf_aload_n hX dX11_ahead_47 0 rfl ?_
      refine jf_callV (As := []) (st := []) hX mo_X11_passes wml_259 winst_260 wsel_261 11 ck_X11 rfl (fun l D cT z0 ks => kX11_passes N l D cT z0 ks x0 u) (by decide) (by decide) (by decide) (by decide) (Nat.le_of_ble_eq_true rfl) rfl rfl dX11_ahead_48 (fun r5 u6 => ?_)
      refine jf_pop hX dX11_ahead_51 rfl ?_
      refine jf_iinc (v := 1) (lv' := [(4, .int (x4 + (1 : Int32))), (0, .ref x0), (1, .int x1), (2, .int x2), (3, .int x3)]) hX dX11_ahead_52 4 rfl (by decide) (by decide) rfl ?_
      refine jf_goto (tgt := 41) hX dX11_ahead_55 (by decide) ?_
      refine jf_lv [1, 2, 3, 4, 0] rfl ?_
      exact hrec41 x0 x1 x2 x3 (x4 + (1 : Int32)) u6
set_option maxRecDepth 20000 in
def fX11_ahead (N : Nat)  (a0 : Nat) (p1 : Int32) (p2 : Int32) (p3 : Int32) (u : SG) : Option (Int32 × SG) := if zK u a0 = 12 then cl (fX11_isPerson N a0 p1 u) fun r1 u2 => (if r1 = 0 then (some ((-1 : Int32), u2))
  else (cl (fX11_in N p2.toInt64 (0 : Int64) (100 : Int64) u2) fun r3 u4 => (if r3 = 0 then (some ((-1 : Int32), u4))
  else (cl (fX11_in N p3.toInt64 (0 : Int64) (2 : Int64) u4) fun r5 u6 => (if r5 = 0 then (some ((-1 : Int32), u6))
  else (if zK u6 a0 = 12 then cl (fX11_keeps N a0 u6) fun r7 u8 => (gX11_ahead_41 N  N a0 p1 p2 p3 (0 : Int32) u8) else none)))))) else none
set_option maxRecDepth 20000 in
set_option maxHeartbeats 4000000 in
theorem kX11_ahead  (N : Nat)  (l : Launch) (D : va_G) (cT : Nat → ClassId) (z0 : Nat) (ks : Nat × Nat) (a0 : Nat) (p1 : Int32) (p2 : Int32) (p3 : Int32) (u : SG) : Ct l D cT z0 ks yX11_ahead cX11_ahead 5 (some .int) 7 0 0 vI [.ref a0, .int p1, .int p2, .int p3] u (fX11_ahead N  a0 p1 p2 p3 u) := by
  unfold fX11_ahead
  refine ct_of (by decide +kernel) (Nat.le_of_ble_eq_true rfl) (fun p e R s m args below meth c hX => ?_)
  show JF _ True 5 0 0 _ 0 [(0, .ref a0), (1, .int p1), (2, .int p2), (3, .int p3)] [] u _
  refine jf_aload_n hX dX11_ahead_0 0 rfl ?_
  refine jf_iload_n hX dX11_ahead_1 1 rfl ?_
  refine jf_callV (As := [.int p1]) (st := []) hX mo_X11_isPerson wml_210 winst_211 wsel_212 11 ck_X11 rfl (fun l D cT z0 ks => kX11_isPerson N l D cT z0 ks a0 p1 u) (by decide) (by decide) (by decide) (by decide) (Nat.le_of_ble_eq_true rfl) rfl rfl dX11_ahead_2 (fun r1 u2 => ?_)
  refine jf_if_eq (tgt := 32) hX dX11_ahead_5 (by decide) ?_ ?_
  · refine jf_iconst (v := -1) hX dX11_ahead_32 (by decide) ?_
    exact jf_iret hX rfl (by decide) (by decide) dX11_ahead_33
  · refine jf_iload_n hX dX11_ahead_8 2 rfl ?_
    refine jf_i2l hX dX11_ahead_9 ?_
    refine jf_lconst (v := 0) hX dX11_ahead_10 (by decide) ?_
    refine jf_ldc2 (v := 100) hX dX11_ahead_11 wconl_266 ?_
    refine jf_callS (As := [.long p2.toInt64, .long (0 : Int64), .long (100 : Int64)]) (st := []) hX mo_X11_in wml_68 wstat_69 rfl (fun l D cT z0 ks => kX11_in N l D cT z0 ks p2.toInt64 (0 : Int64) (100 : Int64) u2) (by decide) (by decide) (by decide) (by decide) (Nat.le_of_ble_eq_true rfl) rfl rfl dX11_ahead_14 (fun r3 u4 => ?_)
    refine jf_if_eq (tgt := 32) hX dX11_ahead_17 (by decide) ?_ ?_
    · refine jf_iconst (v := -1) hX dX11_ahead_32 (by decide) ?_
      exact jf_iret hX rfl (by decide) (by decide) dX11_ahead_33
    · refine jf_iload_n hX dX11_ahead_20 3 rfl ?_
      refine jf_i2l hX dX11_ahead_21 ?_
      refine jf_lconst (v := 0) hX dX11_ahead_22 (by decide) ?_
      refine jf_ldc2 (v := 2) hX dX11_ahead_23 wconl_217 ?_
      refine jf_callS (As := [.long p3.toInt64, .long (0 : Int64), .long (2 : Int64)]) (st := []) hX mo_X11_in wml_68 wstat_69 rfl (fun l D cT z0 ks => kX11_in N l D cT z0 ks p3.toInt64 (0 : Int64) (2 : Int64) u4) (by decide) (by decide) (by decide) (by decide) (Nat.le_of_ble_eq_true rfl) rfl rfl dX11_ahead_26 (fun r5 u6 => ?_)
      refine jf_if_ne (tgt := 34) hX dX11_ahead_29 (by decide) ?_ ?_
      · refine jf_aload_n hX dX11_ahead_34 0 rfl ?_
        refine jf_callV (As := []) (st := []) hX mo_X11_keeps wml_267 winst_268 wsel_269 11 ck_X11 rfl (fun l D cT z0 ks => kX11_keeps N l D cT z0 ks a0 u6) (by decide) (by decide) (by decide) (by decide) (Nat.le_of_ble_eq_true rfl) rfl rfl dX11_ahead_35 (fun r7 u8 => ?_)
        refine jf_iconst (v := 0) hX dX11_ahead_38 (by decide) ?_
        refine jf_istore (lv' := [(4, .int (0 : Int32)), (0, .ref a0), (1, .int p1), (2, .int p2), (3, .int p3)]) hX dX11_ahead_39 (by decide) rfl ?_
        refine jf_lv [1, 2, 3, 4, 0] rfl ?_
        exact jgX11_ahead_41 hX N  N a0 p1 p2 p3 (0 : Int32) u8
      · refine jf_iconst (v := -1) hX dX11_ahead_32 (by decide) ?_
        exact jf_iret hX rfl (by decide) (by decide) dX11_ahead_33
set_option maxRecDepth 20000 in
def gX11_worksOne_2 (N : Nat)   : Nat → Nat → Int32 → Int32 → Int32 → SG → Option (Int32 × SG)
  | 0, _, _, _, _, _ => none
  | n + 1, x0, x1, x2, x3, u => if zK u x0 = 12 then (Option.bind (zR u x0 20) fun q1 => (if zK u q1 = 22 then if zN u q1 ≤ 1 then none else (if (zI u q1 1) ≤ x3 then (some ((0 : Int32), u))
  else (cl (fX11_isOf N x1 x3 u) fun r2 u3 => (if r2 = 0 then ((gX11_worksOne_2 N  n) x0 x1 x2 (x3 + (1 : Int32)) u3)
  else (if zK u3 x0 = 12 then cl (fX11_worksIn N x0 x3 x2 u3) fun r4 u5 => (if r4 = 0 then ((gX11_worksOne_2 N  n) x0 x1 x2 (x3 + (1 : Int32)) u5)
  else (some ((1 : Int32), u5))) else none)))) else none)) else none
set_option maxRecDepth 20000 in
set_option maxHeartbeats 4000000 in
theorem jgX11_worksOne_2   {X : XT} (hX : Cx X yX11_worksOne cX11_worksOne 4 (some .boolean) 2 0 0) (N : Nat)  : ∀ (n : Nat) (x0 : Nat) (x1 : Int32) (x2 : Int32) (x3 : Int32) (u : SG), JF X True 4 0 0 (jQ X vI 0 0) 2 [(0, .ref x0), (1, .int x1), (2, .int x2), (3, .int x3)] [] u (gX11_worksOne_2 N   n x0 x1 x2 x3 u) := by
  intro n
  induction n with
  | zero => intros; intro r u9 h9; exact absurd h9 (by simp [gX11_worksOne_2])
  | succ n ih =>
    intro x0 x1 x2 x3 u
    have hrec2 := ih
    rw [gX11_worksOne_2]
    refine jf_iload_n hX dX11_worksOne_2 3 rfl ?_
    refine jf_aload_n hX dX11_worksOne_3 0 rfl ?_
    refine jf_getR hX ck_X11 20 wfl_31 (by decide) rfl dX11_worksOne_4 ?_
    refine jf_nn (fun q1 => ?_)
    refine jf_iconst (v := 1) hX dX11_worksOne_7 (by decide) ?_
    refine jf_ialdc 1 hX (by decide) (by decide) dX11_worksOne_8 ?_
    refine jf_icmp_ge (tgt := 37) hX dX11_worksOne_9 (by decide) ?_ ?_
    · refine jf_iconst (v := 0) hX dX11_worksOne_37 (by decide) ?_
      exact jf_zretc hX rfl (by decide) (by decide) (by decide) dX11_worksOne_38
    · refine jf_iload_n hX dX11_worksOne_12 1 rfl ?_
      refine jf_iload_n hX dX11_worksOne_13 3 rfl ?_
      refine jf_callS (As := [.int x1, .int x3]) (st := []) hX mo_X11_isOf wml_273 wstat_274 rfl (fun l D cT z0 ks => kX11_isOf N l D cT z0 ks x1 x3 u) (by decide) (by decide) (by decide) (by decide) (Nat.le_of_ble_eq_true rfl) rfl rfl dX11_worksOne_14 (fun r2 u3 => ?_)
      refine jf_if_eq (tgt := 31) hX dX11_worksOne_17 (by decide) ?_ ?_
      · refine jf_iinc (v := 1) (lv' := [(3, .int (x3 + (1 : Int32))), (0, .ref x0), (1, .int x1), (2, .int x2)]) hX dX11_worksOne_31 3 rfl (by decide) (by decide) rfl ?_
        refine jf_goto (tgt := 2) hX dX11_worksOne_34 (by decide) ?_
        refine jf_lv [1, 2, 3, 0] rfl ?_
        exact hrec2 x0 x1 x2 (x3 + (1 : Int32)) u3
      · refine jf_aload_n hX dX11_worksOne_20 0 rfl ?_
        refine jf_iload_n hX dX11_worksOne_21 3 rfl ?_
        refine jf_iload_n hX dX11_worksOne_22 2 rfl ?_
        refine jf_callV (As := [.int x3, .int x2]) (st := []) hX mo_X11_worksIn wml_204 winst_205 wsel_206 11 ck_X11 rfl (fun l D cT z0 ks => kX11_worksIn N l D cT z0 ks x0 x3 x2 u3) (by decide) (by decide) (by decide) (by decide) (Nat.le_of_ble_eq_true rfl) rfl rfl dX11_worksOne_23 (fun r4 u5 => ?_)
        refine jf_if_eq (tgt := 31) hX dX11_worksOne_26 (by decide) ?_ ?_
        · refine jf_iinc (v := 1) (lv' := [(3, .int (x3 + (1 : Int32))), (0, .ref x0), (1, .int x1), (2, .int x2)]) hX dX11_worksOne_31 3 rfl (by decide) (by decide) rfl ?_
          refine jf_goto (tgt := 2) hX dX11_worksOne_34 (by decide) ?_
          refine jf_lv [1, 2, 3, 0] rfl ?_
          exact hrec2 x0 x1 x2 (x3 + (1 : Int32)) u5
        · refine jf_iconst (v := 1) hX dX11_worksOne_29 (by decide) ?_
          exact jf_zretc hX rfl (by decide) (by decide) (by decide) dX11_worksOne_30
set_option maxRecDepth 20000 in
def fX11_worksOne (N : Nat)  (a0 : Nat) (p1 : Int32) (p2 : Int32) (u : SG) : Option (Int32 × SG) := gX11_worksOne_2 N  N a0 p1 p2 (0 : Int32) u
set_option maxRecDepth 20000 in
set_option maxHeartbeats 4000000 in
theorem kX11_worksOne  (N : Nat)  (l : Launch) (D : va_G) (cT : Nat → ClassId) (z0 : Nat) (ks : Nat × Nat) (a0 : Nat) (p1 : Int32) (p2 : Int32) (u : SG) : Ct l D cT z0 ks yX11_worksOne cX11_worksOne 4 (some .boolean) 2 0 0 vI [.ref a0, .int p1, .int p2] u (fX11_worksOne N  a0 p1 p2 u) := by
  unfold fX11_worksOne
  refine ct_of (by decide +kernel) (Nat.le_of_ble_eq_true rfl) (fun p e R s m args below meth c hX => ?_)
  show JF _ True 4 0 0 _ 0 [(0, .ref a0), (1, .int p1), (2, .int p2)] [] u _
  refine jf_iconst (v := 0) hX dX11_worksOne_0 (by decide) ?_
  refine jf_istore_n (lv' := [(3, .int (0 : Int32)), (0, .ref a0), (1, .int p1), (2, .int p2)]) hX dX11_worksOne_1 rfl (by decide) rfl ?_
  refine jf_lv [1, 2, 3, 0] rfl ?_
  exact jgX11_worksOne_2 hX N  N a0 p1 p2 (0 : Int32) u
set_option maxRecDepth 20000 in
def gX11_findsCheap_101 (N : Nat)  (rec61 : Nat → Int32 → Int32 → Int32 → SG → Option (Unit × SG)) : Nat → Nat → Int32 → Int32 → Int32 → Int32 → Int32 → SG → Option (Unit × SG)
  | 0, _, _, _, _, _, _, _ => none
  | n + 1, x0, x2, x3, x4, x5, x6, u => if zK u x0 = 12 then (Option.bind (zR u x0 20) fun q1 => (if zK u q1 = 22 then if zN u q1 ≤ 0 then none else (if (zI u q1 0) ≤ x6 then (if zK u x0 = 12 then (if (zI u x0 27) < 0 then (if zK u x0 = 12 then bs (sI u x0 27 x4) fun u2 => (if zK u2 x0 = 12 then bs (sI u2 x0 28 x5) fun u3 => (rec61 x0 x2 x3 (x4 + (1 : Int32)) u3) else none) else none)
  else (if zK u x0 = 12 then (if x5 < (zI u x0 28) then (if zK u x0 = 12 then bs (sI u x0 27 x4) fun u4 => (if zK u4 x0 = 12 then bs (sI u4 x0 28 x5) fun u5 => (rec61 x0 x2 x3 (x4 + (1 : Int32)) u5) else none) else none)
  else (rec61 x0 x2 x3 (x4 + (1 : Int32)) u)) else none)) else none)
  else (cl (fX11_isOf N x4 x6 u) fun r6 u7 => (if r6 = 0 then (bs (x5 + (0 : Int32)) fun v8 => ((gX11_findsCheap_101 N rec61 n) x0 x2 x3 x4 v8 (x6 + (1 : Int32)) u7))
  else (if zK u7 x0 = 12 then cl (fX11_costIn N x0 x6 u7) fun r9 u10 => (bs (x5 + r9) fun v11 => ((gX11_findsCheap_101 N rec61 n) x0 x2 x3 x4 v11 (x6 + (1 : Int32)) u10)) else none)))) else none)) else none
set_option maxRecDepth 20000 in
set_option maxHeartbeats 4000000 in
theorem jgX11_findsCheap_101 {rec61 : Nat → Int32 → Int32 → Int32 → SG → Option (Unit × SG)}  {X : XT} (hX : Cx X yX11_findsCheap cX11_findsCheap 7 none 4 0 0) (N : Nat) (hrec61 : ∀ (x0 : Nat) (x2 : Int32) (x3 : Int32) (x4 : Int32)  (u : SG), JF X True 7 0 0 (jQ X vU 0 0) 61 [(0, .ref x0), (2, .int x2), (3, .int x3), (4, .int x4)] [] u (rec61 x0 x2 x3 x4  u)) : ∀ (n : Nat) (x0 : Nat) (x2 : Int32) (x3 : Int32) (x4 : Int32) (x5 : Int32) (x6 : Int32) (u : SG), JF X True 7 0 0 (jQ X vU 0 0) 101 [(0, .ref x0), (2, .int x2), (3, .int x3), (4, .int x4), (5, .int x5), (6, .int x6)] [] u (gX11_findsCheap_101 N  rec61 n x0 x2 x3 x4 x5 x6 u) := by
  intro n
  induction n with
  | zero => intros; intro r u9 h9; exact absurd h9 (by simp [gX11_findsCheap_101])
  | succ n ih =>
    intro x0 x2 x3 x4 x5 x6 u
    have hrec101 := ih
    rw [gX11_findsCheap_101]
    refine jf_iload hX dX11_findsCheap_101 5 rfl ?_
    refine jf_aload_n hX dX11_findsCheap_103 0 rfl ?_
    refine jf_getR hX ck_X11 20 wfl_31 (by decide) rfl dX11_findsCheap_104 ?_
    refine jf_nn (fun q1 => ?_)
    refine jf_iconst (v := 0) hX dX11_findsCheap_107 (by decide) ?_
    refine jf_ialdc 0 hX (by decide) (by decide) dX11_findsCheap_108 ?_
    refine jf_icmp_ge (tgt := 143) hX dX11_findsCheap_109 (by decide) ?_ ?_
    · refine jf_aload_n hX dX11_findsCheap_143 0 rfl ?_
      refine jf_getI hX ck_X11 27 wfl_275 (by decide) rfl dX11_findsCheap_144 ?_
      refine jf_if_lt (tgt := 162) hX dX11_findsCheap_147 (by decide) ?_ ?_
      · refine jf_aload_n hX dX11_findsCheap_162 0 rfl ?_
        refine jf_iload hX dX11_findsCheap_163 3 rfl ?_
        refine jf_putI hX trivial ck_X11 27 wfl_275 (by decide) rfl rfl rfl dX11_findsCheap_165 (fun u2 => ?_)
        refine jf_aload_n hX dX11_findsCheap_168 0 rfl ?_
        refine jf_iload hX dX11_findsCheap_169 4 rfl ?_
        refine jf_putI hX trivial ck_X11 28 wfl_276 (by decide) rfl rfl rfl dX11_findsCheap_171 (fun u3 => ?_)
        refine jf_iinc (v := 1) (lv' := [(4, .int (x4 + (1 : Int32))), (0, .ref x0), (2, .int x2), (3, .int x3), (5, .int x5), (6, .int x6)]) hX dX11_findsCheap_174 3 rfl (by decide) (by decide) rfl ?_
        refine jf_goto (tgt := 61) hX dX11_findsCheap_177 (by decide) ?_
        refine jf_lv [1, 2, 3, 0] rfl ?_
        exact hrec61 x0 x2 x3 (x4 + (1 : Int32)) u3
      · refine jf_iload hX dX11_findsCheap_150 4 rfl ?_
        refine jf_aload_n hX dX11_findsCheap_152 0 rfl ?_
        refine jf_getI hX ck_X11 28 wfl_276 (by decide) rfl dX11_findsCheap_153 ?_
        refine jf_icmp_lt (tgt := 162) hX dX11_findsCheap_156 (by decide) ?_ ?_
        · refine jf_aload_n hX dX11_findsCheap_162 0 rfl ?_
          refine jf_iload hX dX11_findsCheap_163 3 rfl ?_
          refine jf_putI hX trivial ck_X11 27 wfl_275 (by decide) rfl rfl rfl dX11_findsCheap_165 (fun u4 => ?_)
          refine jf_aload_n hX dX11_findsCheap_168 0 rfl ?_
          refine jf_iload hX dX11_findsCheap_169 4 rfl ?_
          refine jf_putI hX trivial ck_X11 28 wfl_276 (by decide) rfl rfl rfl dX11_findsCheap_171 (fun u5 => ?_)
          refine jf_iinc (v := 1) (lv' := [(4, .int (x4 + (1 : Int32))), (0, .ref x0), (2, .int x2), (3, .int x3), (5, .int x5), (6, .int x6)]) hX dX11_findsCheap_174 3 rfl (by decide) (by decide) rfl ?_
          refine jf_goto (tgt := 61) hX dX11_findsCheap_177 (by decide) ?_
          refine jf_lv [1, 2, 3, 0] rfl ?_
          exact hrec61 x0 x2 x3 (x4 + (1 : Int32)) u5
        · refine jf_goto (tgt := 174) hX dX11_findsCheap_159 (by decide) ?_
          refine jf_iinc (v := 1) (lv' := [(4, .int (x4 + (1 : Int32))), (0, .ref x0), (2, .int x2), (3, .int x3), (5, .int x5), (6, .int x6)]) hX dX11_findsCheap_174 3 rfl (by decide) (by decide) rfl ?_
          refine jf_goto (tgt := 61) hX dX11_findsCheap_177 (by decide) ?_
          refine jf_lv [1, 2, 3, 0] rfl ?_
          exact hrec61 x0 x2 x3 (x4 + (1 : Int32)) u
    · refine jf_iload hX dX11_findsCheap_112 4 rfl ?_
      refine jf_iload hX dX11_findsCheap_114 3 rfl ?_
      refine jf_iload hX dX11_findsCheap_116 5 rfl ?_
      refine jf_callS (As := [.int x4, .int x6]) (st := [.int x5]) hX mo_X11_isOf wml_273 wstat_274 rfl (fun l D cT z0 ks => kX11_isOf N l D cT z0 ks x4 x6 u) (by decide) (by decide) (by decide) (by decide) (Nat.le_of_ble_eq_true rfl) rfl rfl dX11_findsCheap_118 (fun r6 u7 => ?_)
      refine jf_if_eq (tgt := 133) hX dX11_findsCheap_121 (by decide) ?_ ?_
      · refine jf_iconst (v := 0) hX dX11_findsCheap_133 (by decide) ?_
        refine jf_iadd hX dX11_findsCheap_134 ?_
        refine jf_nmI (fun v8 => ?_)
        refine jf_istore (lv' := [(5, .int v8), (0, .ref x0), (2, .int x2), (3, .int x3), (4, .int x4), (6, .int x6)]) hX dX11_findsCheap_135 (by decide) rfl ?_
        refine jf_iinc (v := 1) (lv' := [(6, .int (x6 + (1 : Int32))), (5, .int v8), (0, .ref x0), (2, .int x2), (3, .int x3), (4, .int x4)]) hX dX11_findsCheap_137 5 rfl (by decide) (by decide) rfl ?_
        refine jf_goto (tgt := 101) hX dX11_findsCheap_140 (by decide) ?_
        refine jf_lv [2, 3, 4, 5, 1, 0] rfl ?_
        exact hrec101 x0 x2 x3 x4 v8 (x6 + (1 : Int32)) u7
      · refine jf_aload_n hX dX11_findsCheap_124 0 rfl ?_
        refine jf_iload hX dX11_findsCheap_125 5 rfl ?_
        refine jf_callV (As := [.int x6]) (st := [.int x5]) hX mo_X11_costIn wml_218 winst_219 wsel_220 11 ck_X11 rfl (fun l D cT z0 ks => kX11_costIn N l D cT z0 ks x0 x6 u7) (by decide) (by decide) (by decide) (by decide) (Nat.le_of_ble_eq_true rfl) rfl rfl dX11_findsCheap_127 (fun r9 u10 => ?_)
        refine jf_goto (tgt := 134) hX dX11_findsCheap_130 (by decide) ?_
        refine jf_iadd hX dX11_findsCheap_134 ?_
        refine jf_nmI (fun v11 => ?_)
        refine jf_istore (lv' := [(5, .int v11), (0, .ref x0), (2, .int x2), (3, .int x3), (4, .int x4), (6, .int x6)]) hX dX11_findsCheap_135 (by decide) rfl ?_
        refine jf_iinc (v := 1) (lv' := [(6, .int (x6 + (1 : Int32))), (5, .int v11), (0, .ref x0), (2, .int x2), (3, .int x3), (4, .int x4)]) hX dX11_findsCheap_137 5 rfl (by decide) (by decide) rfl ?_
        refine jf_goto (tgt := 101) hX dX11_findsCheap_140 (by decide) ?_
        refine jf_lv [2, 3, 4, 5, 1, 0] rfl ?_
        exact hrec101 x0 x2 x3 x4 v11 (x6 + (1 : Int32)) u10
set_option maxRecDepth 20000 in
def gX11_findsCheap_61 (N : Nat)   : Nat → Nat → Int32 → Int32 → Int32 → SG → Option (Unit × SG)
  | 0, _, _, _, _, _ => none
  | n + 1, x0, x2, x3, x4, u => if zK u x0 = 12 then (Option.bind (zR u x0 20) fun q1 => (if zK u q1 = 22 then if zN u q1 ≤ 0 then none else (if ((1 : Int32) <<< ((zI u q1 0) &&& 31)) ≤ x4 then (some ((), u))
  else (if (x4 &&& (x3 ^^^ (-1 : Int32))) = 0 then (cl (fX11_bits N x4 u) fun r2 u3 => (if r2 = x2 then (gX11_findsCheap_101 N (gX11_findsCheap_61 N  n) N x0 x2 x3 x4 (0 : Int32) (0 : Int32) u3)
  else ((gX11_findsCheap_61 N  n) x0 x2 x3 (x4 + (1 : Int32)) u3)))
  else ((gX11_findsCheap_61 N  n) x0 x2 x3 (x4 + (1 : Int32)) u))) else none)) else none
set_option maxRecDepth 20000 in
set_option maxHeartbeats 4000000 in
theorem jgX11_findsCheap_61   {X : XT} (hX : Cx X yX11_findsCheap cX11_findsCheap 7 none 4 0 0) (N : Nat)  : ∀ (n : Nat) (x0 : Nat) (x2 : Int32) (x3 : Int32) (x4 : Int32) (u : SG), JF X True 7 0 0 (jQ X vU 0 0) 61 [(0, .ref x0), (2, .int x2), (3, .int x3), (4, .int x4)] [] u (gX11_findsCheap_61 N   n x0 x2 x3 x4 u) := by
  intro n
  induction n with
  | zero => intros; intro r u9 h9; exact absurd h9 (by simp [gX11_findsCheap_61])
  | succ n ih =>
    intro x0 x2 x3 x4 u
    have hrec61 := ih
    rw [gX11_findsCheap_61]
    refine jf_iload hX dX11_findsCheap_61 3 rfl ?_
    refine jf_iconst (v := 1) hX dX11_findsCheap_63 (by decide) ?_
    refine jf_aload_n hX dX11_findsCheap_64 0 rfl ?_
    refine jf_getR hX ck_X11 20 wfl_31 (by decide) rfl dX11_findsCheap_65 ?_
    refine jf_nn (fun q1 => ?_)
    refine jf_iconst (v := 0) hX dX11_findsCheap_68 (by decide) ?_
    refine jf_ialdc 0 hX (by decide) (by decide) dX11_findsCheap_69 ?_
    refine jf_ishl hX dX11_findsCheap_70 ?_
    refine jf_icmp_ge (tgt := 180) hX dX11_findsCheap_71 (by decide) ?_ ?_
    · exact jf_vret hX rfl (by decide) (by decide) dX11_findsCheap_180
    · refine jf_iload hX dX11_findsCheap_74 3 rfl ?_
      refine jf_iload_n hX dX11_findsCheap_76 2 rfl ?_
      refine jf_iconst (v := -1) hX dX11_findsCheap_77 (by decide) ?_
      refine jf_ixor hX dX11_findsCheap_78 ?_
      refine jf_iand hX dX11_findsCheap_79 ?_
      refine jf_if_ne (tgt := 174) hX dX11_findsCheap_80 (by decide) ?_ ?_
      · refine jf_iinc (v := 1) (lv' := [(4, .int (x4 + (1 : Int32))), (0, .ref x0), (2, .int x2), (3, .int x3)]) hX dX11_findsCheap_174 3 rfl (by decide) (by decide) rfl ?_
        refine jf_goto (tgt := 61) hX dX11_findsCheap_177 (by decide) ?_
        refine jf_lv [1, 2, 3, 0] rfl ?_
        exact hrec61 x0 x2 x3 (x4 + (1 : Int32)) u
      · refine jf_iload hX dX11_findsCheap_83 3 rfl ?_
        refine jf_callS (As := [.int x4]) (st := []) hX mo_X11_bits wml_224 wstat_225 rfl (fun l D cT z0 ks => kX11_bits N l D cT z0 ks x4 u) (by decide) (by decide) (by decide) (by decide) (Nat.le_of_ble_eq_true rfl) rfl rfl dX11_findsCheap_85 (fun r2 u3 => ?_)
        refine jf_iload_n hX dX11_findsCheap_88 1 rfl ?_
        refine jf_icmp_eq (tgt := 95) hX dX11_findsCheap_89 (by decide) ?_ ?_
        · refine jf_iconst (v := 0) hX dX11_findsCheap_95 (by decide) ?_
          refine jf_istore (lv' := [(5, .int (0 : Int32)), (0, .ref x0), (2, .int x2), (3, .int x3), (4, .int x4)]) hX dX11_findsCheap_96 (by decide) rfl ?_
          refine jf_iconst (v := 0) hX dX11_findsCheap_98 (by decide) ?_
          refine jf_istore (lv' := [(6, .int (0 : Int32)), (5, .int (0 : Int32)), (0, .ref x0), (2, .int x2), (3, .int x3), (4, .int x4)]) hX dX11_findsCheap_99 (by decide) rfl ?_
          refine jf_lv [2, 3, 4, 5, 1, 0] rfl ?_
          exact jgX11_findsCheap_101 hX N hrec61 N x0 x2 x3 x4 (0 : Int32) (0 : Int32) u3
        · refine jf_goto (tgt := 174) hX dX11_findsCheap_92 (by decide) ?_
          refine jf_iinc (v := 1) (lv' := [(4, .int (x4 + (1 : Int32))), (0, .ref x0), (2, .int x2), (3, .int x3)]) hX dX11_findsCheap_174 3 rfl (by decide) (by decide) rfl ?_
          refine jf_goto (tgt := 61) hX dX11_findsCheap_177 (by decide) ?_
          refine jf_lv [1, 2, 3, 0] rfl ?_
          exact hrec61 x0 x2 x3 (x4 + (1 : Int32)) u3
set_option maxRecDepth 20000 in
def gX11_findsCheap_10 (N : Nat)   : Nat → Nat → Int32 → Int32 → Int32 → Int32 → SG → Option (Unit × SG)
  | 0, _, _, _, _, _, _ => none
  | n + 1, x0, x1, x2, x3, x4, u => if zK u x0 = 12 then (Option.bind (zR u x0 20) fun q1 => (if zK u q1 = 22 then if zN u q1 ≤ 0 then none else (if (zI u q1 0) ≤ x4 then (if zK u x0 = 12 then bs (sI u x0 27 (-1 : Int32)) fun u2 => (if zK u2 x0 = 12 then bs (sI u2 x0 28 (0 : Int32)) fun u3 => (gX11_findsCheap_61 N  N x0 x2 x3 (0 : Int32) u3) else none) else none)
  else (if zK u x0 = 12 then cl (fX11_worksOne N x0 x1 x4 u) fun r4 u5 => (if r4 = 0 then (bs (x3 ||| ((1 : Int32) <<< (x4 &&& 31))) fun v6 => ((gX11_findsCheap_10 N  n) x0 x1 x2 v6 (x4 + (1 : Int32)) u5))
  else (bs (x3 ||| (0 : Int32)) fun v7 => ((gX11_findsCheap_10 N  n) x0 x1 x2 v7 (x4 + (1 : Int32)) u5))) else none)) else none)) else none
set_option maxRecDepth 20000 in
set_option maxHeartbeats 4000000 in
theorem jgX11_findsCheap_10   {X : XT} (hX : Cx X yX11_findsCheap cX11_findsCheap 7 none 4 0 0) (N : Nat)  : ∀ (n : Nat) (x0 : Nat) (x1 : Int32) (x2 : Int32) (x3 : Int32) (x4 : Int32) (u : SG), JF X True 7 0 0 (jQ X vU 0 0) 10 [(0, .ref x0), (1, .int x1), (2, .int x2), (3, .int x3), (4, .int x4)] [] u (gX11_findsCheap_10 N   n x0 x1 x2 x3 x4 u) := by
  intro n
  induction n with
  | zero => intros; intro r u9 h9; exact absurd h9 (by simp [gX11_findsCheap_10])
  | succ n ih =>
    intro x0 x1 x2 x3 x4 u
    have hrec10 := ih
    rw [gX11_findsCheap_10]
    refine jf_iload hX dX11_findsCheap_10 4 rfl ?_
    refine jf_aload_n hX dX11_findsCheap_12 0 rfl ?_
    refine jf_getR hX ck_X11 20 wfl_31 (by decide) rfl dX11_findsCheap_13 ?_
    refine jf_nn (fun q1 => ?_)
    refine jf_iconst (v := 0) hX dX11_findsCheap_16 (by decide) ?_
    refine jf_ialdc 0 hX (by decide) (by decide) dX11_findsCheap_17 ?_
    refine jf_icmp_ge (tgt := 48) hX dX11_findsCheap_18 (by decide) ?_ ?_
    · refine jf_aload_n hX dX11_findsCheap_48 0 rfl ?_
      refine jf_iconst (v := -1) hX dX11_findsCheap_49 (by decide) ?_
      refine jf_putI hX trivial ck_X11 27 wfl_275 (by decide) rfl rfl rfl dX11_findsCheap_50 (fun u2 => ?_)
      refine jf_aload_n hX dX11_findsCheap_53 0 rfl ?_
      refine jf_iconst (v := 0) hX dX11_findsCheap_54 (by decide) ?_
      refine jf_putI hX trivial ck_X11 28 wfl_276 (by decide) rfl rfl rfl dX11_findsCheap_55 (fun u3 => ?_)
      refine jf_iconst (v := 0) hX dX11_findsCheap_58 (by decide) ?_
      refine jf_istore (lv' := [(4, .int (0 : Int32)), (0, .ref x0), (1, .int x1), (2, .int x2), (3, .int x3)]) hX dX11_findsCheap_59 (by decide) rfl ?_
      refine jf_lv [1, 3, 4, 0] rfl ?_
      exact jgX11_findsCheap_61 hX N  N x0 x2 x3 (0 : Int32) u3
    · refine jf_iload_n hX dX11_findsCheap_21 3 rfl ?_
      refine jf_aload_n hX dX11_findsCheap_22 0 rfl ?_
      refine jf_iload_n hX dX11_findsCheap_23 1 rfl ?_
      refine jf_iload hX dX11_findsCheap_24 4 rfl ?_
      refine jf_callV (As := [.int x1, .int x4]) (st := [.int x3]) hX mo_X11_worksOne wml_277 winst_278 wsel_279 11 ck_X11 rfl (fun l D cT z0 ks => kX11_worksOne N l D cT z0 ks x0 x1 x4 u) (by decide) (by decide) (by decide) (by decide) (Nat.le_of_ble_eq_true rfl) rfl rfl dX11_findsCheap_26 (fun r4 u5 => ?_)
      refine jf_if_eq (tgt := 36) hX dX11_findsCheap_29 (by decide) ?_ ?_
      · refine jf_iconst (v := 1) hX dX11_findsCheap_36 (by decide) ?_
        refine jf_iload hX dX11_findsCheap_37 4 rfl ?_
        refine jf_ishl hX dX11_findsCheap_39 ?_
        refine jf_ior hX dX11_findsCheap_40 ?_
        refine jf_nmI (fun v6 => ?_)
        refine jf_istore_n (lv' := [(3, .int v6), (0, .ref x0), (1, .int x1), (2, .int x2), (4, .int x4)]) hX dX11_findsCheap_41 rfl (by decide) rfl ?_
        refine jf_iinc (v := 1) (lv' := [(4, .int (x4 + (1 : Int32))), (3, .int v6), (0, .ref x0), (1, .int x1), (2, .int x2)]) hX dX11_findsCheap_42 4 rfl (by decide) (by decide) rfl ?_
        refine jf_goto (tgt := 10) hX dX11_findsCheap_45 (by decide) ?_
        refine jf_lv [2, 3, 4, 1, 0] rfl ?_
        exact hrec10 x0 x1 x2 v6 (x4 + (1 : Int32)) u5
      · refine jf_iconst (v := 0) hX dX11_findsCheap_32 (by decide) ?_
        refine jf_goto (tgt := 40) hX dX11_findsCheap_33 (by decide) ?_
        refine jf_ior hX dX11_findsCheap_40 ?_
        refine jf_nmI (fun v7 => ?_)
        refine jf_istore_n (lv' := [(3, .int v7), (0, .ref x0), (1, .int x1), (2, .int x2), (4, .int x4)]) hX dX11_findsCheap_41 rfl (by decide) rfl ?_
        refine jf_iinc (v := 1) (lv' := [(4, .int (x4 + (1 : Int32))), (3, .int v7), (0, .ref x0), (1, .int x1), (2, .int x2)]) hX dX11_findsCheap_42 4 rfl (by decide) (by decide) rfl ?_
        refine jf_goto (tgt := 10) hX dX11_findsCheap_45 (by decide) ?_
        refine jf_lv [2, 3, 4, 1, 0] rfl ?_
        exact hrec10 x0 x1 x2 v7 (x4 + (1 : Int32)) u5
set_option maxRecDepth 20000 in
def fX11_findsCheap (N : Nat)  (a0 : Nat) (p1 : Int32) (p2 : Int32) (u : SG) : Option (Unit × SG) := if zK u a0 = 12 then (Option.bind (zR u a0 20) fun q1 => (if zK u q1 = 22 then if zN u q1 ≤ 5 then none else (bs (zI u q1 5) fun v2 => (gX11_findsCheap_10 N  N a0 p1 p2 (0 : Int32) v2 u)) else none)) else none
set_option maxRecDepth 20000 in
set_option maxHeartbeats 4000000 in
theorem kX11_findsCheap  (N : Nat)  (l : Launch) (D : va_G) (cT : Nat → ClassId) (z0 : Nat) (ks : Nat × Nat) (a0 : Nat) (p1 : Int32) (p2 : Int32) (u : SG) : Ct l D cT z0 ks yX11_findsCheap cX11_findsCheap 7 none 4 0 0 vU [.ref a0, .int p1, .int p2] u (fX11_findsCheap N  a0 p1 p2 u) := by
  unfold fX11_findsCheap
  refine ct_of (by decide +kernel) (Nat.le_of_ble_eq_true rfl) (fun p e R s m args below meth c hX => ?_)
  show JF _ True 7 0 0 _ 0 [(0, .ref a0), (1, .int p1), (2, .int p2)] [] u _
  refine jf_iconst (v := 0) hX dX11_findsCheap_0 (by decide) ?_
  refine jf_istore_n (lv' := [(3, .int (0 : Int32)), (0, .ref a0), (1, .int p1), (2, .int p2)]) hX dX11_findsCheap_1 rfl (by decide) rfl ?_
  refine jf_aload_n hX dX11_findsCheap_2 1 rfl ?_
  refine jf_getR hX ck_X11 20 wfl_31 (by decide) rfl dX11_findsCheap_3 ?_
  refine jf_nn (fun q1 => ?_)
  refine jf_iconst (v := 5) hX dX11_findsCheap_6 (by decide) ?_
  refine jf_ialdc 5 hX (by decide) (by decide) dX11_findsCheap_7 ?_
  refine jf_nmI (fun v2 => ?_)
  refine jf_istore (lv' := [(4, .int v2), (3, .int (0 : Int32)), (0, .ref a0), (1, .int p1), (2, .int p2)]) hX dX11_findsCheap_8 (by decide) rfl ?_
  refine jf_lv [2, 3, 4, 1, 0] rfl ?_
  exact jgX11_findsCheap_10 hX N  N a0 p1 p2 (0 : Int32) v2 u
set_option maxRecDepth 20000 in
def fX11_cheapest (N : Nat)  (a0 : Nat) (p1 : Int32) (p2 : Int32) (p3 : Int32) (u : SG) : Option (Int32 × SG) := cl (fX11_bits N p1 u) fun r1 u2 => (if zK u2 a0 = 12 then cl (fX11_findsCheap N a0 p1 p2 u2) fun r3 u4 => (if zK u4 a0 = 12 then (if 0 ≤ (zI u4 a0 27) then (if p3 = 0 then (if zK u4 a0 = 12 then (some (zI u4 a0 27, u4)) else none)
  else (if zK u4 a0 = 12 then (if zK u4 a0 = 12 then cl (fX11_sleepers N a0 u4) fun r5 u6 => (cl (fX11_bits N (r5 &&& (p1 ^^^ (-1 : Int32))) u6) fun r7 u8 => (cl (fX11_fraction N ((zI u4 a0 28) * r1) (r1 + r7) (p3 - (1 : Int32)) u8) fun r9 u10 => (some (r9, u10)))) else none) else none))
  else (some ((-2 : Int32), u4))) else none) else none)
set_option maxRecDepth 20000 in
set_option maxHeartbeats 4000000 in
theorem kX11_cheapest  (N : Nat)  (l : Launch) (D : va_G) (cT : Nat → ClassId) (z0 : Nat) (ks : Nat × Nat) (a0 : Nat) (p1 : Int32) (p2 : Int32) (p3 : Int32) (u : SG) : Ct l D cT z0 ks yX11_cheapest cX11_cheapest 5 (some .int) 5 0 0 vI [.ref a0, .int p1, .int p2, .int p3] u (fX11_cheapest N  a0 p1 p2 p3 u) := by
  unfold fX11_cheapest
  refine ct_of (by decide +kernel) (Nat.le_of_ble_eq_true rfl) (fun p e R s m args below meth c hX => ?_)
  show JF _ True 5 0 0 _ 0 [(0, .ref a0), (1, .int p1), (2, .int p2), (3, .int p3)] [] u _
  refine jf_iload_n hX dX11_cheapest_0 1 rfl ?_
  refine jf_callS (As := [.int p1]) (st := []) hX mo_X11_bits wml_224 wstat_225 rfl (fun l D cT z0 ks => kX11_bits N l D cT z0 ks p1 u) (by decide) (by decide) (by decide) (by decide) (Nat.le_of_ble_eq_true rfl) rfl rfl dX11_cheapest_1 (fun r1 u2 => ?_)
  refine jf_istore (lv' := [(4, .int r1), (0, .ref a0), (1, .int p1), (2, .int p2), (3, .int p3)]) hX dX11_cheapest_4 (by decide) rfl ?_
  refine jf_aload_n hX dX11_cheapest_6 1 rfl ?_
  refine jf_iload_n hX dX11_cheapest_7 2 rfl ?_
  refine jf_iload_n hX dX11_cheapest_8 3 rfl ?_
  refine jf_callV (As := [.int p1, .int p2]) (st := []) hX mo_X11_findsCheap wml_280 winst_281 wsel_282 11 ck_X11 rfl (fun l D cT z0 ks => kX11_findsCheap N l D cT z0 ks a0 p1 p2 u2) (by decide) (by decide) (by decide) (by decide) (Nat.le_of_ble_eq_true rfl) rfl rfl dX11_cheapest_9 (fun r3 u4 => ?_)
  refine jf_aload_n hX dX11_cheapest_12 1 rfl ?_
  refine jf_getI hX ck_X11 27 wfl_275 (by decide) rfl dX11_cheapest_13 ?_
  refine jf_if_ge (tgt := 22) hX dX11_cheapest_16 (by decide) ?_ ?_
  · refine jf_iload_n hX dX11_cheapest_22 4 rfl ?_
    refine jf_if_ne (tgt := 33) hX dX11_cheapest_23 (by decide) ?_ ?_
    · refine jf_aload_n hX dX11_cheapest_33 1 rfl ?_
      refine jf_getI hX ck_X11 28 wfl_276 (by decide) rfl dX11_cheapest_34 ?_
      refine jf_iload hX dX11_cheapest_37 0 rfl ?_
      refine jf_imul hX dX11_cheapest_39 ?_
      refine jf_iload hX dX11_cheapest_40 0 rfl ?_
      refine jf_aload_n hX dX11_cheapest_42 1 rfl ?_
      refine jf_callV (As := []) (st := [.int r1, .int ((zI u4 a0 28) * r1)]) hX mo_X11_sleepers wml_221 winst_222 wsel_223 11 ck_X11 rfl (fun l D cT z0 ks => kX11_sleepers N l D cT z0 ks a0 u4) (by decide) (by decide) (by decide) (by decide) (Nat.le_of_ble_eq_true rfl) rfl rfl dX11_cheapest_43 (fun r5 u6 => ?_)
      refine jf_iload_n hX dX11_cheapest_46 2 rfl ?_
      refine jf_iconst (v := -1) hX dX11_cheapest_47 (by decide) ?_
      refine jf_ixor hX dX11_cheapest_48 ?_
      refine jf_iand hX dX11_cheapest_49 ?_
      refine jf_callS (As := [.int (r5 &&& (p1 ^^^ (-1 : Int32)))]) (st := [.int r1, .int ((zI u4 a0 28) * r1)]) hX mo_X11_bits wml_224 wstat_225 rfl (fun l D cT z0 ks => kX11_bits N l D cT z0 ks (r5 &&& (p1 ^^^ (-1 : Int32))) u6) (by decide) (by decide) (by decide) (by decide) (Nat.le_of_ble_eq_true rfl) rfl rfl dX11_cheapest_50 (fun r7 u8 => ?_)
      refine jf_iadd hX dX11_cheapest_53 ?_
      refine jf_iload_n hX dX11_cheapest_54 4 rfl ?_
      refine jf_iconst (v := 1) hX dX11_cheapest_55 (by decide) ?_
      refine jf_isub hX dX11_cheapest_56 ?_
      refine jf_callS (As := [.int ((zI u4 a0 28) * r1), .int (r1 + r7), .int (p3 - (1 : Int32))]) (st := []) hX mo_X11_fraction wml_264 wstat_265 rfl (fun l D cT z0 ks => kX11_fraction N l D cT z0 ks ((zI u4 a0 28) * r1) (r1 + r7) (p3 - (1 : Int32)) u8) (by decide) (by decide) (by decide) (by decide) (Nat.le_of_ble_eq_true rfl) rfl rfl dX11_cheapest_57 (fun r9 u10 => ?_)
      exact jf_iret hX rfl (by decide) (by decide) dX11_cheapest_60
    · refine jf_aload_n hX dX11_cheapest_26 1 rfl ?_
      refine jf_getI hX ck_X11 27 wfl_275 (by decide) rfl dX11_cheapest_27 ?_
      refine jf_goto (tgt := 60) hX dX11_cheapest_30 (by decide) ?_
      exact jf_iret hX rfl (by decide) (by decide) dX11_cheapest_60
  · refine jf_bipush (v := -2) hX dX11_cheapest_19 (by decide) ?_
    exact jf_iret hX rfl (by decide) (by decide) dX11_cheapest_21
set_option maxRecDepth 20000 in
def fX11_cheap (N : Nat)  (a0 : Nat) (p1 : Int32) (p2 : Int32) (p3 : Int32) (u : SG) : Option (Int32 × SG) := if zK u a0 = 12 then cl (fX11_isPerson N a0 p1 u) fun r1 u2 => (if r1 = 0 then (some ((-1 : Int32), u2))
  else (cl (fX11_in N p2.toInt64 (0 : Int64) (10 : Int64) u2) fun r3 u4 => (if r3 = 0 then (some ((-1 : Int32), u4))
  else (cl (fX11_in N p3.toInt64 (0 : Int64) (2 : Int64) u4) fun r5 u6 => (if r5 = 0 then (some ((-1 : Int32), u6))
  else (if zK u6 a0 = 12 then cl (fX11_cheapest N a0 ((1 : Int32) <<< (p1 &&& 31)) p2 p3 u6) fun r7 u8 => (some (r7, u8)) else none)))))) else none
set_option maxRecDepth 20000 in
set_option maxHeartbeats 4000000 in
theorem kX11_cheap  (N : Nat)  (l : Launch) (D : va_G) (cT : Nat → ClassId) (z0 : Nat) (ks : Nat × Nat) (a0 : Nat) (p1 : Int32) (p2 : Int32) (p3 : Int32) (u : SG) : Ct l D cT z0 ks yX11_cheap cX11_cheap 4 (some .int) 6 0 0 vI [.ref a0, .int p1, .int p2, .int p3] u (fX11_cheap N  a0 p1 p2 p3 u) := by
  unfold fX11_cheap
  refine ct_of (by decide +kernel) (Nat.le_of_ble_eq_true rfl) (fun p e R s m args below meth c hX => ?_)
  show JF _ True 4 0 0 _ 0 [(0, .ref a0), (1, .int p1), (2, .int p2), (3, .int p3)] [] u _
  refine jf_aload_n hX dX11_cheap_0 0 rfl ?_
  refine jf_iload_n hX dX11_cheap_1 1 rfl ?_
  refine jf_callV (As := [.int p1]) (st := []) hX mo_X11_isPerson wml_210 winst_211 wsel_212 11 ck_X11 rfl (fun l D cT z0 ks => kX11_isPerson N l D cT z0 ks a0 p1 u) (by decide) (by decide) (by decide) (by decide) (Nat.le_of_ble_eq_true rfl) rfl rfl dX11_cheap_2 (fun r1 u2 => ?_)
  refine jf_if_eq (tgt := 32) hX dX11_cheap_5 (by decide) ?_ ?_
  · refine jf_iconst (v := -1) hX dX11_cheap_32 (by decide) ?_
    exact jf_iret hX rfl (by decide) (by decide) dX11_cheap_33
  · refine jf_iload_n hX dX11_cheap_8 2 rfl ?_
    refine jf_i2l hX dX11_cheap_9 ?_
    refine jf_lconst (v := 0) hX dX11_cheap_10 (by decide) ?_
    refine jf_ldc2 (v := 10) hX dX11_cheap_11 wconl_283 ?_
    refine jf_callS (As := [.long p2.toInt64, .long (0 : Int64), .long (10 : Int64)]) (st := []) hX mo_X11_in wml_68 wstat_69 rfl (fun l D cT z0 ks => kX11_in N l D cT z0 ks p2.toInt64 (0 : Int64) (10 : Int64) u2) (by decide) (by decide) (by decide) (by decide) (Nat.le_of_ble_eq_true rfl) rfl rfl dX11_cheap_14 (fun r3 u4 => ?_)
    refine jf_if_eq (tgt := 32) hX dX11_cheap_17 (by decide) ?_ ?_
    · refine jf_iconst (v := -1) hX dX11_cheap_32 (by decide) ?_
      exact jf_iret hX rfl (by decide) (by decide) dX11_cheap_33
    · refine jf_iload_n hX dX11_cheap_20 3 rfl ?_
      refine jf_i2l hX dX11_cheap_21 ?_
      refine jf_lconst (v := 0) hX dX11_cheap_22 (by decide) ?_
      refine jf_ldc2 (v := 2) hX dX11_cheap_23 wconl_217 ?_
      refine jf_callS (As := [.long p3.toInt64, .long (0 : Int64), .long (2 : Int64)]) (st := []) hX mo_X11_in wml_68 wstat_69 rfl (fun l D cT z0 ks => kX11_in N l D cT z0 ks p3.toInt64 (0 : Int64) (2 : Int64) u4) (by decide) (by decide) (by decide) (by decide) (Nat.le_of_ble_eq_true rfl) rfl rfl dX11_cheap_26 (fun r5 u6 => ?_)
      refine jf_if_ne (tgt := 34) hX dX11_cheap_29 (by decide) ?_ ?_
      · refine jf_aload_n hX dX11_cheap_34 0 rfl ?_
        refine jf_iconst (v := 1) hX dX11_cheap_35 (by decide) ?_
        refine jf_iload_n hX dX11_cheap_36 1 rfl ?_
        refine jf_ishl hX dX11_cheap_37 ?_
        refine jf_iload_n hX dX11_cheap_38 2 rfl ?_
        refine jf_iload_n hX dX11_cheap_39 3 rfl ?_
        refine jf_callV (As := [.int ((1 : Int32) <<< (p1 &&& 31)), .int p2, .int p3]) (st := []) hX mo_X11_cheapest wml_284 winst_285 wsel_286 11 ck_X11 rfl (fun l D cT z0 ks => kX11_cheapest N l D cT z0 ks a0 ((1 : Int32) <<< (p1 &&& 31)) p2 p3 u6) (by decide) (by decide) (by decide) (by decide) (Nat.le_of_ble_eq_true rfl) rfl rfl dX11_cheap_40 (fun r7 u8 => ?_)
        exact jf_iret hX rfl (by decide) (by decide) dX11_cheap_43
      · refine jf_iconst (v := -1) hX dX11_cheap_32 (by decide) ?_
        exact jf_iret hX rfl (by decide) (by decide) dX11_cheap_33
set_option maxRecDepth 20000 in
def fX11_guild (N : Nat)  (a0 : Nat) (p1 : Int32) (p2 : Int32) (p3 : Int32) (u : SG) : Option (Int32 × SG) := if zK u a0 = 12 then cl (fX11_isStreet N a0 u) fun r1 u2 => (if r1 = 0 then (some ((-1 : Int32), u2))
  else (if p1 ≤ 0 then (some ((-1 : Int32), u2))
  else (if zK u2 a0 = 12 then (Option.bind (zR u2 a0 20) fun q3 => (if zK u2 q3 = 22 then if zN u2 q3 ≤ 1 then none else (if ((1 : Int32) <<< ((zI u2 q3 1) &&& 31)) ≤ p1 then (some ((-1 : Int32), u2))
  else (cl (fX11_in N p2.toInt64 (0 : Int64) (10 : Int64) u2) fun r4 u5 => (if r4 = 0 then (some ((-1 : Int32), u5))
  else (cl (fX11_in N p3.toInt64 (0 : Int64) (2 : Int64) u5) fun r6 u7 => (if r6 = 0 then (some ((-1 : Int32), u7))
  else (if zK u7 a0 = 12 then cl (fX11_cheapest N a0 p1 p2 p3 u7) fun r8 u9 => (some (r8, u9)) else none)))))) else none)) else none))) else none
set_option maxRecDepth 20000 in
set_option maxHeartbeats 4000000 in
theorem kX11_guild  (N : Nat)  (l : Launch) (D : va_G) (cT : Nat → ClassId) (z0 : Nat) (ks : Nat × Nat) (a0 : Nat) (p1 : Int32) (p2 : Int32) (p3 : Int32) (u : SG) : Ct l D cT z0 ks yX11_guild cX11_guild 4 (some .int) 6 0 0 vI [.ref a0, .int p1, .int p2, .int p3] u (fX11_guild N  a0 p1 p2 p3 u) := by
  unfold fX11_guild
  refine ct_of (by decide +kernel) (Nat.le_of_ble_eq_true rfl) (fun p e R s m args below meth c hX => ?_)
  show JF _ True 4 0 0 _ 0 [(0, .ref a0), (1, .int p1), (2, .int p2), (3, .int p3)] [] u _
  refine jf_aload_n hX dX11_guild_0 0 rfl ?_
  refine jf_callV (As := []) (st := []) hX mo_X11_isStreet wml_253 winst_254 wsel_255 11 ck_X11 rfl (fun l D cT z0 ks => kX11_isStreet N l D cT z0 ks a0 u) (by decide) (by decide) (by decide) (by decide) (Nat.le_of_ble_eq_true rfl) rfl rfl dX11_guild_1 (fun r1 u2 => ?_)
  refine jf_if_eq (tgt := 47) hX dX11_guild_4 (by decide) ?_ ?_
  · refine jf_iconst (v := -1) hX dX11_guild_47 (by decide) ?_
    exact jf_iret hX rfl (by decide) (by decide) dX11_guild_48
  · refine jf_iload_n hX dX11_guild_7 1 rfl ?_
    refine jf_if_le (tgt := 47) hX dX11_guild_8 (by decide) ?_ ?_
    · refine jf_iconst (v := -1) hX dX11_guild_47 (by decide) ?_
      exact jf_iret hX rfl (by decide) (by decide) dX11_guild_48
    · refine jf_iload_n hX dX11_guild_11 1 rfl ?_
      refine jf_iconst (v := 1) hX dX11_guild_12 (by decide) ?_
      refine jf_aload_n hX dX11_guild_13 0 rfl ?_
      refine jf_getR hX ck_X11 20 wfl_31 (by decide) rfl dX11_guild_14 ?_
      refine jf_nn (fun q3 => ?_)
      refine jf_iconst (v := 1) hX dX11_guild_17 (by decide) ?_
      refine jf_ialdc 1 hX (by decide) (by decide) dX11_guild_18 ?_
      refine jf_ishl hX dX11_guild_19 ?_
      refine jf_icmp_ge (tgt := 47) hX dX11_guild_20 (by decide) ?_ ?_
      · refine jf_iconst (v := -1) hX dX11_guild_47 (by decide) ?_
        exact jf_iret hX rfl (by decide) (by decide) dX11_guild_48
      · refine jf_iload_n hX dX11_guild_23 2 rfl ?_
        refine jf_i2l hX dX11_guild_24 ?_
        refine jf_lconst (v := 0) hX dX11_guild_25 (by decide) ?_
        refine jf_ldc2 (v := 10) hX dX11_guild_26 wconl_283 ?_
        refine jf_callS (As := [.long p2.toInt64, .long (0 : Int64), .long (10 : Int64)]) (st := []) hX mo_X11_in wml_68 wstat_69 rfl (fun l D cT z0 ks => kX11_in N l D cT z0 ks p2.toInt64 (0 : Int64) (10 : Int64) u2) (by decide) (by decide) (by decide) (by decide) (Nat.le_of_ble_eq_true rfl) rfl rfl dX11_guild_29 (fun r4 u5 => ?_)
        refine jf_if_eq (tgt := 47) hX dX11_guild_32 (by decide) ?_ ?_
        · refine jf_iconst (v := -1) hX dX11_guild_47 (by decide) ?_
          exact jf_iret hX rfl (by decide) (by decide) dX11_guild_48
        · refine jf_iload_n hX dX11_guild_35 3 rfl ?_
          refine jf_i2l hX dX11_guild_36 ?_
          refine jf_lconst (v := 0) hX dX11_guild_37 (by decide) ?_
          refine jf_ldc2 (v := 2) hX dX11_guild_38 wconl_217 ?_
          refine jf_callS (As := [.long p3.toInt64, .long (0 : Int64), .long (2 : Int64)]) (st := []) hX mo_X11_in wml_68 wstat_69 rfl (fun l D cT z0 ks => kX11_in N l D cT z0 ks p3.toInt64 (0 : Int64) (2 : Int64) u5) (by decide) (by decide) (by decide) (by decide) (Nat.le_of_ble_eq_true rfl) rfl rfl dX11_guild_41 (fun r6 u7 => ?_)
          refine jf_if_ne (tgt := 49) hX dX11_guild_44 (by decide) ?_ ?_
          · refine jf_aload_n hX dX11_guild_49 0 rfl ?_
            refine jf_iload_n hX dX11_guild_50 1 rfl ?_
            refine jf_iload_n hX dX11_guild_51 2 rfl ?_
            refine jf_iload_n hX dX11_guild_52 3 rfl ?_
            refine jf_callV (As := [.int p1, .int p2, .int p3]) (st := []) hX mo_X11_cheapest wml_284 winst_285 wsel_286 11 ck_X11 rfl (fun l D cT z0 ks => kX11_cheapest N l D cT z0 ks a0 p1 p2 p3 u7) (by decide) (by decide) (by decide) (by decide) (Nat.le_of_ble_eq_true rfl) rfl rfl dX11_guild_53 (fun r8 u9 => ?_)
            exact jf_iret hX rfl (by decide) (by decide) dX11_guild_56
          · refine jf_iconst (v := -1) hX dX11_guild_47 (by decide) ?_
            exact jf_iret hX rfl (by decide) (by decide) dX11_guild_48
set_option maxRecDepth 20000 in
def gX11_isRest_35 (N : Nat)   : Nat → Nat → Int32 → Int32 → Int32 → Int32 → Int32 → SG → Option (Int32 × SG)
  | 0, _, _, _, _, _, _, _ => none
  | n + 1, x0, x1, x2, x3, x4, x5, u => if zK u x0 = 12 then (Option.bind (zR u x0 20) fun q1 => (if zK u q1 = 22 then if zN u q1 ≤ 1 then none else (if (zI u q1 1) ≤ x5 then (some ((1 : Int32), u))
  else (cl (fX11_isOf N x2 x5 u) fun r2 u3 => (if r2 = 0 then ((gX11_isRest_35 N  n) x0 x1 x2 x3 x4 (x5 + (1 : Int32)) u3)
  else (if zK u3 x0 = 12 then cl (fX11_personOf N x0 x5 (1 : Int32) u3) fun r4 u5 => (cl (fX11_isOf N x1 x5 u5) fun r6 u7 => (if r6 = 0 then (if (r4 * (x4 + (1 : Int32))) ≤ x3 then ((gX11_isRest_35 N  n) x0 x1 x2 x3 x4 (x5 + (1 : Int32)) u7)
  else (some ((0 : Int32), u7)))
  else (if x3 ≤ (r4 * x4) then ((gX11_isRest_35 N  n) x0 x1 x2 x3 x4 (x5 + (1 : Int32)) u7)
  else (some ((0 : Int32), u7))))) else none)))) else none)) else none
set_option maxRecDepth 20000 in
set_option maxHeartbeats 4000000 in
theorem jgX11_isRest_35   {X : XT} (hX : Cx X yX11_isRest cX11_isRest 7 (some .boolean) 4 0 0) (N : Nat)  : ∀ (n : Nat) (x0 : Nat) (x1 : Int32) (x2 : Int32) (x3 : Int32) (x4 : Int32) (x5 : Int32) (u : SG), JF X True 7 0 0 (jQ X vI 0 0) 35 [(0, .ref x0), (1, .int x1), (2, .int x2), (3, .int x3), (4, .int x4), (5, .int x5)] [] u (gX11_isRest_35 N   n x0 x1 x2 x3 x4 x5 u) := by
  intro n
  induction n with
  | zero => intros; intro r u9 h9; exact absurd h9 (by simp [gX11_isRest_35])
  | succ n ih =>
    intro x0 x1 x2 x3 x4 x5 u
    have hrec35 := ih
    rw [gX11_isRest_35]
    refine jf_iload hX dX11_isRest_35 5 rfl ?_
    refine jf_aload_n hX dX11_isRest_37 0 rfl ?_
    refine jf_getR hX ck_X11 20 wfl_31 (by decide) rfl dX11_isRest_38 ?_
    refine jf_nn (fun q1 => ?_)
    refine jf_iconst (v := 1) hX dX11_isRest_41 (by decide) ?_
    refine jf_ialdc 1 hX (by decide) (by decide) dX11_isRest_42 ?_
    refine jf_icmp_ge (tgt := 107) hX dX11_isRest_43 (by decide) ?_ ?_
    · refine jf_iconst (v := 1) hX dX11_isRest_107 (by decide) ?_
      exact jf_zretc hX rfl (by decide) (by decide) (by decide) dX11_isRest_108
    · refine jf_iload_n hX dX11_isRest_46 2 rfl ?_
      refine jf_iload hX dX11_isRest_47 5 rfl ?_
      refine jf_callS (As := [.int x2, .int x5]) (st := []) hX mo_X11_isOf wml_273 wstat_274 rfl (fun l D cT z0 ks => kX11_isOf N l D cT z0 ks x2 x5 u) (by decide) (by decide) (by decide) (by decide) (Nat.le_of_ble_eq_true rfl) rfl rfl dX11_isRest_49 (fun r2 u3 => ?_)
      refine jf_if_ne (tgt := 58) hX dX11_isRest_52 (by decide) ?_ ?_
      · refine jf_aload_n hX dX11_isRest_58 0 rfl ?_
        refine jf_iload hX dX11_isRest_59 5 rfl ?_
        refine jf_iconst (v := 1) hX dX11_isRest_61 (by decide) ?_
        refine jf_callV (As := [.int x5, .int (1 : Int32)]) (st := []) hX mo_X11_personOf wml_201 winst_202 wsel_203 11 ck_X11 rfl (fun l D cT z0 ks => kX11_personOf N l D cT z0 ks x0 x5 (1 : Int32) u3) (by decide) (by decide) (by decide) (by decide) (Nat.le_of_ble_eq_true rfl) rfl rfl dX11_isRest_62 (fun r4 u5 => ?_)
        refine jf_istore (lv' := [(6, .int r4), (0, .ref x0), (1, .int x1), (2, .int x2), (3, .int x3), (4, .int x4), (5, .int x5)]) hX dX11_isRest_65 (by decide) rfl ?_
        refine jf_iload_n hX dX11_isRest_67 2 rfl ?_
        refine jf_iload hX dX11_isRest_68 6 rfl ?_
        refine jf_callS (As := [.int x1, .int x5]) (st := []) hX mo_X11_isOf wml_273 wstat_274 rfl (fun l D cT z0 ks => kX11_isOf N l D cT z0 ks x1 x5 u5) (by decide) (by decide) (by decide) (by decide) (Nat.le_of_ble_eq_true rfl) rfl rfl dX11_isRest_70 (fun r6 u7 => ?_)
        refine jf_if_eq (tgt := 88) hX dX11_isRest_73 (by decide) ?_ ?_
        · refine jf_iload_n hX dX11_isRest_88 4 rfl ?_
          refine jf_iload hX dX11_isRest_89 0 rfl ?_
          refine jf_iload hX dX11_isRest_91 5 rfl ?_
          refine jf_iconst (v := 1) hX dX11_isRest_93 (by decide) ?_
          refine jf_iadd hX dX11_isRest_94 ?_
          refine jf_imul hX dX11_isRest_95 ?_
          refine jf_icmp_ge (tgt := 101) hX dX11_isRest_96 (by decide) ?_ ?_
          · refine jf_iinc (v := 1) (lv' := [(5, .int (x5 + (1 : Int32))), (6, .int r4), (0, .ref x0), (1, .int x1), (2, .int x2), (3, .int x3), (4, .int x4)]) hX dX11_isRest_101 6 rfl (by decide) (by decide) rfl ?_
            refine jf_goto (tgt := 35) hX dX11_isRest_104 (by decide) ?_
            refine jf_lv [2, 3, 4, 5, 6, 0] rfl ?_
            exact hrec35 x0 x1 x2 x3 x4 (x5 + (1 : Int32)) u7
          · refine jf_iconst (v := 0) hX dX11_isRest_99 (by decide) ?_
            exact jf_zretc hX rfl (by decide) (by decide) (by decide) dX11_isRest_100
        · refine jf_iload_n hX dX11_isRest_76 4 rfl ?_
          refine jf_iload hX dX11_isRest_77 0 rfl ?_
          refine jf_iload hX dX11_isRest_79 5 rfl ?_
          refine jf_imul hX dX11_isRest_81 ?_
          refine jf_icmp_le (tgt := 101) hX dX11_isRest_82 (by decide) ?_ ?_
          · refine jf_iinc (v := 1) (lv' := [(5, .int (x5 + (1 : Int32))), (6, .int r4), (0, .ref x0), (1, .int x1), (2, .int x2), (3, .int x3), (4, .int x4)]) hX dX11_isRest_101 6 rfl (by decide) (by decide) rfl ?_
            refine jf_goto (tgt := 35) hX dX11_isRest_104 (by decide) ?_
            refine jf_lv [2, 3, 4, 5, 6, 0] rfl ?_
            exact hrec35 x0 x1 x2 x3 x4 (x5 + (1 : Int32)) u7
          · refine jf_goto (tgt := 99) hX dX11_isRest_85 (by decide) ?_
            refine jf_iconst (v := 0) hX dX11_isRest_99 (by decide) ?_
            exact jf_zretc hX rfl (by decide) (by decide) (by decide) dX11_isRest_100
      · refine jf_goto (tgt := 101) hX dX11_isRest_55 (by decide) ?_
        refine jf_iinc (v := 1) (lv' := [(5, .int (x5 + (1 : Int32))), (0, .ref x0), (1, .int x1), (2, .int x2), (3, .int x3), (4, .int x4)]) hX dX11_isRest_101 5 rfl (by decide) (by decide) rfl ?_
        refine jf_goto (tgt := 35) hX dX11_isRest_104 (by decide) ?_
        refine jf_lv [1, 2, 3, 4, 5, 0] rfl ?_
        exact hrec35 x0 x1 x2 x3 x4 (x5 + (1 : Int32)) u3
set_option maxRecDepth 20000 in
def fX11_isRest (N : Nat)  (a0 : Nat) (p1 : Int32) (u : SG) : Option (Int32 × SG) := if zK u a0 = 12 then cl (fX11_idle N a0 u) fun r1 u2 => (if zK u2 a0 = 12 then (Option.bind (zR u2 a0 20) fun q3 => (if zK u2 q3 = 22 then if zN u2 q3 ≤ 5 then none else (if zK u2 a0 = 12 then cl (fX11_costIn N a0 (zI u2 q3 5) u2) fun r4 u5 => (cl (fX11_bits N p1 u5) fun r6 u7 => (if (p1 &&& (r1 ^^^ (-1 : Int32))) = 0 then (gX11_isRest_35 N  N a0 p1 r1 r4 r6 (0 : Int32) u7)
  else (some ((0 : Int32), u7)))) else none) else none)) else none) else none
set_option maxRecDepth 20000 in
set_option maxHeartbeats 4000000 in
theorem kX11_isRest  (N : Nat)  (l : Launch) (D : va_G) (cT : Nat → ClassId) (z0 : Nat) (ks : Nat × Nat) (a0 : Nat) (p1 : Int32) (u : SG) : Ct l D cT z0 ks yX11_isRest cX11_isRest 7 (some .boolean) 4 0 0 vI [.ref a0, .int p1] u (fX11_isRest N  a0 p1 u) := by
  unfold fX11_isRest
  refine ct_of (by decide +kernel) (Nat.le_of_ble_eq_true rfl) (fun p e R s m args below meth c hX => ?_)
  show JF _ True 7 0 0 _ 0 [(0, .ref a0), (1, .int p1)] [] u _
  refine jf_aload_n hX dX11_isRest_0 0 rfl ?_
  refine jf_callV (As := []) (st := []) hX mo_X11_idle wml_287 winst_288 wsel_289 11 ck_X11 rfl (fun l D cT z0 ks => kX11_idle N l D cT z0 ks a0 u) (by decide) (by decide) (by decide) (by decide) (Nat.le_of_ble_eq_true rfl) rfl rfl dX11_isRest_1 (fun r1 u2 => ?_)
  refine jf_istore_n (lv' := [(2, .int r1), (0, .ref a0), (1, .int p1)]) hX dX11_isRest_4 rfl (by decide) rfl ?_
  refine jf_aload_n hX dX11_isRest_5 1 rfl ?_
  refine jf_aload_n hX dX11_isRest_6 1 rfl ?_
  refine jf_getR hX ck_X11 20 wfl_31 (by decide) rfl dX11_isRest_7 ?_
  refine jf_nn (fun q3 => ?_)
  refine jf_iconst (v := 5) hX dX11_isRest_10 (by decide) ?_
  refine jf_ialdc 5 hX (by decide) (by decide) dX11_isRest_11 ?_
  refine jf_callV (As := [.int (zI u2 q3 5)]) (st := []) hX mo_X11_costIn wml_218 winst_219 wsel_220 11 ck_X11 rfl (fun l D cT z0 ks => kX11_costIn N l D cT z0 ks a0 (zI u2 q3 5) u2) (by decide) (by decide) (by decide) (by decide) (Nat.le_of_ble_eq_true rfl) rfl rfl dX11_isRest_12 (fun r4 u5 => ?_)
  refine jf_istore_n (lv' := [(3, .int r4), (2, .int r1), (0, .ref a0), (1, .int p1)]) hX dX11_isRest_15 rfl (by decide) rfl ?_
  refine jf_iload_n hX dX11_isRest_16 3 rfl ?_
  refine jf_callS (As := [.int p1]) (st := []) hX mo_X11_bits wml_224 wstat_225 rfl (fun l D cT z0 ks => kX11_bits N l D cT z0 ks p1 u5) (by decide) (by decide) (by decide) (by decide) (Nat.le_of_ble_eq_true rfl) rfl rfl dX11_isRest_17 (fun r6 u7 => ?_)
  refine jf_istore (lv' := [(4, .int r6), (3, .int r4), (2, .int r1), (0, .ref a0), (1, .int p1)]) hX dX11_isRest_20 (by decide) rfl ?_
  refine jf_iload_n hX dX11_isRest_22 4 rfl ?_
  refine jf_iload_n hX dX11_isRest_23 2 rfl ?_
  refine jf_iconst (v := -1) hX dX11_isRest_24 (by decide) ?_
  refine jf_ixor hX dX11_isRest_25 ?_
  refine jf_iand hX dX11_isRest_26 ?_
  refine jf_if_eq (tgt := 32) hX dX11_isRest_27 (by decide) ?_ ?_
  · refine jf_iconst (v := 0) hX dX11_isRest_32 (by decide) ?_
    refine jf_istore (lv' := [(5, .int (0 : Int32)), (4, .int r6), (3, .int r4), (2, .int r1), (0, .ref a0), (1, .int p1)]) hX dX11_isRest_33 (by decide) rfl ?_
    refine jf_lv [4, 5, 3, 2, 1, 0] rfl ?_
    exact jgX11_isRest_35 hX N  N a0 p1 r1 r4 r6 (0 : Int32) u7
  · refine jf_iconst (v := 0) hX dX11_isRest_30 (by decide) ?_
    exact jf_zretc hX rfl (by decide) (by decide) (by decide) dX11_isRest_31
set_option maxRecDepth 20000 in
def gX11_rest_33 (N : Nat)   : Nat → Nat → Int32 → Int32 → Int32 → Int32 → Int32 → SG → Option (Int32 × SG)
  | 0, _, _, _, _, _, _, _ => none
  | n + 1, x0, x1, x2, x3, x4, x5, u => if zK u x0 = 12 then (Option.bind (zR u x0 20) fun q1 => (if zK u q1 = 22 then if zN u q1 ≤ 1 then none else (if ((1 : Int32) <<< ((zI u q1 1) &&& 31)) ≤ x5 then (if x1 = 0 then (some (x2, u))
  else (if x1 = (1 : Int32) then (some (x3, u))
  else (some (x4, u))))
  else (if zK u x0 = 12 then cl (fX11_isRest N x0 x5 u) fun r2 u3 => (if r2 = 0 then ((gX11_rest_33 N  n) x0 x1 x2 x3 x4 (x5 + (1 : Int32)) u3)
  else (if x2 = 0 then ((gX11_rest_33 N  n) x0 x1 (x2 + (1 : Int32)) x5 x5 (x5 + (1 : Int32)) u3)
  else ((gX11_rest_33 N  n) x0 x1 (x2 + (1 : Int32)) x3 x5 (x5 + (1 : Int32)) u3))) else none)) else none)) else none
set_option maxRecDepth 20000 in
set_option maxHeartbeats 4000000 in
theorem jgX11_rest_33   {X : XT} (hX : Cx X yX11_rest cX11_rest 6 (some .int) 5 0 0) (N : Nat)  : ∀ (n : Nat) (x0 : Nat) (x1 : Int32) (x2 : Int32) (x3 : Int32) (x4 : Int32) (x5 : Int32) (u : SG), JF X True 6 0 0 (jQ X vI 0 0) 33 [(0, .ref x0), (1, .int x1), (2, .int x2), (3, .int x3), (4, .int x4), (5, .int x5)] [] u (gX11_rest_33 N   n x0 x1 x2 x3 x4 x5 u) := by
  intro n
  induction n with
  | zero => intros; intro r u9 h9; exact absurd h9 (by simp [gX11_rest_33])
  | succ n ih =>
    intro x0 x1 x2 x3 x4 x5 u
    have hrec33 := ih
    rw [gX11_rest_33]
    refine jf_iload hX dX11_rest_33 5 rfl ?_
    refine jf_iconst (v := 1) hX dX11_rest_35 (by decide) ?_
    refine jf_aload_n hX dX11_rest_36 0 rfl ?_
    refine jf_getR hX ck_X11 20 wfl_31 (by decide) rfl dX11_rest_37 ?_
    refine jf_nn (fun q1 => ?_)
    refine jf_iconst (v := 1) hX dX11_rest_40 (by decide) ?_
    refine jf_ialdc 1 hX (by decide) (by decide) dX11_rest_41 ?_
    refine jf_ishl hX dX11_rest_42 ?_
    refine jf_icmp_ge (tgt := 82) hX dX11_rest_43 (by decide) ?_ ?_
    · refine jf_iload_n hX dX11_rest_82 1 rfl ?_
      refine jf_if_ne (tgt := 90) hX dX11_rest_83 (by decide) ?_ ?_
      · refine jf_iload_n hX dX11_rest_90 1 rfl ?_
        refine jf_iconst (v := 1) hX dX11_rest_91 (by decide) ?_
        refine jf_icmp_ne (tgt := 99) hX dX11_rest_92 (by decide) ?_ ?_
        · refine jf_iload hX dX11_rest_99 4 rfl ?_
          exact jf_iret hX rfl (by decide) (by decide) dX11_rest_101
        · refine jf_iload_n hX dX11_rest_95 3 rfl ?_
          refine jf_goto (tgt := 101) hX dX11_rest_96 (by decide) ?_
          exact jf_iret hX rfl (by decide) (by decide) dX11_rest_101
      · refine jf_iload_n hX dX11_rest_86 2 rfl ?_
        refine jf_goto (tgt := 101) hX dX11_rest_87 (by decide) ?_
        exact jf_iret hX rfl (by decide) (by decide) dX11_rest_101
    · refine jf_aload_n hX dX11_rest_46 0 rfl ?_
      refine jf_iload hX dX11_rest_47 5 rfl ?_
      refine jf_callV (As := [.int x5]) (st := []) hX mo_X11_isRest wml_290 winst_291 wsel_292 11 ck_X11 rfl (fun l D cT z0 ks => kX11_isRest N l D cT z0 ks x0 x5 u) (by decide) (by decide) (by decide) (by decide) (Nat.le_of_ble_eq_true rfl) rfl rfl dX11_rest_49 (fun r2 u3 => ?_)
      refine jf_if_ne (tgt := 58) hX dX11_rest_52 (by decide) ?_ ?_
      · refine jf_iload_n hX dX11_rest_58 2 rfl ?_
        refine jf_if_ne (tgt := 67) hX dX11_rest_59 (by decide) ?_ ?_
        · refine jf_iload_n hX dX11_rest_67 3 rfl ?_
          refine jf_istore_n (lv' := [(3, .int x3), (0, .ref x0), (1, .int x1), (2, .int x2), (4, .int x4), (5, .int x5)]) hX dX11_rest_68 rfl (by decide) rfl ?_
          refine jf_iload hX dX11_rest_69 5 rfl ?_
          refine jf_istore (lv' := [(4, .int x5), (3, .int x3), (0, .ref x0), (1, .int x1), (2, .int x2), (5, .int x5)]) hX dX11_rest_71 (by decide) rfl ?_
          refine jf_iinc (v := 1) (lv' := [(2, .int (x2 + (1 : Int32))), (4, .int x5), (3, .int x3), (0, .ref x0), (1, .int x1), (5, .int x5)]) hX dX11_rest_73 4 rfl (by decide) (by decide) rfl ?_
          refine jf_iinc (v := 1) (lv' := [(5, .int (x5 + (1 : Int32))), (2, .int (x2 + (1 : Int32))), (4, .int x5), (3, .int x3), (0, .ref x0), (1, .int x1)]) hX dX11_rest_76 5 rfl (by decide) (by decide) rfl ?_
          refine jf_goto (tgt := 33) hX dX11_rest_79 (by decide) ?_
          refine jf_lv [4, 5, 1, 3, 2, 0] rfl ?_
          exact hrec33 x0 x1 (x2 + (1 : Int32)) x3 x5 (x5 + (1 : Int32)) u3
        · refine jf_iload hX dX11_rest_62 5 rfl ?_
          refine jf_goto (tgt := 68) hX dX11_rest_64 (by decide) ?_
          refine jf_istore_n (lv' := [(3, .int x5), (0, .ref x0), (1, .int x1), (2, .int x2), (4, .int x4), (5, .int x5)]) hX dX11_rest_68 rfl (by decide) rfl ?_
          refine jf_iload hX dX11_rest_69 5 rfl ?_
          refine jf_istore (lv' := [(4, .int x5), (3, .int x5), (0, .ref x0), (1, .int x1), (2, .int x2), (5, .int x5)]) hX dX11_rest_71 (by decide) rfl ?_
          refine jf_iinc (v := 1) (lv' := [(2, .int (x2 + (1 : Int32))), (4, .int x5), (3, .int x5), (0, .ref x0), (1, .int x1), (5, .int x5)]) hX dX11_rest_73 4 rfl (by decide) (by decide) rfl ?_
          refine jf_iinc (v := 1) (lv' := [(5, .int (x5 + (1 : Int32))), (2, .int (x2 + (1 : Int32))), (4, .int x5), (3, .int x5), (0, .ref x0), (1, .int x1)]) hX dX11_rest_76 5 rfl (by decide) (by decide) rfl ?_
          refine jf_goto (tgt := 33) hX dX11_rest_79 (by decide) ?_
          refine jf_lv [4, 5, 1, 3, 2, 0] rfl ?_
          exact hrec33 x0 x1 (x2 + (1 : Int32)) x5 x5 (x5 + (1 : Int32)) u3
      · refine jf_goto (tgt := 76) hX dX11_rest_55 (by decide) ?_
        refine jf_iinc (v := 1) (lv' := [(5, .int (x5 + (1 : Int32))), (0, .ref x0), (1, .int x1), (2, .int x2), (3, .int x3), (4, .int x4)]) hX dX11_rest_76 5 rfl (by decide) (by decide) rfl ?_
        refine jf_goto (tgt := 33) hX dX11_rest_79 (by decide) ?_
        refine jf_lv [1, 2, 3, 4, 5, 0] rfl ?_
        exact hrec33 x0 x1 x2 x3 x4 (x5 + (1 : Int32)) u3
set_option maxRecDepth 20000 in
def fX11_rest (N : Nat)  (a0 : Nat) (p1 : Int32) (u : SG) : Option (Int32 × SG) := if zK u a0 = 12 then cl (fX11_isStreet N a0 u) fun r1 u2 => (if r1 = 0 then (some ((-1 : Int32), u2))
  else (cl (fX11_in N p1.toInt64 (0 : Int64) (2 : Int64) u2) fun r3 u4 => (if r3 = 0 then (some ((-1 : Int32), u4))
  else (gX11_rest_33 N  N a0 p1 (0 : Int32) (-2 : Int32) (-2 : Int32) (0 : Int32) u4)))) else none
set_option maxRecDepth 20000 in
set_option maxHeartbeats 4000000 in
theorem kX11_rest  (N : Nat)  (l : Launch) (D : va_G) (cT : Nat → ClassId) (z0 : Nat) (ks : Nat × Nat) (a0 : Nat) (p1 : Int32) (u : SG) : Ct l D cT z0 ks yX11_rest cX11_rest 6 (some .int) 5 0 0 vI [.ref a0, .int p1] u (fX11_rest N  a0 p1 u) := by
  unfold fX11_rest
  refine ct_of (by decide +kernel) (Nat.le_of_ble_eq_true rfl) (fun p e R s m args below meth c hX => ?_)
  show JF _ True 6 0 0 _ 0 [(0, .ref a0), (1, .int p1)] [] u _
  refine jf_aload_n hX dX11_rest_0 0 rfl ?_
  refine jf_callV (As := []) (st := []) hX mo_X11_isStreet wml_253 winst_254 wsel_255 11 ck_X11 rfl (fun l D cT z0 ks => kX11_isStreet N l D cT z0 ks a0 u) (by decide) (by decide) (by decide) (by decide) (Nat.le_of_ble_eq_true rfl) rfl rfl dX11_rest_1 (fun r1 u2 => ?_)
  refine jf_if_eq (tgt := 19) hX dX11_rest_4 (by decide) ?_ ?_
  · refine jf_iconst (v := -1) hX dX11_rest_19 (by decide) ?_
    exact jf_iret hX rfl (by decide) (by decide) dX11_rest_20
  · refine jf_iload_n hX dX11_rest_7 1 rfl ?_
    refine jf_i2l hX dX11_rest_8 ?_
    refine jf_lconst (v := 0) hX dX11_rest_9 (by decide) ?_
    refine jf_ldc2 (v := 2) hX dX11_rest_10 wconl_217 ?_
    refine jf_callS (As := [.long p1.toInt64, .long (0 : Int64), .long (2 : Int64)]) (st := []) hX mo_X11_in wml_68 wstat_69 rfl (fun l D cT z0 ks => kX11_in N l D cT z0 ks p1.toInt64 (0 : Int64) (2 : Int64) u2) (by decide) (by decide) (by decide) (by decide) (Nat.le_of_ble_eq_true rfl) rfl rfl dX11_rest_13 (fun r3 u4 => ?_)
    refine jf_if_ne (tgt := 21) hX dX11_rest_16 (by decide) ?_ ?_
    · refine jf_iconst (v := 0) hX dX11_rest_21 (by decide) ?_
      refine jf_istore_n (lv' := [(2, .int (0 : Int32)), (0, .ref a0), (1, .int p1)]) hX dX11_rest_22 rfl (by decide) rfl ?_
      refine jf_bipush (v := -2) hX dX11_rest_23 (by decide) ?_
      refine jf_istore_n (lv' := [(3, .int (-2 : Int32)), (2, .int (0 : Int32)), (0, .ref a0), (1, .int p1)]) hX dX11_rest_25 rfl (by decide) rfl ?_
      refine jf_bipush (v := -2) hX dX11_rest_26 (by decide) ?_
      refine jf_istore (lv' := [(4, .int (-2 : Int32)), (3, .int (-2 : Int32)), (2, .int (0 : Int32)), (0, .ref a0), (1, .int p1)]) hX dX11_rest_28 (by decide) rfl ?_
      refine jf_iconst (v := 0) hX dX11_rest_30 (by decide) ?_
      refine jf_istore (lv' := [(5, .int (0 : Int32)), (4, .int (-2 : Int32)), (3, .int (-2 : Int32)), (2, .int (0 : Int32)), (0, .ref a0), (1, .int p1)]) hX dX11_rest_31 (by decide) rfl ?_
      refine jf_lv [4, 5, 3, 2, 1, 0] rfl ?_
      exact jgX11_rest_33 hX N  N a0 p1 (0 : Int32) (-2 : Int32) (-2 : Int32) (0 : Int32) u4
    · refine jf_iconst (v := -1) hX dX11_rest_19 (by decide) ?_
      exact jf_iret hX rfl (by decide) (by decide) dX11_rest_20
set_option maxRecDepth 20000 in
def gX11_isDarkEnough_67 (N : Nat)   : Nat → Nat → Int32 → Int32 → Int32 → SG → Option (Int32 × SG)
  | 0, _, _, _, _, _ => none
  | n + 1, x0, x2, x3, x4, u => if zK u x0 = 12 then (Option.bind (zR u x0 20) fun q1 => (if zK u q1 = 22 then if zN u q1 ≤ 1 then none else (if (zI u q1 1) ≤ x4 then (some ((1 : Int32), u))
  else (cl (fX11_isOf N x2 x4 u) fun r2 u3 => (if r2 = 0 then ((gX11_isDarkEnough_67 N  n) x0 x2 x3 (x4 + (1 : Int32)) u3)
  else (if zK u3 x0 = 12 then cl (fX11_personOf N x0 x4 (1 : Int32) u3) fun r4 u5 => (cl (fX11_bits N x2 u5) fun r6 u7 => (if x3 ≤ (r4 * r6) then ((gX11_isDarkEnough_67 N  n) x0 x2 x3 (x4 + (1 : Int32)) u7)
  else (some ((0 : Int32), u7)))) else none)))) else none)) else none
set_option maxRecDepth 20000 in
set_option maxHeartbeats 4000000 in
theorem jgX11_isDarkEnough_67   {X : XT} (hX : Cx X yX11_isDarkEnough cX11_isDarkEnough 5 (some .boolean) 3 0 0) (N : Nat)  : ∀ (n : Nat) (x0 : Nat) (x2 : Int32) (x3 : Int32) (x4 : Int32) (u : SG), JF X True 5 0 0 (jQ X vI 0 0) 67 [(0, .ref x0), (2, .int x2), (3, .int x3), (4, .int x4)] [] u (gX11_isDarkEnough_67 N   n x0 x2 x3 x4 u) := by
  intro n
  induction n with
  | zero => intros; intro r u9 h9; exact absurd h9 (by simp [gX11_isDarkEnough_67])
  | succ n ih =>
    intro x0 x2 x3 x4 u
    have hrec67 := ih
    rw [gX11_isDarkEnough_67]
    refine jf_iload hX dX11_isDarkEnough_67 3 rfl ?_
    refine jf_aload_n hX dX11_isDarkEnough_69 0 rfl ?_
    refine jf_getR hX ck_X11 20 wfl_31 (by decide) rfl dX11_isDarkEnough_70 ?_
    refine jf_nn (fun q1 => ?_)
    refine jf_iconst (v := 1) hX dX11_isDarkEnough_73 (by decide) ?_
    refine jf_ialdc 1 hX (by decide) (by decide) dX11_isDarkEnough_74 ?_
    refine jf_icmp_ge (tgt := 111) hX dX11_isDarkEnough_75 (by decide) ?_ ?_
    · refine jf_iconst (v := 1) hX dX11_isDarkEnough_111 (by decide) ?_
      exact jf_zretc hX rfl (by decide) (by decide) (by decide) dX11_isDarkEnough_112
    · refine jf_iload_n hX dX11_isDarkEnough_78 1 rfl ?_
      refine jf_iload hX dX11_isDarkEnough_79 3 rfl ?_
      refine jf_callS (As := [.int x2, .int x4]) (st := []) hX mo_X11_isOf wml_273 wstat_274 rfl (fun l D cT z0 ks => kX11_isOf N l D cT z0 ks x2 x4 u) (by decide) (by decide) (by decide) (by decide) (Nat.le_of_ble_eq_true rfl) rfl rfl dX11_isDarkEnough_81 (fun r2 u3 => ?_)
      refine jf_if_eq (tgt := 105) hX dX11_isDarkEnough_84 (by decide) ?_ ?_
      · refine jf_iinc (v := 1) (lv' := [(4, .int (x4 + (1 : Int32))), (0, .ref x0), (2, .int x2), (3, .int x3)]) hX dX11_isDarkEnough_105 3 rfl (by decide) (by decide) rfl ?_
        refine jf_goto (tgt := 67) hX dX11_isDarkEnough_108 (by decide) ?_
        refine jf_lv [1, 2, 3, 0] rfl ?_
        exact hrec67 x0 x2 x3 (x4 + (1 : Int32)) u3
      · refine jf_iload_n hX dX11_isDarkEnough_87 2 rfl ?_
        refine jf_aload_n hX dX11_isDarkEnough_88 0 rfl ?_
        refine jf_iload hX dX11_isDarkEnough_89 3 rfl ?_
        refine jf_iconst (v := 1) hX dX11_isDarkEnough_91 (by decide) ?_
        refine jf_callV (As := [.int x4, .int (1 : Int32)]) (st := [.int x3]) hX mo_X11_personOf wml_201 winst_202 wsel_203 11 ck_X11 rfl (fun l D cT z0 ks => kX11_personOf N l D cT z0 ks x0 x4 (1 : Int32) u3) (by decide) (by decide) (by decide) (by decide) (Nat.le_of_ble_eq_true rfl) rfl rfl dX11_isDarkEnough_92 (fun r4 u5 => ?_)
        refine jf_iload_n hX dX11_isDarkEnough_95 1 rfl ?_
        refine jf_callS (As := [.int x2]) (st := [.int r4, .int x3]) hX mo_X11_bits wml_224 wstat_225 rfl (fun l D cT z0 ks => kX11_bits N l D cT z0 ks x2 u5) (by decide) (by decide) (by decide) (by decide) (Nat.le_of_ble_eq_true rfl) rfl rfl dX11_isDarkEnough_96 (fun r6 u7 => ?_)
        refine jf_imul hX dX11_isDarkEnough_99 ?_
        refine jf_icmp_le (tgt := 105) hX dX11_isDarkEnough_100 (by decide) ?_ ?_
        · refine jf_iinc (v := 1) (lv' := [(4, .int (x4 + (1 : Int32))), (0, .ref x0), (2, .int x2), (3, .int x3)]) hX dX11_isDarkEnough_105 3 rfl (by decide) (by decide) rfl ?_
          refine jf_goto (tgt := 67) hX dX11_isDarkEnough_108 (by decide) ?_
          refine jf_lv [1, 2, 3, 0] rfl ?_
          exact hrec67 x0 x2 x3 (x4 + (1 : Int32)) u7
        · refine jf_iconst (v := 0) hX dX11_isDarkEnough_103 (by decide) ?_
          exact jf_zretc hX rfl (by decide) (by decide) (by decide) dX11_isDarkEnough_104
set_option maxRecDepth 20000 in
def gX11_isDarkEnough_10 (N : Nat)   : Nat → Nat → Int32 → Int32 → Int32 → Int32 → SG → Option (Int32 × SG)
  | 0, _, _, _, _, _, _ => none
  | n + 1, x0, x1, x2, x3, x4, u => if zK u x0 = 12 then (Option.bind (zR u x0 20) fun q1 => (if zK u q1 = 22 then if zN u q1 ≤ 3 then none else (if (zI u q1 3) ≤ x4 then (gX11_isDarkEnough_67 N  N x0 x2 x3 (0 : Int32) u)
  else (if zK u x0 = 12 then (Option.bind (zR u x0 20) fun q2 => (if zK u q2 = 22 then if zN u q2 ≤ 5 then none else (if zK u x0 = 12 then cl (fX11_burnsIn N x0 x4 (zI u q2 5) u) fun r3 u4 => (if r3 = 0 then (bs (x3 + (0 : Int32)) fun v5 => ((gX11_isDarkEnough_10 N  n) x0 x1 x2 v5 (x4 + (1 : Int32)) u4))
  else (cl (fX11_isOf N x1 x4 u4) fun r6 u7 => (if r6 = 0 then (if zK u7 x0 = 12 then cl (fX11_costOf N x0 x4 u7) fun r9 u10 => (bs (x3 + r9) fun v11 => ((gX11_isDarkEnough_10 N  n) x0 x1 x2 v11 (x4 + (1 : Int32)) u10)) else none)
  else (bs (x3 + (0 : Int32)) fun v8 => ((gX11_isDarkEnough_10 N  n) x0 x1 x2 v8 (x4 + (1 : Int32)) u7))))) else none) else none)) else none)) else none)) else none
set_option maxRecDepth 20000 in
set_option maxHeartbeats 4000000 in
theorem jgX11_isDarkEnough_10   {X : XT} (hX : Cx X yX11_isDarkEnough cX11_isDarkEnough 5 (some .boolean) 3 0 0) (N : Nat)  : ∀ (n : Nat) (x0 : Nat) (x1 : Int32) (x2 : Int32) (x3 : Int32) (x4 : Int32) (u : SG), JF X True 5 0 0 (jQ X vI 0 0) 10 [(0, .ref x0), (1, .int x1), (2, .int x2), (3, .int x3), (4, .int x4)] [] u (gX11_isDarkEnough_10 N   n x0 x1 x2 x3 x4 u) := by
  intro n
  induction n with
  | zero => intros; intro r u9 h9; exact absurd h9 (by simp [gX11_isDarkEnough_10])
  | succ n ih =>
    intro x0 x1 x2 x3 x4 u
    have hrec10 := ih
    rw [gX11_isDarkEnough_10]
    refine jf_iload hX dX11_isDarkEnough_10 4 rfl ?_
    refine jf_aload_n hX dX11_isDarkEnough_12 0 rfl ?_
    refine jf_getR hX ck_X11 20 wfl_31 (by decide) rfl dX11_isDarkEnough_13 ?_
    refine jf_nn (fun q1 => ?_)
    refine jf_iconst (v := 3) hX dX11_isDarkEnough_16 (by decide) ?_
    refine jf_ialdc 3 hX (by decide) (by decide) dX11_isDarkEnough_17 ?_
    refine jf_icmp_ge (tgt := 64) hX dX11_isDarkEnough_18 (by decide) ?_ ?_
    · refine jf_iconst (v := 0) hX dX11_isDarkEnough_64 (by decide) ?_
      refine jf_istore (lv' := [(4, .int (0 : Int32)), (0, .ref x0), (1, .int x1), (2, .int x2), (3, .int x3)]) hX dX11_isDarkEnough_65 (by decide) rfl ?_
      refine jf_lv [1, 3, 4, 0] rfl ?_
      exact jgX11_isDarkEnough_67 hX N  N x0 x2 x3 (0 : Int32) u
    · refine jf_iload_n hX dX11_isDarkEnough_21 3 rfl ?_
      refine jf_aload_n hX dX11_isDarkEnough_22 0 rfl ?_
      refine jf_iload hX dX11_isDarkEnough_23 4 rfl ?_
      refine jf_aload_n hX dX11_isDarkEnough_25 0 rfl ?_
      refine jf_getR hX ck_X11 20 wfl_31 (by decide) rfl dX11_isDarkEnough_26 ?_
      refine jf_nn (fun q2 => ?_)
      refine jf_iconst (v := 5) hX dX11_isDarkEnough_29 (by decide) ?_
      refine jf_ialdc 5 hX (by decide) (by decide) dX11_isDarkEnough_30 ?_
      refine jf_callV (As := [.int x4, .int (zI u q2 5)]) (st := [.int x3]) hX mo_X11_burnsIn wml_195 winst_196 wsel_197 11 ck_X11 rfl (fun l D cT z0 ks => kX11_burnsIn N l D cT z0 ks x0 x4 (zI u q2 5) u) (by decide) (by decide) (by decide) (by decide) (Nat.le_of_ble_eq_true rfl) rfl rfl dX11_isDarkEnough_31 (fun r3 u4 => ?_)
      refine jf_if_eq (tgt := 55) hX dX11_isDarkEnough_34 (by decide) ?_ ?_
      · refine jf_iconst (v := 0) hX dX11_isDarkEnough_55 (by decide) ?_
        refine jf_iadd hX dX11_isDarkEnough_56 ?_
        refine jf_nmI (fun v5 => ?_)
        refine jf_istore_n (lv' := [(3, .int v5), (0, .ref x0), (1, .int x1), (2, .int x2), (4, .int x4)]) hX dX11_isDarkEnough_57 rfl (by decide) rfl ?_
        refine jf_iinc (v := 1) (lv' := [(4, .int (x4 + (1 : Int32))), (3, .int v5), (0, .ref x0), (1, .int x1), (2, .int x2)]) hX dX11_isDarkEnough_58 4 rfl (by decide) (by decide) rfl ?_
        refine jf_goto (tgt := 10) hX dX11_isDarkEnough_61 (by decide) ?_
        refine jf_lv [2, 3, 4, 1, 0] rfl ?_
        exact hrec10 x0 x1 x2 v5 (x4 + (1 : Int32)) u4
      · refine jf_iload_n hX dX11_isDarkEnough_37 1 rfl ?_
        refine jf_iload hX dX11_isDarkEnough_38 4 rfl ?_
        refine jf_callS (As := [.int x1, .int x4]) (st := [.int x3]) hX mo_X11_isOf wml_273 wstat_274 rfl (fun l D cT z0 ks => kX11_isOf N l D cT z0 ks x1 x4 u4) (by decide) (by decide) (by decide) (by decide) (Nat.le_of_ble_eq_true rfl) rfl rfl dX11_isDarkEnough_40 (fun r6 u7 => ?_)
        refine jf_if_ne (tgt := 55) hX dX11_isDarkEnough_43 (by decide) ?_ ?_
        · refine jf_iconst (v := 0) hX dX11_isDarkEnough_55 (by decide) ?_
          refine jf_iadd hX dX11_isDarkEnough_56 ?_
          refine jf_nmI (fun v8 => ?_)
          refine jf_istore_n (lv' := [(3, .int v8), (0, .ref x0), (1, .int x1), (2, .int x2), (4, .int x4)]) hX dX11_isDarkEnough_57 rfl (by decide) rfl ?_
          refine jf_iinc (v := 1) (lv' := [(4, .int (x4 + (1 : Int32))), (3, .int v8), (0, .ref x0), (1, .int x1), (2, .int x2)]) hX dX11_isDarkEnough_58 4 rfl (by decide) (by decide) rfl ?_
          refine jf_goto (tgt := 10) hX dX11_isDarkEnough_61 (by decide) ?_
          refine jf_lv [2, 3, 4, 1, 0] rfl ?_
          exact hrec10 x0 x1 x2 v8 (x4 + (1 : Int32)) u7
        · refine jf_aload_n hX dX11_isDarkEnough_46 0 rfl ?_
          refine jf_iload hX dX11_isDarkEnough_47 4 rfl ?_
          refine jf_callV (As := [.int x4]) (st := [.int x3]) hX mo_X11_costOf wml_198 winst_199 wsel_200 11 ck_X11 rfl (fun l D cT z0 ks => kX11_costOf N l D cT z0 ks x0 x4 u7) (by decide) (by decide) (by decide) (by decide) (Nat.le_of_ble_eq_true rfl) rfl rfl dX11_isDarkEnough_49 (fun r9 u10 => ?_)
          refine jf_goto (tgt := 56) hX dX11_isDarkEnough_52 (by decide) ?_
          refine jf_iadd hX dX11_isDarkEnough_56 ?_
          refine jf_nmI (fun v11 => ?_)
          refine jf_istore_n (lv' := [(3, .int v11), (0, .ref x0), (1, .int x1), (2, .int x2), (4, .int x4)]) hX dX11_isDarkEnough_57 rfl (by decide) rfl ?_
          refine jf_iinc (v := 1) (lv' := [(4, .int (x4 + (1 : Int32))), (3, .int v11), (0, .ref x0), (1, .int x1), (2, .int x2)]) hX dX11_isDarkEnough_58 4 rfl (by decide) (by decide) rfl ?_
          refine jf_goto (tgt := 10) hX dX11_isDarkEnough_61 (by decide) ?_
          refine jf_lv [2, 3, 4, 1, 0] rfl ?_
          exact hrec10 x0 x1 x2 v11 (x4 + (1 : Int32)) u10
set_option maxRecDepth 20000 in
def fX11_isDarkEnough (N : Nat)  (a0 : Nat) (p1 : Int32) (u : SG) : Option (Int32 × SG) := if zK u a0 = 12 then cl (fX11_idle N a0 u) fun r1 u2 => (gX11_isDarkEnough_10 N  N a0 p1 r1 (0 : Int32) (0 : Int32) u2) else none
set_option maxRecDepth 20000 in
set_option maxHeartbeats 4000000 in
theorem kX11_isDarkEnough  (N : Nat)  (l : Launch) (D : va_G) (cT : Nat → ClassId) (z0 : Nat) (ks : Nat × Nat) (a0 : Nat) (p1 : Int32) (u : SG) : Ct l D cT z0 ks yX11_isDarkEnough cX11_isDarkEnough 5 (some .boolean) 3 0 0 vI [.ref a0, .int p1] u (fX11_isDarkEnough N  a0 p1 u) := by
  unfold fX11_isDarkEnough
  refine ct_of (by decide +kernel) (Nat.le_of_ble_eq_true rfl) (fun p e R s m args below meth c hX => ?_)
  show JF _ True 5 0 0 _ 0 [(0, .ref a0), (1, .int p1)] [] u _
  refine jf_aload_n hX dX11_isDarkEnough_0 0 rfl ?_
  refine jf_callV (As := []) (st := []) hX mo_X11_idle wml_287 winst_288 wsel_289 11 ck_X11 rfl (fun l D cT z0 ks => kX11_idle N l D cT z0 ks a0 u) (by decide) (by decide) (by decide) (by decide) (Nat.le_of_ble_eq_true rfl) rfl rfl dX11_isDarkEnough_1 (fun r1 u2 => ?_)
  refine jf_istore_n (lv' := [(2, .int r1), (0, .ref a0), (1, .int p1)]) hX dX11_isDarkEnough_4 rfl (by decide) rfl ?_
  refine jf_iconst (v := 0) hX dX11_isDarkEnough_5 (by decide) ?_
  refine jf_istore_n (lv' := [(3, .int (0 : Int32)), (2, .int r1), (0, .ref a0), (1, .int p1)]) hX dX11_isDarkEnough_6 rfl (by decide) rfl ?_
  refine jf_iconst (v := 0) hX dX11_isDarkEnough_7 (by decide) ?_
  refine jf_istore (lv' := [(4, .int (0 : Int32)), (3, .int (0 : Int32)), (2, .int r1), (0, .ref a0), (1, .int p1)]) hX dX11_isDarkEnough_8 (by decide) rfl ?_
  refine jf_lv [3, 4, 2, 1, 0] rfl ?_
  exact jgX11_isDarkEnough_10 hX N  N a0 p1 r1 (0 : Int32) (0 : Int32) u2
