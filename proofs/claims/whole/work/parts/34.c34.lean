theorem dX10_lives_0 : decode cX10_lives 0 = .ok (.aload_n 0, 1) := by decide +kernel
theorem dX10_lives_1 : decode cX10_lives 1 = .ok (.getfield 52, 3) := by decide +kernel
theorem dX10_lives_4 : decode cX10_lives 4 = .ok (.getfield 103, 3) := by decide +kernel
theorem dX10_lives_7 : decode cX10_lives 7 = .ok (.invokevirtual 175, 3) := by decide +kernel
theorem dX10_lives_10 : decode cX10_lives 10 = .ok (.ifCond .eq 21, 3) := by decide +kernel
theorem dX10_lives_13 : decode cX10_lives 13 = .ok (.iload_n 1, 1) := by decide +kernel
theorem dX10_lives_14 : decode cX10_lives 14 = .ok (.iconst 1, 1) := by decide +kernel
theorem dX10_lives_15 : decode cX10_lives 15 = .ok (.if_icmp .lt 16, 3) := by decide +kernel
theorem dX10_lives_18 : decode cX10_lives 18 = .ok (.iload_n 1, 1) := by decide +kernel
theorem dX10_lives_19 : decode cX10_lives 19 = .ok (.bipush 10, 2) := by decide +kernel
theorem dX10_lives_21 : decode cX10_lives 21 = .ok (.if_icmp .gt 10, 3) := by decide +kernel
theorem dX10_lives_24 : decode cX10_lives 24 = .ok (.iload_n 2, 1) := by decide +kernel
theorem dX10_lives_25 : decode cX10_lives 25 = .ok (.invokestatic 281, 3) := by decide +kernel
theorem dX10_lives_28 : decode cX10_lives 28 = .ok (.ifCond .ne 5, 3) := by decide +kernel
theorem dX10_lives_31 : decode cX10_lives 31 = .ok (.iconst (-1), 1) := by decide +kernel
theorem dX10_lives_32 : decode cX10_lives 32 = .ok (.ireturn, 1) := by decide +kernel
theorem dX10_lives_33 : decode cX10_lives 33 = .ok (.iload_n 3, 1) := by decide +kernel
theorem dX10_lives_34 : decode cX10_lives 34 = .ok (.ifCond .lt 20, 3) := by decide +kernel
theorem dX10_lives_37 : decode cX10_lives 37 = .ok (.iload_n 3, 1) := by decide +kernel
theorem dX10_lives_38 : decode cX10_lives 38 = .ok (.bipush 100, 2) := by decide +kernel
theorem dX10_lives_40 : decode cX10_lives 40 = .ok (.if_icmp .gt 14, 3) := by decide +kernel
theorem dX10_lives_43 : decode cX10_lives 43 = .ok (.iload 4, 2) := by decide +kernel
theorem dX10_lives_45 : decode cX10_lives 45 = .ok (.ifCond .lt 9, 3) := by decide +kernel
theorem dX10_lives_48 : decode cX10_lives 48 = .ok (.iload 4, 2) := by decide +kernel
theorem dX10_lives_50 : decode cX10_lives 50 = .ok (.iconst 1, 1) := by decide +kernel
theorem dX10_lives_51 : decode cX10_lives 51 = .ok (.if_icmp .le 5, 3) := by decide +kernel
theorem dX10_lives_54 : decode cX10_lives 54 = .ok (.iconst (-1), 1) := by decide +kernel
theorem dX10_lives_55 : decode cX10_lives 55 = .ok (.ireturn, 1) := by decide +kernel
theorem dX10_lives_56 : decode cX10_lives 56 = .ok (.aload_n 0, 1) := by decide +kernel
theorem dX10_lives_57 : decode cX10_lives 57 = .ok (.getfield 52, 3) := by decide +kernel
theorem dX10_lives_60 : decode cX10_lives 60 = .ok (.getfield 289, 3) := by decide +kernel
theorem dX10_lives_63 : decode cX10_lives 63 = .ok (.istore 5, 2) := by decide +kernel
theorem dX10_lives_65 : decode cX10_lives 65 = .ok (.iconst 0, 1) := by decide +kernel
theorem dX10_lives_66 : decode cX10_lives 66 = .ok (.istore 6, 2) := by decide +kernel
theorem dX10_lives_68 : decode cX10_lives 68 = .ok (.lconst 0, 1) := by decide +kernel
theorem dX10_lives_69 : decode cX10_lives 69 = .ok (.lstore 7, 2) := by decide +kernel
theorem dX10_lives_71 : decode cX10_lives 71 = .ok (.iconst 0, 1) := by decide +kernel
theorem dX10_lives_72 : decode cX10_lives 72 = .ok (.istore 9, 2) := by decide +kernel
theorem dX10_lives_74 : decode cX10_lives 74 = .ok (.iload 9, 2) := by decide +kernel
theorem dX10_lives_76 : decode cX10_lives 76 = .ok (.iload_n 1, 1) := by decide +kernel
theorem dX10_lives_77 : decode cX10_lives 77 = .ok (.if_icmp .ge 112, 3) := by decide +kernel
theorem dX10_lives_80 : decode cX10_lives 80 = .ok (.aload_n 0, 1) := by decide +kernel
theorem dX10_lives_81 : decode cX10_lives 81 = .ok (.getfield 77, 3) := by decide +kernel
theorem dX10_lives_84 : decode cX10_lives 84 = .ok (.aload_n 0, 1) := by decide +kernel
theorem dX10_lives_85 : decode cX10_lives 85 = .ok (.getfield 52, 3) := by decide +kernel
theorem dX10_lives_88 : decode cX10_lives 88 = .ok (.getfield 110, 3) := by decide +kernel
theorem dX10_lives_91 : decode cX10_lives 91 = .ok (.invokevirtual 225, 3) := by decide +kernel
theorem dX10_lives_94 : decode cX10_lives 94 = .ok (.iconst 0, 1) := by decide +kernel
theorem dX10_lives_95 : decode cX10_lives 95 = .ok (.istore 10, 2) := by decide +kernel
theorem dX10_lives_97 : decode cX10_lives 97 = .ok (.iload 10, 2) := by decide +kernel
theorem dX10_lives_99 : decode cX10_lives 99 = .ok (.iload_n 2, 1) := by decide +kernel
theorem dX10_lives_100 : decode cX10_lives 100 = .ok (.if_icmp .ge 56, 3) := by decide +kernel
theorem dX10_lives_103 : decode cX10_lives 103 = .ok (.aload_n 0, 1) := by decide +kernel
theorem dX10_lives_104 : decode cX10_lives 104 = .ok (.getfield 70, 3) := by decide +kernel
theorem dX10_lives_107 : decode cX10_lives 107 = .ok (.aload_n 0, 1) := by decide +kernel
theorem dX10_lives_108 : decode cX10_lives 108 = .ok (.getfield 52, 3) := by decide +kernel
theorem dX10_lives_111 : decode cX10_lives 111 = .ok (.getfield 103, 3) := by decide +kernel
theorem dX10_lives_114 : decode cX10_lives 114 = .ok (.aload_n 0, 1) := by decide +kernel
theorem dX10_lives_115 : decode cX10_lives 115 = .ok (.getfield 77, 3) := by decide +kernel
theorem dX10_lives_118 : decode cX10_lives 118 = .ok (.iload 5, 2) := by decide +kernel
theorem dX10_lives_120 : decode cX10_lives 120 = .ok (.iload_n 3, 1) := by decide +kernel
theorem dX10_lives_121 : decode cX10_lives 121 = .ok (.invokevirtual 292, 3) := by decide +kernel
theorem dX10_lives_124 : decode cX10_lives 124 = .ok (.istore 5, 2) := by decide +kernel
theorem dX10_lives_126 : decode cX10_lives 126 = .ok (.iload 6, 2) := by decide +kernel
theorem dX10_lives_128 : decode cX10_lives 128 = .ok (.aload_n 0, 1) := by decide +kernel
theorem dX10_lives_129 : decode cX10_lives 129 = .ok (.getfield 70, 3) := by decide +kernel
theorem dX10_lives_132 : decode cX10_lives 132 = .ok (.aload_n 0, 1) := by decide +kernel
theorem dX10_lives_133 : decode cX10_lives 133 = .ok (.getfield 52, 3) := by decide +kernel
theorem dX10_lives_136 : decode cX10_lives 136 = .ok (.getfield 103, 3) := by decide +kernel
theorem dX10_lives_139 : decode cX10_lives 139 = .ok (.aload_n 0, 1) := by decide +kernel
theorem dX10_lives_140 : decode cX10_lives 140 = .ok (.getfield 77, 3) := by decide +kernel
theorem dX10_lives_143 : decode cX10_lives 143 = .ok (.aconst_null, 1) := by decide +kernel
theorem dX10_lives_144 : decode cX10_lives 144 = .ok (.invokevirtual 190, 3) := by decide +kernel
theorem dX10_lives_147 : decode cX10_lives 147 = .ok (.iadd, 1) := by decide +kernel
theorem dX10_lives_148 : decode cX10_lives 148 = .ok (.istore 6, 2) := by decide +kernel
theorem dX10_lives_150 : decode cX10_lives 150 = .ok (.iinc 10 1, 3) := by decide +kernel
theorem dX10_lives_153 : decode cX10_lives 153 = .ok (.goto (-56), 3) := by decide +kernel
theorem dX10_lives_156 : decode cX10_lives 156 = .ok (.lload 7, 2) := by decide +kernel
theorem dX10_lives_158 : decode cX10_lives 158 = .ok (.aload_n 0, 1) := by decide +kernel
theorem dX10_lives_159 : decode cX10_lives 159 = .ok (.getfield 77, 3) := by decide +kernel
theorem dX10_lives_162 : decode cX10_lives 162 = .ok (.getfield 211, 3) := by decide +kernel
theorem dX10_lives_165 : decode cX10_lives 165 = .ok (.iconst 5, 1) := by decide +kernel
theorem dX10_lives_166 : decode cX10_lives 166 = .ok (.laload, 1) := by decide +kernel
theorem dX10_lives_167 : decode cX10_lives 167 = .ok (.aload_n 0, 1) := by decide +kernel
theorem dX10_lives_168 : decode cX10_lives 168 = .ok (.getfield 52, 3) := by decide +kernel
theorem dX10_lives_171 : decode cX10_lives 171 = .ok (.getfield 110, 3) := by decide +kernel
theorem dX10_lives_174 : decode cX10_lives 174 = .ok (.getfield 211, 3) := by decide +kernel
theorem dX10_lives_177 : decode cX10_lives 177 = .ok (.iconst 5, 1) := by decide +kernel
theorem dX10_lives_178 : decode cX10_lives 178 = .ok (.laload, 1) := by decide +kernel
theorem dX10_lives_179 : decode cX10_lives 179 = .ok (.lsub, 1) := by decide +kernel
theorem dX10_lives_180 : decode cX10_lives 180 = .ok (.ladd, 1) := by decide +kernel
theorem dX10_lives_181 : decode cX10_lives 181 = .ok (.lstore 7, 2) := by decide +kernel
theorem dX10_lives_183 : decode cX10_lives 183 = .ok (.iinc 9 1, 3) := by decide +kernel
theorem dX10_lives_186 : decode cX10_lives 186 = .ok (.goto (-112), 3) := by decide +kernel
theorem dX10_lives_189 : decode cX10_lives 189 = .ok (.iload 4, 2) := by decide +kernel
theorem dX10_lives_191 : decode cX10_lives 191 = .ok (.ifCond .ne 8, 3) := by decide +kernel
theorem dX10_lives_194 : decode cX10_lives 194 = .ok (.iload 6, 2) := by decide +kernel
theorem dX10_lives_196 : decode cX10_lives 196 = .ok (.goto 10, 3) := by decide +kernel
theorem dX10_lives_199 : decode cX10_lives 199 = .ok (.lload 7, 2) := by decide +kernel
theorem dX10_lives_201 : decode cX10_lives 201 = .ok (.ldc2_w 219, 3) := by decide +kernel
theorem dX10_lives_204 : decode cX10_lives 204 = .ok (.ldiv, 1) := by decide +kernel
theorem dX10_lives_205 : decode cX10_lives 205 = .ok (.l2i, 1) := by decide +kernel
theorem dX10_lives_206 : decode cX10_lives 206 = .ok (.ireturn, 1) := by decide +kernel
theorem dX10_count_0 : decode cX10_count 0 = .ok (.iload_n 1, 1) := by decide +kernel
theorem dX10_count_1 : decode cX10_count 1 = .ok (.tableswitch 235 0 15 #[79, 90, 101, 112, 123, 134, 139, 147, 158, 169, 180, 185, 200, 211, 219, 227], 79) := by decide +kernel
theorem dX10_count_80 : decode cX10_count 80 = .ok (.aload_n 0, 1) := by decide +kernel
theorem dX10_count_81 : decode cX10_count 81 = .ok (.getfield 52, 3) := by decide +kernel
theorem dX10_count_84 : decode cX10_count 84 = .ok (.getfield 103, 3) := by decide +kernel
theorem dX10_count_87 : decode cX10_count 87 = .ok (.getfield 296, 3) := by decide +kernel
theorem dX10_count_90 : decode cX10_count 90 = .ok (.ireturn, 1) := by decide +kernel
theorem dX10_count_91 : decode cX10_count 91 = .ok (.aload_n 0, 1) := by decide +kernel
theorem dX10_count_92 : decode cX10_count 92 = .ok (.getfield 52, 3) := by decide +kernel
theorem dX10_count_95 : decode cX10_count 95 = .ok (.getfield 103, 3) := by decide +kernel
theorem dX10_count_98 : decode cX10_count 98 = .ok (.getfield 124, 3) := by decide +kernel
theorem dX10_count_101 : decode cX10_count 101 = .ok (.ireturn, 1) := by decide +kernel
theorem dX10_count_102 : decode cX10_count 102 = .ok (.aload_n 0, 1) := by decide +kernel
theorem dX10_count_103 : decode cX10_count 103 = .ok (.getfield 52, 3) := by decide +kernel
theorem dX10_count_106 : decode cX10_count 106 = .ok (.getfield 103, 3) := by decide +kernel
theorem dX10_count_109 : decode cX10_count 109 = .ok (.getfield 299, 3) := by decide +kernel
theorem dX10_count_112 : decode cX10_count 112 = .ok (.ireturn, 1) := by decide +kernel
theorem dX10_count_113 : decode cX10_count 113 = .ok (.aload_n 0, 1) := by decide +kernel
theorem dX10_count_114 : decode cX10_count 114 = .ok (.getfield 52, 3) := by decide +kernel
theorem dX10_count_117 : decode cX10_count 117 = .ok (.getfield 103, 3) := by decide +kernel
theorem dX10_count_120 : decode cX10_count 120 = .ok (.getfield 302, 3) := by decide +kernel
theorem dX10_count_123 : decode cX10_count 123 = .ok (.ireturn, 1) := by decide +kernel
theorem dX10_count_124 : decode cX10_count 124 = .ok (.aload_n 0, 1) := by decide +kernel
theorem dX10_count_125 : decode cX10_count 125 = .ok (.getfield 52, 3) := by decide +kernel
theorem dX10_count_128 : decode cX10_count 128 = .ok (.getfield 103, 3) := by decide +kernel
theorem dX10_count_131 : decode cX10_count 131 = .ok (.getfield 305, 3) := by decide +kernel
theorem dX10_count_134 : decode cX10_count 134 = .ok (.ireturn, 1) := by decide +kernel
theorem dX10_count_135 : decode cX10_count 135 = .ok (.aload_n 0, 1) := by decide +kernel
theorem dX10_count_136 : decode cX10_count 136 = .ok (.getfield 45, 3) := by decide +kernel
theorem dX10_count_139 : decode cX10_count 139 = .ok (.ireturn, 1) := by decide +kernel
theorem dX10_count_140 : decode cX10_count 140 = .ok (.aload_n 0, 1) := by decide +kernel
theorem dX10_count_141 : decode cX10_count 141 = .ok (.getfield 52, 3) := by decide +kernel
theorem dX10_count_144 : decode cX10_count 144 = .ok (.getfield 135, 3) := by decide +kernel
theorem dX10_count_147 : decode cX10_count 147 = .ok (.ireturn, 1) := by decide +kernel
theorem dX10_count_148 : decode cX10_count 148 = .ok (.aload_n 0, 1) := by decide +kernel
theorem dX10_count_149 : decode cX10_count 149 = .ok (.getfield 52, 3) := by decide +kernel
theorem dX10_count_152 : decode cX10_count 152 = .ok (.getfield 110, 3) := by decide +kernel
theorem dX10_count_155 : decode cX10_count 155 = .ok (.getfield 308, 3) := by decide +kernel
theorem dX10_count_158 : decode cX10_count 158 = .ok (.ireturn, 1) := by decide +kernel
theorem dX10_count_159 : decode cX10_count 159 = .ok (.aload_n 0, 1) := by decide +kernel
theorem dX10_count_160 : decode cX10_count 160 = .ok (.getfield 52, 3) := by decide +kernel
theorem dX10_count_163 : decode cX10_count 163 = .ok (.getfield 110, 3) := by decide +kernel
theorem dX10_count_166 : decode cX10_count 166 = .ok (.getfield 311, 3) := by decide +kernel
theorem dX10_count_169 : decode cX10_count 169 = .ok (.ireturn, 1) := by decide +kernel
theorem dX10_count_170 : decode cX10_count 170 = .ok (.aload_n 0, 1) := by decide +kernel
theorem dX10_count_171 : decode cX10_count 171 = .ok (.getfield 52, 3) := by decide +kernel
theorem dX10_count_174 : decode cX10_count 174 = .ok (.getfield 110, 3) := by decide +kernel
theorem dX10_count_177 : decode cX10_count 177 = .ok (.getfield 147, 3) := by decide +kernel
theorem dX10_count_180 : decode cX10_count 180 = .ok (.ireturn, 1) := by decide +kernel
theorem dX10_count_181 : decode cX10_count 181 = .ok (.aload_n 0, 1) := by decide +kernel
theorem dX10_count_182 : decode cX10_count 182 = .ok (.invokevirtual 172, 3) := by decide +kernel
theorem dX10_count_185 : decode cX10_count 185 = .ok (.ireturn, 1) := by decide +kernel
theorem dX10_count_186 : decode cX10_count 186 = .ok (.aload_n 0, 1) := by decide +kernel
theorem dX10_count_187 : decode cX10_count 187 = .ok (.getfield 52, 3) := by decide +kernel
theorem dX10_count_190 : decode cX10_count 190 = .ok (.getfield 103, 3) := by decide +kernel
theorem dX10_count_193 : decode cX10_count 193 = .ok (.aload_n 0, 1) := by decide +kernel
theorem dX10_count_194 : decode cX10_count 194 = .ok (.invokevirtual 172, 3) := by decide +kernel
theorem dX10_count_197 : decode cX10_count 197 = .ok (.invokevirtual 237, 3) := by decide +kernel
theorem dX10_count_200 : decode cX10_count 200 = .ok (.ireturn, 1) := by decide +kernel
theorem dX10_count_201 : decode cX10_count 201 = .ok (.aload_n 0, 1) := by decide +kernel
theorem dX10_count_202 : decode cX10_count 202 = .ok (.getfield 52, 3) := by decide +kernel
theorem dX10_count_205 : decode cX10_count 205 = .ok (.getfield 116, 3) := by decide +kernel
theorem dX10_count_208 : decode cX10_count 208 = .ok (.getfield 259, 3) := by decide +kernel
theorem dX10_count_211 : decode cX10_count 211 = .ok (.ireturn, 1) := by decide +kernel
theorem dX10_count_212 : decode cX10_count 212 = .ok (.aload_n 0, 1) := by decide +kernel
theorem dX10_count_213 : decode cX10_count 213 = .ok (.getfield 63, 3) := by decide +kernel
theorem dX10_count_216 : decode cX10_count 216 = .ok (.getfield 202, 3) := by decide +kernel
theorem dX10_count_219 : decode cX10_count 219 = .ok (.ireturn, 1) := by decide +kernel
theorem dX10_count_220 : decode cX10_count 220 = .ok (.aload_n 0, 1) := by decide +kernel
theorem dX10_count_221 : decode cX10_count 221 = .ok (.getfield 52, 3) := by decide +kernel
theorem dX10_count_224 : decode cX10_count 224 = .ok (.getfield 289, 3) := by decide +kernel
theorem dX10_count_227 : decode cX10_count 227 = .ok (.ireturn, 1) := by decide +kernel
theorem dX10_count_228 : decode cX10_count 228 = .ok (.aload_n 0, 1) := by decide +kernel
theorem dX10_count_229 : decode cX10_count 229 = .ok (.getfield 12, 3) := by decide +kernel
theorem dX10_count_232 : decode cX10_count 232 = .ok (.getfield 96, 3) := by decide +kernel
theorem dX10_count_235 : decode cX10_count 235 = .ok (.ireturn, 1) := by decide +kernel
theorem dX10_count_236 : decode cX10_count 236 = .ok (.iconst (-1), 1) := by decide +kernel
theorem dX10_count_237 : decode cX10_count 237 = .ok (.ireturn, 1) := by decide +kernel
theorem dX10_image_0 : decode cX10_image 0 = .ok (.iload_n 1, 1) := by decide +kernel
theorem dX10_image_1 : decode cX10_image 1 = .ok (.ifCond .lt 8, 3) := by decide +kernel
theorem dX10_image_4 : decode cX10_image 4 = .ok (.iload_n 1, 1) := by decide +kernel
theorem dX10_image_5 : decode cX10_image 5 = .ok (.iconst 4, 1) := by decide +kernel
theorem dX10_image_6 : decode cX10_image 6 = .ok (.if_icmp .lt 5, 3) := by decide +kernel
theorem dX10_image_9 : decode cX10_image 9 = .ok (.iconst (-1), 1) := by decide +kernel
theorem dX10_image_10 : decode cX10_image 10 = .ok (.ireturn, 1) := by decide +kernel
theorem dX10_image_11 : decode cX10_image 11 = .ok (.aload_n 0, 1) := by decide +kernel
theorem dX10_image_12 : decode cX10_image 12 = .ok (.getfield 56, 3) := by decide +kernel
theorem dX10_image_15 : decode cX10_image 15 = .ok (.iload_n 1, 1) := by decide +kernel
theorem dX10_image_16 : decode cX10_image 16 = .ok (.aaload, 1) := by decide +kernel
theorem dX10_image_17 : decode cX10_image 17 = .ok (.aload_n 0, 1) := by decide +kernel
theorem dX10_image_18 : decode cX10_image 18 = .ok (.getfield 52, 3) := by decide +kernel
theorem dX10_image_21 : decode cX10_image 21 = .ok (.invokevirtual 314, 3) := by decide +kernel
theorem dX10_image_24 : decode cX10_image 24 = .ok (.aload_n 0, 1) := by decide +kernel
theorem dX10_image_25 : decode cX10_image 25 = .ok (.getfield 56, 3) := by decide +kernel
theorem dX10_image_28 : decode cX10_image 28 = .ok (.iload_n 1, 1) := by decide +kernel
theorem dX10_image_29 : decode cX10_image 29 = .ok (.aaload, 1) := by decide +kernel
theorem dX10_image_30 : decode cX10_image 30 = .ok (.iconst 1, 1) := by decide +kernel
theorem dX10_image_31 : decode cX10_image 31 = .ok (.putfield 317, 3) := by decide +kernel
theorem dX10_image_34 : decode cX10_image 34 = .ok (.aload_n 0, 1) := by decide +kernel
theorem dX10_image_35 : decode cX10_image 35 = .ok (.getfield 52, 3) := by decide +kernel
theorem dX10_image_38 : decode cX10_image 38 = .ok (.getfield 110, 3) := by decide +kernel
theorem dX10_image_41 : decode cX10_image 41 = .ok (.getfield 311, 3) := by decide +kernel
theorem dX10_image_44 : decode cX10_image 44 = .ok (.ireturn, 1) := by decide +kernel
theorem dX10_back_0 : decode cX10_back 0 = .ok (.iload_n 1, 1) := by decide +kernel
theorem dX10_back_1 : decode cX10_back 1 = .ok (.ifCond .lt 20, 3) := by decide +kernel
theorem dX10_back_4 : decode cX10_back 4 = .ok (.iload_n 1, 1) := by decide +kernel
theorem dX10_back_5 : decode cX10_back 5 = .ok (.iconst 4, 1) := by decide +kernel
theorem dX10_back_6 : decode cX10_back 6 = .ok (.if_icmp .ge 15, 3) := by decide +kernel
theorem dX10_back_9 : decode cX10_back 9 = .ok (.aload_n 0, 1) := by decide +kernel
theorem dX10_back_10 : decode cX10_back 10 = .ok (.getfield 56, 3) := by decide +kernel
theorem dX10_back_13 : decode cX10_back 13 = .ok (.iload_n 1, 1) := by decide +kernel
theorem dX10_back_14 : decode cX10_back 14 = .ok (.aaload, 1) := by decide +kernel
theorem dX10_back_15 : decode cX10_back 15 = .ok (.getfield 317, 3) := by decide +kernel
theorem dX10_back_18 : decode cX10_back 18 = .ok (.ifCond .ne 5, 3) := by decide +kernel
theorem dX10_back_21 : decode cX10_back 21 = .ok (.iconst (-1), 1) := by decide +kernel
theorem dX10_back_22 : decode cX10_back 22 = .ok (.ireturn, 1) := by decide +kernel
theorem dX10_back_23 : decode cX10_back 23 = .ok (.aload_n 0, 1) := by decide +kernel
theorem dX10_back_24 : decode cX10_back 24 = .ok (.getfield 52, 3) := by decide +kernel
theorem dX10_back_27 : decode cX10_back 27 = .ok (.aload_n 0, 1) := by decide +kernel
theorem dX10_back_28 : decode cX10_back 28 = .ok (.getfield 56, 3) := by decide +kernel
theorem dX10_back_31 : decode cX10_back 31 = .ok (.iload_n 1, 1) := by decide +kernel
theorem dX10_back_32 : decode cX10_back 32 = .ok (.aaload, 1) := by decide +kernel
theorem dX10_back_33 : decode cX10_back 33 = .ok (.invokevirtual 314, 3) := by decide +kernel
theorem dX10_back_36 : decode cX10_back 36 = .ok (.aload_n 0, 1) := by decide +kernel
theorem dX10_back_37 : decode cX10_back 37 = .ok (.getfield 63, 3) := by decide +kernel
theorem dX10_back_40 : decode cX10_back 40 = .ok (.invokevirtual 123, 3) := by decide +kernel
theorem dX10_back_43 : decode cX10_back 43 = .ok (.aload_n 0, 1) := by decide +kernel
theorem dX10_back_44 : decode cX10_back 44 = .ok (.getfield 52, 3) := by decide +kernel
theorem dX10_back_47 : decode cX10_back 47 = .ok (.getfield 110, 3) := by decide +kernel
theorem dX10_back_50 : decode cX10_back 50 = .ok (.getfield 311, 3) := by decide +kernel
theorem dX10_back_53 : decode cX10_back 53 = .ok (.ireturn, 1) := by decide +kernel
set_option maxRecDepth 20000 in
def gX10_lives_97 (N : Nat)  (rec74 : Nat → Int32 → Int32 → Int32 → Int32 → Int32 → Int32 → Int64 → Int32 → SG → Option (Int32 × SG)) : Nat → Nat → Int32 → Int32 → Int32 → Int32 → Int32 → Int32 → Int64 → Int32 → Int32 → SG → Option (Int32 × SG)
  | 0, _, _, _, _, _, _, _, _, _, _, _ => none
  | n + 1, x0, x1, x2, x3, x4, x5, x6, x7, x9, x10, u => if x2 ≤ x10 then (if zK u x0 = 11 then (Option.bind (zR u x0 10) fun q1 => (if zK u q1 = 3 then (Option.bind (zR u q1 7) fun q2 => (if zK u q2 = 23 then if zN u q2 ≤ 5 then none else (if zK u x0 = 11 then (Option.bind (zR u x0 6) fun q3 => (if zK u q3 = 7 then (Option.bind (zR u q3 1) fun q4 => (if zK u q4 = 3 then (Option.bind (zR u q4 7) fun q5 => (if zK u q5 = 23 then if zN u q5 ≤ 5 then none else (bs (x7 + ((zL u q2 5) - (zL u q5 5))) fun v6 => (rec74 x0 x1 x2 x3 x4 x5 x6 v6 (x9 + (1 : Int32)) u)) else none)) else none)) else none)) else none) else none)) else none)) else none)
  else (if zK u x0 = 11 then (Option.bind (zR u x0 9) fun q7 => (if zK u x0 = 11 then (Option.bind (zR u x0 6) fun q8 => (if zK u q8 = 7 then (Option.bind (zR u q8 0) fun q9 => (if zK u x0 = 11 then (Option.bind (zR u x0 10) fun q10 => (if zK u q7 = 4 then cl (fX3_draw N q7 q9 q10 x5 x3 u) fun r11 u12 => (if zK u12 x0 = 11 then (Option.bind (zR u12 x0 9) fun q13 => (if zK u12 x0 = 11 then (Option.bind (zR u12 x0 6) fun q14 => (if zK u12 q14 = 7 then (Option.bind (zR u12 q14 0) fun q15 => (if zK u12 x0 = 11 then (Option.bind (zR u12 x0 10) fun q16 => (if zK u12 q13 = 4 then cl (fX3_play N q13 q15 q16 none u12) fun r17 u18 => (bs (x6 + r17) fun v19 => ((gX10_lives_97 N rec74 n) x0 x1 x2 x3 x4 r11 v19 x7 x9 (x10 + (1 : Int32)) u18)) else none)) else none)) else none)) else none)) else none) else none)) else none)) else none)) else none)) else none)
set_option maxRecDepth 20000 in
set_option maxHeartbeats 4000000 in
theorem jgX10_lives_97 {rec74 : Nat → Int32 → Int32 → Int32 → Int32 → Int32 → Int32 → Int64 → Int32 → SG → Option (Int32 × SG)}  {X : XT} (hX : Cx X yX10_lives cX10_lives 11 (some .int) 6 0 0) (N : Nat) (hrec74 : ∀ (x0 : Nat) (x1 : Int32) (x2 : Int32) (x3 : Int32) (x4 : Int32) (x5 : Int32) (x6 : Int32) (x7 : Int64) (x9 : Int32)  (u : SG), JF X True 11 0 0 (jQ X vI 0 0) 74 [(0, .ref x0), (1, .int x1), (2, .int x2), (3, .int x3), (4, .int x4), (5, .int x5), (6, .int x6), (7, .long x7), (9, .int x9)] [] u (rec74 x0 x1 x2 x3 x4 x5 x6 x7 x9  u)) : ∀ (n : Nat) (x0 : Nat) (x1 : Int32) (x2 : Int32) (x3 : Int32) (x4 : Int32) (x5 : Int32) (x6 : Int32) (x7 : Int64) (x9 : Int32) (x10 : Int32) (u : SG), JF X True 11 0 0 (jQ X vI 0 0) 97 [(0, .ref x0), (1, .int x1), (2, .int x2), (3, .int x3), (4, .int x4), (5, .int x5), (6, .int x6), (7, .long x7), (9, .int x9), (10, .int x10)] [] u (gX10_lives_97 N  rec74 n x0 x1 x2 x3 x4 x5 x6 x7 x9 x10 u) := by
  intro n
  induction n with
  | zero => intros; intro r u9 h9; exact absurd h9 (by simp [gX10_lives_97])
  | succ n ih =>
    intro x0 x1 x2 x3 x4 x5 x6 x7 x9 x10 u
    have hrec97 := ih
    rw [gX10_lives_97]
    refine jf_iload hX dX10_lives_97 9 rfl ?_
    refine jf_iload_n hX dX10_lives_99 2 rfl ?_
    refine jf_icmp_ge (tgt := 156) hX dX10_lives_100 (by decide) ?_ ?_
    · refine jf_lload hX dX10_lives_156 7 rfl ?_
      refine jf_aload_n hX dX10_lives_158 0 rfl ?_
      refine jf_getR hX ck_X10 10 wfl_704 (by decide) rfl dX10_lives_159 ?_
      refine jf_nn (fun q1 => ?_)
      refine jf_getR hX ck_X2 7 wfl_790 (by decide) rfl dX10_lives_162 ?_
      refine jf_nn (fun q2 => ?_)
      refine jf_iconst (v := 5) hX dX10_lives_165 (by decide) ?_
      refine jf_laldc 5 hX (by decide) (by decide) dX10_lives_166 ?_
      refine jf_aload_n hX dX10_lives_167 0 rfl ?_
      refine jf_getR hX ck_X10 6 wfl_687 (by decide) rfl dX10_lives_168 ?_
      refine jf_nn (fun q3 => ?_)
      refine jf_getR hX ck_X6 1 wfl_719 (by decide) rfl dX10_lives_171 ?_
      refine jf_nn (fun q4 => ?_)
      refine jf_getR hX ck_X2 7 wfl_790 (by decide) rfl dX10_lives_174 ?_
      refine jf_nn (fun q5 => ?_)
      refine jf_iconst (v := 5) hX dX10_lives_177 (by decide) ?_
      refine jf_laldc 5 hX (by decide) (by decide) dX10_lives_178 ?_
      refine jf_lsub hX dX10_lives_179 ?_
      refine jf_ladd hX dX10_lives_180 ?_
      refine jf_nmL (fun v6 => ?_)
      refine jf_lstore (lv' := [(7, .long v6), (0, .ref x0), (1, .int x1), (2, .int x2), (3, .int x3), (4, .int x4), (5, .int x5), (6, .int x6), (9, .int x9), (10, .int x10)]) hX dX10_lives_181 (by decide) rfl ?_
      refine jf_iinc (v := 1) (lv' := [(9, .int (x9 + (1 : Int32))), (7, .long v6), (0, .ref x0), (1, .int x1), (2, .int x2), (3, .int x3), (4, .int x4), (5, .int x5), (6, .int x6), (10, .int x10)]) hX dX10_lives_183 8 rfl (by decide) (by decide) rfl ?_
      refine jf_goto (tgt := 74) hX dX10_lives_186 (by decide) ?_
      refine jf_lv [2, 3, 4, 5, 6, 7, 8, 1, 0] rfl ?_
      exact hrec74 x0 x1 x2 x3 x4 x5 x6 v6 (x9 + (1 : Int32)) u
    · refine jf_aload_n hX dX10_lives_103 0 rfl ?_
      refine jf_getR hX ck_X10 9 wfl_701 (by decide) rfl dX10_lives_104 ?_
      refine jf_nn (fun q7 => ?_)
      refine jf_aload_n hX dX10_lives_107 0 rfl ?_
      refine jf_getR hX ck_X10 6 wfl_687 (by decide) rfl dX10_lives_108 ?_
      refine jf_nn (fun q8 => ?_)
      refine jf_getR hX ck_X6 0 wfl_717 (by decide) rfl dX10_lives_111 ?_
      refine jf_nn (fun q9 => ?_)
      refine jf_aload_n hX dX10_lives_114 0 rfl ?_
      refine jf_getR hX ck_X10 10 wfl_704 (by decide) rfl dX10_lives_115 ?_
      refine jf_nn (fun q10 => ?_)
      refine jf_iload hX dX10_lives_118 5 rfl ?_
      refine jf_iload_n hX dX10_lives_120 3 rfl ?_
      refine jf_callV (As := [.ref q9, .ref q10, .int x5, .int x3]) (st := []) hX mo_X3_draw wml_851 winst_852 wsel_853 3 ck_X3 rfl (fun l D cT z0 ks => kX3_draw N l D cT z0 ks q7 q9 q10 x5 x3 u) (by decide) (by decide) (by decide) (by decide) (Nat.le_of_ble_eq_true rfl) rfl rfl dX10_lives_121 (fun r11 u12 => ?_)
      refine jf_istore (lv' := [(5, .int r11), (0, .ref x0), (1, .int x1), (2, .int x2), (3, .int x3), (4, .int x4), (6, .int x6), (7, .long x7), (9, .int x9), (10, .int x10)]) hX dX10_lives_124 (by decide) rfl ?_
      refine jf_iload hX dX10_lives_126 6 rfl ?_
      refine jf_aload_n hX dX10_lives_128 1 rfl ?_
      refine jf_getR hX ck_X10 9 wfl_701 (by decide) rfl dX10_lives_129 ?_
      refine jf_nn (fun q13 => ?_)
      refine jf_aload_n hX dX10_lives_132 1 rfl ?_
      refine jf_getR hX ck_X10 6 wfl_687 (by decide) rfl dX10_lives_133 ?_
      refine jf_nn (fun q14 => ?_)
      refine jf_getR hX ck_X6 0 wfl_717 (by decide) rfl dX10_lives_136 ?_
      refine jf_nn (fun q15 => ?_)
      refine jf_aload_n hX dX10_lives_139 1 rfl ?_
      refine jf_getR hX ck_X10 10 wfl_704 (by decide) rfl dX10_lives_140 ?_
      refine jf_nn (fun q16 => ?_)
      refine jf_null hX dX10_lives_143 ?_
      refine jf_callV (As := [.ref q15, .ref q16, va_rf none]) (st := [.int x6]) hX mo_X3_play wml_773 winst_774 wsel_775 3 ck_X3 rfl (fun l D cT z0 ks => kX3_play N l D cT z0 ks q13 q15 q16 none u12) (by decide) (by decide) (by decide) (by decide) (Nat.le_of_ble_eq_true rfl) rfl rfl dX10_lives_144 (fun r17 u18 => ?_)
      refine jf_iadd hX dX10_lives_147 ?_
      refine jf_nmI (fun v19 => ?_)
      refine jf_istore (lv' := [(6, .int v19), (5, .int r11), (0, .ref x0), (1, .int x1), (2, .int x2), (3, .int x3), (4, .int x4), (7, .long x7), (9, .int x9), (10, .int x10)]) hX dX10_lives_148 (by decide) rfl ?_
      refine jf_iinc (v := 1) (lv' := [(10, .int (x10 + (1 : Int32))), (6, .int v19), (5, .int r11), (0, .ref x0), (1, .int x1), (2, .int x2), (3, .int x3), (4, .int x4), (7, .long x7), (9, .int x9)]) hX dX10_lives_150 9 rfl (by decide) (by decide) rfl ?_
      refine jf_goto (tgt := 97) hX dX10_lives_153 (by decide) ?_
      refine jf_lv [3, 4, 5, 6, 7, 2, 1, 8, 9, 0] rfl ?_
      exact hrec97 x0 x1 x2 x3 x4 r11 v19 x7 x9 (x10 + (1 : Int32)) u18
set_option maxRecDepth 20000 in
def gX10_lives_74 (N : Nat)   : Nat → Nat → Int32 → Int32 → Int32 → Int32 → Int32 → Int32 → Int64 → Int32 → SG → Option (Int32 × SG)
  | 0, _, _, _, _, _, _, _, _, _, _ => none
  | n + 1, x0, x1, x2, x3, x4, x5, x6, x7, x9, u => if x1 ≤ x9 then (if x4 = 0 then (some (x6, u))
  else (if (60 : Int64) = 0 then none else (some ((x7 / (60 : Int64)).toInt32, u))))
  else (if zK u x0 = 11 then (Option.bind (zR u x0 10) fun q1 => (if zK u x0 = 11 then (Option.bind (zR u x0 6) fun q2 => (if zK u q2 = 7 then (Option.bind (zR u q2 1) fun q3 => (if zK u q1 = 3 then cl (fX2_copyOf N q1 q3 u) fun r4 u5 => (gX10_lives_97 N (gX10_lives_74 N  n) N x0 x1 x2 x3 x4 x5 x6 x7 x9 (0 : Int32) u5) else none)) else none)) else none)) else none)
set_option maxRecDepth 20000 in
set_option maxHeartbeats 4000000 in
theorem jgX10_lives_74   {X : XT} (hX : Cx X yX10_lives cX10_lives 11 (some .int) 6 0 0) (N : Nat)  : ∀ (n : Nat) (x0 : Nat) (x1 : Int32) (x2 : Int32) (x3 : Int32) (x4 : Int32) (x5 : Int32) (x6 : Int32) (x7 : Int64) (x9 : Int32) (u : SG), JF X True 11 0 0 (jQ X vI 0 0) 74 [(0, .ref x0), (1, .int x1), (2, .int x2), (3, .int x3), (4, .int x4), (5, .int x5), (6, .int x6), (7, .long x7), (9, .int x9)] [] u (gX10_lives_74 N   n x0 x1 x2 x3 x4 x5 x6 x7 x9 u) := by
  intro n
  induction n with
  | zero => intros; intro r u9 h9; exact absurd h9 (by simp [gX10_lives_74])
  | succ n ih =>
    intro x0 x1 x2 x3 x4 x5 x6 x7 x9 u
    have hrec74 := ih
    rw [gX10_lives_74]
    refine jf_iload hX dX10_lives_74 8 rfl ?_
    refine jf_iload_n hX dX10_lives_76 1 rfl ?_
    refine jf_icmp_ge (tgt := 189) hX dX10_lives_77 (by decide) ?_ ?_
    · refine jf_iload hX dX10_lives_189 4 rfl ?_
      refine jf_if_ne (tgt := 199) hX dX10_lives_191 (by decide) ?_ ?_
      · refine jf_lload hX dX10_lives_199 7 rfl ?_
        refine jf_ldc2 (v := 60) hX dX10_lives_201 wconl_793 ?_
        refine jf_ldiv hX dX10_lives_204 ?_
        refine jf_l2i hX dX10_lives_205 ?_
        exact jf_iret hX rfl (by decide) (by decide) dX10_lives_206
      · refine jf_iload hX dX10_lives_194 6 rfl ?_
        refine jf_goto (tgt := 206) hX dX10_lives_196 (by decide) ?_
        exact jf_iret hX rfl (by decide) (by decide) dX10_lives_206
    · refine jf_aload_n hX dX10_lives_80 0 rfl ?_
      refine jf_getR hX ck_X10 10 wfl_704 (by decide) rfl dX10_lives_81 ?_
      refine jf_nn (fun q1 => ?_)
      refine jf_aload_n hX dX10_lives_84 0 rfl ?_
      refine jf_getR hX ck_X10 6 wfl_687 (by decide) rfl dX10_lives_85 ?_
      refine jf_nn (fun q2 => ?_)
      refine jf_getR hX ck_X6 1 wfl_719 (by decide) rfl dX10_lives_88 ?_
      refine jf_nn (fun q3 => ?_)
      refine jf_callV (As := [.ref q3]) (st := []) hX mo_X2_copyOf wml_796 winst_364 wsel_365 2 ck_X2 rfl (fun l D cT z0 ks => kX2_copyOf N l D cT z0 ks q1 q3 u) (by decide) (by decide) (by decide) (by decide) (Nat.le_of_ble_eq_true rfl) rfl rfl dX10_lives_91 (fun r4 u5 => ?_)
      refine jf_iconst (v := 0) hX dX10_lives_94 (by decide) ?_
      refine jf_istore (lv' := [(10, .int (0 : Int32)), (0, .ref x0), (1, .int x1), (2, .int x2), (3, .int x3), (4, .int x4), (5, .int x5), (6, .int x6), (7, .long x7), (9, .int x9)]) hX dX10_lives_95 (by decide) rfl ?_
      refine jf_lv [1, 2, 3, 4, 5, 6, 7, 8, 9, 0] rfl ?_
      exact jgX10_lives_97 hX N hrec74 N x0 x1 x2 x3 x4 x5 x6 x7 x9 (0 : Int32) u5
set_option maxRecDepth 20000 in
def fX10_lives (N : Nat)  (a0 : Nat) (p1 : Int32) (p2 : Int32) (p3 : Int32) (p4 : Int32) (u : SG) : Option (Int32 × SG) := if zK u a0 = 11 then (Option.bind (zR u a0 6) fun q1 => (if zK u q1 = 7 then (Option.bind (zR u q1 0) fun q2 => (if zK u q2 = 8 then cl (fX7_isTold N q2 u) fun r3 u4 => (if r3 = 0 then (some ((-1 : Int32), u4))
  else (if p1 < (1 : Int32) then (some ((-1 : Int32), u4))
  else (if (10 : Int32) < p1 then (some ((-1 : Int32), u4))
  else (cl (fX10_isSpan N p2 u4) fun r5 u6 => (if r5 = 0 then (some ((-1 : Int32), u6))
  else (if p3 < 0 then (some ((-1 : Int32), u6))
  else (if (100 : Int32) < p3 then (some ((-1 : Int32), u6))
  else (if p4 < 0 then (some ((-1 : Int32), u6))
  else (if p4 ≤ (1 : Int32) then (if zK u6 a0 = 11 then (Option.bind (zR u6 a0 6) fun q7 => (if zK u6 q7 = 7 then (bs (zI u6 q7 4) fun v8 => (gX10_lives_74 N  N a0 p1 p2 p3 p4 v8 (0 : Int32) (0 : Int64) (0 : Int32) u6)) else none)) else none)
  else (some ((-1 : Int32), u6))))))))))) else none)) else none)) else none
set_option maxRecDepth 20000 in
set_option maxHeartbeats 4000000 in
theorem kX10_lives  (N : Nat)  (l : Launch) (D : va_G) (cT : Nat → ClassId) (z0 : Nat) (ks : Nat × Nat) (a0 : Nat) (p1 : Int32) (p2 : Int32) (p3 : Int32) (p4 : Int32) (u : SG) : Ct l D cT z0 ks yX10_lives cX10_lives 11 (some .int) 6 0 0 vI [.ref a0, .int p1, .int p2, .int p3, .int p4] u (fX10_lives N  a0 p1 p2 p3 p4 u) := by
  unfold fX10_lives
  refine ct_of (by decide +kernel) (Nat.le_of_ble_eq_true rfl) (fun p e R s m args below meth c hX => ?_)
  show JF _ True 11 0 0 _ 0 [(0, .ref a0), (1, .int p1), (2, .int p2), (3, .int p3), (4, .int p4)] [] u _
  refine jf_aload_n hX dX10_lives_0 0 rfl ?_
  refine jf_getR hX ck_X10 6 wfl_687 (by decide) rfl dX10_lives_1 ?_
  refine jf_nn (fun q1 => ?_)
  refine jf_getR hX ck_X6 0 wfl_717 (by decide) rfl dX10_lives_4 ?_
  refine jf_nn (fun q2 => ?_)
  refine jf_callV (As := []) (st := []) hX mo_X7_isTold wml_761 winst_762 wsel_763 7 ck_X7 rfl (fun l D cT z0 ks => kX7_isTold N l D cT z0 ks q2 u) (by decide) (by decide) (by decide) (by decide) (Nat.le_of_ble_eq_true rfl) rfl rfl dX10_lives_7 (fun r3 u4 => ?_)
  refine jf_if_eq (tgt := 31) hX dX10_lives_10 (by decide) ?_ ?_
  · refine jf_iconst (v := -1) hX dX10_lives_31 (by decide) ?_
    exact jf_iret hX rfl (by decide) (by decide) dX10_lives_32
  · refine jf_iload_n hX dX10_lives_13 1 rfl ?_
    refine jf_iconst (v := 1) hX dX10_lives_14 (by decide) ?_
    refine jf_icmp_lt (tgt := 31) hX dX10_lives_15 (by decide) ?_ ?_
    · refine jf_iconst (v := -1) hX dX10_lives_31 (by decide) ?_
      exact jf_iret hX rfl (by decide) (by decide) dX10_lives_32
    · refine jf_iload_n hX dX10_lives_18 1 rfl ?_
      refine jf_bipush (v := 10) hX dX10_lives_19 (by decide) ?_
      refine jf_icmp_gt (tgt := 31) hX dX10_lives_21 (by decide) ?_ ?_
      · refine jf_iconst (v := -1) hX dX10_lives_31 (by decide) ?_
        exact jf_iret hX rfl (by decide) (by decide) dX10_lives_32
      · refine jf_iload_n hX dX10_lives_24 2 rfl ?_
        refine jf_callS (As := [.int p2]) (st := []) hX mo_X10_isSpan wml_845 wstat_846 rfl (fun l D cT z0 ks => kX10_isSpan N l D cT z0 ks p2 u4) (by decide) (by decide) (by decide) (by decide) (Nat.le_of_ble_eq_true rfl) rfl rfl dX10_lives_25 (fun r5 u6 => ?_)
        refine jf_if_ne (tgt := 33) hX dX10_lives_28 (by decide) ?_ ?_
        · refine jf_iload_n hX dX10_lives_33 3 rfl ?_
          refine jf_if_lt (tgt := 54) hX dX10_lives_34 (by decide) ?_ ?_
          · refine jf_iconst (v := -1) hX dX10_lives_54 (by decide) ?_
            exact jf_iret hX rfl (by decide) (by decide) dX10_lives_55
          · refine jf_iload_n hX dX10_lives_37 3 rfl ?_
            refine jf_bipush (v := 100) hX dX10_lives_38 (by decide) ?_
            refine jf_icmp_gt (tgt := 54) hX dX10_lives_40 (by decide) ?_ ?_
            · refine jf_iconst (v := -1) hX dX10_lives_54 (by decide) ?_
              exact jf_iret hX rfl (by decide) (by decide) dX10_lives_55
            · refine jf_iload hX dX10_lives_43 4 rfl ?_
              refine jf_if_lt (tgt := 54) hX dX10_lives_45 (by decide) ?_ ?_
              · refine jf_iconst (v := -1) hX dX10_lives_54 (by decide) ?_
                exact jf_iret hX rfl (by decide) (by decide) dX10_lives_55
              · refine jf_iload hX dX10_lives_48 4 rfl ?_
                refine jf_iconst (v := 1) hX dX10_lives_50 (by decide) ?_
                refine jf_icmp_le (tgt := 56) hX dX10_lives_51 (by decide) ?_ ?_
                · refine jf_aload_n hX dX10_lives_56 0 rfl ?_
                  refine jf_getR hX ck_X10 6 wfl_687 (by decide) rfl dX10_lives_57 ?_
                  refine jf_nn (fun q7 => ?_)
                  refine jf_getI hX ck_X6 4 wfl_850 (by decide) rfl dX10_lives_60 ?_
                  refine jf_nmI (fun v8 => ?_)
                  refine jf_istore (lv' := [(5, .int v8), (0, .ref a0), (1, .int p1), (2, .int p2), (3, .int p3), (4, .int p4)]) hX dX10_lives_63 (by decide) rfl ?_
                  refine jf_iconst (v := 0) hX dX10_lives_65 (by decide) ?_
                  refine jf_istore (lv' := [(6, .int (0 : Int32)), (5, .int v8), (0, .ref a0), (1, .int p1), (2, .int p2), (3, .int p3), (4, .int p4)]) hX dX10_lives_66 (by decide) rfl ?_
                  refine jf_lconst (v := 0) hX dX10_lives_68 (by decide) ?_
                  refine jf_lstore (lv' := [(7, .long (0 : Int64)), (6, .int (0 : Int32)), (5, .int v8), (0, .ref a0), (1, .int p1), (2, .int p2), (3, .int p3), (4, .int p4)]) hX dX10_lives_69 (by decide) rfl ?_
                  refine jf_iconst (v := 0) hX dX10_lives_71 (by decide) ?_
                  refine jf_istore (lv' := [(9, .int (0 : Int32)), (7, .long (0 : Int64)), (6, .int (0 : Int32)), (5, .int v8), (0, .ref a0), (1, .int p1), (2, .int p2), (3, .int p3), (4, .int p4)]) hX dX10_lives_72 (by decide) rfl ?_
                  refine jf_lv [4, 5, 6, 7, 8, 3, 2, 1, 0] rfl ?_
                  exact jgX10_lives_74 hX N  N a0 p1 p2 p3 p4 v8 (0 : Int32) (0 : Int64) (0 : Int32) u6
                · refine jf_iconst (v := -1) hX dX10_lives_54 (by decide) ?_
                  exact jf_iret hX rfl (by decide) (by decide) dX10_lives_55
        · refine jf_iconst (v := -1) hX dX10_lives_31 (by decide) ?_
          exact jf_iret hX rfl (by decide) (by decide) dX10_lives_32
set_option maxRecDepth 20000 in
def fX10_count (N : Nat)  (a0 : Nat) (p1 : Int32) (u : SG) : Option (Int32 × SG) := if p1 = (0 : Int32) then (if zK u a0 = 11 then (Option.bind (zR u a0 6) fun q1 => (if zK u q1 = 7 then (Option.bind (zR u q1 0) fun q2 => (if zK u q2 = 8 then (some (zI u q2 6, u)) else none)) else none)) else none)
  else if p1 = (1 : Int32) then (if zK u a0 = 11 then (Option.bind (zR u a0 6) fun q3 => (if zK u q3 = 7 then (Option.bind (zR u q3 0) fun q4 => (if zK u q4 = 8 then (some (zI u q4 7, u)) else none)) else none)) else none)
  else if p1 = (2 : Int32) then (if zK u a0 = 11 then (Option.bind (zR u a0 6) fun q5 => (if zK u q5 = 7 then (Option.bind (zR u q5 0) fun q6 => (if zK u q6 = 8 then (some (zI u q6 8, u)) else none)) else none)) else none)
  else if p1 = (3 : Int32) then (if zK u a0 = 11 then (Option.bind (zR u a0 6) fun q7 => (if zK u q7 = 7 then (Option.bind (zR u q7 0) fun q8 => (if zK u q8 = 8 then (some (zI u q8 9, u)) else none)) else none)) else none)
  else if p1 = (4 : Int32) then (if zK u a0 = 11 then (Option.bind (zR u a0 6) fun q9 => (if zK u q9 = 7 then (Option.bind (zR u q9 0) fun q10 => (if zK u q10 = 8 then (some (zI u q10 10, u)) else none)) else none)) else none)
  else if p1 = (5 : Int32) then (if zK u a0 = 11 then (some (zI u a0 5, u)) else none)
  else if p1 = (6 : Int32) then (if zK u a0 = 11 then (Option.bind (zR u a0 6) fun q11 => (if zK u q11 = 7 then (some (zI u q11 3, u)) else none)) else none)
  else if p1 = (7 : Int32) then (if zK u a0 = 11 then (Option.bind (zR u a0 6) fun q12 => (if zK u q12 = 7 then (Option.bind (zR u q12 1) fun q13 => (if zK u q13 = 3 then (some (zI u q13 0, u)) else none)) else none)) else none)
  else if p1 = (8 : Int32) then (if zK u a0 = 11 then (Option.bind (zR u a0 6) fun q14 => (if zK u q14 = 7 then (Option.bind (zR u q14 1) fun q15 => (if zK u q15 = 3 then (some (zI u q15 1, u)) else none)) else none)) else none)
  else if p1 = (9 : Int32) then (if zK u a0 = 11 then (Option.bind (zR u a0 6) fun q16 => (if zK u q16 = 7 then (Option.bind (zR u q16 1) fun q17 => (if zK u q17 = 3 then (some (zI u q17 2, u)) else none)) else none)) else none)
  else if p1 = (10 : Int32) then (if zK u a0 = 11 then cl (fX10_burningNow N a0 u) fun r18 u19 => (some (r18, u19)) else none)
  else if p1 = (11 : Int32) then (if zK u a0 = 11 then (Option.bind (zR u a0 6) fun q20 => (if zK u q20 = 7 then (Option.bind (zR u q20 0) fun q21 => (if zK u a0 = 11 then cl (fX10_burningNow N a0 u) fun r22 u23 => (if zK u23 q21 = 8 then cl (fX7_costOf N q21 r22 u23) fun r24 u25 => (some (r24, u25)) else none) else none)) else none)) else none)
  else if p1 = (12 : Int32) then (if zK u a0 = 11 then (Option.bind (zR u a0 6) fun q26 => (if zK u q26 = 7 then (Option.bind (zR u q26 2) fun q27 => (if zK u q27 = 2 then (some (zI u q27 4, u)) else none)) else none)) else none)
  else if p1 = (13 : Int32) then (if zK u a0 = 11 then (Option.bind (zR u a0 8) fun q28 => (if zK u q28 = 1 then (some (zI u q28 2, u)) else none)) else none)
  else if p1 = (14 : Int32) then (if zK u a0 = 11 then (Option.bind (zR u a0 6) fun q29 => (if zK u q29 = 7 then (some (zI u q29 4, u)) else none)) else none)
  else if p1 = (15 : Int32) then (if zK u a0 = 11 then (Option.bind (zR u a0 0) fun q30 => (if zK u q30 = 10 then (some (zI u q30 1, u)) else none)) else none)
  else (some ((-1 : Int32), u))
set_option maxRecDepth 20000 in
set_option maxHeartbeats 4000000 in
theorem kX10_count  (N : Nat)  (l : Launch) (D : va_G) (cT : Nat → ClassId) (z0 : Nat) (ks : Nat × Nat) (a0 : Nat) (p1 : Int32) (u : SG) : Ct l D cT z0 ks yX10_count cX10_count 2 (some .int) 4 0 0 vI [.ref a0, .int p1] u (fX10_count N  a0 p1 u) := by
  unfold fX10_count
  refine ct_of (by decide +kernel) (Nat.le_of_ble_eq_true rfl) (fun p e R s m args below meth c hX => ?_)
  show JF _ True 2 0 0 _ 0 [(0, .ref a0), (1, .int p1)] [] u _
  refine jf_iload_n hX dX10_count_0 1 rfl ?_
  refine jf_tcase (k := 0) (kv := 0) (tgt := 80) hX dX10_count_1 rfl (by decide) (by decide) rfl (by decide) ?_ (fun hn0 => ?_)
  · refine jf_aload_n hX dX10_count_80 0 rfl ?_
    refine jf_getR hX ck_X10 6 wfl_687 (by decide) rfl dX10_count_81 ?_
    refine jf_nn (fun q1 => ?_)
    refine jf_getR hX ck_X6 0 wfl_717 (by decide) rfl dX10_count_84 ?_
    refine jf_nn (fun q2 => ?_)
    refine jf_getI hX ck_X7 6 wfl_808 (by decide) rfl dX10_count_87 ?_
    exact jf_iret hX rfl (by decide) (by decide) dX10_count_90
  refine jf_tcase (k := 1) (kv := 1) (tgt := 91) hX dX10_count_1 rfl (by decide) (by decide) rfl (by decide) ?_ (fun hn1 => ?_)
  · refine jf_aload_n hX dX10_count_91 0 rfl ?_
    refine jf_getR hX ck_X10 6 wfl_687 (by decide) rfl dX10_count_92 ?_
    refine jf_nn (fun q3 => ?_)
    refine jf_getR hX ck_X6 0 wfl_717 (by decide) rfl dX10_count_95 ?_
    refine jf_nn (fun q4 => ?_)
    refine jf_getI hX ck_X7 7 wfl_730 (by decide) rfl dX10_count_98 ?_
    exact jf_iret hX rfl (by decide) (by decide) dX10_count_101
  refine jf_tcase (k := 2) (kv := 2) (tgt := 102) hX dX10_count_1 rfl (by decide) (by decide) rfl (by decide) ?_ (fun hn2 => ?_)
  · refine jf_aload_n hX dX10_count_102 0 rfl ?_
    refine jf_getR hX ck_X10 6 wfl_687 (by decide) rfl dX10_count_103 ?_
    refine jf_nn (fun q5 => ?_)
    refine jf_getR hX ck_X6 0 wfl_717 (by decide) rfl dX10_count_106 ?_
    refine jf_nn (fun q6 => ?_)
    refine jf_getI hX ck_X7 8 wfl_854 (by decide) rfl dX10_count_109 ?_
    exact jf_iret hX rfl (by decide) (by decide) dX10_count_112
  refine jf_tcase (k := 3) (kv := 3) (tgt := 113) hX dX10_count_1 rfl (by decide) (by decide) rfl (by decide) ?_ (fun hn3 => ?_)
  · refine jf_aload_n hX dX10_count_113 0 rfl ?_
    refine jf_getR hX ck_X10 6 wfl_687 (by decide) rfl dX10_count_114 ?_
    refine jf_nn (fun q7 => ?_)
    refine jf_getR hX ck_X6 0 wfl_717 (by decide) rfl dX10_count_117 ?_
    refine jf_nn (fun q8 => ?_)
    refine jf_getI hX ck_X7 9 wfl_855 (by decide) rfl dX10_count_120 ?_
    exact jf_iret hX rfl (by decide) (by decide) dX10_count_123
  refine jf_tcase (k := 4) (kv := 4) (tgt := 124) hX dX10_count_1 rfl (by decide) (by decide) rfl (by decide) ?_ (fun hn4 => ?_)
  · refine jf_aload_n hX dX10_count_124 0 rfl ?_
    refine jf_getR hX ck_X10 6 wfl_687 (by decide) rfl dX10_count_125 ?_
    refine jf_nn (fun q9 => ?_)
    refine jf_getR hX ck_X6 0 wfl_717 (by decide) rfl dX10_count_128 ?_
    refine jf_nn (fun q10 => ?_)
    refine jf_getI hX ck_X7 10 wfl_856 (by decide) rfl dX10_count_131 ?_
    exact jf_iret hX rfl (by decide) (by decide) dX10_count_134
  refine jf_tcase (k := 5) (kv := 5) (tgt := 135) hX dX10_count_1 rfl (by decide) (by decide) rfl (by decide) ?_ (fun hn5 => ?_)
  · refine jf_aload_n hX dX10_count_135 0 rfl ?_
    refine jf_getI hX ck_X10 5 wfl_681 (by decide) rfl dX10_count_136 ?_
    exact jf_iret hX rfl (by decide) (by decide) dX10_count_139
  refine jf_tcase (k := 6) (kv := 6) (tgt := 140) hX dX10_count_1 rfl (by decide) (by decide) rfl (by decide) ?_ (fun hn6 => ?_)
  · refine jf_aload_n hX dX10_count_140 0 rfl ?_
    refine jf_getR hX ck_X10 6 wfl_687 (by decide) rfl dX10_count_141 ?_
    refine jf_nn (fun q11 => ?_)
    refine jf_getI hX ck_X6 3 wfl_737 (by decide) rfl dX10_count_144 ?_
    exact jf_iret hX rfl (by decide) (by decide) dX10_count_147
  refine jf_tcase (k := 7) (kv := 7) (tgt := 148) hX dX10_count_1 rfl (by decide) (by decide) rfl (by decide) ?_ (fun hn7 => ?_)
  · refine jf_aload_n hX dX10_count_148 0 rfl ?_
    refine jf_getR hX ck_X10 6 wfl_687 (by decide) rfl dX10_count_149 ?_
    refine jf_nn (fun q12 => ?_)
    refine jf_getR hX ck_X6 1 wfl_719 (by decide) rfl dX10_count_152 ?_
    refine jf_nn (fun q13 => ?_)
    refine jf_getI hX ck_X2 0 wfl_738 (by decide) rfl dX10_count_155 ?_
    exact jf_iret hX rfl (by decide) (by decide) dX10_count_158
  refine jf_tcase (k := 8) (kv := 8) (tgt := 159) hX dX10_count_1 rfl (by decide) (by decide) rfl (by decide) ?_ (fun hn8 => ?_)
  · refine jf_aload_n hX dX10_count_159 0 rfl ?_
    refine jf_getR hX ck_X10 6 wfl_687 (by decide) rfl dX10_count_160 ?_
    refine jf_nn (fun q14 => ?_)
    refine jf_getR hX ck_X6 1 wfl_719 (by decide) rfl dX10_count_163 ?_
    refine jf_nn (fun q15 => ?_)
    refine jf_getI hX ck_X2 1 wfl_857 (by decide) rfl dX10_count_166 ?_
    exact jf_iret hX rfl (by decide) (by decide) dX10_count_169
  refine jf_tcase (k := 9) (kv := 9) (tgt := 170) hX dX10_count_1 rfl (by decide) (by decide) rfl (by decide) ?_ (fun hn9 => ?_)
  · refine jf_aload_n hX dX10_count_170 0 rfl ?_
    refine jf_getR hX ck_X10 6 wfl_687 (by decide) rfl dX10_count_171 ?_
    refine jf_nn (fun q16 => ?_)
    refine jf_getR hX ck_X6 1 wfl_719 (by decide) rfl dX10_count_174 ?_
    refine jf_nn (fun q17 => ?_)
    refine jf_getI hX ck_X2 2 wfl_745 (by decide) rfl dX10_count_177 ?_
    exact jf_iret hX rfl (by decide) (by decide) dX10_count_180
  refine jf_tcase (k := 10) (kv := 10) (tgt := 181) hX dX10_count_1 rfl (by decide) (by decide) rfl (by decide) ?_ (fun hn10 => ?_)
  · refine jf_aload_n hX dX10_count_181 0 rfl ?_
    refine jf_callV (As := []) (st := []) hX mo_X10_burningNow wml_758 winst_759 wsel_760 10 ck_X10 rfl (fun l D cT z0 ks => kX10_burningNow N l D cT z0 ks a0 u) (by decide) (by decide) (by decide) (by decide) (Nat.le_of_ble_eq_true rfl) rfl rfl dX10_count_182 (fun r18 u19 => ?_)
    exact jf_iret hX rfl (by decide) (by decide) dX10_count_185
  refine jf_tcase (k := 11) (kv := 11) (tgt := 186) hX dX10_count_1 rfl (by decide) (by decide) rfl (by decide) ?_ (fun hn11 => ?_)
  · refine jf_aload_n hX dX10_count_186 0 rfl ?_
    refine jf_getR hX ck_X10 6 wfl_687 (by decide) rfl dX10_count_187 ?_
    refine jf_nn (fun q20 => ?_)
    refine jf_getR hX ck_X6 0 wfl_717 (by decide) rfl dX10_count_190 ?_
    refine jf_nn (fun q21 => ?_)
    refine jf_aload_n hX dX10_count_193 0 rfl ?_
    refine jf_callV (As := []) (st := [.ref q21]) hX mo_X10_burningNow wml_758 winst_759 wsel_760 10 ck_X10 rfl (fun l D cT z0 ks => kX10_burningNow N l D cT z0 ks a0 u) (by decide) (by decide) (by decide) (by decide) (Nat.le_of_ble_eq_true rfl) rfl rfl dX10_count_194 (fun r22 u23 => ?_)
    refine jf_callV (As := [.int r22]) (st := []) hX mo_X7_costOf wml_807 winst_417 wsel_418 7 ck_X7 rfl (fun l D cT z0 ks => kX7_costOf N l D cT z0 ks q21 r22 u23) (by decide) (by decide) (by decide) (by decide) (Nat.le_of_ble_eq_true rfl) rfl rfl dX10_count_197 (fun r24 u25 => ?_)
    exact jf_iret hX rfl (by decide) (by decide) dX10_count_200
  refine jf_tcase (k := 12) (kv := 12) (tgt := 201) hX dX10_count_1 rfl (by decide) (by decide) rfl (by decide) ?_ (fun hn12 => ?_)
  · refine jf_aload_n hX dX10_count_201 0 rfl ?_
    refine jf_getR hX ck_X10 6 wfl_687 (by decide) rfl dX10_count_202 ?_
    refine jf_nn (fun q26 => ?_)
    refine jf_getR hX ck_X6 2 wfl_723 (by decide) rfl dX10_count_205 ?_
    refine jf_nn (fun q27 => ?_)
    refine jf_getI hX ck_X1 4 wfl_825 (by decide) rfl dX10_count_208 ?_
    exact jf_iret hX rfl (by decide) (by decide) dX10_count_211
  refine jf_tcase (k := 13) (kv := 13) (tgt := 212) hX dX10_count_1 rfl (by decide) (by decide) rfl (by decide) ?_ (fun hn13 => ?_)
  · refine jf_aload_n hX dX10_count_212 0 rfl ?_
    refine jf_getR hX ck_X10 8 wfl_695 (by decide) rfl dX10_count_213 ?_
    refine jf_nn (fun q28 => ?_)
    refine jf_getI hX ck_X0 2 wfl_782 (by decide) rfl dX10_count_216 ?_
    exact jf_iret hX rfl (by decide) (by decide) dX10_count_219
  refine jf_tcase (k := 14) (kv := 14) (tgt := 220) hX dX10_count_1 rfl (by decide) (by decide) rfl (by decide) ?_ (fun hn14 => ?_)
  · refine jf_aload_n hX dX10_count_220 0 rfl ?_
    refine jf_getR hX ck_X10 6 wfl_687 (by decide) rfl dX10_count_221 ?_
    refine jf_nn (fun q29 => ?_)
    refine jf_getI hX ck_X6 4 wfl_850 (by decide) rfl dX10_count_224 ?_
    exact jf_iret hX rfl (by decide) (by decide) dX10_count_227
  refine jf_tcase (k := 15) (kv := 15) (tgt := 228) hX dX10_count_1 rfl (by decide) (by decide) rfl (by decide) ?_ (fun hn15 => ?_)
  · refine jf_aload_n hX dX10_count_228 0 rfl ?_
    refine jf_getR hX ck_X10 0 wfl_662 (by decide) rfl dX10_count_229 ?_
    refine jf_nn (fun q30 => ?_)
    refine jf_getI hX ck_X9 1 wfl_713 (by decide) rfl dX10_count_232 ?_
    exact jf_iret hX rfl (by decide) (by decide) dX10_count_235
  refine jf_tdef (tgt := 236) hX dX10_count_1 (by rcases Int.lt_or_le p1.toInt (0) with h9 | h9; exact Or.inl h9; exact Or.inr (istep (istep (istep (istep (istep (istep (istep (istep (istep (istep (istep (istep (istep (istep (istep (istep h9 (lv_neT (a := 0) hn0 rfl)) (lv_neT (a := 1) hn1 rfl)) (lv_neT (a := 2) hn2 rfl)) (lv_neT (a := 3) hn3 rfl)) (lv_neT (a := 4) hn4 rfl)) (lv_neT (a := 5) hn5 rfl)) (lv_neT (a := 6) hn6 rfl)) (lv_neT (a := 7) hn7 rfl)) (lv_neT (a := 8) hn8 rfl)) (lv_neT (a := 9) hn9 rfl)) (lv_neT (a := 10) hn10 rfl)) (lv_neT (a := 11) hn11 rfl)) (lv_neT (a := 12) hn12 rfl)) (lv_neT (a := 13) hn13 rfl)) (lv_neT (a := 14) hn14 rfl)) (lv_neT (a := 15) hn15 rfl))) (by decide) ?_
  refine jf_iconst (v := -1) hX dX10_count_236 (by decide) ?_
  exact jf_iret hX rfl (by decide) (by decide) dX10_count_237
set_option maxRecDepth 20000 in
def fX10_image (N : Nat)  (a0 : Nat) (p1 : Int32) (u : SG) : Option (Int32 × SG) := if p1 < 0 then (some ((-1 : Int32), u))
  else (if p1 < (4 : Int32) then (if zK u a0 = 11 then (Option.bind (zR u a0 7) fun q1 => (if zK u q1 = 27 then if p1 < 0 ∨ zN u q1 ≤ p1.toNatClampNeg then none else (if zK u a0 = 11 then (Option.bind (zR u a0 6) fun q2 => (Option.bind (zR u q1 p1.toNatClampNeg) fun q3 => (if zK u q3 = 7 then cl (fX6_copyOf N q3 q2 u) fun r4 u5 => (if zK u5 a0 = 11 then (Option.bind (zR u5 a0 7) fun q6 => (if zK u5 q6 = 27 then if p1 < 0 ∨ zN u5 q6 ≤ p1.toNatClampNeg then none else (Option.bind (zR u5 q6 p1.toNatClampNeg) fun q7 => (if zK u5 q7 = 7 then if (1 : Int32) = 0 ∨ (1 : Int32) = 1 then bs (sI u5 q7 5 (1 : Int32)) fun u8 => (if zK u8 a0 = 11 then (Option.bind (zR u8 a0 6) fun q9 => (if zK u8 q9 = 7 then (Option.bind (zR u8 q9 1) fun q10 => (if zK u8 q10 = 3 then (some (zI u8 q10 1, u8)) else none)) else none)) else none) else none else none)) else none)) else none) else none))) else none) else none)) else none)
  else (some ((-1 : Int32), u)))
set_option maxRecDepth 20000 in
set_option maxHeartbeats 4000000 in
theorem kX10_image  (N : Nat)  (l : Launch) (D : va_G) (cT : Nat → ClassId) (z0 : Nat) (ks : Nat × Nat) (a0 : Nat) (p1 : Int32) (u : SG) : Ct l D cT z0 ks yX10_image cX10_image 2 (some .int) 3 0 0 vI [.ref a0, .int p1] u (fX10_image N  a0 p1 u) := by
  unfold fX10_image
  refine ct_of (by decide +kernel) (Nat.le_of_ble_eq_true rfl) (fun p e R s m args below meth c hX => ?_)
  show JF _ True 2 0 0 _ 0 [(0, .ref a0), (1, .int p1)] [] u _
  refine jf_iload_n hX dX10_image_0 1 rfl ?_
  refine jf_if_lt (tgt := 9) hX dX10_image_1 (by decide) ?_ ?_
  · refine jf_iconst (v := -1) hX dX10_image_9 (by decide) ?_
    exact jf_iret hX rfl (by decide) (by decide) dX10_image_10
  · refine jf_iload_n hX dX10_image_4 1 rfl ?_
    refine jf_iconst (v := 4) hX dX10_image_5 (by decide) ?_
    refine jf_icmp_lt (tgt := 11) hX dX10_image_6 (by decide) ?_ ?_
    · refine jf_aload_n hX dX10_image_11 0 rfl ?_
      refine jf_getR hX ck_X10 7 wfl_689 (by decide) rfl dX10_image_12 ?_
      refine jf_nn (fun q1 => ?_)
      refine jf_iload_n hX dX10_image_15 1 rfl ?_
      refine jf_aald27 hX dX10_image_16 ?_
      refine jf_aload_n hX dX10_image_17 0 rfl ?_
      refine jf_getR hX ck_X10 6 wfl_687 (by decide) rfl dX10_image_18 ?_
      refine jf_nn (fun q2 => ?_)
      refine jf_nn1 (fun q3 => ?_)
      refine jf_callV (As := [.ref q2]) (st := []) hX mo_X6_copyOf wml_858 winst_859 wsel_860 6 ck_X6 rfl (fun l D cT z0 ks => kX6_copyOf N l D cT z0 ks q3 q2 u) (by decide) (by decide) (by decide) (by decide) (Nat.le_of_ble_eq_true rfl) rfl rfl dX10_image_21 (fun r4 u5 => ?_)
      refine jf_aload_n hX dX10_image_24 0 rfl ?_
      refine jf_getR hX ck_X10 7 wfl_689 (by decide) rfl dX10_image_25 ?_
      refine jf_nn (fun q6 => ?_)
      refine jf_iload_n hX dX10_image_28 1 rfl ?_
      refine jf_aald27 hX dX10_image_29 ?_
      refine jf_iconst (v := 1) hX dX10_image_30 (by decide) ?_
      refine jf_nn1 (fun q7 => ?_)
      refine jf_putZ hX trivial ck_X6 5 wfl_861 (by decide) rfl rfl rfl dX10_image_31 (fun u8 => ?_)
      refine jf_aload_n hX dX10_image_34 0 rfl ?_
      refine jf_getR hX ck_X10 6 wfl_687 (by decide) rfl dX10_image_35 ?_
      refine jf_nn (fun q9 => ?_)
      refine jf_getR hX ck_X6 1 wfl_719 (by decide) rfl dX10_image_38 ?_
      refine jf_nn (fun q10 => ?_)
      refine jf_getI hX ck_X2 1 wfl_857 (by decide) rfl dX10_image_41 ?_
      exact jf_iret hX rfl (by decide) (by decide) dX10_image_44
    · refine jf_iconst (v := -1) hX dX10_image_9 (by decide) ?_
      exact jf_iret hX rfl (by decide) (by decide) dX10_image_10
set_option maxRecDepth 20000 in
def fX10_back (N : Nat)  (a0 : Nat) (p1 : Int32) (u : SG) : Option (Int32 × SG) := if p1 < 0 then (some ((-1 : Int32), u))
  else (if (4 : Int32) ≤ p1 then (some ((-1 : Int32), u))
  else (if zK u a0 = 11 then (Option.bind (zR u a0 7) fun q1 => (if zK u q1 = 27 then if p1 < 0 ∨ zN u q1 ≤ p1.toNatClampNeg then none else (Option.bind (zR u q1 p1.toNatClampNeg) fun q2 => (if zK u q2 = 7 then (if (zI u q2 5) = 0 then (some ((-1 : Int32), u))
  else (if zK u a0 = 11 then (Option.bind (zR u a0 6) fun q3 => (if zK u a0 = 11 then (Option.bind (zR u a0 7) fun q4 => (if zK u q4 = 27 then if p1 < 0 ∨ zN u q4 ≤ p1.toNatClampNeg then none else (Option.bind (zR u q4 p1.toNatClampNeg) fun q5 => (if zK u q3 = 7 then cl (fX6_copyOf N q3 q5 u) fun r6 u7 => (if zK u7 a0 = 11 then (Option.bind (zR u7 a0 8) fun q8 => (if zK u7 q8 = 1 then cl (fX0_clear N q8 u7) fun r9 u10 => (if zK u10 a0 = 11 then (Option.bind (zR u10 a0 6) fun q11 => (if zK u10 q11 = 7 then (Option.bind (zR u10 q11 1) fun q12 => (if zK u10 q12 = 3 then (some (zI u10 q12 1, u10)) else none)) else none)) else none) else none)) else none) else none)) else none)) else none)) else none)) else none)) else none)) else none))
set_option maxRecDepth 20000 in
set_option maxHeartbeats 4000000 in
theorem kX10_back  (N : Nat)  (l : Launch) (D : va_G) (cT : Nat → ClassId) (z0 : Nat) (ks : Nat × Nat) (a0 : Nat) (p1 : Int32) (u : SG) : Ct l D cT z0 ks yX10_back cX10_back 2 (some .int) 3 0 0 vI [.ref a0, .int p1] u (fX10_back N  a0 p1 u) := by
  unfold fX10_back
  refine ct_of (by decide +kernel) (Nat.le_of_ble_eq_true rfl) (fun p e R s m args below meth c hX => ?_)
  show JF _ True 2 0 0 _ 0 [(0, .ref a0), (1, .int p1)] [] u _
  refine jf_iload_n hX dX10_back_0 1 rfl ?_
  refine jf_if_lt (tgt := 21) hX dX10_back_1 (by decide) ?_ ?_
  · refine jf_iconst (v := -1) hX dX10_back_21 (by decide) ?_
    exact jf_iret hX rfl (by decide) (by decide) dX10_back_22
  · refine jf_iload_n hX dX10_back_4 1 rfl ?_
    refine jf_iconst (v := 4) hX dX10_back_5 (by decide) ?_
    refine jf_icmp_ge (tgt := 21) hX dX10_back_6 (by decide) ?_ ?_
    · refine jf_iconst (v := -1) hX dX10_back_21 (by decide) ?_
      exact jf_iret hX rfl (by decide) (by decide) dX10_back_22
    · refine jf_aload_n hX dX10_back_9 0 rfl ?_
      refine jf_getR hX ck_X10 7 wfl_689 (by decide) rfl dX10_back_10 ?_
      refine jf_nn (fun q1 => ?_)
      refine jf_iload_n hX dX10_back_13 1 rfl ?_
      refine jf_aald27 hX dX10_back_14 ?_
      refine jf_nn (fun q2 => ?_)
      refine jf_getI hX ck_X6 5 wfl_861 (by decide) rfl dX10_back_15 ?_
      refine jf_if_ne (tgt := 23) hX dX10_back_18 (by decide) ?_ ?_
      · refine jf_aload_n hX dX10_back_23 0 rfl ?_
        refine jf_getR hX ck_X10 6 wfl_687 (by decide) rfl dX10_back_24 ?_
        refine jf_nn (fun q3 => ?_)
        refine jf_aload_n hX dX10_back_27 0 rfl ?_
        refine jf_getR hX ck_X10 7 wfl_689 (by decide) rfl dX10_back_28 ?_
        refine jf_nn (fun q4 => ?_)
        refine jf_iload_n hX dX10_back_31 1 rfl ?_
        refine jf_aald27 hX dX10_back_32 ?_
        refine jf_nn (fun q5 => ?_)
        refine jf_callV (As := [.ref q5]) (st := []) hX mo_X6_copyOf wml_858 winst_859 wsel_860 6 ck_X6 rfl (fun l D cT z0 ks => kX6_copyOf N l D cT z0 ks q3 q5 u) (by decide) (by decide) (by decide) (by decide) (Nat.le_of_ble_eq_true rfl) rfl rfl dX10_back_33 (fun r6 u7 => ?_)
        refine jf_aload_n hX dX10_back_36 0 rfl ?_
        refine jf_getR hX ck_X10 8 wfl_695 (by decide) rfl dX10_back_37 ?_
        refine jf_nn (fun q8 => ?_)
        refine jf_callV (As := []) (st := []) hX mo_X0_clear wml_727 winst_728 wsel_729 0 ck_X0 rfl (fun l D cT z0 ks => kX0_clear N l D cT z0 ks q8 u7) (by decide) (by decide) (by decide) (by decide) (Nat.le_of_ble_eq_true rfl) rfl rfl dX10_back_40 (fun r9 u10 => ?_)
        refine jf_aload_n hX dX10_back_43 0 rfl ?_
        refine jf_getR hX ck_X10 6 wfl_687 (by decide) rfl dX10_back_44 ?_
        refine jf_nn (fun q11 => ?_)
        refine jf_getR hX ck_X6 1 wfl_719 (by decide) rfl dX10_back_47 ?_
        refine jf_nn (fun q12 => ?_)
        refine jf_getI hX ck_X2 1 wfl_857 (by decide) rfl dX10_back_50 ?_
        exact jf_iret hX rfl (by decide) (by decide) dX10_back_53
      · refine jf_iconst (v := -1) hX dX10_back_21 (by decide) ?_
        exact jf_iret hX rfl (by decide) (by decide) dX10_back_22
