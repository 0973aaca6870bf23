theorem dX11_dark_0 : decode cX11_dark 0 = .ok (.aload_n 0, 1) := by decide +kernel
theorem dX11_dark_1 : decode cX11_dark 1 = .ok (.invokevirtual 353, 3) := by decide +kernel
theorem dX11_dark_4 : decode cX11_dark 4 = .ok (.ifCond .eq 13, 3) := by decide +kernel
theorem dX11_dark_7 : decode cX11_dark 7 = .ok (.iload_n 1, 1) := by decide +kernel
theorem dX11_dark_8 : decode cX11_dark 8 = .ok (.i2l, 1) := by decide +kernel
theorem dX11_dark_9 : decode cX11_dark 9 = .ok (.lconst 0, 1) := by decide +kernel
theorem dX11_dark_10 : decode cX11_dark 10 = .ok (.lconst 1, 1) := by decide +kernel
theorem dX11_dark_11 : decode cX11_dark 11 = .ok (.invokestatic 112, 3) := by decide +kernel
theorem dX11_dark_14 : decode cX11_dark 14 = .ok (.ifCond .ne 5, 3) := by decide +kernel
theorem dX11_dark_17 : decode cX11_dark 17 = .ok (.iconst (-1), 1) := by decide +kernel
theorem dX11_dark_18 : decode cX11_dark 18 = .ok (.ireturn, 1) := by decide +kernel
theorem dX11_dark_19 : decode cX11_dark 19 = .ok (.aload_n 0, 1) := by decide +kernel
theorem dX11_dark_20 : decode cX11_dark 20 = .ok (.invokevirtual 403, 3) := by decide +kernel
theorem dX11_dark_23 : decode cX11_dark 23 = .ok (.istore_n 2, 1) := by decide +kernel
theorem dX11_dark_24 : decode cX11_dark 24 = .ok (.iconst (-1), 1) := by decide +kernel
theorem dX11_dark_25 : decode cX11_dark 25 = .ok (.istore_n 3, 1) := by decide +kernel
theorem dX11_dark_26 : decode cX11_dark 26 = .ok (.iconst 0, 1) := by decide +kernel
theorem dX11_dark_27 : decode cX11_dark 27 = .ok (.istore 4, 2) := by decide +kernel
theorem dX11_dark_29 : decode cX11_dark 29 = .ok (.iload 4, 2) := by decide +kernel
theorem dX11_dark_31 : decode cX11_dark 31 = .ok (.iload_n 2, 1) := by decide +kernel
theorem dX11_dark_32 : decode cX11_dark 32 = .ok (.if_icmp .gt 49, 3) := by decide +kernel
theorem dX11_dark_35 : decode cX11_dark 35 = .ok (.iload 4, 2) := by decide +kernel
theorem dX11_dark_37 : decode cX11_dark 37 = .ok (.iload_n 2, 1) := by decide +kernel
theorem dX11_dark_38 : decode cX11_dark 38 = .ok (.iconst (-1), 1) := by decide +kernel
theorem dX11_dark_39 : decode cX11_dark 39 = .ok (.ixor, 1) := by decide +kernel
theorem dX11_dark_40 : decode cX11_dark 40 = .ok (.iand, 1) := by decide +kernel
theorem dX11_dark_41 : decode cX11_dark 41 = .ok (.ifCond .ne 34, 3) := by decide +kernel
theorem dX11_dark_44 : decode cX11_dark 44 = .ok (.iload_n 3, 1) := by decide +kernel
theorem dX11_dark_45 : decode cX11_dark 45 = .ok (.ifCond .lt 18, 3) := by decide +kernel
theorem dX11_dark_48 : decode cX11_dark 48 = .ok (.iload 4, 2) := by decide +kernel
theorem dX11_dark_50 : decode cX11_dark 50 = .ok (.invokestatic 320, 3) := by decide +kernel
theorem dX11_dark_53 : decode cX11_dark 53 = .ok (.iload_n 3, 1) := by decide +kernel
theorem dX11_dark_54 : decode cX11_dark 54 = .ok (.invokestatic 320, 3) := by decide +kernel
theorem dX11_dark_57 : decode cX11_dark 57 = .ok (.if_icmp .lt 6, 3) := by decide +kernel
theorem dX11_dark_60 : decode cX11_dark 60 = .ok (.goto 15, 3) := by decide +kernel
theorem dX11_dark_63 : decode cX11_dark 63 = .ok (.aload_n 0, 1) := by decide +kernel
theorem dX11_dark_64 : decode cX11_dark 64 = .ok (.iload 4, 2) := by decide +kernel
theorem dX11_dark_66 : decode cX11_dark 66 = .ok (.invokevirtual 406, 3) := by decide +kernel
theorem dX11_dark_69 : decode cX11_dark 69 = .ok (.ifCond .eq 6, 3) := by decide +kernel
theorem dX11_dark_72 : decode cX11_dark 72 = .ok (.iload 4, 2) := by decide +kernel
theorem dX11_dark_74 : decode cX11_dark 74 = .ok (.istore_n 3, 1) := by decide +kernel
theorem dX11_dark_75 : decode cX11_dark 75 = .ok (.iinc 4 1, 3) := by decide +kernel
theorem dX11_dark_78 : decode cX11_dark 78 = .ok (.goto (-49), 3) := by decide +kernel
theorem dX11_dark_81 : decode cX11_dark 81 = .ok (.iload_n 1, 1) := by decide +kernel
theorem dX11_dark_82 : decode cX11_dark 82 = .ok (.ifCond .ne 10, 3) := by decide +kernel
theorem dX11_dark_85 : decode cX11_dark 85 = .ok (.iload_n 3, 1) := by decide +kernel
theorem dX11_dark_86 : decode cX11_dark 86 = .ok (.invokestatic 320, 3) := by decide +kernel
theorem dX11_dark_89 : decode cX11_dark 89 = .ok (.goto 4, 3) := by decide +kernel
theorem dX11_dark_92 : decode cX11_dark 92 = .ok (.iload_n 3, 1) := by decide +kernel
theorem dX11_dark_93 : decode cX11_dark 93 = .ok (.ireturn, 1) := by decide +kernel
theorem dX11_fact__0 : decode cX11_fact_ 0 = .ok (.iload_n 1, 1) := by decide +kernel
theorem dX11_fact__1 : decode cX11_fact_ 1 = .ok (.iconst (-1), 1) := by decide +kernel
theorem dX11_fact__2 : decode cX11_fact_ 2 = .ok (.if_icmp .ne 14, 3) := by decide +kernel
theorem dX11_fact__5 : decode cX11_fact_ 5 = .ok (.aload_n 0, 1) := by decide +kernel
theorem dX11_fact__6 : decode cX11_fact_ 6 = .ok (.getfield 39, 3) := by decide +kernel
theorem dX11_fact__9 : decode cX11_fact_ 9 = .ok (.sipush 143, 3) := by decide +kernel
theorem dX11_fact__12 : decode cX11_fact_ 12 = .ok (.iconst 0, 1) := by decide +kernel
theorem dX11_fact__13 : decode cX11_fact_ 13 = .ok (.iastore, 1) := by decide +kernel
theorem dX11_fact__14 : decode cX11_fact_ 14 = .ok (.iconst 0, 1) := by decide +kernel
theorem dX11_fact__15 : decode cX11_fact_ 15 = .ok (.ireturn, 1) := by decide +kernel
theorem dX11_fact__16 : decode cX11_fact_ 16 = .ok (.aload_n 0, 1) := by decide +kernel
theorem dX11_fact__17 : decode cX11_fact_ 17 = .ok (.invokevirtual 353, 3) := by decide +kernel
theorem dX11_fact__20 : decode cX11_fact_ 20 = .ok (.ifCond .eq 28, 3) := by decide +kernel
theorem dX11_fact__23 : decode cX11_fact_ 23 = .ok (.iload_n 1, 1) := by decide +kernel
theorem dX11_fact__24 : decode cX11_fact_ 24 = .ok (.i2l, 1) := by decide +kernel
theorem dX11_fact__25 : decode cX11_fact_ 25 = .ok (.lconst 0, 1) := by decide +kernel
theorem dX11_fact__26 : decode cX11_fact_ 26 = .ok (.ldc2_w 307, 3) := by decide +kernel
theorem dX11_fact__29 : decode cX11_fact_ 29 = .ok (.invokestatic 112, 3) := by decide +kernel
theorem dX11_fact__32 : decode cX11_fact_ 32 = .ok (.ifCond .eq 16, 3) := by decide +kernel
theorem dX11_fact__35 : decode cX11_fact_ 35 = .ok (.aload_n 0, 1) := by decide +kernel
theorem dX11_fact__36 : decode cX11_fact_ 36 = .ok (.getfield 39, 3) := by decide +kernel
theorem dX11_fact__39 : decode cX11_fact_ 39 = .ok (.sipush 143, 3) := by decide +kernel
theorem dX11_fact__42 : decode cX11_fact_ 42 = .ok (.iaload, 1) := by decide +kernel
theorem dX11_fact__43 : decode cX11_fact_ 43 = .ok (.bipush 10, 2) := by decide +kernel
theorem dX11_fact__45 : decode cX11_fact_ 45 = .ok (.if_icmp .ne 6, 3) := by decide +kernel
theorem dX11_fact__48 : decode cX11_fact_ 48 = .ok (.bipush (-2), 2) := by decide +kernel
theorem dX11_fact__50 : decode cX11_fact_ 50 = .ok (.ireturn, 1) := by decide +kernel
theorem dX11_fact__51 : decode cX11_fact_ 51 = .ok (.iload_n 1, 1) := by decide +kernel
theorem dX11_fact__52 : decode cX11_fact_ 52 = .ok (.iconst 2, 1) := by decide +kernel
theorem dX11_fact__53 : decode cX11_fact_ 53 = .ok (.if_icmp .eq 8, 3) := by decide +kernel
theorem dX11_fact__56 : decode cX11_fact_ 56 = .ok (.iload_n 1, 1) := by decide +kernel
theorem dX11_fact__57 : decode cX11_fact_ 57 = .ok (.iconst 3, 1) := by decide +kernel
theorem dX11_fact__58 : decode cX11_fact_ 58 = .ok (.if_icmp .ne 7, 3) := by decide +kernel
theorem dX11_fact__61 : decode cX11_fact_ 61 = .ok (.iconst 1, 1) := by decide +kernel
theorem dX11_fact__62 : decode cX11_fact_ 62 = .ok (.goto 4, 3) := by decide +kernel
theorem dX11_fact__65 : decode cX11_fact_ 65 = .ok (.iconst 0, 1) := by decide +kernel
theorem dX11_fact__66 : decode cX11_fact_ 66 = .ok (.istore 5, 2) := by decide +kernel
theorem dX11_fact__68 : decode cX11_fact_ 68 = .ok (.iload 5, 2) := by decide +kernel
theorem dX11_fact__70 : decode cX11_fact_ 70 = .ok (.ifCond .eq 18, 3) := by decide +kernel
theorem dX11_fact__73 : decode cX11_fact_ 73 = .ok (.iload_n 2, 1) := by decide +kernel
theorem dX11_fact__74 : decode cX11_fact_ 74 = .ok (.i2l, 1) := by decide +kernel
theorem dX11_fact__75 : decode cX11_fact_ 75 = .ok (.lconst 0, 1) := by decide +kernel
theorem dX11_fact__76 : decode cX11_fact_ 76 = .ok (.ldc2_w 307, 3) := by decide +kernel
theorem dX11_fact__79 : decode cX11_fact_ 79 = .ok (.invokestatic 112, 3) := by decide +kernel
theorem dX11_fact__82 : decode cX11_fact_ 82 = .ok (.ifCond .ne 17, 3) := by decide +kernel
theorem dX11_fact__85 : decode cX11_fact_ 85 = .ok (.goto 11, 3) := by decide +kernel
theorem dX11_fact__88 : decode cX11_fact_ 88 = .ok (.aload_n 0, 1) := by decide +kernel
theorem dX11_fact__89 : decode cX11_fact_ 89 = .ok (.iload_n 2, 1) := by decide +kernel
theorem dX11_fact__90 : decode cX11_fact_ 90 = .ok (.invokevirtual 304, 3) := by decide +kernel
theorem dX11_fact__93 : decode cX11_fact_ 93 = .ok (.ifCond .ne 6, 3) := by decide +kernel
theorem dX11_fact__96 : decode cX11_fact_ 96 = .ok (.bipush (-2), 2) := by decide +kernel
theorem dX11_fact__98 : decode cX11_fact_ 98 = .ok (.ireturn, 1) := by decide +kernel
theorem dX11_fact__99 : decode cX11_fact_ 99 = .ok (.iload_n 1, 1) := by decide +kernel
theorem dX11_fact__100 : decode cX11_fact_ 100 = .ok (.iconst 3, 1) := by decide +kernel
theorem dX11_fact__101 : decode cX11_fact_ 101 = .ok (.if_icmp .le 31, 3) := by decide +kernel
theorem dX11_fact__104 : decode cX11_fact_ 104 = .ok (.iload_n 3, 1) := by decide +kernel
theorem dX11_fact__105 : decode cX11_fact_ 105 = .ok (.i2l, 1) := by decide +kernel
theorem dX11_fact__106 : decode cX11_fact_ 106 = .ok (.lconst 0, 1) := by decide +kernel
theorem dX11_fact__107 : decode cX11_fact_ 107 = .ok (.ldc2_w 409, 3) := by decide +kernel
theorem dX11_fact__110 : decode cX11_fact_ 110 = .ok (.invokestatic 112, 3) := by decide +kernel
theorem dX11_fact__113 : decode cX11_fact_ 113 = .ok (.ifCond .eq 16, 3) := by decide +kernel
theorem dX11_fact__116 : decode cX11_fact_ 116 = .ok (.iload 4, 2) := by decide +kernel
theorem dX11_fact__118 : decode cX11_fact_ 118 = .ok (.i2l, 1) := by decide +kernel
theorem dX11_fact__119 : decode cX11_fact_ 119 = .ok (.lconst 0, 1) := by decide +kernel
theorem dX11_fact__120 : decode cX11_fact_ 120 = .ok (.ldc2_w 409, 3) := by decide +kernel
theorem dX11_fact__123 : decode cX11_fact_ 123 = .ok (.invokestatic 112, 3) := by decide +kernel
theorem dX11_fact__126 : decode cX11_fact_ 126 = .ok (.ifCond .ne 6, 3) := by decide +kernel
theorem dX11_fact__129 : decode cX11_fact_ 129 = .ok (.bipush (-2), 2) := by decide +kernel
theorem dX11_fact__131 : decode cX11_fact_ 131 = .ok (.ireturn, 1) := by decide +kernel
theorem dX11_fact__132 : decode cX11_fact_ 132 = .ok (.bipush 103, 2) := by decide +kernel
theorem dX11_fact__134 : decode cX11_fact_ 134 = .ok (.iconst 4, 1) := by decide +kernel
theorem dX11_fact__135 : decode cX11_fact_ 135 = .ok (.aload_n 0, 1) := by decide +kernel
theorem dX11_fact__136 : decode cX11_fact_ 136 = .ok (.getfield 39, 3) := by decide +kernel
theorem dX11_fact__139 : decode cX11_fact_ 139 = .ok (.sipush 143, 3) := by decide +kernel
theorem dX11_fact__142 : decode cX11_fact_ 142 = .ok (.iaload, 1) := by decide +kernel
theorem dX11_fact__143 : decode cX11_fact_ 143 = .ok (.imul, 1) := by decide +kernel
theorem dX11_fact__144 : decode cX11_fact_ 144 = .ok (.iadd, 1) := by decide +kernel
theorem dX11_fact__145 : decode cX11_fact_ 145 = .ok (.istore 6, 2) := by decide +kernel
theorem dX11_fact__147 : decode cX11_fact_ 147 = .ok (.aload_n 0, 1) := by decide +kernel
theorem dX11_fact__148 : decode cX11_fact_ 148 = .ok (.getfield 39, 3) := by decide +kernel
theorem dX11_fact__151 : decode cX11_fact_ 151 = .ok (.iload 6, 2) := by decide +kernel
theorem dX11_fact__153 : decode cX11_fact_ 153 = .ok (.iload_n 1, 1) := by decide +kernel
theorem dX11_fact__154 : decode cX11_fact_ 154 = .ok (.iastore, 1) := by decide +kernel
theorem dX11_fact__155 : decode cX11_fact_ 155 = .ok (.aload_n 0, 1) := by decide +kernel
theorem dX11_fact__156 : decode cX11_fact_ 156 = .ok (.getfield 39, 3) := by decide +kernel
theorem dX11_fact__159 : decode cX11_fact_ 159 = .ok (.iload 6, 2) := by decide +kernel
theorem dX11_fact__161 : decode cX11_fact_ 161 = .ok (.iconst 1, 1) := by decide +kernel
theorem dX11_fact__162 : decode cX11_fact_ 162 = .ok (.iadd, 1) := by decide +kernel
theorem dX11_fact__163 : decode cX11_fact_ 163 = .ok (.iload_n 2, 1) := by decide +kernel
theorem dX11_fact__164 : decode cX11_fact_ 164 = .ok (.iastore, 1) := by decide +kernel
theorem dX11_fact__165 : decode cX11_fact_ 165 = .ok (.aload_n 0, 1) := by decide +kernel
theorem dX11_fact__166 : decode cX11_fact_ 166 = .ok (.getfield 39, 3) := by decide +kernel
theorem dX11_fact__169 : decode cX11_fact_ 169 = .ok (.iload 6, 2) := by decide +kernel
theorem dX11_fact__171 : decode cX11_fact_ 171 = .ok (.iconst 2, 1) := by decide +kernel
theorem dX11_fact__172 : decode cX11_fact_ 172 = .ok (.iadd, 1) := by decide +kernel
theorem dX11_fact__173 : decode cX11_fact_ 173 = .ok (.iload_n 3, 1) := by decide +kernel
theorem dX11_fact__174 : decode cX11_fact_ 174 = .ok (.iastore, 1) := by decide +kernel
theorem dX11_fact__175 : decode cX11_fact_ 175 = .ok (.aload_n 0, 1) := by decide +kernel
theorem dX11_fact__176 : decode cX11_fact_ 176 = .ok (.getfield 39, 3) := by decide +kernel
theorem dX11_fact__179 : decode cX11_fact_ 179 = .ok (.iload 6, 2) := by decide +kernel
theorem dX11_fact__181 : decode cX11_fact_ 181 = .ok (.iconst 3, 1) := by decide +kernel
theorem dX11_fact__182 : decode cX11_fact_ 182 = .ok (.iadd, 1) := by decide +kernel
theorem dX11_fact__183 : decode cX11_fact_ 183 = .ok (.iload 4, 2) := by decide +kernel
theorem dX11_fact__185 : decode cX11_fact_ 185 = .ok (.iastore, 1) := by decide +kernel
theorem dX11_fact__186 : decode cX11_fact_ 186 = .ok (.aload_n 0, 1) := by decide +kernel
theorem dX11_fact__187 : decode cX11_fact_ 187 = .ok (.getfield 39, 3) := by decide +kernel
theorem dX11_fact__190 : decode cX11_fact_ 190 = .ok (.sipush 143, 3) := by decide +kernel
theorem dX11_fact__193 : decode cX11_fact_ 193 = .ok (.dup2, 1) := by decide +kernel
theorem dX11_fact__194 : decode cX11_fact_ 194 = .ok (.iaload, 1) := by decide +kernel
theorem dX11_fact__195 : decode cX11_fact_ 195 = .ok (.iconst 1, 1) := by decide +kernel
theorem dX11_fact__196 : decode cX11_fact_ 196 = .ok (.iadd, 1) := by decide +kernel
theorem dX11_fact__197 : decode cX11_fact_ 197 = .ok (.iastore, 1) := by decide +kernel
theorem dX11_fact__198 : decode cX11_fact_ 198 = .ok (.aload_n 0, 1) := by decide +kernel
theorem dX11_fact__199 : decode cX11_fact_ 199 = .ok (.getfield 39, 3) := by decide +kernel
theorem dX11_fact__202 : decode cX11_fact_ 202 = .ok (.sipush 143, 3) := by decide +kernel
theorem dX11_fact__205 : decode cX11_fact_ 205 = .ok (.iaload, 1) := by decide +kernel
theorem dX11_fact__206 : decode cX11_fact_ 206 = .ok (.ireturn, 1) := by decide +kernel
theorem dX11_isFactSo_0 : decode cX11_isFactSo 0 = .ok (.iload_n 2, 1) := by decide +kernel
theorem dX11_isFactSo_1 : decode cX11_isFactSo 1 = .ok (.invokestatic 320, 3) := by decide +kernel
theorem dX11_isFactSo_4 : decode cX11_isFactSo 4 = .ok (.istore_n 3, 1) := by decide +kernel
theorem dX11_isFactSo_5 : decode cX11_isFactSo 5 = .ok (.aload_n 0, 1) := by decide +kernel
theorem dX11_isFactSo_6 : decode cX11_isFactSo 6 = .ok (.getfield 39, 3) := by decide +kernel
theorem dX11_isFactSo_9 : decode cX11_isFactSo 9 = .ok (.iload_n 1, 1) := by decide +kernel
theorem dX11_isFactSo_10 : decode cX11_isFactSo 10 = .ok (.iconst 1, 1) := by decide +kernel
theorem dX11_isFactSo_11 : decode cX11_isFactSo 11 = .ok (.iadd, 1) := by decide +kernel
theorem dX11_isFactSo_12 : decode cX11_isFactSo 12 = .ok (.iaload, 1) := by decide +kernel
theorem dX11_isFactSo_13 : decode cX11_isFactSo 13 = .ok (.istore 4, 2) := by decide +kernel
theorem dX11_isFactSo_15 : decode cX11_isFactSo 15 = .ok (.aload_n 0, 1) := by decide +kernel
theorem dX11_isFactSo_16 : decode cX11_isFactSo 16 = .ok (.getfield 39, 3) := by decide +kernel
theorem dX11_isFactSo_19 : decode cX11_isFactSo 19 = .ok (.iload_n 1, 1) := by decide +kernel
theorem dX11_isFactSo_20 : decode cX11_isFactSo 20 = .ok (.iaload, 1) := by decide +kernel
theorem dX11_isFactSo_21 : decode cX11_isFactSo 21 = .ok (.tableswitch 117 0 4 #[35, 42, 57, 69, 81], 35) := by decide +kernel
theorem dX11_isFactSo_56 : decode cX11_isFactSo 56 = .ok (.iload_n 2, 1) := by decide +kernel
theorem dX11_isFactSo_57 : decode cX11_isFactSo 57 = .ok (.iload 4, 2) := by decide +kernel
theorem dX11_isFactSo_59 : decode cX11_isFactSo 59 = .ok (.invokestatic 377, 3) := by decide +kernel
theorem dX11_isFactSo_62 : decode cX11_isFactSo 62 = .ok (.ireturn, 1) := by decide +kernel
theorem dX11_isFactSo_63 : decode cX11_isFactSo 63 = .ok (.iload_n 2, 1) := by decide +kernel
theorem dX11_isFactSo_64 : decode cX11_isFactSo 64 = .ok (.iload 4, 2) := by decide +kernel
theorem dX11_isFactSo_66 : decode cX11_isFactSo 66 = .ok (.invokestatic 377, 3) := by decide +kernel
theorem dX11_isFactSo_69 : decode cX11_isFactSo 69 = .ok (.ifCond .ne 7, 3) := by decide +kernel
theorem dX11_isFactSo_72 : decode cX11_isFactSo 72 = .ok (.iconst 1, 1) := by decide +kernel
theorem dX11_isFactSo_73 : decode cX11_isFactSo 73 = .ok (.goto 4, 3) := by decide +kernel
theorem dX11_isFactSo_76 : decode cX11_isFactSo 76 = .ok (.iconst 0, 1) := by decide +kernel
theorem dX11_isFactSo_77 : decode cX11_isFactSo 77 = .ok (.ireturn, 1) := by decide +kernel
theorem dX11_isFactSo_78 : decode cX11_isFactSo 78 = .ok (.iload_n 3, 1) := by decide +kernel
theorem dX11_isFactSo_79 : decode cX11_isFactSo 79 = .ok (.iload 4, 2) := by decide +kernel
theorem dX11_isFactSo_81 : decode cX11_isFactSo 81 = .ok (.if_icmp .lt 7, 3) := by decide +kernel
theorem dX11_isFactSo_84 : decode cX11_isFactSo 84 = .ok (.iconst 1, 1) := by decide +kernel
theorem dX11_isFactSo_85 : decode cX11_isFactSo 85 = .ok (.goto 4, 3) := by decide +kernel
theorem dX11_isFactSo_88 : decode cX11_isFactSo 88 = .ok (.iconst 0, 1) := by decide +kernel
theorem dX11_isFactSo_89 : decode cX11_isFactSo 89 = .ok (.ireturn, 1) := by decide +kernel
theorem dX11_isFactSo_90 : decode cX11_isFactSo 90 = .ok (.iload_n 3, 1) := by decide +kernel
theorem dX11_isFactSo_91 : decode cX11_isFactSo 91 = .ok (.iload 4, 2) := by decide +kernel
theorem dX11_isFactSo_93 : decode cX11_isFactSo 93 = .ok (.if_icmp .gt 7, 3) := by decide +kernel
theorem dX11_isFactSo_96 : decode cX11_isFactSo 96 = .ok (.iconst 1, 1) := by decide +kernel
theorem dX11_isFactSo_97 : decode cX11_isFactSo 97 = .ok (.goto 4, 3) := by decide +kernel
theorem dX11_isFactSo_100 : decode cX11_isFactSo 100 = .ok (.iconst 0, 1) := by decide +kernel
theorem dX11_isFactSo_101 : decode cX11_isFactSo 101 = .ok (.ireturn, 1) := by decide +kernel
theorem dX11_isFactSo_102 : decode cX11_isFactSo 102 = .ok (.iload_n 2, 1) := by decide +kernel
theorem dX11_isFactSo_103 : decode cX11_isFactSo 103 = .ok (.iload 4, 2) := by decide +kernel
theorem dX11_isFactSo_105 : decode cX11_isFactSo 105 = .ok (.invokestatic 377, 3) := by decide +kernel
theorem dX11_isFactSo_108 : decode cX11_isFactSo 108 = .ok (.ifCond .eq 28, 3) := by decide +kernel
theorem dX11_isFactSo_111 : decode cX11_isFactSo 111 = .ok (.aload_n 0, 1) := by decide +kernel
theorem dX11_isFactSo_112 : decode cX11_isFactSo 112 = .ok (.getfield 39, 3) := by decide +kernel
theorem dX11_isFactSo_115 : decode cX11_isFactSo 115 = .ok (.iload_n 1, 1) := by decide +kernel
theorem dX11_isFactSo_116 : decode cX11_isFactSo 116 = .ok (.iconst 3, 1) := by decide +kernel
theorem dX11_isFactSo_117 : decode cX11_isFactSo 117 = .ok (.iadd, 1) := by decide +kernel
theorem dX11_isFactSo_118 : decode cX11_isFactSo 118 = .ok (.iaload, 1) := by decide +kernel
theorem dX11_isFactSo_119 : decode cX11_isFactSo 119 = .ok (.aload_n 0, 1) := by decide +kernel
theorem dX11_isFactSo_120 : decode cX11_isFactSo 120 = .ok (.getfield 39, 3) := by decide +kernel
theorem dX11_isFactSo_123 : decode cX11_isFactSo 123 = .ok (.iload_n 1, 1) := by decide +kernel
theorem dX11_isFactSo_124 : decode cX11_isFactSo 124 = .ok (.iconst 2, 1) := by decide +kernel
theorem dX11_isFactSo_125 : decode cX11_isFactSo 125 = .ok (.iadd, 1) := by decide +kernel
theorem dX11_isFactSo_126 : decode cX11_isFactSo 126 = .ok (.iaload, 1) := by decide +kernel
theorem dX11_isFactSo_127 : decode cX11_isFactSo 127 = .ok (.iload_n 3, 1) := by decide +kernel
theorem dX11_isFactSo_128 : decode cX11_isFactSo 128 = .ok (.imul, 1) := by decide +kernel
theorem dX11_isFactSo_129 : decode cX11_isFactSo 129 = .ok (.if_icmp .gt 7, 3) := by decide +kernel
theorem dX11_isFactSo_132 : decode cX11_isFactSo 132 = .ok (.iconst 1, 1) := by decide +kernel
theorem dX11_isFactSo_133 : decode cX11_isFactSo 133 = .ok (.goto 4, 3) := by decide +kernel
theorem dX11_isFactSo_136 : decode cX11_isFactSo 136 = .ok (.iconst 0, 1) := by decide +kernel
theorem dX11_isFactSo_137 : decode cX11_isFactSo 137 = .ok (.ireturn, 1) := by decide +kernel
theorem dX11_isFactSo_138 : decode cX11_isFactSo 138 = .ok (.iload_n 2, 1) := by decide +kernel
theorem dX11_isFactSo_139 : decode cX11_isFactSo 139 = .ok (.iload 4, 2) := by decide +kernel
theorem dX11_isFactSo_141 : decode cX11_isFactSo 141 = .ok (.invokestatic 377, 3) := by decide +kernel
theorem dX11_isFactSo_144 : decode cX11_isFactSo 144 = .ok (.ifCond .eq 28, 3) := by decide +kernel
theorem dX11_isFactSo_147 : decode cX11_isFactSo 147 = .ok (.aload_n 0, 1) := by decide +kernel
theorem dX11_isFactSo_148 : decode cX11_isFactSo 148 = .ok (.getfield 39, 3) := by decide +kernel
theorem dX11_isFactSo_151 : decode cX11_isFactSo 151 = .ok (.iload_n 1, 1) := by decide +kernel
theorem dX11_isFactSo_152 : decode cX11_isFactSo 152 = .ok (.iconst 3, 1) := by decide +kernel
theorem dX11_isFactSo_153 : decode cX11_isFactSo 153 = .ok (.iadd, 1) := by decide +kernel
theorem dX11_isFactSo_154 : decode cX11_isFactSo 154 = .ok (.iaload, 1) := by decide +kernel
theorem dX11_isFactSo_155 : decode cX11_isFactSo 155 = .ok (.aload_n 0, 1) := by decide +kernel
theorem dX11_isFactSo_156 : decode cX11_isFactSo 156 = .ok (.getfield 39, 3) := by decide +kernel
theorem dX11_isFactSo_159 : decode cX11_isFactSo 159 = .ok (.iload_n 1, 1) := by decide +kernel
theorem dX11_isFactSo_160 : decode cX11_isFactSo 160 = .ok (.iconst 2, 1) := by decide +kernel
theorem dX11_isFactSo_161 : decode cX11_isFactSo 161 = .ok (.iadd, 1) := by decide +kernel
theorem dX11_isFactSo_162 : decode cX11_isFactSo 162 = .ok (.iaload, 1) := by decide +kernel
theorem dX11_isFactSo_163 : decode cX11_isFactSo 163 = .ok (.iload_n 3, 1) := by decide +kernel
theorem dX11_isFactSo_164 : decode cX11_isFactSo 164 = .ok (.imul, 1) := by decide +kernel
theorem dX11_isFactSo_165 : decode cX11_isFactSo 165 = .ok (.if_icmp .le 7, 3) := by decide +kernel
theorem dX11_isFactSo_168 : decode cX11_isFactSo 168 = .ok (.iconst 1, 1) := by decide +kernel
theorem dX11_isFactSo_169 : decode cX11_isFactSo 169 = .ok (.goto 4, 3) := by decide +kernel
theorem dX11_isFactSo_172 : decode cX11_isFactSo 172 = .ok (.iconst 0, 1) := by decide +kernel
theorem dX11_isFactSo_173 : decode cX11_isFactSo 173 = .ok (.ireturn, 1) := by decide +kernel
theorem dX11_fitsFacts_0 : decode cX11_fitsFacts 0 = .ok (.iconst 0, 1) := by decide +kernel
theorem dX11_fitsFacts_1 : decode cX11_fitsFacts 1 = .ok (.istore_n 2, 1) := by decide +kernel
theorem dX11_fitsFacts_2 : decode cX11_fitsFacts 2 = .ok (.iload_n 2, 1) := by decide +kernel
theorem dX11_fitsFacts_3 : decode cX11_fitsFacts 3 = .ok (.aload_n 0, 1) := by decide +kernel
theorem dX11_fitsFacts_4 : decode cX11_fitsFacts 4 = .ok (.getfield 39, 3) := by decide +kernel
theorem dX11_fitsFacts_7 : decode cX11_fitsFacts 7 = .ok (.sipush 143, 3) := by decide +kernel
theorem dX11_fitsFacts_10 : decode cX11_fitsFacts 10 = .ok (.iaload, 1) := by decide +kernel
theorem dX11_fitsFacts_11 : decode cX11_fitsFacts 11 = .ok (.if_icmp .ge 25, 3) := by decide +kernel
theorem dX11_fitsFacts_14 : decode cX11_fitsFacts 14 = .ok (.aload_n 0, 1) := by decide +kernel
theorem dX11_fitsFacts_15 : decode cX11_fitsFacts 15 = .ok (.bipush 103, 2) := by decide +kernel
theorem dX11_fitsFacts_17 : decode cX11_fitsFacts 17 = .ok (.iconst 4, 1) := by decide +kernel
theorem dX11_fitsFacts_18 : decode cX11_fitsFacts 18 = .ok (.iload_n 2, 1) := by decide +kernel
theorem dX11_fitsFacts_19 : decode cX11_fitsFacts 19 = .ok (.imul, 1) := by decide +kernel
theorem dX11_fitsFacts_20 : decode cX11_fitsFacts 20 = .ok (.iadd, 1) := by decide +kernel
theorem dX11_fitsFacts_21 : decode cX11_fitsFacts 21 = .ok (.iload_n 1, 1) := by decide +kernel
theorem dX11_fitsFacts_22 : decode cX11_fitsFacts 22 = .ok (.invokevirtual 411, 3) := by decide +kernel
theorem dX11_fitsFacts_25 : decode cX11_fitsFacts 25 = .ok (.ifCond .ne 5, 3) := by decide +kernel
theorem dX11_fitsFacts_28 : decode cX11_fitsFacts 28 = .ok (.iconst 0, 1) := by decide +kernel
theorem dX11_fitsFacts_29 : decode cX11_fitsFacts 29 = .ok (.ireturn, 1) := by decide +kernel
theorem dX11_fitsFacts_30 : decode cX11_fitsFacts 30 = .ok (.iinc 2 1, 3) := by decide +kernel
theorem dX11_fitsFacts_33 : decode cX11_fitsFacts 33 = .ok (.goto (-31), 3) := by decide +kernel
theorem dX11_fitsFacts_36 : decode cX11_fitsFacts 36 = .ok (.iconst 1, 1) := by decide +kernel
theorem dX11_fitsFacts_37 : decode cX11_fitsFacts 37 = .ok (.ireturn, 1) := by decide +kernel
theorem dX11_slept_0 : decode cX11_slept 0 = .ok (.aload_n 0, 1) := by decide +kernel
theorem dX11_slept_1 : decode cX11_slept 1 = .ok (.invokevirtual 353, 3) := by decide +kernel
theorem dX11_slept_4 : decode cX11_slept 4 = .ok (.ifCond .eq 15, 3) := by decide +kernel
theorem dX11_slept_7 : decode cX11_slept 7 = .ok (.iload_n 1, 1) := by decide +kernel
theorem dX11_slept_8 : decode cX11_slept 8 = .ok (.i2l, 1) := by decide +kernel
theorem dX11_slept_9 : decode cX11_slept 9 = .ok (.lconst 0, 1) := by decide +kernel
theorem dX11_slept_10 : decode cX11_slept 10 = .ok (.ldc2_w 414, 3) := by decide +kernel
theorem dX11_slept_13 : decode cX11_slept 13 = .ok (.invokestatic 112, 3) := by decide +kernel
theorem dX11_slept_16 : decode cX11_slept 16 = .ok (.ifCond .ne 5, 3) := by decide +kernel
theorem dX11_slept_19 : decode cX11_slept 19 = .ok (.iconst (-1), 1) := by decide +kernel
theorem dX11_slept_20 : decode cX11_slept 20 = .ok (.ireturn, 1) := by decide +kernel
theorem dX11_slept_21 : decode cX11_slept 21 = .ok (.iconst 1, 1) := by decide +kernel
theorem dX11_slept_22 : decode cX11_slept 22 = .ok (.aload_n 0, 1) := by decide +kernel
theorem dX11_slept_23 : decode cX11_slept 23 = .ok (.getfield 39, 3) := by decide +kernel
theorem dX11_slept_26 : decode cX11_slept 26 = .ok (.iconst 1, 1) := by decide +kernel
theorem dX11_slept_27 : decode cX11_slept 27 = .ok (.iaload, 1) := by decide +kernel
theorem dX11_slept_28 : decode cX11_slept 28 = .ok (.ishl, 1) := by decide +kernel
theorem dX11_slept_29 : decode cX11_slept 29 = .ok (.iconst 1, 1) := by decide +kernel
theorem dX11_slept_30 : decode cX11_slept 30 = .ok (.isub, 1) := by decide +kernel
theorem dX11_slept_31 : decode cX11_slept 31 = .ok (.istore_n 2, 1) := by decide +kernel
theorem dX11_slept_32 : decode cX11_slept 32 = .ok (.iconst 0, 1) := by decide +kernel
theorem dX11_slept_33 : decode cX11_slept 33 = .ok (.istore_n 3, 1) := by decide +kernel
theorem dX11_slept_34 : decode cX11_slept 34 = .ok (.bipush (-2), 2) := by decide +kernel
theorem dX11_slept_36 : decode cX11_slept 36 = .ok (.istore 4, 2) := by decide +kernel
theorem dX11_slept_38 : decode cX11_slept 38 = .ok (.iload_n 2, 1) := by decide +kernel
theorem dX11_slept_39 : decode cX11_slept 39 = .ok (.istore 5, 2) := by decide +kernel
theorem dX11_slept_41 : decode cX11_slept 41 = .ok (.iload_n 2, 1) := by decide +kernel
theorem dX11_slept_42 : decode cX11_slept 42 = .ok (.istore 6, 2) := by decide +kernel
theorem dX11_slept_44 : decode cX11_slept 44 = .ok (.iconst 0, 1) := by decide +kernel
theorem dX11_slept_45 : decode cX11_slept 45 = .ok (.istore 7, 2) := by decide +kernel
theorem dX11_slept_47 : decode cX11_slept 47 = .ok (.iload 7, 2) := by decide +kernel
theorem dX11_slept_49 : decode cX11_slept 49 = .ok (.iload_n 2, 1) := by decide +kernel
theorem dX11_slept_50 : decode cX11_slept 50 = .ok (.if_icmp .gt 53, 3) := by decide +kernel
theorem dX11_slept_53 : decode cX11_slept 53 = .ok (.aload_n 0, 1) := by decide +kernel
theorem dX11_slept_54 : decode cX11_slept 54 = .ok (.iload 7, 2) := by decide +kernel
theorem dX11_slept_56 : decode cX11_slept 56 = .ok (.invokevirtual 416, 3) := by decide +kernel
theorem dX11_slept_59 : decode cX11_slept 59 = .ok (.ifCond .ne 6, 3) := by decide +kernel
theorem dX11_slept_62 : decode cX11_slept 62 = .ok (.goto 35, 3) := by decide +kernel
theorem dX11_slept_65 : decode cX11_slept 65 = .ok (.iload_n 3, 1) := by decide +kernel
theorem dX11_slept_66 : decode cX11_slept 66 = .ok (.ifCond .ne 8, 3) := by decide +kernel
theorem dX11_slept_69 : decode cX11_slept 69 = .ok (.iload 7, 2) := by decide +kernel
theorem dX11_slept_71 : decode cX11_slept 71 = .ok (.goto 5, 3) := by decide +kernel
theorem dX11_slept_74 : decode cX11_slept 74 = .ok (.iload 4, 2) := by decide +kernel
theorem dX11_slept_76 : decode cX11_slept 76 = .ok (.istore 4, 2) := by decide +kernel
theorem dX11_slept_78 : decode cX11_slept 78 = .ok (.iload 5, 2) := by decide +kernel
theorem dX11_slept_80 : decode cX11_slept 80 = .ok (.iload 7, 2) := by decide +kernel
theorem dX11_slept_82 : decode cX11_slept 82 = .ok (.iand, 1) := by decide +kernel
theorem dX11_slept_83 : decode cX11_slept 83 = .ok (.istore 5, 2) := by decide +kernel
theorem dX11_slept_85 : decode cX11_slept 85 = .ok (.iload 6, 2) := by decide +kernel
theorem dX11_slept_87 : decode cX11_slept 87 = .ok (.iload 7, 2) := by decide +kernel
theorem dX11_slept_89 : decode cX11_slept 89 = .ok (.iconst (-1), 1) := by decide +kernel
theorem dX11_slept_90 : decode cX11_slept 90 = .ok (.ixor, 1) := by decide +kernel
theorem dX11_slept_91 : decode cX11_slept 91 = .ok (.iand, 1) := by decide +kernel
theorem dX11_slept_92 : decode cX11_slept 92 = .ok (.istore 6, 2) := by decide +kernel
theorem dX11_slept_94 : decode cX11_slept 94 = .ok (.iinc 3 1, 3) := by decide +kernel
theorem dX11_slept_97 : decode cX11_slept 97 = .ok (.iinc 7 1, 3) := by decide +kernel
theorem dX11_slept_100 : decode cX11_slept 100 = .ok (.goto (-53), 3) := by decide +kernel
theorem dX11_slept_103 : decode cX11_slept 103 = .ok (.iload_n 1, 1) := by decide +kernel
theorem dX11_slept_104 : decode cX11_slept 104 = .ok (.iconst 2, 1) := by decide +kernel
theorem dX11_slept_105 : decode cX11_slept 105 = .ok (.if_icmp .ge 14, 3) := by decide +kernel
theorem dX11_slept_108 : decode cX11_slept 108 = .ok (.iload_n 1, 1) := by decide +kernel
theorem dX11_slept_109 : decode cX11_slept 109 = .ok (.ifCond .ne 7, 3) := by decide +kernel
theorem dX11_slept_112 : decode cX11_slept 112 = .ok (.iload_n 3, 1) := by decide +kernel
theorem dX11_slept_113 : decode cX11_slept 113 = .ok (.goto 5, 3) := by decide +kernel
theorem dX11_slept_116 : decode cX11_slept 116 = .ok (.iload 4, 2) := by decide +kernel
theorem dX11_slept_118 : decode cX11_slept 118 = .ok (.ireturn, 1) := by decide +kernel
theorem dX11_slept_119 : decode cX11_slept 119 = .ok (.iload_n 3, 1) := by decide +kernel
theorem dX11_slept_120 : decode cX11_slept 120 = .ok (.ifCond .ne 7, 3) := by decide +kernel
theorem dX11_slept_123 : decode cX11_slept 123 = .ok (.iconst 0, 1) := by decide +kernel
theorem dX11_slept_124 : decode cX11_slept 124 = .ok (.goto 15, 3) := by decide +kernel
theorem dX11_slept_127 : decode cX11_slept 127 = .ok (.iload_n 1, 1) := by decide +kernel
theorem dX11_slept_128 : decode cX11_slept 128 = .ok (.iconst 2, 1) := by decide +kernel
theorem dX11_slept_129 : decode cX11_slept 129 = .ok (.if_icmp .ne 8, 3) := by decide +kernel
theorem dX11_slept_132 : decode cX11_slept 132 = .ok (.iload 5, 2) := by decide +kernel
theorem dX11_slept_134 : decode cX11_slept 134 = .ok (.goto 5, 3) := by decide +kernel
theorem dX11_slept_137 : decode cX11_slept 137 = .ok (.iload 6, 2) := by decide +kernel
theorem dX11_slept_139 : decode cX11_slept 139 = .ok (.ireturn, 1) := by decide +kernel
theorem dX11_ask_0 : decode cX11_ask 0 = .ok (.aload_n 0, 1) := by decide +kernel
theorem dX11_ask_1 : decode cX11_ask 1 = .ok (.invokevirtual 353, 3) := by decide +kernel
theorem dX11_ask_4 : decode cX11_ask 4 = .ok (.ifCond .eq 13, 3) := by decide +kernel
theorem dX11_ask_7 : decode cX11_ask 7 = .ok (.iload_n 1, 1) := by decide +kernel
theorem dX11_ask_8 : decode cX11_ask 8 = .ok (.i2l, 1) := by decide +kernel
theorem dX11_ask_9 : decode cX11_ask 9 = .ok (.lconst 0, 1) := by decide +kernel
theorem dX11_ask_10 : decode cX11_ask 10 = .ok (.lconst 1, 1) := by decide +kernel
theorem dX11_ask_11 : decode cX11_ask 11 = .ok (.invokestatic 112, 3) := by decide +kernel
theorem dX11_ask_14 : decode cX11_ask 14 = .ok (.ifCond .ne 5, 3) := by decide +kernel
theorem dX11_ask_17 : decode cX11_ask 17 = .ok (.iconst (-1), 1) := by decide +kernel
theorem dX11_ask_18 : decode cX11_ask 18 = .ok (.ireturn, 1) := by decide +kernel
theorem dX11_ask_19 : decode cX11_ask 19 = .ok (.bipush (-2), 2) := by decide +kernel
theorem dX11_ask_21 : decode cX11_ask 21 = .ok (.istore_n 2, 1) := by decide +kernel
theorem dX11_ask_22 : decode cX11_ask 22 = .ok (.bipush (-2), 2) := by decide +kernel
theorem dX11_ask_24 : decode cX11_ask 24 = .ok (.istore_n 3, 1) := by decide +kernel
theorem dX11_ask_25 : decode cX11_ask 25 = .ok (.iconst 0, 1) := by decide +kernel
theorem dX11_ask_26 : decode cX11_ask 26 = .ok (.istore 4, 2) := by decide +kernel
theorem dX11_ask_28 : decode cX11_ask 28 = .ok (.iload 4, 2) := by decide +kernel
theorem dX11_ask_30 : decode cX11_ask 30 = .ok (.aload_n 0, 1) := by decide +kernel
theorem dX11_ask_31 : decode cX11_ask 31 = .ok (.getfield 39, 3) := by decide +kernel
theorem dX11_ask_34 : decode cX11_ask 34 = .ok (.iconst 1, 1) := by decide +kernel
theorem dX11_ask_35 : decode cX11_ask 35 = .ok (.iaload, 1) := by decide +kernel
theorem dX11_ask_36 : decode cX11_ask 36 = .ok (.if_icmp .ge 108, 3) := by decide +kernel
theorem dX11_ask_39 : decode cX11_ask 39 = .ok (.iconst 0, 1) := by decide +kernel
theorem dX11_ask_40 : decode cX11_ask 40 = .ok (.istore 5, 2) := by decide +kernel
theorem dX11_ask_42 : decode cX11_ask 42 = .ok (.iconst 0, 1) := by decide +kernel
theorem dX11_ask_43 : decode cX11_ask 43 = .ok (.istore 6, 2) := by decide +kernel
theorem dX11_ask_45 : decode cX11_ask 45 = .ok (.iconst 0, 1) := by decide +kernel
theorem dX11_ask_46 : decode cX11_ask 46 = .ok (.istore 7, 2) := by decide +kernel
theorem dX11_ask_48 : decode cX11_ask 48 = .ok (.iload 7, 2) := by decide +kernel
theorem dX11_ask_50 : decode cX11_ask 50 = .ok (.iconst 1, 1) := by decide +kernel
theorem dX11_ask_51 : decode cX11_ask 51 = .ok (.aload_n 0, 1) := by decide +kernel
theorem dX11_ask_52 : decode cX11_ask 52 = .ok (.getfield 39, 3) := by decide +kernel
theorem dX11_ask_55 : decode cX11_ask 55 = .ok (.iconst 1, 1) := by decide +kernel
theorem dX11_ask_56 : decode cX11_ask 56 = .ok (.iaload, 1) := by decide +kernel
theorem dX11_ask_57 : decode cX11_ask 57 = .ok (.ishl, 1) := by decide +kernel
theorem dX11_ask_58 : decode cX11_ask 58 = .ok (.if_icmp .ge 40, 3) := by decide +kernel
theorem dX11_ask_61 : decode cX11_ask 61 = .ok (.aload_n 0, 1) := by decide +kernel
theorem dX11_ask_62 : decode cX11_ask 62 = .ok (.iload 7, 2) := by decide +kernel
theorem dX11_ask_64 : decode cX11_ask 64 = .ok (.invokevirtual 416, 3) := by decide +kernel
theorem dX11_ask_67 : decode cX11_ask 67 = .ok (.ifCond .ne 6, 3) := by decide +kernel
theorem dX11_ask_70 : decode cX11_ask 70 = .ok (.goto 22, 3) := by decide +kernel
theorem dX11_ask_73 : decode cX11_ask 73 = .ok (.iload 7, 2) := by decide +kernel
theorem dX11_ask_75 : decode cX11_ask 75 = .ok (.iload 4, 2) := by decide +kernel
theorem dX11_ask_77 : decode cX11_ask 77 = .ok (.invokestatic 377, 3) := by decide +kernel
theorem dX11_ask_80 : decode cX11_ask 80 = .ok (.ifCond .eq 9, 3) := by decide +kernel
theorem dX11_ask_83 : decode cX11_ask 83 = .ok (.iinc 5 1, 3) := by decide +kernel
theorem dX11_ask_86 : decode cX11_ask 86 = .ok (.goto 6, 3) := by decide +kernel
theorem dX11_ask_89 : decode cX11_ask 89 = .ok (.iinc 6 1, 3) := by decide +kernel
theorem dX11_ask_92 : decode cX11_ask 92 = .ok (.iinc 7 1, 3) := by decide +kernel
theorem dX11_ask_95 : decode cX11_ask 95 = .ok (.goto (-47), 3) := by decide +kernel
theorem dX11_ask_98 : decode cX11_ask 98 = .ok (.iload 5, 2) := by decide +kernel
theorem dX11_ask_100 : decode cX11_ask 100 = .ok (.iload 6, 2) := by decide +kernel
theorem dX11_ask_102 : decode cX11_ask 102 = .ok (.if_icmp .le 8, 3) := by decide +kernel
theorem dX11_ask_105 : decode cX11_ask 105 = .ok (.iload 5, 2) := by decide +kernel
theorem dX11_ask_107 : decode cX11_ask 107 = .ok (.goto 5, 3) := by decide +kernel
theorem dX11_ask_110 : decode cX11_ask 110 = .ok (.iload 6, 2) := by decide +kernel
theorem dX11_ask_112 : decode cX11_ask 112 = .ok (.istore 7, 2) := by decide +kernel
theorem dX11_ask_114 : decode cX11_ask 114 = .ok (.iload 7, 2) := by decide +kernel
theorem dX11_ask_116 : decode cX11_ask 116 = .ok (.ifCond .eq 22, 3) := by decide +kernel
theorem dX11_ask_119 : decode cX11_ask 119 = .ok (.iload_n 2, 1) := by decide +kernel
theorem dX11_ask_120 : decode cX11_ask 120 = .ok (.ifCond .lt 12, 3) := by decide +kernel
theorem dX11_ask_123 : decode cX11_ask 123 = .ok (.iload 7, 2) := by decide +kernel
theorem dX11_ask_125 : decode cX11_ask 125 = .ok (.iload_n 3, 1) := by decide +kernel
theorem dX11_ask_126 : decode cX11_ask 126 = .ok (.if_icmp .lt 6, 3) := by decide +kernel
theorem dX11_ask_129 : decode cX11_ask 129 = .ok (.goto 9, 3) := by decide +kernel
theorem dX11_ask_132 : decode cX11_ask 132 = .ok (.iload 4, 2) := by decide +kernel
theorem dX11_ask_134 : decode cX11_ask 134 = .ok (.istore_n 2, 1) := by decide +kernel
theorem dX11_ask_135 : decode cX11_ask 135 = .ok (.iload 7, 2) := by decide +kernel
theorem dX11_ask_137 : decode cX11_ask 137 = .ok (.istore_n 3, 1) := by decide +kernel
theorem dX11_ask_138 : decode cX11_ask 138 = .ok (.iinc 4 1, 3) := by decide +kernel
theorem dX11_ask_141 : decode cX11_ask 141 = .ok (.goto (-113), 3) := by decide +kernel
theorem dX11_ask_144 : decode cX11_ask 144 = .ok (.iload_n 1, 1) := by decide +kernel
theorem dX11_ask_145 : decode cX11_ask 145 = .ok (.ifCond .ne 7, 3) := by decide +kernel
theorem dX11_ask_148 : decode cX11_ask 148 = .ok (.iload_n 2, 1) := by decide +kernel
theorem dX11_ask_149 : decode cX11_ask 149 = .ok (.goto 4, 3) := by decide +kernel
theorem dX11_ask_152 : decode cX11_ask 152 = .ok (.iload_n 3, 1) := by decide +kernel
theorem dX11_ask_153 : decode cX11_ask 153 = .ok (.ireturn, 1) := by decide +kernel
theorem dX11_toldCost_0 : decode cX11_toldCost 0 = .ok (.iconst 0, 1) := by decide +kernel
theorem dX11_toldCost_1 : decode cX11_toldCost 1 = .ok (.istore_n 2, 1) := by decide +kernel
theorem dX11_toldCost_2 : decode cX11_toldCost 2 = .ok (.iconst 0, 1) := by decide +kernel
theorem dX11_toldCost_3 : decode cX11_toldCost 3 = .ok (.istore_n 3, 1) := by decide +kernel
theorem dX11_toldCost_4 : decode cX11_toldCost 4 = .ok (.iload_n 3, 1) := by decide +kernel
theorem dX11_toldCost_5 : decode cX11_toldCost 5 = .ok (.aload_n 0, 1) := by decide +kernel
theorem dX11_toldCost_6 : decode cX11_toldCost 6 = .ok (.getfield 39, 3) := by decide +kernel
theorem dX11_toldCost_9 : decode cX11_toldCost 9 = .ok (.iconst 3, 1) := by decide +kernel
theorem dX11_toldCost_10 : decode cX11_toldCost 10 = .ok (.iaload, 1) := by decide +kernel
theorem dX11_toldCost_11 : decode cX11_toldCost 11 = .ok (.if_icmp .ge 30, 3) := by decide +kernel
theorem dX11_toldCost_14 : decode cX11_toldCost 14 = .ok (.iload_n 2, 1) := by decide +kernel
theorem dX11_toldCost_15 : decode cX11_toldCost 15 = .ok (.aload_n 0, 1) := by decide +kernel
theorem dX11_toldCost_16 : decode cX11_toldCost 16 = .ok (.iload_n 3, 1) := by decide +kernel
theorem dX11_toldCost_17 : decode cX11_toldCost 17 = .ok (.iload_n 1, 1) := by decide +kernel
theorem dX11_toldCost_18 : decode cX11_toldCost 18 = .ok (.invokevirtual 285, 3) := by decide +kernel
theorem dX11_toldCost_21 : decode cX11_toldCost 21 = .ok (.ifCond .eq 11, 3) := by decide +kernel
theorem dX11_toldCost_24 : decode cX11_toldCost 24 = .ok (.aload_n 0, 1) := by decide +kernel
theorem dX11_toldCost_25 : decode cX11_toldCost 25 = .ok (.iload_n 3, 1) := by decide +kernel
theorem dX11_toldCost_26 : decode cX11_toldCost 26 = .ok (.invokevirtual 291, 3) := by decide +kernel
theorem dX11_toldCost_29 : decode cX11_toldCost 29 = .ok (.goto 4, 3) := by decide +kernel
theorem dX11_toldCost_32 : decode cX11_toldCost 32 = .ok (.iconst 0, 1) := by decide +kernel
theorem dX11_toldCost_33 : decode cX11_toldCost 33 = .ok (.iadd, 1) := by decide +kernel
theorem dX11_toldCost_34 : decode cX11_toldCost 34 = .ok (.istore_n 2, 1) := by decide +kernel
theorem dX11_toldCost_35 : decode cX11_toldCost 35 = .ok (.iinc 3 1, 3) := by decide +kernel
theorem dX11_toldCost_38 : decode cX11_toldCost 38 = .ok (.goto (-34), 3) := by decide +kernel
theorem dX11_toldCost_41 : decode cX11_toldCost 41 = .ok (.iload_n 2, 1) := by decide +kernel
theorem dX11_toldCost_42 : decode cX11_toldCost 42 = .ok (.ireturn, 1) := by decide +kernel
theorem dX11_fillsNight_0 : decode cX11_fillsNight 0 = .ok (.iconst 0, 1) := by decide +kernel
theorem dX11_fillsNight_1 : decode cX11_fillsNight 1 = .ok (.istore_n 2, 1) := by decide +kernel
theorem dX11_fillsNight_2 : decode cX11_fillsNight 2 = .ok (.iload_n 2, 1) := by decide +kernel
theorem dX11_fillsNight_3 : decode cX11_fillsNight 3 = .ok (.bipush 10, 2) := by decide +kernel
theorem dX11_fillsNight_5 : decode cX11_fillsNight 5 = .ok (.if_icmp .gt 16, 3) := by decide +kernel
theorem dX11_fillsNight_8 : decode cX11_fillsNight 8 = .ok (.aload_n 0, 1) := by decide +kernel
theorem dX11_fillsNight_9 : decode cX11_fillsNight 9 = .ok (.getfield 55, 3) := by decide +kernel
theorem dX11_fillsNight_12 : decode cX11_fillsNight 12 = .ok (.iload_n 2, 1) := by decide +kernel
theorem dX11_fillsNight_13 : decode cX11_fillsNight 13 = .ok (.iconst (-1), 1) := by decide +kernel
theorem dX11_fillsNight_14 : decode cX11_fillsNight 14 = .ok (.iastore, 1) := by decide +kernel
theorem dX11_fillsNight_15 : decode cX11_fillsNight 15 = .ok (.iinc 2 1, 3) := by decide +kernel
theorem dX11_fillsNight_18 : decode cX11_fillsNight 18 = .ok (.goto (-16), 3) := by decide +kernel
theorem dX11_fillsNight_21 : decode cX11_fillsNight 21 = .ok (.iconst 0, 1) := by decide +kernel
theorem dX11_fillsNight_22 : decode cX11_fillsNight 22 = .ok (.istore_n 2, 1) := by decide +kernel
theorem dX11_fillsNight_23 : decode cX11_fillsNight 23 = .ok (.iload_n 2, 1) := by decide +kernel
theorem dX11_fillsNight_24 : decode cX11_fillsNight 24 = .ok (.iconst 1, 1) := by decide +kernel
theorem dX11_fillsNight_25 : decode cX11_fillsNight 25 = .ok (.aload_n 0, 1) := by decide +kernel
theorem dX11_fillsNight_26 : decode cX11_fillsNight 26 = .ok (.getfield 39, 3) := by decide +kernel
theorem dX11_fillsNight_29 : decode cX11_fillsNight 29 = .ok (.iconst 0, 1) := by decide +kernel
theorem dX11_fillsNight_30 : decode cX11_fillsNight 30 = .ok (.iaload, 1) := by decide +kernel
theorem dX11_fillsNight_31 : decode cX11_fillsNight 31 = .ok (.ishl, 1) := by decide +kernel
theorem dX11_fillsNight_32 : decode cX11_fillsNight 32 = .ok (.if_icmp .ge 117, 3) := by decide +kernel
theorem dX11_fillsNight_35 : decode cX11_fillsNight 35 = .ok (.iconst 0, 1) := by decide +kernel
theorem dX11_fillsNight_36 : decode cX11_fillsNight 36 = .ok (.istore_n 3, 1) := by decide +kernel
theorem dX11_fillsNight_37 : decode cX11_fillsNight 37 = .ok (.iconst 1, 1) := by decide +kernel
theorem dX11_fillsNight_38 : decode cX11_fillsNight 38 = .ok (.istore 4, 2) := by decide +kernel
theorem dX11_fillsNight_40 : decode cX11_fillsNight 40 = .ok (.iconst 0, 1) := by decide +kernel
theorem dX11_fillsNight_41 : decode cX11_fillsNight 41 = .ok (.istore 5, 2) := by decide +kernel
theorem dX11_fillsNight_43 : decode cX11_fillsNight 43 = .ok (.iload 5, 2) := by decide +kernel
theorem dX11_fillsNight_45 : decode cX11_fillsNight 45 = .ok (.aload_n 0, 1) := by decide +kernel
theorem dX11_fillsNight_46 : decode cX11_fillsNight 46 = .ok (.getfield 39, 3) := by decide +kernel
theorem dX11_fillsNight_49 : decode cX11_fillsNight 49 = .ok (.iconst 0, 1) := by decide +kernel
theorem dX11_fillsNight_50 : decode cX11_fillsNight 50 = .ok (.iaload, 1) := by decide +kernel
theorem dX11_fillsNight_51 : decode cX11_fillsNight 51 = .ok (.if_icmp .ge 52, 3) := by decide +kernel
theorem dX11_fillsNight_54 : decode cX11_fillsNight 54 = .ok (.iload_n 2, 1) := by decide +kernel
theorem dX11_fillsNight_55 : decode cX11_fillsNight 55 = .ok (.iload 5, 2) := by decide +kernel
theorem dX11_fillsNight_57 : decode cX11_fillsNight 57 = .ok (.invokestatic 377, 3) := by decide +kernel
theorem dX11_fillsNight_60 : decode cX11_fillsNight 60 = .ok (.ifCond .ne 6, 3) := by decide +kernel
theorem dX11_fillsNight_63 : decode cX11_fillsNight 63 = .ok (.goto 34, 3) := by decide +kernel
theorem dX11_fillsNight_66 : decode cX11_fillsNight 66 = .ok (.iload 4, 2) := by decide +kernel
theorem dX11_fillsNight_68 : decode cX11_fillsNight 68 = .ok (.ifCond .eq 17, 3) := by decide +kernel
theorem dX11_fillsNight_71 : decode cX11_fillsNight 71 = .ok (.aload_n 0, 1) := by decide +kernel
theorem dX11_fillsNight_72 : decode cX11_fillsNight 72 = .ok (.iload_n 1, 1) := by decide +kernel
theorem dX11_fillsNight_73 : decode cX11_fillsNight 73 = .ok (.iload 5, 2) := by decide +kernel
theorem dX11_fillsNight_75 : decode cX11_fillsNight 75 = .ok (.invokevirtual 298, 3) := by decide +kernel
theorem dX11_fillsNight_78 : decode cX11_fillsNight 78 = .ok (.ifCond .ne 7, 3) := by decide +kernel
theorem dX11_fillsNight_81 : decode cX11_fillsNight 81 = .ok (.iconst 1, 1) := by decide +kernel
theorem dX11_fillsNight_82 : decode cX11_fillsNight 82 = .ok (.goto 4, 3) := by decide +kernel
theorem dX11_fillsNight_85 : decode cX11_fillsNight 85 = .ok (.iconst 0, 1) := by decide +kernel
theorem dX11_fillsNight_86 : decode cX11_fillsNight 86 = .ok (.istore 4, 2) := by decide +kernel
theorem dX11_fillsNight_88 : decode cX11_fillsNight 88 = .ok (.iload_n 3, 1) := by decide +kernel
theorem dX11_fillsNight_89 : decode cX11_fillsNight 89 = .ok (.aload_n 0, 1) := by decide +kernel
theorem dX11_fillsNight_90 : decode cX11_fillsNight 90 = .ok (.iload 5, 2) := by decide +kernel
theorem dX11_fillsNight_92 : decode cX11_fillsNight 92 = .ok (.invokevirtual 419, 3) := by decide +kernel
theorem dX11_fillsNight_95 : decode cX11_fillsNight 95 = .ok (.iadd, 1) := by decide +kernel
theorem dX11_fillsNight_96 : decode cX11_fillsNight 96 = .ok (.istore_n 3, 1) := by decide +kernel
theorem dX11_fillsNight_97 : decode cX11_fillsNight 97 = .ok (.iinc 5 1, 3) := by decide +kernel
theorem dX11_fillsNight_100 : decode cX11_fillsNight 100 = .ok (.goto (-57), 3) := by decide +kernel
theorem dX11_fillsNight_103 : decode cX11_fillsNight 103 = .ok (.iload_n 2, 1) := by decide +kernel
theorem dX11_fillsNight_104 : decode cX11_fillsNight 104 = .ok (.invokestatic 320, 3) := by decide +kernel
theorem dX11_fillsNight_107 : decode cX11_fillsNight 107 = .ok (.istore 5, 2) := by decide +kernel
theorem dX11_fillsNight_109 : decode cX11_fillsNight 109 = .ok (.iload 4, 2) := by decide +kernel
theorem dX11_fillsNight_111 : decode cX11_fillsNight 111 = .ok (.ifCond .eq 32, 3) := by decide +kernel
theorem dX11_fillsNight_114 : decode cX11_fillsNight 114 = .ok (.aload_n 0, 1) := by decide +kernel
theorem dX11_fillsNight_115 : decode cX11_fillsNight 115 = .ok (.getfield 55, 3) := by decide +kernel
theorem dX11_fillsNight_118 : decode cX11_fillsNight 118 = .ok (.iload 5, 2) := by decide +kernel
theorem dX11_fillsNight_120 : decode cX11_fillsNight 120 = .ok (.iaload, 1) := by decide +kernel
theorem dX11_fillsNight_121 : decode cX11_fillsNight 121 = .ok (.ifCond .lt 14, 3) := by decide +kernel
theorem dX11_fillsNight_124 : decode cX11_fillsNight 124 = .ok (.iload_n 3, 1) := by decide +kernel
theorem dX11_fillsNight_125 : decode cX11_fillsNight 125 = .ok (.aload_n 0, 1) := by decide +kernel
theorem dX11_fillsNight_126 : decode cX11_fillsNight 126 = .ok (.getfield 55, 3) := by decide +kernel
theorem dX11_fillsNight_129 : decode cX11_fillsNight 129 = .ok (.iload 5, 2) := by decide +kernel
theorem dX11_fillsNight_131 : decode cX11_fillsNight 131 = .ok (.iaload, 1) := by decide +kernel
theorem dX11_fillsNight_132 : decode cX11_fillsNight 132 = .ok (.if_icmp .ge 11, 3) := by decide +kernel
theorem dX11_fillsNight_135 : decode cX11_fillsNight 135 = .ok (.aload_n 0, 1) := by decide +kernel
theorem dX11_fillsNight_136 : decode cX11_fillsNight 136 = .ok (.getfield 55, 3) := by decide +kernel
theorem dX11_fillsNight_139 : decode cX11_fillsNight 139 = .ok (.iload 5, 2) := by decide +kernel
theorem dX11_fillsNight_141 : decode cX11_fillsNight 141 = .ok (.iload_n 3, 1) := by decide +kernel
theorem dX11_fillsNight_142 : decode cX11_fillsNight 142 = .ok (.iastore, 1) := by decide +kernel
theorem dX11_fillsNight_143 : decode cX11_fillsNight 143 = .ok (.iinc 2 1, 3) := by decide +kernel
theorem dX11_fillsNight_146 : decode cX11_fillsNight 146 = .ok (.goto (-123), 3) := by decide +kernel
theorem dX11_fillsNight_149 : decode cX11_fillsNight 149 = .ok (.return_, 1) := by decide +kernel
theorem dX11_leastOf_0 : decode cX11_leastOf 0 = .ok (.aload_n 0, 1) := by decide +kernel
theorem dX11_leastOf_1 : decode cX11_leastOf 1 = .ok (.getfield 58, 3) := by decide +kernel
theorem dX11_leastOf_4 : decode cX11_leastOf 4 = .ok (.bipush 81, 2) := by decide +kernel
theorem dX11_leastOf_6 : decode cX11_leastOf 6 = .ok (.iload_n 1, 1) := by decide +kernel
theorem dX11_leastOf_7 : decode cX11_leastOf 7 = .ok (.imul, 1) := by decide +kernel
theorem dX11_leastOf_8 : decode cX11_leastOf 8 = .ok (.iload_n 2, 1) := by decide +kernel
theorem dX11_leastOf_9 : decode cX11_leastOf 9 = .ok (.ifCond .ge 7, 3) := by decide +kernel
theorem dX11_leastOf_12 : decode cX11_leastOf 12 = .ok (.iconst 0, 1) := by decide +kernel
theorem dX11_leastOf_13 : decode cX11_leastOf 13 = .ok (.goto 4, 3) := by decide +kernel
theorem dX11_leastOf_16 : decode cX11_leastOf 16 = .ok (.iload_n 2, 1) := by decide +kernel
theorem dX11_leastOf_17 : decode cX11_leastOf 17 = .ok (.iadd, 1) := by decide +kernel
theorem dX11_leastOf_18 : decode cX11_leastOf 18 = .ok (.iaload, 1) := by decide +kernel
theorem dX11_leastOf_19 : decode cX11_leastOf 19 = .ok (.ireturn, 1) := by decide +kernel
theorem dX11_costBy_0 : decode cX11_costBy 0 = .ok (.iload 4, 2) := by decide +kernel
theorem dX11_costBy_2 : decode cX11_costBy 2 = .ok (.aload_n 0, 1) := by decide +kernel
theorem dX11_costBy_3 : decode cX11_costBy 3 = .ok (.iload_n 1, 1) := by decide +kernel
theorem dX11_costBy_4 : decode cX11_costBy 4 = .ok (.iconst 0, 1) := by decide +kernel
theorem dX11_costBy_5 : decode cX11_costBy 5 = .ok (.invokevirtual 294, 3) := by decide +kernel
theorem dX11_costBy_8 : decode cX11_costBy 8 = .ok (.if_icmp .gt 27, 3) := by decide +kernel
theorem dX11_costBy_11 : decode cX11_costBy 11 = .ok (.aload_n 0, 1) := by decide +kernel
theorem dX11_costBy_12 : decode cX11_costBy 12 = .ok (.getfield 55, 3) := by decide +kernel
theorem dX11_costBy_15 : decode cX11_costBy 15 = .ok (.iload 4, 2) := by decide +kernel
theorem dX11_costBy_17 : decode cX11_costBy 17 = .ok (.iaload, 1) := by decide +kernel
theorem dX11_costBy_18 : decode cX11_costBy 18 = .ok (.ifCond .lt 17, 3) := by decide +kernel
theorem dX11_costBy_21 : decode cX11_costBy 21 = .ok (.aload_n 0, 1) := by decide +kernel
theorem dX11_costBy_22 : decode cX11_costBy 22 = .ok (.iload_n 2, 1) := by decide +kernel
theorem dX11_costBy_23 : decode cX11_costBy 23 = .ok (.iconst 1, 1) := by decide +kernel
theorem dX11_costBy_24 : decode cX11_costBy 24 = .ok (.isub, 1) := by decide +kernel
theorem dX11_costBy_25 : decode cX11_costBy 25 = .ok (.iload_n 3, 1) := by decide +kernel
theorem dX11_costBy_26 : decode cX11_costBy 26 = .ok (.iload 4, 2) := by decide +kernel
theorem dX11_costBy_28 : decode cX11_costBy 28 = .ok (.isub, 1) := by decide +kernel
theorem dX11_costBy_29 : decode cX11_costBy 29 = .ok (.invokevirtual 422, 3) := by decide +kernel
theorem dX11_costBy_32 : decode cX11_costBy 32 = .ok (.ifCond .ge 5, 3) := by decide +kernel
theorem dX11_costBy_35 : decode cX11_costBy 35 = .ok (.iconst (-1), 1) := by decide +kernel
theorem dX11_costBy_36 : decode cX11_costBy 36 = .ok (.ireturn, 1) := by decide +kernel
theorem dX11_costBy_37 : decode cX11_costBy 37 = .ok (.aload_n 0, 1) := by decide +kernel
theorem dX11_costBy_38 : decode cX11_costBy 38 = .ok (.getfield 55, 3) := by decide +kernel
theorem dX11_costBy_41 : decode cX11_costBy 41 = .ok (.iload 4, 2) := by decide +kernel
theorem dX11_costBy_43 : decode cX11_costBy 43 = .ok (.iaload, 1) := by decide +kernel
theorem dX11_costBy_44 : decode cX11_costBy 44 = .ok (.aload_n 0, 1) := by decide +kernel
theorem dX11_costBy_45 : decode cX11_costBy 45 = .ok (.iload_n 2, 1) := by decide +kernel
theorem dX11_costBy_46 : decode cX11_costBy 46 = .ok (.iconst 1, 1) := by decide +kernel
theorem dX11_costBy_47 : decode cX11_costBy 47 = .ok (.isub, 1) := by decide +kernel
theorem dX11_costBy_48 : decode cX11_costBy 48 = .ok (.iload_n 3, 1) := by decide +kernel
theorem dX11_costBy_49 : decode cX11_costBy 49 = .ok (.iload 4, 2) := by decide +kernel
theorem dX11_costBy_51 : decode cX11_costBy 51 = .ok (.isub, 1) := by decide +kernel
theorem dX11_costBy_52 : decode cX11_costBy 52 = .ok (.invokevirtual 422, 3) := by decide +kernel
theorem dX11_costBy_55 : decode cX11_costBy 55 = .ok (.iadd, 1) := by decide +kernel
theorem dX11_costBy_56 : decode cX11_costBy 56 = .ok (.ireturn, 1) := by decide +kernel
theorem dX11_fillsLeast_0 : decode cX11_fillsLeast 0 = .ok (.iconst 0, 1) := by decide +kernel
theorem dX11_fillsLeast_1 : decode cX11_fillsLeast 1 = .ok (.istore_n 3, 1) := by decide +kernel
theorem dX11_fillsLeast_2 : decode cX11_fillsLeast 2 = .ok (.iload_n 3, 1) := by decide +kernel
theorem dX11_fillsLeast_3 : decode cX11_fillsLeast 3 = .ok (.bipush 80, 2) := by decide +kernel
theorem dX11_fillsLeast_5 : decode cX11_fillsLeast 5 = .ok (.if_icmp .gt 24, 3) := by decide +kernel
theorem dX11_fillsLeast_8 : decode cX11_fillsLeast 8 = .ok (.aload_n 0, 1) := by decide +kernel
theorem dX11_fillsLeast_9 : decode cX11_fillsLeast 9 = .ok (.getfield 58, 3) := by decide +kernel
theorem dX11_fillsLeast_12 : decode cX11_fillsLeast 12 = .ok (.iload_n 3, 1) := by decide +kernel
theorem dX11_fillsLeast_13 : decode cX11_fillsLeast 13 = .ok (.iload_n 3, 1) := by decide +kernel
theorem dX11_fillsLeast_14 : decode cX11_fillsLeast 14 = .ok (.ifCond .ne 7, 3) := by decide +kernel
theorem dX11_fillsLeast_17 : decode cX11_fillsLeast 17 = .ok (.iconst 0, 1) := by decide +kernel
theorem dX11_fillsLeast_18 : decode cX11_fillsLeast 18 = .ok (.goto 4, 3) := by decide +kernel
theorem dX11_fillsLeast_21 : decode cX11_fillsLeast 21 = .ok (.iconst (-1), 1) := by decide +kernel
theorem dX11_fillsLeast_22 : decode cX11_fillsLeast 22 = .ok (.iastore, 1) := by decide +kernel
theorem dX11_fillsLeast_23 : decode cX11_fillsLeast 23 = .ok (.iinc 3 1, 3) := by decide +kernel
theorem dX11_fillsLeast_26 : decode cX11_fillsLeast 26 = .ok (.goto (-24), 3) := by decide +kernel
theorem dX11_fillsLeast_29 : decode cX11_fillsLeast 29 = .ok (.iconst 1, 1) := by decide +kernel
theorem dX11_fillsLeast_30 : decode cX11_fillsLeast 30 = .ok (.istore_n 3, 1) := by decide +kernel
theorem dX11_fillsLeast_31 : decode cX11_fillsLeast 31 = .ok (.iload_n 3, 1) := by decide +kernel
theorem dX11_fillsLeast_32 : decode cX11_fillsLeast 32 = .ok (.iload_n 2, 1) := by decide +kernel
theorem dX11_fillsLeast_33 : decode cX11_fillsLeast 33 = .ok (.if_icmp .gt 91, 3) := by decide +kernel
theorem dX11_fillsLeast_36 : decode cX11_fillsLeast 36 = .ok (.iconst 0, 1) := by decide +kernel
theorem dX11_fillsLeast_37 : decode cX11_fillsLeast 37 = .ok (.istore 4, 2) := by decide +kernel
theorem dX11_fillsLeast_39 : decode cX11_fillsLeast 39 = .ok (.iload 4, 2) := by decide +kernel
theorem dX11_fillsLeast_41 : decode cX11_fillsLeast 41 = .ok (.bipush 80, 2) := by decide +kernel
theorem dX11_fillsLeast_43 : decode cX11_fillsLeast 43 = .ok (.if_icmp .gt 75, 3) := by decide +kernel
theorem dX11_fillsLeast_46 : decode cX11_fillsLeast 46 = .ok (.iconst (-1), 1) := by decide +kernel
theorem dX11_fillsLeast_47 : decode cX11_fillsLeast 47 = .ok (.istore 5, 2) := by decide +kernel
theorem dX11_fillsLeast_49 : decode cX11_fillsLeast 49 = .ok (.iconst 0, 1) := by decide +kernel
theorem dX11_fillsLeast_50 : decode cX11_fillsLeast 50 = .ok (.istore 6, 2) := by decide +kernel
theorem dX11_fillsLeast_52 : decode cX11_fillsLeast 52 = .ok (.iload 6, 2) := by decide +kernel
theorem dX11_fillsLeast_54 : decode cX11_fillsLeast 54 = .ok (.bipush 10, 2) := by decide +kernel
theorem dX11_fillsLeast_56 : decode cX11_fillsLeast 56 = .ok (.if_icmp .gt 42, 3) := by decide +kernel
theorem dX11_fillsLeast_59 : decode cX11_fillsLeast 59 = .ok (.aload_n 0, 1) := by decide +kernel
theorem dX11_fillsLeast_60 : decode cX11_fillsLeast 60 = .ok (.iload_n 1, 1) := by decide +kernel
theorem dX11_fillsLeast_61 : decode cX11_fillsLeast 61 = .ok (.iload_n 3, 1) := by decide +kernel
theorem dX11_fillsLeast_62 : decode cX11_fillsLeast 62 = .ok (.iload 4, 2) := by decide +kernel
theorem dX11_fillsLeast_64 : decode cX11_fillsLeast 64 = .ok (.iload 6, 2) := by decide +kernel
theorem dX11_fillsLeast_66 : decode cX11_fillsLeast 66 = .ok (.invokevirtual 425, 3) := by decide +kernel
theorem dX11_fillsLeast_69 : decode cX11_fillsLeast 69 = .ok (.istore 7, 2) := by decide +kernel
theorem dX11_fillsLeast_71 : decode cX11_fillsLeast 71 = .ok (.iload 7, 2) := by decide +kernel
theorem dX11_fillsLeast_73 : decode cX11_fillsLeast 73 = .ok (.ifCond .lt 19, 3) := by decide +kernel
theorem dX11_fillsLeast_76 : decode cX11_fillsLeast 76 = .ok (.iload 5, 2) := by decide +kernel
theorem dX11_fillsLeast_78 : decode cX11_fillsLeast 78 = .ok (.ifCond .lt 10, 3) := by decide +kernel
theorem dX11_fillsLeast_81 : decode cX11_fillsLeast 81 = .ok (.iload 7, 2) := by decide +kernel
theorem dX11_fillsLeast_83 : decode cX11_fillsLeast 83 = .ok (.iload 5, 2) := by decide +kernel
theorem dX11_fillsLeast_85 : decode cX11_fillsLeast 85 = .ok (.if_icmp .ge 7, 3) := by decide +kernel
theorem dX11_fillsLeast_88 : decode cX11_fillsLeast 88 = .ok (.iload 7, 2) := by decide +kernel
theorem dX11_fillsLeast_90 : decode cX11_fillsLeast 90 = .ok (.istore 5, 2) := by decide +kernel
theorem dX11_fillsLeast_92 : decode cX11_fillsLeast 92 = .ok (.iinc 6 1, 3) := by decide +kernel
theorem dX11_fillsLeast_95 : decode cX11_fillsLeast 95 = .ok (.goto (-43), 3) := by decide +kernel
theorem dX11_fillsLeast_98 : decode cX11_fillsLeast 98 = .ok (.aload_n 0, 1) := by decide +kernel
theorem dX11_fillsLeast_99 : decode cX11_fillsLeast 99 = .ok (.getfield 58, 3) := by decide +kernel
theorem dX11_fillsLeast_102 : decode cX11_fillsLeast 102 = .ok (.bipush 81, 2) := by decide +kernel
theorem dX11_fillsLeast_104 : decode cX11_fillsLeast 104 = .ok (.iload_n 3, 1) := by decide +kernel
theorem dX11_fillsLeast_105 : decode cX11_fillsLeast 105 = .ok (.imul, 1) := by decide +kernel
theorem dX11_fillsLeast_106 : decode cX11_fillsLeast 106 = .ok (.iload 4, 2) := by decide +kernel
theorem dX11_fillsLeast_108 : decode cX11_fillsLeast 108 = .ok (.iadd, 1) := by decide +kernel
theorem dX11_fillsLeast_109 : decode cX11_fillsLeast 109 = .ok (.iload 5, 2) := by decide +kernel
theorem dX11_fillsLeast_111 : decode cX11_fillsLeast 111 = .ok (.iastore, 1) := by decide +kernel
theorem dX11_fillsLeast_112 : decode cX11_fillsLeast 112 = .ok (.iinc 4 1, 3) := by decide +kernel
theorem dX11_fillsLeast_115 : decode cX11_fillsLeast 115 = .ok (.goto (-76), 3) := by decide +kernel
theorem dX11_fillsLeast_118 : decode cX11_fillsLeast 118 = .ok (.iinc 3 1, 3) := by decide +kernel
theorem dX11_fillsLeast_121 : decode cX11_fillsLeast 121 = .ok (.goto (-90), 3) := by decide +kernel
theorem dX11_fillsLeast_124 : decode cX11_fillsLeast 124 = .ok (.return_, 1) := by decide +kernel
theorem dX11_nights_0 : decode cX11_nights 0 = .ok (.aload_n 0, 1) := by decide +kernel
theorem dX11_nights_1 : decode cX11_nights 1 = .ok (.iload_n 1, 1) := by decide +kernel
theorem dX11_nights_2 : decode cX11_nights 2 = .ok (.invokevirtual 304, 3) := by decide +kernel
theorem dX11_nights_5 : decode cX11_nights 5 = .ok (.ifCond .eq 42, 3) := by decide +kernel
theorem dX11_nights_8 : decode cX11_nights 8 = .ok (.iload_n 2, 1) := by decide +kernel
theorem dX11_nights_9 : decode cX11_nights 9 = .ok (.i2l, 1) := by decide +kernel
theorem dX11_nights_10 : decode cX11_nights 10 = .ok (.lconst 1, 1) := by decide +kernel
theorem dX11_nights_11 : decode cX11_nights 11 = .ok (.ldc2_w 429, 3) := by decide +kernel
theorem dX11_nights_14 : decode cX11_nights 14 = .ok (.invokestatic 112, 3) := by decide +kernel
theorem dX11_nights_17 : decode cX11_nights 17 = .ok (.ifCond .eq 30, 3) := by decide +kernel
theorem dX11_nights_20 : decode cX11_nights 20 = .ok (.iload_n 3, 1) := by decide +kernel
theorem dX11_nights_21 : decode cX11_nights 21 = .ok (.i2l, 1) := by decide +kernel
theorem dX11_nights_22 : decode cX11_nights 22 = .ok (.lconst 0, 1) := by decide +kernel
theorem dX11_nights_23 : decode cX11_nights 23 = .ok (.ldc2_w 431, 3) := by decide +kernel
theorem dX11_nights_26 : decode cX11_nights 26 = .ok (.invokestatic 112, 3) := by decide +kernel
theorem dX11_nights_29 : decode cX11_nights 29 = .ok (.ifCond .eq 18, 3) := by decide +kernel
theorem dX11_nights_32 : decode cX11_nights 32 = .ok (.iload 4, 2) := by decide +kernel
theorem dX11_nights_34 : decode cX11_nights 34 = .ok (.i2l, 1) := by decide +kernel
theorem dX11_nights_35 : decode cX11_nights 35 = .ok (.ldc2_w 433, 3) := by decide +kernel
theorem dX11_nights_38 : decode cX11_nights 38 = .ok (.ldc2_w 435, 3) := by decide +kernel
theorem dX11_nights_41 : decode cX11_nights 41 = .ok (.invokestatic 112, 3) := by decide +kernel
theorem dX11_nights_44 : decode cX11_nights 44 = .ok (.ifCond .ne 6, 3) := by decide +kernel
theorem dX11_nights_47 : decode cX11_nights 47 = .ok (.bipush (-3), 2) := by decide +kernel
theorem dX11_nights_49 : decode cX11_nights 49 = .ok (.ireturn, 1) := by decide +kernel
theorem dX11_nights_50 : decode cX11_nights 50 = .ok (.aload_n 0, 1) := by decide +kernel
theorem dX11_nights_51 : decode cX11_nights 51 = .ok (.iload_n 1, 1) := by decide +kernel
theorem dX11_nights_52 : decode cX11_nights 52 = .ok (.iconst 4, 1) := by decide +kernel
theorem dX11_nights_53 : decode cX11_nights 53 = .ok (.invokevirtual 294, 3) := by decide +kernel
theorem dX11_nights_56 : decode cX11_nights 56 = .ok (.iload_n 2, 1) := by decide +kernel
theorem dX11_nights_57 : decode cX11_nights 57 = .ok (.aload_n 0, 1) := by decide +kernel
theorem dX11_nights_58 : decode cX11_nights 58 = .ok (.iload_n 1, 1) := by decide +kernel
theorem dX11_nights_59 : decode cX11_nights 59 = .ok (.iconst 0, 1) := by decide +kernel
theorem dX11_nights_60 : decode cX11_nights 60 = .ok (.invokevirtual 294, 3) := by decide +kernel
theorem dX11_nights_63 : decode cX11_nights 63 = .ok (.imul, 1) := by decide +kernel
theorem dX11_nights_64 : decode cX11_nights 64 = .ok (.iadd, 1) := by decide +kernel
theorem dX11_nights_65 : decode cX11_nights 65 = .ok (.iload_n 3, 1) := by decide +kernel
theorem dX11_nights_66 : decode cX11_nights 66 = .ok (.isub, 1) := by decide +kernel
theorem dX11_nights_67 : decode cX11_nights 67 = .ok (.istore 5, 2) := by decide +kernel
theorem dX11_nights_69 : decode cX11_nights 69 = .ok (.aload_n 0, 1) := by decide +kernel
theorem dX11_nights_70 : decode cX11_nights 70 = .ok (.iload_n 1, 1) := by decide +kernel
theorem dX11_nights_71 : decode cX11_nights 71 = .ok (.invokevirtual 437, 3) := by decide +kernel
theorem dX11_nights_74 : decode cX11_nights 74 = .ok (.aload_n 0, 1) := by decide +kernel
theorem dX11_nights_75 : decode cX11_nights 75 = .ok (.iload_n 1, 1) := by decide +kernel
theorem dX11_nights_76 : decode cX11_nights 76 = .ok (.iload_n 2, 1) := by decide +kernel
theorem dX11_nights_77 : decode cX11_nights 77 = .ok (.invokevirtual 440, 3) := by decide +kernel
theorem dX11_nights_80 : decode cX11_nights 80 = .ok (.iload 5, 2) := by decide +kernel
theorem dX11_nights_82 : decode cX11_nights 82 = .ok (.bipush 80, 2) := by decide +kernel
theorem dX11_nights_84 : decode cX11_nights 84 = .ok (.if_icmp .gt 13, 3) := by decide +kernel
theorem dX11_nights_87 : decode cX11_nights 87 = .ok (.aload_n 0, 1) := by decide +kernel
theorem dX11_nights_88 : decode cX11_nights 88 = .ok (.iload_n 2, 1) := by decide +kernel
theorem dX11_nights_89 : decode cX11_nights 89 = .ok (.iload 5, 2) := by decide +kernel
theorem dX11_nights_91 : decode cX11_nights 91 = .ok (.invokevirtual 422, 3) := by decide +kernel
theorem dX11_nights_94 : decode cX11_nights 94 = .ok (.ifCond .ge 6, 3) := by decide +kernel
theorem dX11_nights_97 : decode cX11_nights 97 = .ok (.bipush (-2), 2) := by decide +kernel
theorem dX11_nights_99 : decode cX11_nights 99 = .ok (.ireturn, 1) := by decide +kernel
theorem dX11_nights_100 : decode cX11_nights 100 = .ok (.iload 4, 2) := by decide +kernel
theorem dX11_nights_102 : decode cX11_nights 102 = .ok (.iconst (-1), 1) := by decide +kernel
theorem dX11_nights_103 : decode cX11_nights 103 = .ok (.if_icmp .ne 11, 3) := by decide +kernel
theorem dX11_nights_106 : decode cX11_nights 106 = .ok (.aload_n 0, 1) := by decide +kernel
theorem dX11_nights_107 : decode cX11_nights 107 = .ok (.iload_n 2, 1) := by decide +kernel
theorem dX11_nights_108 : decode cX11_nights 108 = .ok (.iload 5, 2) := by decide +kernel
theorem dX11_nights_110 : decode cX11_nights 110 = .ok (.invokevirtual 422, 3) := by decide +kernel
theorem dX11_nights_113 : decode cX11_nights 113 = .ok (.ireturn, 1) := by decide +kernel
theorem dX11_nights_114 : decode cX11_nights 114 = .ok (.iload 4, 2) := by decide +kernel
theorem dX11_nights_116 : decode cX11_nights 116 = .ok (.iload_n 2, 1) := by decide +kernel
theorem dX11_nights_117 : decode cX11_nights 117 = .ok (.if_icmp .lt 6, 3) := by decide +kernel
theorem dX11_nights_120 : decode cX11_nights 120 = .ok (.bipush (-2), 2) := by decide +kernel
theorem dX11_nights_122 : decode cX11_nights 122 = .ok (.ireturn, 1) := by decide +kernel
theorem dX11_nights_123 : decode cX11_nights 123 = .ok (.iconst 0, 1) := by decide +kernel
theorem dX11_nights_124 : decode cX11_nights 124 = .ok (.istore 6, 2) := by decide +kernel
theorem dX11_nights_126 : decode cX11_nights 126 = .ok (.iconst 0, 1) := by decide +kernel
theorem dX11_nights_127 : decode cX11_nights 127 = .ok (.istore 7, 2) := by decide +kernel
theorem dX11_nights_129 : decode cX11_nights 129 = .ok (.iload 7, 2) := by decide +kernel
theorem dX11_nights_131 : decode cX11_nights 131 = .ok (.iload 4, 2) := by decide +kernel
theorem dX11_nights_133 : decode cX11_nights 133 = .ok (.if_icmp .gt 60, 3) := by decide +kernel
theorem dX11_nights_136 : decode cX11_nights 136 = .ok (.iload 5, 2) := by decide +kernel
theorem dX11_nights_138 : decode cX11_nights 138 = .ok (.iload 7, 2) := by decide +kernel
theorem dX11_nights_140 : decode cX11_nights 140 = .ok (.ifCond .ne 7, 3) := by decide +kernel
theorem dX11_nights_143 : decode cX11_nights 143 = .ok (.iconst 0, 1) := by decide +kernel
theorem dX11_nights_144 : decode cX11_nights 144 = .ok (.goto 5, 3) := by decide +kernel
theorem dX11_nights_147 : decode cX11_nights 147 = .ok (.iload 6, 2) := by decide +kernel
theorem dX11_nights_149 : decode cX11_nights 149 = .ok (.isub, 1) := by decide +kernel
theorem dX11_nights_150 : decode cX11_nights 150 = .ok (.istore 5, 2) := by decide +kernel
theorem dX11_nights_152 : decode cX11_nights 152 = .ok (.iconst 0, 1) := by decide +kernel
theorem dX11_nights_153 : decode cX11_nights 153 = .ok (.istore 6, 2) := by decide +kernel
theorem dX11_nights_155 : decode cX11_nights 155 = .ok (.aload_n 0, 1) := by decide +kernel
theorem dX11_nights_156 : decode cX11_nights 156 = .ok (.iload_n 1, 1) := by decide +kernel
theorem dX11_nights_157 : decode cX11_nights 157 = .ok (.iload_n 2, 1) := by decide +kernel
theorem dX11_nights_158 : decode cX11_nights 158 = .ok (.iload 7, 2) := by decide +kernel
theorem dX11_nights_160 : decode cX11_nights 160 = .ok (.isub, 1) := by decide +kernel
theorem dX11_nights_161 : decode cX11_nights 161 = .ok (.iload 5, 2) := by decide +kernel
theorem dX11_nights_163 : decode cX11_nights 163 = .ok (.iload 6, 2) := by decide +kernel
theorem dX11_nights_165 : decode cX11_nights 165 = .ok (.invokevirtual 425, 3) := by decide +kernel
theorem dX11_nights_168 : decode cX11_nights 168 = .ok (.aload_n 0, 1) := by decide +kernel
theorem dX11_nights_169 : decode cX11_nights 169 = .ok (.iload_n 2, 1) := by decide +kernel
theorem dX11_nights_170 : decode cX11_nights 170 = .ok (.iload 7, 2) := by decide +kernel
theorem dX11_nights_172 : decode cX11_nights 172 = .ok (.isub, 1) := by decide +kernel
theorem dX11_nights_173 : decode cX11_nights 173 = .ok (.iload 5, 2) := by decide +kernel
theorem dX11_nights_175 : decode cX11_nights 175 = .ok (.invokevirtual 422, 3) := by decide +kernel
theorem dX11_nights_178 : decode cX11_nights 178 = .ok (.if_icmp .eq 9, 3) := by decide +kernel
theorem dX11_nights_181 : decode cX11_nights 181 = .ok (.iinc 6 1, 3) := by decide +kernel
theorem dX11_nights_184 : decode cX11_nights 184 = .ok (.goto (-29), 3) := by decide +kernel
theorem dX11_nights_187 : decode cX11_nights 187 = .ok (.iinc 7 1, 3) := by decide +kernel
theorem dX11_nights_190 : decode cX11_nights 190 = .ok (.goto (-61), 3) := by decide +kernel
theorem dX11_nights_193 : decode cX11_nights 193 = .ok (.iload 6, 2) := by decide +kernel
theorem dX11_nights_195 : decode cX11_nights 195 = .ok (.ireturn, 1) := by decide +kernel
theorem dX11_turned_0 : decode cX11_turned 0 = .ok (.aload_n 0, 1) := by decide +kernel
theorem dX11_turned_1 : decode cX11_turned 1 = .ok (.iload_n 1, 1) := by decide +kernel
theorem dX11_turned_2 : decode cX11_turned 2 = .ok (.invokevirtual 304, 3) := by decide +kernel
theorem dX11_turned_5 : decode cX11_turned 5 = .ok (.ifCond .eq 25, 3) := by decide +kernel
theorem dX11_turned_8 : decode cX11_turned 8 = .ok (.iload_n 2, 1) := by decide +kernel
theorem dX11_turned_9 : decode cX11_turned 9 = .ok (.i2l, 1) := by decide +kernel
theorem dX11_turned_10 : decode cX11_turned 10 = .ok (.lconst 1, 1) := by decide +kernel
theorem dX11_turned_11 : decode cX11_turned 11 = .ok (.ldc2_w 443, 3) := by decide +kernel
theorem dX11_turned_14 : decode cX11_turned 14 = .ok (.invokestatic 112, 3) := by decide +kernel
theorem dX11_turned_17 : decode cX11_turned 17 = .ok (.ifCond .eq 13, 3) := by decide +kernel
theorem dX11_turned_20 : decode cX11_turned 20 = .ok (.iload_n 3, 1) := by decide +kernel
theorem dX11_turned_21 : decode cX11_turned 21 = .ok (.i2l, 1) := by decide +kernel
theorem dX11_turned_22 : decode cX11_turned 22 = .ok (.lconst 0, 1) := by decide +kernel
theorem dX11_turned_23 : decode cX11_turned 23 = .ok (.lconst 1, 1) := by decide +kernel
theorem dX11_turned_24 : decode cX11_turned 24 = .ok (.invokestatic 112, 3) := by decide +kernel
theorem dX11_turned_27 : decode cX11_turned 27 = .ok (.ifCond .ne 7, 3) := by decide +kernel
theorem dX11_turned_30 : decode cX11_turned 30 = .ok (.ldc_w 445, 3) := by decide +kernel
theorem dX11_turned_33 : decode cX11_turned 33 = .ok (.ireturn, 1) := by decide +kernel
theorem dX11_turned_34 : decode cX11_turned 34 = .ok (.aload_n 0, 1) := by decide +kernel
theorem dX11_turned_35 : decode cX11_turned 35 = .ok (.iload_n 1, 1) := by decide +kernel
theorem dX11_turned_36 : decode cX11_turned 36 = .ok (.iconst 5, 1) := by decide +kernel
theorem dX11_turned_37 : decode cX11_turned 37 = .ok (.invokevirtual 294, 3) := by decide +kernel
theorem dX11_turned_40 : decode cX11_turned 40 = .ok (.istore 4, 2) := by decide +kernel
theorem dX11_turned_42 : decode cX11_turned 42 = .ok (.aload_n 0, 1) := by decide +kernel
theorem dX11_turned_43 : decode cX11_turned 43 = .ok (.invokevirtual 371, 3) := by decide +kernel
theorem dX11_turned_46 : decode cX11_turned 46 = .ok (.iconst 0, 1) := by decide +kernel
theorem dX11_turned_47 : decode cX11_turned 47 = .ok (.istore 5, 2) := by decide +kernel
theorem dX11_turned_49 : decode cX11_turned 49 = .ok (.iload 5, 2) := by decide +kernel
theorem dX11_turned_51 : decode cX11_turned 51 = .ok (.iload_n 2, 1) := by decide +kernel
theorem dX11_turned_52 : decode cX11_turned 52 = .ok (.if_icmp .ge 14, 3) := by decide +kernel
theorem dX11_turned_55 : decode cX11_turned 55 = .ok (.aload_n 0, 1) := by decide +kernel
theorem dX11_turned_56 : decode cX11_turned 56 = .ok (.invokevirtual 359, 3) := by decide +kernel
theorem dX11_turned_59 : decode cX11_turned 59 = .ok (.pop, 1) := by decide +kernel
theorem dX11_turned_60 : decode cX11_turned 60 = .ok (.iinc 5 1, 3) := by decide +kernel
theorem dX11_turned_63 : decode cX11_turned 63 = .ok (.goto (-14), 3) := by decide +kernel
theorem dX11_turned_66 : decode cX11_turned 66 = .ok (.aload_n 0, 1) := by decide +kernel
theorem dX11_turned_67 : decode cX11_turned 67 = .ok (.getfield 46, 3) := by decide +kernel
theorem dX11_turned_70 : decode cX11_turned 70 = .ok (.iload_n 1, 1) := by decide +kernel
theorem dX11_turned_71 : decode cX11_turned 71 = .ok (.iaload, 1) := by decide +kernel
theorem dX11_turned_72 : decode cX11_turned 72 = .ok (.aload_n 0, 1) := by decide +kernel
theorem dX11_turned_73 : decode cX11_turned 73 = .ok (.iload_n 1, 1) := by decide +kernel
theorem dX11_turned_74 : decode cX11_turned 74 = .ok (.iconst 5, 1) := by decide +kernel
theorem dX11_turned_75 : decode cX11_turned 75 = .ok (.invokevirtual 294, 3) := by decide +kernel
theorem dX11_turned_78 : decode cX11_turned 78 = .ok (.iload 4, 2) := by decide +kernel
theorem dX11_turned_80 : decode cX11_turned 80 = .ok (.isub, 1) := by decide +kernel
theorem dX11_turned_81 : decode cX11_turned 81 = .ok (.isub, 1) := by decide +kernel
theorem dX11_turned_82 : decode cX11_turned 82 = .ok (.istore 5, 2) := by decide +kernel
theorem dX11_turned_84 : decode cX11_turned 84 = .ok (.aload_n 0, 1) := by decide +kernel
theorem dX11_turned_85 : decode cX11_turned 85 = .ok (.invokevirtual 374, 3) := by decide +kernel
theorem dX11_turned_88 : decode cX11_turned 88 = .ok (.iload 5, 2) := by decide +kernel
theorem dX11_turned_90 : decode cX11_turned 90 = .ok (.bipush 60, 2) := by decide +kernel
theorem dX11_turned_92 : decode cX11_turned 92 = .ok (.iload_n 3, 1) := by decide +kernel
theorem dX11_turned_93 : decode cX11_turned 93 = .ok (.invokestatic 365, 3) := by decide +kernel
theorem dX11_turned_96 : decode cX11_turned 96 = .ok (.ireturn, 1) := by decide +kernel
theorem dX11_owedHeld_0 : decode cX11_owedHeld 0 = .ok (.aload_n 0, 1) := by decide +kernel
theorem dX11_owedHeld_1 : decode cX11_owedHeld 1 = .ok (.invokevirtual 371, 3) := by decide +kernel
theorem dX11_owedHeld_4 : decode cX11_owedHeld 4 = .ok (.aload_n 0, 1) := by decide +kernel
theorem dX11_owedHeld_5 : decode cX11_owedHeld 5 = .ok (.getfield 39, 3) := by decide +kernel
theorem dX11_owedHeld_8 : decode cX11_owedHeld 8 = .ok (.bipush 40, 2) := by decide +kernel
theorem dX11_owedHeld_10 : decode cX11_owedHeld 10 = .ok (.iload_n 1, 1) := by decide +kernel
theorem dX11_owedHeld_11 : decode cX11_owedHeld 11 = .ok (.iadd, 1) := by decide +kernel
theorem dX11_owedHeld_12 : decode cX11_owedHeld 12 = .ok (.iload_n 2, 1) := by decide +kernel
theorem dX11_owedHeld_13 : decode cX11_owedHeld 13 = .ok (.iastore, 1) := by decide +kernel
theorem dX11_owedHeld_14 : decode cX11_owedHeld 14 = .ok (.iconst 0, 1) := by decide +kernel
theorem dX11_owedHeld_15 : decode cX11_owedHeld 15 = .ok (.istore 5, 2) := by decide +kernel
theorem dX11_owedHeld_17 : decode cX11_owedHeld 17 = .ok (.iload 5, 2) := by decide +kernel
theorem dX11_owedHeld_19 : decode cX11_owedHeld 19 = .ok (.iload 4, 2) := by decide +kernel
theorem dX11_owedHeld_21 : decode cX11_owedHeld 21 = .ok (.if_icmp .ge 14, 3) := by decide +kernel
theorem dX11_owedHeld_24 : decode cX11_owedHeld 24 = .ok (.aload_n 0, 1) := by decide +kernel
theorem dX11_owedHeld_25 : decode cX11_owedHeld 25 = .ok (.invokevirtual 359, 3) := by decide +kernel
theorem dX11_owedHeld_28 : decode cX11_owedHeld 28 = .ok (.pop, 1) := by decide +kernel
theorem dX11_owedHeld_29 : decode cX11_owedHeld 29 = .ok (.iinc 5 1, 3) := by decide +kernel
theorem dX11_owedHeld_32 : decode cX11_owedHeld 32 = .ok (.goto (-15), 3) := by decide +kernel
theorem dX11_owedHeld_35 : decode cX11_owedHeld 35 = .ok (.iload_n 3, 1) := by decide +kernel
theorem dX11_owedHeld_36 : decode cX11_owedHeld 36 = .ok (.ifCond .ge 13, 3) := by decide +kernel
theorem dX11_owedHeld_39 : decode cX11_owedHeld 39 = .ok (.aload_n 0, 1) := by decide +kernel
theorem dX11_owedHeld_40 : decode cX11_owedHeld 40 = .ok (.getfield 39, 3) := by decide +kernel
theorem dX11_owedHeld_43 : decode cX11_owedHeld 43 = .ok (.bipush 7, 2) := by decide +kernel
theorem dX11_owedHeld_45 : decode cX11_owedHeld 45 = .ok (.iaload, 1) := by decide +kernel
theorem dX11_owedHeld_46 : decode cX11_owedHeld 46 = .ok (.goto 9, 3) := by decide +kernel
theorem dX11_owedHeld_49 : decode cX11_owedHeld 49 = .ok (.aload_n 0, 1) := by decide +kernel
theorem dX11_owedHeld_50 : decode cX11_owedHeld 50 = .ok (.iload_n 3, 1) := by decide +kernel
theorem dX11_owedHeld_51 : decode cX11_owedHeld 51 = .ok (.iconst 5, 1) := by decide +kernel
theorem dX11_owedHeld_52 : decode cX11_owedHeld 52 = .ok (.invokevirtual 294, 3) := by decide +kernel
theorem dX11_owedHeld_55 : decode cX11_owedHeld 55 = .ok (.istore 5, 2) := by decide +kernel
theorem dX11_owedHeld_57 : decode cX11_owedHeld 57 = .ok (.aload_n 0, 1) := by decide +kernel
theorem dX11_owedHeld_58 : decode cX11_owedHeld 58 = .ok (.invokevirtual 374, 3) := by decide +kernel
theorem dX11_owedHeld_61 : decode cX11_owedHeld 61 = .ok (.iload 5, 2) := by decide +kernel
theorem dX11_owedHeld_63 : decode cX11_owedHeld 63 = .ok (.ireturn, 1) := by decide +kernel
theorem dX11_spite_0 : decode cX11_spite 0 = .ok (.aload_n 0, 1) := by decide +kernel
theorem dX11_spite_1 : decode cX11_spite 1 = .ok (.iload_n 1, 1) := by decide +kernel
theorem dX11_spite_2 : decode cX11_spite 2 = .ok (.invokevirtual 309, 3) := by decide +kernel
theorem dX11_spite_5 : decode cX11_spite 5 = .ok (.ifCond .eq 39, 3) := by decide +kernel
theorem dX11_spite_8 : decode cX11_spite 8 = .ok (.iload_n 2, 1) := by decide +kernel
theorem dX11_spite_9 : decode cX11_spite 9 = .ok (.iconst (-1), 1) := by decide +kernel
theorem dX11_spite_10 : decode cX11_spite 10 = .ok (.if_icmp .eq 11, 3) := by decide +kernel
theorem dX11_spite_13 : decode cX11_spite 13 = .ok (.aload_n 0, 1) := by decide +kernel
theorem dX11_spite_14 : decode cX11_spite 14 = .ok (.iload_n 2, 1) := by decide +kernel
theorem dX11_spite_15 : decode cX11_spite 15 = .ok (.invokevirtual 304, 3) := by decide +kernel
theorem dX11_spite_18 : decode cX11_spite 18 = .ok (.ifCond .eq 26, 3) := by decide +kernel
theorem dX11_spite_21 : decode cX11_spite 21 = .ok (.iload_n 3, 1) := by decide +kernel
theorem dX11_spite_22 : decode cX11_spite 22 = .ok (.i2l, 1) := by decide +kernel
theorem dX11_spite_23 : decode cX11_spite 23 = .ok (.lconst 1, 1) := by decide +kernel
theorem dX11_spite_24 : decode cX11_spite 24 = .ok (.ldc2_w 443, 3) := by decide +kernel
theorem dX11_spite_27 : decode cX11_spite 27 = .ok (.invokestatic 112, 3) := by decide +kernel
theorem dX11_spite_30 : decode cX11_spite 30 = .ok (.ifCond .eq 14, 3) := by decide +kernel
theorem dX11_spite_33 : decode cX11_spite 33 = .ok (.iload 4, 2) := by decide +kernel
theorem dX11_spite_35 : decode cX11_spite 35 = .ok (.i2l, 1) := by decide +kernel
theorem dX11_spite_36 : decode cX11_spite 36 = .ok (.lconst 0, 1) := by decide +kernel
theorem dX11_spite_37 : decode cX11_spite 37 = .ok (.lconst 1, 1) := by decide +kernel
theorem dX11_spite_38 : decode cX11_spite 38 = .ok (.invokestatic 112, 3) := by decide +kernel
theorem dX11_spite_41 : decode cX11_spite 41 = .ok (.ifCond .ne 7, 3) := by decide +kernel
theorem dX11_spite_44 : decode cX11_spite 44 = .ok (.ldc_w 445, 3) := by decide +kernel
theorem dX11_spite_47 : decode cX11_spite 47 = .ok (.ireturn, 1) := by decide +kernel
theorem dX11_spite_48 : decode cX11_spite 48 = .ok (.aload_n 0, 1) := by decide +kernel
theorem dX11_spite_49 : decode cX11_spite 49 = .ok (.iload_n 1, 1) := by decide +kernel
theorem dX11_spite_50 : decode cX11_spite 50 = .ok (.iconst 1, 1) := by decide +kernel
theorem dX11_spite_51 : decode cX11_spite 51 = .ok (.iload_n 2, 1) := by decide +kernel
theorem dX11_spite_52 : decode cX11_spite 52 = .ok (.iload_n 3, 1) := by decide +kernel
theorem dX11_spite_53 : decode cX11_spite 53 = .ok (.invokevirtual 446, 3) := by decide +kernel
theorem dX11_spite_56 : decode cX11_spite 56 = .ok (.aload_n 0, 1) := by decide +kernel
theorem dX11_spite_57 : decode cX11_spite 57 = .ok (.iload_n 1, 1) := by decide +kernel
theorem dX11_spite_58 : decode cX11_spite 58 = .ok (.iconst 2, 1) := by decide +kernel
theorem dX11_spite_59 : decode cX11_spite 59 = .ok (.iload_n 2, 1) := by decide +kernel
theorem dX11_spite_60 : decode cX11_spite 60 = .ok (.iload_n 3, 1) := by decide +kernel
theorem dX11_spite_61 : decode cX11_spite 61 = .ok (.invokevirtual 446, 3) := by decide +kernel
theorem dX11_spite_64 : decode cX11_spite 64 = .ok (.isub, 1) := by decide +kernel
theorem dX11_spite_65 : decode cX11_spite 65 = .ok (.bipush 60, 2) := by decide +kernel
theorem dX11_spite_67 : decode cX11_spite 67 = .ok (.iload 4, 2) := by decide +kernel
theorem dX11_spite_69 : decode cX11_spite 69 = .ok (.invokestatic 365, 3) := by decide +kernel
theorem dX11_spite_72 : decode cX11_spite 72 = .ok (.ireturn, 1) := by decide +kernel
theorem dX11_seed_0 : decode cX11_seed 0 = .ok (.iload_n 1, 1) := by decide +kernel
theorem dX11_seed_1 : decode cX11_seed 1 = .ok (.ifCond .ge 5, 3) := by decide +kernel
theorem dX11_seed_4 : decode cX11_seed 4 = .ok (.iconst (-1), 1) := by decide +kernel
theorem dX11_seed_5 : decode cX11_seed 5 = .ok (.ireturn, 1) := by decide +kernel
theorem dX11_seed_6 : decode cX11_seed 6 = .ok (.aload_n 0, 1) := by decide +kernel
theorem dX11_seed_7 : decode cX11_seed 7 = .ok (.getfield 449, 3) := by decide +kernel
theorem dX11_seed_10 : decode cX11_seed 10 = .ok (.istore_n 2, 1) := by decide +kernel
theorem dX11_seed_11 : decode cX11_seed 11 = .ok (.aload_n 0, 1) := by decide +kernel
theorem dX11_seed_12 : decode cX11_seed 12 = .ok (.iload_n 1, 1) := by decide +kernel
theorem dX11_seed_13 : decode cX11_seed 13 = .ok (.putfield 449, 3) := by decide +kernel
theorem dX11_seed_16 : decode cX11_seed 16 = .ok (.iload_n 2, 1) := by decide +kernel
theorem dX11_seed_17 : decode cX11_seed 17 = .ok (.ireturn, 1) := by decide +kernel
theorem dX11_draw_0 : decode cX11_draw 0 = .ok (.aload_n 0, 1) := by decide +kernel
theorem dX11_draw_1 : decode cX11_draw 1 = .ok (.aload_n 0, 1) := by decide +kernel
theorem dX11_draw_2 : decode cX11_draw 2 = .ok (.getfield 452, 3) := by decide +kernel
theorem dX11_draw_5 : decode cX11_draw 5 = .ok (.ldc2_w 456, 3) := by decide +kernel
theorem dX11_draw_8 : decode cX11_draw 8 = .ok (.lmul, 1) := by decide +kernel
theorem dX11_draw_9 : decode cX11_draw 9 = .ok (.ldc2_w 458, 3) := by decide +kernel
theorem dX11_draw_12 : decode cX11_draw 12 = .ok (.ladd, 1) := by decide +kernel
theorem dX11_draw_13 : decode cX11_draw 13 = .ok (.ldc2_w 460, 3) := by decide +kernel
theorem dX11_draw_16 : decode cX11_draw 16 = .ok (.lrem, 1) := by decide +kernel
theorem dX11_draw_17 : decode cX11_draw 17 = .ok (.putfield 452, 3) := by decide +kernel
theorem dX11_draw_20 : decode cX11_draw 20 = .ok (.aload_n 0, 1) := by decide +kernel
theorem dX11_draw_21 : decode cX11_draw 21 = .ok (.getfield 452, 3) := by decide +kernel
theorem dX11_draw_24 : decode cX11_draw 24 = .ok (.ldc2_w 462, 3) := by decide +kernel
theorem dX11_draw_27 : decode cX11_draw 27 = .ok (.ldiv, 1) := by decide +kernel
theorem dX11_draw_28 : decode cX11_draw 28 = .ok (.iload_n 1, 1) := by decide +kernel
theorem dX11_draw_29 : decode cX11_draw 29 = .ok (.i2l, 1) := by decide +kernel
theorem dX11_draw_30 : decode cX11_draw 30 = .ok (.lrem, 1) := by decide +kernel
theorem dX11_draw_31 : decode cX11_draw 31 = .ok (.l2i, 1) := by decide +kernel
theorem dX11_draw_32 : decode cX11_draw 32 = .ok (.ireturn, 1) := by decide +kernel
theorem dX11_lives_0 : decode cX11_lives 0 = .ok (.aload_n 0, 1) := by decide +kernel
theorem dX11_lives_1 : decode cX11_lives 1 = .ok (.invokevirtual 353, 3) := by decide +kernel
theorem dX11_lives_4 : decode cX11_lives 4 = .ok (.ifCond .eq 50, 3) := by decide +kernel
theorem dX11_lives_7 : decode cX11_lives 7 = .ok (.iload_n 1, 1) := by decide +kernel
theorem dX11_lives_8 : decode cX11_lives 8 = .ok (.i2l, 1) := by decide +kernel
theorem dX11_lives_9 : decode cX11_lives 9 = .ok (.lconst 1, 1) := by decide +kernel
theorem dX11_lives_10 : decode cX11_lives 10 = .ok (.ldc2_w 392, 3) := by decide +kernel
theorem dX11_lives_13 : decode cX11_lives 13 = .ok (.invokestatic 112, 3) := by decide +kernel
theorem dX11_lives_16 : decode cX11_lives 16 = .ok (.ifCond .eq 38, 3) := by decide +kernel
theorem dX11_lives_19 : decode cX11_lives 19 = .ok (.iload_n 2, 1) := by decide +kernel
theorem dX11_lives_20 : decode cX11_lives 20 = .ok (.i2l, 1) := by decide +kernel
theorem dX11_lives_21 : decode cX11_lives 21 = .ok (.lconst 1, 1) := by decide +kernel
theorem dX11_lives_22 : decode cX11_lives 22 = .ok (.ldc2_w 443, 3) := by decide +kernel
theorem dX11_lives_25 : decode cX11_lives 25 = .ok (.invokestatic 112, 3) := by decide +kernel
theorem dX11_lives_28 : decode cX11_lives 28 = .ok (.ifCond .eq 26, 3) := by decide +kernel
theorem dX11_lives_31 : decode cX11_lives 31 = .ok (.iload_n 3, 1) := by decide +kernel
theorem dX11_lives_32 : decode cX11_lives 32 = .ok (.i2l, 1) := by decide +kernel
theorem dX11_lives_33 : decode cX11_lives 33 = .ok (.lconst 0, 1) := by decide +kernel
theorem dX11_lives_34 : decode cX11_lives 34 = .ok (.ldc2_w 369, 3) := by decide +kernel
theorem dX11_lives_37 : decode cX11_lives 37 = .ok (.invokestatic 112, 3) := by decide +kernel
theorem dX11_lives_40 : decode cX11_lives 40 = .ok (.ifCond .eq 14, 3) := by decide +kernel
theorem dX11_lives_43 : decode cX11_lives 43 = .ok (.iload 4, 2) := by decide +kernel
theorem dX11_lives_45 : decode cX11_lives 45 = .ok (.i2l, 1) := by decide +kernel
theorem dX11_lives_46 : decode cX11_lives 46 = .ok (.lconst 0, 1) := by decide +kernel
theorem dX11_lives_47 : decode cX11_lives 47 = .ok (.lconst 1, 1) := by decide +kernel
theorem dX11_lives_48 : decode cX11_lives 48 = .ok (.invokestatic 112, 3) := by decide +kernel
theorem dX11_lives_51 : decode cX11_lives 51 = .ok (.ifCond .ne 5, 3) := by decide +kernel
theorem dX11_lives_54 : decode cX11_lives 54 = .ok (.iconst (-1), 1) := by decide +kernel
theorem dX11_lives_55 : decode cX11_lives 55 = .ok (.ireturn, 1) := by decide +kernel
theorem dX11_lives_56 : decode cX11_lives 56 = .ok (.aload_n 0, 1) := by decide +kernel
theorem dX11_lives_57 : decode cX11_lives 57 = .ok (.aload_n 0, 1) := by decide +kernel
theorem dX11_lives_58 : decode cX11_lives 58 = .ok (.getfield 449, 3) := by decide +kernel
theorem dX11_lives_61 : decode cX11_lives 61 = .ok (.i2l, 1) := by decide +kernel
theorem dX11_lives_62 : decode cX11_lives 62 = .ok (.putfield 452, 3) := by decide +kernel
theorem dX11_lives_65 : decode cX11_lives 65 = .ok (.iconst 0, 1) := by decide +kernel
theorem dX11_lives_66 : decode cX11_lives 66 = .ok (.istore 5, 2) := by decide +kernel
theorem dX11_lives_68 : decode cX11_lives 68 = .ok (.iconst 0, 1) := by decide +kernel
theorem dX11_lives_69 : decode cX11_lives 69 = .ok (.istore 6, 2) := by decide +kernel
theorem dX11_lives_71 : decode cX11_lives 71 = .ok (.aload_n 0, 1) := by decide +kernel
theorem dX11_lives_72 : decode cX11_lives 72 = .ok (.invokevirtual 371, 3) := by decide +kernel
theorem dX11_lives_75 : decode cX11_lives 75 = .ok (.iconst 0, 1) := by decide +kernel
theorem dX11_lives_76 : decode cX11_lives 76 = .ok (.istore 7, 2) := by decide +kernel
theorem dX11_lives_78 : decode cX11_lives 78 = .ok (.iload 7, 2) := by decide +kernel
theorem dX11_lives_80 : decode cX11_lives 80 = .ok (.iload_n 1, 1) := by decide +kernel
theorem dX11_lives_81 : decode cX11_lives 81 = .ok (.if_icmp .ge 124, 3) := by decide +kernel
theorem dX11_lives_84 : decode cX11_lives 84 = .ok (.aload_n 0, 1) := by decide +kernel
theorem dX11_lives_85 : decode cX11_lives 85 = .ok (.getfield 39, 3) := by decide +kernel
theorem dX11_lives_88 : decode cX11_lives 88 = .ok (.bipush 7, 2) := by decide +kernel
theorem dX11_lives_90 : decode cX11_lives 90 = .ok (.iaload, 1) := by decide +kernel
theorem dX11_lives_91 : decode cX11_lives 91 = .ok (.istore 8, 2) := by decide +kernel
theorem dX11_lives_93 : decode cX11_lives 93 = .ok (.iconst 0, 1) := by decide +kernel
theorem dX11_lives_94 : decode cX11_lives 94 = .ok (.istore 9, 2) := by decide +kernel
theorem dX11_lives_96 : decode cX11_lives 96 = .ok (.iload 9, 2) := by decide +kernel
theorem dX11_lives_98 : decode cX11_lives 98 = .ok (.iload_n 2, 1) := by decide +kernel
theorem dX11_lives_99 : decode cX11_lives 99 = .ok (.if_icmp .ge 78, 3) := by decide +kernel
theorem dX11_lives_102 : decode cX11_lives 102 = .ok (.aload_n 0, 1) := by decide +kernel
theorem dX11_lives_103 : decode cX11_lives 103 = .ok (.invokevirtual 344, 3) := by decide +kernel
theorem dX11_lives_106 : decode cX11_lives 106 = .ok (.iconst 0, 1) := by decide +kernel
theorem dX11_lives_107 : decode cX11_lives 107 = .ok (.istore 10, 2) := by decide +kernel
theorem dX11_lives_109 : decode cX11_lives 109 = .ok (.iload 10, 2) := by decide +kernel
theorem dX11_lives_111 : decode cX11_lives 111 = .ok (.aload_n 0, 1) := by decide +kernel
theorem dX11_lives_112 : decode cX11_lives 112 = .ok (.getfield 39, 3) := by decide +kernel
theorem dX11_lives_115 : decode cX11_lives 115 = .ok (.iconst 1, 1) := by decide +kernel
theorem dX11_lives_116 : decode cX11_lives 116 = .ok (.iaload, 1) := by decide +kernel
theorem dX11_lives_117 : decode cX11_lives 117 = .ok (.if_icmp .ge 45, 3) := by decide +kernel
theorem dX11_lives_120 : decode cX11_lives 120 = .ok (.aload_n 0, 1) := by decide +kernel
theorem dX11_lives_121 : decode cX11_lives 121 = .ok (.iload 10, 2) := by decide +kernel
theorem dX11_lives_123 : decode cX11_lives 123 = .ok (.aload_n 0, 1) := by decide +kernel
theorem dX11_lives_124 : decode cX11_lives 124 = .ok (.getfield 39, 3) := by decide +kernel
theorem dX11_lives_127 : decode cX11_lives 127 = .ok (.iconst 5, 1) := by decide +kernel
theorem dX11_lives_128 : decode cX11_lives 128 = .ok (.iaload, 1) := by decide +kernel
theorem dX11_lives_129 : decode cX11_lives 129 = .ok (.invokevirtual 298, 3) := by decide +kernel
theorem dX11_lives_132 : decode cX11_lives 132 = .ok (.ifCond .ne 24, 3) := by decide +kernel
theorem dX11_lives_135 : decode cX11_lives 135 = .ok (.aload_n 0, 1) := by decide +kernel
theorem dX11_lives_136 : decode cX11_lives 136 = .ok (.iload 10, 2) := by decide +kernel
theorem dX11_lives_138 : decode cX11_lives 138 = .ok (.aload_n 0, 1) := by decide +kernel
theorem dX11_lives_139 : decode cX11_lives 139 = .ok (.bipush 100, 2) := by decide +kernel
theorem dX11_lives_141 : decode cX11_lives 141 = .ok (.invokevirtual 464, 3) := by decide +kernel
theorem dX11_lives_144 : decode cX11_lives 144 = .ok (.iload_n 3, 1) := by decide +kernel
theorem dX11_lives_145 : decode cX11_lives 145 = .ok (.if_icmp .ge 7, 3) := by decide +kernel
theorem dX11_lives_148 : decode cX11_lives 148 = .ok (.iconst 1, 1) := by decide +kernel
theorem dX11_lives_149 : decode cX11_lives 149 = .ok (.goto 4, 3) := by decide +kernel
theorem dX11_lives_152 : decode cX11_lives 152 = .ok (.iconst 0, 1) := by decide +kernel
theorem dX11_lives_153 : decode cX11_lives 153 = .ok (.invokevirtual 330, 3) := by decide +kernel
theorem dX11_lives_156 : decode cX11_lives 156 = .ok (.iinc 10 1, 3) := by decide +kernel
theorem dX11_lives_159 : decode cX11_lives 159 = .ok (.goto (-50), 3) := by decide +kernel
theorem dX11_lives_162 : decode cX11_lives 162 = .ok (.iload 5, 2) := by decide +kernel
theorem dX11_lives_164 : decode cX11_lives 164 = .ok (.aload_n 0, 1) := by decide +kernel
theorem dX11_lives_165 : decode cX11_lives 165 = .ok (.invokevirtual 350, 3) := by decide +kernel
theorem dX11_lives_168 : decode cX11_lives 168 = .ok (.iadd, 1) := by decide +kernel
theorem dX11_lives_169 : decode cX11_lives 169 = .ok (.istore 5, 2) := by decide +kernel
theorem dX11_lives_171 : decode cX11_lives 171 = .ok (.iinc 9 1, 3) := by decide +kernel
theorem dX11_lives_174 : decode cX11_lives 174 = .ok (.goto (-78), 3) := by decide +kernel
theorem dX11_lives_177 : decode cX11_lives 177 = .ok (.iload 6, 2) := by decide +kernel
theorem dX11_lives_179 : decode cX11_lives 179 = .ok (.aload_n 0, 1) := by decide +kernel
theorem dX11_lives_180 : decode cX11_lives 180 = .ok (.getfield 39, 3) := by decide +kernel
theorem dX11_lives_183 : decode cX11_lives 183 = .ok (.bipush 7, 2) := by decide +kernel
theorem dX11_lives_185 : decode cX11_lives 185 = .ok (.iaload, 1) := by decide +kernel
theorem dX11_lives_186 : decode cX11_lives 186 = .ok (.iload 8, 2) := by decide +kernel
theorem dX11_lives_188 : decode cX11_lives 188 = .ok (.isub, 1) := by decide +kernel
theorem dX11_lives_189 : decode cX11_lives 189 = .ok (.bipush 60, 2) := by decide +kernel
theorem dX11_lives_191 : decode cX11_lives 191 = .ok (.idiv, 1) := by decide +kernel
theorem dX11_lives_192 : decode cX11_lives 192 = .ok (.iadd, 1) := by decide +kernel
theorem dX11_lives_193 : decode cX11_lives 193 = .ok (.istore 6, 2) := by decide +kernel
theorem dX11_lives_195 : decode cX11_lives 195 = .ok (.aload_n 0, 1) := by decide +kernel
theorem dX11_lives_196 : decode cX11_lives 196 = .ok (.invokevirtual 374, 3) := by decide +kernel
theorem dX11_lives_199 : decode cX11_lives 199 = .ok (.iinc 7 1, 3) := by decide +kernel
theorem dX11_lives_202 : decode cX11_lives 202 = .ok (.goto (-124), 3) := by decide +kernel
theorem dX11_lives_205 : decode cX11_lives 205 = .ok (.iload 4, 2) := by decide +kernel
theorem dX11_lives_207 : decode cX11_lives 207 = .ok (.ifCond .ne 8, 3) := by decide +kernel
theorem dX11_lives_210 : decode cX11_lives 210 = .ok (.iload 5, 2) := by decide +kernel
theorem dX11_lives_212 : decode cX11_lives 212 = .ok (.goto 5, 3) := by decide +kernel
theorem dX11_lives_215 : decode cX11_lives 215 = .ok (.iload 6, 2) := by decide +kernel
theorem dX11_lives_217 : decode cX11_lives 217 = .ok (.ireturn, 1) := by decide +kernel
theorem dX11_count_0 : decode cX11_count 0 = .ok (.iload_n 1, 1) := by decide +kernel
theorem dX11_count_1 : decode cX11_count 1 = .ok (.tableswitch 156 0 15 #[79, 79, 79, 79, 79, 86, 91, 96, 103, 111, 116, 121, 132, 141, 146, 151], 79) := by decide +kernel
theorem dX11_count_80 : decode cX11_count 80 = .ok (.aload_n 0, 1) := by decide +kernel
theorem dX11_count_81 : decode cX11_count 81 = .ok (.getfield 39, 3) := by decide +kernel
theorem dX11_count_84 : decode cX11_count 84 = .ok (.iload_n 1, 1) := by decide +kernel
theorem dX11_count_85 : decode cX11_count 85 = .ok (.iaload, 1) := by decide +kernel
theorem dX11_count_86 : decode cX11_count 86 = .ok (.ireturn, 1) := by decide +kernel
theorem dX11_count_87 : decode cX11_count 87 = .ok (.aload_n 0, 1) := by decide +kernel
theorem dX11_count_88 : decode cX11_count 88 = .ok (.getfield 261, 3) := by decide +kernel
theorem dX11_count_91 : decode cX11_count 91 = .ok (.ireturn, 1) := by decide +kernel
theorem dX11_count_92 : decode cX11_count 92 = .ok (.aload_n 0, 1) := by decide +kernel
theorem dX11_count_93 : decode cX11_count 93 = .ok (.getfield 42, 3) := by decide +kernel
theorem dX11_count_96 : decode cX11_count 96 = .ok (.ireturn, 1) := by decide +kernel
theorem dX11_count_97 : decode cX11_count 97 = .ok (.aload_n 0, 1) := by decide +kernel
theorem dX11_count_98 : decode cX11_count 98 = .ok (.getfield 39, 3) := by decide +kernel
theorem dX11_count_101 : decode cX11_count 101 = .ok (.iconst 5, 1) := by decide +kernel
theorem dX11_count_102 : decode cX11_count 102 = .ok (.iaload, 1) := by decide +kernel
theorem dX11_count_103 : decode cX11_count 103 = .ok (.ireturn, 1) := by decide +kernel
theorem dX11_count_104 : decode cX11_count 104 = .ok (.aload_n 0, 1) := by decide +kernel
theorem dX11_count_105 : decode cX11_count 105 = .ok (.getfield 39, 3) := by decide +kernel
theorem dX11_count_108 : decode cX11_count 108 = .ok (.bipush 6, 2) := by decide +kernel
theorem dX11_count_110 : decode cX11_count 110 = .ok (.iaload, 1) := by decide +kernel
theorem dX11_count_111 : decode cX11_count 111 = .ok (.ireturn, 1) := by decide +kernel
theorem dX11_count_112 : decode cX11_count 112 = .ok (.aload_n 0, 1) := by decide +kernel
theorem dX11_count_113 : decode cX11_count 113 = .ok (.invokevirtual 317, 3) := by decide +kernel
theorem dX11_count_116 : decode cX11_count 116 = .ok (.ireturn, 1) := by decide +kernel
theorem dX11_count_117 : decode cX11_count 117 = .ok (.aload_n 0, 1) := by decide +kernel
theorem dX11_count_118 : decode cX11_count 118 = .ok (.invokevirtual 403, 3) := by decide +kernel
theorem dX11_count_121 : decode cX11_count 121 = .ok (.ireturn, 1) := by decide +kernel
theorem dX11_count_122 : decode cX11_count 122 = .ok (.aload_n 0, 1) := by decide +kernel
theorem dX11_count_123 : decode cX11_count 123 = .ok (.aload_n 0, 1) := by decide +kernel
theorem dX11_count_124 : decode cX11_count 124 = .ok (.getfield 39, 3) := by decide +kernel
theorem dX11_count_127 : decode cX11_count 127 = .ok (.iconst 5, 1) := by decide +kernel
theorem dX11_count_128 : decode cX11_count 128 = .ok (.iaload, 1) := by decide +kernel
theorem dX11_count_129 : decode cX11_count 129 = .ok (.invokevirtual 314, 3) := by decide +kernel
theorem dX11_count_132 : decode cX11_count 132 = .ok (.ireturn, 1) := by decide +kernel
theorem dX11_count_133 : decode cX11_count 133 = .ok (.aload_n 0, 1) := by decide +kernel
theorem dX11_count_134 : decode cX11_count 134 = .ok (.getfield 39, 3) := by decide +kernel
theorem dX11_count_137 : decode cX11_count 137 = .ok (.sipush 143, 3) := by decide +kernel
theorem dX11_count_140 : decode cX11_count 140 = .ok (.iaload, 1) := by decide +kernel
theorem dX11_count_141 : decode cX11_count 141 = .ok (.ireturn, 1) := by decide +kernel
theorem dX11_count_142 : decode cX11_count 142 = .ok (.aload_n 0, 1) := by decide +kernel
theorem dX11_count_143 : decode cX11_count 143 = .ok (.getfield 267, 3) := by decide +kernel
theorem dX11_count_146 : decode cX11_count 146 = .ok (.ireturn, 1) := by decide +kernel
theorem dX11_count_147 : decode cX11_count 147 = .ok (.aload_n 0, 1) := by decide +kernel
theorem dX11_count_148 : decode cX11_count 148 = .ok (.getfield 449, 3) := by decide +kernel
theorem dX11_count_151 : decode cX11_count 151 = .ok (.ireturn, 1) := by decide +kernel
theorem dX11_count_152 : decode cX11_count 152 = .ok (.aload_n 0, 1) := by decide +kernel
theorem dX11_count_153 : decode cX11_count 153 = .ok (.getfield 74, 3) := by decide +kernel
theorem dX11_count_156 : decode cX11_count 156 = .ok (.ireturn, 1) := by decide +kernel
theorem dX11_count_157 : decode cX11_count 157 = .ok (.iconst (-1), 1) := by decide +kernel
theorem dX11_count_158 : decode cX11_count 158 = .ok (.ireturn, 1) := by decide +kernel
theorem dX11_image_0 : decode cX11_image 0 = .ok (.iload_n 1, 1) := by decide +kernel
theorem dX11_image_1 : decode cX11_image 1 = .ok (.i2l, 1) := by decide +kernel
theorem dX11_image_2 : decode cX11_image 2 = .ok (.lconst 0, 1) := by decide +kernel
theorem dX11_image_3 : decode cX11_image 3 = .ok (.ldc2_w 414, 3) := by decide +kernel
theorem dX11_image_6 : decode cX11_image 6 = .ok (.invokestatic 112, 3) := by decide +kernel
theorem dX11_image_9 : decode cX11_image 9 = .ok (.ifCond .ne 5, 3) := by decide +kernel
theorem dX11_image_12 : decode cX11_image 12 = .ok (.iconst (-1), 1) := by decide +kernel
theorem dX11_image_13 : decode cX11_image 13 = .ok (.ireturn, 1) := by decide +kernel
theorem dX11_image_14 : decode cX11_image 14 = .ok (.aload_n 0, 1) := by decide +kernel
theorem dX11_image_15 : decode cX11_image 15 = .ok (.getfield 70, 3) := by decide +kernel
theorem dX11_image_18 : decode cX11_image 18 = .ok (.iload_n 1, 1) := by decide +kernel
theorem dX11_image_19 : decode cX11_image 19 = .ok (.iconst 1, 1) := by decide +kernel
theorem dX11_image_20 : decode cX11_image 20 = .ok (.bastore, 1) := by decide +kernel
theorem dX11_image_21 : decode cX11_image 21 = .ok (.aload_n 0, 1) := by decide +kernel
theorem dX11_image_22 : decode cX11_image 22 = .ok (.getfield 64, 3) := by decide +kernel
theorem dX11_image_25 : decode cX11_image 25 = .ok (.iload_n 1, 1) := by decide +kernel
theorem dX11_image_26 : decode cX11_image 26 = .ok (.aload_n 0, 1) := by decide +kernel
theorem dX11_image_27 : decode cX11_image 27 = .ok (.getfield 42, 3) := by decide +kernel
theorem dX11_image_30 : decode cX11_image 30 = .ok (.iastore, 1) := by decide +kernel
theorem dX11_image_31 : decode cX11_image 31 = .ok (.aload_n 0, 1) := by decide +kernel
theorem dX11_image_32 : decode cX11_image 32 = .ok (.getfield 67, 3) := by decide +kernel
theorem dX11_image_35 : decode cX11_image 35 = .ok (.iload_n 1, 1) := by decide +kernel
theorem dX11_image_36 : decode cX11_image 36 = .ok (.aload_n 0, 1) := by decide +kernel
theorem dX11_image_37 : decode cX11_image 37 = .ok (.getfield 449, 3) := by decide +kernel
theorem dX11_image_40 : decode cX11_image 40 = .ok (.iastore, 1) := by decide +kernel
theorem dX11_image_41 : decode cX11_image 41 = .ok (.iconst 0, 1) := by decide +kernel
theorem dX11_image_42 : decode cX11_image 42 = .ok (.istore_n 2, 1) := by decide +kernel
theorem dX11_image_43 : decode cX11_image 43 = .ok (.iload_n 2, 1) := by decide +kernel
theorem dX11_image_44 : decode cX11_image 44 = .ok (.sipush 144, 3) := by decide +kernel
theorem dX11_image_47 : decode cX11_image 47 = .ok (.if_icmp .ge 27, 3) := by decide +kernel
theorem dX11_image_50 : decode cX11_image 50 = .ok (.aload_n 0, 1) := by decide +kernel
theorem dX11_image_51 : decode cX11_image 51 = .ok (.getfield 61, 3) := by decide +kernel
theorem dX11_image_54 : decode cX11_image 54 = .ok (.sipush 144, 3) := by decide +kernel
theorem dX11_image_57 : decode cX11_image 57 = .ok (.iload_n 1, 1) := by decide +kernel
theorem dX11_image_58 : decode cX11_image 58 = .ok (.imul, 1) := by decide +kernel
theorem dX11_image_59 : decode cX11_image 59 = .ok (.iload_n 2, 1) := by decide +kernel
theorem dX11_image_60 : decode cX11_image 60 = .ok (.iadd, 1) := by decide +kernel
theorem dX11_image_61 : decode cX11_image 61 = .ok (.aload_n 0, 1) := by decide +kernel
theorem dX11_image_62 : decode cX11_image 62 = .ok (.getfield 39, 3) := by decide +kernel
theorem dX11_image_65 : decode cX11_image 65 = .ok (.iload_n 2, 1) := by decide +kernel
theorem dX11_image_66 : decode cX11_image 66 = .ok (.iaload, 1) := by decide +kernel
theorem dX11_image_67 : decode cX11_image 67 = .ok (.iastore, 1) := by decide +kernel
theorem dX11_image_68 : decode cX11_image 68 = .ok (.iinc 2 1, 3) := by decide +kernel
theorem dX11_image_71 : decode cX11_image 71 = .ok (.goto (-28), 3) := by decide +kernel
theorem dX11_image_74 : decode cX11_image 74 = .ok (.aload_n 0, 1) := by decide +kernel
theorem dX11_image_75 : decode cX11_image 75 = .ok (.getfield 39, 3) := by decide +kernel
theorem dX11_image_78 : decode cX11_image 78 = .ok (.bipush 6, 2) := by decide +kernel
theorem dX11_image_80 : decode cX11_image 80 = .ok (.iaload, 1) := by decide +kernel
theorem dX11_image_81 : decode cX11_image 81 = .ok (.ireturn, 1) := by decide +kernel
theorem dX11_back_0 : decode cX11_back 0 = .ok (.iload_n 1, 1) := by decide +kernel
theorem dX11_back_1 : decode cX11_back 1 = .ok (.i2l, 1) := by decide +kernel
theorem dX11_back_2 : decode cX11_back 2 = .ok (.lconst 0, 1) := by decide +kernel
theorem dX11_back_3 : decode cX11_back 3 = .ok (.ldc2_w 414, 3) := by decide +kernel
theorem dX11_back_6 : decode cX11_back 6 = .ok (.invokestatic 112, 3) := by decide +kernel
theorem dX11_back_9 : decode cX11_back 9 = .ok (.ifCond .eq 12, 3) := by decide +kernel
theorem dX11_back_12 : decode cX11_back 12 = .ok (.aload_n 0, 1) := by decide +kernel
theorem dX11_back_13 : decode cX11_back 13 = .ok (.getfield 70, 3) := by decide +kernel
theorem dX11_back_16 : decode cX11_back 16 = .ok (.iload_n 1, 1) := by decide +kernel
theorem dX11_back_17 : decode cX11_back 17 = .ok (.baload, 1) := by decide +kernel
theorem dX11_back_18 : decode cX11_back 18 = .ok (.ifCond .ne 5, 3) := by decide +kernel
theorem dX11_back_21 : decode cX11_back 21 = .ok (.iconst (-1), 1) := by decide +kernel
theorem dX11_back_22 : decode cX11_back 22 = .ok (.ireturn, 1) := by decide +kernel
theorem dX11_back_23 : decode cX11_back 23 = .ok (.aload_n 0, 1) := by decide +kernel
theorem dX11_back_24 : decode cX11_back 24 = .ok (.aload_n 0, 1) := by decide +kernel
theorem dX11_back_25 : decode cX11_back 25 = .ok (.getfield 64, 3) := by decide +kernel
theorem dX11_back_28 : decode cX11_back 28 = .ok (.iload_n 1, 1) := by decide +kernel
theorem dX11_back_29 : decode cX11_back 29 = .ok (.iaload, 1) := by decide +kernel
theorem dX11_back_30 : decode cX11_back 30 = .ok (.putfield 42, 3) := by decide +kernel
theorem dX11_back_33 : decode cX11_back 33 = .ok (.aload_n 0, 1) := by decide +kernel
theorem dX11_back_34 : decode cX11_back 34 = .ok (.aload_n 0, 1) := by decide +kernel
theorem dX11_back_35 : decode cX11_back 35 = .ok (.getfield 67, 3) := by decide +kernel
theorem dX11_back_38 : decode cX11_back 38 = .ok (.iload_n 1, 1) := by decide +kernel
theorem dX11_back_39 : decode cX11_back 39 = .ok (.iaload, 1) := by decide +kernel
theorem dX11_back_40 : decode cX11_back 40 = .ok (.putfield 449, 3) := by decide +kernel
theorem dX11_back_43 : decode cX11_back 43 = .ok (.aload_n 0, 1) := by decide +kernel
theorem dX11_back_44 : decode cX11_back 44 = .ok (.iconst 0, 1) := by decide +kernel
theorem dX11_back_45 : decode cX11_back 45 = .ok (.putfield 267, 3) := by decide +kernel
theorem dX11_back_48 : decode cX11_back 48 = .ok (.iconst 0, 1) := by decide +kernel
theorem dX11_back_49 : decode cX11_back 49 = .ok (.istore_n 2, 1) := by decide +kernel
theorem dX11_back_50 : decode cX11_back 50 = .ok (.iload_n 2, 1) := by decide +kernel
theorem dX11_back_51 : decode cX11_back 51 = .ok (.sipush 144, 3) := by decide +kernel
theorem dX11_back_54 : decode cX11_back 54 = .ok (.if_icmp .ge 27, 3) := by decide +kernel
theorem dX11_back_57 : decode cX11_back 57 = .ok (.aload_n 0, 1) := by decide +kernel
theorem dX11_back_58 : decode cX11_back 58 = .ok (.getfield 39, 3) := by decide +kernel
theorem dX11_back_61 : decode cX11_back 61 = .ok (.iload_n 2, 1) := by decide +kernel
theorem dX11_back_62 : decode cX11_back 62 = .ok (.aload_n 0, 1) := by decide +kernel
theorem dX11_back_63 : decode cX11_back 63 = .ok (.getfield 61, 3) := by decide +kernel
theorem dX11_back_66 : decode cX11_back 66 = .ok (.sipush 144, 3) := by decide +kernel
theorem dX11_back_69 : decode cX11_back 69 = .ok (.iload_n 1, 1) := by decide +kernel
theorem dX11_back_70 : decode cX11_back 70 = .ok (.imul, 1) := by decide +kernel
theorem dX11_back_71 : decode cX11_back 71 = .ok (.iload_n 2, 1) := by decide +kernel
theorem dX11_back_72 : decode cX11_back 72 = .ok (.iadd, 1) := by decide +kernel
theorem dX11_back_73 : decode cX11_back 73 = .ok (.iaload, 1) := by decide +kernel
theorem dX11_back_74 : decode cX11_back 74 = .ok (.iastore, 1) := by decide +kernel
theorem dX11_back_75 : decode cX11_back 75 = .ok (.iinc 2 1, 3) := by decide +kernel
theorem dX11_back_78 : decode cX11_back 78 = .ok (.goto (-28), 3) := by decide +kernel
theorem dX11_back_81 : decode cX11_back 81 = .ok (.aload_n 0, 1) := by decide +kernel
theorem dX11_back_82 : decode cX11_back 82 = .ok (.getfield 39, 3) := by decide +kernel
theorem dX11_back_85 : decode cX11_back 85 = .ok (.bipush 6, 2) := by decide +kernel
theorem dX11_back_87 : decode cX11_back 87 = .ok (.iaload, 1) := by decide +kernel
theorem dX11_back_88 : decode cX11_back 88 = .ok (.ireturn, 1) := by decide +kernel
set_option maxRecDepth 20000 in
def gX11_dark_63 (N : Nat)  (rec29 : Nat → Int32 → Int32 → Int32 → Int32 → SG → Option (Int32 × SG)) (x0 : Nat) (x1 : Int32) (x2 : Int32) (x3 : Int32) (x4 : Int32) (u : SG) : Option (Int32 × SG) := if zK u x0 = 12 then cl (fX11_isDarkEnough N x0 x4 u) fun r1 u2 => (if r1 = 0 then (rec29 x0 x1 x2 x3 (x4 + (1 : Int32)) u2)
  else (rec29 x0 x1 x2 x4 (x4 + (1 : Int32)) u2)) else none
set_option maxRecDepth 20000 in
set_option maxHeartbeats 4000000 in
theorem jgX11_dark_63 {rec29 : Nat → Int32 → Int32 → Int32 → Int32 → SG → Option (Int32 × SG)}  {X : XT} (hX : Cx X yX11_dark cX11_dark 5 (some .int) 4 0 0) (N : Nat) (hrec29 : ∀ (x0 : Nat) (x1 : Int32) (x2 : Int32) (x3 : Int32) (x4 : Int32)  (u : SG), JF X True 5 0 0 (jQ X vI 0 0) 29 [(0, .ref x0), (1, .int x1), (2, .int x2), (3, .int x3), (4, .int x4)] [] u (rec29 x0 x1 x2 x3 x4  u)) (x0 : Nat) (x1 : Int32) (x2 : Int32) (x3 : Int32) (x4 : Int32) (u : SG) : JF X True 5 0 0 (jQ X vI 0 0) 63 [(0, .ref x0), (1, .int x1), (2, .int x2), (3, .int x3), (4, .int x4)] [] u (gX11_dark_63 N  rec29 x0 x1 x2 x3 x4 u) := by
  unfold gX11_dark_63
  refine jf_aload_n hX dX11_dark_63 0 rfl ?_
  refine jf_iload hX dX11_dark_64 4 rfl ?_
  refine jf_callV (As := [.int x4]) (st := []) hX mo_X11_isDarkEnough wml_296 winst_297 wsel_298 11 ck_X11 rfl (fun l D cT z0 ks => kX11_isDarkEnough N l D cT z0 ks x0 x4 u) (by decide) (by decide) (by decide) (by decide) (Nat.le_of_ble_eq_true rfl) rfl rfl dX11_dark_66 (fun r1 u2 => ?_)
  refine jf_if_eq (tgt := 75) hX dX11_dark_69 (by decide) ?_ ?_
  · refine jf_iinc (v := 1) (lv' := [(4, .int (x4 + (1 : Int32))), (0, .ref x0), (1, .int x1), (2, .int x2), (3, .int x3)]) hX dX11_dark_75 4 rfl (by decide) (by decide) rfl ?_
    refine jf_goto (tgt := 29) hX dX11_dark_78 (by decide) ?_
    refine jf_lv [1, 2, 3, 4, 0] rfl ?_
    exact hrec29 x0 x1 x2 x3 (x4 + (1 : Int32)) u2
  · refine jf_iload hX dX11_dark_72 4 rfl ?_
    refine jf_istore_n (lv' := [(3, .int x4), (0, .ref x0), (1, .int x1), (2, .int x2), (4, .int x4)]) hX dX11_dark_74 rfl (by decide) rfl ?_
    refine jf_iinc (v := 1) (lv' := [(4, .int (x4 + (1 : Int32))), (3, .int x4), (0, .ref x0), (1, .int x1), (2, .int x2)]) hX dX11_dark_75 4 rfl (by decide) (by decide) rfl ?_
    refine jf_goto (tgt := 29) hX dX11_dark_78 (by decide) ?_
    refine jf_lv [2, 3, 4, 1, 0] rfl ?_
    exact hrec29 x0 x1 x2 x4 (x4 + (1 : Int32)) u2
set_option maxRecDepth 20000 in
def gX11_dark_29 (N : Nat)   : Nat → Nat → Int32 → Int32 → Int32 → Int32 → SG → Option (Int32 × SG)
  | 0, _, _, _, _, _, _ => none
  | n + 1, x0, x1, x2, x3, x4, u => if x2 < x4 then (if x1 = 0 then (cl (fX11_bits N x3 u) fun r1 u2 => (some (r1, u2)))
  else (some (x3, u)))
  else (if (x4 &&& (x2 ^^^ (-1 : Int32))) = 0 then (if x3 < 0 then (gX11_dark_63 N (gX11_dark_29 N  n) x0 x1 x2 x3 x4 u)
  else (cl (fX11_bits N x4 u) fun r3 u4 => (cl (fX11_bits N x3 u4) fun r5 u6 => (if r3 < r5 then (gX11_dark_63 N (gX11_dark_29 N  n) x0 x1 x2 x3 x4 u6)
  else ((gX11_dark_29 N  n) x0 x1 x2 x3 (x4 + (1 : Int32)) u6)))))
  else ((gX11_dark_29 N  n) x0 x1 x2 x3 (x4 + (1 : Int32)) u))
set_option maxRecDepth 20000 in
set_option maxHeartbeats 4000000 in
theorem jgX11_dark_29   {X : XT} (hX : Cx X yX11_dark cX11_dark 5 (some .int) 4 0 0) (N : Nat)  : ∀ (n : Nat) (x0 : Nat) (x1 : Int32) (x2 : Int32) (x3 : Int32) (x4 : Int32) (u : SG), JF X True 5 0 0 (jQ X vI 0 0) 29 [(0, .ref x0), (1, .int x1), (2, .int x2), (3, .int x3), (4, .int x4)] [] u (gX11_dark_29 N   n x0 x1 x2 x3 x4 u) := by
  intro n
  induction n with
  | zero => intros; intro r u9 h9; exact absurd h9 (by simp [gX11_dark_29])
  | succ n ih =>
    intro x0 x1 x2 x3 x4 u
    have hrec29 := ih
    rw [gX11_dark_29]
    refine jf_iload hX dX11_dark_29 4 rfl ?_
    refine jf_iload_n hX dX11_dark_31 2 rfl ?_
    refine jf_icmp_gt (tgt := 81) hX dX11_dark_32 (by decide) ?_ ?_
    · refine jf_iload_n hX dX11_dark_81 1 rfl ?_
      refine jf_if_ne (tgt := 92) hX dX11_dark_82 (by decide) ?_ ?_
      · refine jf_iload_n hX dX11_dark_92 3 rfl ?_
        exact jf_iret hX rfl (by decide) (by decide) dX11_dark_93
      · refine jf_iload_n hX dX11_dark_85 3 rfl ?_
        refine jf_callS (As := [.int x3]) (st := []) hX mo_X11_bits wml_224 wstat_225 rfl (fun l D cT z0 ks => kX11_bits N l D cT z0 ks x3 u) (by decide) (by decide) (by decide) (by decide) (Nat.le_of_ble_eq_true rfl) rfl rfl dX11_dark_86 (fun r1 u2 => ?_)
        refine jf_goto (tgt := 93) hX dX11_dark_89 (by decide) ?_
        exact jf_iret hX rfl (by decide) (by decide) dX11_dark_93
    · refine jf_iload hX dX11_dark_35 4 rfl ?_
      refine jf_iload_n hX dX11_dark_37 2 rfl ?_
      refine jf_iconst (v := -1) hX dX11_dark_38 (by decide) ?_
      refine jf_ixor hX dX11_dark_39 ?_
      refine jf_iand hX dX11_dark_40 ?_
      refine jf_if_ne (tgt := 75) hX dX11_dark_41 (by decide) ?_ ?_
      · refine jf_iinc (v := 1) (lv' := [(4, .int (x4 + (1 : Int32))), (0, .ref x0), (1, .int x1), (2, .int x2), (3, .int x3)]) hX dX11_dark_75 4 rfl (by decide) (by decide) rfl ?_
        refine jf_goto (tgt := 29) hX dX11_dark_78 (by decide) ?_
        refine jf_lv [1, 2, 3, 4, 0] rfl ?_
        exact hrec29 x0 x1 x2 x3 (x4 + (1 : Int32)) u
      · refine jf_iload_n hX dX11_dark_44 3 rfl ?_
        refine jf_if_lt (tgt := 63) hX dX11_dark_45 (by decide) ?_ ?_
        · refine jf_lv [0, 1, 2, 3, 4] rfl ?_
          exact jgX11_dark_63 hX N hrec29 x0 x1 x2 x3 x4 u
        · refine jf_iload hX dX11_dark_48 4 rfl ?_
          refine jf_callS (As := [.int x4]) (st := []) hX mo_X11_bits wml_224 wstat_225 rfl (fun l D cT z0 ks => kX11_bits N l D cT z0 ks x4 u) (by decide) (by decide) (by decide) (by decide) (Nat.le_of_ble_eq_true rfl) rfl rfl dX11_dark_50 (fun r3 u4 => ?_)
          refine jf_iload_n hX dX11_dark_53 3 rfl ?_
          refine jf_callS (As := [.int x3]) (st := [.int r3]) hX mo_X11_bits wml_224 wstat_225 rfl (fun l D cT z0 ks => kX11_bits N l D cT z0 ks x3 u4) (by decide) (by decide) (by decide) (by decide) (Nat.le_of_ble_eq_true rfl) rfl rfl dX11_dark_54 (fun r5 u6 => ?_)
          refine jf_icmp_lt (tgt := 63) hX dX11_dark_57 (by decide) ?_ ?_
          · refine jf_lv [0, 1, 2, 3, 4] rfl ?_
            exact jgX11_dark_63 hX N hrec29 x0 x1 x2 x3 x4 u6
          · refine jf_goto (tgt := 75) hX dX11_dark_60 (by decide) ?_
            refine jf_iinc (v := 1) (lv' := [(4, .int (x4 + (1 : Int32))), (0, .ref x0), (1, .int x1), (2, .int x2), (3, .int x3)]) hX dX11_dark_75 4 rfl (by decide) (by decide) rfl ?_
            refine jf_goto (tgt := 29) hX dX11_dark_78 (by decide) ?_
            refine jf_lv [1, 2, 3, 4, 0] rfl ?_
            exact hrec29 x0 x1 x2 x3 (x4 + (1 : Int32)) u6
set_option maxRecDepth 20000 in
def fX11_dark (N : Nat)  (a0 : Nat) (p1 : Int32) (u : SG) : Option (Int32 × SG) := if zK u a0 = 12 then cl (fX11_isStreet N a0 u) fun r1 u2 => (if r1 = 0 then (some ((-1 : Int32), u2))
  else (cl (fX11_in N p1.toInt64 (0 : Int64) (1 : Int64) u2) fun r3 u4 => (if r3 = 0 then (some ((-1 : Int32), u4))
  else (if zK u4 a0 = 12 then cl (fX11_burning N a0 u4) fun r5 u6 => (gX11_dark_29 N  N a0 p1 r5 (-1 : Int32) (0 : Int32) u6) else none)))) else none
set_option maxRecDepth 20000 in
set_option maxHeartbeats 4000000 in
theorem kX11_dark  (N : Nat)  (l : Launch) (D : va_G) (cT : Nat → ClassId) (z0 : Nat) (ks : Nat × Nat) (a0 : Nat) (p1 : Int32) (u : SG) : Ct l D cT z0 ks yX11_dark cX11_dark 5 (some .int) 4 0 0 vI [.ref a0, .int p1] u (fX11_dark N  a0 p1 u) := by
  unfold fX11_dark
  refine ct_of (by decide +kernel) (Nat.le_of_ble_eq_true rfl) (fun p e R s m args below meth c hX => ?_)
  show JF _ True 5 0 0 _ 0 [(0, .ref a0), (1, .int p1)] [] u _
  refine jf_aload_n hX dX11_dark_0 0 rfl ?_
  refine jf_callV (As := []) (st := []) hX mo_X11_isStreet wml_253 winst_254 wsel_255 11 ck_X11 rfl (fun l D cT z0 ks => kX11_isStreet N l D cT z0 ks a0 u) (by decide) (by decide) (by decide) (by decide) (Nat.le_of_ble_eq_true rfl) rfl rfl dX11_dark_1 (fun r1 u2 => ?_)
  refine jf_if_eq (tgt := 17) hX dX11_dark_4 (by decide) ?_ ?_
  · refine jf_iconst (v := -1) hX dX11_dark_17 (by decide) ?_
    exact jf_iret hX rfl (by decide) (by decide) dX11_dark_18
  · refine jf_iload_n hX dX11_dark_7 1 rfl ?_
    refine jf_i2l hX dX11_dark_8 ?_
    refine jf_lconst (v := 0) hX dX11_dark_9 (by decide) ?_
    refine jf_lconst (v := 1) hX dX11_dark_10 (by decide) ?_
    refine jf_callS (As := [.long p1.toInt64, .long (0 : Int64), .long (1 : Int64)]) (st := []) hX mo_X11_in wml_68 wstat_69 rfl (fun l D cT z0 ks => kX11_in N l D cT z0 ks p1.toInt64 (0 : Int64) (1 : Int64) u2) (by decide) (by decide) (by decide) (by decide) (Nat.le_of_ble_eq_true rfl) rfl rfl dX11_dark_11 (fun r3 u4 => ?_)
    refine jf_if_ne (tgt := 19) hX dX11_dark_14 (by decide) ?_ ?_
    · refine jf_aload_n hX dX11_dark_19 0 rfl ?_
      refine jf_callV (As := []) (st := []) hX mo_X11_burning wml_293 winst_294 wsel_295 11 ck_X11 rfl (fun l D cT z0 ks => kX11_burning N l D cT z0 ks a0 u4) (by decide) (by decide) (by decide) (by decide) (Nat.le_of_ble_eq_true rfl) rfl rfl dX11_dark_20 (fun r5 u6 => ?_)
      refine jf_istore_n (lv' := [(2, .int r5), (0, .ref a0), (1, .int p1)]) hX dX11_dark_23 rfl (by decide) rfl ?_
      refine jf_iconst (v := -1) hX dX11_dark_24 (by decide) ?_
      refine jf_istore_n (lv' := [(3, .int (-1 : Int32)), (2, .int r5), (0, .ref a0), (1, .int p1)]) hX dX11_dark_25 rfl (by decide) rfl ?_
      refine jf_iconst (v := 0) hX dX11_dark_26 (by decide) ?_
      refine jf_istore (lv' := [(4, .int (0 : Int32)), (3, .int (-1 : Int32)), (2, .int r5), (0, .ref a0), (1, .int p1)]) hX dX11_dark_27 (by decide) rfl ?_
      refine jf_lv [3, 4, 2, 1, 0] rfl ?_
      exact jgX11_dark_29 hX N  N a0 p1 r5 (-1 : Int32) (0 : Int32) u6
    · refine jf_iconst (v := -1) hX dX11_dark_17 (by decide) ?_
      exact jf_iret hX rfl (by decide) (by decide) dX11_dark_18
set_option maxRecDepth 20000 in
def gX11_fact__132 (N : Nat)   (x0 : Nat) (x1 : Int32) (x2 : Int32) (x3 : Int32) (x4 : Int32) (u : SG) : Option (Int32 × SG) := if zK u x0 = 12 then (Option.bind (zR u x0 20) fun q1 => (if zK u q1 = 22 then if zN u q1 ≤ 143 then none else (bs ((103 : Int32) + ((4 : Int32) * (zI u q1 143))) fun v2 => (if zK u x0 = 12 then (Option.bind (zR u x0 20) fun q3 => (if zK u q3 = 22 then if v2 < 0 ∨ zN u q3 ≤ v2.toNatClampNeg then none else bs (sI u q3 v2.toNatClampNeg x1) fun u4 => (if zK u4 x0 = 12 then (Option.bind (zR u4 x0 20) fun q5 => (if zK u4 q5 = 22 then if (v2 + (1 : Int32)) < 0 ∨ zN u4 q5 ≤ (v2 + (1 : Int32)).toNatClampNeg then none else bs (sI u4 q5 (v2 + (1 : Int32)).toNatClampNeg x2) fun u6 => (if zK u6 x0 = 12 then (Option.bind (zR u6 x0 20) fun q7 => (if zK u6 q7 = 22 then if (v2 + (2 : Int32)) < 0 ∨ zN u6 q7 ≤ (v2 + (2 : Int32)).toNatClampNeg then none else bs (sI u6 q7 (v2 + (2 : Int32)).toNatClampNeg x3) fun u8 => (if zK u8 x0 = 12 then (Option.bind (zR u8 x0 20) fun q9 => (if zK u8 q9 = 22 then if (v2 + (3 : Int32)) < 0 ∨ zN u8 q9 ≤ (v2 + (3 : Int32)).toNatClampNeg then none else bs (sI u8 q9 (v2 + (3 : Int32)).toNatClampNeg x4) fun u10 => (if zK u10 x0 = 12 then (Option.bind (zR u10 x0 20) fun q11 => (if zK u10 q11 = 22 then if zN u10 q11 ≤ 143 then none else (if zK u10 q11 = 22 then if zN u10 q11 ≤ 143 then none else bs (sI u10 q11 143 ((zI u10 q11 143) + (1 : Int32))) fun u12 => (if zK u12 x0 = 12 then (Option.bind (zR u12 x0 20) fun q13 => (if zK u12 q13 = 22 then if zN u12 q13 ≤ 143 then none else (some (zI u12 q13 143, u12)) else none)) else none) else none) else none)) else none) else none)) else none) else none)) else none) else none)) else none) else none)) else none)) else none)) else none
set_option maxRecDepth 20000 in
set_option maxHeartbeats 4000000 in
theorem jgX11_fact__132   {X : XT} (hX : Cx X yX11_fact_ cX11_fact_ 7 (some .int) 2 0 0) (N : Nat)  (x0 : Nat) (x1 : Int32) (x2 : Int32) (x3 : Int32) (x4 : Int32) (u : SG) : JF X True 7 0 0 (jQ X vI 0 0) 132 [(0, .ref x0), (1, .int x1), (2, .int x2), (3, .int x3), (4, .int x4)] [] u (gX11_fact__132 N   x0 x1 x2 x3 x4 u) := by
  unfold gX11_fact__132
  refine jf_bipush (v := 103) hX dX11_fact__132 (by decide) ?_
  refine jf_iconst (v := 4) hX dX11_fact__134 (by decide) ?_
  refine jf_aload_n hX dX11_fact__135 0 rfl ?_
  refine jf_getR hX ck_X11 20 wfl_31 (by decide) rfl dX11_fact__136 ?_
  refine jf_nn (fun q1 => ?_)
  refine jf_sipush (v := 143) hX dX11_fact__139 (by decide) ?_
  refine jf_ialdc 143 hX (by decide) (by decide) dX11_fact__142 ?_
  refine jf_imul hX dX11_fact__143 ?_
  refine jf_iadd hX dX11_fact__144 ?_
  refine jf_nmI (fun v2 => ?_)
  refine jf_istore (lv' := [(6, .int v2), (0, .ref x0), (1, .int x1), (2, .int x2), (3, .int x3), (4, .int x4)]) hX dX11_fact__145 (by decide) rfl ?_
  refine jf_aload_n hX dX11_fact__147 1 rfl ?_
  refine jf_getR hX ck_X11 20 wfl_31 (by decide) rfl dX11_fact__148 ?_
  refine jf_nn (fun q3 => ?_)
  refine jf_iload hX dX11_fact__151 0 rfl ?_
  refine jf_iload_n hX dX11_fact__153 2 rfl ?_
  refine jf_iast hX trivial dX11_fact__154 (fun u4 => ?_)
  refine jf_aload_n hX dX11_fact__155 1 rfl ?_
  refine jf_getR hX ck_X11 20 wfl_31 (by decide) rfl dX11_fact__156 ?_
  refine jf_nn (fun q5 => ?_)
  refine jf_iload hX dX11_fact__159 0 rfl ?_
  refine jf_iconst (v := 1) hX dX11_fact__161 (by decide) ?_
  refine jf_iadd hX dX11_fact__162 ?_
  refine jf_iload_n hX dX11_fact__163 3 rfl ?_
  refine jf_iast hX trivial dX11_fact__164 (fun u6 => ?_)
  refine jf_aload_n hX dX11_fact__165 1 rfl ?_
  refine jf_getR hX ck_X11 20 wfl_31 (by decide) rfl dX11_fact__166 ?_
  refine jf_nn (fun q7 => ?_)
  refine jf_iload hX dX11_fact__169 0 rfl ?_
  refine jf_iconst (v := 2) hX dX11_fact__171 (by decide) ?_
  refine jf_iadd hX dX11_fact__172 ?_
  refine jf_iload_n hX dX11_fact__173 4 rfl ?_
  refine jf_iast hX trivial dX11_fact__174 (fun u8 => ?_)
  refine jf_aload_n hX dX11_fact__175 1 rfl ?_
  refine jf_getR hX ck_X11 20 wfl_31 (by decide) rfl dX11_fact__176 ?_
  refine jf_nn (fun q9 => ?_)
  refine jf_iload hX dX11_fact__179 0 rfl ?_
  refine jf_iconst (v := 3) hX dX11_fact__181 (by decide) ?_
  refine jf_iadd hX dX11_fact__182 ?_
  refine jf_iload hX dX11_fact__183 5 rfl ?_
  refine jf_iast hX trivial dX11_fact__185 (fun u10 => ?_)
  refine jf_aload_n hX dX11_fact__186 1 rfl ?_
  refine jf_getR hX ck_X11 20 wfl_31 (by decide) rfl dX11_fact__187 ?_
  refine jf_nn (fun q11 => ?_)
  refine jf_sipush (v := 143) hX dX11_fact__190 (by decide) ?_
  refine jf_dup2_11 hX dX11_fact__193 rfl rfl ?_
  refine jf_ialdc 143 hX (by decide) (by decide) dX11_fact__194 ?_
  refine jf_iconst (v := 1) hX dX11_fact__195 (by decide) ?_
  refine jf_iadd hX dX11_fact__196 ?_
  refine jf_iastc 143 hX trivial (by decide) (by decide) dX11_fact__197 (fun u12 => ?_)
  refine jf_aload_n hX dX11_fact__198 1 rfl ?_
  refine jf_getR hX ck_X11 20 wfl_31 (by decide) rfl dX11_fact__199 ?_
  refine jf_nn (fun q13 => ?_)
  refine jf_sipush (v := 143) hX dX11_fact__202 (by decide) ?_
  refine jf_ialdc 143 hX (by decide) (by decide) dX11_fact__205 ?_
  exact jf_iret hX rfl (by decide) (by decide) dX11_fact__206
set_option maxRecDepth 20000 in
def gX11_fact__99 (N : Nat)   (x0 : Nat) (x1 : Int32) (x2 : Int32) (x3 : Int32) (x4 : Int32) (u : SG) : Option (Int32 × SG) := if x1 ≤ (3 : Int32) then (gX11_fact__132 N  x0 x1 x2 x3 x4 u)
  else (cl (fX11_in N x3.toInt64 (0 : Int64) (300 : Int64) u) fun r1 u2 => (if r1 = 0 then (some ((-2 : Int32), u2))
  else (cl (fX11_in N x4.toInt64 (0 : Int64) (300 : Int64) u2) fun r3 u4 => (if r3 = 0 then (some ((-2 : Int32), u4))
  else (gX11_fact__132 N  x0 x1 x2 x3 x4 u4)))))
set_option maxRecDepth 20000 in
set_option maxHeartbeats 4000000 in
theorem jgX11_fact__99   {X : XT} (hX : Cx X yX11_fact_ cX11_fact_ 7 (some .int) 2 0 0) (N : Nat)  (x0 : Nat) (x1 : Int32) (x2 : Int32) (x3 : Int32) (x4 : Int32) (u : SG) : JF X True 7 0 0 (jQ X vI 0 0) 99 [(0, .ref x0), (1, .int x1), (2, .int x2), (3, .int x3), (4, .int x4)] [] u (gX11_fact__99 N   x0 x1 x2 x3 x4 u) := by
  unfold gX11_fact__99
  refine jf_iload_n hX dX11_fact__99 1 rfl ?_
  refine jf_iconst (v := 3) hX dX11_fact__100 (by decide) ?_
  refine jf_icmp_le (tgt := 132) hX dX11_fact__101 (by decide) ?_ ?_
  · refine jf_lv [0, 1, 2, 3, 4] rfl ?_
    exact jgX11_fact__132 hX N  x0 x1 x2 x3 x4 u
  · refine jf_iload_n hX dX11_fact__104 3 rfl ?_
    refine jf_i2l hX dX11_fact__105 ?_
    refine jf_lconst (v := 0) hX dX11_fact__106 (by decide) ?_
    refine jf_ldc2 (v := 300) hX dX11_fact__107 wconl_299 ?_
    refine jf_callS (As := [.long x3.toInt64, .long (0 : Int64), .long (300 : Int64)]) (st := []) hX mo_X11_in wml_68 wstat_69 rfl (fun l D cT z0 ks => kX11_in N l D cT z0 ks x3.toInt64 (0 : Int64) (300 : Int64) u) (by decide) (by decide) (by decide) (by decide) (Nat.le_of_ble_eq_true rfl) rfl rfl dX11_fact__110 (fun r1 u2 => ?_)
    refine jf_if_eq (tgt := 129) hX dX11_fact__113 (by decide) ?_ ?_
    · refine jf_bipush (v := -2) hX dX11_fact__129 (by decide) ?_
      exact jf_iret hX rfl (by decide) (by decide) dX11_fact__131
    · refine jf_iload hX dX11_fact__116 4 rfl ?_
      refine jf_i2l hX dX11_fact__118 ?_
      refine jf_lconst (v := 0) hX dX11_fact__119 (by decide) ?_
      refine jf_ldc2 (v := 300) hX dX11_fact__120 wconl_299 ?_
      refine jf_callS (As := [.long x4.toInt64, .long (0 : Int64), .long (300 : Int64)]) (st := []) hX mo_X11_in wml_68 wstat_69 rfl (fun l D cT z0 ks => kX11_in N l D cT z0 ks x4.toInt64 (0 : Int64) (300 : Int64) u2) (by decide) (by decide) (by decide) (by decide) (Nat.le_of_ble_eq_true rfl) rfl rfl dX11_fact__123 (fun r3 u4 => ?_)
      refine jf_if_ne (tgt := 132) hX dX11_fact__126 (by decide) ?_ ?_
      · refine jf_lv [0, 1, 2, 3, 4] rfl ?_
        exact jgX11_fact__132 hX N  x0 x1 x2 x3 x4 u4
      · refine jf_bipush (v := -2) hX dX11_fact__129 (by decide) ?_
        exact jf_iret hX rfl (by decide) (by decide) dX11_fact__131
set_option maxRecDepth 20000 in
def gX11_fact__66 (N : Nat)   (x0 : Nat) (x1 : Int32) (x2 : Int32) (x3 : Int32) (x4 : Int32) (s0 : Int32) (u : SG) : Option (Int32 × SG) := if s0 = 0 then (if zK u x0 = 12 then cl (fX11_isPerson N x0 x2 u) fun r1 u2 => (if r1 = 0 then (some ((-2 : Int32), u2))
  else (gX11_fact__99 N  x0 x1 x2 x3 x4 u2)) else none)
  else (cl (fX11_in N x2.toInt64 (0 : Int64) (5 : Int64) u) fun r3 u4 => (if r3 = 0 then (some ((-2 : Int32), u4))
  else (gX11_fact__99 N  x0 x1 x2 x3 x4 u4)))
set_option maxRecDepth 20000 in
set_option maxHeartbeats 4000000 in
theorem jgX11_fact__66   {X : XT} (hX : Cx X yX11_fact_ cX11_fact_ 7 (some .int) 2 0 0) (N : Nat)  (x0 : Nat) (x1 : Int32) (x2 : Int32) (x3 : Int32) (x4 : Int32) (s0 : Int32) (u : SG) : JF X True 7 0 0 (jQ X vI 0 0) 66 [(0, .ref x0), (1, .int x1), (2, .int x2), (3, .int x3), (4, .int x4)] [.int s0] u (gX11_fact__66 N   x0 x1 x2 x3 x4 s0 u) := by
  unfold gX11_fact__66
  refine jf_istore (lv' := [(5, .int s0), (0, .ref x0), (1, .int x1), (2, .int x2), (3, .int x3), (4, .int x4)]) hX dX11_fact__66 (by decide) rfl ?_
  refine jf_iload hX dX11_fact__68 0 rfl ?_
  refine jf_if_eq (tgt := 88) hX dX11_fact__70 (by decide) ?_ ?_
  · refine jf_aload_n hX dX11_fact__88 1 rfl ?_
    refine jf_iload_n hX dX11_fact__89 3 rfl ?_
    refine jf_callV (As := [.int x2]) (st := []) hX mo_X11_isPerson wml_210 winst_211 wsel_212 11 ck_X11 rfl (fun l D cT z0 ks => kX11_isPerson N l D cT z0 ks x0 x2 u) (by decide) (by decide) (by decide) (by decide) (Nat.le_of_ble_eq_true rfl) rfl rfl dX11_fact__90 (fun r1 u2 => ?_)
    refine jf_if_ne (tgt := 99) hX dX11_fact__93 (by decide) ?_ ?_
    · refine jf_lv [1, 2, 3, 4, 5] rfl ?_
      exact jgX11_fact__99 hX N  x0 x1 x2 x3 x4 u2
    · refine jf_bipush (v := -2) hX dX11_fact__96 (by decide) ?_
      exact jf_iret hX rfl (by decide) (by decide) dX11_fact__98
  · refine jf_iload_n hX dX11_fact__73 3 rfl ?_
    refine jf_i2l hX dX11_fact__74 ?_
    refine jf_lconst (v := 0) hX dX11_fact__75 (by decide) ?_
    refine jf_ldc2 (v := 5) hX dX11_fact__76 wconl_213 ?_
    refine jf_callS (As := [.long x2.toInt64, .long (0 : Int64), .long (5 : Int64)]) (st := []) hX mo_X11_in wml_68 wstat_69 rfl (fun l D cT z0 ks => kX11_in N l D cT z0 ks x2.toInt64 (0 : Int64) (5 : Int64) u) (by decide) (by decide) (by decide) (by decide) (Nat.le_of_ble_eq_true rfl) rfl rfl dX11_fact__79 (fun r3 u4 => ?_)
    refine jf_if_ne (tgt := 99) hX dX11_fact__82 (by decide) ?_ ?_
    · refine jf_lv [1, 2, 3, 4, 5] rfl ?_
      exact jgX11_fact__99 hX N  x0 x1 x2 x3 x4 u4
    · refine jf_goto (tgt := 96) hX dX11_fact__85 (by decide) ?_
      refine jf_bipush (v := -2) hX dX11_fact__96 (by decide) ?_
      exact jf_iret hX rfl (by decide) (by decide) dX11_fact__98
set_option maxRecDepth 20000 in
def gX11_fact__61 (N : Nat)   (x0 : Nat) (x1 : Int32) (x2 : Int32) (x3 : Int32) (x4 : Int32) (u : SG) : Option (Int32 × SG) := gX11_fact__66 N  x0 x1 x2 x3 x4 (1 : Int32) u
set_option maxRecDepth 20000 in
set_option maxHeartbeats 4000000 in
theorem jgX11_fact__61   {X : XT} (hX : Cx X yX11_fact_ cX11_fact_ 7 (some .int) 2 0 0) (N : Nat)  (x0 : Nat) (x1 : Int32) (x2 : Int32) (x3 : Int32) (x4 : Int32) (u : SG) : JF X True 7 0 0 (jQ X vI 0 0) 61 [(0, .ref x0), (1, .int x1), (2, .int x2), (3, .int x3), (4, .int x4)] [] u (gX11_fact__61 N   x0 x1 x2 x3 x4 u) := by
  unfold gX11_fact__61
  refine jf_iconst (v := 1) hX dX11_fact__61 (by decide) ?_
  refine jf_goto (tgt := 66) hX dX11_fact__62 (by decide) ?_
  refine jf_lv [0, 1, 2, 3, 4] rfl ?_
  exact jgX11_fact__66 hX N  x0 x1 x2 x3 x4 (1 : Int32) u
set_option maxRecDepth 20000 in
def fX11_fact_ (N : Nat)  (a0 : Nat) (p1 : Int32) (p2 : Int32) (p3 : Int32) (p4 : Int32) (u : SG) : Option (Int32 × SG) := if p1 = (-1 : Int32) then (if zK u a0 = 12 then (Option.bind (zR u a0 20) fun q6 => (if zK u q6 = 22 then if zN u q6 ≤ 143 then none else bs (sI u q6 143 (0 : Int32)) fun u7 => (some ((0 : Int32), u7)) else none)) else none)
  else (if zK u a0 = 12 then cl (fX11_isStreet N a0 u) fun r1 u2 => (if r1 = 0 then (some ((-2 : Int32), u2))
  else (cl (fX11_in N p1.toInt64 (0 : Int64) (5 : Int64) u2) fun r3 u4 => (if r3 = 0 then (some ((-2 : Int32), u4))
  else (if zK u4 a0 = 12 then (Option.bind (zR u4 a0 20) fun q5 => (if zK u4 q5 = 22 then if zN u4 q5 ≤ 143 then none else (if (zI u4 q5 143) = (10 : Int32) then (some ((-2 : Int32), u4))
  else (if p1 = (2 : Int32) then (gX11_fact__61 N  a0 p1 p2 p3 p4 u4)
  else (if p1 = (3 : Int32) then (gX11_fact__61 N  a0 p1 p2 p3 p4 u4)
  else (gX11_fact__66 N  a0 p1 p2 p3 p4 (0 : Int32) u4)))) else none)) else none)))) else none)
set_option maxRecDepth 20000 in
set_option maxHeartbeats 4000000 in
theorem kX11_fact_  (N : Nat)  (l : Launch) (D : va_G) (cT : Nat → ClassId) (z0 : Nat) (ks : Nat × Nat) (a0 : Nat) (p1 : Int32) (p2 : Int32) (p3 : Int32) (p4 : Int32) (u : SG) : Ct l D cT z0 ks yX11_fact_ cX11_fact_ 7 (some .int) 2 0 0 vI [.ref a0, .int p1, .int p2, .int p3, .int p4] u (fX11_fact_ N  a0 p1 p2 p3 p4 u) := by
  unfold fX11_fact_
  refine ct_of (by decide +kernel) (Nat.le_of_ble_eq_true rfl) (fun p e R s m args below meth c hX => ?_)
  show JF _ True 7 0 0 _ 0 [(0, .ref a0), (1, .int p1), (2, .int p2), (3, .int p3), (4, .int p4)] [] u _
  refine jf_iload_n hX dX11_fact__0 1 rfl ?_
  refine jf_iconst (v := -1) hX dX11_fact__1 (by decide) ?_
  refine jf_icmp_ne (tgt := 16) hX dX11_fact__2 (by decide) ?_ ?_
  · refine jf_aload_n hX dX11_fact__16 0 rfl ?_
    refine jf_callV (As := []) (st := []) hX mo_X11_isStreet wml_253 winst_254 wsel_255 11 ck_X11 rfl (fun l D cT z0 ks => kX11_isStreet N l D cT z0 ks a0 u) (by decide) (by decide) (by decide) (by decide) (Nat.le_of_ble_eq_true rfl) rfl rfl dX11_fact__17 (fun r1 u2 => ?_)
    refine jf_if_eq (tgt := 48) hX dX11_fact__20 (by decide) ?_ ?_
    · refine jf_bipush (v := -2) hX dX11_fact__48 (by decide) ?_
      exact jf_iret hX rfl (by decide) (by decide) dX11_fact__50
    · refine jf_iload_n hX dX11_fact__23 1 rfl ?_
      refine jf_i2l hX dX11_fact__24 ?_
      refine jf_lconst (v := 0) hX dX11_fact__25 (by decide) ?_
      refine jf_ldc2 (v := 5) hX dX11_fact__26 wconl_213 ?_
      refine jf_callS (As := [.long p1.toInt64, .long (0 : Int64), .long (5 : Int64)]) (st := []) hX mo_X11_in wml_68 wstat_69 rfl (fun l D cT z0 ks => kX11_in N l D cT z0 ks p1.toInt64 (0 : Int64) (5 : Int64) u2) (by decide) (by decide) (by decide) (by decide) (Nat.le_of_ble_eq_true rfl) rfl rfl dX11_fact__29 (fun r3 u4 => ?_)
      refine jf_if_eq (tgt := 48) hX dX11_fact__32 (by decide) ?_ ?_
      · refine jf_bipush (v := -2) hX dX11_fact__48 (by decide) ?_
        exact jf_iret hX rfl (by decide) (by decide) dX11_fact__50
      · refine jf_aload_n hX dX11_fact__35 0 rfl ?_
        refine jf_getR hX ck_X11 20 wfl_31 (by decide) rfl dX11_fact__36 ?_
        refine jf_nn (fun q5 => ?_)
        refine jf_sipush (v := 143) hX dX11_fact__39 (by decide) ?_
        refine jf_ialdc 143 hX (by decide) (by decide) dX11_fact__42 ?_
        refine jf_bipush (v := 10) hX dX11_fact__43 (by decide) ?_
        refine jf_icmp_ne (tgt := 51) hX dX11_fact__45 (by decide) ?_ ?_
        · refine jf_iload_n hX dX11_fact__51 1 rfl ?_
          refine jf_iconst (v := 2) hX dX11_fact__52 (by decide) ?_
          refine jf_icmp_eq (tgt := 61) hX dX11_fact__53 (by decide) ?_ ?_
          · refine jf_lv [0, 1, 2, 3, 4] rfl ?_
            exact jgX11_fact__61 hX N  a0 p1 p2 p3 p4 u4
          · refine jf_iload_n hX dX11_fact__56 1 rfl ?_
            refine jf_iconst (v := 3) hX dX11_fact__57 (by decide) ?_
            refine jf_icmp_ne (tgt := 65) hX dX11_fact__58 (by decide) ?_ ?_
            · refine jf_iconst (v := 0) hX dX11_fact__65 (by decide) ?_
              refine jf_lv [0, 1, 2, 3, 4] rfl ?_
              exact jgX11_fact__66 hX N  a0 p1 p2 p3 p4 (0 : Int32) u4
            · refine jf_lv [0, 1, 2, 3, 4] rfl ?_
              exact jgX11_fact__61 hX N  a0 p1 p2 p3 p4 u4
        · refine jf_bipush (v := -2) hX dX11_fact__48 (by decide) ?_
          exact jf_iret hX rfl (by decide) (by decide) dX11_fact__50
  · refine jf_aload_n hX dX11_fact__5 0 rfl ?_
    refine jf_getR hX ck_X11 20 wfl_31 (by decide) rfl dX11_fact__6 ?_
    refine jf_nn (fun q6 => ?_)
    refine jf_sipush (v := 143) hX dX11_fact__9 (by decide) ?_
    refine jf_iconst (v := 0) hX dX11_fact__12 (by decide) ?_
    refine jf_iastc 143 hX trivial (by decide) (by decide) dX11_fact__13 (fun u7 => ?_)
    refine jf_iconst (v := 0) hX dX11_fact__14 (by decide) ?_
    exact jf_iret hX rfl (by decide) (by decide) dX11_fact__15
set_option maxRecDepth 20000 in
def fX11_isFactSo (N : Nat)  (a0 : Nat) (p1 : Int32) (p2 : Int32) (u : SG) : Option (Int32 × SG) := cl (fX11_bits N p2 u) fun r1 u2 => (if zK u2 a0 = 12 then (Option.bind (zR u2 a0 20) fun q3 => (if zK u2 q3 = 22 then if (p1 + (1 : Int32)) < 0 ∨ zN u2 q3 ≤ (p1 + (1 : Int32)).toNatClampNeg then none else (bs (zI u2 q3 (p1 + (1 : Int32)).toNatClampNeg) fun v4 => (if zK u2 a0 = 12 then (Option.bind (zR u2 a0 20) fun q5 => (if zK u2 q5 = 22 then if p1 < 0 ∨ zN u2 q5 ≤ p1.toNatClampNeg then none else (bs (zI u2 q5 p1.toNatClampNeg) fun v6 => (if v6 = (0 : Int32) then (cl (fX11_isOf N p2 v4 u2) fun r7 u8 => (if r7 = 0 ∨ r7 = 1 then some (r7, u8) else none))
  else if v6 = (1 : Int32) then (cl (fX11_isOf N p2 v4 u2) fun r9 u10 => (if r9 = 0 then (some ((1 : Int32), u10))
  else (some ((0 : Int32), u10))))
  else if v6 = (2 : Int32) then (if r1 < v4 then (some ((0 : Int32), u2))
  else (some ((1 : Int32), u2)))
  else if v6 = (3 : Int32) then (if v4 < r1 then (some ((0 : Int32), u2))
  else (some ((1 : Int32), u2)))
  else if v6 = (4 : Int32) then (cl (fX11_isOf N p2 v4 u2) fun r11 u12 => (if r11 = 0 then (some ((0 : Int32), u12))
  else (if zK u12 a0 = 12 then (Option.bind (zR u12 a0 20) fun q13 => (if zK u12 q13 = 22 then if (p1 + (3 : Int32)) < 0 ∨ zN u12 q13 ≤ (p1 + (3 : Int32)).toNatClampNeg then none else (if zK u12 a0 = 12 then (Option.bind (zR u12 a0 20) fun q14 => (if zK u12 q14 = 22 then if (p1 + (2 : Int32)) < 0 ∨ zN u12 q14 ≤ (p1 + (2 : Int32)).toNatClampNeg then none else (if ((zI u12 q14 (p1 + (2 : Int32)).toNatClampNeg) * r1) < (zI u12 q13 (p1 + (3 : Int32)).toNatClampNeg) then (some ((0 : Int32), u12))
  else (some ((1 : Int32), u12))) else none)) else none) else none)) else none)))
  else (cl (fX11_isOf N p2 v4 u2) fun r15 u16 => (if r15 = 0 then (some ((0 : Int32), u16))
  else (if zK u16 a0 = 12 then (Option.bind (zR u16 a0 20) fun q17 => (if zK u16 q17 = 22 then if (p1 + (3 : Int32)) < 0 ∨ zN u16 q17 ≤ (p1 + (3 : Int32)).toNatClampNeg then none else (if zK u16 a0 = 12 then (Option.bind (zR u16 a0 20) fun q18 => (if zK u16 q18 = 22 then if (p1 + (2 : Int32)) < 0 ∨ zN u16 q18 ≤ (p1 + (2 : Int32)).toNatClampNeg then none else (if (zI u16 q17 (p1 + (3 : Int32)).toNatClampNeg) ≤ ((zI u16 q18 (p1 + (2 : Int32)).toNatClampNeg) * r1) then (some ((0 : Int32), u16))
  else (some ((1 : Int32), u16))) else none)) else none) else none)) else none))))) else none)) else none)) else none)) else none)
set_option maxRecDepth 20000 in
set_option maxHeartbeats 4000000 in
theorem kX11_isFactSo  (N : Nat)  (l : Launch) (D : va_G) (cT : Nat → ClassId) (z0 : Nat) (ks : Nat × Nat) (a0 : Nat) (p1 : Int32) (p2 : Int32) (u : SG) : Ct l D cT z0 ks yX11_isFactSo cX11_isFactSo 5 (some .boolean) 2 0 0 vI [.ref a0, .int p1, .int p2] u (fX11_isFactSo N  a0 p1 p2 u) := by
  unfold fX11_isFactSo
  refine ct_of (by decide +kernel) (Nat.le_of_ble_eq_true rfl) (fun p e R s m args below meth c hX => ?_)
  show JF _ True 5 0 0 _ 0 [(0, .ref a0), (1, .int p1), (2, .int p2)] [] u _
  refine jf_iload_n hX dX11_isFactSo_0 2 rfl ?_
  refine jf_callS (As := [.int p2]) (st := []) hX mo_X11_bits wml_224 wstat_225 rfl (fun l D cT z0 ks => kX11_bits N l D cT z0 ks p2 u) (by decide) (by decide) (by decide) (by decide) (Nat.le_of_ble_eq_true rfl) rfl rfl dX11_isFactSo_1 (fun r1 u2 => ?_)
  refine jf_istore_n (lv' := [(3, .int r1), (0, .ref a0), (1, .int p1), (2, .int p2)]) hX dX11_isFactSo_4 rfl (by decide) rfl ?_
  refine jf_aload_n hX dX11_isFactSo_5 1 rfl ?_
  refine jf_getR hX ck_X11 20 wfl_31 (by decide) rfl dX11_isFactSo_6 ?_
  refine jf_nn (fun q3 => ?_)
  refine jf_iload_n hX dX11_isFactSo_9 2 rfl ?_
  refine jf_iconst (v := 1) hX dX11_isFactSo_10 (by decide) ?_
  refine jf_iadd hX dX11_isFactSo_11 ?_
  refine jf_iald hX dX11_isFactSo_12 ?_
  refine jf_nmI (fun v4 => ?_)
  refine jf_istore (lv' := [(4, .int v4), (3, .int r1), (0, .ref a0), (1, .int p1), (2, .int p2)]) hX dX11_isFactSo_13 (by decide) rfl ?_
  refine jf_aload_n hX dX11_isFactSo_15 2 rfl ?_
  refine jf_getR hX ck_X11 20 wfl_31 (by decide) rfl dX11_isFactSo_16 ?_
  refine jf_nn (fun q5 => ?_)
  refine jf_iload_n hX dX11_isFactSo_19 3 rfl ?_
  refine jf_iald hX dX11_isFactSo_20 ?_
  refine jf_nmI (fun v6 => ?_)
  refine jf_tcase (k := 0) (kv := 0) (tgt := 56) hX dX11_isFactSo_21 rfl (by decide) (by decide) rfl (by decide) ?_ (fun hn0 => ?_)
  · refine jf_iload_n hX dX11_isFactSo_56 4 rfl ?_
    refine jf_iload hX dX11_isFactSo_57 0 rfl ?_
    refine jf_callS (As := [.int p2, .int v4]) (st := []) hX mo_X11_isOf wml_273 wstat_274 rfl (fun l D cT z0 ks => kX11_isOf N l D cT z0 ks p2 v4 u2) (by decide) (by decide) (by decide) (by decide) (Nat.le_of_ble_eq_true rfl) rfl rfl dX11_isFactSo_59 (fun r7 u8 => ?_)
    exact jf_zret hX rfl (by decide) (by decide) dX11_isFactSo_62
  refine jf_tcase (k := 1) (kv := 1) (tgt := 63) hX dX11_isFactSo_21 rfl (by decide) (by decide) rfl (by decide) ?_ (fun hn1 => ?_)
  · refine jf_iload_n hX dX11_isFactSo_63 4 rfl ?_
    refine jf_iload hX dX11_isFactSo_64 0 rfl ?_
    refine jf_callS (As := [.int p2, .int v4]) (st := []) hX mo_X11_isOf wml_273 wstat_274 rfl (fun l D cT z0 ks => kX11_isOf N l D cT z0 ks p2 v4 u2) (by decide) (by decide) (by decide) (by decide) (Nat.le_of_ble_eq_true rfl) rfl rfl dX11_isFactSo_66 (fun r9 u10 => ?_)
    refine jf_if_ne (tgt := 76) hX dX11_isFactSo_69 (by decide) ?_ ?_
    · refine jf_iconst (v := 0) hX dX11_isFactSo_76 (by decide) ?_
      exact jf_zretc hX rfl (by decide) (by decide) (by decide) dX11_isFactSo_77
    · refine jf_iconst (v := 1) hX dX11_isFactSo_72 (by decide) ?_
      refine jf_goto (tgt := 77) hX dX11_isFactSo_73 (by decide) ?_
      exact jf_zretc hX rfl (by decide) (by decide) (by decide) dX11_isFactSo_77
  refine jf_tcase (k := 2) (kv := 2) (tgt := 78) hX dX11_isFactSo_21 rfl (by decide) (by decide) rfl (by decide) ?_ (fun hn2 => ?_)
  · refine jf_iload_n hX dX11_isFactSo_78 1 rfl ?_
    refine jf_iload hX dX11_isFactSo_79 0 rfl ?_
    refine jf_icmp_lt (tgt := 88) hX dX11_isFactSo_81 (by decide) ?_ ?_
    · refine jf_iconst (v := 0) hX dX11_isFactSo_88 (by decide) ?_
      exact jf_zretc hX rfl (by decide) (by decide) (by decide) dX11_isFactSo_89
    · refine jf_iconst (v := 1) hX dX11_isFactSo_84 (by decide) ?_
      refine jf_goto (tgt := 89) hX dX11_isFactSo_85 (by decide) ?_
      exact jf_zretc hX rfl (by decide) (by decide) (by decide) dX11_isFactSo_89
  refine jf_tcase (k := 3) (kv := 3) (tgt := 90) hX dX11_isFactSo_21 rfl (by decide) (by decide) rfl (by decide) ?_ (fun hn3 => ?_)
  · refine jf_iload_n hX dX11_isFactSo_90 1 rfl ?_
    refine jf_iload hX dX11_isFactSo_91 0 rfl ?_
    refine jf_icmp_gt (tgt := 100) hX dX11_isFactSo_93 (by decide) ?_ ?_
    · refine jf_iconst (v := 0) hX dX11_isFactSo_100 (by decide) ?_
      exact jf_zretc hX rfl (by decide) (by decide) (by decide) dX11_isFactSo_101
    · refine jf_iconst (v := 1) hX dX11_isFactSo_96 (by decide) ?_
      refine jf_goto (tgt := 101) hX dX11_isFactSo_97 (by decide) ?_
      exact jf_zretc hX rfl (by decide) (by decide) (by decide) dX11_isFactSo_101
  refine jf_tcase (k := 4) (kv := 4) (tgt := 102) hX dX11_isFactSo_21 rfl (by decide) (by decide) rfl (by decide) ?_ (fun hn4 => ?_)
  · refine jf_iload_n hX dX11_isFactSo_102 4 rfl ?_
    refine jf_iload hX dX11_isFactSo_103 0 rfl ?_
    refine jf_callS (As := [.int p2, .int v4]) (st := []) hX mo_X11_isOf wml_273 wstat_274 rfl (fun l D cT z0 ks => kX11_isOf N l D cT z0 ks p2 v4 u2) (by decide) (by decide) (by decide) (by decide) (Nat.le_of_ble_eq_true rfl) rfl rfl dX11_isFactSo_105 (fun r11 u12 => ?_)
    refine jf_if_eq (tgt := 136) hX dX11_isFactSo_108 (by decide) ?_ ?_
    · refine jf_iconst (v := 0) hX dX11_isFactSo_136 (by decide) ?_
      exact jf_zretc hX rfl (by decide) (by decide) (by decide) dX11_isFactSo_137
    · refine jf_aload_n hX dX11_isFactSo_111 2 rfl ?_
      refine jf_getR hX ck_X11 20 wfl_31 (by decide) rfl dX11_isFactSo_112 ?_
      refine jf_nn (fun q13 => ?_)
      refine jf_iload_n hX dX11_isFactSo_115 3 rfl ?_
      refine jf_iconst (v := 3) hX dX11_isFactSo_116 (by decide) ?_
      refine jf_iadd hX dX11_isFactSo_117 ?_
      refine jf_iald hX dX11_isFactSo_118 ?_
      refine jf_aload_n hX dX11_isFactSo_119 2 rfl ?_
      refine jf_getR hX ck_X11 20 wfl_31 (by decide) rfl dX11_isFactSo_120 ?_
      refine jf_nn (fun q14 => ?_)
      refine jf_iload_n hX dX11_isFactSo_123 3 rfl ?_
      refine jf_iconst (v := 2) hX dX11_isFactSo_124 (by decide) ?_
      refine jf_iadd hX dX11_isFactSo_125 ?_
      refine jf_iald hX dX11_isFactSo_126 ?_
      refine jf_iload_n hX dX11_isFactSo_127 1 rfl ?_
      refine jf_imul hX dX11_isFactSo_128 ?_
      refine jf_icmp_gt (tgt := 136) hX dX11_isFactSo_129 (by decide) ?_ ?_
      · refine jf_iconst (v := 0) hX dX11_isFactSo_136 (by decide) ?_
        exact jf_zretc hX rfl (by decide) (by decide) (by decide) dX11_isFactSo_137
      · refine jf_iconst (v := 1) hX dX11_isFactSo_132 (by decide) ?_
        refine jf_goto (tgt := 137) hX dX11_isFactSo_133 (by decide) ?_
        exact jf_zretc hX rfl (by decide) (by decide) (by decide) dX11_isFactSo_137
  refine jf_tdef (tgt := 138) hX dX11_isFactSo_21 (by rcases Int.lt_or_le v6.toInt (0) with h9 | h9; exact Or.inl h9; exact Or.inr (istep (istep (istep (istep (istep h9 (lv_neT (a := 0) hn0 rfl)) (lv_neT (a := 1) hn1 rfl)) (lv_neT (a := 2) hn2 rfl)) (lv_neT (a := 3) hn3 rfl)) (lv_neT (a := 4) hn4 rfl))) (by decide) ?_
  refine jf_iload_n hX dX11_isFactSo_138 4 rfl ?_
  refine jf_iload hX dX11_isFactSo_139 0 rfl ?_
  refine jf_callS (As := [.int p2, .int v4]) (st := []) hX mo_X11_isOf wml_273 wstat_274 rfl (fun l D cT z0 ks => kX11_isOf N l D cT z0 ks p2 v4 u2) (by decide) (by decide) (by decide) (by decide) (Nat.le_of_ble_eq_true rfl) rfl rfl dX11_isFactSo_141 (fun r15 u16 => ?_)
  refine jf_if_eq (tgt := 172) hX dX11_isFactSo_144 (by decide) ?_ ?_
  · refine jf_iconst (v := 0) hX dX11_isFactSo_172 (by decide) ?_
    exact jf_zretc hX rfl (by decide) (by decide) (by decide) dX11_isFactSo_173
  · refine jf_aload_n hX dX11_isFactSo_147 2 rfl ?_
    refine jf_getR hX ck_X11 20 wfl_31 (by decide) rfl dX11_isFactSo_148 ?_
    refine jf_nn (fun q17 => ?_)
    refine jf_iload_n hX dX11_isFactSo_151 3 rfl ?_
    refine jf_iconst (v := 3) hX dX11_isFactSo_152 (by decide) ?_
    refine jf_iadd hX dX11_isFactSo_153 ?_
    refine jf_iald hX dX11_isFactSo_154 ?_
    refine jf_aload_n hX dX11_isFactSo_155 2 rfl ?_
    refine jf_getR hX ck_X11 20 wfl_31 (by decide) rfl dX11_isFactSo_156 ?_
    refine jf_nn (fun q18 => ?_)
    refine jf_iload_n hX dX11_isFactSo_159 3 rfl ?_
    refine jf_iconst (v := 2) hX dX11_isFactSo_160 (by decide) ?_
    refine jf_iadd hX dX11_isFactSo_161 ?_
    refine jf_iald hX dX11_isFactSo_162 ?_
    refine jf_iload_n hX dX11_isFactSo_163 1 rfl ?_
    refine jf_imul hX dX11_isFactSo_164 ?_
    refine jf_icmp_le (tgt := 172) hX dX11_isFactSo_165 (by decide) ?_ ?_
    · refine jf_iconst (v := 0) hX dX11_isFactSo_172 (by decide) ?_
      exact jf_zretc hX rfl (by decide) (by decide) (by decide) dX11_isFactSo_173
    · refine jf_iconst (v := 1) hX dX11_isFactSo_168 (by decide) ?_
      refine jf_goto (tgt := 173) hX dX11_isFactSo_169 (by decide) ?_
      exact jf_zretc hX rfl (by decide) (by decide) (by decide) dX11_isFactSo_173
set_option maxRecDepth 20000 in
def gX11_fitsFacts_2 (N : Nat)   : Nat → Nat → Int32 → Int32 → SG → Option (Int32 × SG)
  | 0, _, _, _, _ => none
  | n + 1, x0, x1, x2, u => if zK u x0 = 12 then (Option.bind (zR u x0 20) fun q1 => (if zK u q1 = 22 then if zN u q1 ≤ 143 then none else (if (zI u q1 143) ≤ x2 then (some ((1 : Int32), u))
  else (if zK u x0 = 12 then cl (fX11_isFactSo N x0 ((103 : Int32) + ((4 : Int32) * x2)) x1 u) fun r2 u3 => (if r2 = 0 then (some ((0 : Int32), u3))
  else ((gX11_fitsFacts_2 N  n) x0 x1 (x2 + (1 : Int32)) u3)) else none)) else none)) else none
set_option maxRecDepth 20000 in
set_option maxHeartbeats 4000000 in
theorem jgX11_fitsFacts_2   {X : XT} (hX : Cx X yX11_fitsFacts cX11_fitsFacts 3 (some .boolean) 3 0 0) (N : Nat)  : ∀ (n : Nat) (x0 : Nat) (x1 : Int32) (x2 : Int32) (u : SG), JF X True 3 0 0 (jQ X vI 0 0) 2 [(0, .ref x0), (1, .int x1), (2, .int x2)] [] u (gX11_fitsFacts_2 N   n x0 x1 x2 u) := by
  intro n
  induction n with
  | zero => intros; intro r u9 h9; exact absurd h9 (by simp [gX11_fitsFacts_2])
  | succ n ih =>
    intro x0 x1 x2 u
    have hrec2 := ih
    rw [gX11_fitsFacts_2]
    refine jf_iload_n hX dX11_fitsFacts_2 2 rfl ?_
    refine jf_aload_n hX dX11_fitsFacts_3 0 rfl ?_
    refine jf_getR hX ck_X11 20 wfl_31 (by decide) rfl dX11_fitsFacts_4 ?_
    refine jf_nn (fun q1 => ?_)
    refine jf_sipush (v := 143) hX dX11_fitsFacts_7 (by decide) ?_
    refine jf_ialdc 143 hX (by decide) (by decide) dX11_fitsFacts_10 ?_
    refine jf_icmp_ge (tgt := 36) hX dX11_fitsFacts_11 (by decide) ?_ ?_
    · refine jf_iconst (v := 1) hX dX11_fitsFacts_36 (by decide) ?_
      exact jf_zretc hX rfl (by decide) (by decide) (by decide) dX11_fitsFacts_37
    · refine jf_aload_n hX dX11_fitsFacts_14 0 rfl ?_
      refine jf_bipush (v := 103) hX dX11_fitsFacts_15 (by decide) ?_
      refine jf_iconst (v := 4) hX dX11_fitsFacts_17 (by decide) ?_
      refine jf_iload_n hX dX11_fitsFacts_18 2 rfl ?_
      refine jf_imul hX dX11_fitsFacts_19 ?_
      refine jf_iadd hX dX11_fitsFacts_20 ?_
      refine jf_iload_n hX dX11_fitsFacts_21 1 rfl ?_
      refine jf_callV (As := [.int ((103 : Int32) + ((4 : Int32) * x2)), .int x1]) (st := []) hX mo_X11_isFactSo wml_300 winst_301 wsel_302 11 ck_X11 rfl (fun l D cT z0 ks => kX11_isFactSo N l D cT z0 ks x0 ((103 : Int32) + ((4 : Int32) * x2)) x1 u) (by decide) (by decide) (by decide) (by decide) (Nat.le_of_ble_eq_true rfl) rfl rfl dX11_fitsFacts_22 (fun r2 u3 => ?_)
      refine jf_if_ne (tgt := 30) hX dX11_fitsFacts_25 (by decide) ?_ ?_
      · refine jf_iinc (v := 1) (lv' := [(2, .int (x2 + (1 : Int32))), (0, .ref x0), (1, .int x1)]) hX dX11_fitsFacts_30 2 rfl (by decide) (by decide) rfl ?_
        refine jf_goto (tgt := 2) hX dX11_fitsFacts_33 (by decide) ?_
        refine jf_lv [1, 2, 0] rfl ?_
        exact hrec2 x0 x1 (x2 + (1 : Int32)) u3
      · refine jf_iconst (v := 0) hX dX11_fitsFacts_28 (by decide) ?_
        exact jf_zretc hX rfl (by decide) (by decide) (by decide) dX11_fitsFacts_29
set_option maxRecDepth 20000 in
def fX11_fitsFacts (N : Nat)  (a0 : Nat) (p1 : Int32) (u : SG) : Option (Int32 × SG) := gX11_fitsFacts_2 N  N a0 p1 (0 : Int32) u
set_option maxRecDepth 20000 in
set_option maxHeartbeats 4000000 in
theorem kX11_fitsFacts  (N : Nat)  (l : Launch) (D : va_G) (cT : Nat → ClassId) (z0 : Nat) (ks : Nat × Nat) (a0 : Nat) (p1 : Int32) (u : SG) : Ct l D cT z0 ks yX11_fitsFacts cX11_fitsFacts 3 (some .boolean) 3 0 0 vI [.ref a0, .int p1] u (fX11_fitsFacts N  a0 p1 u) := by
  unfold fX11_fitsFacts
  refine ct_of (by decide +kernel) (Nat.le_of_ble_eq_true rfl) (fun p e R s m args below meth c hX => ?_)
  show JF _ True 3 0 0 _ 0 [(0, .ref a0), (1, .int p1)] [] u _
  refine jf_iconst (v := 0) hX dX11_fitsFacts_0 (by decide) ?_
  refine jf_istore_n (lv' := [(2, .int (0 : Int32)), (0, .ref a0), (1, .int p1)]) hX dX11_fitsFacts_1 rfl (by decide) rfl ?_
  refine jf_lv [1, 2, 0] rfl ?_
  exact jgX11_fitsFacts_2 hX N  N a0 p1 (0 : Int32) u
set_option maxRecDepth 20000 in
def gX11_slept_76 (N : Nat)  (rec47 : Nat → Int32 → Int32 → Int32 → Int32 → Int32 → Int32 → Int32 → SG → Option (Int32 × SG)) (x0 : Nat) (x1 : Int32) (x2 : Int32) (x3 : Int32) (x5 : Int32) (x6 : Int32) (x7 : Int32) (s0 : Int32) (u : SG) : Option (Int32 × SG) := bs (x5 &&& x7) fun v1 => (bs (x6 &&& (x7 ^^^ (-1 : Int32))) fun v2 => (rec47 x0 x1 x2 (x3 + (1 : Int32)) s0 v1 v2 (x7 + (1 : Int32)) u))
set_option maxRecDepth 20000 in
set_option maxHeartbeats 4000000 in
theorem jgX11_slept_76 {rec47 : Nat → Int32 → Int32 → Int32 → Int32 → Int32 → Int32 → Int32 → SG → Option (Int32 × SG)}  {X : XT} (hX : Cx X yX11_slept cX11_slept 8 (some .int) 4 0 0) (N : Nat) (hrec47 : ∀ (x0 : Nat) (x1 : Int32) (x2 : Int32) (x3 : Int32) (x4 : Int32) (x5 : Int32) (x6 : Int32) (x7 : Int32)  (u : SG), JF X True 8 0 0 (jQ X vI 0 0) 47 [(0, .ref x0), (1, .int x1), (2, .int x2), (3, .int x3), (4, .int x4), (5, .int x5), (6, .int x6), (7, .int x7)] [] u (rec47 x0 x1 x2 x3 x4 x5 x6 x7  u)) (x0 : Nat) (x1 : Int32) (x2 : Int32) (x3 : Int32) (x5 : Int32) (x6 : Int32) (x7 : Int32) (s0 : Int32) (u : SG) : JF X True 8 0 0 (jQ X vI 0 0) 76 [(0, .ref x0), (1, .int x1), (2, .int x2), (3, .int x3), (5, .int x5), (6, .int x6), (7, .int x7)] [.int s0] u (gX11_slept_76 N  rec47 x0 x1 x2 x3 x5 x6 x7 s0 u) := by
  unfold gX11_slept_76
  refine jf_istore (lv' := [(4, .int s0), (0, .ref x0), (1, .int x1), (2, .int x2), (3, .int x3), (5, .int x5), (6, .int x6), (7, .int x7)]) hX dX11_slept_76 (by decide) rfl ?_
  refine jf_iload hX dX11_slept_78 5 rfl ?_
  refine jf_iload hX dX11_slept_80 7 rfl ?_
  refine jf_iand hX dX11_slept_82 ?_
  refine jf_nmI (fun v1 => ?_)
  refine jf_istore (lv' := [(5, .int v1), (4, .int s0), (0, .ref x0), (1, .int x1), (2, .int x2), (3, .int x3), (6, .int x6), (7, .int x7)]) hX dX11_slept_83 (by decide) rfl ?_
  refine jf_iload hX dX11_slept_85 6 rfl ?_
  refine jf_iload hX dX11_slept_87 7 rfl ?_
  refine jf_iconst (v := -1) hX dX11_slept_89 (by decide) ?_
  refine jf_ixor hX dX11_slept_90 ?_
  refine jf_iand hX dX11_slept_91 ?_
  refine jf_nmI (fun v2 => ?_)
  refine jf_istore (lv' := [(6, .int v2), (5, .int v1), (4, .int s0), (0, .ref x0), (1, .int x1), (2, .int x2), (3, .int x3), (7, .int x7)]) hX dX11_slept_92 (by decide) rfl ?_
  refine jf_iinc (v := 1) (lv' := [(3, .int (x3 + (1 : Int32))), (6, .int v2), (5, .int v1), (4, .int s0), (0, .ref x0), (1, .int x1), (2, .int x2), (7, .int x7)]) hX dX11_slept_94 6 rfl (by decide) (by decide) rfl ?_
  refine jf_iinc (v := 1) (lv' := [(7, .int (x7 + (1 : Int32))), (3, .int (x3 + (1 : Int32))), (6, .int v2), (5, .int v1), (4, .int s0), (0, .ref x0), (1, .int x1), (2, .int x2)]) hX dX11_slept_97 7 rfl (by decide) (by decide) rfl ?_
  refine jf_goto (tgt := 47) hX dX11_slept_100 (by decide) ?_
  refine jf_lv [5, 6, 7, 1, 4, 3, 2, 0] rfl ?_
  exact hrec47 x0 x1 x2 (x3 + (1 : Int32)) s0 v1 v2 (x7 + (1 : Int32)) u
set_option maxRecDepth 20000 in
def gX11_slept_47 (N : Nat)   : Nat → Nat → Int32 → Int32 → Int32 → Int32 → Int32 → Int32 → Int32 → SG → Option (Int32 × SG)
  | 0, _, _, _, _, _, _, _, _, _ => none
  | n + 1, x0, x1, x2, x3, x4, x5, x6, x7, u => if x2 < x7 then (if (2 : Int32) ≤ x1 then (if x3 = 0 then (some ((0 : Int32), u))
  else (if x1 = (2 : Int32) then (some (x5, u))
  else (some (x6, u))))
  else (if x1 = 0 then (some (x3, u))
  else (some (x4, u))))
  else (if zK u x0 = 12 then cl (fX11_fitsFacts N x0 x7 u) fun r1 u2 => (if r1 = 0 then ((gX11_slept_47 N  n) x0 x1 x2 x3 x4 x5 x6 (x7 + (1 : Int32)) u2)
  else (if x3 = 0 then (gX11_slept_76 N (gX11_slept_47 N  n) x0 x1 x2 x3 x5 x6 x7 x7 u2)
  else (gX11_slept_76 N (gX11_slept_47 N  n) x0 x1 x2 x3 x5 x6 x7 x4 u2))) else none)
set_option maxRecDepth 20000 in
set_option maxHeartbeats 4000000 in
theorem jgX11_slept_47   {X : XT} (hX : Cx X yX11_slept cX11_slept 8 (some .int) 4 0 0) (N : Nat)  : ∀ (n : Nat) (x0 : Nat) (x1 : Int32) (x2 : Int32) (x3 : Int32) (x4 : Int32) (x5 : Int32) (x6 : Int32) (x7 : Int32) (u : SG), JF X True 8 0 0 (jQ X vI 0 0) 47 [(0, .ref x0), (1, .int x1), (2, .int x2), (3, .int x3), (4, .int x4), (5, .int x5), (6, .int x6), (7, .int x7)] [] u (gX11_slept_47 N   n x0 x1 x2 x3 x4 x5 x6 x7 u) := by
  intro n
  induction n with
  | zero => intros; intro r u9 h9; exact absurd h9 (by simp [gX11_slept_47])
  | succ n ih =>
    intro x0 x1 x2 x3 x4 x5 x6 x7 u
    have hrec47 := ih
    rw [gX11_slept_47]
    refine jf_iload hX dX11_slept_47 7 rfl ?_
    refine jf_iload_n hX dX11_slept_49 2 rfl ?_
    refine jf_icmp_gt (tgt := 103) hX dX11_slept_50 (by decide) ?_ ?_
    · refine jf_iload_n hX dX11_slept_103 1 rfl ?_
      refine jf_iconst (v := 2) hX dX11_slept_104 (by decide) ?_
      refine jf_icmp_ge (tgt := 119) hX dX11_slept_105 (by decide) ?_ ?_
      · refine jf_iload_n hX dX11_slept_119 3 rfl ?_
        refine jf_if_ne (tgt := 127) hX dX11_slept_120 (by decide) ?_ ?_
        · refine jf_iload_n hX dX11_slept_127 1 rfl ?_
          refine jf_iconst (v := 2) hX dX11_slept_128 (by decide) ?_
          refine jf_icmp_ne (tgt := 137) hX dX11_slept_129 (by decide) ?_ ?_
          · refine jf_iload hX dX11_slept_137 6 rfl ?_
            exact jf_iret hX rfl (by decide) (by decide) dX11_slept_139
          · refine jf_iload hX dX11_slept_132 5 rfl ?_
            refine jf_goto (tgt := 139) hX dX11_slept_134 (by decide) ?_
            exact jf_iret hX rfl (by decide) (by decide) dX11_slept_139
        · refine jf_iconst (v := 0) hX dX11_slept_123 (by decide) ?_
          refine jf_goto (tgt := 139) hX dX11_slept_124 (by decide) ?_
          exact jf_iret hX rfl (by decide) (by decide) dX11_slept_139
      · refine jf_iload_n hX dX11_slept_108 1 rfl ?_
        refine jf_if_ne (tgt := 116) hX dX11_slept_109 (by decide) ?_ ?_
        · refine jf_iload hX dX11_slept_116 4 rfl ?_
          exact jf_iret hX rfl (by decide) (by decide) dX11_slept_118
        · refine jf_iload_n hX dX11_slept_112 3 rfl ?_
          refine jf_goto (tgt := 118) hX dX11_slept_113 (by decide) ?_
          exact jf_iret hX rfl (by decide) (by decide) dX11_slept_118
    · refine jf_aload_n hX dX11_slept_53 0 rfl ?_
      refine jf_iload hX dX11_slept_54 7 rfl ?_
      refine jf_callV (As := [.int x7]) (st := []) hX mo_X11_fitsFacts wml_304 winst_305 wsel_306 11 ck_X11 rfl (fun l D cT z0 ks => kX11_fitsFacts N l D cT z0 ks x0 x7 u) (by decide) (by decide) (by decide) (by decide) (Nat.le_of_ble_eq_true rfl) rfl rfl dX11_slept_56 (fun r1 u2 => ?_)
      refine jf_if_ne (tgt := 65) hX dX11_slept_59 (by decide) ?_ ?_
      · refine jf_iload_n hX dX11_slept_65 3 rfl ?_
        refine jf_if_ne (tgt := 74) hX dX11_slept_66 (by decide) ?_ ?_
        · refine jf_iload hX dX11_slept_74 4 rfl ?_
          refine jf_lv [0, 1, 2, 3, 5, 6, 7] rfl ?_
          exact jgX11_slept_76 hX N hrec47 x0 x1 x2 x3 x5 x6 x7 x4 u2
        · refine jf_iload hX dX11_slept_69 7 rfl ?_
          refine jf_goto (tgt := 76) hX dX11_slept_71 (by decide) ?_
          refine jf_lv [0, 1, 2, 3, 5, 6, 7] rfl ?_
          exact jgX11_slept_76 hX N hrec47 x0 x1 x2 x3 x5 x6 x7 x7 u2
      · refine jf_goto (tgt := 97) hX dX11_slept_62 (by decide) ?_
        refine jf_iinc (v := 1) (lv' := [(7, .int (x7 + (1 : Int32))), (0, .ref x0), (1, .int x1), (2, .int x2), (3, .int x3), (4, .int x4), (5, .int x5), (6, .int x6)]) hX dX11_slept_97 7 rfl (by decide) (by decide) rfl ?_
        refine jf_goto (tgt := 47) hX dX11_slept_100 (by decide) ?_
        refine jf_lv [1, 2, 3, 4, 5, 6, 7, 0] rfl ?_
        exact hrec47 x0 x1 x2 x3 x4 x5 x6 (x7 + (1 : Int32)) u2
set_option maxRecDepth 20000 in
def fX11_slept (N : Nat)  (a0 : Nat) (p1 : Int32) (u : SG) : Option (Int32 × SG) := if zK u a0 = 12 then cl (fX11_isStreet N a0 u) fun r1 u2 => (if r1 = 0 then (some ((-1 : Int32), u2))
  else (cl (fX11_in N p1.toInt64 (0 : Int64) (3 : Int64) u2) fun r3 u4 => (if r3 = 0 then (some ((-1 : Int32), u4))
  else (if zK u4 a0 = 12 then (Option.bind (zR u4 a0 20) fun q5 => (if zK u4 q5 = 22 then if zN u4 q5 ≤ 1 then none else (bs (((1 : Int32) <<< ((zI u4 q5 1) &&& 31)) - (1 : Int32)) fun v6 => (gX11_slept_47 N  N a0 p1 v6 (0 : Int32) (-2 : Int32) v6 v6 (0 : Int32) u4)) else none)) else none)))) else none
set_option maxRecDepth 20000 in
set_option maxHeartbeats 4000000 in
theorem kX11_slept  (N : Nat)  (l : Launch) (D : va_G) (cT : Nat → ClassId) (z0 : Nat) (ks : Nat × Nat) (a0 : Nat) (p1 : Int32) (u : SG) : Ct l D cT z0 ks yX11_slept cX11_slept 8 (some .int) 4 0 0 vI [.ref a0, .int p1] u (fX11_slept N  a0 p1 u) := by
  unfold fX11_slept
  refine ct_of (by decide +kernel) (Nat.le_of_ble_eq_true rfl) (fun p e R s m args below meth c hX => ?_)
  show JF _ True 8 0 0 _ 0 [(0, .ref a0), (1, .int p1)] [] u _
  refine jf_aload_n hX dX11_slept_0 0 rfl ?_
  refine jf_callV (As := []) (st := []) hX mo_X11_isStreet wml_253 winst_254 wsel_255 11 ck_X11 rfl (fun l D cT z0 ks => kX11_isStreet N l D cT z0 ks a0 u) (by decide) (by decide) (by decide) (by decide) (Nat.le_of_ble_eq_true rfl) rfl rfl dX11_slept_1 (fun r1 u2 => ?_)
  refine jf_if_eq (tgt := 19) hX dX11_slept_4 (by decide) ?_ ?_
  · refine jf_iconst (v := -1) hX dX11_slept_19 (by decide) ?_
    exact jf_iret hX rfl (by decide) (by decide) dX11_slept_20
  · refine jf_iload_n hX dX11_slept_7 1 rfl ?_
    refine jf_i2l hX dX11_slept_8 ?_
    refine jf_lconst (v := 0) hX dX11_slept_9 (by decide) ?_
    refine jf_ldc2 (v := 3) hX dX11_slept_10 wconl_303 ?_
    refine jf_callS (As := [.long p1.toInt64, .long (0 : Int64), .long (3 : Int64)]) (st := []) hX mo_X11_in wml_68 wstat_69 rfl (fun l D cT z0 ks => kX11_in N l D cT z0 ks p1.toInt64 (0 : Int64) (3 : Int64) u2) (by decide) (by decide) (by decide) (by decide) (Nat.le_of_ble_eq_true rfl) rfl rfl dX11_slept_13 (fun r3 u4 => ?_)
    refine jf_if_ne (tgt := 21) hX dX11_slept_16 (by decide) ?_ ?_
    · refine jf_iconst (v := 1) hX dX11_slept_21 (by decide) ?_
      refine jf_aload_n hX dX11_slept_22 0 rfl ?_
      refine jf_getR hX ck_X11 20 wfl_31 (by decide) rfl dX11_slept_23 ?_
      refine jf_nn (fun q5 => ?_)
      refine jf_iconst (v := 1) hX dX11_slept_26 (by decide) ?_
      refine jf_ialdc 1 hX (by decide) (by decide) dX11_slept_27 ?_
      refine jf_ishl hX dX11_slept_28 ?_
      refine jf_iconst (v := 1) hX dX11_slept_29 (by decide) ?_
      refine jf_isub hX dX11_slept_30 ?_
      refine jf_nmI (fun v6 => ?_)
      refine jf_istore_n (lv' := [(2, .int v6), (0, .ref a0), (1, .int p1)]) hX dX11_slept_31 rfl (by decide) rfl ?_
      refine jf_iconst (v := 0) hX dX11_slept_32 (by decide) ?_
      refine jf_istore_n (lv' := [(3, .int (0 : Int32)), (2, .int v6), (0, .ref a0), (1, .int p1)]) hX dX11_slept_33 rfl (by decide) rfl ?_
      refine jf_bipush (v := -2) hX dX11_slept_34 (by decide) ?_
      refine jf_istore (lv' := [(4, .int (-2 : Int32)), (3, .int (0 : Int32)), (2, .int v6), (0, .ref a0), (1, .int p1)]) hX dX11_slept_36 (by decide) rfl ?_
      refine jf_iload_n hX dX11_slept_38 2 rfl ?_
      refine jf_istore (lv' := [(5, .int v6), (4, .int (-2 : Int32)), (3, .int (0 : Int32)), (2, .int v6), (0, .ref a0), (1, .int p1)]) hX dX11_slept_39 (by decide) rfl ?_
      refine jf_iload_n hX dX11_slept_41 3 rfl ?_
      refine jf_istore (lv' := [(6, .int v6), (5, .int v6), (4, .int (-2 : Int32)), (3, .int (0 : Int32)), (2, .int v6), (0, .ref a0), (1, .int p1)]) hX dX11_slept_42 (by decide) rfl ?_
      refine jf_iconst (v := 0) hX dX11_slept_44 (by decide) ?_
      refine jf_istore (lv' := [(7, .int (0 : Int32)), (6, .int v6), (5, .int v6), (4, .int (-2 : Int32)), (3, .int (0 : Int32)), (2, .int v6), (0, .ref a0), (1, .int p1)]) hX dX11_slept_45 (by decide) rfl ?_
      refine jf_lv [6, 7, 5, 4, 3, 2, 1, 0] rfl ?_
      exact jgX11_slept_47 hX N  N a0 p1 v6 (0 : Int32) (-2 : Int32) v6 v6 (0 : Int32) u4
    · refine jf_iconst (v := -1) hX dX11_slept_19 (by decide) ?_
      exact jf_iret hX rfl (by decide) (by decide) dX11_slept_20
set_option maxRecDepth 20000 in
def gX11_ask_112 (N : Nat)  (rec28 : Nat → Int32 → Int32 → Int32 → Int32 → SG → Option (Int32 × SG)) (x0 : Nat) (x1 : Int32) (x2 : Int32) (x3 : Int32) (x4 : Int32) (s0 : Int32) (u : SG) : Option (Int32 × SG) := if s0 = 0 then (rec28 x0 x1 x2 x3 (x4 + (1 : Int32)) u)
  else (if x2 < 0 then (rec28 x0 x1 x4 s0 (x4 + (1 : Int32)) u)
  else (if s0 < x3 then (rec28 x0 x1 x4 s0 (x4 + (1 : Int32)) u)
  else (rec28 x0 x1 x2 x3 (x4 + (1 : Int32)) u)))
set_option maxRecDepth 20000 in
set_option maxHeartbeats 4000000 in
theorem jgX11_ask_112 {rec28 : Nat → Int32 → Int32 → Int32 → Int32 → SG → Option (Int32 × SG)}  {X : XT} (hX : Cx X yX11_ask cX11_ask 8 (some .int) 4 0 0) (N : Nat) (hrec28 : ∀ (x0 : Nat) (x1 : Int32) (x2 : Int32) (x3 : Int32) (x4 : Int32)  (u : SG), JF X True 8 0 0 (jQ X vI 0 0) 28 [(0, .ref x0), (1, .int x1), (2, .int x2), (3, .int x3), (4, .int x4)] [] u (rec28 x0 x1 x2 x3 x4  u)) (x0 : Nat) (x1 : Int32) (x2 : Int32) (x3 : Int32) (x4 : Int32) (s0 : Int32) (u : SG) : JF X True 8 0 0 (jQ X vI 0 0) 112 [(0, .ref x0), (1, .int x1), (2, .int x2), (3, .int x3), (4, .int x4)] [.int s0] u (gX11_ask_112 N  rec28 x0 x1 x2 x3 x4 s0 u) := by
  unfold gX11_ask_112
  refine jf_istore (lv' := [(7, .int s0), (0, .ref x0), (1, .int x1), (2, .int x2), (3, .int x3), (4, .int x4)]) hX dX11_ask_112 (by decide) rfl ?_
  refine jf_iload hX dX11_ask_114 0 rfl ?_
  refine jf_if_eq (tgt := 138) hX dX11_ask_116 (by decide) ?_ ?_
  · refine jf_iinc (v := 1) (lv' := [(4, .int (x4 + (1 : Int32))), (7, .int s0), (0, .ref x0), (1, .int x1), (2, .int x2), (3, .int x3)]) hX dX11_ask_138 5 rfl (by decide) (by decide) rfl ?_
    refine jf_goto (tgt := 28) hX dX11_ask_141 (by decide) ?_
    refine jf_lv [2, 3, 4, 5, 0] rfl ?_
    exact hrec28 x0 x1 x2 x3 (x4 + (1 : Int32)) u
  · refine jf_iload_n hX dX11_ask_119 3 rfl ?_
    refine jf_if_lt (tgt := 132) hX dX11_ask_120 (by decide) ?_ ?_
    · refine jf_iload hX dX11_ask_132 5 rfl ?_
      refine jf_istore_n (lv' := [(2, .int x4), (7, .int s0), (0, .ref x0), (1, .int x1), (3, .int x3), (4, .int x4)]) hX dX11_ask_134 rfl (by decide) rfl ?_
      refine jf_iload hX dX11_ask_135 1 rfl ?_
      refine jf_istore_n (lv' := [(3, .int s0), (2, .int x4), (7, .int s0), (0, .ref x0), (1, .int x1), (4, .int x4)]) hX dX11_ask_137 rfl (by decide) rfl ?_
      refine jf_iinc (v := 1) (lv' := [(4, .int (x4 + (1 : Int32))), (3, .int s0), (2, .int x4), (7, .int s0), (0, .ref x0), (1, .int x1)]) hX dX11_ask_138 5 rfl (by decide) (by decide) rfl ?_
      refine jf_goto (tgt := 28) hX dX11_ask_141 (by decide) ?_
      refine jf_lv [4, 5, 2, 1, 0] rfl ?_
      exact hrec28 x0 x1 x4 s0 (x4 + (1 : Int32)) u
    · refine jf_iload hX dX11_ask_123 0 rfl ?_
      refine jf_iload_n hX dX11_ask_125 4 rfl ?_
      refine jf_icmp_lt (tgt := 132) hX dX11_ask_126 (by decide) ?_ ?_
      · refine jf_iload hX dX11_ask_132 5 rfl ?_
        refine jf_istore_n (lv' := [(2, .int x4), (7, .int s0), (0, .ref x0), (1, .int x1), (3, .int x3), (4, .int x4)]) hX dX11_ask_134 rfl (by decide) rfl ?_
        refine jf_iload hX dX11_ask_135 1 rfl ?_
        refine jf_istore_n (lv' := [(3, .int s0), (2, .int x4), (7, .int s0), (0, .ref x0), (1, .int x1), (4, .int x4)]) hX dX11_ask_137 rfl (by decide) rfl ?_
        refine jf_iinc (v := 1) (lv' := [(4, .int (x4 + (1 : Int32))), (3, .int s0), (2, .int x4), (7, .int s0), (0, .ref x0), (1, .int x1)]) hX dX11_ask_138 5 rfl (by decide) (by decide) rfl ?_
        refine jf_goto (tgt := 28) hX dX11_ask_141 (by decide) ?_
        refine jf_lv [4, 5, 2, 1, 0] rfl ?_
        exact hrec28 x0 x1 x4 s0 (x4 + (1 : Int32)) u
      · refine jf_goto (tgt := 138) hX dX11_ask_129 (by decide) ?_
        refine jf_iinc (v := 1) (lv' := [(4, .int (x4 + (1 : Int32))), (7, .int s0), (0, .ref x0), (1, .int x1), (2, .int x2), (3, .int x3)]) hX dX11_ask_138 5 rfl (by decide) (by decide) rfl ?_
        refine jf_goto (tgt := 28) hX dX11_ask_141 (by decide) ?_
        refine jf_lv [2, 3, 4, 5, 0] rfl ?_
        exact hrec28 x0 x1 x2 x3 (x4 + (1 : Int32)) u
set_option maxRecDepth 20000 in
def gX11_ask_48 (N : Nat)  (rec28 : Nat → Int32 → Int32 → Int32 → Int32 → SG → Option (Int32 × SG)) : Nat → Nat → Int32 → Int32 → Int32 → Int32 → Int32 → Int32 → Int32 → SG → Option (Int32 × SG)
  | 0, _, _, _, _, _, _, _, _, _ => none
  | n + 1, x0, x1, x2, x3, x4, x5, x6, x7, u => if zK u x0 = 12 then (Option.bind (zR u x0 20) fun q1 => (if zK u q1 = 22 then if zN u q1 ≤ 1 then none else (if ((1 : Int32) <<< ((zI u q1 1) &&& 31)) ≤ x7 then (if x5 ≤ x6 then (gX11_ask_112 N rec28 x0 x1 x2 x3 x4 x6 u)
  else (gX11_ask_112 N rec28 x0 x1 x2 x3 x4 x5 u))
  else (if zK u x0 = 12 then cl (fX11_fitsFacts N x0 x7 u) fun r2 u3 => (if r2 = 0 then ((gX11_ask_48 N rec28 n) x0 x1 x2 x3 x4 x5 x6 (x7 + (1 : Int32)) u3)
  else (cl (fX11_isOf N x7 x4 u3) fun r4 u5 => (if r4 = 0 then ((gX11_ask_48 N rec28 n) x0 x1 x2 x3 x4 x5 (x6 + (1 : Int32)) (x7 + (1 : Int32)) u5)
  else ((gX11_ask_48 N rec28 n) x0 x1 x2 x3 x4 (x5 + (1 : Int32)) x6 (x7 + (1 : Int32)) u5)))) else none)) else none)) else none
set_option maxRecDepth 20000 in
set_option maxHeartbeats 4000000 in
theorem jgX11_ask_48 {rec28 : Nat → Int32 → Int32 → Int32 → Int32 → SG → Option (Int32 × SG)}  {X : XT} (hX : Cx X yX11_ask cX11_ask 8 (some .int) 4 0 0) (N : Nat) (hrec28 : ∀ (x0 : Nat) (x1 : Int32) (x2 : Int32) (x3 : Int32) (x4 : Int32)  (u : SG), JF X True 8 0 0 (jQ X vI 0 0) 28 [(0, .ref x0), (1, .int x1), (2, .int x2), (3, .int x3), (4, .int x4)] [] u (rec28 x0 x1 x2 x3 x4  u)) : ∀ (n : Nat) (x0 : Nat) (x1 : Int32) (x2 : Int32) (x3 : Int32) (x4 : Int32) (x5 : Int32) (x6 : Int32) (x7 : Int32) (u : SG), JF X True 8 0 0 (jQ X vI 0 0) 48 [(0, .ref x0), (1, .int x1), (2, .int x2), (3, .int x3), (4, .int x4), (5, .int x5), (6, .int x6), (7, .int x7)] [] u (gX11_ask_48 N  rec28 n x0 x1 x2 x3 x4 x5 x6 x7 u) := by
  intro n
  induction n with
  | zero => intros; intro r u9 h9; exact absurd h9 (by simp [gX11_ask_48])
  | succ n ih =>
    intro x0 x1 x2 x3 x4 x5 x6 x7 u
    have hrec48 := ih
    rw [gX11_ask_48]
    refine jf_iload hX dX11_ask_48 7 rfl ?_
    refine jf_iconst (v := 1) hX dX11_ask_50 (by decide) ?_
    refine jf_aload_n hX dX11_ask_51 0 rfl ?_
    refine jf_getR hX ck_X11 20 wfl_31 (by decide) rfl dX11_ask_52 ?_
    refine jf_nn (fun q1 => ?_)
    refine jf_iconst (v := 1) hX dX11_ask_55 (by decide) ?_
    refine jf_ialdc 1 hX (by decide) (by decide) dX11_ask_56 ?_
    refine jf_ishl hX dX11_ask_57 ?_
    refine jf_icmp_ge (tgt := 98) hX dX11_ask_58 (by decide) ?_ ?_
    · refine jf_iload hX dX11_ask_98 5 rfl ?_
      refine jf_iload hX dX11_ask_100 6 rfl ?_
      refine jf_icmp_le (tgt := 110) hX dX11_ask_102 (by decide) ?_ ?_
      · refine jf_iload hX dX11_ask_110 6 rfl ?_
        refine jf_lv [0, 1, 2, 3, 4] rfl ?_
        exact jgX11_ask_112 hX N hrec28 x0 x1 x2 x3 x4 x6 u
      · refine jf_iload hX dX11_ask_105 5 rfl ?_
        refine jf_goto (tgt := 112) hX dX11_ask_107 (by decide) ?_
        refine jf_lv [0, 1, 2, 3, 4] rfl ?_
        exact jgX11_ask_112 hX N hrec28 x0 x1 x2 x3 x4 x5 u
    · refine jf_aload_n hX dX11_ask_61 0 rfl ?_
      refine jf_iload hX dX11_ask_62 7 rfl ?_
      refine jf_callV (As := [.int x7]) (st := []) hX mo_X11_fitsFacts wml_304 winst_305 wsel_306 11 ck_X11 rfl (fun l D cT z0 ks => kX11_fitsFacts N l D cT z0 ks x0 x7 u) (by decide) (by decide) (by decide) (by decide) (Nat.le_of_ble_eq_true rfl) rfl rfl dX11_ask_64 (fun r2 u3 => ?_)
      refine jf_if_ne (tgt := 73) hX dX11_ask_67 (by decide) ?_ ?_
      · refine jf_iload hX dX11_ask_73 7 rfl ?_
        refine jf_iload hX dX11_ask_75 4 rfl ?_
        refine jf_callS (As := [.int x7, .int x4]) (st := []) hX mo_X11_isOf wml_273 wstat_274 rfl (fun l D cT z0 ks => kX11_isOf N l D cT z0 ks x7 x4 u3) (by decide) (by decide) (by decide) (by decide) (Nat.le_of_ble_eq_true rfl) rfl rfl dX11_ask_77 (fun r4 u5 => ?_)
        refine jf_if_eq (tgt := 89) hX dX11_ask_80 (by decide) ?_ ?_
        · refine jf_iinc (v := 1) (lv' := [(6, .int (x6 + (1 : Int32))), (0, .ref x0), (1, .int x1), (2, .int x2), (3, .int x3), (4, .int x4), (5, .int x5), (7, .int x7)]) hX dX11_ask_89 6 rfl (by decide) (by decide) rfl ?_
          refine jf_iinc (v := 1) (lv' := [(7, .int (x7 + (1 : Int32))), (6, .int (x6 + (1 : Int32))), (0, .ref x0), (1, .int x1), (2, .int x2), (3, .int x3), (4, .int x4), (5, .int x5)]) hX dX11_ask_92 7 rfl (by decide) (by decide) rfl ?_
          refine jf_goto (tgt := 48) hX dX11_ask_95 (by decide) ?_
          refine jf_lv [2, 3, 4, 5, 6, 7, 1, 0] rfl ?_
          exact hrec48 x0 x1 x2 x3 x4 x5 (x6 + (1 : Int32)) (x7 + (1 : Int32)) u5
        · refine jf_iinc (v := 1) (lv' := [(5, .int (x5 + (1 : Int32))), (0, .ref x0), (1, .int x1), (2, .int x2), (3, .int x3), (4, .int x4), (6, .int x6), (7, .int x7)]) hX dX11_ask_83 5 rfl (by decide) (by decide) rfl ?_
          refine jf_goto (tgt := 92) hX dX11_ask_86 (by decide) ?_
          refine jf_iinc (v := 1) (lv' := [(7, .int (x7 + (1 : Int32))), (5, .int (x5 + (1 : Int32))), (0, .ref x0), (1, .int x1), (2, .int x2), (3, .int x3), (4, .int x4), (6, .int x6)]) hX dX11_ask_92 7 rfl (by decide) (by decide) rfl ?_
          refine jf_goto (tgt := 48) hX dX11_ask_95 (by decide) ?_
          refine jf_lv [2, 3, 4, 5, 6, 1, 7, 0] rfl ?_
          exact hrec48 x0 x1 x2 x3 x4 (x5 + (1 : Int32)) x6 (x7 + (1 : Int32)) u5
      · refine jf_goto (tgt := 92) hX dX11_ask_70 (by decide) ?_
        refine jf_iinc (v := 1) (lv' := [(7, .int (x7 + (1 : Int32))), (0, .ref x0), (1, .int x1), (2, .int x2), (3, .int x3), (4, .int x4), (5, .int x5), (6, .int x6)]) hX dX11_ask_92 7 rfl (by decide) (by decide) rfl ?_
        refine jf_goto (tgt := 48) hX dX11_ask_95 (by decide) ?_
        refine jf_lv [1, 2, 3, 4, 5, 6, 7, 0] rfl ?_
        exact hrec48 x0 x1 x2 x3 x4 x5 x6 (x7 + (1 : Int32)) u3
set_option maxRecDepth 20000 in
def gX11_ask_28 (N : Nat)   : Nat → Nat → Int32 → Int32 → Int32 → Int32 → SG → Option (Int32 × SG)
  | 0, _, _, _, _, _, _ => none
  | n + 1, x0, x1, x2, x3, x4, u => if zK u x0 = 12 then (Option.bind (zR u x0 20) fun q1 => (if zK u q1 = 22 then if zN u q1 ≤ 1 then none else (if (zI u q1 1) ≤ x4 then (if x1 = 0 then (some (x2, u))
  else (some (x3, u)))
  else (gX11_ask_48 N (gX11_ask_28 N  n) N x0 x1 x2 x3 x4 (0 : Int32) (0 : Int32) (0 : Int32) u)) else none)) else none
set_option maxRecDepth 20000 in
set_option maxHeartbeats 4000000 in
theorem jgX11_ask_28   {X : XT} (hX : Cx X yX11_ask cX11_ask 8 (some .int) 4 0 0) (N : Nat)  : ∀ (n : Nat) (x0 : Nat) (x1 : Int32) (x2 : Int32) (x3 : Int32) (x4 : Int32) (u : SG), JF X True 8 0 0 (jQ X vI 0 0) 28 [(0, .ref x0), (1, .int x1), (2, .int x2), (3, .int x3), (4, .int x4)] [] u (gX11_ask_28 N   n x0 x1 x2 x3 x4 u) := by
  intro n
  induction n with
  | zero => intros; intro r u9 h9; exact absurd h9 (by simp [gX11_ask_28])
  | succ n ih =>
    intro x0 x1 x2 x3 x4 u
    have hrec28 := ih
    rw [gX11_ask_28]
    refine jf_iload hX dX11_ask_28 4 rfl ?_
    refine jf_aload_n hX dX11_ask_30 0 rfl ?_
    refine jf_getR hX ck_X11 20 wfl_31 (by decide) rfl dX11_ask_31 ?_
    refine jf_nn (fun q1 => ?_)
    refine jf_iconst (v := 1) hX dX11_ask_34 (by decide) ?_
    refine jf_ialdc 1 hX (by decide) (by decide) dX11_ask_35 ?_
    refine jf_icmp_ge (tgt := 144) hX dX11_ask_36 (by decide) ?_ ?_
    · refine jf_iload_n hX dX11_ask_144 1 rfl ?_
      refine jf_if_ne (tgt := 152) hX dX11_ask_145 (by decide) ?_ ?_
      · refine jf_iload_n hX dX11_ask_152 3 rfl ?_
        exact jf_iret hX rfl (by decide) (by decide) dX11_ask_153
      · refine jf_iload_n hX dX11_ask_148 2 rfl ?_
        refine jf_goto (tgt := 153) hX dX11_ask_149 (by decide) ?_
        exact jf_iret hX rfl (by decide) (by decide) dX11_ask_153
    · refine jf_iconst (v := 0) hX dX11_ask_39 (by decide) ?_
      refine jf_istore (lv' := [(5, .int (0 : Int32)), (0, .ref x0), (1, .int x1), (2, .int x2), (3, .int x3), (4, .int x4)]) hX dX11_ask_40 (by decide) rfl ?_
      refine jf_iconst (v := 0) hX dX11_ask_42 (by decide) ?_
      refine jf_istore (lv' := [(6, .int (0 : Int32)), (5, .int (0 : Int32)), (0, .ref x0), (1, .int x1), (2, .int x2), (3, .int x3), (4, .int x4)]) hX dX11_ask_43 (by decide) rfl ?_
      refine jf_iconst (v := 0) hX dX11_ask_45 (by decide) ?_
      refine jf_istore (lv' := [(7, .int (0 : Int32)), (6, .int (0 : Int32)), (5, .int (0 : Int32)), (0, .ref x0), (1, .int x1), (2, .int x2), (3, .int x3), (4, .int x4)]) hX dX11_ask_46 (by decide) rfl ?_
      refine jf_lv [3, 4, 5, 6, 7, 2, 1, 0] rfl ?_
      exact jgX11_ask_48 hX N hrec28 N x0 x1 x2 x3 x4 (0 : Int32) (0 : Int32) (0 : Int32) u
set_option maxRecDepth 20000 in
def fX11_ask (N : Nat)  (a0 : Nat) (p1 : Int32) (u : SG) : Option (Int32 × SG) := if zK u a0 = 12 then cl (fX11_isStreet N a0 u) fun r1 u2 => (if r1 = 0 then (some ((-1 : Int32), u2))
  else (cl (fX11_in N p1.toInt64 (0 : Int64) (1 : Int64) u2) fun r3 u4 => (if r3 = 0 then (some ((-1 : Int32), u4))
  else (gX11_ask_28 N  N a0 p1 (-2 : Int32) (-2 : Int32) (0 : Int32) u4)))) else none
set_option maxRecDepth 20000 in
set_option maxHeartbeats 4000000 in
theorem kX11_ask  (N : Nat)  (l : Launch) (D : va_G) (cT : Nat → ClassId) (z0 : Nat) (ks : Nat × Nat) (a0 : Nat) (p1 : Int32) (u : SG) : Ct l D cT z0 ks yX11_ask cX11_ask 8 (some .int) 4 0 0 vI [.ref a0, .int p1] u (fX11_ask N  a0 p1 u) := by
  unfold fX11_ask
  refine ct_of (by decide +kernel) (Nat.le_of_ble_eq_true rfl) (fun p e R s m args below meth c hX => ?_)
  show JF _ True 8 0 0 _ 0 [(0, .ref a0), (1, .int p1)] [] u _
  refine jf_aload_n hX dX11_ask_0 0 rfl ?_
  refine jf_callV (As := []) (st := []) hX mo_X11_isStreet wml_253 winst_254 wsel_255 11 ck_X11 rfl (fun l D cT z0 ks => kX11_isStreet N l D cT z0 ks a0 u) (by decide) (by decide) (by decide) (by decide) (Nat.le_of_ble_eq_true rfl) rfl rfl dX11_ask_1 (fun r1 u2 => ?_)
  refine jf_if_eq (tgt := 17) hX dX11_ask_4 (by decide) ?_ ?_
  · refine jf_iconst (v := -1) hX dX11_ask_17 (by decide) ?_
    exact jf_iret hX rfl (by decide) (by decide) dX11_ask_18
  · refine jf_iload_n hX dX11_ask_7 1 rfl ?_
    refine jf_i2l hX dX11_ask_8 ?_
    refine jf_lconst (v := 0) hX dX11_ask_9 (by decide) ?_
    refine jf_lconst (v := 1) hX dX11_ask_10 (by decide) ?_
    refine jf_callS (As := [.long p1.toInt64, .long (0 : Int64), .long (1 : Int64)]) (st := []) hX mo_X11_in wml_68 wstat_69 rfl (fun l D cT z0 ks => kX11_in N l D cT z0 ks p1.toInt64 (0 : Int64) (1 : Int64) u2) (by decide) (by decide) (by decide) (by decide) (Nat.le_of_ble_eq_true rfl) rfl rfl dX11_ask_11 (fun r3 u4 => ?_)
    refine jf_if_ne (tgt := 19) hX dX11_ask_14 (by decide) ?_ ?_
    · refine jf_bipush (v := -2) hX dX11_ask_19 (by decide) ?_
      refine jf_istore_n (lv' := [(2, .int (-2 : Int32)), (0, .ref a0), (1, .int p1)]) hX dX11_ask_21 rfl (by decide) rfl ?_
      refine jf_bipush (v := -2) hX dX11_ask_22 (by decide) ?_
      refine jf_istore_n (lv' := [(3, .int (-2 : Int32)), (2, .int (-2 : Int32)), (0, .ref a0), (1, .int p1)]) hX dX11_ask_24 rfl (by decide) rfl ?_
      refine jf_iconst (v := 0) hX dX11_ask_25 (by decide) ?_
      refine jf_istore (lv' := [(4, .int (0 : Int32)), (3, .int (-2 : Int32)), (2, .int (-2 : Int32)), (0, .ref a0), (1, .int p1)]) hX dX11_ask_26 (by decide) rfl ?_
      refine jf_lv [3, 4, 2, 1, 0] rfl ?_
      exact jgX11_ask_28 hX N  N a0 p1 (-2 : Int32) (-2 : Int32) (0 : Int32) u4
    · refine jf_iconst (v := -1) hX dX11_ask_17 (by decide) ?_
      exact jf_iret hX rfl (by decide) (by decide) dX11_ask_18
set_option maxRecDepth 20000 in
def gX11_toldCost_4 (N : Nat)   : Nat → Nat → Int32 → Int32 → Int32 → SG → Option (Int32 × SG)
  | 0, _, _, _, _, _ => none
  | n + 1, x0, x1, x2, x3, u => if zK u x0 = 12 then (Option.bind (zR u x0 20) fun q1 => (if zK u q1 = 22 then if zN u q1 ≤ 3 then none else (if (zI u q1 3) ≤ x3 then (some (x2, u))
  else (if zK u x0 = 12 then cl (fX11_isLitIn N x0 x3 x1 u) fun r2 u3 => (if r2 = 0 then (bs (x2 + (0 : Int32)) fun v4 => ((gX11_toldCost_4 N  n) x0 x1 v4 (x3 + (1 : Int32)) u3))
  else (if zK u3 x0 = 12 then cl (fX11_costOf N x0 x3 u3) fun r5 u6 => (bs (x2 + r5) fun v7 => ((gX11_toldCost_4 N  n) x0 x1 v7 (x3 + (1 : Int32)) u6)) else none)) else none)) else none)) else none
set_option maxRecDepth 20000 in
set_option maxHeartbeats 4000000 in
theorem jgX11_toldCost_4   {X : XT} (hX : Cx X yX11_toldCost cX11_toldCost 4 (some .int) 2 0 0) (N : Nat)  : ∀ (n : Nat) (x0 : Nat) (x1 : Int32) (x2 : Int32) (x3 : Int32) (u : SG), JF X True 4 0 0 (jQ X vI 0 0) 4 [(0, .ref x0), (1, .int x1), (2, .int x2), (3, .int x3)] [] u (gX11_toldCost_4 N   n x0 x1 x2 x3 u) := by
  intro n
  induction n with
  | zero => intros; intro r u9 h9; exact absurd h9 (by simp [gX11_toldCost_4])
  | succ n ih =>
    intro x0 x1 x2 x3 u
    have hrec4 := ih
    rw [gX11_toldCost_4]
    refine jf_iload_n hX dX11_toldCost_4 3 rfl ?_
    refine jf_aload_n hX dX11_toldCost_5 0 rfl ?_
    refine jf_getR hX ck_X11 20 wfl_31 (by decide) rfl dX11_toldCost_6 ?_
    refine jf_nn (fun q1 => ?_)
    refine jf_iconst (v := 3) hX dX11_toldCost_9 (by decide) ?_
    refine jf_ialdc 3 hX (by decide) (by decide) dX11_toldCost_10 ?_
    refine jf_icmp_ge (tgt := 41) hX dX11_toldCost_11 (by decide) ?_ ?_
    · refine jf_iload_n hX dX11_toldCost_41 2 rfl ?_
      exact jf_iret hX rfl (by decide) (by decide) dX11_toldCost_42
    · refine jf_iload_n hX dX11_toldCost_14 2 rfl ?_
      refine jf_aload_n hX dX11_toldCost_15 0 rfl ?_
      refine jf_iload_n hX dX11_toldCost_16 3 rfl ?_
      refine jf_iload_n hX dX11_toldCost_17 1 rfl ?_
      refine jf_callV (As := [.int x3, .int x1]) (st := [.int x2]) hX mo_X11_isLitIn wml_192 winst_193 wsel_194 11 ck_X11 rfl (fun l D cT z0 ks => kX11_isLitIn N l D cT z0 ks x0 x3 x1 u) (by decide) (by decide) (by decide) (by decide) (Nat.le_of_ble_eq_true rfl) rfl rfl dX11_toldCost_18 (fun r2 u3 => ?_)
      refine jf_if_eq (tgt := 32) hX dX11_toldCost_21 (by decide) ?_ ?_
      · refine jf_iconst (v := 0) hX dX11_toldCost_32 (by decide) ?_
        refine jf_iadd hX dX11_toldCost_33 ?_
        refine jf_nmI (fun v4 => ?_)
        refine jf_istore_n (lv' := [(2, .int v4), (0, .ref x0), (1, .int x1), (3, .int x3)]) hX dX11_toldCost_34 rfl (by decide) rfl ?_
        refine jf_iinc (v := 1) (lv' := [(3, .int (x3 + (1 : Int32))), (2, .int v4), (0, .ref x0), (1, .int x1)]) hX dX11_toldCost_35 3 rfl (by decide) (by decide) rfl ?_
        refine jf_goto (tgt := 4) hX dX11_toldCost_38 (by decide) ?_
        refine jf_lv [2, 3, 1, 0] rfl ?_
        exact hrec4 x0 x1 v4 (x3 + (1 : Int32)) u3
      · refine jf_aload_n hX dX11_toldCost_24 0 rfl ?_
        refine jf_iload_n hX dX11_toldCost_25 3 rfl ?_
        refine jf_callV (As := [.int x3]) (st := [.int x2]) hX mo_X11_costOf wml_198 winst_199 wsel_200 11 ck_X11 rfl (fun l D cT z0 ks => kX11_costOf N l D cT z0 ks x0 x3 u3) (by decide) (by decide) (by decide) (by decide) (Nat.le_of_ble_eq_true rfl) rfl rfl dX11_toldCost_26 (fun r5 u6 => ?_)
        refine jf_goto (tgt := 33) hX dX11_toldCost_29 (by decide) ?_
        refine jf_iadd hX dX11_toldCost_33 ?_
        refine jf_nmI (fun v7 => ?_)
        refine jf_istore_n (lv' := [(2, .int v7), (0, .ref x0), (1, .int x1), (3, .int x3)]) hX dX11_toldCost_34 rfl (by decide) rfl ?_
        refine jf_iinc (v := 1) (lv' := [(3, .int (x3 + (1 : Int32))), (2, .int v7), (0, .ref x0), (1, .int x1)]) hX dX11_toldCost_35 3 rfl (by decide) (by decide) rfl ?_
        refine jf_goto (tgt := 4) hX dX11_toldCost_38 (by decide) ?_
        refine jf_lv [2, 3, 1, 0] rfl ?_
        exact hrec4 x0 x1 v7 (x3 + (1 : Int32)) u6
set_option maxRecDepth 20000 in
def fX11_toldCost (N : Nat)  (a0 : Nat) (p1 : Int32) (u : SG) : Option (Int32 × SG) := gX11_toldCost_4 N  N a0 p1 (0 : Int32) (0 : Int32) u
set_option maxRecDepth 20000 in
set_option maxHeartbeats 4000000 in
theorem kX11_toldCost  (N : Nat)  (l : Launch) (D : va_G) (cT : Nat → ClassId) (z0 : Nat) (ks : Nat × Nat) (a0 : Nat) (p1 : Int32) (u : SG) : Ct l D cT z0 ks yX11_toldCost cX11_toldCost 4 (some .int) 2 0 0 vI [.ref a0, .int p1] u (fX11_toldCost N  a0 p1 u) := by
  unfold fX11_toldCost
  refine ct_of (by decide +kernel) (Nat.le_of_ble_eq_true rfl) (fun p e R s m args below meth c hX => ?_)
  show JF _ True 4 0 0 _ 0 [(0, .ref a0), (1, .int p1)] [] u _
  refine jf_iconst (v := 0) hX dX11_toldCost_0 (by decide) ?_
  refine jf_istore_n (lv' := [(2, .int (0 : Int32)), (0, .ref a0), (1, .int p1)]) hX dX11_toldCost_1 rfl (by decide) rfl ?_
  refine jf_iconst (v := 0) hX dX11_toldCost_2 (by decide) ?_
  refine jf_istore_n (lv' := [(3, .int (0 : Int32)), (2, .int (0 : Int32)), (0, .ref a0), (1, .int p1)]) hX dX11_toldCost_3 rfl (by decide) rfl ?_
  refine jf_lv [2, 3, 1, 0] rfl ?_
  exact jgX11_toldCost_4 hX N  N a0 p1 (0 : Int32) (0 : Int32) u
set_option maxRecDepth 20000 in
def gX11_fillsNight_86 (N : Nat)  (rec23 : Nat → Int32 → Int32 → SG → Option (Unit × SG)) (rec43 : Nat → Int32 → Int32 → Int32 → Int32 → Int32 → SG → Option (Unit × SG)) (x0 : Nat) (x1 : Int32) (x2 : Int32) (x3 : Int32) (x5 : Int32) (s0 : Int32) (u : SG) : Option (Unit × SG) := if zK u x0 = 12 then cl (fX11_toldCost N x0 x5 u) fun r1 u2 => (bs (x3 + r1) fun v3 => (rec43 x0 x1 x2 v3 s0 (x5 + (1 : Int32)) u2)) else none
set_option maxRecDepth 20000 in
set_option maxHeartbeats 4000000 in
theorem jgX11_fillsNight_86 {rec23 : Nat → Int32 → Int32 → SG → Option (Unit × SG)} {rec43 : Nat → Int32 → Int32 → Int32 → Int32 → Int32 → SG → Option (Unit × SG)}  {X : XT} (hX : Cx X yX11_fillsNight cX11_fillsNight 6 none 3 0 0) (N : Nat) (hrec23 : ∀ (x0 : Nat) (x1 : Int32) (x2 : Int32)  (u : SG), JF X True 6 0 0 (jQ X vU 0 0) 23 [(0, .ref x0), (1, .int x1), (2, .int x2)] [] u (rec23 x0 x1 x2  u)) (hrec43 : ∀ (x0 : Nat) (x1 : Int32) (x2 : Int32) (x3 : Int32) (x4 : Int32) (x5 : Int32)  (u : SG), JF X True 6 0 0 (jQ X vU 0 0) 43 [(0, .ref x0), (1, .int x1), (2, .int x2), (3, .int x3), (4, .int x4), (5, .int x5)] [] u (rec43 x0 x1 x2 x3 x4 x5  u)) (x0 : Nat) (x1 : Int32) (x2 : Int32) (x3 : Int32) (x5 : Int32) (s0 : Int32) (u : SG) : JF X True 6 0 0 (jQ X vU 0 0) 86 [(0, .ref x0), (1, .int x1), (2, .int x2), (3, .int x3), (5, .int x5)] [.int s0] u (gX11_fillsNight_86 N  rec23 rec43 x0 x1 x2 x3 x5 s0 u) := by
  unfold gX11_fillsNight_86
  refine jf_istore (lv' := [(4, .int s0), (0, .ref x0), (1, .int x1), (2, .int x2), (3, .int x3), (5, .int x5)]) hX dX11_fillsNight_86 (by decide) rfl ?_
  refine jf_iload_n hX dX11_fillsNight_88 4 rfl ?_
  refine jf_aload_n hX dX11_fillsNight_89 1 rfl ?_
  refine jf_iload hX dX11_fillsNight_90 5 rfl ?_
  refine jf_callV (As := [.int x5]) (st := [.int x3]) hX mo_X11_toldCost wml_307 winst_308 wsel_309 11 ck_X11 rfl (fun l D cT z0 ks => kX11_toldCost N l D cT z0 ks x0 x5 u) (by decide) (by decide) (by decide) (by decide) (Nat.le_of_ble_eq_true rfl) rfl rfl dX11_fillsNight_92 (fun r1 u2 => ?_)
  refine jf_iadd hX dX11_fillsNight_95 ?_
  refine jf_nmI (fun v3 => ?_)
  refine jf_istore_n (lv' := [(3, .int v3), (4, .int s0), (0, .ref x0), (1, .int x1), (2, .int x2), (5, .int x5)]) hX dX11_fillsNight_96 rfl (by decide) rfl ?_
  refine jf_iinc (v := 1) (lv' := [(5, .int (x5 + (1 : Int32))), (3, .int v3), (4, .int s0), (0, .ref x0), (1, .int x1), (2, .int x2)]) hX dX11_fillsNight_97 5 rfl (by decide) (by decide) rfl ?_
  refine jf_goto (tgt := 43) hX dX11_fillsNight_100 (by decide) ?_
  refine jf_lv [3, 4, 5, 1, 2, 0] rfl ?_
  exact hrec43 x0 x1 x2 v3 s0 (x5 + (1 : Int32)) u2
set_option maxRecDepth 20000 in
def gX11_fillsNight_85 (N : Nat)  (rec23 : Nat → Int32 → Int32 → SG → Option (Unit × SG)) (rec43 : Nat → Int32 → Int32 → Int32 → Int32 → Int32 → SG → Option (Unit × SG)) (x0 : Nat) (x1 : Int32) (x2 : Int32) (x3 : Int32) (x5 : Int32) (u : SG) : Option (Unit × SG) := gX11_fillsNight_86 N rec23 rec43 x0 x1 x2 x3 x5 (0 : Int32) u
set_option maxRecDepth 20000 in
set_option maxHeartbeats 4000000 in
theorem jgX11_fillsNight_85 {rec23 : Nat → Int32 → Int32 → SG → Option (Unit × SG)} {rec43 : Nat → Int32 → Int32 → Int32 → Int32 → Int32 → SG → Option (Unit × SG)}  {X : XT} (hX : Cx X yX11_fillsNight cX11_fillsNight 6 none 3 0 0) (N : Nat) (hrec23 : ∀ (x0 : Nat) (x1 : Int32) (x2 : Int32)  (u : SG), JF X True 6 0 0 (jQ X vU 0 0) 23 [(0, .ref x0), (1, .int x1), (2, .int x2)] [] u (rec23 x0 x1 x2  u)) (hrec43 : ∀ (x0 : Nat) (x1 : Int32) (x2 : Int32) (x3 : Int32) (x4 : Int32) (x5 : Int32)  (u : SG), JF X True 6 0 0 (jQ X vU 0 0) 43 [(0, .ref x0), (1, .int x1), (2, .int x2), (3, .int x3), (4, .int x4), (5, .int x5)] [] u (rec43 x0 x1 x2 x3 x4 x5  u)) (x0 : Nat) (x1 : Int32) (x2 : Int32) (x3 : Int32) (x5 : Int32) (u : SG) : JF X True 6 0 0 (jQ X vU 0 0) 85 [(0, .ref x0), (1, .int x1), (2, .int x2), (3, .int x3), (5, .int x5)] [] u (gX11_fillsNight_85 N  rec23 rec43 x0 x1 x2 x3 x5 u) := by
  unfold gX11_fillsNight_85
  refine jf_iconst (v := 0) hX dX11_fillsNight_85 (by decide) ?_
  refine jf_lv [0, 1, 2, 3, 4] rfl ?_
  exact jgX11_fillsNight_86 hX N hrec23 hrec43 x0 x1 x2 x3 x5 (0 : Int32) u
set_option maxRecDepth 20000 in
def gX11_fillsNight_43 (N : Nat)  (rec23 : Nat → Int32 → Int32 → SG → Option (Unit × SG)) : Nat → Nat → Int32 → Int32 → Int32 → Int32 → Int32 → SG → Option (Unit × SG)
  | 0, _, _, _, _, _, _, _ => none
  | n + 1, x0, x1, x2, x3, x4, x5, u => if zK u x0 = 12 then (Option.bind (zR u x0 20) fun q1 => (if zK u q1 = 22 then if zN u q1 ≤ 0 then none else (if (zI u q1 0) ≤ x5 then (cl (fX11_bits N x2 u) fun r2 u3 => (if x4 = 0 then (rec23 x0 x1 (x2 + (1 : Int32)) u3)
  else (if zK u3 x0 = 12 then (Option.bind (zR u3 x0 29) fun q4 => (if zK u3 q4 = 22 then if r2 < 0 ∨ zN u3 q4 ≤ r2.toNatClampNeg then none else (if (zI u3 q4 r2.toNatClampNeg) < 0 then (if zK u3 x0 = 12 then (Option.bind (zR u3 x0 29) fun q5 => (if zK u3 q5 = 22 then if r2 < 0 ∨ zN u3 q5 ≤ r2.toNatClampNeg then none else bs (sI u3 q5 r2.toNatClampNeg x3) fun u6 => (rec23 x0 x1 (x2 + (1 : Int32)) u6) else none)) else none)
  else (if zK u3 x0 = 12 then (Option.bind (zR u3 x0 29) fun q7 => (if zK u3 q7 = 22 then if r2 < 0 ∨ zN u3 q7 ≤ r2.toNatClampNeg then none else (if (zI u3 q7 r2.toNatClampNeg) ≤ x3 then (rec23 x0 x1 (x2 + (1 : Int32)) u3)
  else (if zK u3 x0 = 12 then (Option.bind (zR u3 x0 29) fun q8 => (if zK u3 q8 = 22 then if r2 < 0 ∨ zN u3 q8 ≤ r2.toNatClampNeg then none else bs (sI u3 q8 r2.toNatClampNeg x3) fun u9 => (rec23 x0 x1 (x2 + (1 : Int32)) u9) else none)) else none)) else none)) else none)) else none)) else none)))
  else (cl (fX11_isOf N x2 x5 u) fun r10 u11 => (if r10 = 0 then ((gX11_fillsNight_43 N rec23 n) x0 x1 x2 x3 x4 (x5 + (1 : Int32)) u11)
  else (if x4 = 0 then (gX11_fillsNight_85 N rec23 (gX11_fillsNight_43 N rec23 n) x0 x1 x2 x3 x5 u11)
  else (if zK u11 x0 = 12 then cl (fX11_worksIn N x0 x1 x5 u11) fun r12 u13 => (if r12 = 0 then (gX11_fillsNight_86 N rec23 (gX11_fillsNight_43 N rec23 n) x0 x1 x2 x3 x5 (1 : Int32) u13)
  else (gX11_fillsNight_85 N rec23 (gX11_fillsNight_43 N rec23 n) x0 x1 x2 x3 x5 u13)) else none))))) else none)) else none
set_option maxRecDepth 20000 in
set_option maxHeartbeats 4000000 in
theorem jgX11_fillsNight_43 {rec23 : Nat → Int32 → Int32 → SG → Option (Unit × SG)}  {X : XT} (hX : Cx X yX11_fillsNight cX11_fillsNight 6 none 3 0 0) (N : Nat) (hrec23 : ∀ (x0 : Nat) (x1 : Int32) (x2 : Int32)  (u : SG), JF X True 6 0 0 (jQ X vU 0 0) 23 [(0, .ref x0), (1, .int x1), (2, .int x2)] [] u (rec23 x0 x1 x2  u)) : ∀ (n : Nat) (x0 : Nat) (x1 : Int32) (x2 : Int32) (x3 : Int32) (x4 : Int32) (x5 : Int32) (u : SG), JF X True 6 0 0 (jQ X vU 0 0) 43 [(0, .ref x0), (1, .int x1), (2, .int x2), (3, .int x3), (4, .int x4), (5, .int x5)] [] u (gX11_fillsNight_43 N  rec23 n x0 x1 x2 x3 x4 x5 u) := by
  intro n
  induction n with
  | zero => intros; intro r u9 h9; exact absurd h9 (by simp [gX11_fillsNight_43])
  | succ n ih =>
    intro x0 x1 x2 x3 x4 x5 u
    have hrec43 := ih
    rw [gX11_fillsNight_43]
    refine jf_iload hX dX11_fillsNight_43 5 rfl ?_
    refine jf_aload_n hX dX11_fillsNight_45 0 rfl ?_
    refine jf_getR hX ck_X11 20 wfl_31 (by decide) rfl dX11_fillsNight_46 ?_
    refine jf_nn (fun q1 => ?_)
    refine jf_iconst (v := 0) hX dX11_fillsNight_49 (by decide) ?_
    refine jf_ialdc 0 hX (by decide) (by decide) dX11_fillsNight_50 ?_
    refine jf_icmp_ge (tgt := 103) hX dX11_fillsNight_51 (by decide) ?_ ?_
    · refine jf_iload_n hX dX11_fillsNight_103 2 rfl ?_
      refine jf_callS (As := [.int x2]) (st := []) hX mo_X11_bits wml_224 wstat_225 rfl (fun l D cT z0 ks => kX11_bits N l D cT z0 ks x2 u) (by decide) (by decide) (by decide) (by decide) (Nat.le_of_ble_eq_true rfl) rfl rfl dX11_fillsNight_104 (fun r2 u3 => ?_)
      refine jf_istore (lv' := [(5, .int r2), (0, .ref x0), (1, .int x1), (2, .int x2), (3, .int x3), (4, .int x4)]) hX dX11_fillsNight_107 (by decide) rfl ?_
      refine jf_iload hX dX11_fillsNight_109 5 rfl ?_
      refine jf_if_eq (tgt := 143) hX dX11_fillsNight_111 (by decide) ?_ ?_
      · refine jf_iinc (v := 1) (lv' := [(2, .int (x2 + (1 : Int32))), (5, .int r2), (0, .ref x0), (1, .int x1), (3, .int x3), (4, .int x4)]) hX dX11_fillsNight_143 3 rfl (by decide) (by decide) rfl ?_
        refine jf_goto (tgt := 23) hX dX11_fillsNight_146 (by decide) ?_
        refine jf_lv [2, 3, 0] rfl ?_
        exact hrec23 x0 x1 (x2 + (1 : Int32)) u3
      · refine jf_aload_n hX dX11_fillsNight_114 1 rfl ?_
        refine jf_getR hX ck_X11 29 wfl_36 (by decide) rfl dX11_fillsNight_115 ?_
        refine jf_nn (fun q4 => ?_)
        refine jf_iload hX dX11_fillsNight_118 0 rfl ?_
        refine jf_iald hX dX11_fillsNight_120 ?_
        refine jf_if_lt (tgt := 135) hX dX11_fillsNight_121 (by decide) ?_ ?_
        · refine jf_aload_n hX dX11_fillsNight_135 1 rfl ?_
          refine jf_getR hX ck_X11 29 wfl_36 (by decide) rfl dX11_fillsNight_136 ?_
          refine jf_nn (fun q5 => ?_)
          refine jf_iload hX dX11_fillsNight_139 0 rfl ?_
          refine jf_iload_n hX dX11_fillsNight_141 4 rfl ?_
          refine jf_iast hX trivial dX11_fillsNight_142 (fun u6 => ?_)
          refine jf_iinc (v := 1) (lv' := [(2, .int (x2 + (1 : Int32))), (5, .int r2), (0, .ref x0), (1, .int x1), (3, .int x3), (4, .int x4)]) hX dX11_fillsNight_143 3 rfl (by decide) (by decide) rfl ?_
          refine jf_goto (tgt := 23) hX dX11_fillsNight_146 (by decide) ?_
          refine jf_lv [2, 3, 0] rfl ?_
          exact hrec23 x0 x1 (x2 + (1 : Int32)) u6
        · refine jf_iload_n hX dX11_fillsNight_124 4 rfl ?_
          refine jf_aload_n hX dX11_fillsNight_125 1 rfl ?_
          refine jf_getR hX ck_X11 29 wfl_36 (by decide) rfl dX11_fillsNight_126 ?_
          refine jf_nn (fun q7 => ?_)
          refine jf_iload hX dX11_fillsNight_129 0 rfl ?_
          refine jf_iald hX dX11_fillsNight_131 ?_
          refine jf_icmp_ge (tgt := 143) hX dX11_fillsNight_132 (by decide) ?_ ?_
          · refine jf_iinc (v := 1) (lv' := [(2, .int (x2 + (1 : Int32))), (5, .int r2), (0, .ref x0), (1, .int x1), (3, .int x3), (4, .int x4)]) hX dX11_fillsNight_143 3 rfl (by decide) (by decide) rfl ?_
            refine jf_goto (tgt := 23) hX dX11_fillsNight_146 (by decide) ?_
            refine jf_lv [2, 3, 0] rfl ?_
            exact hrec23 x0 x1 (x2 + (1 : Int32)) u3
          · refine jf_aload_n hX dX11_fillsNight_135 1 rfl ?_
            refine jf_getR hX ck_X11 29 wfl_36 (by decide) rfl dX11_fillsNight_136 ?_
            refine jf_nn (fun q8 => ?_)
            refine jf_iload hX dX11_fillsNight_139 0 rfl ?_
            refine jf_iload_n hX dX11_fillsNight_141 4 rfl ?_
            refine jf_iast hX trivial dX11_fillsNight_142 (fun u9 => ?_)
            refine jf_iinc (v := 1) (lv' := [(2, .int (x2 + (1 : Int32))), (5, .int r2), (0, .ref x0), (1, .int x1), (3, .int x3), (4, .int x4)]) hX dX11_fillsNight_143 3 rfl (by decide) (by decide) rfl ?_
            refine jf_goto (tgt := 23) hX dX11_fillsNight_146 (by decide) ?_
            refine jf_lv [2, 3, 0] rfl ?_
            exact hrec23 x0 x1 (x2 + (1 : Int32)) u9
    · refine jf_iload_n hX dX11_fillsNight_54 2 rfl ?_
      refine jf_iload hX dX11_fillsNight_55 5 rfl ?_
      refine jf_callS (As := [.int x2, .int x5]) (st := []) hX mo_X11_isOf wml_273 wstat_274 rfl (fun l D cT z0 ks => kX11_isOf N l D cT z0 ks x2 x5 u) (by decide) (by decide) (by decide) (by decide) (Nat.le_of_ble_eq_true rfl) rfl rfl dX11_fillsNight_57 (fun r10 u11 => ?_)
      refine jf_if_ne (tgt := 66) hX dX11_fillsNight_60 (by decide) ?_ ?_
      · refine jf_iload hX dX11_fillsNight_66 4 rfl ?_
        refine jf_if_eq (tgt := 85) hX dX11_fillsNight_68 (by decide) ?_ ?_
        · refine jf_lv [0, 1, 2, 3, 5] rfl ?_
          exact jgX11_fillsNight_85 hX N hrec23 hrec43 x0 x1 x2 x3 x5 u11
        · refine jf_aload_n hX dX11_fillsNight_71 0 rfl ?_
          refine jf_iload_n hX dX11_fillsNight_72 1 rfl ?_
          refine jf_iload hX dX11_fillsNight_73 5 rfl ?_
          refine jf_callV (As := [.int x1, .int x5]) (st := []) hX mo_X11_worksIn wml_204 winst_205 wsel_206 11 ck_X11 rfl (fun l D cT z0 ks => kX11_worksIn N l D cT z0 ks x0 x1 x5 u11) (by decide) (by decide) (by decide) (by decide) (Nat.le_of_ble_eq_true rfl) rfl rfl dX11_fillsNight_75 (fun r12 u13 => ?_)
          refine jf_if_ne (tgt := 85) hX dX11_fillsNight_78 (by decide) ?_ ?_
          · refine jf_lv [0, 1, 2, 3, 5] rfl ?_
            exact jgX11_fillsNight_85 hX N hrec23 hrec43 x0 x1 x2 x3 x5 u13
          · refine jf_iconst (v := 1) hX dX11_fillsNight_81 (by decide) ?_
            refine jf_goto (tgt := 86) hX dX11_fillsNight_82 (by decide) ?_
            refine jf_lv [0, 1, 2, 3, 5] rfl ?_
            exact jgX11_fillsNight_86 hX N hrec23 hrec43 x0 x1 x2 x3 x5 (1 : Int32) u13
      · refine jf_goto (tgt := 97) hX dX11_fillsNight_63 (by decide) ?_
        refine jf_iinc (v := 1) (lv' := [(5, .int (x5 + (1 : Int32))), (0, .ref x0), (1, .int x1), (2, .int x2), (3, .int x3), (4, .int x4)]) hX dX11_fillsNight_97 5 rfl (by decide) (by decide) rfl ?_
        refine jf_goto (tgt := 43) hX dX11_fillsNight_100 (by decide) ?_
        refine jf_lv [1, 2, 3, 4, 5, 0] rfl ?_
        exact hrec43 x0 x1 x2 x3 x4 (x5 + (1 : Int32)) u11
set_option maxRecDepth 20000 in
def gX11_fillsNight_23 (N : Nat)   : Nat → Nat → Int32 → Int32 → SG → Option (Unit × SG)
  | 0, _, _, _, _ => none
  | n + 1, x0, x1, x2, u => if zK u x0 = 12 then (Option.bind (zR u x0 20) fun q1 => (if zK u q1 = 22 then if zN u q1 ≤ 0 then none else (if ((1 : Int32) <<< ((zI u q1 0) &&& 31)) ≤ x2 then (some ((), u))
  else (gX11_fillsNight_43 N (gX11_fillsNight_23 N  n) N x0 x1 x2 (0 : Int32) (1 : Int32) (0 : Int32) u)) else none)) else none
set_option maxRecDepth 20000 in
set_option maxHeartbeats 4000000 in
theorem jgX11_fillsNight_23   {X : XT} (hX : Cx X yX11_fillsNight cX11_fillsNight 6 none 3 0 0) (N : Nat)  : ∀ (n : Nat) (x0 : Nat) (x1 : Int32) (x2 : Int32) (u : SG), JF X True 6 0 0 (jQ X vU 0 0) 23 [(0, .ref x0), (1, .int x1), (2, .int x2)] [] u (gX11_fillsNight_23 N   n x0 x1 x2 u) := by
  intro n
  induction n with
  | zero => intros; intro r u9 h9; exact absurd h9 (by simp [gX11_fillsNight_23])
  | succ n ih =>
    intro x0 x1 x2 u
    have hrec23 := ih
    rw [gX11_fillsNight_23]
    refine jf_iload_n hX dX11_fillsNight_23 2 rfl ?_
    refine jf_iconst (v := 1) hX dX11_fillsNight_24 (by decide) ?_
    refine jf_aload_n hX dX11_fillsNight_25 0 rfl ?_
    refine jf_getR hX ck_X11 20 wfl_31 (by decide) rfl dX11_fillsNight_26 ?_
    refine jf_nn (fun q1 => ?_)
    refine jf_iconst (v := 0) hX dX11_fillsNight_29 (by decide) ?_
    refine jf_ialdc 0 hX (by decide) (by decide) dX11_fillsNight_30 ?_
    refine jf_ishl hX dX11_fillsNight_31 ?_
    refine jf_icmp_ge (tgt := 149) hX dX11_fillsNight_32 (by decide) ?_ ?_
    · exact jf_vret hX rfl (by decide) (by decide) dX11_fillsNight_149
    · refine jf_iconst (v := 0) hX dX11_fillsNight_35 (by decide) ?_
      refine jf_istore_n (lv' := [(3, .int (0 : Int32)), (0, .ref x0), (1, .int x1), (2, .int x2)]) hX dX11_fillsNight_36 rfl (by decide) rfl ?_
      refine jf_iconst (v := 1) hX dX11_fillsNight_37 (by decide) ?_
      refine jf_istore (lv' := [(4, .int (1 : Int32)), (3, .int (0 : Int32)), (0, .ref x0), (1, .int x1), (2, .int x2)]) hX dX11_fillsNight_38 (by decide) rfl ?_
      refine jf_iconst (v := 0) hX dX11_fillsNight_40 (by decide) ?_
      refine jf_istore (lv' := [(5, .int (0 : Int32)), (4, .int (1 : Int32)), (3, .int (0 : Int32)), (0, .ref x0), (1, .int x1), (2, .int x2)]) hX dX11_fillsNight_41 (by decide) rfl ?_
      refine jf_lv [3, 4, 5, 2, 1, 0] rfl ?_
      exact jgX11_fillsNight_43 hX N hrec23 N x0 x1 x2 (0 : Int32) (1 : Int32) (0 : Int32) u
set_option maxRecDepth 20000 in
def gX11_fillsNight_2 (N : Nat)   : Nat → Nat → Int32 → Int32 → SG → Option (Unit × SG)
  | 0, _, _, _, _ => none
  | n + 1, x0, x1, x2, u => if (10 : Int32) < x2 then (gX11_fillsNight_23 N  N x0 x1 (0 : Int32) u)
  else (if zK u x0 = 12 then (Option.bind (zR u x0 29) fun q1 => (if zK u q1 = 22 then if x2 < 0 ∨ zN u q1 ≤ x2.toNatClampNeg then none else bs (sI u q1 x2.toNatClampNeg (-1 : Int32)) fun u2 => ((gX11_fillsNight_2 N  n) x0 x1 (x2 + (1 : Int32)) u2) else none)) else none)
set_option maxRecDepth 20000 in
set_option maxHeartbeats 4000000 in
theorem jgX11_fillsNight_2   {X : XT} (hX : Cx X yX11_fillsNight cX11_fillsNight 6 none 3 0 0) (N : Nat)  : ∀ (n : Nat) (x0 : Nat) (x1 : Int32) (x2 : Int32) (u : SG), JF X True 6 0 0 (jQ X vU 0 0) 2 [(0, .ref x0), (1, .int x1), (2, .int x2)] [] u (gX11_fillsNight_2 N   n x0 x1 x2 u) := by
  intro n
  induction n with
  | zero => intros; intro r u9 h9; exact absurd h9 (by simp [gX11_fillsNight_2])
  | succ n ih =>
    intro x0 x1 x2 u
    have hrec2 := ih
    rw [gX11_fillsNight_2]
    refine jf_iload_n hX dX11_fillsNight_2 2 rfl ?_
    refine jf_bipush (v := 10) hX dX11_fillsNight_3 (by decide) ?_
    refine jf_icmp_gt (tgt := 21) hX dX11_fillsNight_5 (by decide) ?_ ?_
    · refine jf_iconst (v := 0) hX dX11_fillsNight_21 (by decide) ?_
      refine jf_istore_n (lv' := [(2, .int (0 : Int32)), (0, .ref x0), (1, .int x1)]) hX dX11_fillsNight_22 rfl (by decide) rfl ?_
      refine jf_lv [1, 2, 0] rfl ?_
      exact jgX11_fillsNight_23 hX N  N x0 x1 (0 : Int32) u
    · refine jf_aload_n hX dX11_fillsNight_8 0 rfl ?_
      refine jf_getR hX ck_X11 29 wfl_36 (by decide) rfl dX11_fillsNight_9 ?_
      refine jf_nn (fun q1 => ?_)
      refine jf_iload_n hX dX11_fillsNight_12 2 rfl ?_
      refine jf_iconst (v := -1) hX dX11_fillsNight_13 (by decide) ?_
      refine jf_iast hX trivial dX11_fillsNight_14 (fun u2 => ?_)
      refine jf_iinc (v := 1) (lv' := [(2, .int (x2 + (1 : Int32))), (0, .ref x0), (1, .int x1)]) hX dX11_fillsNight_15 2 rfl (by decide) (by decide) rfl ?_
      refine jf_goto (tgt := 2) hX dX11_fillsNight_18 (by decide) ?_
      refine jf_lv [1, 2, 0] rfl ?_
      exact hrec2 x0 x1 (x2 + (1 : Int32)) u2
set_option maxRecDepth 20000 in
def fX11_fillsNight (N : Nat)  (a0 : Nat) (p1 : Int32) (u : SG) : Option (Unit × SG) := gX11_fillsNight_2 N  N a0 p1 (0 : Int32) u
set_option maxRecDepth 20000 in
set_option maxHeartbeats 4000000 in
theorem kX11_fillsNight  (N : Nat)  (l : Launch) (D : va_G) (cT : Nat → ClassId) (z0 : Nat) (ks : Nat × Nat) (a0 : Nat) (p1 : Int32) (u : SG) : Ct l D cT z0 ks yX11_fillsNight cX11_fillsNight 6 none 3 0 0 vU [.ref a0, .int p1] u (fX11_fillsNight N  a0 p1 u) := by
  unfold fX11_fillsNight
  refine ct_of (by decide +kernel) (Nat.le_of_ble_eq_true rfl) (fun p e R s m args below meth c hX => ?_)
  show JF _ True 6 0 0 _ 0 [(0, .ref a0), (1, .int p1)] [] u _
  refine jf_iconst (v := 0) hX dX11_fillsNight_0 (by decide) ?_
  refine jf_istore_n (lv' := [(2, .int (0 : Int32)), (0, .ref a0), (1, .int p1)]) hX dX11_fillsNight_1 rfl (by decide) rfl ?_
  refine jf_lv [1, 2, 0] rfl ?_
  exact jgX11_fillsNight_2 hX N  N a0 p1 (0 : Int32) u
set_option maxRecDepth 20000 in
def fX11_leastOf (N : Nat)  (a0 : Nat) (p1 : Int32) (p2 : Int32) (u : SG) : Option (Int32 × SG) := if zK u a0 = 12 then (Option.bind (zR u a0 30) fun q1 => (if 0 ≤ p2 then (if zK u q1 = 22 then if (((81 : Int32) * p1) + p2) < 0 ∨ zN u q1 ≤ (((81 : Int32) * p1) + p2).toNatClampNeg then none else (some (zI u q1 (((81 : Int32) * p1) + p2).toNatClampNeg, u)) else none)
  else (if zK u q1 = 22 then if (((81 : Int32) * p1) + (0 : Int32)) < 0 ∨ zN u q1 ≤ (((81 : Int32) * p1) + (0 : Int32)).toNatClampNeg then none else (some (zI u q1 (((81 : Int32) * p1) + (0 : Int32)).toNatClampNeg, u)) else none))) else none
set_option maxRecDepth 20000 in
set_option maxHeartbeats 4000000 in
theorem kX11_leastOf  (N : Nat)  (l : Launch) (D : va_G) (cT : Nat → ClassId) (z0 : Nat) (ks : Nat × Nat) (a0 : Nat) (p1 : Int32) (p2 : Int32) (u : SG) : Ct l D cT z0 ks yX11_leastOf cX11_leastOf 3 (some .int) 1 0 0 vI [.ref a0, .int p1, .int p2] u (fX11_leastOf N  a0 p1 p2 u) := by
  unfold fX11_leastOf
  refine ct_of (by decide +kernel) (Nat.le_of_ble_eq_true rfl) (fun p e R s m args below meth c hX => ?_)
  show JF _ True 3 0 0 _ 0 [(0, .ref a0), (1, .int p1), (2, .int p2)] [] u _
  refine jf_aload_n hX dX11_leastOf_0 0 rfl ?_
  refine jf_getR hX ck_X11 30 wfl_37 (by decide) rfl dX11_leastOf_1 ?_
  refine jf_nn (fun q1 => ?_)
  refine jf_bipush (v := 81) hX dX11_leastOf_4 (by decide) ?_
  refine jf_iload_n hX dX11_leastOf_6 1 rfl ?_
  refine jf_imul hX dX11_leastOf_7 ?_
  refine jf_iload_n hX dX11_leastOf_8 2 rfl ?_
  refine jf_if_ge (tgt := 16) hX dX11_leastOf_9 (by decide) ?_ ?_
  · refine jf_iload_n hX dX11_leastOf_16 2 rfl ?_
    refine jf_iadd hX dX11_leastOf_17 ?_
    refine jf_iald hX dX11_leastOf_18 ?_
    exact jf_iret hX rfl (by decide) (by decide) dX11_leastOf_19
  · refine jf_iconst (v := 0) hX dX11_leastOf_12 (by decide) ?_
    refine jf_goto (tgt := 17) hX dX11_leastOf_13 (by decide) ?_
    refine jf_iadd hX dX11_leastOf_17 ?_
    refine jf_iald hX dX11_leastOf_18 ?_
    exact jf_iret hX rfl (by decide) (by decide) dX11_leastOf_19
set_option maxRecDepth 20000 in
def fX11_costBy (N : Nat)  (a0 : Nat) (p1 : Int32) (p2 : Int32) (p3 : Int32) (p4 : Int32) (u : SG) : Option (Int32 × SG) := if zK u a0 = 12 then cl (fX11_personOf N a0 p1 (0 : Int32) u) fun r1 u2 => (if r1 < p4 then (some ((-1 : Int32), u2))
  else (if zK u2 a0 = 12 then (Option.bind (zR u2 a0 29) fun q3 => (if zK u2 q3 = 22 then if p4 < 0 ∨ zN u2 q3 ≤ p4.toNatClampNeg then none else (if (zI u2 q3 p4.toNatClampNeg) < 0 then (some ((-1 : Int32), u2))
  else (if zK u2 a0 = 12 then cl (fX11_leastOf N a0 (p2 - (1 : Int32)) (p3 - p4) u2) fun r4 u5 => (if 0 ≤ r4 then (if zK u5 a0 = 12 then (Option.bind (zR u5 a0 29) fun q6 => (if zK u5 q6 = 22 then if p4 < 0 ∨ zN u5 q6 ≤ p4.toNatClampNeg then none else (if zK u5 a0 = 12 then cl (fX11_leastOf N a0 (p2 - (1 : Int32)) (p3 - p4) u5) fun r7 u8 => (some ((zI u5 q6 p4.toNatClampNeg) + r7, u8)) else none) else none)) else none)
  else (some ((-1 : Int32), u5))) else none)) else none)) else none)) else none
set_option maxRecDepth 20000 in
set_option maxHeartbeats 4000000 in
theorem kX11_costBy  (N : Nat)  (l : Launch) (D : va_G) (cT : Nat → ClassId) (z0 : Nat) (ks : Nat × Nat) (a0 : Nat) (p1 : Int32) (p2 : Int32) (p3 : Int32) (p4 : Int32) (u : SG) : Ct l D cT z0 ks yX11_costBy cX11_costBy 5 (some .int) 2 0 0 vI [.ref a0, .int p1, .int p2, .int p3, .int p4] u (fX11_costBy N  a0 p1 p2 p3 p4 u) := by
  unfold fX11_costBy
  refine ct_of (by decide +kernel) (Nat.le_of_ble_eq_true rfl) (fun p e R s m args below meth c hX => ?_)
  show JF _ True 5 0 0 _ 0 [(0, .ref a0), (1, .int p1), (2, .int p2), (3, .int p3), (4, .int p4)] [] u _
  refine jf_iload hX dX11_costBy_0 4 rfl ?_
  refine jf_aload_n hX dX11_costBy_2 0 rfl ?_
  refine jf_iload_n hX dX11_costBy_3 1 rfl ?_
  refine jf_iconst (v := 0) hX dX11_costBy_4 (by decide) ?_
  refine jf_callV (As := [.int p1, .int (0 : Int32)]) (st := [.int p4]) hX mo_X11_personOf wml_201 winst_202 wsel_203 11 ck_X11 rfl (fun l D cT z0 ks => kX11_personOf N l D cT z0 ks a0 p1 (0 : Int32) u) (by decide) (by decide) (by decide) (by decide) (Nat.le_of_ble_eq_true rfl) rfl rfl dX11_costBy_5 (fun r1 u2 => ?_)
  refine jf_icmp_gt (tgt := 35) hX dX11_costBy_8 (by decide) ?_ ?_
  · refine jf_iconst (v := -1) hX dX11_costBy_35 (by decide) ?_
    exact jf_iret hX rfl (by decide) (by decide) dX11_costBy_36
  · refine jf_aload_n hX dX11_costBy_11 0 rfl ?_
    refine jf_getR hX ck_X11 29 wfl_36 (by decide) rfl dX11_costBy_12 ?_
    refine jf_nn (fun q3 => ?_)
    refine jf_iload hX dX11_costBy_15 4 rfl ?_
    refine jf_iald hX dX11_costBy_17 ?_
    refine jf_if_lt (tgt := 35) hX dX11_costBy_18 (by decide) ?_ ?_
    · refine jf_iconst (v := -1) hX dX11_costBy_35 (by decide) ?_
      exact jf_iret hX rfl (by decide) (by decide) dX11_costBy_36
    · refine jf_aload_n hX dX11_costBy_21 0 rfl ?_
      refine jf_iload_n hX dX11_costBy_22 2 rfl ?_
      refine jf_iconst (v := 1) hX dX11_costBy_23 (by decide) ?_
      refine jf_isub hX dX11_costBy_24 ?_
      refine jf_iload_n hX dX11_costBy_25 3 rfl ?_
      refine jf_iload hX dX11_costBy_26 4 rfl ?_
      refine jf_isub hX dX11_costBy_28 ?_
      refine jf_callV (As := [.int (p2 - (1 : Int32)), .int (p3 - p4)]) (st := []) hX mo_X11_leastOf wml_310 winst_311 wsel_312 11 ck_X11 rfl (fun l D cT z0 ks => kX11_leastOf N l D cT z0 ks a0 (p2 - (1 : Int32)) (p3 - p4) u2) (by decide) (by decide) (by decide) (by decide) (Nat.le_of_ble_eq_true rfl) rfl rfl dX11_costBy_29 (fun r4 u5 => ?_)
      refine jf_if_ge (tgt := 37) hX dX11_costBy_32 (by decide) ?_ ?_
      · refine jf_aload_n hX dX11_costBy_37 0 rfl ?_
        refine jf_getR hX ck_X11 29 wfl_36 (by decide) rfl dX11_costBy_38 ?_
        refine jf_nn (fun q6 => ?_)
        refine jf_iload hX dX11_costBy_41 4 rfl ?_
        refine jf_iald hX dX11_costBy_43 ?_
        refine jf_aload_n hX dX11_costBy_44 0 rfl ?_
        refine jf_iload_n hX dX11_costBy_45 2 rfl ?_
        refine jf_iconst (v := 1) hX dX11_costBy_46 (by decide) ?_
        refine jf_isub hX dX11_costBy_47 ?_
        refine jf_iload_n hX dX11_costBy_48 3 rfl ?_
        refine jf_iload hX dX11_costBy_49 4 rfl ?_
        refine jf_isub hX dX11_costBy_51 ?_
        refine jf_callV (As := [.int (p2 - (1 : Int32)), .int (p3 - p4)]) (st := [.int (zI u5 q6 p4.toNatClampNeg)]) hX mo_X11_leastOf wml_310 winst_311 wsel_312 11 ck_X11 rfl (fun l D cT z0 ks => kX11_leastOf N l D cT z0 ks a0 (p2 - (1 : Int32)) (p3 - p4) u5) (by decide) (by decide) (by decide) (by decide) (Nat.le_of_ble_eq_true rfl) rfl rfl dX11_costBy_52 (fun r7 u8 => ?_)
        refine jf_iadd hX dX11_costBy_55 ?_
        exact jf_iret hX rfl (by decide) (by decide) dX11_costBy_56
      · refine jf_iconst (v := -1) hX dX11_costBy_35 (by decide) ?_
        exact jf_iret hX rfl (by decide) (by decide) dX11_costBy_36
set_option maxRecDepth 20000 in
def gX11_fillsLeast_52 (N : Nat)  (rec31 : Nat → Int32 → Int32 → Int32 → SG → Option (Unit × SG)) (rec39 : Nat → Int32 → Int32 → Int32 → Int32 → SG → Option (Unit × SG)) : Nat → Nat → Int32 → Int32 → Int32 → Int32 → Int32 → Int32 → SG → Option (Unit × SG)
  | 0, _, _, _, _, _, _, _, _ => none
  | n + 1, x0, x1, x2, x3, x4, x5, x6, u => if (10 : Int32) < x6 then (if zK u x0 = 12 then (Option.bind (zR u x0 30) fun q1 => (if zK u q1 = 22 then if (((81 : Int32) * x3) + x4) < 0 ∨ zN u q1 ≤ (((81 : Int32) * x3) + x4).toNatClampNeg then none else bs (sI u q1 (((81 : Int32) * x3) + x4).toNatClampNeg x5) fun u2 => (rec39 x0 x1 x2 x3 (x4 + (1 : Int32)) u2) else none)) else none)
  else (if zK u x0 = 12 then cl (fX11_costBy N x0 x1 x3 x4 x6 u) fun r3 u4 => (if r3 < 0 then ((gX11_fillsLeast_52 N rec31 rec39 n) x0 x1 x2 x3 x4 x5 (x6 + (1 : Int32)) u4)
  else (if x5 < 0 then ((gX11_fillsLeast_52 N rec31 rec39 n) x0 x1 x2 x3 x4 r3 (x6 + (1 : Int32)) u4)
  else (if x5 ≤ r3 then ((gX11_fillsLeast_52 N rec31 rec39 n) x0 x1 x2 x3 x4 x5 (x6 + (1 : Int32)) u4)
  else ((gX11_fillsLeast_52 N rec31 rec39 n) x0 x1 x2 x3 x4 r3 (x6 + (1 : Int32)) u4)))) else none)
set_option maxRecDepth 20000 in
set_option maxHeartbeats 4000000 in
theorem jgX11_fillsLeast_52 {rec31 : Nat → Int32 → Int32 → Int32 → SG → Option (Unit × SG)} {rec39 : Nat → Int32 → Int32 → Int32 → Int32 → SG → Option (Unit × SG)}  {X : XT} (hX : Cx X yX11_fillsLeast cX11_fillsLeast 8 none 3 0 0) (N : Nat) (hrec31 : ∀ (x0 : Nat) (x1 : Int32) (x2 : Int32) (x3 : Int32)  (u : SG), JF X True 8 0 0 (jQ X vU 0 0) 31 [(0, .ref x0), (1, .int x1), (2, .int x2), (3, .int x3)] [] u (rec31 x0 x1 x2 x3  u)) (hrec39 : ∀ (x0 : Nat) (x1 : Int32) (x2 : Int32) (x3 : Int32) (x4 : Int32)  (u : SG), JF X True 8 0 0 (jQ X vU 0 0) 39 [(0, .ref x0), (1, .int x1), (2, .int x2), (3, .int x3), (4, .int x4)] [] u (rec39 x0 x1 x2 x3 x4  u)) : ∀ (n : Nat) (x0 : Nat) (x1 : Int32) (x2 : Int32) (x3 : Int32) (x4 : Int32) (x5 : Int32) (x6 : Int32) (u : SG), JF X True 8 0 0 (jQ X vU 0 0) 52 [(0, .ref x0), (1, .int x1), (2, .int x2), (3, .int x3), (4, .int x4), (5, .int x5), (6, .int x6)] [] u (gX11_fillsLeast_52 N  rec31 rec39 n x0 x1 x2 x3 x4 x5 x6 u) := by
  intro n
  induction n with
  | zero => intros; intro r u9 h9; exact absurd h9 (by simp [gX11_fillsLeast_52])
  | succ n ih =>
    intro x0 x1 x2 x3 x4 x5 x6 u
    have hrec52 := ih
    rw [gX11_fillsLeast_52]
    refine jf_iload hX dX11_fillsLeast_52 6 rfl ?_
    refine jf_bipush (v := 10) hX dX11_fillsLeast_54 (by decide) ?_
    refine jf_icmp_gt (tgt := 98) hX dX11_fillsLeast_56 (by decide) ?_ ?_
    · refine jf_aload_n hX dX11_fillsLeast_98 0 rfl ?_
      refine jf_getR hX ck_X11 30 wfl_37 (by decide) rfl dX11_fillsLeast_99 ?_
      refine jf_nn (fun q1 => ?_)
      refine jf_bipush (v := 81) hX dX11_fillsLeast_102 (by decide) ?_
      refine jf_iload_n hX dX11_fillsLeast_104 3 rfl ?_
      refine jf_imul hX dX11_fillsLeast_105 ?_
      refine jf_iload hX dX11_fillsLeast_106 4 rfl ?_
      refine jf_iadd hX dX11_fillsLeast_108 ?_
      refine jf_iload hX dX11_fillsLeast_109 5 rfl ?_
      refine jf_iast hX trivial dX11_fillsLeast_111 (fun u2 => ?_)
      refine jf_iinc (v := 1) (lv' := [(4, .int (x4 + (1 : Int32))), (0, .ref x0), (1, .int x1), (2, .int x2), (3, .int x3), (5, .int x5), (6, .int x6)]) hX dX11_fillsLeast_112 4 rfl (by decide) (by decide) rfl ?_
      refine jf_goto (tgt := 39) hX dX11_fillsLeast_115 (by decide) ?_
      refine jf_lv [1, 2, 3, 4, 0] rfl ?_
      exact hrec39 x0 x1 x2 x3 (x4 + (1 : Int32)) u2
    · refine jf_aload_n hX dX11_fillsLeast_59 0 rfl ?_
      refine jf_iload_n hX dX11_fillsLeast_60 1 rfl ?_
      refine jf_iload_n hX dX11_fillsLeast_61 3 rfl ?_
      refine jf_iload hX dX11_fillsLeast_62 4 rfl ?_
      refine jf_iload hX dX11_fillsLeast_64 6 rfl ?_
      refine jf_callV (As := [.int x1, .int x3, .int x4, .int x6]) (st := []) hX mo_X11_costBy wml_313 winst_314 wsel_315 11 ck_X11 rfl (fun l D cT z0 ks => kX11_costBy N l D cT z0 ks x0 x1 x3 x4 x6 u) (by decide) (by decide) (by decide) (by decide) (Nat.le_of_ble_eq_true rfl) rfl rfl dX11_fillsLeast_66 (fun r3 u4 => ?_)
      refine jf_istore (lv' := [(7, .int r3), (0, .ref x0), (1, .int x1), (2, .int x2), (3, .int x3), (4, .int x4), (5, .int x5), (6, .int x6)]) hX dX11_fillsLeast_69 (by decide) rfl ?_
      refine jf_iload hX dX11_fillsLeast_71 0 rfl ?_
      refine jf_if_lt (tgt := 92) hX dX11_fillsLeast_73 (by decide) ?_ ?_
      · refine jf_iinc (v := 1) (lv' := [(6, .int (x6 + (1 : Int32))), (7, .int r3), (0, .ref x0), (1, .int x1), (2, .int x2), (3, .int x3), (4, .int x4), (5, .int x5)]) hX dX11_fillsLeast_92 7 rfl (by decide) (by decide) rfl ?_
        refine jf_goto (tgt := 52) hX dX11_fillsLeast_95 (by decide) ?_
        refine jf_lv [2, 3, 4, 5, 6, 7, 0] rfl ?_
        exact hrec52 x0 x1 x2 x3 x4 x5 (x6 + (1 : Int32)) u4
      · refine jf_iload hX dX11_fillsLeast_76 6 rfl ?_
        refine jf_if_lt (tgt := 88) hX dX11_fillsLeast_78 (by decide) ?_ ?_
        · refine jf_iload hX dX11_fillsLeast_88 0 rfl ?_
          refine jf_istore (lv' := [(5, .int r3), (7, .int r3), (0, .ref x0), (1, .int x1), (2, .int x2), (3, .int x3), (4, .int x4), (6, .int x6)]) hX dX11_fillsLeast_90 (by decide) rfl ?_
          refine jf_iinc (v := 1) (lv' := [(6, .int (x6 + (1 : Int32))), (5, .int r3), (7, .int r3), (0, .ref x0), (1, .int x1), (2, .int x2), (3, .int x3), (4, .int x4)]) hX dX11_fillsLeast_92 7 rfl (by decide) (by decide) rfl ?_
          refine jf_goto (tgt := 52) hX dX11_fillsLeast_95 (by decide) ?_
          refine jf_lv [3, 4, 5, 6, 7, 1, 0] rfl ?_
          exact hrec52 x0 x1 x2 x3 x4 r3 (x6 + (1 : Int32)) u4
        · refine jf_iload hX dX11_fillsLeast_81 0 rfl ?_
          refine jf_iload hX dX11_fillsLeast_83 6 rfl ?_
          refine jf_icmp_ge (tgt := 92) hX dX11_fillsLeast_85 (by decide) ?_ ?_
          · refine jf_iinc (v := 1) (lv' := [(6, .int (x6 + (1 : Int32))), (7, .int r3), (0, .ref x0), (1, .int x1), (2, .int x2), (3, .int x3), (4, .int x4), (5, .int x5)]) hX dX11_fillsLeast_92 7 rfl (by decide) (by decide) rfl ?_
            refine jf_goto (tgt := 52) hX dX11_fillsLeast_95 (by decide) ?_
            refine jf_lv [2, 3, 4, 5, 6, 7, 0] rfl ?_
            exact hrec52 x0 x1 x2 x3 x4 x5 (x6 + (1 : Int32)) u4
          · refine jf_iload hX dX11_fillsLeast_88 0 rfl ?_
            refine jf_istore (lv' := [(5, .int r3), (7, .int r3), (0, .ref x0), (1, .int x1), (2, .int x2), (3, .int x3), (4, .int x4), (6, .int x6)]) hX dX11_fillsLeast_90 (by decide) rfl ?_
            refine jf_iinc (v := 1) (lv' := [(6, .int (x6 + (1 : Int32))), (5, .int r3), (7, .int r3), (0, .ref x0), (1, .int x1), (2, .int x2), (3, .int x3), (4, .int x4)]) hX dX11_fillsLeast_92 7 rfl (by decide) (by decide) rfl ?_
            refine jf_goto (tgt := 52) hX dX11_fillsLeast_95 (by decide) ?_
            refine jf_lv [3, 4, 5, 6, 7, 1, 0] rfl ?_
            exact hrec52 x0 x1 x2 x3 x4 r3 (x6 + (1 : Int32)) u4
set_option maxRecDepth 20000 in
def gX11_fillsLeast_39 (N : Nat)  (rec31 : Nat → Int32 → Int32 → Int32 → SG → Option (Unit × SG)) : Nat → Nat → Int32 → Int32 → Int32 → Int32 → SG → Option (Unit × SG)
  | 0, _, _, _, _, _, _ => none
  | n + 1, x0, x1, x2, x3, x4, u => if (80 : Int32) < x4 then (rec31 x0 x1 x2 (x3 + (1 : Int32)) u)
  else (gX11_fillsLeast_52 N rec31 (gX11_fillsLeast_39 N rec31 n) N x0 x1 x2 x3 x4 (-1 : Int32) (0 : Int32) u)
set_option maxRecDepth 20000 in
set_option maxHeartbeats 4000000 in
theorem jgX11_fillsLeast_39 {rec31 : Nat → Int32 → Int32 → Int32 → SG → Option (Unit × SG)}  {X : XT} (hX : Cx X yX11_fillsLeast cX11_fillsLeast 8 none 3 0 0) (N : Nat) (hrec31 : ∀ (x0 : Nat) (x1 : Int32) (x2 : Int32) (x3 : Int32)  (u : SG), JF X True 8 0 0 (jQ X vU 0 0) 31 [(0, .ref x0), (1, .int x1), (2, .int x2), (3, .int x3)] [] u (rec31 x0 x1 x2 x3  u)) : ∀ (n : Nat) (x0 : Nat) (x1 : Int32) (x2 : Int32) (x3 : Int32) (x4 : Int32) (u : SG), JF X True 8 0 0 (jQ X vU 0 0) 39 [(0, .ref x0), (1, .int x1), (2, .int x2), (3, .int x3), (4, .int x4)] [] u (gX11_fillsLeast_39 N  rec31 n x0 x1 x2 x3 x4 u) := by
  intro n
  induction n with
  | zero => intros; intro r u9 h9; exact absurd h9 (by simp [gX11_fillsLeast_39])
  | succ n ih =>
    intro x0 x1 x2 x3 x4 u
    have hrec39 := ih
    rw [gX11_fillsLeast_39]
    refine jf_iload hX dX11_fillsLeast_39 4 rfl ?_
    refine jf_bipush (v := 80) hX dX11_fillsLeast_41 (by decide) ?_
    refine jf_icmp_gt (tgt := 118) hX dX11_fillsLeast_43 (by decide) ?_ ?_
    · refine jf_iinc (v := 1) (lv' := [(3, .int (x3 + (1 : Int32))), (0, .ref x0), (1, .int x1), (2, .int x2), (4, .int x4)]) hX dX11_fillsLeast_118 3 rfl (by decide) (by decide) rfl ?_
      refine jf_goto (tgt := 31) hX dX11_fillsLeast_121 (by decide) ?_
      refine jf_lv [1, 2, 3, 0] rfl ?_
      exact hrec31 x0 x1 x2 (x3 + (1 : Int32)) u
    · refine jf_iconst (v := -1) hX dX11_fillsLeast_46 (by decide) ?_
      refine jf_istore (lv' := [(5, .int (-1 : Int32)), (0, .ref x0), (1, .int x1), (2, .int x2), (3, .int x3), (4, .int x4)]) hX dX11_fillsLeast_47 (by decide) rfl ?_
      refine jf_iconst (v := 0) hX dX11_fillsLeast_49 (by decide) ?_
      refine jf_istore (lv' := [(6, .int (0 : Int32)), (5, .int (-1 : Int32)), (0, .ref x0), (1, .int x1), (2, .int x2), (3, .int x3), (4, .int x4)]) hX dX11_fillsLeast_50 (by decide) rfl ?_
      refine jf_lv [2, 3, 4, 5, 6, 1, 0] rfl ?_
      exact jgX11_fillsLeast_52 hX N hrec31 hrec39 N x0 x1 x2 x3 x4 (-1 : Int32) (0 : Int32) u
set_option maxRecDepth 20000 in
def gX11_fillsLeast_31 (N : Nat)   : Nat → Nat → Int32 → Int32 → Int32 → SG → Option (Unit × SG)
  | 0, _, _, _, _, _ => none
  | n + 1, x0, x1, x2, x3, u => if x2 < x3 then (some ((), u))
  else (gX11_fillsLeast_39 N (gX11_fillsLeast_31 N  n) N x0 x1 x2 x3 (0 : Int32) u)
set_option maxRecDepth 20000 in
set_option maxHeartbeats 4000000 in
theorem jgX11_fillsLeast_31   {X : XT} (hX : Cx X yX11_fillsLeast cX11_fillsLeast 8 none 3 0 0) (N : Nat)  : ∀ (n : Nat) (x0 : Nat) (x1 : Int32) (x2 : Int32) (x3 : Int32) (u : SG), JF X True 8 0 0 (jQ X vU 0 0) 31 [(0, .ref x0), (1, .int x1), (2, .int x2), (3, .int x3)] [] u (gX11_fillsLeast_31 N   n x0 x1 x2 x3 u) := by
  intro n
  induction n with
  | zero => intros; intro r u9 h9; exact absurd h9 (by simp [gX11_fillsLeast_31])
  | succ n ih =>
    intro x0 x1 x2 x3 u
    have hrec31 := ih
    rw [gX11_fillsLeast_31]
    refine jf_iload_n hX dX11_fillsLeast_31 3 rfl ?_
    refine jf_iload_n hX dX11_fillsLeast_32 2 rfl ?_
    refine jf_icmp_gt (tgt := 124) hX dX11_fillsLeast_33 (by decide) ?_ ?_
    · exact jf_vret hX rfl (by decide) (by decide) dX11_fillsLeast_124
    · refine jf_iconst (v := 0) hX dX11_fillsLeast_36 (by decide) ?_
      refine jf_istore (lv' := [(4, .int (0 : Int32)), (0, .ref x0), (1, .int x1), (2, .int x2), (3, .int x3)]) hX dX11_fillsLeast_37 (by decide) rfl ?_
      refine jf_lv [1, 2, 3, 4, 0] rfl ?_
      exact jgX11_fillsLeast_39 hX N hrec31 N x0 x1 x2 x3 (0 : Int32) u
set_option maxRecDepth 20000 in
def gX11_fillsLeast_2 (N : Nat)   : Nat → Nat → Int32 → Int32 → Int32 → SG → Option (Unit × SG)
  | 0, _, _, _, _, _ => none
  | n + 1, x0, x1, x2, x3, u => if (80 : Int32) < x3 then (gX11_fillsLeast_31 N  N x0 x1 x2 (1 : Int32) u)
  else (if zK u x0 = 12 then (Option.bind (zR u x0 30) fun q1 => (if x3 = 0 then (if zK u q1 = 22 then if x3 < 0 ∨ zN u q1 ≤ x3.toNatClampNeg then none else bs (sI u q1 x3.toNatClampNeg (0 : Int32)) fun u3 => ((gX11_fillsLeast_2 N  n) x0 x1 x2 (x3 + (1 : Int32)) u3) else none)
  else (if zK u q1 = 22 then if x3 < 0 ∨ zN u q1 ≤ x3.toNatClampNeg then none else bs (sI u q1 x3.toNatClampNeg (-1 : Int32)) fun u2 => ((gX11_fillsLeast_2 N  n) x0 x1 x2 (x3 + (1 : Int32)) u2) else none))) else none)
set_option maxRecDepth 20000 in
set_option maxHeartbeats 4000000 in
theorem jgX11_fillsLeast_2   {X : XT} (hX : Cx X yX11_fillsLeast cX11_fillsLeast 8 none 3 0 0) (N : Nat)  : ∀ (n : Nat) (x0 : Nat) (x1 : Int32) (x2 : Int32) (x3 : Int32) (u : SG), JF X True 8 0 0 (jQ X vU 0 0) 2 [(0, .ref x0), (1, .int x1), (2, .int x2), (3, .int x3)] [] u (gX11_fillsLeast_2 N   n x0 x1 x2 x3 u) := by
  intro n
  induction n with
  | zero => intros; intro r u9 h9; exact absurd h9 (by simp [gX11_fillsLeast_2])
  | succ n ih =>
    intro x0 x1 x2 x3 u
    have hrec2 := ih
    rw [gX11_fillsLeast_2]
    refine jf_iload_n hX dX11_fillsLeast_2 3 rfl ?_
    refine jf_bipush (v := 80) hX dX11_fillsLeast_3 (by decide) ?_
    refine jf_icmp_gt (tgt := 29) hX dX11_fillsLeast_5 (by decide) ?_ ?_
    · refine jf_iconst (v := 1) hX dX11_fillsLeast_29 (by decide) ?_
      refine jf_istore_n (lv' := [(3, .int (1 : Int32)), (0, .ref x0), (1, .int x1), (2, .int x2)]) hX dX11_fillsLeast_30 rfl (by decide) rfl ?_
      refine jf_lv [1, 2, 3, 0] rfl ?_
      exact jgX11_fillsLeast_31 hX N  N x0 x1 x2 (1 : Int32) u
    · refine jf_aload_n hX dX11_fillsLeast_8 0 rfl ?_
      refine jf_getR hX ck_X11 30 wfl_37 (by decide) rfl dX11_fillsLeast_9 ?_
      refine jf_nn (fun q1 => ?_)
      refine jf_iload_n hX dX11_fillsLeast_12 3 rfl ?_
      refine jf_iload_n hX dX11_fillsLeast_13 3 rfl ?_
      refine jf_if_ne (tgt := 21) hX dX11_fillsLeast_14 (by decide) ?_ ?_
      · refine jf_iconst (v := -1) hX dX11_fillsLeast_21 (by decide) ?_
        refine jf_iast hX trivial dX11_fillsLeast_22 (fun u2 => ?_)
        refine jf_iinc (v := 1) (lv' := [(3, .int (x3 + (1 : Int32))), (0, .ref x0), (1, .int x1), (2, .int x2)]) hX dX11_fillsLeast_23 3 rfl (by decide) (by decide) rfl ?_
        refine jf_goto (tgt := 2) hX dX11_fillsLeast_26 (by decide) ?_
        refine jf_lv [1, 2, 3, 0] rfl ?_
        exact hrec2 x0 x1 x2 (x3 + (1 : Int32)) u2
      · refine jf_iconst (v := 0) hX dX11_fillsLeast_17 (by decide) ?_
        refine jf_goto (tgt := 22) hX dX11_fillsLeast_18 (by decide) ?_
        refine jf_iast hX trivial dX11_fillsLeast_22 (fun u3 => ?_)
        refine jf_iinc (v := 1) (lv' := [(3, .int (x3 + (1 : Int32))), (0, .ref x0), (1, .int x1), (2, .int x2)]) hX dX11_fillsLeast_23 3 rfl (by decide) (by decide) rfl ?_
        refine jf_goto (tgt := 2) hX dX11_fillsLeast_26 (by decide) ?_
        refine jf_lv [1, 2, 3, 0] rfl ?_
        exact hrec2 x0 x1 x2 (x3 + (1 : Int32)) u3
set_option maxRecDepth 20000 in
def fX11_fillsLeast (N : Nat)  (a0 : Nat) (p1 : Int32) (p2 : Int32) (u : SG) : Option (Unit × SG) := gX11_fillsLeast_2 N  N a0 p1 p2 (0 : Int32) u
set_option maxRecDepth 20000 in
set_option maxHeartbeats 4000000 in
theorem kX11_fillsLeast  (N : Nat)  (l : Launch) (D : va_G) (cT : Nat → ClassId) (z0 : Nat) (ks : Nat × Nat) (a0 : Nat) (p1 : Int32) (p2 : Int32) (u : SG) : Ct l D cT z0 ks yX11_fillsLeast cX11_fillsLeast 8 none 3 0 0 vU [.ref a0, .int p1, .int p2] u (fX11_fillsLeast N  a0 p1 p2 u) := by
  unfold fX11_fillsLeast
  refine ct_of (by decide +kernel) (Nat.le_of_ble_eq_true rfl) (fun p e R s m args below meth c hX => ?_)
  show JF _ True 8 0 0 _ 0 [(0, .ref a0), (1, .int p1), (2, .int p2)] [] u _
  refine jf_iconst (v := 0) hX dX11_fillsLeast_0 (by decide) ?_
  refine jf_istore_n (lv' := [(3, .int (0 : Int32)), (0, .ref a0), (1, .int p1), (2, .int p2)]) hX dX11_fillsLeast_1 rfl (by decide) rfl ?_
  refine jf_lv [1, 2, 3, 0] rfl ?_
  exact jgX11_fillsLeast_2 hX N  N a0 p1 p2 (0 : Int32) u
set_option maxRecDepth 20000 in
def gX11_nights_155 (N : Nat)  (rec129 : Nat → Int32 → Int32 → Int32 → Int32 → Int32 → Int32 → SG → Option (Int32 × SG)) : Nat → Nat → Int32 → Int32 → Int32 → Int32 → Int32 → Int32 → SG → Option (Int32 × SG)
  | 0, _, _, _, _, _, _, _, _ => none
  | n + 1, x0, x1, x2, x4, x5, x6, x7, u => if zK u x0 = 12 then cl (fX11_costBy N x0 x1 (x2 - x7) x5 x6 u) fun r1 u2 => (if zK u2 x0 = 12 then cl (fX11_leastOf N x0 (x2 - x7) x5 u2) fun r3 u4 => (if r1 = r3 then (rec129 x0 x1 x2 x4 x5 x6 (x7 + (1 : Int32)) u4)
  else ((gX11_nights_155 N rec129 n) x0 x1 x2 x4 x5 (x6 + (1 : Int32)) x7 u4)) else none) else none
set_option maxRecDepth 20000 in
set_option maxHeartbeats 4000000 in
theorem jgX11_nights_155 {rec129 : Nat → Int32 → Int32 → Int32 → Int32 → Int32 → Int32 → SG → Option (Int32 × SG)}  {X : XT} (hX : Cx X yX11_nights cX11_nights 8 (some .int) 4 0 0) (N : Nat) (hrec129 : ∀ (x0 : Nat) (x1 : Int32) (x2 : Int32) (x4 : Int32) (x5 : Int32) (x6 : Int32) (x7 : Int32)  (u : SG), JF X True 8 0 0 (jQ X vI 0 0) 129 [(0, .ref x0), (1, .int x1), (2, .int x2), (4, .int x4), (5, .int x5), (6, .int x6), (7, .int x7)] [] u (rec129 x0 x1 x2 x4 x5 x6 x7  u)) : ∀ (n : Nat) (x0 : Nat) (x1 : Int32) (x2 : Int32) (x4 : Int32) (x5 : Int32) (x6 : Int32) (x7 : Int32) (u : SG), JF X True 8 0 0 (jQ X vI 0 0) 155 [(0, .ref x0), (1, .int x1), (2, .int x2), (4, .int x4), (5, .int x5), (6, .int x6), (7, .int x7)] [] u (gX11_nights_155 N  rec129 n x0 x1 x2 x4 x5 x6 x7 u) := by
  intro n
  induction n with
  | zero => intros; intro r u9 h9; exact absurd h9 (by simp [gX11_nights_155])
  | succ n ih =>
    intro x0 x1 x2 x4 x5 x6 x7 u
    have hrec155 := ih
    rw [gX11_nights_155]
    refine jf_aload_n hX dX11_nights_155 0 rfl ?_
    refine jf_iload_n hX dX11_nights_156 1 rfl ?_
    refine jf_iload_n hX dX11_nights_157 2 rfl ?_
    refine jf_iload hX dX11_nights_158 6 rfl ?_
    refine jf_isub hX dX11_nights_160 ?_
    refine jf_iload hX dX11_nights_161 4 rfl ?_
    refine jf_iload hX dX11_nights_163 5 rfl ?_
    refine jf_callV (As := [.int x1, .int (x2 - x7), .int x5, .int x6]) (st := []) hX mo_X11_costBy wml_313 winst_314 wsel_315 11 ck_X11 rfl (fun l D cT z0 ks => kX11_costBy N l D cT z0 ks x0 x1 (x2 - x7) x5 x6 u) (by decide) (by decide) (by decide) (by decide) (Nat.le_of_ble_eq_true rfl) rfl rfl dX11_nights_165 (fun r1 u2 => ?_)
    refine jf_aload_n hX dX11_nights_168 0 rfl ?_
    refine jf_iload_n hX dX11_nights_169 2 rfl ?_
    refine jf_iload hX dX11_nights_170 6 rfl ?_
    refine jf_isub hX dX11_nights_172 ?_
    refine jf_iload hX dX11_nights_173 4 rfl ?_
    refine jf_callV (As := [.int (x2 - x7), .int x5]) (st := [.int r1]) hX mo_X11_leastOf wml_310 winst_311 wsel_312 11 ck_X11 rfl (fun l D cT z0 ks => kX11_leastOf N l D cT z0 ks x0 (x2 - x7) x5 u2) (by decide) (by decide) (by decide) (by decide) (Nat.le_of_ble_eq_true rfl) rfl rfl dX11_nights_175 (fun r3 u4 => ?_)
    refine jf_icmp_eq (tgt := 187) hX dX11_nights_178 (by decide) ?_ ?_
    · refine jf_iinc (v := 1) (lv' := [(7, .int (x7 + (1 : Int32))), (0, .ref x0), (1, .int x1), (2, .int x2), (4, .int x4), (5, .int x5), (6, .int x6)]) hX dX11_nights_187 6 rfl (by decide) (by decide) rfl ?_
      refine jf_goto (tgt := 129) hX dX11_nights_190 (by decide) ?_
      refine jf_lv [1, 2, 3, 4, 5, 6, 0] rfl ?_
      exact hrec129 x0 x1 x2 x4 x5 x6 (x7 + (1 : Int32)) u4
    · refine jf_iinc (v := 1) (lv' := [(6, .int (x6 + (1 : Int32))), (0, .ref x0), (1, .int x1), (2, .int x2), (4, .int x4), (5, .int x5), (7, .int x7)]) hX dX11_nights_181 5 rfl (by decide) (by decide) rfl ?_
      refine jf_goto (tgt := 155) hX dX11_nights_184 (by decide) ?_
      refine jf_lv [1, 2, 3, 4, 5, 0, 6] rfl ?_
      exact hrec155 x0 x1 x2 x4 x5 (x6 + (1 : Int32)) x7 u4
set_option maxRecDepth 20000 in
def gX11_nights_129 (N : Nat)   : Nat → Nat → Int32 → Int32 → Int32 → Int32 → Int32 → Int32 → SG → Option (Int32 × SG)
  | 0, _, _, _, _, _, _, _, _ => none
  | n + 1, x0, x1, x2, x4, x5, x6, x7, u => if x4 < x7 then (some (x6, u))
  else (if x7 = 0 then (bs (x5 - (0 : Int32)) fun v2 => (gX11_nights_155 N (gX11_nights_129 N  n) N x0 x1 x2 x4 v2 (0 : Int32) x7 u))
  else (bs (x5 - x6) fun v1 => (gX11_nights_155 N (gX11_nights_129 N  n) N x0 x1 x2 x4 v1 (0 : Int32) x7 u)))
set_option maxRecDepth 20000 in
set_option maxHeartbeats 4000000 in
theorem jgX11_nights_129   {X : XT} (hX : Cx X yX11_nights cX11_nights 8 (some .int) 4 0 0) (N : Nat)  : ∀ (n : Nat) (x0 : Nat) (x1 : Int32) (x2 : Int32) (x4 : Int32) (x5 : Int32) (x6 : Int32) (x7 : Int32) (u : SG), JF X True 8 0 0 (jQ X vI 0 0) 129 [(0, .ref x0), (1, .int x1), (2, .int x2), (4, .int x4), (5, .int x5), (6, .int x6), (7, .int x7)] [] u (gX11_nights_129 N   n x0 x1 x2 x4 x5 x6 x7 u) := by
  intro n
  induction n with
  | zero => intros; intro r u9 h9; exact absurd h9 (by simp [gX11_nights_129])
  | succ n ih =>
    intro x0 x1 x2 x4 x5 x6 x7 u
    have hrec129 := ih
    rw [gX11_nights_129]
    refine jf_iload hX dX11_nights_129 6 rfl ?_
    refine jf_iload hX dX11_nights_131 3 rfl ?_
    refine jf_icmp_gt (tgt := 193) hX dX11_nights_133 (by decide) ?_ ?_
    · refine jf_iload hX dX11_nights_193 5 rfl ?_
      exact jf_iret hX rfl (by decide) (by decide) dX11_nights_195
    · refine jf_iload hX dX11_nights_136 4 rfl ?_
      refine jf_iload hX dX11_nights_138 6 rfl ?_
      refine jf_if_ne (tgt := 147) hX dX11_nights_140 (by decide) ?_ ?_
      · refine jf_iload hX dX11_nights_147 5 rfl ?_
        refine jf_isub hX dX11_nights_149 ?_
        refine jf_nmI (fun v1 => ?_)
        refine jf_istore (lv' := [(5, .int v1), (0, .ref x0), (1, .int x1), (2, .int x2), (4, .int x4), (6, .int x6), (7, .int x7)]) hX dX11_nights_150 (by decide) rfl ?_
        refine jf_iconst (v := 0) hX dX11_nights_152 (by decide) ?_
        refine jf_istore (lv' := [(6, .int (0 : Int32)), (5, .int v1), (0, .ref x0), (1, .int x1), (2, .int x2), (4, .int x4), (7, .int x7)]) hX dX11_nights_153 (by decide) rfl ?_
        refine jf_lv [2, 3, 4, 5, 1, 0, 6] rfl ?_
        exact jgX11_nights_155 hX N hrec129 N x0 x1 x2 x4 v1 (0 : Int32) x7 u
      · refine jf_iconst (v := 0) hX dX11_nights_143 (by decide) ?_
        refine jf_goto (tgt := 149) hX dX11_nights_144 (by decide) ?_
        refine jf_isub hX dX11_nights_149 ?_
        refine jf_nmI (fun v2 => ?_)
        refine jf_istore (lv' := [(5, .int v2), (0, .ref x0), (1, .int x1), (2, .int x2), (4, .int x4), (6, .int x6), (7, .int x7)]) hX dX11_nights_150 (by decide) rfl ?_
        refine jf_iconst (v := 0) hX dX11_nights_152 (by decide) ?_
        refine jf_istore (lv' := [(6, .int (0 : Int32)), (5, .int v2), (0, .ref x0), (1, .int x1), (2, .int x2), (4, .int x4), (7, .int x7)]) hX dX11_nights_153 (by decide) rfl ?_
        refine jf_lv [2, 3, 4, 5, 1, 0, 6] rfl ?_
        exact jgX11_nights_155 hX N hrec129 N x0 x1 x2 x4 v2 (0 : Int32) x7 u
set_option maxRecDepth 20000 in
def fX11_nights (N : Nat)  (a0 : Nat) (p1 : Int32) (p2 : Int32) (p3 : Int32) (p4 : Int32) (u : SG) : Option (Int32 × SG) := if zK u a0 = 12 then cl (fX11_isPerson N a0 p1 u) fun r1 u2 => (if r1 = 0 then (some ((-3 : Int32), u2))
  else (cl (fX11_in N p2.toInt64 (1 : Int64) (8 : Int64) u2) fun r3 u4 => (if r3 = 0 then (some ((-3 : Int32), u4))
  else (cl (fX11_in N p3.toInt64 (0 : Int64) (99 : Int64) u4) fun r5 u6 => (if r5 = 0 then (some ((-3 : Int32), u6))
  else (cl (fX11_in N p4.toInt64 (-1 : Int64) (7 : Int64) u6) fun r7 u8 => (if r7 = 0 then (some ((-3 : Int32), u8))
  else (if zK u8 a0 = 12 then cl (fX11_personOf N a0 p1 (4 : Int32) u8) fun r9 u10 => (if zK u10 a0 = 12 then cl (fX11_personOf N a0 p1 (0 : Int32) u10) fun r11 u12 => (bs ((r9 + (p2 * r11)) - p3) fun v13 => (if zK u12 a0 = 12 then cl (fX11_fillsNight N a0 p1 u12) fun r14 u15 => (if zK u15 a0 = 12 then cl (fX11_fillsLeast N a0 p1 p2 u15) fun r16 u17 => (if (80 : Int32) < v13 then (some ((-2 : Int32), u17))
  else (if zK u17 a0 = 12 then cl (fX11_leastOf N a0 p2 v13 u17) fun r18 u19 => (if 0 ≤ r18 then (if p4 = (-1 : Int32) then (if zK u19 a0 = 12 then cl (fX11_leastOf N a0 p2 v13 u19) fun r20 u21 => (some (r20, u21)) else none)
  else (if p4 < p2 then (gX11_nights_129 N  N a0 p1 p2 p4 v13 (0 : Int32) (0 : Int32) u19)
  else (some ((-2 : Int32), u19))))
  else (some ((-2 : Int32), u19))) else none)) else none) else none)) else none) else none)))))))) else none
set_option maxRecDepth 20000 in
set_option maxHeartbeats 4000000 in
theorem kX11_nights  (N : Nat)  (l : Launch) (D : va_G) (cT : Nat → ClassId) (z0 : Nat) (ks : Nat × Nat) (a0 : Nat) (p1 : Int32) (p2 : Int32) (p3 : Int32) (p4 : Int32) (u : SG) : Ct l D cT z0 ks yX11_nights cX11_nights 8 (some .int) 4 0 0 vI [.ref a0, .int p1, .int p2, .int p3, .int p4] u (fX11_nights N  a0 p1 p2 p3 p4 u) := by
  unfold fX11_nights
  refine ct_of (by decide +kernel) (Nat.le_of_ble_eq_true rfl) (fun p e R s m args below meth c hX => ?_)
  show JF _ True 8 0 0 _ 0 [(0, .ref a0), (1, .int p1), (2, .int p2), (3, .int p3), (4, .int p4)] [] u _
  refine jf_aload_n hX dX11_nights_0 0 rfl ?_
  refine jf_iload_n hX dX11_nights_1 1 rfl ?_
  refine jf_callV (As := [.int p1]) (st := []) hX mo_X11_isPerson wml_210 winst_211 wsel_212 11 ck_X11 rfl (fun l D cT z0 ks => kX11_isPerson N l D cT z0 ks a0 p1 u) (by decide) (by decide) (by decide) (by decide) (Nat.le_of_ble_eq_true rfl) rfl rfl dX11_nights_2 (fun r1 u2 => ?_)
  refine jf_if_eq (tgt := 47) hX dX11_nights_5 (by decide) ?_ ?_
  · refine jf_bipush (v := -3) hX dX11_nights_47 (by decide) ?_
    exact jf_iret hX rfl (by decide) (by decide) dX11_nights_49
  · refine jf_iload_n hX dX11_nights_8 2 rfl ?_
    refine jf_i2l hX dX11_nights_9 ?_
    refine jf_lconst (v := 1) hX dX11_nights_10 (by decide) ?_
    refine jf_ldc2 (v := 8) hX dX11_nights_11 wconl_316 ?_
    refine jf_callS (As := [.long p2.toInt64, .long (1 : Int64), .long (8 : Int64)]) (st := []) hX mo_X11_in wml_68 wstat_69 rfl (fun l D cT z0 ks => kX11_in N l D cT z0 ks p2.toInt64 (1 : Int64) (8 : Int64) u2) (by decide) (by decide) (by decide) (by decide) (Nat.le_of_ble_eq_true rfl) rfl rfl dX11_nights_14 (fun r3 u4 => ?_)
    refine jf_if_eq (tgt := 47) hX dX11_nights_17 (by decide) ?_ ?_
    · refine jf_bipush (v := -3) hX dX11_nights_47 (by decide) ?_
      exact jf_iret hX rfl (by decide) (by decide) dX11_nights_49
    · refine jf_iload_n hX dX11_nights_20 3 rfl ?_
      refine jf_i2l hX dX11_nights_21 ?_
      refine jf_lconst (v := 0) hX dX11_nights_22 (by decide) ?_
      refine jf_ldc2 (v := 99) hX dX11_nights_23 wconl_317 ?_
      refine jf_callS (As := [.long p3.toInt64, .long (0 : Int64), .long (99 : Int64)]) (st := []) hX mo_X11_in wml_68 wstat_69 rfl (fun l D cT z0 ks => kX11_in N l D cT z0 ks p3.toInt64 (0 : Int64) (99 : Int64) u4) (by decide) (by decide) (by decide) (by decide) (Nat.le_of_ble_eq_true rfl) rfl rfl dX11_nights_26 (fun r5 u6 => ?_)
      refine jf_if_eq (tgt := 47) hX dX11_nights_29 (by decide) ?_ ?_
      · refine jf_bipush (v := -3) hX dX11_nights_47 (by decide) ?_
        exact jf_iret hX rfl (by decide) (by decide) dX11_nights_49
      · refine jf_iload hX dX11_nights_32 4 rfl ?_
        refine jf_i2l hX dX11_nights_34 ?_
        refine jf_ldc2 (v := -1) hX dX11_nights_35 wconl_318 ?_
        refine jf_ldc2 (v := 7) hX dX11_nights_38 wconl_319 ?_
        refine jf_callS (As := [.long p4.toInt64, .long (-1 : Int64), .long (7 : Int64)]) (st := []) hX mo_X11_in wml_68 wstat_69 rfl (fun l D cT z0 ks => kX11_in N l D cT z0 ks p4.toInt64 (-1 : Int64) (7 : Int64) u6) (by decide) (by decide) (by decide) (by decide) (Nat.le_of_ble_eq_true rfl) rfl rfl dX11_nights_41 (fun r7 u8 => ?_)
        refine jf_if_ne (tgt := 50) hX dX11_nights_44 (by decide) ?_ ?_
        · refine jf_aload_n hX dX11_nights_50 0 rfl ?_
          refine jf_iload_n hX dX11_nights_51 1 rfl ?_
          refine jf_iconst (v := 4) hX dX11_nights_52 (by decide) ?_
          refine jf_callV (As := [.int p1, .int (4 : Int32)]) (st := []) hX mo_X11_personOf wml_201 winst_202 wsel_203 11 ck_X11 rfl (fun l D cT z0 ks => kX11_personOf N l D cT z0 ks a0 p1 (4 : Int32) u8) (by decide) (by decide) (by decide) (by decide) (Nat.le_of_ble_eq_true rfl) rfl rfl dX11_nights_53 (fun r9 u10 => ?_)
          refine jf_iload_n hX dX11_nights_56 2 rfl ?_
          refine jf_aload_n hX dX11_nights_57 0 rfl ?_
          refine jf_iload_n hX dX11_nights_58 1 rfl ?_
          refine jf_iconst (v := 0) hX dX11_nights_59 (by decide) ?_
          refine jf_callV (As := [.int p1, .int (0 : Int32)]) (st := [.int p2, .int r9]) hX mo_X11_personOf wml_201 winst_202 wsel_203 11 ck_X11 rfl (fun l D cT z0 ks => kX11_personOf N l D cT z0 ks a0 p1 (0 : Int32) u10) (by decide) (by decide) (by decide) (by decide) (Nat.le_of_ble_eq_true rfl) rfl rfl dX11_nights_60 (fun r11 u12 => ?_)
          refine jf_imul hX dX11_nights_63 ?_
          refine jf_iadd hX dX11_nights_64 ?_
          refine jf_iload_n hX dX11_nights_65 3 rfl ?_
          refine jf_isub hX dX11_nights_66 ?_
          refine jf_nmI (fun v13 => ?_)
          refine jf_istore (lv' := [(5, .int v13), (0, .ref a0), (1, .int p1), (2, .int p2), (3, .int p3), (4, .int p4)]) hX dX11_nights_67 (by decide) rfl ?_
          refine jf_aload_n hX dX11_nights_69 1 rfl ?_
          refine jf_iload_n hX dX11_nights_70 2 rfl ?_
          refine jf_callV (As := [.int p1]) (st := []) hX mo_X11_fillsNight wml_320 winst_321 wsel_322 11 ck_X11 rfl (fun l D cT z0 ks => kX11_fillsNight N l D cT z0 ks a0 p1 u12) (by decide) (by decide) (by decide) (by decide) (Nat.le_of_ble_eq_true rfl) rfl rfl dX11_nights_71 (fun r14 u15 => ?_)
          refine jf_aload_n hX dX11_nights_74 1 rfl ?_
          refine jf_iload_n hX dX11_nights_75 2 rfl ?_
          refine jf_iload_n hX dX11_nights_76 3 rfl ?_
          refine jf_callV (As := [.int p1, .int p2]) (st := []) hX mo_X11_fillsLeast wml_323 winst_324 wsel_325 11 ck_X11 rfl (fun l D cT z0 ks => kX11_fillsLeast N l D cT z0 ks a0 p1 p2 u15) (by decide) (by decide) (by decide) (by decide) (Nat.le_of_ble_eq_true rfl) rfl rfl dX11_nights_77 (fun r16 u17 => ?_)
          refine jf_iload hX dX11_nights_80 0 rfl ?_
          refine jf_bipush (v := 80) hX dX11_nights_82 (by decide) ?_
          refine jf_icmp_gt (tgt := 97) hX dX11_nights_84 (by decide) ?_ ?_
          · refine jf_bipush (v := -2) hX dX11_nights_97 (by decide) ?_
            exact jf_iret hX rfl (by decide) (by decide) dX11_nights_99
          · refine jf_aload_n hX dX11_nights_87 1 rfl ?_
            refine jf_iload_n hX dX11_nights_88 3 rfl ?_
            refine jf_iload hX dX11_nights_89 0 rfl ?_
            refine jf_callV (As := [.int p2, .int v13]) (st := []) hX mo_X11_leastOf wml_310 winst_311 wsel_312 11 ck_X11 rfl (fun l D cT z0 ks => kX11_leastOf N l D cT z0 ks a0 p2 v13 u17) (by decide) (by decide) (by decide) (by decide) (Nat.le_of_ble_eq_true rfl) rfl rfl dX11_nights_91 (fun r18 u19 => ?_)
            refine jf_if_ge (tgt := 100) hX dX11_nights_94 (by decide) ?_ ?_
            · refine jf_iload hX dX11_nights_100 5 rfl ?_
              refine jf_iconst (v := -1) hX dX11_nights_102 (by decide) ?_
              refine jf_icmp_ne (tgt := 114) hX dX11_nights_103 (by decide) ?_ ?_
              · refine jf_iload hX dX11_nights_114 5 rfl ?_
                refine jf_iload_n hX dX11_nights_116 3 rfl ?_
                refine jf_icmp_lt (tgt := 123) hX dX11_nights_117 (by decide) ?_ ?_
                · refine jf_iconst (v := 0) hX dX11_nights_123 (by decide) ?_
                  refine jf_istore (lv' := [(6, .int (0 : Int32)), (5, .int v13), (0, .ref a0), (1, .int p1), (2, .int p2), (3, .int p3), (4, .int p4)]) hX dX11_nights_124 (by decide) rfl ?_
                  refine jf_iconst (v := 0) hX dX11_nights_126 (by decide) ?_
                  refine jf_istore (lv' := [(7, .int (0 : Int32)), (6, .int (0 : Int32)), (5, .int v13), (0, .ref a0), (1, .int p1), (2, .int p2), (3, .int p3), (4, .int p4)]) hX dX11_nights_127 (by decide) rfl ?_
                  refine jf_lv [3, 4, 5, 7, 2, 1, 0] rfl ?_
                  exact jgX11_nights_129 hX N  N a0 p1 p2 p4 v13 (0 : Int32) (0 : Int32) u19
                · refine jf_bipush (v := -2) hX dX11_nights_120 (by decide) ?_
                  exact jf_iret hX rfl (by decide) (by decide) dX11_nights_122
              · refine jf_aload_n hX dX11_nights_106 1 rfl ?_
                refine jf_iload_n hX dX11_nights_107 3 rfl ?_
                refine jf_iload hX dX11_nights_108 0 rfl ?_
                refine jf_callV (As := [.int p2, .int v13]) (st := []) hX mo_X11_leastOf wml_310 winst_311 wsel_312 11 ck_X11 rfl (fun l D cT z0 ks => kX11_leastOf N l D cT z0 ks a0 p2 v13 u19) (by decide) (by decide) (by decide) (by decide) (Nat.le_of_ble_eq_true rfl) rfl rfl dX11_nights_110 (fun r20 u21 => ?_)
                exact jf_iret hX rfl (by decide) (by decide) dX11_nights_113
            · refine jf_bipush (v := -2) hX dX11_nights_97 (by decide) ?_
              exact jf_iret hX rfl (by decide) (by decide) dX11_nights_99
        · refine jf_bipush (v := -3) hX dX11_nights_47 (by decide) ?_
          exact jf_iret hX rfl (by decide) (by decide) dX11_nights_49
set_option maxRecDepth 20000 in
def gX11_turned_49 (N : Nat)   : Nat → Nat → Int32 → Int32 → Int32 → Int32 → Int32 → SG → Option (Int32 × SG)
  | 0, _, _, _, _, _, _, _ => none
  | n + 1, x0, x1, x2, x3, x4, x5, u => if x2 ≤ x5 then (if zK u x0 = 12 then (Option.bind (zR u x0 23) fun q1 => (if zK u q1 = 22 then if x1 < 0 ∨ zN u q1 ≤ x1.toNatClampNeg then none else (if zK u x0 = 12 then cl (fX11_personOf N x0 x1 (5 : Int32) u) fun r2 u3 => (bs ((zI u q1 x1.toNatClampNeg) - (r2 - x4)) fun v4 => (if zK u3 x0 = 12 then cl (fX11_laysBack N x0 u3) fun r5 u6 => (cl (fX11_fraction N v4 (60 : Int32) x3 u6) fun r7 u8 => (some (r7, u8))) else none)) else none) else none)) else none)
  else (if zK u x0 = 12 then cl (fX11_passes N x0 u) fun r9 u10 => ((gX11_turned_49 N  n) x0 x1 x2 x3 x4 (x5 + (1 : Int32)) u10) else none)
set_option maxRecDepth 20000 in
set_option maxHeartbeats 4000000 in
theorem jgX11_turned_49   {X : XT} (hX : Cx X yX11_turned cX11_turned 6 (some .int) 7 0 0) (N : Nat)  : ∀ (n : Nat) (x0 : Nat) (x1 : Int32) (x2 : Int32) (x3 : Int32) (x4 : Int32) (x5 : Int32) (u : SG), JF X True 6 0 0 (jQ X vI 0 0) 49 [(0, .ref x0), (1, .int x1), (2, .int x2), (3, .int x3), (4, .int x4), (5, .int x5)] [] u (gX11_turned_49 N   n x0 x1 x2 x3 x4 x5 u) := by
  intro n
  induction n with
  | zero => intros; intro r u9 h9; exact absurd h9 (by simp [gX11_turned_49])
  | succ n ih =>
    intro x0 x1 x2 x3 x4 x5 u
    have hrec49 := ih
    rw [gX11_turned_49]
    refine jf_iload hX dX11_turned_49 5 rfl ?_
    refine jf_iload_n hX dX11_turned_51 2 rfl ?_
    refine jf_icmp_ge (tgt := 66) hX dX11_turned_52 (by decide) ?_ ?_
    · refine jf_aload_n hX dX11_turned_66 0 rfl ?_
      refine jf_getR hX ck_X11 23 wfl_33 (by decide) rfl dX11_turned_67 ?_
      refine jf_nn (fun q1 => ?_)
      refine jf_iload_n hX dX11_turned_70 1 rfl ?_
      refine jf_iald hX dX11_turned_71 ?_
      refine jf_aload_n hX dX11_turned_72 0 rfl ?_
      refine jf_iload_n hX dX11_turned_73 1 rfl ?_
      refine jf_iconst (v := 5) hX dX11_turned_74 (by decide) ?_
      refine jf_callV (As := [.int x1, .int (5 : Int32)]) (st := [.int (zI u q1 x1.toNatClampNeg)]) hX mo_X11_personOf wml_201 winst_202 wsel_203 11 ck_X11 rfl (fun l D cT z0 ks => kX11_personOf N l D cT z0 ks x0 x1 (5 : Int32) u) (by decide) (by decide) (by decide) (by decide) (Nat.le_of_ble_eq_true rfl) rfl rfl dX11_turned_75 (fun r2 u3 => ?_)
      refine jf_iload hX dX11_turned_78 4 rfl ?_
      refine jf_isub hX dX11_turned_80 ?_
      refine jf_isub hX dX11_turned_81 ?_
      refine jf_nmI (fun v4 => ?_)
      refine jf_istore (lv' := [(5, .int v4), (0, .ref x0), (1, .int x1), (2, .int x2), (3, .int x3), (4, .int x4)]) hX dX11_turned_82 (by decide) rfl ?_
      refine jf_aload_n hX dX11_turned_84 1 rfl ?_
      refine jf_callV (As := []) (st := []) hX mo_X11_laysBack wml_270 winst_271 wsel_272 11 ck_X11 rfl (fun l D cT z0 ks => kX11_laysBack N l D cT z0 ks x0 u3) (by decide) (by decide) (by decide) (by decide) (Nat.le_of_ble_eq_true rfl) rfl rfl dX11_turned_85 (fun r5 u6 => ?_)
      refine jf_iload hX dX11_turned_88 0 rfl ?_
      refine jf_bipush (v := 60) hX dX11_turned_90 (by decide) ?_
      refine jf_iload_n hX dX11_turned_92 4 rfl ?_
      refine jf_callS (As := [.int v4, .int (60 : Int32), .int x3]) (st := []) hX mo_X11_fraction wml_264 wstat_265 rfl (fun l D cT z0 ks => kX11_fraction N l D cT z0 ks v4 (60 : Int32) x3 u6) (by decide) (by decide) (by decide) (by decide) (Nat.le_of_ble_eq_true rfl) rfl rfl dX11_turned_93 (fun r7 u8 => ?_)
      exact jf_iret hX rfl (by decide) (by decide) dX11_turned_96
    · refine jf_aload_n hX dX11_turned_55 0 rfl ?_
      refine jf_callV (As := []) (st := []) hX mo_X11_passes wml_259 winst_260 wsel_261 11 ck_X11 rfl (fun l D cT z0 ks => kX11_passes N l D cT z0 ks x0 u) (by decide) (by decide) (by decide) (by decide) (Nat.le_of_ble_eq_true rfl) rfl rfl dX11_turned_56 (fun r9 u10 => ?_)
      refine jf_pop hX dX11_turned_59 rfl ?_
      refine jf_iinc (v := 1) (lv' := [(5, .int (x5 + (1 : Int32))), (0, .ref x0), (1, .int x1), (2, .int x2), (3, .int x3), (4, .int x4)]) hX dX11_turned_60 5 rfl (by decide) (by decide) rfl ?_
      refine jf_goto (tgt := 49) hX dX11_turned_63 (by decide) ?_
      refine jf_lv [1, 2, 3, 4, 5, 0] rfl ?_
      exact hrec49 x0 x1 x2 x3 x4 (x5 + (1 : Int32)) u10
set_option maxRecDepth 20000 in
def fX11_turned (N : Nat)  (a0 : Nat) (p1 : Int32) (p2 : Int32) (p3 : Int32) (u : SG) : Option (Int32 × SG) := if zK u a0 = 12 then cl (fX11_isPerson N a0 p1 u) fun r1 u2 => (if r1 = 0 then (some ((-1000000 : Int32), u2))
  else (cl (fX11_in N p2.toInt64 (1 : Int64) (60 : Int64) u2) fun r3 u4 => (if r3 = 0 then (some ((-1000000 : Int32), u4))
  else (cl (fX11_in N p3.toInt64 (0 : Int64) (1 : Int64) u4) fun r5 u6 => (if r5 = 0 then (some ((-1000000 : Int32), u6))
  else (if zK u6 a0 = 12 then cl (fX11_personOf N a0 p1 (5 : Int32) u6) fun r7 u8 => (if zK u8 a0 = 12 then cl (fX11_keeps N a0 u8) fun r9 u10 => (gX11_turned_49 N  N a0 p1 p2 p3 r7 (0 : Int32) u10) else none) else none)))))) else none
set_option maxRecDepth 20000 in
set_option maxHeartbeats 4000000 in
theorem kX11_turned  (N : Nat)  (l : Launch) (D : va_G) (cT : Nat → ClassId) (z0 : Nat) (ks : Nat × Nat) (a0 : Nat) (p1 : Int32) (p2 : Int32) (p3 : Int32) (u : SG) : Ct l D cT z0 ks yX11_turned cX11_turned 6 (some .int) 7 0 0 vI [.ref a0, .int p1, .int p2, .int p3] u (fX11_turned N  a0 p1 p2 p3 u) := by
  unfold fX11_turned
  refine ct_of (by decide +kernel) (Nat.le_of_ble_eq_true rfl) (fun p e R s m args below meth c hX => ?_)
  show JF _ True 6 0 0 _ 0 [(0, .ref a0), (1, .int p1), (2, .int p2), (3, .int p3)] [] u _
  refine jf_aload_n hX dX11_turned_0 0 rfl ?_
  refine jf_iload_n hX dX11_turned_1 1 rfl ?_
  refine jf_callV (As := [.int p1]) (st := []) hX mo_X11_isPerson wml_210 winst_211 wsel_212 11 ck_X11 rfl (fun l D cT z0 ks => kX11_isPerson N l D cT z0 ks a0 p1 u) (by decide) (by decide) (by decide) (by decide) (Nat.le_of_ble_eq_true rfl) rfl rfl dX11_turned_2 (fun r1 u2 => ?_)
  refine jf_if_eq (tgt := 30) hX dX11_turned_5 (by decide) ?_ ?_
  · refine jf_ldcw (v := -1000000) hX dX11_turned_30 wcon_326 ?_
    exact jf_iret hX rfl (by decide) (by decide) dX11_turned_33
  · refine jf_iload_n hX dX11_turned_8 2 rfl ?_
    refine jf_i2l hX dX11_turned_9 ?_
    refine jf_lconst (v := 1) hX dX11_turned_10 (by decide) ?_
    refine jf_ldc2 (v := 60) hX dX11_turned_11 wconl_327 ?_
    refine jf_callS (As := [.long p2.toInt64, .long (1 : Int64), .long (60 : Int64)]) (st := []) hX mo_X11_in wml_68 wstat_69 rfl (fun l D cT z0 ks => kX11_in N l D cT z0 ks p2.toInt64 (1 : Int64) (60 : Int64) u2) (by decide) (by decide) (by decide) (by decide) (Nat.le_of_ble_eq_true rfl) rfl rfl dX11_turned_14 (fun r3 u4 => ?_)
    refine jf_if_eq (tgt := 30) hX dX11_turned_17 (by decide) ?_ ?_
    · refine jf_ldcw (v := -1000000) hX dX11_turned_30 wcon_326 ?_
      exact jf_iret hX rfl (by decide) (by decide) dX11_turned_33
    · refine jf_iload_n hX dX11_turned_20 3 rfl ?_
      refine jf_i2l hX dX11_turned_21 ?_
      refine jf_lconst (v := 0) hX dX11_turned_22 (by decide) ?_
      refine jf_lconst (v := 1) hX dX11_turned_23 (by decide) ?_
      refine jf_callS (As := [.long p3.toInt64, .long (0 : Int64), .long (1 : Int64)]) (st := []) hX mo_X11_in wml_68 wstat_69 rfl (fun l D cT z0 ks => kX11_in N l D cT z0 ks p3.toInt64 (0 : Int64) (1 : Int64) u4) (by decide) (by decide) (by decide) (by decide) (Nat.le_of_ble_eq_true rfl) rfl rfl dX11_turned_24 (fun r5 u6 => ?_)
      refine jf_if_ne (tgt := 34) hX dX11_turned_27 (by decide) ?_ ?_
      · refine jf_aload_n hX dX11_turned_34 0 rfl ?_
        refine jf_iload_n hX dX11_turned_35 1 rfl ?_
        refine jf_iconst (v := 5) hX dX11_turned_36 (by decide) ?_
        refine jf_callV (As := [.int p1, .int (5 : Int32)]) (st := []) hX mo_X11_personOf wml_201 winst_202 wsel_203 11 ck_X11 rfl (fun l D cT z0 ks => kX11_personOf N l D cT z0 ks a0 p1 (5 : Int32) u6) (by decide) (by decide) (by decide) (by decide) (Nat.le_of_ble_eq_true rfl) rfl rfl dX11_turned_37 (fun r7 u8 => ?_)
        refine jf_istore (lv' := [(4, .int r7), (0, .ref a0), (1, .int p1), (2, .int p2), (3, .int p3)]) hX dX11_turned_40 (by decide) rfl ?_
        refine jf_aload_n hX dX11_turned_42 1 rfl ?_
        refine jf_callV (As := []) (st := []) hX mo_X11_keeps wml_267 winst_268 wsel_269 11 ck_X11 rfl (fun l D cT z0 ks => kX11_keeps N l D cT z0 ks a0 u8) (by decide) (by decide) (by decide) (by decide) (Nat.le_of_ble_eq_true rfl) rfl rfl dX11_turned_43 (fun r9 u10 => ?_)
        refine jf_iconst (v := 0) hX dX11_turned_46 (by decide) ?_
        refine jf_istore (lv' := [(5, .int (0 : Int32)), (4, .int r7), (0, .ref a0), (1, .int p1), (2, .int p2), (3, .int p3)]) hX dX11_turned_47 (by decide) rfl ?_
        refine jf_lv [2, 3, 4, 5, 1, 0] rfl ?_
        exact jgX11_turned_49 hX N  N a0 p1 p2 p3 r7 (0 : Int32) u10
      · refine jf_ldcw (v := -1000000) hX dX11_turned_30 wcon_326 ?_
        exact jf_iret hX rfl (by decide) (by decide) dX11_turned_33
set_option maxRecDepth 20000 in
def gX11_owedHeld_55 (N : Nat)   (x0 : Nat) (s0 : Int32) (u : SG) : Option (Int32 × SG) := if zK u x0 = 12 then cl (fX11_laysBack N x0 u) fun r1 u2 => (some (s0, u2)) else none
set_option maxRecDepth 20000 in
set_option maxHeartbeats 4000000 in
theorem jgX11_owedHeld_55   {X : XT} (hX : Cx X yX11_owedHeld cX11_owedHeld 6 (some .int) 7 0 0) (N : Nat)  (x0 : Nat) (s0 : Int32) (u : SG) : JF X True 6 0 0 (jQ X vI 0 0) 55 [(0, .ref x0)] [.int s0] u (gX11_owedHeld_55 N   x0 s0 u) := by
  unfold gX11_owedHeld_55
  refine jf_istore (lv' := [(5, .int s0), (0, .ref x0)]) hX dX11_owedHeld_55 (by decide) rfl ?_
  refine jf_aload_n hX dX11_owedHeld_57 1 rfl ?_
  refine jf_callV (As := []) (st := []) hX mo_X11_laysBack wml_270 winst_271 wsel_272 11 ck_X11 rfl (fun l D cT z0 ks => kX11_laysBack N l D cT z0 ks x0 u) (by decide) (by decide) (by decide) (by decide) (Nat.le_of_ble_eq_true rfl) rfl rfl dX11_owedHeld_58 (fun r1 u2 => ?_)
  refine jf_iload hX dX11_owedHeld_61 0 rfl ?_
  exact jf_iret hX rfl (by decide) (by decide) dX11_owedHeld_63
set_option maxRecDepth 20000 in
def gX11_owedHeld_17 (N : Nat)   : Nat → Nat → Int32 → Int32 → Int32 → SG → Option (Int32 × SG)
  | 0, _, _, _, _, _ => none
  | n + 1, x0, x3, x4, x5, u => if x4 ≤ x5 then (if 0 ≤ x3 then (if zK u x0 = 12 then cl (fX11_personOf N x0 x3 (5 : Int32) u) fun r1 u2 => (gX11_owedHeld_55 N  x0 r1 u2) else none)
  else (if zK u x0 = 12 then (Option.bind (zR u x0 20) fun q3 => (if zK u q3 = 22 then if zN u q3 ≤ 7 then none else (gX11_owedHeld_55 N  x0 (zI u q3 7) u) else none)) else none))
  else (if zK u x0 = 12 then cl (fX11_passes N x0 u) fun r4 u5 => ((gX11_owedHeld_17 N  n) x0 x3 x4 (x5 + (1 : Int32)) u5) else none)
set_option maxRecDepth 20000 in
set_option maxHeartbeats 4000000 in
theorem jgX11_owedHeld_17   {X : XT} (hX : Cx X yX11_owedHeld cX11_owedHeld 6 (some .int) 7 0 0) (N : Nat)  : ∀ (n : Nat) (x0 : Nat) (x3 : Int32) (x4 : Int32) (x5 : Int32) (u : SG), JF X True 6 0 0 (jQ X vI 0 0) 17 [(0, .ref x0), (3, .int x3), (4, .int x4), (5, .int x5)] [] u (gX11_owedHeld_17 N   n x0 x3 x4 x5 u) := by
  intro n
  induction n with
  | zero => intros; intro r u9 h9; exact absurd h9 (by simp [gX11_owedHeld_17])
  | succ n ih =>
    intro x0 x3 x4 x5 u
    have hrec17 := ih
    rw [gX11_owedHeld_17]
    refine jf_iload hX dX11_owedHeld_17 3 rfl ?_
    refine jf_iload hX dX11_owedHeld_19 2 rfl ?_
    refine jf_icmp_ge (tgt := 35) hX dX11_owedHeld_21 (by decide) ?_ ?_
    · refine jf_iload_n hX dX11_owedHeld_35 1 rfl ?_
      refine jf_if_ge (tgt := 49) hX dX11_owedHeld_36 (by decide) ?_ ?_
      · refine jf_aload_n hX dX11_owedHeld_49 0 rfl ?_
        refine jf_iload_n hX dX11_owedHeld_50 1 rfl ?_
        refine jf_iconst (v := 5) hX dX11_owedHeld_51 (by decide) ?_
        refine jf_callV (As := [.int x3, .int (5 : Int32)]) (st := []) hX mo_X11_personOf wml_201 winst_202 wsel_203 11 ck_X11 rfl (fun l D cT z0 ks => kX11_personOf N l D cT z0 ks x0 x3 (5 : Int32) u) (by decide) (by decide) (by decide) (by decide) (Nat.le_of_ble_eq_true rfl) rfl rfl dX11_owedHeld_52 (fun r1 u2 => ?_)
        refine jf_lv [0] rfl ?_
        exact jgX11_owedHeld_55 hX N  x0 r1 u2
      · refine jf_aload_n hX dX11_owedHeld_39 0 rfl ?_
        refine jf_getR hX ck_X11 20 wfl_31 (by decide) rfl dX11_owedHeld_40 ?_
        refine jf_nn (fun q3 => ?_)
        refine jf_bipush (v := 7) hX dX11_owedHeld_43 (by decide) ?_
        refine jf_ialdc 7 hX (by decide) (by decide) dX11_owedHeld_45 ?_
        refine jf_goto (tgt := 55) hX dX11_owedHeld_46 (by decide) ?_
        refine jf_lv [0] rfl ?_
        exact jgX11_owedHeld_55 hX N  x0 (zI u q3 7) u
    · refine jf_aload_n hX dX11_owedHeld_24 0 rfl ?_
      refine jf_callV (As := []) (st := []) hX mo_X11_passes wml_259 winst_260 wsel_261 11 ck_X11 rfl (fun l D cT z0 ks => kX11_passes N l D cT z0 ks x0 u) (by decide) (by decide) (by decide) (by decide) (Nat.le_of_ble_eq_true rfl) rfl rfl dX11_owedHeld_25 (fun r4 u5 => ?_)
      refine jf_pop hX dX11_owedHeld_28 rfl ?_
      refine jf_iinc (v := 1) (lv' := [(5, .int (x5 + (1 : Int32))), (0, .ref x0), (3, .int x3), (4, .int x4)]) hX dX11_owedHeld_29 3 rfl (by decide) (by decide) rfl ?_
      refine jf_goto (tgt := 17) hX dX11_owedHeld_32 (by decide) ?_
      refine jf_lv [1, 2, 3, 0] rfl ?_
      exact hrec17 x0 x3 x4 (x5 + (1 : Int32)) u5
set_option maxRecDepth 20000 in
def fX11_owedHeld (N : Nat)  (a0 : Nat) (p1 : Int32) (p2 : Int32) (p3 : Int32) (p4 : Int32) (u : SG) : Option (Int32 × SG) := if zK u a0 = 12 then cl (fX11_keeps N a0 u) fun r1 u2 => (if zK u2 a0 = 12 then (Option.bind (zR u2 a0 20) fun q3 => (if zK u2 q3 = 22 then if ((40 : Int32) + p1) < 0 ∨ zN u2 q3 ≤ ((40 : Int32) + p1).toNatClampNeg then none else bs (sI u2 q3 ((40 : Int32) + p1).toNatClampNeg p2) fun u4 => (gX11_owedHeld_17 N  N a0 p3 p4 (0 : Int32) u4) else none)) else none) else none
set_option maxRecDepth 20000 in
set_option maxHeartbeats 4000000 in
theorem kX11_owedHeld  (N : Nat)  (l : Launch) (D : va_G) (cT : Nat → ClassId) (z0 : Nat) (ks : Nat × Nat) (a0 : Nat) (p1 : Int32) (p2 : Int32) (p3 : Int32) (p4 : Int32) (u : SG) : Ct l D cT z0 ks yX11_owedHeld cX11_owedHeld 6 (some .int) 7 0 0 vI [.ref a0, .int p1, .int p2, .int p3, .int p4] u (fX11_owedHeld N  a0 p1 p2 p3 p4 u) := by
  unfold fX11_owedHeld
  refine ct_of (by decide +kernel) (Nat.le_of_ble_eq_true rfl) (fun p e R s m args below meth c hX => ?_)
  show JF _ True 6 0 0 _ 0 [(0, .ref a0), (1, .int p1), (2, .int p2), (3, .int p3), (4, .int p4)] [] u _
  refine jf_aload_n hX dX11_owedHeld_0 0 rfl ?_
  refine jf_callV (As := []) (st := []) hX mo_X11_keeps wml_267 winst_268 wsel_269 11 ck_X11 rfl (fun l D cT z0 ks => kX11_keeps N l D cT z0 ks a0 u) (by decide) (by decide) (by decide) (by decide) (Nat.le_of_ble_eq_true rfl) rfl rfl dX11_owedHeld_1 (fun r1 u2 => ?_)
  refine jf_aload_n hX dX11_owedHeld_4 0 rfl ?_
  refine jf_getR hX ck_X11 20 wfl_31 (by decide) rfl dX11_owedHeld_5 ?_
  refine jf_nn (fun q3 => ?_)
  refine jf_bipush (v := 40) hX dX11_owedHeld_8 (by decide) ?_
  refine jf_iload_n hX dX11_owedHeld_10 1 rfl ?_
  refine jf_iadd hX dX11_owedHeld_11 ?_
  refine jf_iload_n hX dX11_owedHeld_12 2 rfl ?_
  refine jf_iast hX trivial dX11_owedHeld_13 (fun u4 => ?_)
  refine jf_iconst (v := 0) hX dX11_owedHeld_14 (by decide) ?_
  refine jf_istore (lv' := [(5, .int (0 : Int32)), (0, .ref a0), (1, .int p1), (2, .int p2), (3, .int p3), (4, .int p4)]) hX dX11_owedHeld_15 (by decide) rfl ?_
  refine jf_lv [1, 4, 5, 0] rfl ?_
  exact jgX11_owedHeld_17 hX N  N a0 p3 p4 (0 : Int32) u4
set_option maxRecDepth 20000 in
def gX11_spite_21 (N : Nat)   (x0 : Nat) (x1 : Int32) (x2 : Int32) (x3 : Int32) (x4 : Int32) (u : SG) : Option (Int32 × SG) := cl (fX11_in N x3.toInt64 (1 : Int64) (60 : Int64) u) fun r1 u2 => (if r1 = 0 then (some ((-1000000 : Int32), u2))
  else (cl (fX11_in N x4.toInt64 (0 : Int64) (1 : Int64) u2) fun r3 u4 => (if r3 = 0 then (some ((-1000000 : Int32), u4))
  else (if zK u4 x0 = 12 then cl (fX11_owedHeld N x0 x1 (1 : Int32) x2 x3 u4) fun r5 u6 => (if zK u6 x0 = 12 then cl (fX11_owedHeld N x0 x1 (2 : Int32) x2 x3 u6) fun r7 u8 => (cl (fX11_fraction N (r5 - r7) (60 : Int32) x4 u8) fun r9 u10 => (some (r9, u10))) else none) else none))))
set_option maxRecDepth 20000 in
set_option maxHeartbeats 4000000 in
theorem jgX11_spite_21   {X : XT} (hX : Cx X yX11_spite cX11_spite 5 (some .int) 8 0 0) (N : Nat)  (x0 : Nat) (x1 : Int32) (x2 : Int32) (x3 : Int32) (x4 : Int32) (u : SG) : JF X True 5 0 0 (jQ X vI 0 0) 21 [(0, .ref x0), (1, .int x1), (2, .int x2), (3, .int x3), (4, .int x4)] [] u (gX11_spite_21 N   x0 x1 x2 x3 x4 u) := by
  unfold gX11_spite_21
  refine jf_iload_n hX dX11_spite_21 3 rfl ?_
  refine jf_i2l hX dX11_spite_22 ?_
  refine jf_lconst (v := 1) hX dX11_spite_23 (by decide) ?_
  refine jf_ldc2 (v := 60) hX dX11_spite_24 wconl_327 ?_
  refine jf_callS (As := [.long x3.toInt64, .long (1 : Int64), .long (60 : Int64)]) (st := []) hX mo_X11_in wml_68 wstat_69 rfl (fun l D cT z0 ks => kX11_in N l D cT z0 ks x3.toInt64 (1 : Int64) (60 : Int64) u) (by decide) (by decide) (by decide) (by decide) (Nat.le_of_ble_eq_true rfl) rfl rfl dX11_spite_27 (fun r1 u2 => ?_)
  refine jf_if_eq (tgt := 44) hX dX11_spite_30 (by decide) ?_ ?_
  · refine jf_ldcw (v := -1000000) hX dX11_spite_44 wcon_326 ?_
    exact jf_iret hX rfl (by decide) (by decide) dX11_spite_47
  · refine jf_iload hX dX11_spite_33 4 rfl ?_
    refine jf_i2l hX dX11_spite_35 ?_
    refine jf_lconst (v := 0) hX dX11_spite_36 (by decide) ?_
    refine jf_lconst (v := 1) hX dX11_spite_37 (by decide) ?_
    refine jf_callS (As := [.long x4.toInt64, .long (0 : Int64), .long (1 : Int64)]) (st := []) hX mo_X11_in wml_68 wstat_69 rfl (fun l D cT z0 ks => kX11_in N l D cT z0 ks x4.toInt64 (0 : Int64) (1 : Int64) u2) (by decide) (by decide) (by decide) (by decide) (Nat.le_of_ble_eq_true rfl) rfl rfl dX11_spite_38 (fun r3 u4 => ?_)
    refine jf_if_ne (tgt := 48) hX dX11_spite_41 (by decide) ?_ ?_
    · refine jf_aload_n hX dX11_spite_48 0 rfl ?_
      refine jf_iload_n hX dX11_spite_49 1 rfl ?_
      refine jf_iconst (v := 1) hX dX11_spite_50 (by decide) ?_
      refine jf_iload_n hX dX11_spite_51 2 rfl ?_
      refine jf_iload_n hX dX11_spite_52 3 rfl ?_
      refine jf_callV (As := [.int x1, .int (1 : Int32), .int x2, .int x3]) (st := []) hX mo_X11_owedHeld wml_328 winst_329 wsel_330 11 ck_X11 rfl (fun l D cT z0 ks => kX11_owedHeld N l D cT z0 ks x0 x1 (1 : Int32) x2 x3 u4) (by decide) (by decide) (by decide) (by decide) (Nat.le_of_ble_eq_true rfl) rfl rfl dX11_spite_53 (fun r5 u6 => ?_)
      refine jf_aload_n hX dX11_spite_56 0 rfl ?_
      refine jf_iload_n hX dX11_spite_57 1 rfl ?_
      refine jf_iconst (v := 2) hX dX11_spite_58 (by decide) ?_
      refine jf_iload_n hX dX11_spite_59 2 rfl ?_
      refine jf_iload_n hX dX11_spite_60 3 rfl ?_
      refine jf_callV (As := [.int x1, .int (2 : Int32), .int x2, .int x3]) (st := [.int r5]) hX mo_X11_owedHeld wml_328 winst_329 wsel_330 11 ck_X11 rfl (fun l D cT z0 ks => kX11_owedHeld N l D cT z0 ks x0 x1 (2 : Int32) x2 x3 u6) (by decide) (by decide) (by decide) (by decide) (Nat.le_of_ble_eq_true rfl) rfl rfl dX11_spite_61 (fun r7 u8 => ?_)
      refine jf_isub hX dX11_spite_64 ?_
      refine jf_bipush (v := 60) hX dX11_spite_65 (by decide) ?_
      refine jf_iload hX dX11_spite_67 4 rfl ?_
      refine jf_callS (As := [.int (r5 - r7), .int (60 : Int32), .int x4]) (st := []) hX mo_X11_fraction wml_264 wstat_265 rfl (fun l D cT z0 ks => kX11_fraction N l D cT z0 ks (r5 - r7) (60 : Int32) x4 u8) (by decide) (by decide) (by decide) (by decide) (Nat.le_of_ble_eq_true rfl) rfl rfl dX11_spite_69 (fun r9 u10 => ?_)
      exact jf_iret hX rfl (by decide) (by decide) dX11_spite_72
    · refine jf_ldcw (v := -1000000) hX dX11_spite_44 wcon_326 ?_
      exact jf_iret hX rfl (by decide) (by decide) dX11_spite_47
set_option maxRecDepth 20000 in
def fX11_spite (N : Nat)  (a0 : Nat) (p1 : Int32) (p2 : Int32) (p3 : Int32) (p4 : Int32) (u : SG) : Option (Int32 × SG) := if zK u a0 = 12 then cl (fX11_isLamp N a0 p1 u) fun r1 u2 => (if r1 = 0 then (some ((-1000000 : Int32), u2))
  else (if p2 = (-1 : Int32) then (gX11_spite_21 N  a0 p1 p2 p3 p4 u2)
  else (if zK u2 a0 = 12 then cl (fX11_isPerson N a0 p2 u2) fun r3 u4 => (if r3 = 0 then (some ((-1000000 : Int32), u4))
  else (gX11_spite_21 N  a0 p1 p2 p3 p4 u4)) else none))) else none
set_option maxRecDepth 20000 in
set_option maxHeartbeats 4000000 in
theorem kX11_spite  (N : Nat)  (l : Launch) (D : va_G) (cT : Nat → ClassId) (z0 : Nat) (ks : Nat × Nat) (a0 : Nat) (p1 : Int32) (p2 : Int32) (p3 : Int32) (p4 : Int32) (u : SG) : Ct l D cT z0 ks yX11_spite cX11_spite 5 (some .int) 8 0 0 vI [.ref a0, .int p1, .int p2, .int p3, .int p4] u (fX11_spite N  a0 p1 p2 p3 p4 u) := by
  unfold fX11_spite
  refine ct_of (by decide +kernel) (Nat.le_of_ble_eq_true rfl) (fun p e R s m args below meth c hX => ?_)
  show JF _ True 5 0 0 _ 0 [(0, .ref a0), (1, .int p1), (2, .int p2), (3, .int p3), (4, .int p4)] [] u _
  refine jf_aload_n hX dX11_spite_0 0 rfl ?_
  refine jf_iload_n hX dX11_spite_1 1 rfl ?_
  refine jf_callV (As := [.int p1]) (st := []) hX mo_X11_isLamp wml_214 winst_215 wsel_216 11 ck_X11 rfl (fun l D cT z0 ks => kX11_isLamp N l D cT z0 ks a0 p1 u) (by decide) (by decide) (by decide) (by decide) (Nat.le_of_ble_eq_true rfl) rfl rfl dX11_spite_2 (fun r1 u2 => ?_)
  refine jf_if_eq (tgt := 44) hX dX11_spite_5 (by decide) ?_ ?_
  · refine jf_ldcw (v := -1000000) hX dX11_spite_44 wcon_326 ?_
    exact jf_iret hX rfl (by decide) (by decide) dX11_spite_47
  · refine jf_iload_n hX dX11_spite_8 2 rfl ?_
    refine jf_iconst (v := -1) hX dX11_spite_9 (by decide) ?_
    refine jf_icmp_eq (tgt := 21) hX dX11_spite_10 (by decide) ?_ ?_
    · refine jf_lv [0, 1, 2, 3, 4] rfl ?_
      exact jgX11_spite_21 hX N  a0 p1 p2 p3 p4 u2
    · refine jf_aload_n hX dX11_spite_13 0 rfl ?_
      refine jf_iload_n hX dX11_spite_14 2 rfl ?_
      refine jf_callV (As := [.int p2]) (st := []) hX mo_X11_isPerson wml_210 winst_211 wsel_212 11 ck_X11 rfl (fun l D cT z0 ks => kX11_isPerson N l D cT z0 ks a0 p2 u2) (by decide) (by decide) (by decide) (by decide) (Nat.le_of_ble_eq_true rfl) rfl rfl dX11_spite_15 (fun r3 u4 => ?_)
      refine jf_if_eq (tgt := 44) hX dX11_spite_18 (by decide) ?_ ?_
      · refine jf_ldcw (v := -1000000) hX dX11_spite_44 wcon_326 ?_
        exact jf_iret hX rfl (by decide) (by decide) dX11_spite_47
      · refine jf_lv [0, 1, 2, 3, 4] rfl ?_
        exact jgX11_spite_21 hX N  a0 p1 p2 p3 p4 u4
set_option maxRecDepth 20000 in
def fX11_seed (N : Nat)  (a0 : Nat) (p1 : Int32) (u : SG) : Option (Int32 × SG) := if 0 ≤ p1 then (if zK u a0 = 12 then (bs (zI u a0 22) fun v1 => (if zK u a0 = 12 then bs (sI u a0 22 p1) fun u2 => (some (v1, u2)) else none)) else none)
  else (some ((-1 : Int32), u))
set_option maxRecDepth 20000 in
set_option maxHeartbeats 4000000 in
theorem kX11_seed  (N : Nat)  (l : Launch) (D : va_G) (cT : Nat → ClassId) (z0 : Nat) (ks : Nat × Nat) (a0 : Nat) (p1 : Int32) (u : SG) : Ct l D cT z0 ks yX11_seed cX11_seed 3 (some .int) 1 0 0 vI [.ref a0, .int p1] u (fX11_seed N  a0 p1 u) := by
  unfold fX11_seed
  refine ct_of (by decide +kernel) (Nat.le_of_ble_eq_true rfl) (fun p e R s m args below meth c hX => ?_)
  show JF _ True 3 0 0 _ 0 [(0, .ref a0), (1, .int p1)] [] u _
  refine jf_iload_n hX dX11_seed_0 1 rfl ?_
  refine jf_if_ge (tgt := 6) hX dX11_seed_1 (by decide) ?_ ?_
  · refine jf_aload_n hX dX11_seed_6 0 rfl ?_
    refine jf_getI hX ck_X11 22 wfl_331 (by decide) rfl dX11_seed_7 ?_
    refine jf_nmI (fun v1 => ?_)
    refine jf_istore_n (lv' := [(2, .int v1), (0, .ref a0), (1, .int p1)]) hX dX11_seed_10 rfl (by decide) rfl ?_
    refine jf_aload_n hX dX11_seed_11 1 rfl ?_
    refine jf_iload_n hX dX11_seed_12 2 rfl ?_
    refine jf_putI hX trivial ck_X11 22 wfl_331 (by decide) rfl rfl rfl dX11_seed_13 (fun u2 => ?_)
    refine jf_iload_n hX dX11_seed_16 0 rfl ?_
    exact jf_iret hX rfl (by decide) (by decide) dX11_seed_17
  · refine jf_iconst (v := -1) hX dX11_seed_4 (by decide) ?_
    exact jf_iret hX rfl (by decide) (by decide) dX11_seed_5
set_option maxRecDepth 20000 in
def fX11_draw (N : Nat)  (a0 : Nat) (p1 : Int32) (u : SG) : Option (Int32 × SG) := if zK u a0 = 12 then (if (2147483648 : Int64) = 0 then none else (if zK u a0 = 12 then bs (sL u a0 31 ((((zL u a0 31) * (1103515245 : Int64)) + (12345 : Int64)) - (((zL u a0 31) * (1103515245 : Int64)) + (12345 : Int64)) / (2147483648 : Int64) * (2147483648 : Int64))) fun u1 => (if zK u1 a0 = 12 then (if (65536 : Int64) = 0 then none else (if p1.toInt64 = 0 then none else (some ((((zL u1 a0 31) / (65536 : Int64)) - ((zL u1 a0 31) / (65536 : Int64)) / p1.toInt64 * p1.toInt64).toInt32, u1)))) else none) else none)) else none
set_option maxRecDepth 20000 in
set_option maxHeartbeats 4000000 in
theorem kX11_draw  (N : Nat)  (l : Launch) (D : va_G) (cT : Nat → ClassId) (z0 : Nat) (ks : Nat × Nat) (a0 : Nat) (p1 : Int32) (u : SG) : Ct l D cT z0 ks yX11_draw cX11_draw 2 (some .int) 1 0 0 vI [.ref a0, .int p1] u (fX11_draw N  a0 p1 u) := by
  unfold fX11_draw
  refine ct_of (by decide +kernel) (Nat.le_of_ble_eq_true rfl) (fun p e R s m args below meth c hX => ?_)
  show JF _ True 2 0 0 _ 0 [(0, .ref a0), (1, .int p1)] [] u _
  refine jf_aload_n hX dX11_draw_0 0 rfl ?_
  refine jf_aload_n hX dX11_draw_1 0 rfl ?_
  refine jf_getL hX ck_X11 31 wfl_332 (by decide) rfl dX11_draw_2 ?_
  refine jf_ldc2 (v := 1103515245) hX dX11_draw_5 wconl_333 ?_
  refine jf_lmul hX dX11_draw_8 ?_
  refine jf_ldc2 (v := 12345) hX dX11_draw_9 wconl_334 ?_
  refine jf_ladd hX dX11_draw_12 ?_
  refine jf_ldc2 (v := 2147483648) hX dX11_draw_13 wconl_335 ?_
  refine jf_lrem hX dX11_draw_16 ?_
  refine jf_putL hX trivial ck_X11 31 wfl_332 (by decide) rfl rfl rfl dX11_draw_17 (fun u1 => ?_)
  refine jf_aload_n hX dX11_draw_20 0 rfl ?_
  refine jf_getL hX ck_X11 31 wfl_332 (by decide) rfl dX11_draw_21 ?_
  refine jf_ldc2 (v := 65536) hX dX11_draw_24 wconl_336 ?_
  refine jf_ldiv hX dX11_draw_27 ?_
  refine jf_iload_n hX dX11_draw_28 1 rfl ?_
  refine jf_i2l hX dX11_draw_29 ?_
  refine jf_lrem hX dX11_draw_30 ?_
  refine jf_l2i hX dX11_draw_31 ?_
  exact jf_iret hX rfl (by decide) (by decide) dX11_draw_32
set_option maxRecDepth 20000 in
def gX11_lives_153 (N : Nat)  (rec78 : Nat → Int32 → Int32 → Int32 → Int32 → Int32 → Int32 → Int32 → SG → Option (Int32 × SG)) (rec96 : Nat → Int32 → Int32 → Int32 → Int32 → Int32 → Int32 → Int32 → Int32 → Int32 → SG → Option (Int32 × SG)) (rec109 : Nat → Int32 → Int32 → Int32 → Int32 → Int32 → Int32 → Int32 → Int32 → Int32 → Int32 → SG → Option (Int32 × SG)) (x0 : Nat) (x1 : Int32) (x2 : Int32) (x3 : Int32) (x4 : Int32) (x5 : Int32) (x6 : Int32) (x7 : Int32) (x8 : Int32) (x9 : Int32) (x10 : Int32) (s0 : Nat) (s1 : Int32) (s2 : Int32) (u : SG) : Option (Int32 × SG) := if zK u s0 = 12 then cl (fX11_setsAsleep N s0 s1 s2 u) fun r1 u2 => (rec109 x0 x1 x2 x3 x4 x5 x6 x7 x8 x9 (x10 + (1 : Int32)) u2) else none
set_option maxRecDepth 20000 in
set_option maxHeartbeats 4000000 in
theorem jgX11_lives_153 {rec78 : Nat → Int32 → Int32 → Int32 → Int32 → Int32 → Int32 → Int32 → SG → Option (Int32 × SG)} {rec96 : Nat → Int32 → Int32 → Int32 → Int32 → Int32 → Int32 → Int32 → Int32 → Int32 → SG → Option (Int32 × SG)} {rec109 : Nat → Int32 → Int32 → Int32 → Int32 → Int32 → Int32 → Int32 → Int32 → Int32 → Int32 → SG → Option (Int32 × SG)}  {X : XT} (hX : Cx X yX11_lives cX11_lives 11 (some .int) 5 0 0) (N : Nat) (hrec78 : ∀ (x0 : Nat) (x1 : Int32) (x2 : Int32) (x3 : Int32) (x4 : Int32) (x5 : Int32) (x6 : Int32) (x7 : Int32)  (u : SG), JF X True 11 0 0 (jQ X vI 0 0) 78 [(0, .ref x0), (1, .int x1), (2, .int x2), (3, .int x3), (4, .int x4), (5, .int x5), (6, .int x6), (7, .int x7)] [] u (rec78 x0 x1 x2 x3 x4 x5 x6 x7  u)) (hrec96 : ∀ (x0 : Nat) (x1 : Int32) (x2 : Int32) (x3 : Int32) (x4 : Int32) (x5 : Int32) (x6 : Int32) (x7 : Int32) (x8 : Int32) (x9 : Int32)  (u : SG), JF X True 11 0 0 (jQ X vI 0 0) 96 [(0, .ref x0), (1, .int x1), (2, .int x2), (3, .int x3), (4, .int x4), (5, .int x5), (6, .int x6), (7, .int x7), (8, .int x8), (9, .int x9)] [] u (rec96 x0 x1 x2 x3 x4 x5 x6 x7 x8 x9  u)) (hrec109 : ∀ (x0 : Nat) (x1 : Int32) (x2 : Int32) (x3 : Int32) (x4 : Int32) (x5 : Int32) (x6 : Int32) (x7 : Int32) (x8 : Int32) (x9 : Int32) (x10 : Int32)  (u : SG), JF X True 11 0 0 (jQ X vI 0 0) 109 [(0, .ref x0), (1, .int x1), (2, .int x2), (3, .int x3), (4, .int x4), (5, .int x5), (6, .int x6), (7, .int x7), (8, .int x8), (9, .int x9), (10, .int x10)] [] u (rec109 x0 x1 x2 x3 x4 x5 x6 x7 x8 x9 x10  u)) (x0 : Nat) (x1 : Int32) (x2 : Int32) (x3 : Int32) (x4 : Int32) (x5 : Int32) (x6 : Int32) (x7 : Int32) (x8 : Int32) (x9 : Int32) (x10 : Int32) (s0 : Nat) (s1 : Int32) (s2 : Int32) (u : SG) : JF X True 11 0 0 (jQ X vI 0 0) 153 [(0, .ref x0), (1, .int x1), (2, .int x2), (3, .int x3), (4, .int x4), (5, .int x5), (6, .int x6), (7, .int x7), (8, .int x8), (9, .int x9), (10, .int x10)] [.int s2, .int s1, .ref s0] u (gX11_lives_153 N  rec78 rec96 rec109 x0 x1 x2 x3 x4 x5 x6 x7 x8 x9 x10 s0 s1 s2 u) := by
  unfold gX11_lives_153
  refine jf_callV (As := [.int s1, .int s2]) (st := []) hX mo_X11_setsAsleep wml_232 winst_233 wsel_234 11 ck_X11 rfl (fun l D cT z0 ks => kX11_setsAsleep N l D cT z0 ks s0 s1 s2 u) (by decide) (by decide) (by decide) (by decide) (Nat.le_of_ble_eq_true rfl) rfl rfl dX11_lives_153 (fun r1 u2 => ?_)
  refine jf_iinc (v := 1) (lv' := [(10, .int (x10 + (1 : Int32))), (0, .ref x0), (1, .int x1), (2, .int x2), (3, .int x3), (4, .int x4), (5, .int x5), (6, .int x6), (7, .int x7), (8, .int x8), (9, .int x9)]) hX dX11_lives_156 10 rfl (by decide) (by decide) rfl ?_
  refine jf_goto (tgt := 109) hX dX11_lives_159 (by decide) ?_
  refine jf_lv [1, 2, 3, 4, 5, 6, 7, 8, 9, 10, 0] rfl ?_
  exact hrec109 x0 x1 x2 x3 x4 x5 x6 x7 x8 x9 (x10 + (1 : Int32)) u2
set_option maxRecDepth 20000 in
def gX11_lives_109 (N : Nat)  (rec78 : Nat → Int32 → Int32 → Int32 → Int32 → Int32 → Int32 → Int32 → SG → Option (Int32 × SG)) (rec96 : Nat → Int32 → Int32 → Int32 → Int32 → Int32 → Int32 → Int32 → Int32 → Int32 → SG → Option (Int32 × SG)) : Nat → Nat → Int32 → Int32 → Int32 → Int32 → Int32 → Int32 → Int32 → Int32 → Int32 → Int32 → SG → Option (Int32 × SG)
  | 0, _, _, _, _, _, _, _, _, _, _, _, _ => none
  | n + 1, x0, x1, x2, x3, x4, x5, x6, x7, x8, x9, x10, u => if zK u x0 = 12 then (Option.bind (zR u x0 20) fun q1 => (if zK u q1 = 22 then if zN u q1 ≤ 1 then none else (if (zI u q1 1) ≤ x10 then (if zK u x0 = 12 then cl (fX11_shares N x0 u) fun r2 u3 => (bs (x5 + r2) fun v4 => (rec96 x0 x1 x2 x3 x4 v4 x6 x7 x8 (x9 + (1 : Int32)) u3)) else none)
  else (if zK u x0 = 12 then (Option.bind (zR u x0 20) fun q5 => (if zK u q5 = 22 then if zN u q5 ≤ 5 then none else (if zK u x0 = 12 then cl (fX11_worksIn N x0 x10 (zI u q5 5) u) fun r6 u7 => (if r6 = 0 then (if zK u7 x0 = 12 then cl (fX11_draw N x0 (100 : Int32) u7) fun r8 u9 => (if x3 ≤ r8 then (gX11_lives_153 N rec78 rec96 (gX11_lives_109 N rec78 rec96 n) x0 x1 x2 x3 x4 x5 x6 x7 x8 x9 x10 x0 x10 (0 : Int32) u9)
  else (gX11_lives_153 N rec78 rec96 (gX11_lives_109 N rec78 rec96 n) x0 x1 x2 x3 x4 x5 x6 x7 x8 x9 x10 x0 x10 (1 : Int32) u9)) else none)
  else ((gX11_lives_109 N rec78 rec96 n) x0 x1 x2 x3 x4 x5 x6 x7 x8 x9 (x10 + (1 : Int32)) u7)) else none) else none)) else none)) else none)) else none
set_option maxRecDepth 20000 in
set_option maxHeartbeats 4000000 in
theorem jgX11_lives_109 {rec78 : Nat → Int32 → Int32 → Int32 → Int32 → Int32 → Int32 → Int32 → SG → Option (Int32 × SG)} {rec96 : Nat → Int32 → Int32 → Int32 → Int32 → Int32 → Int32 → Int32 → Int32 → Int32 → SG → Option (Int32 × SG)}  {X : XT} (hX : Cx X yX11_lives cX11_lives 11 (some .int) 5 0 0) (N : Nat) (hrec78 : ∀ (x0 : Nat) (x1 : Int32) (x2 : Int32) (x3 : Int32) (x4 : Int32) (x5 : Int32) (x6 : Int32) (x7 : Int32)  (u : SG), JF X True 11 0 0 (jQ X vI 0 0) 78 [(0, .ref x0), (1, .int x1), (2, .int x2), (3, .int x3), (4, .int x4), (5, .int x5), (6, .int x6), (7, .int x7)] [] u (rec78 x0 x1 x2 x3 x4 x5 x6 x7  u)) (hrec96 : ∀ (x0 : Nat) (x1 : Int32) (x2 : Int32) (x3 : Int32) (x4 : Int32) (x5 : Int32) (x6 : Int32) (x7 : Int32) (x8 : Int32) (x9 : Int32)  (u : SG), JF X True 11 0 0 (jQ X vI 0 0) 96 [(0, .ref x0), (1, .int x1), (2, .int x2), (3, .int x3), (4, .int x4), (5, .int x5), (6, .int x6), (7, .int x7), (8, .int x8), (9, .int x9)] [] u (rec96 x0 x1 x2 x3 x4 x5 x6 x7 x8 x9  u)) : ∀ (n : Nat) (x0 : Nat) (x1 : Int32) (x2 : Int32) (x3 : Int32) (x4 : Int32) (x5 : Int32) (x6 : Int32) (x7 : Int32) (x8 : Int32) (x9 : Int32) (x10 : Int32) (u : SG), JF X True 11 0 0 (jQ X vI 0 0) 109 [(0, .ref x0), (1, .int x1), (2, .int x2), (3, .int x3), (4, .int x4), (5, .int x5), (6, .int x6), (7, .int x7), (8, .int x8), (9, .int x9), (10, .int x10)] [] u (gX11_lives_109 N  rec78 rec96 n x0 x1 x2 x3 x4 x5 x6 x7 x8 x9 x10 u) := by
  intro n
  induction n with
  | zero => intros; intro r u9 h9; exact absurd h9 (by simp [gX11_lives_109])
  | succ n ih =>
    intro x0 x1 x2 x3 x4 x5 x6 x7 x8 x9 x10 u
    have hrec109 := ih
    rw [gX11_lives_109]
    refine jf_iload hX dX11_lives_109 10 rfl ?_
    refine jf_aload_n hX dX11_lives_111 0 rfl ?_
    refine jf_getR hX ck_X11 20 wfl_31 (by decide) rfl dX11_lives_112 ?_
    refine jf_nn (fun q1 => ?_)
    refine jf_iconst (v := 1) hX dX11_lives_115 (by decide) ?_
    refine jf_ialdc 1 hX (by decide) (by decide) dX11_lives_116 ?_
    refine jf_icmp_ge (tgt := 162) hX dX11_lives_117 (by decide) ?_ ?_
    · refine jf_iload hX dX11_lives_162 5 rfl ?_
      refine jf_aload_n hX dX11_lives_164 0 rfl ?_
      refine jf_callV (As := []) (st := [.int x5]) hX mo_X11_shares wml_250 winst_251 wsel_252 11 ck_X11 rfl (fun l D cT z0 ks => kX11_shares N l D cT z0 ks x0 u) (by decide) (by decide) (by decide) (by decide) (Nat.le_of_ble_eq_true rfl) rfl rfl dX11_lives_165 (fun r2 u3 => ?_)
      refine jf_iadd hX dX11_lives_168 ?_
      refine jf_nmI (fun v4 => ?_)
      refine jf_istore (lv' := [(5, .int v4), (0, .ref x0), (1, .int x1), (2, .int x2), (3, .int x3), (4, .int x4), (6, .int x6), (7, .int x7), (8, .int x8), (9, .int x9), (10, .int x10)]) hX dX11_lives_169 (by decide) rfl ?_
      refine jf_iinc (v := 1) (lv' := [(9, .int (x9 + (1 : Int32))), (5, .int v4), (0, .ref x0), (1, .int x1), (2, .int x2), (3, .int x3), (4, .int x4), (6, .int x6), (7, .int x7), (8, .int x8), (10, .int x10)]) hX dX11_lives_171 9 rfl (by decide) (by decide) rfl ?_
      refine jf_goto (tgt := 96) hX dX11_lives_174 (by decide) ?_
      refine jf_lv [2, 3, 4, 5, 6, 1, 7, 8, 9, 0] rfl ?_
      exact hrec96 x0 x1 x2 x3 x4 v4 x6 x7 x8 (x9 + (1 : Int32)) u3
    · refine jf_aload_n hX dX11_lives_120 0 rfl ?_
      refine jf_iload hX dX11_lives_121 10 rfl ?_
      refine jf_aload_n hX dX11_lives_123 0 rfl ?_
      refine jf_getR hX ck_X11 20 wfl_31 (by decide) rfl dX11_lives_124 ?_
      refine jf_nn (fun q5 => ?_)
      refine jf_iconst (v := 5) hX dX11_lives_127 (by decide) ?_
      refine jf_ialdc 5 hX (by decide) (by decide) dX11_lives_128 ?_
      refine jf_callV (As := [.int x10, .int (zI u q5 5)]) (st := []) hX mo_X11_worksIn wml_204 winst_205 wsel_206 11 ck_X11 rfl (fun l D cT z0 ks => kX11_worksIn N l D cT z0 ks x0 x10 (zI u q5 5) u) (by decide) (by decide) (by decide) (by decide) (Nat.le_of_ble_eq_true rfl) rfl rfl dX11_lives_129 (fun r6 u7 => ?_)
      refine jf_if_ne (tgt := 156) hX dX11_lives_132 (by decide) ?_ ?_
      · refine jf_iinc (v := 1) (lv' := [(10, .int (x10 + (1 : Int32))), (0, .ref x0), (1, .int x1), (2, .int x2), (3, .int x3), (4, .int x4), (5, .int x5), (6, .int x6), (7, .int x7), (8, .int x8), (9, .int x9)]) hX dX11_lives_156 10 rfl (by decide) (by decide) rfl ?_
        refine jf_goto (tgt := 109) hX dX11_lives_159 (by decide) ?_
        refine jf_lv [1, 2, 3, 4, 5, 6, 7, 8, 9, 10, 0] rfl ?_
        exact hrec109 x0 x1 x2 x3 x4 x5 x6 x7 x8 x9 (x10 + (1 : Int32)) u7
      · refine jf_aload_n hX dX11_lives_135 0 rfl ?_
        refine jf_iload hX dX11_lives_136 10 rfl ?_
        refine jf_aload_n hX dX11_lives_138 0 rfl ?_
        refine jf_bipush (v := 100) hX dX11_lives_139 (by decide) ?_
        refine jf_callV (As := [.int (100 : Int32)]) (st := [.int x10, .ref x0]) hX mo_X11_draw wml_337 winst_338 wsel_339 11 ck_X11 rfl (fun l D cT z0 ks => kX11_draw N l D cT z0 ks x0 (100 : Int32) u7) (by decide) (by decide) (by decide) (by decide) (Nat.le_of_ble_eq_true rfl) rfl rfl dX11_lives_141 (fun r8 u9 => ?_)
        refine jf_iload_n hX dX11_lives_144 3 rfl ?_
        refine jf_icmp_ge (tgt := 152) hX dX11_lives_145 (by decide) ?_ ?_
        · refine jf_iconst (v := 0) hX dX11_lives_152 (by decide) ?_
          refine jf_lv [0, 1, 2, 3, 4, 5, 6, 7, 8, 9, 10] rfl ?_
          exact jgX11_lives_153 hX N hrec78 hrec96 hrec109 x0 x1 x2 x3 x4 x5 x6 x7 x8 x9 x10 x0 x10 (0 : Int32) u9
        · refine jf_iconst (v := 1) hX dX11_lives_148 (by decide) ?_
          refine jf_goto (tgt := 153) hX dX11_lives_149 (by decide) ?_
          refine jf_lv [0, 1, 2, 3, 4, 5, 6, 7, 8, 9, 10] rfl ?_
          exact jgX11_lives_153 hX N hrec78 hrec96 hrec109 x0 x1 x2 x3 x4 x5 x6 x7 x8 x9 x10 x0 x10 (1 : Int32) u9
set_option maxRecDepth 20000 in
def gX11_lives_96 (N : Nat)  (rec78 : Nat → Int32 → Int32 → Int32 → Int32 → Int32 → Int32 → Int32 → SG → Option (Int32 × SG)) : Nat → Nat → Int32 → Int32 → Int32 → Int32 → Int32 → Int32 → Int32 → Int32 → Int32 → SG → Option (Int32 × SG)
  | 0, _, _, _, _, _, _, _, _, _, _, _ => none
  | n + 1, x0, x1, x2, x3, x4, x5, x6, x7, x8, x9, u => if x2 ≤ x9 then (if zK u x0 = 12 then (Option.bind (zR u x0 20) fun q1 => (if zK u q1 = 22 then if zN u q1 ≤ 7 then none else (if (60 : Int32) = 0 then none else (bs (x6 + (((zI u q1 7) - x8) / (60 : Int32))) fun v2 => (if zK u x0 = 12 then cl (fX11_laysBack N x0 u) fun r3 u4 => (rec78 x0 x1 x2 x3 x4 x5 v2 (x7 + (1 : Int32)) u4) else none))) else none)) else none)
  else (if zK u x0 = 12 then cl (fX11_wakesWorkers N x0 u) fun r5 u6 => (gX11_lives_109 N rec78 (gX11_lives_96 N rec78 n) N x0 x1 x2 x3 x4 x5 x6 x7 x8 x9 (0 : Int32) u6) else none)
set_option maxRecDepth 20000 in
set_option maxHeartbeats 4000000 in
theorem jgX11_lives_96 {rec78 : Nat → Int32 → Int32 → Int32 → Int32 → Int32 → Int32 → Int32 → SG → Option (Int32 × SG)}  {X : XT} (hX : Cx X yX11_lives cX11_lives 11 (some .int) 5 0 0) (N : Nat) (hrec78 : ∀ (x0 : Nat) (x1 : Int32) (x2 : Int32) (x3 : Int32) (x4 : Int32) (x5 : Int32) (x6 : Int32) (x7 : Int32)  (u : SG), JF X True 11 0 0 (jQ X vI 0 0) 78 [(0, .ref x0), (1, .int x1), (2, .int x2), (3, .int x3), (4, .int x4), (5, .int x5), (6, .int x6), (7, .int x7)] [] u (rec78 x0 x1 x2 x3 x4 x5 x6 x7  u)) : ∀ (n : Nat) (x0 : Nat) (x1 : Int32) (x2 : Int32) (x3 : Int32) (x4 : Int32) (x5 : Int32) (x6 : Int32) (x7 : Int32) (x8 : Int32) (x9 : Int32) (u : SG), JF X True 11 0 0 (jQ X vI 0 0) 96 [(0, .ref x0), (1, .int x1), (2, .int x2), (3, .int x3), (4, .int x4), (5, .int x5), (6, .int x6), (7, .int x7), (8, .int x8), (9, .int x9)] [] u (gX11_lives_96 N  rec78 n x0 x1 x2 x3 x4 x5 x6 x7 x8 x9 u) := by
  intro n
  induction n with
  | zero => intros; intro r u9 h9; exact absurd h9 (by simp [gX11_lives_96])
  | succ n ih =>
    intro x0 x1 x2 x3 x4 x5 x6 x7 x8 x9 u
    have hrec96 := ih
    rw [gX11_lives_96]
    refine jf_iload hX dX11_lives_96 9 rfl ?_
    refine jf_iload_n hX dX11_lives_98 2 rfl ?_
    refine jf_icmp_ge (tgt := 177) hX dX11_lives_99 (by decide) ?_ ?_
    · refine jf_iload hX dX11_lives_177 6 rfl ?_
      refine jf_aload_n hX dX11_lives_179 0 rfl ?_
      refine jf_getR hX ck_X11 20 wfl_31 (by decide) rfl dX11_lives_180 ?_
      refine jf_nn (fun q1 => ?_)
      refine jf_bipush (v := 7) hX dX11_lives_183 (by decide) ?_
      refine jf_ialdc 7 hX (by decide) (by decide) dX11_lives_185 ?_
      refine jf_iload hX dX11_lives_186 8 rfl ?_
      refine jf_isub hX dX11_lives_188 ?_
      refine jf_bipush (v := 60) hX dX11_lives_189 (by decide) ?_
      refine jf_idiv hX dX11_lives_191 ?_
      refine jf_iadd hX dX11_lives_192 ?_
      refine jf_nmI (fun v2 => ?_)
      refine jf_istore (lv' := [(6, .int v2), (0, .ref x0), (1, .int x1), (2, .int x2), (3, .int x3), (4, .int x4), (5, .int x5), (7, .int x7), (8, .int x8), (9, .int x9)]) hX dX11_lives_193 (by decide) rfl ?_
      refine jf_aload_n hX dX11_lives_195 1 rfl ?_
      refine jf_callV (As := []) (st := []) hX mo_X11_laysBack wml_270 winst_271 wsel_272 11 ck_X11 rfl (fun l D cT z0 ks => kX11_laysBack N l D cT z0 ks x0 u) (by decide) (by decide) (by decide) (by decide) (Nat.le_of_ble_eq_true rfl) rfl rfl dX11_lives_196 (fun r3 u4 => ?_)
      refine jf_iinc (v := 1) (lv' := [(7, .int (x7 + (1 : Int32))), (6, .int v2), (0, .ref x0), (1, .int x1), (2, .int x2), (3, .int x3), (4, .int x4), (5, .int x5), (8, .int x8), (9, .int x9)]) hX dX11_lives_199 7 rfl (by decide) (by decide) rfl ?_
      refine jf_goto (tgt := 78) hX dX11_lives_202 (by decide) ?_
      refine jf_lv [2, 3, 4, 5, 6, 7, 1, 0] rfl ?_
      exact hrec78 x0 x1 x2 x3 x4 x5 v2 (x7 + (1 : Int32)) u4
    · refine jf_aload_n hX dX11_lives_102 0 rfl ?_
      refine jf_callV (As := []) (st := []) hX mo_X11_wakesWorkers wml_244 winst_245 wsel_246 11 ck_X11 rfl (fun l D cT z0 ks => kX11_wakesWorkers N l D cT z0 ks x0 u) (by decide) (by decide) (by decide) (by decide) (Nat.le_of_ble_eq_true rfl) rfl rfl dX11_lives_103 (fun r5 u6 => ?_)
      refine jf_iconst (v := 0) hX dX11_lives_106 (by decide) ?_
      refine jf_istore (lv' := [(10, .int (0 : Int32)), (0, .ref x0), (1, .int x1), (2, .int x2), (3, .int x3), (4, .int x4), (5, .int x5), (6, .int x6), (7, .int x7), (8, .int x8), (9, .int x9)]) hX dX11_lives_107 (by decide) rfl ?_
      refine jf_lv [1, 2, 3, 4, 5, 6, 7, 8, 9, 10, 0] rfl ?_
      exact jgX11_lives_109 hX N hrec78 hrec96 N x0 x1 x2 x3 x4 x5 x6 x7 x8 x9 (0 : Int32) u6
set_option maxRecDepth 20000 in
def gX11_lives_78 (N : Nat)   : Nat → Nat → Int32 → Int32 → Int32 → Int32 → Int32 → Int32 → Int32 → SG → Option (Int32 × SG)
  | 0, _, _, _, _, _, _, _, _, _ => none
  | n + 1, x0, x1, x2, x3, x4, x5, x6, x7, u => if x1 ≤ x7 then (if x4 = 0 then (some (x5, u))
  else (some (x6, u)))
  else (if zK u x0 = 12 then (Option.bind (zR u x0 20) fun q1 => (if zK u q1 = 22 then if zN u q1 ≤ 7 then none else (bs (zI u q1 7) fun v2 => (gX11_lives_96 N (gX11_lives_78 N  n) N x0 x1 x2 x3 x4 x5 x6 x7 v2 (0 : Int32) u)) else none)) else none)
set_option maxRecDepth 20000 in
set_option maxHeartbeats 4000000 in
theorem jgX11_lives_78   {X : XT} (hX : Cx X yX11_lives cX11_lives 11 (some .int) 5 0 0) (N : Nat)  : ∀ (n : Nat) (x0 : Nat) (x1 : Int32) (x2 : Int32) (x3 : Int32) (x4 : Int32) (x5 : Int32) (x6 : Int32) (x7 : Int32) (u : SG), JF X True 11 0 0 (jQ X vI 0 0) 78 [(0, .ref x0), (1, .int x1), (2, .int x2), (3, .int x3), (4, .int x4), (5, .int x5), (6, .int x6), (7, .int x7)] [] u (gX11_lives_78 N   n x0 x1 x2 x3 x4 x5 x6 x7 u) := by
  intro n
  induction n with
  | zero => intros; intro r u9 h9; exact absurd h9 (by simp [gX11_lives_78])
  | succ n ih =>
    intro x0 x1 x2 x3 x4 x5 x6 x7 u
    have hrec78 := ih
    rw [gX11_lives_78]
    refine jf_iload hX dX11_lives_78 7 rfl ?_
    refine jf_iload_n hX dX11_lives_80 1 rfl ?_
    refine jf_icmp_ge (tgt := 205) hX dX11_lives_81 (by decide) ?_ ?_
    · refine jf_iload hX dX11_lives_205 4 rfl ?_
      refine jf_if_ne (tgt := 215) hX dX11_lives_207 (by decide) ?_ ?_
      · refine jf_iload hX dX11_lives_215 6 rfl ?_
        exact jf_iret hX rfl (by decide) (by decide) dX11_lives_217
      · refine jf_iload hX dX11_lives_210 5 rfl ?_
        refine jf_goto (tgt := 217) hX dX11_lives_212 (by decide) ?_
        exact jf_iret hX rfl (by decide) (by decide) dX11_lives_217
    · refine jf_aload_n hX dX11_lives_84 0 rfl ?_
      refine jf_getR hX ck_X11 20 wfl_31 (by decide) rfl dX11_lives_85 ?_
      refine jf_nn (fun q1 => ?_)
      refine jf_bipush (v := 7) hX dX11_lives_88 (by decide) ?_
      refine jf_ialdc 7 hX (by decide) (by decide) dX11_lives_90 ?_
      refine jf_nmI (fun v2 => ?_)
      refine jf_istore (lv' := [(8, .int v2), (0, .ref x0), (1, .int x1), (2, .int x2), (3, .int x3), (4, .int x4), (5, .int x5), (6, .int x6), (7, .int x7)]) hX dX11_lives_91 (by decide) rfl ?_
      refine jf_iconst (v := 0) hX dX11_lives_93 (by decide) ?_
      refine jf_istore (lv' := [(9, .int (0 : Int32)), (8, .int v2), (0, .ref x0), (1, .int x1), (2, .int x2), (3, .int x3), (4, .int x4), (5, .int x5), (6, .int x6), (7, .int x7)]) hX dX11_lives_94 (by decide) rfl ?_
      refine jf_lv [2, 3, 4, 5, 6, 7, 8, 9, 1, 0] rfl ?_
      exact jgX11_lives_96 hX N hrec78 N x0 x1 x2 x3 x4 x5 x6 x7 v2 (0 : Int32) u
set_option maxRecDepth 20000 in
def fX11_lives (N : Nat)  (a0 : Nat) (p1 : Int32) (p2 : Int32) (p3 : Int32) (p4 : Int32) (u : SG) : Option (Int32 × SG) := if zK u a0 = 12 then cl (fX11_isStreet N a0 u) fun r1 u2 => (if r1 = 0 then (some ((-1 : Int32), u2))
  else (cl (fX11_in N p1.toInt64 (1 : Int64) (10 : Int64) u2) fun r3 u4 => (if r3 = 0 then (some ((-1 : Int32), u4))
  else (cl (fX11_in N p2.toInt64 (1 : Int64) (60 : Int64) u4) fun r5 u6 => (if r5 = 0 then (some ((-1 : Int32), u6))
  else (cl (fX11_in N p3.toInt64 (0 : Int64) (100 : Int64) u6) fun r7 u8 => (if r7 = 0 then (some ((-1 : Int32), u8))
  else (cl (fX11_in N p4.toInt64 (0 : Int64) (1 : Int64) u8) fun r9 u10 => (if r9 = 0 then (some ((-1 : Int32), u10))
  else (if zK u10 a0 = 12 then (if zK u10 a0 = 12 then bs (sL u10 a0 31 ((zI u10 a0 22).toInt64)) fun u11 => (if zK u11 a0 = 12 then cl (fX11_keeps N a0 u11) fun r12 u13 => (gX11_lives_78 N  N a0 p1 p2 p3 p4 (0 : Int32) (0 : Int32) (0 : Int32) u13) else none) else none) else none)))))))))) else none
set_option maxRecDepth 20000 in
set_option maxHeartbeats 4000000 in
theorem kX11_lives  (N : Nat)  (l : Launch) (D : va_G) (cT : Nat → ClassId) (z0 : Nat) (ks : Nat × Nat) (a0 : Nat) (p1 : Int32) (p2 : Int32) (p3 : Int32) (p4 : Int32) (u : SG) : Ct l D cT z0 ks yX11_lives cX11_lives 11 (some .int) 5 0 0 vI [.ref a0, .int p1, .int p2, .int p3, .int p4] u (fX11_lives N  a0 p1 p2 p3 p4 u) := by
  unfold fX11_lives
  refine ct_of (by decide +kernel) (Nat.le_of_ble_eq_true rfl) (fun p e R s m args below meth c hX => ?_)
  show JF _ True 11 0 0 _ 0 [(0, .ref a0), (1, .int p1), (2, .int p2), (3, .int p3), (4, .int p4)] [] u _
  refine jf_aload_n hX dX11_lives_0 0 rfl ?_
  refine jf_callV (As := []) (st := []) hX mo_X11_isStreet wml_253 winst_254 wsel_255 11 ck_X11 rfl (fun l D cT z0 ks => kX11_isStreet N l D cT z0 ks a0 u) (by decide) (by decide) (by decide) (by decide) (Nat.le_of_ble_eq_true rfl) rfl rfl dX11_lives_1 (fun r1 u2 => ?_)
  refine jf_if_eq (tgt := 54) hX dX11_lives_4 (by decide) ?_ ?_
  · refine jf_iconst (v := -1) hX dX11_lives_54 (by decide) ?_
    exact jf_iret hX rfl (by decide) (by decide) dX11_lives_55
  · refine jf_iload_n hX dX11_lives_7 1 rfl ?_
    refine jf_i2l hX dX11_lives_8 ?_
    refine jf_lconst (v := 1) hX dX11_lives_9 (by decide) ?_
    refine jf_ldc2 (v := 10) hX dX11_lives_10 wconl_283 ?_
    refine jf_callS (As := [.long p1.toInt64, .long (1 : Int64), .long (10 : Int64)]) (st := []) hX mo_X11_in wml_68 wstat_69 rfl (fun l D cT z0 ks => kX11_in N l D cT z0 ks p1.toInt64 (1 : Int64) (10 : Int64) u2) (by decide) (by decide) (by decide) (by decide) (Nat.le_of_ble_eq_true rfl) rfl rfl dX11_lives_13 (fun r3 u4 => ?_)
    refine jf_if_eq (tgt := 54) hX dX11_lives_16 (by decide) ?_ ?_
    · refine jf_iconst (v := -1) hX dX11_lives_54 (by decide) ?_
      exact jf_iret hX rfl (by decide) (by decide) dX11_lives_55
    · refine jf_iload_n hX dX11_lives_19 2 rfl ?_
      refine jf_i2l hX dX11_lives_20 ?_
      refine jf_lconst (v := 1) hX dX11_lives_21 (by decide) ?_
      refine jf_ldc2 (v := 60) hX dX11_lives_22 wconl_327 ?_
      refine jf_callS (As := [.long p2.toInt64, .long (1 : Int64), .long (60 : Int64)]) (st := []) hX mo_X11_in wml_68 wstat_69 rfl (fun l D cT z0 ks => kX11_in N l D cT z0 ks p2.toInt64 (1 : Int64) (60 : Int64) u4) (by decide) (by decide) (by decide) (by decide) (Nat.le_of_ble_eq_true rfl) rfl rfl dX11_lives_25 (fun r5 u6 => ?_)
      refine jf_if_eq (tgt := 54) hX dX11_lives_28 (by decide) ?_ ?_
      · refine jf_iconst (v := -1) hX dX11_lives_54 (by decide) ?_
        exact jf_iret hX rfl (by decide) (by decide) dX11_lives_55
      · refine jf_iload_n hX dX11_lives_31 3 rfl ?_
        refine jf_i2l hX dX11_lives_32 ?_
        refine jf_lconst (v := 0) hX dX11_lives_33 (by decide) ?_
        refine jf_ldc2 (v := 100) hX dX11_lives_34 wconl_266 ?_
        refine jf_callS (As := [.long p3.toInt64, .long (0 : Int64), .long (100 : Int64)]) (st := []) hX mo_X11_in wml_68 wstat_69 rfl (fun l D cT z0 ks => kX11_in N l D cT z0 ks p3.toInt64 (0 : Int64) (100 : Int64) u6) (by decide) (by decide) (by decide) (by decide) (Nat.le_of_ble_eq_true rfl) rfl rfl dX11_lives_37 (fun r7 u8 => ?_)
        refine jf_if_eq (tgt := 54) hX dX11_lives_40 (by decide) ?_ ?_
        · refine jf_iconst (v := -1) hX dX11_lives_54 (by decide) ?_
          exact jf_iret hX rfl (by decide) (by decide) dX11_lives_55
        · refine jf_iload hX dX11_lives_43 4 rfl ?_
          refine jf_i2l hX dX11_lives_45 ?_
          refine jf_lconst (v := 0) hX dX11_lives_46 (by decide) ?_
          refine jf_lconst (v := 1) hX dX11_lives_47 (by decide) ?_
          refine jf_callS (As := [.long p4.toInt64, .long (0 : Int64), .long (1 : Int64)]) (st := []) hX mo_X11_in wml_68 wstat_69 rfl (fun l D cT z0 ks => kX11_in N l D cT z0 ks p4.toInt64 (0 : Int64) (1 : Int64) u8) (by decide) (by decide) (by decide) (by decide) (Nat.le_of_ble_eq_true rfl) rfl rfl dX11_lives_48 (fun r9 u10 => ?_)
          refine jf_if_ne (tgt := 56) hX dX11_lives_51 (by decide) ?_ ?_
          · refine jf_aload_n hX dX11_lives_56 0 rfl ?_
            refine jf_aload_n hX dX11_lives_57 0 rfl ?_
            refine jf_getI hX ck_X11 22 wfl_331 (by decide) rfl dX11_lives_58 ?_
            refine jf_i2l hX dX11_lives_61 ?_
            refine jf_putL hX trivial ck_X11 31 wfl_332 (by decide) rfl rfl rfl dX11_lives_62 (fun u11 => ?_)
            refine jf_iconst (v := 0) hX dX11_lives_65 (by decide) ?_
            refine jf_istore (lv' := [(5, .int (0 : Int32)), (0, .ref a0), (1, .int p1), (2, .int p2), (3, .int p3), (4, .int p4)]) hX dX11_lives_66 (by decide) rfl ?_
            refine jf_iconst (v := 0) hX dX11_lives_68 (by decide) ?_
            refine jf_istore (lv' := [(6, .int (0 : Int32)), (5, .int (0 : Int32)), (0, .ref a0), (1, .int p1), (2, .int p2), (3, .int p3), (4, .int p4)]) hX dX11_lives_69 (by decide) rfl ?_
            refine jf_aload_n hX dX11_lives_71 2 rfl ?_
            refine jf_callV (As := []) (st := []) hX mo_X11_keeps wml_267 winst_268 wsel_269 11 ck_X11 rfl (fun l D cT z0 ks => kX11_keeps N l D cT z0 ks a0 u11) (by decide) (by decide) (by decide) (by decide) (Nat.le_of_ble_eq_true rfl) rfl rfl dX11_lives_72 (fun r12 u13 => ?_)
            refine jf_iconst (v := 0) hX dX11_lives_75 (by decide) ?_
            refine jf_istore (lv' := [(7, .int (0 : Int32)), (6, .int (0 : Int32)), (5, .int (0 : Int32)), (0, .ref a0), (1, .int p1), (2, .int p2), (3, .int p3), (4, .int p4)]) hX dX11_lives_76 (by decide) rfl ?_
            refine jf_lv [3, 4, 5, 6, 7, 2, 1, 0] rfl ?_
            exact jgX11_lives_78 hX N  N a0 p1 p2 p3 p4 (0 : Int32) (0 : Int32) (0 : Int32) u13
          · refine jf_iconst (v := -1) hX dX11_lives_54 (by decide) ?_
            exact jf_iret hX rfl (by decide) (by decide) dX11_lives_55
set_option maxRecDepth 20000 in
def fX11_count (N : Nat)  (a0 : Nat) (p1 : Int32) (u : SG) : Option (Int32 × SG) := if p1 = (0 : Int32) then (if zK u a0 = 12 then (Option.bind (zR u a0 20) fun q1 => (if zK u q1 = 22 then if p1 < 0 ∨ zN u q1 ≤ p1.toNatClampNeg then none else (some (zI u q1 p1.toNatClampNeg, u)) else none)) else none)
  else if p1 = (1 : Int32) then (if zK u a0 = 12 then (Option.bind (zR u a0 20) fun q2 => (if zK u q2 = 22 then if p1 < 0 ∨ zN u q2 ≤ p1.toNatClampNeg then none else (some (zI u q2 p1.toNatClampNeg, u)) else none)) else none)
  else if p1 = (2 : Int32) then (if zK u a0 = 12 then (Option.bind (zR u a0 20) fun q3 => (if zK u q3 = 22 then if p1 < 0 ∨ zN u q3 ≤ p1.toNatClampNeg then none else (some (zI u q3 p1.toNatClampNeg, u)) else none)) else none)
  else if p1 = (3 : Int32) then (if zK u a0 = 12 then (Option.bind (zR u a0 20) fun q4 => (if zK u q4 = 22 then if p1 < 0 ∨ zN u q4 ≤ p1.toNatClampNeg then none else (some (zI u q4 p1.toNatClampNeg, u)) else none)) else none)
  else if p1 = (4 : Int32) then (if zK u a0 = 12 then (Option.bind (zR u a0 20) fun q5 => (if zK u q5 = 22 then if p1 < 0 ∨ zN u q5 ≤ p1.toNatClampNeg then none else (some (zI u q5 p1.toNatClampNeg, u)) else none)) else none)
  else if p1 = (5 : Int32) then (if zK u a0 = 12 then (some (zI u a0 2, u)) else none)
  else if p1 = (6 : Int32) then (if zK u a0 = 12 then (some (zI u a0 21, u)) else none)
  else if p1 = (7 : Int32) then (if zK u a0 = 12 then (Option.bind (zR u a0 20) fun q6 => (if zK u q6 = 22 then if zN u q6 ≤ 5 then none else (some (zI u q6 5, u)) else none)) else none)
  else if p1 = (8 : Int32) then (if zK u a0 = 12 then (Option.bind (zR u a0 20) fun q7 => (if zK u q7 = 22 then if zN u q7 ≤ 6 then none else (some (zI u q7 6, u)) else none)) else none)
  else if p1 = (9 : Int32) then (if zK u a0 = 12 then cl (fX11_sleepers N a0 u) fun r8 u9 => (some (r8, u9)) else none)
  else if p1 = (10 : Int32) then (if zK u a0 = 12 then cl (fX11_burning N a0 u) fun r10 u11 => (some (r10, u11)) else none)
  else if p1 = (11 : Int32) then (if zK u a0 = 12 then (Option.bind (zR u a0 20) fun q12 => (if zK u q12 = 22 then if zN u q12 ≤ 5 then none else (if zK u a0 = 12 then cl (fX11_costIn N a0 (zI u q12 5) u) fun r13 u14 => (some (r13, u14)) else none) else none)) else none)
  else if p1 = (12 : Int32) then (if zK u a0 = 12 then (Option.bind (zR u a0 20) fun q15 => (if zK u q15 = 22 then if zN u q15 ≤ 143 then none else (some (zI u q15 143, u)) else none)) else none)
  else if p1 = (13 : Int32) then (if zK u a0 = 12 then (some (zI u a0 25, u)) else none)
  else if p1 = (14 : Int32) then (if zK u a0 = 12 then (some (zI u a0 22, u)) else none)
  else if p1 = (15 : Int32) then (if zK u a0 = 12 then (some (zI u a0 1, u)) else none)
  else (some ((-1 : Int32), u))
set_option maxRecDepth 20000 in
set_option maxHeartbeats 4000000 in
theorem kX11_count  (N : Nat)  (l : Launch) (D : va_G) (cT : Nat → ClassId) (z0 : Nat) (ks : Nat × Nat) (a0 : Nat) (p1 : Int32) (u : SG) : Ct l D cT z0 ks yX11_count cX11_count 2 (some .int) 4 0 0 vI [.ref a0, .int p1] u (fX11_count N  a0 p1 u) := by
  unfold fX11_count
  refine ct_of (by decide +kernel) (Nat.le_of_ble_eq_true rfl) (fun p e R s m args below meth c hX => ?_)
  show JF _ True 2 0 0 _ 0 [(0, .ref a0), (1, .int p1)] [] u _
  refine jf_iload_n hX dX11_count_0 1 rfl ?_
  refine jf_tcase (k := 0) (kv := 0) (tgt := 80) hX dX11_count_1 rfl (by decide) (by decide) rfl (by decide) ?_ (fun hn0 => ?_)
  · refine jf_aload_n hX dX11_count_80 0 rfl ?_
    refine jf_getR hX ck_X11 20 wfl_31 (by decide) rfl dX11_count_81 ?_
    refine jf_nn (fun q1 => ?_)
    refine jf_iload_n hX dX11_count_84 1 rfl ?_
    refine jf_iald hX dX11_count_85 ?_
    exact jf_iret hX rfl (by decide) (by decide) dX11_count_86
  refine jf_tcase (k := 1) (kv := 1) (tgt := 80) hX dX11_count_1 rfl (by decide) (by decide) rfl (by decide) ?_ (fun hn1 => ?_)
  · refine jf_aload_n hX dX11_count_80 0 rfl ?_
    refine jf_getR hX ck_X11 20 wfl_31 (by decide) rfl dX11_count_81 ?_
    refine jf_nn (fun q2 => ?_)
    refine jf_iload_n hX dX11_count_84 1 rfl ?_
    refine jf_iald hX dX11_count_85 ?_
    exact jf_iret hX rfl (by decide) (by decide) dX11_count_86
  refine jf_tcase (k := 2) (kv := 2) (tgt := 80) hX dX11_count_1 rfl (by decide) (by decide) rfl (by decide) ?_ (fun hn2 => ?_)
  · refine jf_aload_n hX dX11_count_80 0 rfl ?_
    refine jf_getR hX ck_X11 20 wfl_31 (by decide) rfl dX11_count_81 ?_
    refine jf_nn (fun q3 => ?_)
    refine jf_iload_n hX dX11_count_84 1 rfl ?_
    refine jf_iald hX dX11_count_85 ?_
    exact jf_iret hX rfl (by decide) (by decide) dX11_count_86
  refine jf_tcase (k := 3) (kv := 3) (tgt := 80) hX dX11_count_1 rfl (by decide) (by decide) rfl (by decide) ?_ (fun hn3 => ?_)
  · refine jf_aload_n hX dX11_count_80 0 rfl ?_
    refine jf_getR hX ck_X11 20 wfl_31 (by decide) rfl dX11_count_81 ?_
    refine jf_nn (fun q4 => ?_)
    refine jf_iload_n hX dX11_count_84 1 rfl ?_
    refine jf_iald hX dX11_count_85 ?_
    exact jf_iret hX rfl (by decide) (by decide) dX11_count_86
  refine jf_tcase (k := 4) (kv := 4) (tgt := 80) hX dX11_count_1 rfl (by decide) (by decide) rfl (by decide) ?_ (fun hn4 => ?_)
  · refine jf_aload_n hX dX11_count_80 0 rfl ?_
    refine jf_getR hX ck_X11 20 wfl_31 (by decide) rfl dX11_count_81 ?_
    refine jf_nn (fun q5 => ?_)
    refine jf_iload_n hX dX11_count_84 1 rfl ?_
    refine jf_iald hX dX11_count_85 ?_
    exact jf_iret hX rfl (by decide) (by decide) dX11_count_86
  refine jf_tcase (k := 5) (kv := 5) (tgt := 87) hX dX11_count_1 rfl (by decide) (by decide) rfl (by decide) ?_ (fun hn5 => ?_)
  · refine jf_aload_n hX dX11_count_87 0 rfl ?_
    refine jf_getI hX ck_X11 2 wfl_178 (by decide) rfl dX11_count_88 ?_
    exact jf_iret hX rfl (by decide) (by decide) dX11_count_91
  refine jf_tcase (k := 6) (kv := 6) (tgt := 92) hX dX11_count_1 rfl (by decide) (by decide) rfl (by decide) ?_ (fun hn6 => ?_)
  · refine jf_aload_n hX dX11_count_92 0 rfl ?_
    refine jf_getI hX ck_X11 21 wfl_32 (by decide) rfl dX11_count_93 ?_
    exact jf_iret hX rfl (by decide) (by decide) dX11_count_96
  refine jf_tcase (k := 7) (kv := 7) (tgt := 97) hX dX11_count_1 rfl (by decide) (by decide) rfl (by decide) ?_ (fun hn7 => ?_)
  · refine jf_aload_n hX dX11_count_97 0 rfl ?_
    refine jf_getR hX ck_X11 20 wfl_31 (by decide) rfl dX11_count_98 ?_
    refine jf_nn (fun q6 => ?_)
    refine jf_iconst (v := 5) hX dX11_count_101 (by decide) ?_
    refine jf_ialdc 5 hX (by decide) (by decide) dX11_count_102 ?_
    exact jf_iret hX rfl (by decide) (by decide) dX11_count_103
  refine jf_tcase (k := 8) (kv := 8) (tgt := 104) hX dX11_count_1 rfl (by decide) (by decide) rfl (by decide) ?_ (fun hn8 => ?_)
  · refine jf_aload_n hX dX11_count_104 0 rfl ?_
    refine jf_getR hX ck_X11 20 wfl_31 (by decide) rfl dX11_count_105 ?_
    refine jf_nn (fun q7 => ?_)
    refine jf_bipush (v := 6) hX dX11_count_108 (by decide) ?_
    refine jf_ialdc 6 hX (by decide) (by decide) dX11_count_110 ?_
    exact jf_iret hX rfl (by decide) (by decide) dX11_count_111
  refine jf_tcase (k := 9) (kv := 9) (tgt := 112) hX dX11_count_1 rfl (by decide) (by decide) rfl (by decide) ?_ (fun hn9 => ?_)
  · refine jf_aload_n hX dX11_count_112 0 rfl ?_
    refine jf_callV (As := []) (st := []) hX mo_X11_sleepers wml_221 winst_222 wsel_223 11 ck_X11 rfl (fun l D cT z0 ks => kX11_sleepers N l D cT z0 ks a0 u) (by decide) (by decide) (by decide) (by decide) (Nat.le_of_ble_eq_true rfl) rfl rfl dX11_count_113 (fun r8 u9 => ?_)
    exact jf_iret hX rfl (by decide) (by decide) dX11_count_116
  refine jf_tcase (k := 10) (kv := 10) (tgt := 117) hX dX11_count_1 rfl (by decide) (by decide) rfl (by decide) ?_ (fun hn10 => ?_)
  · refine jf_aload_n hX dX11_count_117 0 rfl ?_
    refine jf_callV (As := []) (st := []) hX mo_X11_burning wml_293 winst_294 wsel_295 11 ck_X11 rfl (fun l D cT z0 ks => kX11_burning N l D cT z0 ks a0 u) (by decide) (by decide) (by decide) (by decide) (Nat.le_of_ble_eq_true rfl) rfl rfl dX11_count_118 (fun r10 u11 => ?_)
    exact jf_iret hX rfl (by decide) (by decide) dX11_count_121
  refine jf_tcase (k := 11) (kv := 11) (tgt := 122) hX dX11_count_1 rfl (by decide) (by decide) rfl (by decide) ?_ (fun hn11 => ?_)
  · refine jf_aload_n hX dX11_count_122 0 rfl ?_
    refine jf_aload_n hX dX11_count_123 0 rfl ?_
    refine jf_getR hX ck_X11 20 wfl_31 (by decide) rfl dX11_count_124 ?_
    refine jf_nn (fun q12 => ?_)
    refine jf_iconst (v := 5) hX dX11_count_127 (by decide) ?_
    refine jf_ialdc 5 hX (by decide) (by decide) dX11_count_128 ?_
    refine jf_callV (As := [.int (zI u q12 5)]) (st := []) hX mo_X11_costIn wml_218 winst_219 wsel_220 11 ck_X11 rfl (fun l D cT z0 ks => kX11_costIn N l D cT z0 ks a0 (zI u q12 5) u) (by decide) (by decide) (by decide) (by decide) (Nat.le_of_ble_eq_true rfl) rfl rfl dX11_count_129 (fun r13 u14 => ?_)
    exact jf_iret hX rfl (by decide) (by decide) dX11_count_132
  refine jf_tcase (k := 12) (kv := 12) (tgt := 133) hX dX11_count_1 rfl (by decide) (by decide) rfl (by decide) ?_ (fun hn12 => ?_)
  · refine jf_aload_n hX dX11_count_133 0 rfl ?_
    refine jf_getR hX ck_X11 20 wfl_31 (by decide) rfl dX11_count_134 ?_
    refine jf_nn (fun q15 => ?_)
    refine jf_sipush (v := 143) hX dX11_count_137 (by decide) ?_
    refine jf_ialdc 143 hX (by decide) (by decide) dX11_count_140 ?_
    exact jf_iret hX rfl (by decide) (by decide) dX11_count_141
  refine jf_tcase (k := 13) (kv := 13) (tgt := 142) hX dX11_count_1 rfl (by decide) (by decide) rfl (by decide) ?_ (fun hn13 => ?_)
  · refine jf_aload_n hX dX11_count_142 0 rfl ?_
    refine jf_getI hX ck_X11 25 wfl_182 (by decide) rfl dX11_count_143 ?_
    exact jf_iret hX rfl (by decide) (by decide) dX11_count_146
  refine jf_tcase (k := 14) (kv := 14) (tgt := 147) hX dX11_count_1 rfl (by decide) (by decide) rfl (by decide) ?_ (fun hn14 => ?_)
  · refine jf_aload_n hX dX11_count_147 0 rfl ?_
    refine jf_getI hX ck_X11 22 wfl_331 (by decide) rfl dX11_count_148 ?_
    exact jf_iret hX rfl (by decide) (by decide) dX11_count_151
  refine jf_tcase (k := 15) (kv := 15) (tgt := 152) hX dX11_count_1 rfl (by decide) (by decide) rfl (by decide) ?_ (fun hn15 => ?_)
  · refine jf_aload_n hX dX11_count_152 0 rfl ?_
    refine jf_getI hX ck_X11 1 wfl_43 (by decide) rfl dX11_count_153 ?_
    exact jf_iret hX rfl (by decide) (by decide) dX11_count_156
  refine jf_tdef (tgt := 157) hX dX11_count_1 (by rcases Int.lt_or_le p1.toInt (0) with h9 | h9; exact Or.inl h9; exact Or.inr (istep (istep (istep (istep (istep (istep (istep (istep (istep (istep (istep (istep (istep (istep (istep (istep h9 (lv_neT (a := 0) hn0 rfl)) (lv_neT (a := 1) hn1 rfl)) (lv_neT (a := 2) hn2 rfl)) (lv_neT (a := 3) hn3 rfl)) (lv_neT (a := 4) hn4 rfl)) (lv_neT (a := 5) hn5 rfl)) (lv_neT (a := 6) hn6 rfl)) (lv_neT (a := 7) hn7 rfl)) (lv_neT (a := 8) hn8 rfl)) (lv_neT (a := 9) hn9 rfl)) (lv_neT (a := 10) hn10 rfl)) (lv_neT (a := 11) hn11 rfl)) (lv_neT (a := 12) hn12 rfl)) (lv_neT (a := 13) hn13 rfl)) (lv_neT (a := 14) hn14 rfl)) (lv_neT (a := 15) hn15 rfl))) (by decide) ?_
  refine jf_iconst (v := -1) hX dX11_count_157 (by decide) ?_
  exact jf_iret hX rfl (by decide) (by decide) dX11_count_158
set_option maxRecDepth 20000 in
def gX11_image_43 (N : Nat)   : Nat → Nat → Int32 → Int32 → SG → Option (Int32 × SG)
  | 0, _, _, _, _ => none
  | n + 1, x0, x1, x2, u => if (144 : Int32) ≤ x2 then (if zK u x0 = 12 then (Option.bind (zR u x0 20) fun q1 => (if zK u q1 = 22 then if zN u q1 ≤ 6 then none else (some (zI u q1 6, u)) else none)) else none)
  else (if zK u x0 = 12 then (Option.bind (zR u x0 32) fun q2 => (if zK u x0 = 12 then (Option.bind (zR u x0 20) fun q3 => (if zK u q3 = 22 then if x2 < 0 ∨ zN u q3 ≤ x2.toNatClampNeg then none else (if zK u q2 = 22 then if (((144 : Int32) * x1) + x2) < 0 ∨ zN u q2 ≤ (((144 : Int32) * x1) + x2).toNatClampNeg then none else bs (sI u q2 (((144 : Int32) * x1) + x2).toNatClampNeg (zI u q3 x2.toNatClampNeg)) fun u4 => ((gX11_image_43 N  n) x0 x1 (x2 + (1 : Int32)) u4) else none) else none)) else none)) else none)
set_option maxRecDepth 20000 in
set_option maxHeartbeats 4000000 in
theorem jgX11_image_43   {X : XT} (hX : Cx X yX11_image cX11_image 3 (some .int) 2 0 0) (N : Nat)  : ∀ (n : Nat) (x0 : Nat) (x1 : Int32) (x2 : Int32) (u : SG), JF X True 3 0 0 (jQ X vI 0 0) 43 [(0, .ref x0), (1, .int x1), (2, .int x2)] [] u (gX11_image_43 N   n x0 x1 x2 u) := by
  intro n
  induction n with
  | zero => intros; intro r u9 h9; exact absurd h9 (by simp [gX11_image_43])
  | succ n ih =>
    intro x0 x1 x2 u
    have hrec43 := ih
    rw [gX11_image_43]
    refine jf_iload_n hX dX11_image_43 2 rfl ?_
    refine jf_sipush (v := 144) hX dX11_image_44 (by decide) ?_
    refine jf_icmp_ge (tgt := 74) hX dX11_image_47 (by decide) ?_ ?_
    · refine jf_aload_n hX dX11_image_74 0 rfl ?_
      refine jf_getR hX ck_X11 20 wfl_31 (by decide) rfl dX11_image_75 ?_
      refine jf_nn (fun q1 => ?_)
      refine jf_bipush (v := 6) hX dX11_image_78 (by decide) ?_
      refine jf_ialdc 6 hX (by decide) (by decide) dX11_image_80 ?_
      exact jf_iret hX rfl (by decide) (by decide) dX11_image_81
    · refine jf_aload_n hX dX11_image_50 0 rfl ?_
      refine jf_getR hX ck_X11 32 wfl_38 (by decide) rfl dX11_image_51 ?_
      refine jf_nn (fun q2 => ?_)
      refine jf_sipush (v := 144) hX dX11_image_54 (by decide) ?_
      refine jf_iload_n hX dX11_image_57 1 rfl ?_
      refine jf_imul hX dX11_image_58 ?_
      refine jf_iload_n hX dX11_image_59 2 rfl ?_
      refine jf_iadd hX dX11_image_60 ?_
      refine jf_aload_n hX dX11_image_61 0 rfl ?_
      refine jf_getR hX ck_X11 20 wfl_31 (by decide) rfl dX11_image_62 ?_
      refine jf_nn (fun q3 => ?_)
      refine jf_iload_n hX dX11_image_65 2 rfl ?_
      refine jf_iald hX dX11_image_66 ?_
      refine jf_iast hX trivial dX11_image_67 (fun u4 => ?_)
      refine jf_iinc (v := 1) (lv' := [(2, .int (x2 + (1 : Int32))), (0, .ref x0), (1, .int x1)]) hX dX11_image_68 2 rfl (by decide) (by decide) rfl ?_
      refine jf_goto (tgt := 43) hX dX11_image_71 (by decide) ?_
      refine jf_lv [1, 2, 0] rfl ?_
      exact hrec43 x0 x1 (x2 + (1 : Int32)) u4
set_option maxRecDepth 20000 in
def fX11_image (N : Nat)  (a0 : Nat) (p1 : Int32) (u : SG) : Option (Int32 × SG) := cl (fX11_in N p1.toInt64 (0 : Int64) (3 : Int64) u) fun r1 u2 => (if r1 = 0 then (some ((-1 : Int32), u2))
  else (if zK u2 a0 = 12 then (Option.bind (zR u2 a0 35) fun q3 => (if zK u2 q3 = 24 then if p1 < 0 ∨ zN u2 q3 ≤ p1.toNatClampNeg then none else bs (sI u2 q3 p1.toNatClampNeg (vp_nar .boolean (1 : Int32))) fun u4 => (if zK u4 a0 = 12 then (Option.bind (zR u4 a0 33) fun q5 => (if zK u4 a0 = 12 then (if zK u4 q5 = 22 then if p1 < 0 ∨ zN u4 q5 ≤ p1.toNatClampNeg then none else bs (sI u4 q5 p1.toNatClampNeg (zI u4 a0 21)) fun u6 => (if zK u6 a0 = 12 then (Option.bind (zR u6 a0 34) fun q7 => (if zK u6 a0 = 12 then (if zK u6 q7 = 22 then if p1 < 0 ∨ zN u6 q7 ≤ p1.toNatClampNeg then none else bs (sI u6 q7 p1.toNatClampNeg (zI u6 a0 22)) fun u8 => (gX11_image_43 N  N a0 p1 (0 : Int32) u8) else none) else none)) else none) else none) else none)) else none) else none)) else none))
set_option maxRecDepth 20000 in
set_option maxHeartbeats 4000000 in
theorem kX11_image  (N : Nat)  (l : Launch) (D : va_G) (cT : Nat → ClassId) (z0 : Nat) (ks : Nat × Nat) (a0 : Nat) (p1 : Int32) (u : SG) : Ct l D cT z0 ks yX11_image cX11_image 3 (some .int) 2 0 0 vI [.ref a0, .int p1] u (fX11_image N  a0 p1 u) := by
  unfold fX11_image
  refine ct_of (by decide +kernel) (Nat.le_of_ble_eq_true rfl) (fun p e R s m args below meth c hX => ?_)
  show JF _ True 3 0 0 _ 0 [(0, .ref a0), (1, .int p1)] [] u _
  refine jf_iload_n hX dX11_image_0 1 rfl ?_
  refine jf_i2l hX dX11_image_1 ?_
  refine jf_lconst (v := 0) hX dX11_image_2 (by decide) ?_
  refine jf_ldc2 (v := 3) hX dX11_image_3 wconl_303 ?_
  refine jf_callS (As := [.long p1.toInt64, .long (0 : Int64), .long (3 : Int64)]) (st := []) hX mo_X11_in wml_68 wstat_69 rfl (fun l D cT z0 ks => kX11_in N l D cT z0 ks p1.toInt64 (0 : Int64) (3 : Int64) u) (by decide) (by decide) (by decide) (by decide) (Nat.le_of_ble_eq_true rfl) rfl rfl dX11_image_6 (fun r1 u2 => ?_)
  refine jf_if_ne (tgt := 14) hX dX11_image_9 (by decide) ?_ ?_
  · refine jf_aload_n hX dX11_image_14 0 rfl ?_
    refine jf_getR hX ck_X11 35 wfl_42 (by decide) rfl dX11_image_15 ?_
    refine jf_nn (fun q3 => ?_)
    refine jf_iload_n hX dX11_image_18 1 rfl ?_
    refine jf_iconst (v := 1) hX dX11_image_19 (by decide) ?_
    refine jf_zast hX trivial dX11_image_20 (fun u4 => ?_)
    refine jf_aload_n hX dX11_image_21 0 rfl ?_
    refine jf_getR hX ck_X11 33 wfl_39 (by decide) rfl dX11_image_22 ?_
    refine jf_nn (fun q5 => ?_)
    refine jf_iload_n hX dX11_image_25 1 rfl ?_
    refine jf_aload_n hX dX11_image_26 0 rfl ?_
    refine jf_getI hX ck_X11 21 wfl_32 (by decide) rfl dX11_image_27 ?_
    refine jf_iast hX trivial dX11_image_30 (fun u6 => ?_)
    refine jf_aload_n hX dX11_image_31 0 rfl ?_
    refine jf_getR hX ck_X11 34 wfl_40 (by decide) rfl dX11_image_32 ?_
    refine jf_nn (fun q7 => ?_)
    refine jf_iload_n hX dX11_image_35 1 rfl ?_
    refine jf_aload_n hX dX11_image_36 0 rfl ?_
    refine jf_getI hX ck_X11 22 wfl_331 (by decide) rfl dX11_image_37 ?_
    refine jf_iast hX trivial dX11_image_40 (fun u8 => ?_)
    refine jf_iconst (v := 0) hX dX11_image_41 (by decide) ?_
    refine jf_istore_n (lv' := [(2, .int (0 : Int32)), (0, .ref a0), (1, .int p1)]) hX dX11_image_42 rfl (by decide) rfl ?_
    refine jf_lv [1, 2, 0] rfl ?_
    exact jgX11_image_43 hX N  N a0 p1 (0 : Int32) u8
  · refine jf_iconst (v := -1) hX dX11_image_12 (by decide) ?_
    exact jf_iret hX rfl (by decide) (by decide) dX11_image_13
set_option maxRecDepth 20000 in
def gX11_back_50 (N : Nat)   : Nat → Nat → Int32 → Int32 → SG → Option (Int32 × SG)
  | 0, _, _, _, _ => none
  | n + 1, x0, x1, x2, u => if (144 : Int32) ≤ x2 then (if zK u x0 = 12 then (Option.bind (zR u x0 20) fun q1 => (if zK u q1 = 22 then if zN u q1 ≤ 6 then none else (some (zI u q1 6, u)) else none)) else none)
  else (if zK u x0 = 12 then (Option.bind (zR u x0 20) fun q2 => (if zK u x0 = 12 then (Option.bind (zR u x0 32) fun q3 => (if zK u q3 = 22 then if (((144 : Int32) * x1) + x2) < 0 ∨ zN u q3 ≤ (((144 : Int32) * x1) + x2).toNatClampNeg then none else (if zK u q2 = 22 then if x2 < 0 ∨ zN u q2 ≤ x2.toNatClampNeg then none else bs (sI u q2 x2.toNatClampNeg (zI u q3 (((144 : Int32) * x1) + x2).toNatClampNeg)) fun u4 => ((gX11_back_50 N  n) x0 x1 (x2 + (1 : Int32)) u4) else none) else none)) else none)) else none)
set_option maxRecDepth 20000 in
set_option maxHeartbeats 4000000 in
theorem jgX11_back_50   {X : XT} (hX : Cx X yX11_back cX11_back 3 (some .int) 2 0 0) (N : Nat)  : ∀ (n : Nat) (x0 : Nat) (x1 : Int32) (x2 : Int32) (u : SG), JF X True 3 0 0 (jQ X vI 0 0) 50 [(0, .ref x0), (1, .int x1), (2, .int x2)] [] u (gX11_back_50 N   n x0 x1 x2 u) := by
  intro n
  induction n with
  | zero => intros; intro r u9 h9; exact absurd h9 (by simp [gX11_back_50])
  | succ n ih =>
    intro x0 x1 x2 u
    have hrec50 := ih
    rw [gX11_back_50]
    refine jf_iload_n hX dX11_back_50 2 rfl ?_
    refine jf_sipush (v := 144) hX dX11_back_51 (by decide) ?_
    refine jf_icmp_ge (tgt := 81) hX dX11_back_54 (by decide) ?_ ?_
    · refine jf_aload_n hX dX11_back_81 0 rfl ?_
      refine jf_getR hX ck_X11 20 wfl_31 (by decide) rfl dX11_back_82 ?_
      refine jf_nn (fun q1 => ?_)
      refine jf_bipush (v := 6) hX dX11_back_85 (by decide) ?_
      refine jf_ialdc 6 hX (by decide) (by decide) dX11_back_87 ?_
      exact jf_iret hX rfl (by decide) (by decide) dX11_back_88
    · refine jf_aload_n hX dX11_back_57 0 rfl ?_
      refine jf_getR hX ck_X11 20 wfl_31 (by decide) rfl dX11_back_58 ?_
      refine jf_nn (fun q2 => ?_)
      refine jf_iload_n hX dX11_back_61 2 rfl ?_
      refine jf_aload_n hX dX11_back_62 0 rfl ?_
      refine jf_getR hX ck_X11 32 wfl_38 (by decide) rfl dX11_back_63 ?_
      refine jf_nn (fun q3 => ?_)
      refine jf_sipush (v := 144) hX dX11_back_66 (by decide) ?_
      refine jf_iload_n hX dX11_back_69 1 rfl ?_
      refine jf_imul hX dX11_back_70 ?_
      refine jf_iload_n hX dX11_back_71 2 rfl ?_
      refine jf_iadd hX dX11_back_72 ?_
      refine jf_iald hX dX11_back_73 ?_
      refine jf_iast hX trivial dX11_back_74 (fun u4 => ?_)
      refine jf_iinc (v := 1) (lv' := [(2, .int (x2 + (1 : Int32))), (0, .ref x0), (1, .int x1)]) hX dX11_back_75 2 rfl (by decide) (by decide) rfl ?_
      refine jf_goto (tgt := 50) hX dX11_back_78 (by decide) ?_
      refine jf_lv [1, 2, 0] rfl ?_
      exact hrec50 x0 x1 (x2 + (1 : Int32)) u4
set_option maxRecDepth 20000 in
def fX11_back (N : Nat)  (a0 : Nat) (p1 : Int32) (u : SG) : Option (Int32 × SG) := cl (fX11_in N p1.toInt64 (0 : Int64) (3 : Int64) u) fun r1 u2 => (if r1 = 0 then (some ((-1 : Int32), u2))
  else (if zK u2 a0 = 12 then (Option.bind (zR u2 a0 35) fun q3 => (if zK u2 q3 = 24 then if p1 < 0 ∨ zN u2 q3 ≤ p1.toNatClampNeg then none else (if (zI u2 q3 p1.toNatClampNeg) = 0 then (some ((-1 : Int32), u2))
  else (if zK u2 a0 = 12 then (Option.bind (zR u2 a0 33) fun q4 => (if zK u2 q4 = 22 then if p1 < 0 ∨ zN u2 q4 ≤ p1.toNatClampNeg then none else (if zK u2 a0 = 12 then bs (sI u2 a0 21 (zI u2 q4 p1.toNatClampNeg)) fun u5 => (if zK u5 a0 = 12 then (Option.bind (zR u5 a0 34) fun q6 => (if zK u5 q6 = 22 then if p1 < 0 ∨ zN u5 q6 ≤ p1.toNatClampNeg then none else (if zK u5 a0 = 12 then bs (sI u5 a0 22 (zI u5 q6 p1.toNatClampNeg)) fun u7 => (if zK u7 a0 = 12 then bs (sI u7 a0 25 (0 : Int32)) fun u8 => (gX11_back_50 N  N a0 p1 (0 : Int32) u8) else none) else none) else none)) else none) else none) else none)) else none)) else none)) else none))
set_option maxRecDepth 20000 in
set_option maxHeartbeats 4000000 in
theorem kX11_back  (N : Nat)  (l : Launch) (D : va_G) (cT : Nat → ClassId) (z0 : Nat) (ks : Nat × Nat) (a0 : Nat) (p1 : Int32) (u : SG) : Ct l D cT z0 ks yX11_back cX11_back 3 (some .int) 2 0 0 vI [.ref a0, .int p1] u (fX11_back N  a0 p1 u) := by
  unfold fX11_back
  refine ct_of (by decide +kernel) (Nat.le_of_ble_eq_true rfl) (fun p e R s m args below meth c hX => ?_)
  show JF _ True 3 0 0 _ 0 [(0, .ref a0), (1, .int p1)] [] u _
  refine jf_iload_n hX dX11_back_0 1 rfl ?_
  refine jf_i2l hX dX11_back_1 ?_
  refine jf_lconst (v := 0) hX dX11_back_2 (by decide) ?_
  refine jf_ldc2 (v := 3) hX dX11_back_3 wconl_303 ?_
  refine jf_callS (As := [.long p1.toInt64, .long (0 : Int64), .long (3 : Int64)]) (st := []) hX mo_X11_in wml_68 wstat_69 rfl (fun l D cT z0 ks => kX11_in N l D cT z0 ks p1.toInt64 (0 : Int64) (3 : Int64) u) (by decide) (by decide) (by decide) (by decide) (Nat.le_of_ble_eq_true rfl) rfl rfl dX11_back_6 (fun r1 u2 => ?_)
  refine jf_if_eq (tgt := 21) hX dX11_back_9 (by decide) ?_ ?_
  · refine jf_iconst (v := -1) hX dX11_back_21 (by decide) ?_
    exact jf_iret hX rfl (by decide) (by decide) dX11_back_22
  · refine jf_aload_n hX dX11_back_12 0 rfl ?_
    refine jf_getR hX ck_X11 35 wfl_42 (by decide) rfl dX11_back_13 ?_
    refine jf_nn (fun q3 => ?_)
    refine jf_iload_n hX dX11_back_16 1 rfl ?_
    refine jf_zald hX dX11_back_17 ?_
    refine jf_if_ne (tgt := 23) hX dX11_back_18 (by decide) ?_ ?_
    · refine jf_aload_n hX dX11_back_23 0 rfl ?_
      refine jf_aload_n hX dX11_back_24 0 rfl ?_
      refine jf_getR hX ck_X11 33 wfl_39 (by decide) rfl dX11_back_25 ?_
      refine jf_nn (fun q4 => ?_)
      refine jf_iload_n hX dX11_back_28 1 rfl ?_
      refine jf_iald hX dX11_back_29 ?_
      refine jf_putI hX trivial ck_X11 21 wfl_32 (by decide) rfl rfl rfl dX11_back_30 (fun u5 => ?_)
      refine jf_aload_n hX dX11_back_33 0 rfl ?_
      refine jf_aload_n hX dX11_back_34 0 rfl ?_
      refine jf_getR hX ck_X11 34 wfl_40 (by decide) rfl dX11_back_35 ?_
      refine jf_nn (fun q6 => ?_)
      refine jf_iload_n hX dX11_back_38 1 rfl ?_
      refine jf_iald hX dX11_back_39 ?_
      refine jf_putI hX trivial ck_X11 22 wfl_331 (by decide) rfl rfl rfl dX11_back_40 (fun u7 => ?_)
      refine jf_aload_n hX dX11_back_43 0 rfl ?_
      refine jf_iconst (v := 0) hX dX11_back_44 (by decide) ?_
      refine jf_putI hX trivial ck_X11 25 wfl_182 (by decide) rfl rfl rfl dX11_back_45 (fun u8 => ?_)
      refine jf_iconst (v := 0) hX dX11_back_48 (by decide) ?_
      refine jf_istore_n (lv' := [(2, .int (0 : Int32)), (0, .ref a0), (1, .int p1)]) hX dX11_back_49 rfl (by decide) rfl ?_
      refine jf_lv [1, 2, 0] rfl ?_
      exact jgX11_back_50 hX N  N a0 p1 (0 : Int32) u8
    · refine jf_iconst (v := -1) hX dX11_back_21 (by decide) ?_
      exact jf_iret hX rfl (by decide) (by decide) dX11_back_22
