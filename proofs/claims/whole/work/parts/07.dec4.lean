theorem dX11_seenAt_8 : decode cX11_seenAt 8 = .ok (.istore_n 2, 1) := by decide +kernel
theorem dX11_seenAt_9 : decode cX11_seenAt 9 = .ok (.aload_n 0, 1) := by decide +kernel
theorem dX11_seenAt_10 : decode cX11_seenAt 10 = .ok (.getfield 52, 3) := by decide +kernel
theorem dX11_seenAt_13 : decode cX11_seenAt 13 = .ok (.iload_n 2, 1) := by decide +kernel
theorem dX11_seenAt_14 : decode cX11_seenAt 14 = .ok (.ifCond .ge 7, 3) := by decide +kernel
theorem dX11_seenAt_17 : decode cX11_seenAt 17 = .ok (.iconst 0, 1) := by decide +kernel
theorem dX11_seenAt_18 : decode cX11_seenAt 18 = .ok (.goto 4, 3) := by decide +kernel
theorem dX11_seenAt_21 : decode cX11_seenAt 21 = .ok (.iload_n 2, 1) := by decide +kernel
theorem dX11_seenAt_22 : decode cX11_seenAt 22 = .ok (.iaload, 1) := by decide +kernel
theorem dX11_seenAt_23 : decode cX11_seenAt 23 = .ok (.aload_n 0, 1) := by decide +kernel
theorem dX11_seenAt_24 : decode cX11_seenAt 24 = .ok (.iconst 2, 1) := by decide +kernel
theorem dX11_seenAt_25 : decode cX11_seenAt 25 = .ok (.aload_n 0, 1) := by decide +kernel
theorem dX11_seenAt_26 : decode cX11_seenAt 26 = .ok (.getfield 25, 3) := by decide +kernel
theorem dX11_seenAt_29 : decode cX11_seenAt 29 = .ok (.iconst 3, 1) := by decide +kernel
theorem dX11_seenAt_30 : decode cX11_seenAt 30 = .ok (.iaload, 1) := by decide +kernel
theorem dX11_seenAt_31 : decode cX11_seenAt 31 = .ok (.imul, 1) := by decide +kernel
theorem dX11_seenAt_32 : decode cX11_seenAt 32 = .ok (.iconst 1, 1) := by decide +kernel
theorem dX11_seenAt_33 : decode cX11_seenAt 33 = .ok (.iadd, 1) := by decide +kernel
theorem dX11_seenAt_34 : decode cX11_seenAt 34 = .ok (.invokevirtual 251, 3) := by decide +kernel
theorem dX11_seenAt_37 : decode cX11_seenAt 37 = .ok (.iadd, 1) := by decide +kernel
theorem dX11_seenAt_38 : decode cX11_seenAt 38 = .ok (.aload_n 0, 1) := by decide +kernel
theorem dX11_seenAt_39 : decode cX11_seenAt 39 = .ok (.getfield 25, 3) := by decide +kernel
theorem dX11_seenAt_42 : decode cX11_seenAt 42 = .ok (.iconst 3, 1) := by decide +kernel
theorem dX11_seenAt_43 : decode cX11_seenAt 43 = .ok (.iaload, 1) := by decide +kernel
theorem dX11_seenAt_44 : decode cX11_seenAt 44 = .ok (.isub, 1) := by decide +kernel
theorem dX11_seenAt_45 : decode cX11_seenAt 45 = .ok (.ireturn, 1) := by decide +kernel
theorem dX11_hopsOn_0 : decode cX11_hopsOn 0 = .ok (.aload_n 0, 1) := by decide +kernel
theorem dX11_hopsOn_1 : decode cX11_hopsOn 1 = .ok (.invokevirtual 170, 3) := by decide +kernel
theorem dX11_hopsOn_4 : decode cX11_hopsOn 4 = .ok (.istore_n 3, 1) := by decide +kernel
theorem dX11_hopsOn_5 : decode cX11_hopsOn 5 = .ok (.aload_n 0, 1) := by decide +kernel
theorem dX11_hopsOn_6 : decode cX11_hopsOn 6 = .ok (.dup, 1) := by decide +kernel
theorem dX11_hopsOn_7 : decode cX11_hopsOn 7 = .ok (.getfield 254, 3) := by decide +kernel
theorem dX11_hopsOn_10 : decode cX11_hopsOn 10 = .ok (.iconst 1, 1) := by decide +kernel
theorem dX11_hopsOn_11 : decode cX11_hopsOn 11 = .ok (.iadd, 1) := by decide +kernel
theorem dX11_hopsOn_12 : decode cX11_hopsOn 12 = .ok (.putfield 254, 3) := by decide +kernel
theorem dX11_hopsOn_15 : decode cX11_hopsOn 15 = .ok (.aload_n 0, 1) := by decide +kernel
theorem dX11_hopsOn_16 : decode cX11_hopsOn 16 = .ok (.aload_n 0, 1) := by decide +kernel
theorem dX11_hopsOn_17 : decode cX11_hopsOn 17 = .ok (.getfield 257, 3) := by decide +kernel
theorem dX11_hopsOn_20 : decode cX11_hopsOn 20 = .ok (.iload_n 3, 1) := by decide +kernel
theorem dX11_hopsOn_21 : decode cX11_hopsOn 21 = .ok (.invokestatic 99, 3) := by decide +kernel
theorem dX11_hopsOn_24 : decode cX11_hopsOn 24 = .ok (.iload_n 2, 1) := by decide +kernel
theorem dX11_hopsOn_25 : decode cX11_hopsOn 25 = .ok (.aload_n 0, 1) := by decide +kernel
theorem dX11_hopsOn_26 : decode cX11_hopsOn 26 = .ok (.getfield 28, 3) := by decide +kernel
theorem dX11_hopsOn_29 : decode cX11_hopsOn 29 = .ok (.iload_n 1, 1) := by decide +kernel
theorem dX11_hopsOn_30 : decode cX11_hopsOn 30 = .ok (.iaload, 1) := by decide +kernel
theorem dX11_hopsOn_31 : decode cX11_hopsOn 31 = .ok (.isub, 1) := by decide +kernel
theorem dX11_hopsOn_32 : decode cX11_hopsOn 32 = .ok (.imul, 1) := by decide +kernel
theorem dX11_hopsOn_33 : decode cX11_hopsOn 33 = .ok (.sipush 1000, 3) := by decide +kernel
theorem dX11_hopsOn_36 : decode cX11_hopsOn 36 = .ok (.idiv, 1) := by decide +kernel
theorem dX11_hopsOn_37 : decode cX11_hopsOn 37 = .ok (.iadd, 1) := by decide +kernel
theorem dX11_hopsOn_38 : decode cX11_hopsOn 38 = .ok (.aload_n 0, 1) := by decide +kernel
theorem dX11_hopsOn_39 : decode cX11_hopsOn 39 = .ok (.getfield 31, 3) := by decide +kernel
theorem dX11_hopsOn_42 : decode cX11_hopsOn 42 = .ok (.iload_n 1, 1) := by decide +kernel
theorem dX11_hopsOn_43 : decode cX11_hopsOn 43 = .ok (.iaload, 1) := by decide +kernel
theorem dX11_hopsOn_44 : decode cX11_hopsOn 44 = .ok (.iadd, 1) := by decide +kernel
theorem dX11_hopsOn_45 : decode cX11_hopsOn 45 = .ok (.invokestatic 260, 3) := by decide +kernel
theorem dX11_hopsOn_48 : decode cX11_hopsOn 48 = .ok (.putfield 257, 3) := by decide +kernel
theorem dX11_hopsOn_51 : decode cX11_hopsOn 51 = .ok (.aload_n 0, 1) := by decide +kernel
theorem dX11_hopsOn_52 : decode cX11_hopsOn 52 = .ok (.aload_n 0, 1) := by decide +kernel
theorem dX11_hopsOn_53 : decode cX11_hopsOn 53 = .ok (.getfield 263, 3) := by decide +kernel
theorem dX11_hopsOn_56 : decode cX11_hopsOn 56 = .ok (.iload_n 3, 1) := by decide +kernel
theorem dX11_hopsOn_57 : decode cX11_hopsOn 57 = .ok (.invokestatic 154, 3) := by decide +kernel
theorem dX11_hopsOn_60 : decode cX11_hopsOn 60 = .ok (.iload_n 2, 1) := by decide +kernel
theorem dX11_hopsOn_61 : decode cX11_hopsOn 61 = .ok (.aload_n 0, 1) := by decide +kernel
theorem dX11_hopsOn_62 : decode cX11_hopsOn 62 = .ok (.getfield 28, 3) := by decide +kernel
theorem dX11_hopsOn_65 : decode cX11_hopsOn 65 = .ok (.iload_n 1, 1) := by decide +kernel
theorem dX11_hopsOn_66 : decode cX11_hopsOn 66 = .ok (.iaload, 1) := by decide +kernel
theorem dX11_hopsOn_67 : decode cX11_hopsOn 67 = .ok (.isub, 1) := by decide +kernel
theorem dX11_hopsOn_68 : decode cX11_hopsOn 68 = .ok (.imul, 1) := by decide +kernel
theorem dX11_hopsOn_69 : decode cX11_hopsOn 69 = .ok (.sipush 1000, 3) := by decide +kernel
theorem dX11_hopsOn_72 : decode cX11_hopsOn 72 = .ok (.idiv, 1) := by decide +kernel
theorem dX11_hopsOn_73 : decode cX11_hopsOn 73 = .ok (.iadd, 1) := by decide +kernel
theorem dX11_hopsOn_74 : decode cX11_hopsOn 74 = .ok (.aload_n 0, 1) := by decide +kernel
theorem dX11_hopsOn_75 : decode cX11_hopsOn 75 = .ok (.getfield 34, 3) := by decide +kernel
theorem dX11_hopsOn_78 : decode cX11_hopsOn 78 = .ok (.iload_n 1, 1) := by decide +kernel
theorem dX11_hopsOn_79 : decode cX11_hopsOn 79 = .ok (.iaload, 1) := by decide +kernel
theorem dX11_hopsOn_80 : decode cX11_hopsOn 80 = .ok (.iadd, 1) := by decide +kernel
theorem dX11_hopsOn_81 : decode cX11_hopsOn 81 = .ok (.invokestatic 260, 3) := by decide +kernel
theorem dX11_hopsOn_84 : decode cX11_hopsOn 84 = .ok (.putfield 263, 3) := by decide +kernel
theorem dX11_hopsOn_87 : decode cX11_hopsOn 87 = .ok (.return_, 1) := by decide +kernel
theorem dX11_oneTick_0 : decode cX11_oneTick 0 = .ok (.aload_n 0, 1) := by decide +kernel
theorem dX11_oneTick_1 : decode cX11_oneTick 1 = .ok (.getfield 52, 3) := by decide +kernel
theorem dX11_oneTick_4 : decode cX11_oneTick 4 = .ok (.iload 4, 2) := by decide +kernel
theorem dX11_oneTick_6 : decode cX11_oneTick 6 = .ok (.aload_n 0, 1) := by decide +kernel
theorem dX11_oneTick_7 : decode cX11_oneTick 7 = .ok (.invokevirtual 167, 3) := by decide +kernel
theorem dX11_oneTick_10 : decode cX11_oneTick 10 = .ok (.iastore, 1) := by decide +kernel
theorem dX11_oneTick_11 : decode cX11_oneTick 11 = .ok (.aload_n 0, 1) := by decide +kernel
theorem dX11_oneTick_12 : decode cX11_oneTick 12 = .ok (.iload 4, 2) := by decide +kernel
theorem dX11_oneTick_14 : decode cX11_oneTick 14 = .ok (.invokevirtual 266, 3) := by decide +kernel
theorem dX11_oneTick_17 : decode cX11_oneTick 17 = .ok (.istore 7, 2) := by decide +kernel
theorem dX11_oneTick_19 : decode cX11_oneTick 19 = .ok (.aload_n 0, 1) := by decide +kernel
theorem dX11_oneTick_20 : decode cX11_oneTick 20 = .ok (.iload_n 1, 1) := by decide +kernel
theorem dX11_oneTick_21 : decode cX11_oneTick 21 = .ok (.iload 5, 2) := by decide +kernel
theorem dX11_oneTick_23 : decode cX11_oneTick 23 = .ok (.iload 4, 2) := by decide +kernel
theorem dX11_oneTick_25 : decode cX11_oneTick 25 = .ok (.iload 7, 2) := by decide +kernel
theorem dX11_oneTick_27 : decode cX11_oneTick 27 = .ok (.iload_n 3, 1) := by decide +kernel
theorem dX11_oneTick_28 : decode cX11_oneTick 28 = .ok (.aload_n 0, 1) := by decide +kernel
theorem dX11_oneTick_29 : decode cX11_oneTick 29 = .ok (.getfield 269, 3) := by decide +kernel
theorem dX11_oneTick_32 : decode cX11_oneTick 32 = .ok (.aload_n 0, 1) := by decide +kernel
theorem dX11_oneTick_33 : decode cX11_oneTick 33 = .ok (.getfield 272, 3) := by decide +kernel
theorem dX11_oneTick_36 : decode cX11_oneTick 36 = .ok (.invokevirtual 275, 3) := by decide +kernel
theorem dX11_oneTick_39 : decode cX11_oneTick 39 = .ok (.istore 8, 2) := by decide +kernel
theorem dX11_oneTick_41 : decode cX11_oneTick 41 = .ok (.iload 8, 2) := by decide +kernel
theorem dX11_oneTick_43 : decode cX11_oneTick 43 = .ok (.bipush 60, 2) := by decide +kernel
theorem dX11_oneTick_45 : decode cX11_oneTick 45 = .ok (.if_icmp .ge 34, 3) := by decide +kernel
theorem dX11_oneTick_48 : decode cX11_oneTick 48 = .ok (.aload_n 0, 1) := by decide +kernel
theorem dX11_oneTick_49 : decode cX11_oneTick 49 = .ok (.invokevirtual 279, 3) := by decide +kernel
theorem dX11_oneTick_52 : decode cX11_oneTick 52 = .ok (.aload_n 0, 1) := by decide +kernel
theorem dX11_oneTick_53 : decode cX11_oneTick 53 = .ok (.dup, 1) := by decide +kernel
theorem dX11_oneTick_54 : decode cX11_oneTick 54 = .ok (.getfield 272, 3) := by decide +kernel
theorem dX11_oneTick_57 : decode cX11_oneTick 57 = .ok (.iload 6, 2) := by decide +kernel
theorem dX11_oneTick_59 : decode cX11_oneTick 59 = .ok (.ifCond .eq 7, 3) := by decide +kernel
theorem dX11_oneTick_62 : decode cX11_oneTick 62 = .ok (.iconst 0, 1) := by decide +kernel
theorem dX11_oneTick_63 : decode cX11_oneTick 63 = .ok (.goto 4, 3) := by decide +kernel
theorem dX11_oneTick_66 : decode cX11_oneTick 66 = .ok (.iconst 1, 1) := by decide +kernel
theorem dX11_oneTick_67 : decode cX11_oneTick 67 = .ok (.iadd, 1) := by decide +kernel
theorem dX11_oneTick_68 : decode cX11_oneTick 68 = .ok (.putfield 272, 3) := by decide +kernel
theorem dX11_oneTick_71 : decode cX11_oneTick 71 = .ok (.aload_n 0, 1) := by decide +kernel
theorem dX11_oneTick_72 : decode cX11_oneTick 72 = .ok (.iconst 0, 1) := by decide +kernel
theorem dX11_oneTick_73 : decode cX11_oneTick 73 = .ok (.putfield 269, 3) := by decide +kernel
theorem dX11_oneTick_76 : decode cX11_oneTick 76 = .ok (.goto 29, 3) := by decide +kernel
theorem dX11_oneTick_79 : decode cX11_oneTick 79 = .ok (.aload_n 0, 1) := by decide +kernel
theorem dX11_oneTick_80 : decode cX11_oneTick 80 = .ok (.iload 8, 2) := by decide +kernel
theorem dX11_oneTick_82 : decode cX11_oneTick 82 = .ok (.iload 4, 2) := by decide +kernel
theorem dX11_oneTick_84 : decode cX11_oneTick 84 = .ok (.aload_n 0, 1) := by decide +kernel
theorem dX11_oneTick_85 : decode cX11_oneTick 85 = .ok (.getfield 269, 3) := by decide +kernel
theorem dX11_oneTick_88 : decode cX11_oneTick 88 = .ok (.aload_n 0, 1) := by decide +kernel
theorem dX11_oneTick_89 : decode cX11_oneTick 89 = .ok (.getfield 272, 3) := by decide +kernel
theorem dX11_oneTick_92 : decode cX11_oneTick 92 = .ok (.invokevirtual 282, 3) := by decide +kernel
theorem dX11_oneTick_95 : decode cX11_oneTick 95 = .ok (.aload_n 0, 1) := by decide +kernel
theorem dX11_oneTick_96 : decode cX11_oneTick 96 = .ok (.dup, 1) := by decide +kernel
theorem dX11_oneTick_97 : decode cX11_oneTick 97 = .ok (.getfield 269, 3) := by decide +kernel
theorem dX11_oneTick_100 : decode cX11_oneTick 100 = .ok (.iconst 1, 1) := by decide +kernel
theorem dX11_oneTick_101 : decode cX11_oneTick 101 = .ok (.iadd, 1) := by decide +kernel
theorem dX11_oneTick_102 : decode cX11_oneTick 102 = .ok (.putfield 269, 3) := by decide +kernel
theorem dX11_oneTick_105 : decode cX11_oneTick 105 = .ok (.aload_n 0, 1) := by decide +kernel
theorem dX11_oneTick_106 : decode cX11_oneTick 106 = .ok (.invokevirtual 167, 3) := by decide +kernel
theorem dX11_oneTick_109 : decode cX11_oneTick 109 = .ok (.istore 9, 2) := by decide +kernel
theorem dX11_oneTick_111 : decode cX11_oneTick 111 = .ok (.aload_n 0, 1) := by decide +kernel
theorem dX11_oneTick_112 : decode cX11_oneTick 112 = .ok (.iload 9, 2) := by decide +kernel
theorem dX11_oneTick_114 : decode cX11_oneTick 114 = .ok (.iload 8, 2) := by decide +kernel
theorem dX11_oneTick_116 : decode cX11_oneTick 116 = .ok (.invokevirtual 182, 3) := by decide +kernel
theorem dX11_oneTick_119 : decode cX11_oneTick 119 = .ok (.istore 10, 2) := by decide +kernel
theorem dX11_oneTick_121 : decode cX11_oneTick 121 = .ok (.aload_n 0, 1) := by decide +kernel
theorem dX11_oneTick_122 : decode cX11_oneTick 122 = .ok (.dup, 1) := by decide +kernel
theorem dX11_oneTick_123 : decode cX11_oneTick 123 = .ok (.getfield 285, 3) := by decide +kernel
theorem dX11_oneTick_126 : decode cX11_oneTick 126 = .ok (.iload 10, 2) := by decide +kernel
theorem dX11_oneTick_128 : decode cX11_oneTick 128 = .ok (.sipush 500, 3) := by decide +kernel
theorem dX11_oneTick_131 : decode cX11_oneTick 131 = .ok (.if_icmp .le 7, 3) := by decide +kernel
theorem dX11_oneTick_134 : decode cX11_oneTick 134 = .ok (.iconst 1, 1) := by decide +kernel
theorem dX11_oneTick_135 : decode cX11_oneTick 135 = .ok (.goto 4, 3) := by decide +kernel
theorem dX11_oneTick_138 : decode cX11_oneTick 138 = .ok (.iconst 0, 1) := by decide +kernel
theorem dX11_oneTick_139 : decode cX11_oneTick 139 = .ok (.iadd, 1) := by decide +kernel
theorem dX11_oneTick_140 : decode cX11_oneTick 140 = .ok (.putfield 285, 3) := by decide +kernel
theorem dX11_oneTick_143 : decode cX11_oneTick 143 = .ok (.iload 10, 2) := by decide +kernel
theorem dX11_oneTick_145 : decode cX11_oneTick 145 = .ok (.aload_n 0, 1) := by decide +kernel
theorem dX11_oneTick_146 : decode cX11_oneTick 146 = .ok (.getfield 28, 3) := by decide +kernel
theorem dX11_oneTick_149 : decode cX11_oneTick 149 = .ok (.iload_n 2, 1) := by decide +kernel
theorem dX11_oneTick_150 : decode cX11_oneTick 150 = .ok (.iaload, 1) := by decide +kernel
theorem dX11_oneTick_151 : decode cX11_oneTick 151 = .ok (.if_icmp .le 10, 3) := by decide +kernel
theorem dX11_oneTick_154 : decode cX11_oneTick 154 = .ok (.aload_n 0, 1) := by decide +kernel
theorem dX11_oneTick_155 : decode cX11_oneTick 155 = .ok (.iload_n 2, 1) := by decide +kernel
theorem dX11_oneTick_156 : decode cX11_oneTick 156 = .ok (.iload 10, 2) := by decide +kernel
theorem dX11_oneTick_158 : decode cX11_oneTick 158 = .ok (.invokevirtual 288, 3) := by decide +kernel
theorem dX11_oneTick_161 : decode cX11_oneTick 161 = .ok (.aload_n 0, 1) := by decide +kernel
theorem dX11_oneTick_162 : decode cX11_oneTick 162 = .ok (.aload_n 0, 1) := by decide +kernel
theorem dX11_oneTick_163 : decode cX11_oneTick 163 = .ok (.getfield 292, 3) := by decide +kernel
theorem dX11_oneTick_166 : decode cX11_oneTick 166 = .ok (.ifCond .ge 14, 3) := by decide +kernel
theorem dX11_oneTick_169 : decode cX11_oneTick 169 = .ok (.iload 8, 2) := by decide +kernel
theorem dX11_oneTick_171 : decode cX11_oneTick 171 = .ok (.iload_n 3, 1) := by decide +kernel
theorem dX11_oneTick_172 : decode cX11_oneTick 172 = .ok (.if_icmp .lt 8, 3) := by decide +kernel
theorem dX11_oneTick_175 : decode cX11_oneTick 175 = .ok (.iload 4, 2) := by decide +kernel
theorem dX11_oneTick_177 : decode cX11_oneTick 177 = .ok (.goto 7, 3) := by decide +kernel
theorem dX11_oneTick_180 : decode cX11_oneTick 180 = .ok (.aload_n 0, 1) := by decide +kernel
theorem dX11_oneTick_181 : decode cX11_oneTick 181 = .ok (.getfield 292, 3) := by decide +kernel
theorem dX11_oneTick_184 : decode cX11_oneTick 184 = .ok (.putfield 292, 3) := by decide +kernel
theorem dX11_oneTick_187 : decode cX11_oneTick 187 = .ok (.aload_n 0, 1) := by decide +kernel
theorem dX11_oneTick_188 : decode cX11_oneTick 188 = .ok (.getfield 257, 3) := by decide +kernel
theorem dX11_oneTick_191 : decode cX11_oneTick 191 = .ok (.invokestatic 161, 3) := by decide +kernel
theorem dX11_oneTick_194 : decode cX11_oneTick 194 = .ok (.aload_n 0, 1) := by decide +kernel
theorem dX11_oneTick_195 : decode cX11_oneTick 195 = .ok (.getfield 263, 3) := by decide +kernel
theorem dX11_oneTick_198 : decode cX11_oneTick 198 = .ok (.invokestatic 161, 3) := by decide +kernel
theorem dX11_oneTick_201 : decode cX11_oneTick 201 = .ok (.iadd, 1) := by decide +kernel
theorem dX11_oneTick_202 : decode cX11_oneTick 202 = .ok (.istore 11, 2) := by decide +kernel
theorem dX11_oneTick_204 : decode cX11_oneTick 204 = .ok (.aload_n 0, 1) := by decide +kernel
theorem dX11_oneTick_205 : decode cX11_oneTick 205 = .ok (.iload 11, 2) := by decide +kernel
theorem dX11_oneTick_207 : decode cX11_oneTick 207 = .ok (.aload_n 0, 1) := by decide +kernel
theorem dX11_oneTick_208 : decode cX11_oneTick 208 = .ok (.getfield 295, 3) := by decide +kernel
theorem dX11_oneTick_211 : decode cX11_oneTick 211 = .ok (.if_icmp .le 8, 3) := by decide +kernel
theorem dX11_oneTick_214 : decode cX11_oneTick 214 = .ok (.iload 11, 2) := by decide +kernel
theorem dX11_oneTick_216 : decode cX11_oneTick 216 = .ok (.goto 7, 3) := by decide +kernel
theorem dX11_oneTick_219 : decode cX11_oneTick 219 = .ok (.aload_n 0, 1) := by decide +kernel
theorem dX11_oneTick_220 : decode cX11_oneTick 220 = .ok (.getfield 295, 3) := by decide +kernel
theorem dX11_oneTick_223 : decode cX11_oneTick 223 = .ok (.putfield 295, 3) := by decide +kernel
theorem dX11_oneTick_226 : decode cX11_oneTick 226 = .ok (.iload 8, 2) := by decide +kernel
theorem dX11_oneTick_228 : decode cX11_oneTick 228 = .ok (.ireturn, 1) := by decide +kernel
theorem dX11_goes_0 : decode cX11_goes 0 = .ok (.aload_n 0, 1) := by decide +kernel
theorem dX11_goes_1 : decode cX11_goes 1 = .ok (.iload 5, 2) := by decide +kernel
theorem dX11_goes_3 : decode cX11_goes 3 = .ok (.putfield 247, 3) := by decide +kernel
theorem dX11_goes_6 : decode cX11_goes 6 = .ok (.aload_n 0, 1) := by decide +kernel
theorem dX11_goes_7 : decode cX11_goes 7 = .ok (.iconst 0, 1) := by decide +kernel
theorem dX11_goes_8 : decode cX11_goes 8 = .ok (.putfield 285, 3) := by decide +kernel
theorem dX11_goes_11 : decode cX11_goes 11 = .ok (.aload_n 0, 1) := by decide +kernel
theorem dX11_goes_12 : decode cX11_goes 12 = .ok (.iconst 0, 1) := by decide +kernel
theorem dX11_goes_13 : decode cX11_goes 13 = .ok (.putfield 254, 3) := by decide +kernel
theorem dX11_goes_16 : decode cX11_goes 16 = .ok (.aload_n 0, 1) := by decide +kernel
theorem dX11_goes_17 : decode cX11_goes 17 = .ok (.iconst 0, 1) := by decide +kernel
theorem dX11_goes_18 : decode cX11_goes 18 = .ok (.putfield 272, 3) := by decide +kernel
theorem dX11_goes_21 : decode cX11_goes 21 = .ok (.aload_n 0, 1) := by decide +kernel
theorem dX11_goes_22 : decode cX11_goes 22 = .ok (.iconst 0, 1) := by decide +kernel
theorem dX11_goes_23 : decode cX11_goes 23 = .ok (.putfield 269, 3) := by decide +kernel
theorem dX11_goes_26 : decode cX11_goes 26 = .ok (.aload_n 0, 1) := by decide +kernel
theorem dX11_goes_27 : decode cX11_goes 27 = .ok (.bipush (-2), 2) := by decide +kernel
theorem dX11_goes_29 : decode cX11_goes 29 = .ok (.putfield 292, 3) := by decide +kernel
theorem dX11_goes_32 : decode cX11_goes 32 = .ok (.aload_n 0, 1) := by decide +kernel
theorem dX11_goes_33 : decode cX11_goes 33 = .ok (.iconst 0, 1) := by decide +kernel
theorem dX11_goes_34 : decode cX11_goes 34 = .ok (.putfield 295, 3) := by decide +kernel
theorem dX11_goes_37 : decode cX11_goes 37 = .ok (.aload_n 0, 1) := by decide +kernel
theorem dX11_goes_38 : decode cX11_goes 38 = .ok (.iconst 0, 1) := by decide +kernel
theorem dX11_goes_39 : decode cX11_goes 39 = .ok (.putfield 257, 3) := by decide +kernel
theorem dX11_goes_42 : decode cX11_goes 42 = .ok (.aload_n 0, 1) := by decide +kernel
theorem dX11_goes_43 : decode cX11_goes 43 = .ok (.iconst 0, 1) := by decide +kernel
theorem dX11_goes_44 : decode cX11_goes 44 = .ok (.putfield 263, 3) := by decide +kernel
theorem dX11_goes_47 : decode cX11_goes 47 = .ok (.iconst 0, 1) := by decide +kernel
theorem dX11_goes_48 : decode cX11_goes 48 = .ok (.istore 7, 2) := by decide +kernel
theorem dX11_goes_50 : decode cX11_goes 50 = .ok (.iconst 0, 1) := by decide +kernel
theorem dX11_goes_51 : decode cX11_goes 51 = .ok (.istore 8, 2) := by decide +kernel
theorem dX11_goes_53 : decode cX11_goes 53 = .ok (.iload 8, 2) := by decide +kernel
theorem dX11_goes_55 : decode cX11_goes 55 = .ok (.iload 4, 2) := by decide +kernel
theorem dX11_goes_57 : decode cX11_goes 57 = .ok (.if_icmp .ge 110, 3) := by decide +kernel
theorem dX11_goes_60 : decode cX11_goes 60 = .ok (.iload 8, 2) := by decide +kernel
theorem dX11_goes_62 : decode cX11_goes 62 = .ok (.ifCond .le 14, 3) := by decide +kernel
theorem dX11_goes_65 : decode cX11_goes 65 = .ok (.iload 7, 2) := by decide +kernel
theorem dX11_goes_67 : decode cX11_goes 67 = .ok (.bipush 60, 2) := by decide +kernel
theorem dX11_goes_69 : decode cX11_goes 69 = .ok (.if_icmp .ge 7, 3) := by decide +kernel
theorem dX11_goes_72 : decode cX11_goes 72 = .ok (.iconst 1, 1) := by decide +kernel
theorem dX11_goes_73 : decode cX11_goes 73 = .ok (.goto 4, 3) := by decide +kernel
theorem dX11_goes_76 : decode cX11_goes 76 = .ok (.iconst 0, 1) := by decide +kernel
theorem dX11_goes_77 : decode cX11_goes 77 = .ok (.istore 9, 2) := by decide +kernel
theorem dX11_goes_79 : decode cX11_goes 79 = .ok (.aload_n 0, 1) := by decide +kernel
theorem dX11_goes_80 : decode cX11_goes 80 = .ok (.iload_n 1, 1) := by decide +kernel
theorem dX11_goes_81 : decode cX11_goes 81 = .ok (.iload_n 2, 1) := by decide +kernel
theorem dX11_goes_82 : decode cX11_goes 82 = .ok (.iload_n 3, 1) := by decide +kernel
theorem dX11_goes_83 : decode cX11_goes 83 = .ok (.iload 8, 2) := by decide +kernel
theorem dX11_goes_85 : decode cX11_goes 85 = .ok (.iload 7, 2) := by decide +kernel
theorem dX11_goes_87 : decode cX11_goes 87 = .ok (.iload 9, 2) := by decide +kernel
theorem dX11_goes_89 : decode cX11_goes 89 = .ok (.invokevirtual 298, 3) := by decide +kernel
theorem dX11_goes_92 : decode cX11_goes 92 = .ok (.istore 7, 2) := by decide +kernel
theorem dX11_goes_94 : decode cX11_goes 94 = .ok (.iload 6, 2) := by decide +kernel
theorem dX11_goes_96 : decode cX11_goes 96 = .ok (.ifCond .eq 65, 3) := by decide +kernel
theorem dX11_goes_99 : decode cX11_goes 99 = .ok (.aload_n 0, 1) := by decide +kernel
theorem dX11_goes_100 : decode cX11_goes 100 = .ok (.getfield 55, 3) := by decide +kernel
theorem dX11_goes_103 : decode cX11_goes 103 = .ok (.iload 8, 2) := by decide +kernel
theorem dX11_goes_105 : decode cX11_goes 105 = .ok (.iload 7, 2) := by decide +kernel
theorem dX11_goes_107 : decode cX11_goes 107 = .ok (.iastore, 1) := by decide +kernel
theorem dX11_goes_108 : decode cX11_goes 108 = .ok (.aload_n 0, 1) := by decide +kernel
theorem dX11_goes_109 : decode cX11_goes 109 = .ok (.getfield 58, 3) := by decide +kernel
theorem dX11_goes_112 : decode cX11_goes 112 = .ok (.iload 8, 2) := by decide +kernel
theorem dX11_goes_114 : decode cX11_goes 114 = .ok (.aload_n 0, 1) := by decide +kernel
theorem dX11_goes_115 : decode cX11_goes 115 = .ok (.invokevirtual 167, 3) := by decide +kernel
theorem dX11_goes_118 : decode cX11_goes 118 = .ok (.iastore, 1) := by decide +kernel
theorem dX11_goes_119 : decode cX11_goes 119 = .ok (.aload_n 0, 1) := by decide +kernel
theorem dX11_goes_120 : decode cX11_goes 120 = .ok (.getfield 61, 3) := by decide +kernel
theorem dX11_goes_123 : decode cX11_goes 123 = .ok (.iload 8, 2) := by decide +kernel
theorem dX11_goes_125 : decode cX11_goes 125 = .ok (.aload_n 0, 1) := by decide +kernel
theorem dX11_goes_126 : decode cX11_goes 126 = .ok (.aload_n 0, 1) := by decide +kernel
theorem dX11_goes_127 : decode cX11_goes 127 = .ok (.getfield 58, 3) := by decide +kernel
theorem dX11_goes_130 : decode cX11_goes 130 = .ok (.iload 8, 2) := by decide +kernel
theorem dX11_goes_132 : decode cX11_goes 132 = .ok (.iaload, 1) := by decide +kernel
theorem dX11_goes_133 : decode cX11_goes 133 = .ok (.iload 7, 2) := by decide +kernel
theorem dX11_goes_135 : decode cX11_goes 135 = .ok (.invokevirtual 182, 3) := by decide +kernel
theorem dX11_goes_138 : decode cX11_goes 138 = .ok (.iastore, 1) := by decide +kernel
theorem dX11_goes_139 : decode cX11_goes 139 = .ok (.aload_n 0, 1) := by decide +kernel
theorem dX11_goes_140 : decode cX11_goes 140 = .ok (.getfield 64, 3) := by decide +kernel
theorem dX11_goes_143 : decode cX11_goes 143 = .ok (.iload 8, 2) := by decide +kernel
theorem dX11_goes_145 : decode cX11_goes 145 = .ok (.aload_n 0, 1) := by decide +kernel
theorem dX11_goes_146 : decode cX11_goes 146 = .ok (.getfield 257, 3) := by decide +kernel
theorem dX11_goes_149 : decode cX11_goes 149 = .ok (.iastore, 1) := by decide +kernel
theorem dX11_goes_150 : decode cX11_goes 150 = .ok (.aload_n 0, 1) := by decide +kernel
theorem dX11_goes_151 : decode cX11_goes 151 = .ok (.getfield 67, 3) := by decide +kernel
theorem dX11_goes_154 : decode cX11_goes 154 = .ok (.iload 8, 2) := by decide +kernel
theorem dX11_goes_156 : decode cX11_goes 156 = .ok (.aload_n 0, 1) := by decide +kernel
theorem dX11_goes_157 : decode cX11_goes 157 = .ok (.getfield 263, 3) := by decide +kernel
theorem dX11_goes_160 : decode cX11_goes 160 = .ok (.iastore, 1) := by decide +kernel
theorem dX11_goes_161 : decode cX11_goes 161 = .ok (.iinc 8 1, 3) := by decide +kernel
theorem dX11_goes_164 : decode cX11_goes 164 = .ok (.goto (-111), 3) := by decide +kernel
theorem dX11_goes_167 : decode cX11_goes 167 = .ok (.return_, 1) := by decide +kernel
theorem dX11_isRf_0 : decode cX11_isRf 0 = .ok (.iload_n 1, 1) := by decide +kernel
theorem dX11_isRf_1 : decode cX11_isRf 1 = .ok (.ifCond .lt 37, 3) := by decide +kernel
theorem dX11_isRf_4 : decode cX11_isRf 4 = .ok (.aload_n 0, 1) := by decide +kernel
theorem dX11_isRf_5 : decode cX11_isRf 5 = .ok (.iload_n 1, 1) := by decide +kernel
theorem dX11_isRf_6 : decode cX11_isRf 6 = .ok (.bipush 10, 2) := by decide +kernel
theorem dX11_isRf_8 : decode cX11_isRf 8 = .ok (.idiv, 1) := by decide +kernel
theorem dX11_isRf_9 : decode cX11_isRf 9 = .ok (.invokevirtual 241, 3) := by decide +kernel
theorem dX11_isRf_12 : decode cX11_isRf 12 = .ok (.ifCond .eq 26, 3) := by decide +kernel
theorem dX11_isRf_15 : decode cX11_isRf 15 = .ok (.iload_n 1, 1) := by decide +kernel
theorem dX11_isRf_16 : decode cX11_isRf 16 = .ok (.bipush 10, 2) := by decide +kernel
theorem dX11_isRf_18 : decode cX11_isRf 18 = .ok (.irem, 1) := by decide +kernel
theorem dX11_isRf_19 : decode cX11_isRf 19 = .ok (.i2l, 1) := by decide +kernel
theorem dX11_isRf_20 : decode cX11_isRf 20 = .ok (.lconst 0, 1) := by decide +kernel
theorem dX11_isRf_21 : decode cX11_isRf 21 = .ok (.aload_n 0, 1) := by decide +kernel
theorem dX11_isRf_22 : decode cX11_isRf 22 = .ok (.getfield 151, 3) := by decide +kernel
theorem dX11_isRf_25 : decode cX11_isRf 25 = .ok (.iconst 1, 1) := by decide +kernel
theorem dX11_isRf_26 : decode cX11_isRf 26 = .ok (.isub, 1) := by decide +kernel
theorem dX11_isRf_27 : decode cX11_isRf 27 = .ok (.i2l, 1) := by decide +kernel
theorem dX11_isRf_28 : decode cX11_isRf 28 = .ok (.invokestatic 106, 3) := by decide +kernel
theorem dX11_isRf_31 : decode cX11_isRf 31 = .ok (.ifCond .eq 7, 3) := by decide +kernel
theorem dX11_isRf_34 : decode cX11_isRf 34 = .ok (.iconst 1, 1) := by decide +kernel
theorem dX11_isRf_35 : decode cX11_isRf 35 = .ok (.goto 4, 3) := by decide +kernel
theorem dX11_isRf_38 : decode cX11_isRf 38 = .ok (.iconst 0, 1) := by decide +kernel
theorem dX11_isRf_39 : decode cX11_isRf 39 = .ok (.ireturn, 1) := by decide +kernel
theorem dX11_isGoal_0 : decode cX11_isGoal 0 = .ok (.iload_n 0, 1) := by decide +kernel
theorem dX11_isGoal_1 : decode cX11_isGoal 1 = .ok (.i2l, 1) := by decide +kernel
theorem dX11_isGoal_2 : decode cX11_isGoal 2 = .ok (.ldc2_w 145, 3) := by decide +kernel
theorem dX11_isGoal_5 : decode cX11_isGoal 5 = .ok (.ldc2_w 180, 3) := by decide +kernel
theorem dX11_isGoal_8 : decode cX11_isGoal 8 = .ok (.invokestatic 106, 3) := by decide +kernel
theorem dX11_isGoal_11 : decode cX11_isGoal 11 = .ok (.ireturn, 1) := by decide +kernel
theorem dX11_run_0 : decode cX11_run 0 = .ok (.aload_n 0, 1) := by decide +kernel
theorem dX11_run_1 : decode cX11_run 1 = .ok (.iload_n 1, 1) := by decide +kernel
theorem dX11_run_2 : decode cX11_run 2 = .ok (.invokevirtual 302, 3) := by decide +kernel
theorem dX11_run_5 : decode cX11_run 5 = .ok (.ifCond .eq 45, 3) := by decide +kernel
theorem dX11_run_8 : decode cX11_run 8 = .ok (.iload_n 2, 1) := by decide +kernel
theorem dX11_run_9 : decode cX11_run 9 = .ok (.ifCond .lt 41, 3) := by decide +kernel
theorem dX11_run_12 : decode cX11_run 12 = .ok (.iload_n 2, 1) := by decide +kernel
theorem dX11_run_13 : decode cX11_run 13 = .ok (.sipush 1000, 3) := by decide +kernel
theorem dX11_run_16 : decode cX11_run 16 = .ok (.idiv, 1) := by decide +kernel
theorem dX11_run_17 : decode cX11_run 17 = .ok (.invokestatic 305, 3) := by decide +kernel
theorem dX11_run_20 : decode cX11_run 20 = .ok (.ifCond .eq 30, 3) := by decide +kernel
theorem dX11_run_23 : decode cX11_run 23 = .ok (.iload_n 2, 1) := by decide +kernel
theorem dX11_run_24 : decode cX11_run 24 = .ok (.sipush 1000, 3) := by decide +kernel
theorem dX11_run_27 : decode cX11_run 27 = .ok (.irem, 1) := by decide +kernel
theorem dX11_run_28 : decode cX11_run 28 = .ok (.i2l, 1) := by decide +kernel
theorem dX11_run_29 : decode cX11_run 29 = .ok (.lconst 1, 1) := by decide +kernel
theorem dX11_run_30 : decode cX11_run 30 = .ok (.ldc2_w 308, 3) := by decide +kernel
theorem dX11_run_33 : decode cX11_run 33 = .ok (.invokestatic 106, 3) := by decide +kernel
theorem dX11_run_36 : decode cX11_run 36 = .ok (.ifCond .eq 14, 3) := by decide +kernel
theorem dX11_run_39 : decode cX11_run 39 = .ok (.iload 4, 2) := by decide +kernel
theorem dX11_run_41 : decode cX11_run 41 = .ok (.i2l, 1) := by decide +kernel
theorem dX11_run_42 : decode cX11_run 42 = .ok (.lconst 0, 1) := by decide +kernel
theorem dX11_run_43 : decode cX11_run 43 = .ok (.lconst 1, 1) := by decide +kernel
theorem dX11_run_44 : decode cX11_run 44 = .ok (.invokestatic 106, 3) := by decide +kernel
theorem dX11_run_47 : decode cX11_run 47 = .ok (.ifCond .ne 5, 3) := by decide +kernel
theorem dX11_run_50 : decode cX11_run 50 = .ok (.iconst (-1), 1) := by decide +kernel
theorem dX11_run_51 : decode cX11_run 51 = .ok (.ireturn, 1) := by decide +kernel
theorem dX11_run_52 : decode cX11_run 52 = .ok (.aload_n 0, 1) := by decide +kernel
theorem dX11_run_53 : decode cX11_run 53 = .ok (.invokevirtual 310, 3) := by decide +kernel
theorem dX11_run_56 : decode cX11_run 56 = .ok (.aload_n 0, 1) := by decide +kernel
theorem dX11_run_57 : decode cX11_run 57 = .ok (.iload_n 1, 1) := by decide +kernel
theorem dX11_run_58 : decode cX11_run 58 = .ok (.bipush 10, 2) := by decide +kernel
theorem dX11_run_60 : decode cX11_run 60 = .ok (.idiv, 1) := by decide +kernel
theorem dX11_run_61 : decode cX11_run 61 = .ok (.iload_n 1, 1) := by decide +kernel
theorem dX11_run_62 : decode cX11_run 62 = .ok (.bipush 10, 2) := by decide +kernel
theorem dX11_run_64 : decode cX11_run 64 = .ok (.irem, 1) := by decide +kernel
theorem dX11_run_65 : decode cX11_run 65 = .ok (.iload_n 2, 1) := by decide +kernel
theorem dX11_run_66 : decode cX11_run 66 = .ok (.sipush 1000, 3) := by decide +kernel
theorem dX11_run_69 : decode cX11_run 69 = .ok (.idiv, 1) := by decide +kernel
theorem dX11_run_70 : decode cX11_run 70 = .ok (.iload_n 2, 1) := by decide +kernel
theorem dX11_run_71 : decode cX11_run 71 = .ok (.sipush 1000, 3) := by decide +kernel
theorem dX11_run_74 : decode cX11_run 74 = .ok (.irem, 1) := by decide +kernel
theorem dX11_run_75 : decode cX11_run 75 = .ok (.iload_n 3, 1) := by decide +kernel
theorem dX11_run_76 : decode cX11_run 76 = .ok (.iconst 1, 1) := by decide +kernel
theorem dX11_run_77 : decode cX11_run 77 = .ok (.invokevirtual 313, 3) := by decide +kernel
theorem dX11_run_80 : decode cX11_run 80 = .ok (.aload_n 0, 1) := by decide +kernel
theorem dX11_run_81 : decode cX11_run 81 = .ok (.iload_n 2, 1) := by decide +kernel
theorem dX11_run_82 : decode cX11_run 82 = .ok (.sipush 1000, 3) := by decide +kernel
theorem dX11_run_85 : decode cX11_run 85 = .ok (.irem, 1) := by decide +kernel
theorem dX11_run_86 : decode cX11_run 86 = .ok (.putfield 317, 3) := by decide +kernel
theorem dX11_run_89 : decode cX11_run 89 = .ok (.aload_n 0, 1) := by decide +kernel
theorem dX11_run_90 : decode cX11_run 90 = .ok (.aload_n 0, 1) := by decide +kernel
theorem dX11_run_91 : decode cX11_run 91 = .ok (.getfield 285, 3) := by decide +kernel
theorem dX11_run_94 : decode cX11_run 94 = .ok (.putfield 320, 3) := by decide +kernel
theorem dX11_run_97 : decode cX11_run 97 = .ok (.aload_n 0, 1) := by decide +kernel
theorem dX11_run_98 : decode cX11_run 98 = .ok (.aload_n 0, 1) := by decide +kernel
theorem dX11_run_99 : decode cX11_run 99 = .ok (.getfield 254, 3) := by decide +kernel
theorem dX11_run_102 : decode cX11_run 102 = .ok (.putfield 323, 3) := by decide +kernel
theorem dX11_run_105 : decode cX11_run 105 = .ok (.aload_n 0, 1) := by decide +kernel
theorem dX11_run_106 : decode cX11_run 106 = .ok (.aload_n 0, 1) := by decide +kernel
theorem dX11_run_107 : decode cX11_run 107 = .ok (.getfield 272, 3) := by decide +kernel
theorem dX11_run_110 : decode cX11_run 110 = .ok (.putfield 326, 3) := by decide +kernel
theorem dX11_run_113 : decode cX11_run 113 = .ok (.aload_n 0, 1) := by decide +kernel
theorem dX11_run_114 : decode cX11_run 114 = .ok (.aload_n 0, 1) := by decide +kernel
theorem dX11_run_115 : decode cX11_run 115 = .ok (.getfield 292, 3) := by decide +kernel
theorem dX11_run_118 : decode cX11_run 118 = .ok (.putfield 329, 3) := by decide +kernel
theorem dX11_run_121 : decode cX11_run 121 = .ok (.aload_n 0, 1) := by decide +kernel
theorem dX11_run_122 : decode cX11_run 122 = .ok (.aload_n 0, 1) := by decide +kernel
theorem dX11_run_123 : decode cX11_run 123 = .ok (.invokevirtual 173, 3) := by decide +kernel
theorem dX11_run_126 : decode cX11_run 126 = .ok (.putfield 332, 3) := by decide +kernel
theorem dX11_run_129 : decode cX11_run 129 = .ok (.aload_n 0, 1) := by decide +kernel
theorem dX11_run_130 : decode cX11_run 130 = .ok (.aload_n 0, 1) := by decide +kernel
theorem dX11_run_131 : decode cX11_run 131 = .ok (.getfield 295, 3) := by decide +kernel
theorem dX11_run_134 : decode cX11_run 134 = .ok (.putfield 335, 3) := by decide +kernel
theorem dX11_run_137 : decode cX11_run 137 = .ok (.aload_n 0, 1) := by decide +kernel
theorem dX11_run_138 : decode cX11_run 138 = .ok (.aload_n 0, 1) := by decide +kernel
theorem dX11_run_139 : decode cX11_run 139 = .ok (.getfield 25, 3) := by decide +kernel
theorem dX11_run_142 : decode cX11_run 142 = .ok (.iconst 4, 1) := by decide +kernel
theorem dX11_run_143 : decode cX11_run 143 = .ok (.iaload, 1) := by decide +kernel
theorem dX11_run_144 : decode cX11_run 144 = .ok (.putfield 338, 3) := by decide +kernel
theorem dX11_run_147 : decode cX11_run 147 = .ok (.iload 4, 2) := by decide +kernel
theorem dX11_run_149 : decode cX11_run 149 = .ok (.ifCond .ne 10, 3) := by decide +kernel
theorem dX11_run_152 : decode cX11_run 152 = .ok (.aload_n 0, 1) := by decide +kernel
theorem dX11_run_153 : decode cX11_run 153 = .ok (.invokevirtual 341, 3) := by decide +kernel
theorem dX11_run_156 : decode cX11_run 156 = .ok (.goto 13, 3) := by decide +kernel
theorem dX11_run_159 : decode cX11_run 159 = .ok (.aload_n 0, 1) := by decide +kernel
theorem dX11_run_160 : decode cX11_run 160 = .ok (.iconst 0, 1) := by decide +kernel
theorem dX11_run_161 : decode cX11_run 161 = .ok (.putfield 93, 3) := by decide +kernel
theorem dX11_run_164 : decode cX11_run 164 = .ok (.aload_n 0, 1) := by decide +kernel
theorem dX11_run_165 : decode cX11_run 165 = .ok (.iconst 0, 1) := by decide +kernel
theorem dX11_run_166 : decode cX11_run 166 = .ok (.putfield 96, 3) := by decide +kernel
theorem dX11_run_169 : decode cX11_run 169 = .ok (.aload_n 0, 1) := by decide +kernel
theorem dX11_run_170 : decode cX11_run 170 = .ok (.getfield 55, 3) := by decide +kernel
theorem dX11_run_173 : decode cX11_run 173 = .ok (.aload_n 0, 1) := by decide +kernel
theorem dX11_run_174 : decode cX11_run 174 = .ok (.getfield 317, 3) := by decide +kernel
theorem dX11_run_177 : decode cX11_run 177 = .ok (.iconst 1, 1) := by decide +kernel
theorem dX11_run_178 : decode cX11_run 178 = .ok (.isub, 1) := by decide +kernel
theorem dX11_run_179 : decode cX11_run 179 = .ok (.iaload, 1) := by decide +kernel
theorem dX11_run_180 : decode cX11_run 180 = .ok (.ireturn, 1) := by decide +kernel
theorem dX11_led_0 : decode cX11_led 0 = .ok (.aload_n 0, 1) := by decide +kernel
theorem dX11_led_1 : decode cX11_led 1 = .ok (.getfield 317, 3) := by decide +kernel
theorem dX11_led_4 : decode cX11_led 4 = .ok (.ifCond .eq 21, 3) := by decide +kernel
theorem dX11_led_7 : decode cX11_led 7 = .ok (.iload_n 1, 1) := by decide +kernel
theorem dX11_led_8 : decode cX11_led 8 = .ok (.i2l, 1) := by decide +kernel
theorem dX11_led_9 : decode cX11_led 9 = .ok (.ldc2_w 344, 3) := by decide +kernel
theorem dX11_led_12 : decode cX11_led 12 = .ok (.aload_n 0, 1) := by decide +kernel
theorem dX11_led_13 : decode cX11_led 13 = .ok (.getfield 317, 3) := by decide +kernel
theorem dX11_led_16 : decode cX11_led 16 = .ok (.iconst 1, 1) := by decide +kernel
theorem dX11_led_17 : decode cX11_led 17 = .ok (.isub, 1) := by decide +kernel
theorem dX11_led_18 : decode cX11_led 18 = .ok (.i2l, 1) := by decide +kernel
theorem dX11_led_19 : decode cX11_led 19 = .ok (.invokestatic 106, 3) := by decide +kernel
theorem dX11_led_22 : decode cX11_led 22 = .ok (.ifCond .ne 6, 3) := by decide +kernel
theorem dX11_led_25 : decode cX11_led 25 = .ok (.ldc 176, 2) := by decide +kernel
theorem dX11_led_27 : decode cX11_led 27 = .ok (.ireturn, 1) := by decide +kernel
theorem dX11_led_28 : decode cX11_led 28 = .ok (.iload_n 2, 1) := by decide +kernel
theorem dX11_led_29 : decode cX11_led 29 = .ok (.tableswitch 123 0 4 #[35, 53, 71, 89, 107], 35) := by decide +kernel
theorem dX11_led_64 : decode cX11_led 64 = .ok (.iload_n 1, 1) := by decide +kernel
theorem dX11_led_65 : decode cX11_led 65 = .ok (.ifCond .ge 10, 3) := by decide +kernel
theorem dX11_led_68 : decode cX11_led 68 = .ok (.aload_n 0, 1) := by decide +kernel
theorem dX11_led_69 : decode cX11_led 69 = .ok (.getfield 317, 3) := by decide +kernel
theorem dX11_led_72 : decode cX11_led 72 = .ok (.goto 9, 3) := by decide +kernel
theorem dX11_led_75 : decode cX11_led 75 = .ok (.aload_n 0, 1) := by decide +kernel
theorem dX11_led_76 : decode cX11_led 76 = .ok (.getfield 55, 3) := by decide +kernel
theorem dX11_led_79 : decode cX11_led 79 = .ok (.iload_n 1, 1) := by decide +kernel
theorem dX11_led_80 : decode cX11_led 80 = .ok (.iaload, 1) := by decide +kernel
theorem dX11_led_81 : decode cX11_led 81 = .ok (.ireturn, 1) := by decide +kernel
theorem dX11_led_82 : decode cX11_led 82 = .ok (.iload_n 1, 1) := by decide +kernel
theorem dX11_led_83 : decode cX11_led 83 = .ok (.ifCond .ge 10, 3) := by decide +kernel
theorem dX11_led_86 : decode cX11_led 86 = .ok (.aload_n 0, 1) := by decide +kernel
theorem dX11_led_87 : decode cX11_led 87 = .ok (.getfield 320, 3) := by decide +kernel
theorem dX11_led_90 : decode cX11_led 90 = .ok (.goto 9, 3) := by decide +kernel
theorem dX11_led_93 : decode cX11_led 93 = .ok (.aload_n 0, 1) := by decide +kernel
theorem dX11_led_94 : decode cX11_led 94 = .ok (.getfield 58, 3) := by decide +kernel
theorem dX11_led_97 : decode cX11_led 97 = .ok (.iload_n 1, 1) := by decide +kernel
theorem dX11_led_98 : decode cX11_led 98 = .ok (.iaload, 1) := by decide +kernel
theorem dX11_led_99 : decode cX11_led 99 = .ok (.ireturn, 1) := by decide +kernel
theorem dX11_led_100 : decode cX11_led 100 = .ok (.iload_n 1, 1) := by decide +kernel
theorem dX11_led_101 : decode cX11_led 101 = .ok (.ifCond .ge 10, 3) := by decide +kernel
theorem dX11_led_104 : decode cX11_led 104 = .ok (.aload_n 0, 1) := by decide +kernel
theorem dX11_led_105 : decode cX11_led 105 = .ok (.getfield 323, 3) := by decide +kernel
theorem dX11_led_108 : decode cX11_led 108 = .ok (.goto 9, 3) := by decide +kernel
theorem dX11_led_111 : decode cX11_led 111 = .ok (.aload_n 0, 1) := by decide +kernel
theorem dX11_led_112 : decode cX11_led 112 = .ok (.getfield 61, 3) := by decide +kernel
theorem dX11_led_115 : decode cX11_led 115 = .ok (.iload_n 1, 1) := by decide +kernel
theorem dX11_led_116 : decode cX11_led 116 = .ok (.iaload, 1) := by decide +kernel
theorem dX11_led_117 : decode cX11_led 117 = .ok (.ireturn, 1) := by decide +kernel
theorem dX11_led_118 : decode cX11_led 118 = .ok (.iload_n 1, 1) := by decide +kernel
theorem dX11_led_119 : decode cX11_led 119 = .ok (.ifCond .ge 10, 3) := by decide +kernel
theorem dX11_led_122 : decode cX11_led 122 = .ok (.aload_n 0, 1) := by decide +kernel
theorem dX11_led_123 : decode cX11_led 123 = .ok (.getfield 326, 3) := by decide +kernel
theorem dX11_led_126 : decode cX11_led 126 = .ok (.goto 9, 3) := by decide +kernel
theorem dX11_led_129 : decode cX11_led 129 = .ok (.aload_n 0, 1) := by decide +kernel
theorem dX11_led_130 : decode cX11_led 130 = .ok (.getfield 64, 3) := by decide +kernel
theorem dX11_led_133 : decode cX11_led 133 = .ok (.iload_n 1, 1) := by decide +kernel
theorem dX11_led_134 : decode cX11_led 134 = .ok (.iaload, 1) := by decide +kernel
theorem dX11_led_135 : decode cX11_led 135 = .ok (.ireturn, 1) := by decide +kernel
theorem dX11_led_136 : decode cX11_led 136 = .ok (.iload_n 1, 1) := by decide +kernel
theorem dX11_led_137 : decode cX11_led 137 = .ok (.ifCond .ge 8, 3) := by decide +kernel
theorem dX11_led_140 : decode cX11_led 140 = .ok (.ldc 176, 2) := by decide +kernel
theorem dX11_led_142 : decode cX11_led 142 = .ok (.goto 9, 3) := by decide +kernel
theorem dX11_led_145 : decode cX11_led 145 = .ok (.aload_n 0, 1) := by decide +kernel
theorem dX11_led_146 : decode cX11_led 146 = .ok (.getfield 67, 3) := by decide +kernel
theorem dX11_led_149 : decode cX11_led 149 = .ok (.iload_n 1, 1) := by decide +kernel
theorem dX11_led_150 : decode cX11_led 150 = .ok (.iaload, 1) := by decide +kernel
theorem dX11_led_151 : decode cX11_led 151 = .ok (.ireturn, 1) := by decide +kernel
theorem dX11_led_152 : decode cX11_led 152 = .ok (.ldc 176, 2) := by decide +kernel
theorem dX11_led_154 : decode cX11_led 154 = .ok (.ireturn, 1) := by decide +kernel
theorem dX11_did_0 : decode cX11_did 0 = .ok (.aload_n 0, 1) := by decide +kernel
theorem dX11_did_1 : decode cX11_did 1 = .ok (.getfield 317, 3) := by decide +kernel
theorem dX11_did_4 : decode cX11_did 4 = .ok (.ifCond .ne 6, 3) := by decide +kernel
theorem dX11_did_7 : decode cX11_did 7 = .ok (.ldc 176, 2) := by decide +kernel
theorem dX11_did_9 : decode cX11_did 9 = .ok (.ireturn, 1) := by decide +kernel
theorem dX11_did_10 : decode cX11_did 10 = .ok (.iload_n 1, 1) := by decide +kernel
theorem dX11_did_11 : decode cX11_did 11 = .ok (.tableswitch 95 0 4 #[33, 38, 43, 73, 78], 33) := by decide +kernel
theorem dX11_did_44 : decode cX11_did 44 = .ok (.aload_n 0, 1) := by decide +kernel
theorem dX11_did_45 : decode cX11_did 45 = .ok (.getfield 329, 3) := by decide +kernel
theorem dX11_did_48 : decode cX11_did 48 = .ok (.ireturn, 1) := by decide +kernel
theorem dX11_did_49 : decode cX11_did 49 = .ok (.aload_n 0, 1) := by decide +kernel
theorem dX11_did_50 : decode cX11_did 50 = .ok (.getfield 332, 3) := by decide +kernel
theorem dX11_did_53 : decode cX11_did 53 = .ok (.ireturn, 1) := by decide +kernel
theorem dX11_did_54 : decode cX11_did 54 = .ok (.aload_n 0, 1) := by decide +kernel
theorem dX11_did_55 : decode cX11_did 55 = .ok (.getfield 64, 3) := by decide +kernel
theorem dX11_did_58 : decode cX11_did 58 = .ok (.aload_n 0, 1) := by decide +kernel
theorem dX11_did_59 : decode cX11_did 59 = .ok (.getfield 317, 3) := by decide +kernel
theorem dX11_did_62 : decode cX11_did 62 = .ok (.iconst 1, 1) := by decide +kernel
theorem dX11_did_63 : decode cX11_did 63 = .ok (.isub, 1) := by decide +kernel
theorem dX11_did_64 : decode cX11_did 64 = .ok (.iaload, 1) := by decide +kernel
theorem dX11_did_65 : decode cX11_did 65 = .ok (.invokestatic 161, 3) := by decide +kernel
theorem dX11_did_68 : decode cX11_did 68 = .ok (.aload_n 0, 1) := by decide +kernel
theorem dX11_did_69 : decode cX11_did 69 = .ok (.getfield 67, 3) := by decide +kernel
theorem dX11_did_72 : decode cX11_did 72 = .ok (.aload_n 0, 1) := by decide +kernel
theorem dX11_did_73 : decode cX11_did 73 = .ok (.getfield 317, 3) := by decide +kernel
theorem dX11_did_76 : decode cX11_did 76 = .ok (.iconst 1, 1) := by decide +kernel
theorem dX11_did_77 : decode cX11_did 77 = .ok (.isub, 1) := by decide +kernel
theorem dX11_did_78 : decode cX11_did 78 = .ok (.iaload, 1) := by decide +kernel
theorem dX11_did_79 : decode cX11_did 79 = .ok (.invokestatic 161, 3) := by decide +kernel
theorem dX11_did_82 : decode cX11_did 82 = .ok (.iadd, 1) := by decide +kernel
theorem dX11_did_83 : decode cX11_did 83 = .ok (.ireturn, 1) := by decide +kernel
theorem dX11_did_84 : decode cX11_did 84 = .ok (.aload_n 0, 1) := by decide +kernel
theorem dX11_did_85 : decode cX11_did 85 = .ok (.getfield 335, 3) := by decide +kernel
theorem dX11_did_88 : decode cX11_did 88 = .ok (.ireturn, 1) := by decide +kernel
theorem dX11_did_89 : decode cX11_did 89 = .ok (.aload_n 0, 1) := by decide +kernel
theorem dX11_did_90 : decode cX11_did 90 = .ok (.getfield 335, 3) := by decide +kernel
theorem dX11_did_93 : decode cX11_did 93 = .ok (.aload_n 0, 1) := by decide +kernel
theorem dX11_did_94 : decode cX11_did 94 = .ok (.getfield 338, 3) := by decide +kernel
theorem dX11_did_97 : decode cX11_did 97 = .ok (.if_icmp .le 7, 3) := by decide +kernel
theorem dX11_did_100 : decode cX11_did 100 = .ok (.iconst 1, 1) := by decide +kernel
theorem dX11_did_101 : decode cX11_did 101 = .ok (.goto 4, 3) := by decide +kernel
theorem dX11_did_104 : decode cX11_did 104 = .ok (.iconst 0, 1) := by decide +kernel
theorem dX11_did_105 : decode cX11_did 105 = .ok (.ireturn, 1) := by decide +kernel
theorem dX11_did_106 : decode cX11_did 106 = .ok (.ldc 176, 2) := by decide +kernel
theorem dX11_did_108 : decode cX11_did 108 = .ok (.ireturn, 1) := by decide +kernel
theorem dX11_fear_0 : decode cX11_fear 0 = .ok (.iload_n 1, 1) := by decide +kernel
theorem dX11_fear_1 : decode cX11_fear 1 = .ok (.i2l, 1) := by decide +kernel
theorem dX11_fear_2 : decode cX11_fear 2 = .ok (.lconst 0, 1) := by decide +kernel
theorem dX11_fear_3 : decode cX11_fear 3 = .ok (.lconst 1, 1) := by decide +kernel
theorem dX11_fear_4 : decode cX11_fear 4 = .ok (.invokestatic 106, 3) := by decide +kernel
theorem dX11_fear_7 : decode cX11_fear 7 = .ok (.ifCond .ne 5, 3) := by decide +kernel
theorem dX11_fear_10 : decode cX11_fear 10 = .ok (.iconst (-1), 1) := by decide +kernel
theorem dX11_fear_11 : decode cX11_fear 11 = .ok (.ireturn, 1) := by decide +kernel
theorem dX11_fear_12 : decode cX11_fear 12 = .ok (.aload_n 0, 1) := by decide +kernel
theorem dX11_fear_13 : decode cX11_fear 13 = .ok (.invokevirtual 167, 3) := by decide +kernel
theorem dX11_fear_16 : decode cX11_fear 16 = .ok (.istore_n 2, 1) := by decide +kernel
theorem dX11_fear_17 : decode cX11_fear 17 = .ok (.bipush 10, 2) := by decide +kernel
theorem dX11_fear_19 : decode cX11_fear 19 = .ok (.istore_n 3, 1) := by decide +kernel
theorem dX11_fear_20 : decode cX11_fear 20 = .ok (.bipush 20, 2) := by decide +kernel
theorem dX11_fear_22 : decode cX11_fear 22 = .ok (.istore 4, 2) := by decide +kernel
theorem dX11_fear_24 : decode cX11_fear 24 = .ok (.iload 4, 2) := by decide +kernel
theorem dX11_fear_26 : decode cX11_fear 26 = .ok (.sipush 1200, 3) := by decide +kernel
theorem dX11_fear_29 : decode cX11_fear 29 = .ok (.if_icmp .gt 32, 3) := by decide +kernel
theorem dX11_fear_32 : decode cX11_fear 32 = .ok (.aload_n 0, 1) := by decide +kernel
theorem dX11_fear_33 : decode cX11_fear 33 = .ok (.iload_n 2, 1) := by decide +kernel
theorem dX11_fear_34 : decode cX11_fear 34 = .ok (.iload 4, 2) := by decide +kernel
theorem dX11_fear_36 : decode cX11_fear 36 = .ok (.invokevirtual 182, 3) := by decide +kernel
theorem dX11_fear_39 : decode cX11_fear 39 = .ok (.aload_n 0, 1) := by decide +kernel
theorem dX11_fear_40 : decode cX11_fear 40 = .ok (.iload_n 2, 1) := by decide +kernel
theorem dX11_fear_41 : decode cX11_fear 41 = .ok (.iload_n 3, 1) := by decide +kernel
theorem dX11_fear_42 : decode cX11_fear 42 = .ok (.invokevirtual 182, 3) := by decide +kernel
theorem dX11_fear_45 : decode cX11_fear 45 = .ok (.if_icmp .le 8, 3) := by decide +kernel
theorem dX11_fear_48 : decode cX11_fear 48 = .ok (.iload 4, 2) := by decide +kernel
theorem dX11_fear_50 : decode cX11_fear 50 = .ok (.goto 4, 3) := by decide +kernel
theorem dX11_fear_53 : decode cX11_fear 53 = .ok (.iload_n 3, 1) := by decide +kernel
theorem dX11_fear_54 : decode cX11_fear 54 = .ok (.istore_n 3, 1) := by decide +kernel
theorem dX11_fear_55 : decode cX11_fear 55 = .ok (.iinc 4 10, 3) := by decide +kernel
theorem dX11_fear_58 : decode cX11_fear 58 = .ok (.goto (-34), 3) := by decide +kernel
theorem dX11_fear_61 : decode cX11_fear 61 = .ok (.iload_n 1, 1) := by decide +kernel
theorem dX11_fear_62 : decode cX11_fear 62 = .ok (.ifCond .ne 7, 3) := by decide +kernel
theorem dX11_fear_65 : decode cX11_fear 65 = .ok (.iload_n 3, 1) := by decide +kernel
theorem dX11_fear_66 : decode cX11_fear 66 = .ok (.goto 9, 3) := by decide +kernel
theorem dX11_fear_69 : decode cX11_fear 69 = .ok (.aload_n 0, 1) := by decide +kernel
theorem dX11_fear_70 : decode cX11_fear 70 = .ok (.iload_n 2, 1) := by decide +kernel
theorem dX11_fear_71 : decode cX11_fear 71 = .ok (.iload_n 3, 1) := by decide +kernel
theorem dX11_fear_72 : decode cX11_fear 72 = .ok (.invokevirtual 182, 3) := by decide +kernel
theorem dX11_fear_75 : decode cX11_fear 75 = .ok (.ireturn, 1) := by decide +kernel
theorem dX11_may_0 : decode cX11_may 0 = .ok (.iload_n 1, 1) := by decide +kernel
theorem dX11_may_1 : decode cX11_may 1 = .ok (.i2l, 1) := by decide +kernel
theorem dX11_may_2 : decode cX11_may 2 = .ok (.lconst 0, 1) := by decide +kernel
theorem dX11_may_3 : decode cX11_may 3 = .ok (.aload_n 0, 1) := by decide +kernel
theorem dX11_may_4 : decode cX11_may 4 = .ok (.getfield 151, 3) := by decide +kernel
theorem dX11_may_7 : decode cX11_may 7 = .ok (.iconst 1, 1) := by decide +kernel
theorem dX11_may_8 : decode cX11_may 8 = .ok (.isub, 1) := by decide +kernel
theorem dX11_may_9 : decode cX11_may 9 = .ok (.i2l, 1) := by decide +kernel
theorem dX11_may_10 : decode cX11_may 10 = .ok (.invokestatic 106, 3) := by decide +kernel
theorem dX11_may_13 : decode cX11_may 13 = .ok (.ifCond .eq 10, 3) := by decide +kernel
theorem dX11_may_16 : decode cX11_may 16 = .ok (.iload_n 2, 1) := by decide +kernel
theorem dX11_may_17 : decode cX11_may 17 = .ok (.invokestatic 305, 3) := by decide +kernel
theorem dX11_may_20 : decode cX11_may 20 = .ok (.ifCond .ne 5, 3) := by decide +kernel
theorem dX11_may_23 : decode cX11_may 23 = .ok (.iconst (-1), 1) := by decide +kernel
theorem dX11_may_24 : decode cX11_may 24 = .ok (.ireturn, 1) := by decide +kernel
theorem dX11_may_25 : decode cX11_may 25 = .ok (.iconst 0, 1) := by decide +kernel
theorem dX11_may_26 : decode cX11_may 26 = .ok (.istore_n 3, 1) := by decide +kernel
theorem dX11_may_27 : decode cX11_may 27 = .ok (.iload_n 3, 1) := by decide +kernel
theorem dX11_may_28 : decode cX11_may 28 = .ok (.sipush 9999, 3) := by decide +kernel
theorem dX11_may_31 : decode cX11_may 31 = .ok (.if_icmp .gt 45, 3) := by decide +kernel
theorem dX11_may_34 : decode cX11_may 34 = .ok (.bipush 10, 2) := by decide +kernel
theorem dX11_may_36 : decode cX11_may 36 = .ok (.istore 4, 2) := by decide +kernel
theorem dX11_may_38 : decode cX11_may 38 = .ok (.iload 4, 2) := by decide +kernel
theorem dX11_may_40 : decode cX11_may 40 = .ok (.iload_n 2, 1) := by decide +kernel
theorem dX11_may_41 : decode cX11_may 41 = .ok (.if_icmp .gt 29, 3) := by decide +kernel
theorem dX11_may_44 : decode cX11_may 44 = .ok (.aload_n 0, 1) := by decide +kernel
theorem dX11_may_45 : decode cX11_may 45 = .ok (.iload_n 3, 1) := by decide +kernel
theorem dX11_may_46 : decode cX11_may 46 = .ok (.iload 4, 2) := by decide +kernel
theorem dX11_may_48 : decode cX11_may 48 = .ok (.invokevirtual 182, 3) := by decide +kernel
theorem dX11_may_51 : decode cX11_may 51 = .ok (.aload_n 0, 1) := by decide +kernel
theorem dX11_may_52 : decode cX11_may 52 = .ok (.getfield 28, 3) := by decide +kernel
theorem dX11_may_55 : decode cX11_may 55 = .ok (.iload_n 1, 1) := by decide +kernel
theorem dX11_may_56 : decode cX11_may 56 = .ok (.iaload, 1) := by decide +kernel
theorem dX11_may_57 : decode cX11_may 57 = .ok (.if_icmp .le 7, 3) := by decide +kernel
theorem dX11_may_60 : decode cX11_may 60 = .ok (.iload_n 3, 1) := by decide +kernel
theorem dX11_may_61 : decode cX11_may 61 = .ok (.iconst 1, 1) := by decide +kernel
theorem dX11_may_62 : decode cX11_may 62 = .ok (.isub, 1) := by decide +kernel
theorem dX11_may_63 : decode cX11_may 63 = .ok (.ireturn, 1) := by decide +kernel
theorem dX11_may_64 : decode cX11_may 64 = .ok (.iinc 4 10, 3) := by decide +kernel
theorem dX11_may_67 : decode cX11_may 67 = .ok (.goto (-29), 3) := by decide +kernel
theorem dX11_may_70 : decode cX11_may 70 = .ok (.iinc 3 1, 3) := by decide +kernel
theorem dX11_may_73 : decode cX11_may 73 = .ok (.goto (-46), 3) := by decide +kernel
theorem dX11_may_76 : decode cX11_may 76 = .ok (.sipush 9999, 3) := by decide +kernel
theorem dX11_may_79 : decode cX11_may 79 = .ok (.ireturn, 1) := by decide +kernel
theorem dX11_weight_0 : decode cX11_weight 0 = .ok (.iload_n 1, 1) := by decide +kernel
theorem dX11_weight_1 : decode cX11_weight 1 = .ok (.i2l, 1) := by decide +kernel
theorem dX11_weight_2 : decode cX11_weight 2 = .ok (.lconst 0, 1) := by decide +kernel
theorem dX11_weight_3 : decode cX11_weight 3 = .ok (.lconst 1, 1) := by decide +kernel
theorem dX11_weight_4 : decode cX11_weight 4 = .ok (.invokestatic 106, 3) := by decide +kernel
theorem dX11_weight_7 : decode cX11_weight 7 = .ok (.ifCond .ne 5, 3) := by decide +kernel
theorem dX11_weight_10 : decode cX11_weight 10 = .ok (.iconst (-1), 1) := by decide +kernel
theorem dX11_weight_11 : decode cX11_weight 11 = .ok (.ireturn, 1) := by decide +kernel
theorem dX11_weight_12 : decode cX11_weight 12 = .ok (.aload_n 0, 1) := by decide +kernel
theorem dX11_weight_13 : decode cX11_weight 13 = .ok (.getfield 9, 3) := by decide +kernel
theorem dX11_weight_16 : decode cX11_weight 16 = .ok (.bipush 36, 2) := by decide +kernel
theorem dX11_weight_18 : decode cX11_weight 18 = .ok (.iaload, 1) := by decide +kernel
theorem dX11_weight_19 : decode cX11_weight 19 = .ok (.istore_n 2, 1) := by decide +kernel
theorem dX11_weight_20 : decode cX11_weight 20 = .ok (.iconst (-1), 1) := by decide +kernel
theorem dX11_weight_21 : decode cX11_weight 21 = .ok (.istore_n 3, 1) := by decide +kernel
theorem dX11_weight_22 : decode cX11_weight 22 = .ok (.iconst 0, 1) := by decide +kernel
theorem dX11_weight_23 : decode cX11_weight 23 = .ok (.istore 4, 2) := by decide +kernel
theorem dX11_weight_25 : decode cX11_weight 25 = .ok (.iconst 0, 1) := by decide +kernel
theorem dX11_weight_26 : decode cX11_weight 26 = .ok (.istore 5, 2) := by decide +kernel
theorem dX11_weight_28 : decode cX11_weight 28 = .ok (.iload 5, 2) := by decide +kernel
theorem dX11_weight_30 : decode cX11_weight 30 = .ok (.bipush 99, 2) := by decide +kernel
theorem dX11_weight_32 : decode cX11_weight 32 = .ok (.if_icmp .gt 69, 3) := by decide +kernel
theorem dX11_weight_35 : decode cX11_weight 35 = .ok (.iconst 0, 1) := by decide +kernel
theorem dX11_weight_36 : decode cX11_weight 36 = .ok (.istore 6, 2) := by decide +kernel
theorem dX11_weight_38 : decode cX11_weight 38 = .ok (.iload 6, 2) := by decide +kernel
theorem dX11_weight_40 : decode cX11_weight 40 = .ok (.bipush 12, 2) := by decide +kernel
theorem dX11_weight_42 : decode cX11_weight 42 = .ok (.if_icmp .ge 53, 3) := by decide +kernel
theorem dX11_weight_45 : decode cX11_weight 45 = .ok (.aload_n 0, 1) := by decide +kernel
theorem dX11_weight_46 : decode cX11_weight 46 = .ok (.getfield 9, 3) := by decide +kernel
theorem dX11_weight_49 : decode cX11_weight 49 = .ok (.bipush 36, 2) := by decide +kernel
theorem dX11_weight_51 : decode cX11_weight 51 = .ok (.bipush 100, 2) := by decide +kernel
theorem dX11_weight_53 : decode cX11_weight 53 = .ok (.iload 5, 2) := by decide +kernel
theorem dX11_weight_55 : decode cX11_weight 55 = .ok (.imul, 1) := by decide +kernel
theorem dX11_weight_56 : decode cX11_weight 56 = .ok (.iload 6, 2) := by decide +kernel
theorem dX11_weight_58 : decode cX11_weight 58 = .ok (.iadd, 1) := by decide +kernel
theorem dX11_weight_59 : decode cX11_weight 59 = .ok (.iastore, 1) := by decide +kernel
theorem dX11_weight_60 : decode cX11_weight 60 = .ok (.aload_n 0, 1) := by decide +kernel
theorem dX11_weight_61 : decode cX11_weight 61 = .ok (.invokevirtual 167, 3) := by decide +kernel
theorem dX11_weight_64 : decode cX11_weight 64 = .ok (.istore 7, 2) := by decide +kernel
theorem dX11_weight_66 : decode cX11_weight 66 = .ok (.iload_n 3, 1) := by decide +kernel
theorem dX11_weight_67 : decode cX11_weight 67 = .ok (.ifCond .lt 10, 3) := by decide +kernel
theorem dX11_weight_70 : decode cX11_weight 70 = .ok (.iload 7, 2) := by decide +kernel
theorem dX11_weight_72 : decode cX11_weight 72 = .ok (.iload 4, 2) := by decide +kernel
theorem dX11_weight_74 : decode cX11_weight 74 = .ok (.if_icmp .ge 15, 3) := by decide +kernel
theorem dX11_weight_77 : decode cX11_weight 77 = .ok (.aload_n 0, 1) := by decide +kernel
theorem dX11_weight_78 : decode cX11_weight 78 = .ok (.getfield 9, 3) := by decide +kernel
theorem dX11_weight_81 : decode cX11_weight 81 = .ok (.bipush 36, 2) := by decide +kernel
theorem dX11_weight_83 : decode cX11_weight 83 = .ok (.iaload, 1) := by decide +kernel
theorem dX11_weight_84 : decode cX11_weight 84 = .ok (.istore_n 3, 1) := by decide +kernel
theorem dX11_weight_85 : decode cX11_weight 85 = .ok (.iload 7, 2) := by decide +kernel
theorem dX11_weight_87 : decode cX11_weight 87 = .ok (.istore 4, 2) := by decide +kernel
theorem dX11_weight_89 : decode cX11_weight 89 = .ok (.iinc 6 1, 3) := by decide +kernel
theorem dX11_weight_92 : decode cX11_weight 92 = .ok (.goto (-54), 3) := by decide +kernel
theorem dX11_weight_95 : decode cX11_weight 95 = .ok (.iinc 5 1, 3) := by decide +kernel
theorem dX11_weight_98 : decode cX11_weight 98 = .ok (.goto (-70), 3) := by decide +kernel
theorem dX11_weight_101 : decode cX11_weight 101 = .ok (.aload_n 0, 1) := by decide +kernel
theorem dX11_weight_102 : decode cX11_weight 102 = .ok (.getfield 9, 3) := by decide +kernel
theorem dX11_weight_105 : decode cX11_weight 105 = .ok (.bipush 36, 2) := by decide +kernel
theorem dX11_weight_107 : decode cX11_weight 107 = .ok (.iload_n 2, 1) := by decide +kernel
theorem dX11_weight_108 : decode cX11_weight 108 = .ok (.iastore, 1) := by decide +kernel
theorem dX11_weight_109 : decode cX11_weight 109 = .ok (.iload_n 1, 1) := by decide +kernel
theorem dX11_weight_110 : decode cX11_weight 110 = .ok (.ifCond .ne 7, 3) := by decide +kernel
theorem dX11_weight_113 : decode cX11_weight 113 = .ok (.iload_n 3, 1) := by decide +kernel
theorem dX11_weight_114 : decode cX11_weight 114 = .ok (.goto 5, 3) := by decide +kernel
theorem dX11_weight_117 : decode cX11_weight 117 = .ok (.iload 4, 2) := by decide +kernel
theorem dX11_weight_119 : decode cX11_weight 119 = .ok (.ireturn, 1) := by decide +kernel
theorem dX11_spread_0 : decode cX11_spread 0 = .ok (.iload_n 1, 1) := by decide +kernel
theorem dX11_spread_1 : decode cX11_spread 1 = .ok (.i2l, 1) := by decide +kernel
theorem dX11_spread_2 : decode cX11_spread 2 = .ok (.lconst 1, 1) := by decide +kernel
theorem dX11_spread_3 : decode cX11_spread 3 = .ok (.ldc2_w 110, 3) := by decide +kernel
theorem dX11_spread_6 : decode cX11_spread 6 = .ok (.invokestatic 106, 3) := by decide +kernel
theorem dX11_spread_9 : decode cX11_spread 9 = .ok (.ifCond .eq 15, 3) := by decide +kernel
theorem dX11_spread_12 : decode cX11_spread 12 = .ok (.iload_n 3, 1) := by decide +kernel
theorem dX11_spread_13 : decode cX11_spread 13 = .ok (.i2l, 1) := by decide +kernel
theorem dX11_spread_14 : decode cX11_spread 14 = .ok (.lconst 0, 1) := by decide +kernel
theorem dX11_spread_15 : decode cX11_spread 15 = .ok (.ldc2_w 135, 3) := by decide +kernel
theorem dX11_spread_18 : decode cX11_spread 18 = .ok (.invokestatic 106, 3) := by decide +kernel
theorem dX11_spread_21 : decode cX11_spread 21 = .ok (.ifCond .ne 5, 3) := by decide +kernel
theorem dX11_spread_24 : decode cX11_spread 24 = .ok (.iconst (-1), 1) := by decide +kernel
theorem dX11_spread_25 : decode cX11_spread 25 = .ok (.ireturn, 1) := by decide +kernel
theorem dX11_spread_26 : decode cX11_spread 26 = .ok (.aload_n 0, 1) := by decide +kernel
theorem dX11_spread_27 : decode cX11_spread 27 = .ok (.invokevirtual 310, 3) := by decide +kernel
theorem dX11_spread_30 : decode cX11_spread 30 = .ok (.aload_n 0, 1) := by decide +kernel
theorem dX11_spread_31 : decode cX11_spread 31 = .ok (.iload_n 2, 1) := by decide +kernel
theorem dX11_spread_32 : decode cX11_spread 32 = .ok (.putfield 247, 3) := by decide +kernel
theorem dX11_spread_35 : decode cX11_spread 35 = .ok (.iconst (-1), 1) := by decide +kernel
theorem dX11_spread_36 : decode cX11_spread 36 = .ok (.istore 4, 2) := by decide +kernel
theorem dX11_spread_38 : decode cX11_spread 38 = .ok (.iconst 0, 1) := by decide +kernel
theorem dX11_spread_39 : decode cX11_spread 39 = .ok (.istore 5, 2) := by decide +kernel
theorem dX11_spread_41 : decode cX11_spread 41 = .ok (.iconst 0, 1) := by decide +kernel
theorem dX11_spread_42 : decode cX11_spread 42 = .ok (.istore 6, 2) := by decide +kernel
theorem dX11_spread_44 : decode cX11_spread 44 = .ok (.iconst 0, 1) := by decide +kernel
theorem dX11_spread_45 : decode cX11_spread 45 = .ok (.istore 7, 2) := by decide +kernel
theorem dX11_spread_47 : decode cX11_spread 47 = .ok (.iload 7, 2) := by decide +kernel
theorem dX11_spread_49 : decode cX11_spread 49 = .ok (.iload_n 1, 1) := by decide +kernel
theorem dX11_spread_50 : decode cX11_spread 50 = .ok (.if_icmp .ge 46, 3) := by decide +kernel
theorem dX11_spread_53 : decode cX11_spread 53 = .ok (.aload_n 0, 1) := by decide +kernel
theorem dX11_spread_54 : decode cX11_spread 54 = .ok (.invokevirtual 279, 3) := by decide +kernel
theorem dX11_spread_57 : decode cX11_spread 57 = .ok (.aload_n 0, 1) := by decide +kernel
theorem dX11_spread_58 : decode cX11_spread 58 = .ok (.invokevirtual 167, 3) := by decide +kernel
theorem dX11_spread_61 : decode cX11_spread 61 = .ok (.istore 8, 2) := by decide +kernel
theorem dX11_spread_63 : decode cX11_spread 63 = .ok (.iload 6, 2) := by decide +kernel
theorem dX11_spread_65 : decode cX11_spread 65 = .ok (.iload 8, 2) := by decide +kernel
theorem dX11_spread_67 : decode cX11_spread 67 = .ok (.iadd, 1) := by decide +kernel
theorem dX11_spread_68 : decode cX11_spread 68 = .ok (.istore 6, 2) := by decide +kernel
theorem dX11_spread_70 : decode cX11_spread 70 = .ok (.iload 4, 2) := by decide +kernel
theorem dX11_spread_72 : decode cX11_spread 72 = .ok (.ifCond .lt 10, 3) := by decide +kernel
theorem dX11_spread_75 : decode cX11_spread 75 = .ok (.iload 8, 2) := by decide +kernel
theorem dX11_spread_77 : decode cX11_spread 77 = .ok (.iload 5, 2) := by decide +kernel
theorem dX11_spread_79 : decode cX11_spread 79 = .ok (.if_icmp .ge 11, 3) := by decide +kernel
theorem dX11_spread_82 : decode cX11_spread 82 = .ok (.iload 7, 2) := by decide +kernel
theorem dX11_spread_84 : decode cX11_spread 84 = .ok (.istore 4, 2) := by decide +kernel
theorem dX11_spread_86 : decode cX11_spread 86 = .ok (.iload 8, 2) := by decide +kernel
theorem dX11_spread_88 : decode cX11_spread 88 = .ok (.istore 5, 2) := by decide +kernel
theorem dX11_spread_90 : decode cX11_spread 90 = .ok (.iinc 7 1, 3) := by decide +kernel
theorem dX11_spread_93 : decode cX11_spread 93 = .ok (.goto (-46), 3) := by decide +kernel
theorem dX11_spread_96 : decode cX11_spread 96 = .ok (.aload_n 0, 1) := by decide +kernel
theorem dX11_spread_97 : decode cX11_spread 97 = .ok (.invokevirtual 341, 3) := by decide +kernel
theorem dX11_spread_100 : decode cX11_spread 100 = .ok (.iload_n 3, 1) := by decide +kernel
theorem dX11_spread_101 : decode cX11_spread 101 = .ok (.ifCond .ne 8, 3) := by decide +kernel
theorem dX11_spread_104 : decode cX11_spread 104 = .ok (.iload 4, 2) := by decide +kernel
theorem dX11_spread_106 : decode cX11_spread 106 = .ok (.goto 17, 3) := by decide +kernel
theorem dX11_spread_109 : decode cX11_spread 109 = .ok (.iload_n 3, 1) := by decide +kernel
theorem dX11_spread_110 : decode cX11_spread 110 = .ok (.iconst 1, 1) := by decide +kernel
theorem dX11_spread_111 : decode cX11_spread 111 = .ok (.if_icmp .ne 8, 3) := by decide +kernel
theorem dX11_spread_114 : decode cX11_spread 114 = .ok (.iload 5, 2) := by decide +kernel
theorem dX11_spread_116 : decode cX11_spread 116 = .ok (.goto 7, 3) := by decide +kernel
theorem dX11_spread_119 : decode cX11_spread 119 = .ok (.iload 6, 2) := by decide +kernel
theorem dX11_spread_121 : decode cX11_spread 121 = .ok (.iload_n 1, 1) := by decide +kernel
theorem dX11_spread_122 : decode cX11_spread 122 = .ok (.idiv, 1) := by decide +kernel
theorem dX11_spread_123 : decode cX11_spread 123 = .ok (.ireturn, 1) := by decide +kernel
theorem dX11_findLoads_0 : decode cX11_findLoads 0 = .ok (.aload_n 0, 1) := by decide +kernel
theorem dX11_findLoads_1 : decode cX11_findLoads 1 = .ok (.iconst 0, 1) := by decide +kernel
theorem dX11_findLoads_2 : decode cX11_findLoads 2 = .ok (.putfield 346, 3) := by decide +kernel
theorem dX11_findLoads_5 : decode cX11_findLoads 5 = .ok (.aload_n 0, 1) := by decide +kernel
theorem dX11_findLoads_6 : decode cX11_findLoads 6 = .ok (.iconst 0, 1) := by decide +kernel
theorem dX11_findLoads_7 : decode cX11_findLoads 7 = .ok (.putfield 349, 3) := by decide +kernel
theorem dX11_findLoads_10 : decode cX11_findLoads 10 = .ok (.aload_n 0, 1) := by decide +kernel
theorem dX11_findLoads_11 : decode cX11_findLoads 11 = .ok (.iconst 0, 1) := by decide +kernel
theorem dX11_findLoads_12 : decode cX11_findLoads 12 = .ok (.putfield 352, 3) := by decide +kernel
theorem dX11_findLoads_15 : decode cX11_findLoads 15 = .ok (.aload_n 0, 1) := by decide +kernel
theorem dX11_findLoads_16 : decode cX11_findLoads 16 = .ok (.iconst 0, 1) := by decide +kernel
theorem dX11_findLoads_17 : decode cX11_findLoads 17 = .ok (.putfield 355, 3) := by decide +kernel
theorem dX11_findLoads_20 : decode cX11_findLoads 20 = .ok (.aload_n 0, 1) := by decide +kernel
theorem dX11_findLoads_21 : decode cX11_findLoads 21 = .ok (.invokevirtual 310, 3) := by decide +kernel
theorem dX11_findLoads_24 : decode cX11_findLoads 24 = .ok (.iconst 0, 1) := by decide +kernel
theorem dX11_findLoads_25 : decode cX11_findLoads 25 = .ok (.istore 6, 2) := by decide +kernel
theorem dX11_findLoads_27 : decode cX11_findLoads 27 = .ok (.iload 6, 2) := by decide +kernel
theorem dX11_findLoads_29 : decode cX11_findLoads 29 = .ok (.iload 4, 2) := by decide +kernel
theorem dX11_findLoads_31 : decode cX11_findLoads 31 = .ok (.if_icmp .ge 113, 3) := by decide +kernel
theorem dX11_findLoads_34 : decode cX11_findLoads 34 = .ok (.aload_n 0, 1) := by decide +kernel
theorem dX11_findLoads_35 : decode cX11_findLoads 35 = .ok (.iload_n 1, 1) := by decide +kernel
theorem dX11_findLoads_36 : decode cX11_findLoads 36 = .ok (.iload_n 2, 1) := by decide +kernel
theorem dX11_findLoads_37 : decode cX11_findLoads 37 = .ok (.iload_n 3, 1) := by decide +kernel
theorem dX11_findLoads_38 : decode cX11_findLoads 38 = .ok (.bipush 60, 2) := by decide +kernel
theorem dX11_findLoads_40 : decode cX11_findLoads 40 = .ok (.iload 5, 2) := by decide +kernel
theorem dX11_findLoads_42 : decode cX11_findLoads 42 = .ok (.iload 6, 2) := by decide +kernel
theorem dX11_findLoads_44 : decode cX11_findLoads 44 = .ok (.iadd, 1) := by decide +kernel
theorem dX11_findLoads_45 : decode cX11_findLoads 45 = .ok (.iconst 0, 1) := by decide +kernel
theorem dX11_findLoads_46 : decode cX11_findLoads 46 = .ok (.invokevirtual 313, 3) := by decide +kernel
theorem dX11_findLoads_49 : decode cX11_findLoads 49 = .ok (.aload_n 0, 1) := by decide +kernel
theorem dX11_findLoads_50 : decode cX11_findLoads 50 = .ok (.dup, 1) := by decide +kernel
theorem dX11_findLoads_51 : decode cX11_findLoads 51 = .ok (.getfield 346, 3) := by decide +kernel
theorem dX11_findLoads_54 : decode cX11_findLoads 54 = .ok (.aload_n 0, 1) := by decide +kernel
theorem dX11_findLoads_55 : decode cX11_findLoads 55 = .ok (.getfield 292, 3) := by decide +kernel
theorem dX11_findLoads_58 : decode cX11_findLoads 58 = .ok (.ifCond .lt 7, 3) := by decide +kernel
theorem dX11_findLoads_61 : decode cX11_findLoads 61 = .ok (.iconst 1, 1) := by decide +kernel
theorem dX11_findLoads_62 : decode cX11_findLoads 62 = .ok (.goto 4, 3) := by decide +kernel
theorem dX11_findLoads_65 : decode cX11_findLoads 65 = .ok (.iconst 0, 1) := by decide +kernel
theorem dX11_findLoads_66 : decode cX11_findLoads 66 = .ok (.iadd, 1) := by decide +kernel
theorem dX11_findLoads_67 : decode cX11_findLoads 67 = .ok (.putfield 346, 3) := by decide +kernel
theorem dX11_findLoads_70 : decode cX11_findLoads 70 = .ok (.aload_n 0, 1) := by decide +kernel
theorem dX11_findLoads_71 : decode cX11_findLoads 71 = .ok (.dup, 1) := by decide +kernel
theorem dX11_findLoads_72 : decode cX11_findLoads 72 = .ok (.getfield 349, 3) := by decide +kernel
theorem dX11_findLoads_75 : decode cX11_findLoads 75 = .ok (.aload_n 0, 1) := by decide +kernel
theorem dX11_findLoads_76 : decode cX11_findLoads 76 = .ok (.invokevirtual 173, 3) := by decide +kernel
theorem dX11_findLoads_79 : decode cX11_findLoads 79 = .ok (.iadd, 1) := by decide +kernel
theorem dX11_findLoads_80 : decode cX11_findLoads 80 = .ok (.putfield 349, 3) := by decide +kernel
theorem dX11_findLoads_83 : decode cX11_findLoads 83 = .ok (.aload_n 0, 1) := by decide +kernel
theorem dX11_findLoads_84 : decode cX11_findLoads 84 = .ok (.dup, 1) := by decide +kernel
theorem dX11_findLoads_85 : decode cX11_findLoads 85 = .ok (.getfield 352, 3) := by decide +kernel
theorem dX11_findLoads_88 : decode cX11_findLoads 88 = .ok (.aload_n 0, 1) := by decide +kernel
theorem dX11_findLoads_89 : decode cX11_findLoads 89 = .ok (.getfield 257, 3) := by decide +kernel
theorem dX11_findLoads_92 : decode cX11_findLoads 92 = .ok (.invokestatic 161, 3) := by decide +kernel
theorem dX11_findLoads_95 : decode cX11_findLoads 95 = .ok (.aload_n 0, 1) := by decide +kernel
theorem dX11_findLoads_96 : decode cX11_findLoads 96 = .ok (.getfield 263, 3) := by decide +kernel
theorem dX11_findLoads_99 : decode cX11_findLoads 99 = .ok (.invokestatic 161, 3) := by decide +kernel
theorem dX11_findLoads_102 : decode cX11_findLoads 102 = .ok (.iadd, 1) := by decide +kernel
theorem dX11_findLoads_103 : decode cX11_findLoads 103 = .ok (.iadd, 1) := by decide +kernel
theorem dX11_findLoads_104 : decode cX11_findLoads 104 = .ok (.putfield 352, 3) := by decide +kernel
theorem dX11_findLoads_107 : decode cX11_findLoads 107 = .ok (.aload_n 0, 1) := by decide +kernel
theorem dX11_findLoads_108 : decode cX11_findLoads 108 = .ok (.dup, 1) := by decide +kernel
theorem dX11_findLoads_109 : decode cX11_findLoads 109 = .ok (.getfield 355, 3) := by decide +kernel
theorem dX11_findLoads_112 : decode cX11_findLoads 112 = .ok (.aload_n 0, 1) := by decide +kernel
theorem dX11_findLoads_113 : decode cX11_findLoads 113 = .ok (.getfield 295, 3) := by decide +kernel
theorem dX11_findLoads_116 : decode cX11_findLoads 116 = .ok (.aload_n 0, 1) := by decide +kernel
theorem dX11_findLoads_117 : decode cX11_findLoads 117 = .ok (.getfield 25, 3) := by decide +kernel
theorem dX11_findLoads_120 : decode cX11_findLoads 120 = .ok (.iconst 4, 1) := by decide +kernel
theorem dX11_findLoads_121 : decode cX11_findLoads 121 = .ok (.iaload, 1) := by decide +kernel
theorem dX11_findLoads_122 : decode cX11_findLoads 122 = .ok (.if_icmp .le 7, 3) := by decide +kernel
theorem dX11_findLoads_125 : decode cX11_findLoads 125 = .ok (.iconst 1, 1) := by decide +kernel
theorem dX11_findLoads_126 : decode cX11_findLoads 126 = .ok (.goto 4, 3) := by decide +kernel
theorem dX11_findLoads_129 : decode cX11_findLoads 129 = .ok (.iconst 0, 1) := by decide +kernel
theorem dX11_findLoads_130 : decode cX11_findLoads 130 = .ok (.iadd, 1) := by decide +kernel
theorem dX11_findLoads_131 : decode cX11_findLoads 131 = .ok (.putfield 355, 3) := by decide +kernel
theorem dX11_findLoads_134 : decode cX11_findLoads 134 = .ok (.aload_n 0, 1) := by decide +kernel
theorem dX11_findLoads_135 : decode cX11_findLoads 135 = .ok (.invokevirtual 341, 3) := by decide +kernel
theorem dX11_findLoads_138 : decode cX11_findLoads 138 = .ok (.iinc 6 1, 3) := by decide +kernel
theorem dX11_findLoads_141 : decode cX11_findLoads 141 = .ok (.goto (-114), 3) := by decide +kernel
theorem dX11_findLoads_144 : decode cX11_findLoads 144 = .ok (.aload_n 0, 1) := by decide +kernel
theorem dX11_findLoads_145 : decode cX11_findLoads 145 = .ok (.dup, 1) := by decide +kernel
theorem dX11_findLoads_146 : decode cX11_findLoads 146 = .ok (.getfield 349, 3) := by decide +kernel
theorem dX11_findLoads_149 : decode cX11_findLoads 149 = .ok (.iload 4, 2) := by decide +kernel
theorem dX11_findLoads_151 : decode cX11_findLoads 151 = .ok (.idiv, 1) := by decide +kernel
theorem dX11_findLoads_152 : decode cX11_findLoads 152 = .ok (.putfield 349, 3) := by decide +kernel
theorem dX11_findLoads_155 : decode cX11_findLoads 155 = .ok (.aload_n 0, 1) := by decide +kernel
theorem dX11_findLoads_156 : decode cX11_findLoads 156 = .ok (.dup, 1) := by decide +kernel
theorem dX11_findLoads_157 : decode cX11_findLoads 157 = .ok (.getfield 352, 3) := by decide +kernel
theorem dX11_findLoads_160 : decode cX11_findLoads 160 = .ok (.iload 4, 2) := by decide +kernel
theorem dX11_findLoads_162 : decode cX11_findLoads 162 = .ok (.idiv, 1) := by decide +kernel
theorem dX11_findLoads_163 : decode cX11_findLoads 163 = .ok (.putfield 352, 3) := by decide +kernel
theorem dX11_findLoads_166 : decode cX11_findLoads 166 = .ok (.return_, 1) := by decide +kernel
theorem dX11_loads_0 : decode cX11_loads 0 = .ok (.aload_n 0, 1) := by decide +kernel
theorem dX11_loads_1 : decode cX11_loads 1 = .ok (.iload_n 1, 1) := by decide +kernel
theorem dX11_loads_2 : decode cX11_loads 2 = .ok (.invokevirtual 302, 3) := by decide +kernel
theorem dX11_loads_5 : decode cX11_loads 5 = .ok (.ifCond .eq 47, 3) := by decide +kernel
theorem dX11_loads_8 : decode cX11_loads 8 = .ok (.iload_n 2, 1) := by decide +kernel
theorem dX11_loads_9 : decode cX11_loads 9 = .ok (.ifCond .lt 43, 3) := by decide +kernel
theorem dX11_loads_12 : decode cX11_loads 12 = .ok (.iload_n 2, 1) := by decide +kernel
theorem dX11_loads_13 : decode cX11_loads 13 = .ok (.sipush 1000, 3) := by decide +kernel
theorem dX11_loads_16 : decode cX11_loads 16 = .ok (.idiv, 1) := by decide +kernel
theorem dX11_loads_17 : decode cX11_loads 17 = .ok (.invokestatic 305, 3) := by decide +kernel
theorem dX11_loads_20 : decode cX11_loads 20 = .ok (.ifCond .eq 32, 3) := by decide +kernel
theorem dX11_loads_23 : decode cX11_loads 23 = .ok (.iload_n 2, 1) := by decide +kernel
theorem dX11_loads_24 : decode cX11_loads 24 = .ok (.sipush 1000, 3) := by decide +kernel
theorem dX11_loads_27 : decode cX11_loads 27 = .ok (.irem, 1) := by decide +kernel
theorem dX11_loads_28 : decode cX11_loads 28 = .ok (.i2l, 1) := by decide +kernel
theorem dX11_loads_29 : decode cX11_loads 29 = .ok (.lconst 1, 1) := by decide +kernel
theorem dX11_loads_30 : decode cX11_loads 30 = .ok (.ldc2_w 110, 3) := by decide +kernel
theorem dX11_loads_33 : decode cX11_loads 33 = .ok (.invokestatic 106, 3) := by decide +kernel
theorem dX11_loads_36 : decode cX11_loads 36 = .ok (.ifCond .eq 16, 3) := by decide +kernel
theorem dX11_loads_39 : decode cX11_loads 39 = .ok (.iload 4, 2) := by decide +kernel
theorem dX11_loads_41 : decode cX11_loads 41 = .ok (.i2l, 1) := by decide +kernel
theorem dX11_loads_42 : decode cX11_loads 42 = .ok (.lconst 0, 1) := by decide +kernel
theorem dX11_loads_43 : decode cX11_loads 43 = .ok (.ldc2_w 141, 3) := by decide +kernel
theorem dX11_loads_46 : decode cX11_loads 46 = .ok (.invokestatic 106, 3) := by decide +kernel
theorem dX11_loads_49 : decode cX11_loads 49 = .ok (.ifCond .ne 5, 3) := by decide +kernel
theorem dX11_loads_52 : decode cX11_loads 52 = .ok (.iconst (-1), 1) := by decide +kernel
theorem dX11_loads_53 : decode cX11_loads 53 = .ok (.ireturn, 1) := by decide +kernel
theorem dX11_loads_54 : decode cX11_loads 54 = .ok (.aload_n 0, 1) := by decide +kernel
theorem dX11_loads_55 : decode cX11_loads 55 = .ok (.iload_n 1, 1) := by decide +kernel
theorem dX11_loads_56 : decode cX11_loads 56 = .ok (.bipush 10, 2) := by decide +kernel
theorem dX11_loads_58 : decode cX11_loads 58 = .ok (.idiv, 1) := by decide +kernel
theorem dX11_loads_59 : decode cX11_loads 59 = .ok (.iload_n 1, 1) := by decide +kernel
theorem dX11_loads_60 : decode cX11_loads 60 = .ok (.bipush 10, 2) := by decide +kernel
theorem dX11_loads_62 : decode cX11_loads 62 = .ok (.irem, 1) := by decide +kernel
theorem dX11_loads_63 : decode cX11_loads 63 = .ok (.iload_n 2, 1) := by decide +kernel
theorem dX11_loads_64 : decode cX11_loads 64 = .ok (.sipush 1000, 3) := by decide +kernel
theorem dX11_loads_67 : decode cX11_loads 67 = .ok (.idiv, 1) := by decide +kernel
theorem dX11_loads_68 : decode cX11_loads 68 = .ok (.iload_n 2, 1) := by decide +kernel
theorem dX11_loads_69 : decode cX11_loads 69 = .ok (.sipush 1000, 3) := by decide +kernel
theorem dX11_loads_72 : decode cX11_loads 72 = .ok (.irem, 1) := by decide +kernel
theorem dX11_loads_73 : decode cX11_loads 73 = .ok (.iload_n 3, 1) := by decide +kernel
theorem dX11_loads_74 : decode cX11_loads 74 = .ok (.invokevirtual 358, 3) := by decide +kernel
theorem dX11_loads_77 : decode cX11_loads 77 = .ok (.iload 4, 2) := by decide +kernel
theorem dX11_loads_79 : decode cX11_loads 79 = .ok (.ifCond .ne 10, 3) := by decide +kernel
theorem dX11_loads_82 : decode cX11_loads 82 = .ok (.aload_n 0, 1) := by decide +kernel
theorem dX11_loads_83 : decode cX11_loads 83 = .ok (.getfield 346, 3) := by decide +kernel
theorem dX11_loads_86 : decode cX11_loads 86 = .ok (.goto 33, 3) := by decide +kernel
theorem dX11_loads_89 : decode cX11_loads 89 = .ok (.iload 4, 2) := by decide +kernel
theorem dX11_loads_91 : decode cX11_loads 91 = .ok (.iconst 1, 1) := by decide +kernel
theorem dX11_loads_92 : decode cX11_loads 92 = .ok (.if_icmp .ne 10, 3) := by decide +kernel
theorem dX11_loads_95 : decode cX11_loads 95 = .ok (.aload_n 0, 1) := by decide +kernel
theorem dX11_loads_96 : decode cX11_loads 96 = .ok (.getfield 349, 3) := by decide +kernel
theorem dX11_loads_99 : decode cX11_loads 99 = .ok (.goto 20, 3) := by decide +kernel
theorem dX11_loads_102 : decode cX11_loads 102 = .ok (.iload 4, 2) := by decide +kernel
theorem dX11_loads_104 : decode cX11_loads 104 = .ok (.iconst 2, 1) := by decide +kernel
theorem dX11_loads_105 : decode cX11_loads 105 = .ok (.if_icmp .ne 10, 3) := by decide +kernel
theorem dX11_loads_108 : decode cX11_loads 108 = .ok (.aload_n 0, 1) := by decide +kernel
theorem dX11_loads_109 : decode cX11_loads 109 = .ok (.getfield 352, 3) := by decide +kernel
theorem dX11_loads_112 : decode cX11_loads 112 = .ok (.goto 7, 3) := by decide +kernel
theorem dX11_loads_115 : decode cX11_loads 115 = .ok (.aload_n 0, 1) := by decide +kernel
theorem dX11_loads_116 : decode cX11_loads 116 = .ok (.getfield 355, 3) := by decide +kernel
theorem dX11_loads_119 : decode cX11_loads 119 = .ok (.ireturn, 1) := by decide +kernel
theorem dX11_best_0 : decode cX11_best 0 = .ok (.iload_n 1, 1) := by decide +kernel
theorem dX11_best_1 : decode cX11_best 1 = .ok (.i2l, 1) := by decide +kernel
theorem dX11_best_2 : decode cX11_best 2 = .ok (.lconst 0, 1) := by decide +kernel
theorem dX11_best_3 : decode cX11_best 3 = .ok (.aload_n 0, 1) := by decide +kernel
theorem dX11_best_4 : decode cX11_best 4 = .ok (.getfield 151, 3) := by decide +kernel
theorem dX11_best_7 : decode cX11_best 7 = .ok (.iconst 1, 1) := by decide +kernel
theorem dX11_best_8 : decode cX11_best 8 = .ok (.isub, 1) := by decide +kernel
theorem dX11_best_9 : decode cX11_best 9 = .ok (.i2l, 1) := by decide +kernel
theorem dX11_best_10 : decode cX11_best 10 = .ok (.invokestatic 106, 3) := by decide +kernel
theorem dX11_best_13 : decode cX11_best 13 = .ok (.ifCond .eq 10, 3) := by decide +kernel
theorem dX11_best_16 : decode cX11_best 16 = .ok (.iload_n 2, 1) := by decide +kernel
theorem dX11_best_17 : decode cX11_best 17 = .ok (.invokestatic 305, 3) := by decide +kernel
theorem dX11_best_20 : decode cX11_best 20 = .ok (.ifCond .ne 5, 3) := by decide +kernel
theorem dX11_best_23 : decode cX11_best 23 = .ok (.iconst (-1), 1) := by decide +kernel
theorem dX11_best_24 : decode cX11_best 24 = .ok (.ireturn, 1) := by decide +kernel
theorem dX11_best_25 : decode cX11_best 25 = .ok (.aload_n 0, 1) := by decide +kernel
theorem dX11_best_26 : decode cX11_best 26 = .ok (.getfield 235, 3) := by decide +kernel
theorem dX11_best_29 : decode cX11_best 29 = .ok (.ifCond .ne 6, 3) := by decide +kernel
theorem dX11_best_32 : decode cX11_best 32 = .ok (.bipush (-5), 2) := by decide +kernel
theorem dX11_best_34 : decode cX11_best 34 = .ok (.ireturn, 1) := by decide +kernel
theorem dX11_best_35 : decode cX11_best 35 = .ok (.iconst (-1), 1) := by decide +kernel
theorem dX11_best_36 : decode cX11_best 36 = .ok (.istore 4, 2) := by decide +kernel
theorem dX11_best_38 : decode cX11_best 38 = .ok (.iconst 0, 1) := by decide +kernel
theorem dX11_best_39 : decode cX11_best 39 = .ok (.istore 5, 2) := by decide +kernel
theorem dX11_best_41 : decode cX11_best 41 = .ok (.iconst 0, 1) := by decide +kernel
theorem dX11_best_42 : decode cX11_best 42 = .ok (.istore 6, 2) := by decide +kernel
theorem dX11_best_44 : decode cX11_best 44 = .ok (.iconst 0, 1) := by decide +kernel
theorem dX11_best_45 : decode cX11_best 45 = .ok (.istore 7, 2) := by decide +kernel
theorem dX11_best_47 : decode cX11_best 47 = .ok (.iconst 0, 1) := by decide +kernel
theorem dX11_best_48 : decode cX11_best 48 = .ok (.istore 8, 2) := by decide +kernel
theorem dX11_best_50 : decode cX11_best 50 = .ok (.iload 8, 2) := by decide +kernel
theorem dX11_best_52 : decode cX11_best 52 = .ok (.aload_n 0, 1) := by decide +kernel
theorem dX11_best_53 : decode cX11_best 53 = .ok (.getfield 235, 3) := by decide +kernel
theorem dX11_best_56 : decode cX11_best 56 = .ok (.if_icmp .ge 125, 3) := by decide +kernel
theorem dX11_best_59 : decode cX11_best 59 = .ok (.aload_n 0, 1) := by decide +kernel
theorem dX11_best_60 : decode cX11_best 60 = .ok (.iload 8, 2) := by decide +kernel
theorem dX11_best_62 : decode cX11_best 62 = .ok (.iload_n 1, 1) := by decide +kernel
theorem dX11_best_63 : decode cX11_best 63 = .ok (.iload_n 2, 1) := by decide +kernel
theorem dX11_best_64 : decode cX11_best 64 = .ok (.bipush 9, 2) := by decide +kernel
theorem dX11_best_66 : decode cX11_best 66 = .ok (.iload_n 3, 1) := by decide +kernel
theorem dX11_best_67 : decode cX11_best 67 = .ok (.invokevirtual 358, 3) := by decide +kernel
theorem dX11_best_70 : decode cX11_best 70 = .ok (.aload_n 0, 1) := by decide +kernel
theorem dX11_best_71 : decode cX11_best 71 = .ok (.getfield 346, 3) := by decide +kernel
theorem dX11_best_74 : decode cX11_best 74 = .ok (.iload 5, 2) := by decide +kernel
theorem dX11_best_76 : decode cX11_best 76 = .ok (.if_icmp .ne 16, 3) := by decide +kernel
theorem dX11_best_79 : decode cX11_best 79 = .ok (.aload_n 0, 1) := by decide +kernel
theorem dX11_best_80 : decode cX11_best 80 = .ok (.getfield 352, 3) := by decide +kernel
theorem dX11_best_83 : decode cX11_best 83 = .ok (.iload 6, 2) := by decide +kernel
theorem dX11_best_85 : decode cX11_best 85 = .ok (.if_icmp .ne 7, 3) := by decide +kernel
theorem dX11_best_88 : decode cX11_best 88 = .ok (.iconst 1, 1) := by decide +kernel
theorem dX11_best_89 : decode cX11_best 89 = .ok (.goto 4, 3) := by decide +kernel
theorem dX11_best_92 : decode cX11_best 92 = .ok (.iconst 0, 1) := by decide +kernel
theorem dX11_best_93 : decode cX11_best 93 = .ok (.istore 9, 2) := by decide +kernel
theorem dX11_best_95 : decode cX11_best 95 = .ok (.iload 4, 2) := by decide +kernel
theorem dX11_best_97 : decode cX11_best 97 = .ok (.ifCond .lt 44, 3) := by decide +kernel
theorem dX11_best_100 : decode cX11_best 100 = .ok (.aload_n 0, 1) := by decide +kernel
theorem dX11_best_101 : decode cX11_best 101 = .ok (.getfield 346, 3) := by decide +kernel
theorem dX11_best_104 : decode cX11_best 104 = .ok (.iload 5, 2) := by decide +kernel
theorem dX11_best_106 : decode cX11_best 106 = .ok (.if_icmp .gt 35, 3) := by decide +kernel
theorem dX11_best_109 : decode cX11_best 109 = .ok (.aload_n 0, 1) := by decide +kernel
theorem dX11_best_110 : decode cX11_best 110 = .ok (.getfield 346, 3) := by decide +kernel
theorem dX11_best_113 : decode cX11_best 113 = .ok (.iload 5, 2) := by decide +kernel
theorem dX11_best_115 : decode cX11_best 115 = .ok (.if_icmp .ne 12, 3) := by decide +kernel
theorem dX11_best_118 : decode cX11_best 118 = .ok (.aload_n 0, 1) := by decide +kernel
theorem dX11_best_119 : decode cX11_best 119 = .ok (.getfield 352, 3) := by decide +kernel
theorem dX11_best_122 : decode cX11_best 122 = .ok (.iload 6, 2) := by decide +kernel
theorem dX11_best_124 : decode cX11_best 124 = .ok (.if_icmp .lt 17, 3) := by decide +kernel
theorem dX11_best_127 : decode cX11_best 127 = .ok (.iload 9, 2) := by decide +kernel
theorem dX11_best_129 : decode cX11_best 129 = .ok (.ifCond .eq 16, 3) := by decide +kernel
theorem dX11_best_132 : decode cX11_best 132 = .ok (.aload_n 0, 1) := by decide +kernel
theorem dX11_best_133 : decode cX11_best 133 = .ok (.getfield 349, 3) := by decide +kernel
theorem dX11_best_136 : decode cX11_best 136 = .ok (.iload 7, 2) := by decide +kernel
theorem dX11_best_138 : decode cX11_best 138 = .ok (.if_icmp .ge 7, 3) := by decide +kernel
theorem dX11_best_141 : decode cX11_best 141 = .ok (.iconst 1, 1) := by decide +kernel
theorem dX11_best_142 : decode cX11_best 142 = .ok (.goto 4, 3) := by decide +kernel
theorem dX11_best_145 : decode cX11_best 145 = .ok (.iconst 0, 1) := by decide +kernel
theorem dX11_best_146 : decode cX11_best 146 = .ok (.istore 10, 2) := by decide +kernel
theorem dX11_best_148 : decode cX11_best 148 = .ok (.iload 10, 2) := by decide +kernel
theorem dX11_best_150 : decode cX11_best 150 = .ok (.ifCond .eq 25, 3) := by decide +kernel
theorem dX11_best_153 : decode cX11_best 153 = .ok (.iload 8, 2) := by decide +kernel
theorem dX11_best_155 : decode cX11_best 155 = .ok (.istore 4, 2) := by decide +kernel
theorem dX11_best_157 : decode cX11_best 157 = .ok (.aload_n 0, 1) := by decide +kernel
theorem dX11_best_158 : decode cX11_best 158 = .ok (.getfield 346, 3) := by decide +kernel
theorem dX11_best_161 : decode cX11_best 161 = .ok (.istore 5, 2) := by decide +kernel
theorem dX11_best_163 : decode cX11_best 163 = .ok (.aload_n 0, 1) := by decide +kernel
theorem dX11_best_164 : decode cX11_best 164 = .ok (.getfield 352, 3) := by decide +kernel
theorem dX11_best_167 : decode cX11_best 167 = .ok (.istore 6, 2) := by decide +kernel
theorem dX11_best_169 : decode cX11_best 169 = .ok (.aload_n 0, 1) := by decide +kernel
theorem dX11_best_170 : decode cX11_best 170 = .ok (.getfield 349, 3) := by decide +kernel
theorem dX11_best_173 : decode cX11_best 173 = .ok (.istore 7, 2) := by decide +kernel
theorem dX11_best_175 : decode cX11_best 175 = .ok (.iinc 8 1, 3) := by decide +kernel
theorem dX11_best_178 : decode cX11_best 178 = .ok (.goto (-128), 3) := by decide +kernel
theorem dX11_best_181 : decode cX11_best 181 = .ok (.iload 4, 2) := by decide +kernel
theorem dX11_best_183 : decode cX11_best 183 = .ok (.ireturn, 1) := by decide +kernel
theorem dX11_never_0 : decode cX11_never 0 = .ok (.aload_n 0, 1) := by decide +kernel
theorem dX11_never_1 : decode cX11_never 1 = .ok (.iload_n 1, 1) := by decide +kernel
theorem dX11_never_2 : decode cX11_never 2 = .ok (.invokevirtual 241, 3) := by decide +kernel
theorem dX11_never_5 : decode cX11_never 5 = .ok (.ifCond .eq 22, 3) := by decide +kernel
theorem dX11_never_8 : decode cX11_never 8 = .ok (.iload_n 2, 1) := by decide +kernel
theorem dX11_never_9 : decode cX11_never 9 = .ok (.invokestatic 305, 3) := by decide +kernel
theorem dX11_never_12 : decode cX11_never 12 = .ok (.ifCond .eq 15, 3) := by decide +kernel
theorem dX11_never_15 : decode cX11_never 15 = .ok (.iload_n 3, 1) := by decide +kernel
theorem dX11_never_16 : decode cX11_never 16 = .ok (.i2l, 1) := by decide +kernel
theorem dX11_never_17 : decode cX11_never 17 = .ok (.lconst 0, 1) := by decide +kernel
theorem dX11_never_18 : decode cX11_never 18 = .ok (.ldc2_w 362, 3) := by decide +kernel
theorem dX11_never_21 : decode cX11_never 21 = .ok (.invokestatic 106, 3) := by decide +kernel
theorem dX11_never_24 : decode cX11_never 24 = .ok (.ifCond .ne 5, 3) := by decide +kernel
theorem dX11_never_27 : decode cX11_never 27 = .ok (.iconst (-1), 1) := by decide +kernel
theorem dX11_never_28 : decode cX11_never 28 = .ok (.ireturn, 1) := by decide +kernel
theorem dX11_never_29 : decode cX11_never 29 = .ok (.iconst 0, 1) := by decide +kernel
theorem dX11_never_30 : decode cX11_never 30 = .ok (.istore 4, 2) := by decide +kernel
theorem dX11_never_32 : decode cX11_never 32 = .ok (.iload 4, 2) := by decide +kernel
theorem dX11_never_34 : decode cX11_never 34 = .ok (.sipush 1100, 3) := by decide +kernel
theorem dX11_never_37 : decode cX11_never 37 = .ok (.if_icmp .gt 53, 3) := by decide +kernel
theorem dX11_never_40 : decode cX11_never 40 = .ok (.iconst 0, 1) := by decide +kernel
theorem dX11_never_41 : decode cX11_never 41 = .ok (.istore 5, 2) := by decide +kernel
theorem dX11_never_43 : decode cX11_never 43 = .ok (.iload 5, 2) := by decide +kernel
theorem dX11_never_45 : decode cX11_never 45 = .ok (.sipush 950, 3) := by decide +kernel
theorem dX11_never_48 : decode cX11_never 48 = .ok (.if_icmp .gt 36, 3) := by decide +kernel
theorem dX11_never_51 : decode cX11_never 51 = .ok (.iload 5, 2) := by decide +kernel
theorem dX11_never_53 : decode cX11_never 53 = .ok (.iload_n 3, 1) := by decide +kernel
theorem dX11_never_54 : decode cX11_never 54 = .ok (.if_icmp .lt 24, 3) := by decide +kernel
theorem dX11_never_57 : decode cX11_never 57 = .ok (.aload_n 0, 1) := by decide +kernel
theorem dX11_never_58 : decode cX11_never 58 = .ok (.iload_n 1, 1) := by decide +kernel
theorem dX11_never_59 : decode cX11_never 59 = .ok (.iload 4, 2) := by decide +kernel
theorem dX11_never_61 : decode cX11_never 61 = .ok (.iconst 0, 1) := by decide +kernel
theorem dX11_never_62 : decode cX11_never 62 = .ok (.iload 5, 2) := by decide +kernel
theorem dX11_never_64 : decode cX11_never 64 = .ok (.iload_n 2, 1) := by decide +kernel
theorem dX11_never_65 : decode cX11_never 65 = .ok (.iconst 0, 1) := by decide +kernel
theorem dX11_never_66 : decode cX11_never 66 = .ok (.iconst 0, 1) := by decide +kernel
theorem dX11_never_67 : decode cX11_never 67 = .ok (.invokevirtual 275, 3) := by decide +kernel
theorem dX11_never_70 : decode cX11_never 70 = .ok (.sipush 300, 3) := by decide +kernel
theorem dX11_never_73 : decode cX11_never 73 = .ok (.if_icmp .le 5, 3) := by decide +kernel
theorem dX11_never_76 : decode cX11_never 76 = .ok (.iconst 0, 1) := by decide +kernel
theorem dX11_never_77 : decode cX11_never 77 = .ok (.ireturn, 1) := by decide +kernel
theorem dX11_never_78 : decode cX11_never 78 = .ok (.iinc 5 50, 3) := by decide +kernel
theorem dX11_never_81 : decode cX11_never 81 = .ok (.goto (-38), 3) := by decide +kernel
theorem dX11_never_84 : decode cX11_never 84 = .ok (.iinc 4 100, 3) := by decide +kernel
theorem dX11_never_87 : decode cX11_never 87 = .ok (.goto (-55), 3) := by decide +kernel
theorem dX11_never_90 : decode cX11_never 90 = .ok (.iconst 1, 1) := by decide +kernel
theorem dX11_never_91 : decode cX11_never 91 = .ok (.ireturn, 1) := by decide +kernel
theorem dX11_beside_0 : decode cX11_beside 0 = .ok (.iload_n 1, 1) := by decide +kernel
theorem dX11_beside_1 : decode cX11_beside 1 = .ok (.i2l, 1) := by decide +kernel
theorem dX11_beside_2 : decode cX11_beside 2 = .ok (.ldc2_w 364, 3) := by decide +kernel
theorem dX11_beside_5 : decode cX11_beside 5 = .ok (.ldc2_w 180, 3) := by decide +kernel
theorem dX11_beside_8 : decode cX11_beside 8 = .ok (.invokestatic 106, 3) := by decide +kernel
theorem dX11_beside_11 : decode cX11_beside 11 = .ok (.ifCond .eq 15, 3) := by decide +kernel
theorem dX11_beside_14 : decode cX11_beside 14 = .ok (.iload_n 2, 1) := by decide +kernel
theorem dX11_beside_15 : decode cX11_beside 15 = .ok (.i2l, 1) := by decide +kernel
theorem dX11_beside_16 : decode cX11_beside 16 = .ok (.lconst 0, 1) := by decide +kernel
theorem dX11_beside_17 : decode cX11_beside 17 = .ok (.ldc2_w 143, 3) := by decide +kernel
theorem dX11_beside_20 : decode cX11_beside 20 = .ok (.invokestatic 106, 3) := by decide +kernel
theorem dX11_beside_23 : decode cX11_beside 23 = .ok (.ifCond .ne 5, 3) := by decide +kernel
theorem dX11_beside_26 : decode cX11_beside 26 = .ok (.iconst (-1), 1) := by decide +kernel
theorem dX11_beside_27 : decode cX11_beside 27 = .ok (.ireturn, 1) := by decide +kernel
theorem dX11_beside_28 : decode cX11_beside 28 = .ok (.aload_n 0, 1) := by decide +kernel
theorem dX11_beside_29 : decode cX11_beside 29 = .ok (.invokevirtual 310, 3) := by decide +kernel
theorem dX11_beside_32 : decode cX11_beside 32 = .ok (.iconst 0, 1) := by decide +kernel
theorem dX11_beside_33 : decode cX11_beside 33 = .ok (.istore_n 3, 1) := by decide +kernel
theorem dX11_beside_34 : decode cX11_beside 34 = .ok (.iload_n 3, 1) := by decide +kernel
theorem dX11_beside_35 : decode cX11_beside 35 = .ok (.sipush 200, 3) := by decide +kernel
theorem dX11_beside_38 : decode cX11_beside 38 = .ok (.if_icmp .ge 25, 3) := by decide +kernel
theorem dX11_beside_41 : decode cX11_beside 41 = .ok (.aload_n 0, 1) := by decide +kernel
theorem dX11_beside_42 : decode cX11_beside 42 = .ok (.invokevirtual 173, 3) := by decide +kernel
theorem dX11_beside_45 : decode cX11_beside 45 = .ok (.iload_n 2, 1) := by decide +kernel
theorem dX11_beside_46 : decode cX11_beside 46 = .ok (.if_icmp .le 17, 3) := by decide +kernel
theorem dX11_beside_49 : decode cX11_beside 49 = .ok (.aload_n 0, 1) := by decide +kernel
theorem dX11_beside_50 : decode cX11_beside 50 = .ok (.iload_n 1, 1) := by decide +kernel
theorem dX11_beside_51 : decode cX11_beside 51 = .ok (.iload_n 3, 1) := by decide +kernel
theorem dX11_beside_52 : decode cX11_beside 52 = .ok (.iload_n 3, 1) := by decide +kernel
theorem dX11_beside_53 : decode cX11_beside 53 = .ok (.iconst 0, 1) := by decide +kernel
theorem dX11_beside_54 : decode cX11_beside 54 = .ok (.invokevirtual 282, 3) := by decide +kernel
theorem dX11_beside_57 : decode cX11_beside 57 = .ok (.iinc 3 1, 3) := by decide +kernel
theorem dX11_beside_60 : decode cX11_beside 60 = .ok (.goto (-26), 3) := by decide +kernel
theorem dX11_beside_63 : decode cX11_beside 63 = .ok (.aload_n 0, 1) := by decide +kernel
theorem dX11_beside_64 : decode cX11_beside 64 = .ok (.invokevirtual 173, 3) := by decide +kernel
theorem dX11_beside_67 : decode cX11_beside 67 = .ok (.iload_n 2, 1) := by decide +kernel
theorem dX11_beside_68 : decode cX11_beside 68 = .ok (.if_icmp .gt 7, 3) := by decide +kernel
theorem dX11_beside_71 : decode cX11_beside 71 = .ok (.iconst 1, 1) := by decide +kernel
theorem dX11_beside_72 : decode cX11_beside 72 = .ok (.goto 4, 3) := by decide +kernel
theorem dX11_beside_75 : decode cX11_beside 75 = .ok (.iconst 0, 1) := by decide +kernel
theorem dX11_beside_76 : decode cX11_beside 76 = .ok (.istore 4, 2) := by decide +kernel
theorem dX11_beside_78 : decode cX11_beside 78 = .ok (.aload_n 0, 1) := by decide +kernel
theorem dX11_beside_79 : decode cX11_beside 79 = .ok (.invokevirtual 341, 3) := by decide +kernel
theorem dX11_beside_82 : decode cX11_beside 82 = .ok (.iload 4, 2) := by decide +kernel
theorem dX11_beside_84 : decode cX11_beside 84 = .ok (.ifCond .eq 7, 3) := by decide +kernel
theorem dX11_beside_87 : decode cX11_beside 87 = .ok (.iload_n 3, 1) := by decide +kernel
theorem dX11_beside_88 : decode cX11_beside 88 = .ok (.goto 5, 3) := by decide +kernel
theorem dX11_beside_91 : decode cX11_beside 91 = .ok (.bipush (-2), 2) := by decide +kernel
theorem dX11_beside_93 : decode cX11_beside 93 = .ok (.ireturn, 1) := by decide +kernel
theorem dX11_isBody_0 : decode cX11_isBody 0 = .ok (.iload_n 1, 1) := by decide +kernel
theorem dX11_isBody_1 : decode cX11_isBody 1 = .ok (.i2l, 1) := by decide +kernel
theorem dX11_isBody_2 : decode cX11_isBody 2 = .ok (.lconst 0, 1) := by decide +kernel
theorem dX11_isBody_3 : decode cX11_isBody 3 = .ok (.aload_n 0, 1) := by decide +kernel
theorem dX11_isBody_4 : decode cX11_isBody 4 = .ok (.getfield 366, 3) := by decide +kernel
theorem dX11_isBody_7 : decode cX11_isBody 7 = .ok (.iconst 1, 1) := by decide +kernel
theorem dX11_isBody_8 : decode cX11_isBody 8 = .ok (.isub, 1) := by decide +kernel
theorem dX11_isBody_9 : decode cX11_isBody 9 = .ok (.i2l, 1) := by decide +kernel
theorem dX11_isBody_10 : decode cX11_isBody 10 = .ok (.invokestatic 106, 3) := by decide +kernel
theorem dX11_isBody_13 : decode cX11_isBody 13 = .ok (.ireturn, 1) := by decide +kernel
theorem dX11_kindOf_0 : decode cX11_kindOf 0 = .ok (.aload_n 0, 1) := by decide +kernel
theorem dX11_kindOf_1 : decode cX11_kindOf 1 = .ok (.getfield 70, 3) := by decide +kernel
theorem dX11_kindOf_4 : decode cX11_kindOf 4 = .ok (.iload_n 1, 1) := by decide +kernel
theorem dX11_kindOf_5 : decode cX11_kindOf 5 = .ok (.iaload, 1) := by decide +kernel
theorem dX11_kindOf_6 : decode cX11_kindOf 6 = .ok (.ireturn, 1) := by decide +kernel
theorem dX11_body_0 : decode cX11_body 0 = .ok (.iload_n 1, 1) := by decide +kernel
theorem dX11_body_1 : decode cX11_body 1 = .ok (.i2l, 1) := by decide +kernel
theorem dX11_body_2 : decode cX11_body 2 = .ok (.lconst 0, 1) := by decide +kernel
theorem dX11_body_3 : decode cX11_body 3 = .ok (.ldc2_w 369, 3) := by decide +kernel
theorem dX11_body_6 : decode cX11_body 6 = .ok (.invokestatic 106, 3) := by decide +kernel
theorem dX11_body_9 : decode cX11_body 9 = .ok (.ifCond .ne 5, 3) := by decide +kernel
theorem dX11_body_12 : decode cX11_body 12 = .ok (.iconst (-1), 1) := by decide +kernel
theorem dX11_body_13 : decode cX11_body 13 = .ok (.ireturn, 1) := by decide +kernel
theorem dX11_body_14 : decode cX11_body 14 = .ok (.aload_n 0, 1) := by decide +kernel
theorem dX11_body_15 : decode cX11_body 15 = .ok (.getfield 366, 3) := by decide +kernel
theorem dX11_body_18 : decode cX11_body 18 = .ok (.bipush 50, 2) := by decide +kernel
theorem dX11_body_20 : decode cX11_body 20 = .ok (.if_icmp .ne 6, 3) := by decide +kernel
theorem dX11_body_23 : decode cX11_body 23 = .ok (.bipush (-3), 2) := by decide +kernel
theorem dX11_body_25 : decode cX11_body 25 = .ok (.ireturn, 1) := by decide +kernel
theorem dX11_body_26 : decode cX11_body 26 = .ok (.aload_n 0, 1) := by decide +kernel
theorem dX11_body_27 : decode cX11_body 27 = .ok (.getfield 70, 3) := by decide +kernel
theorem dX11_body_30 : decode cX11_body 30 = .ok (.aload_n 0, 1) := by decide +kernel
theorem dX11_body_31 : decode cX11_body 31 = .ok (.getfield 366, 3) := by decide +kernel
theorem dX11_body_34 : decode cX11_body 34 = .ok (.iload_n 1, 1) := by decide +kernel
theorem dX11_body_35 : decode cX11_body 35 = .ok (.iastore, 1) := by decide +kernel
theorem dX11_body_36 : decode cX11_body 36 = .ok (.aload_n 0, 1) := by decide +kernel
theorem dX11_body_37 : decode cX11_body 37 = .ok (.dup, 1) := by decide +kernel
theorem dX11_body_38 : decode cX11_body 38 = .ok (.getfield 366, 3) := by decide +kernel
theorem dX11_body_41 : decode cX11_body 41 = .ok (.iconst 1, 1) := by decide +kernel
theorem dX11_body_42 : decode cX11_body 42 = .ok (.iadd, 1) := by decide +kernel
theorem dX11_body_43 : decode cX11_body 43 = .ok (.putfield 366, 3) := by decide +kernel
theorem dX11_body_46 : decode cX11_body 46 = .ok (.aload_n 0, 1) := by decide +kernel
theorem dX11_body_47 : decode cX11_body 47 = .ok (.getfield 366, 3) := by decide +kernel
theorem dX11_body_50 : decode cX11_body 50 = .ok (.iconst 1, 1) := by decide +kernel
theorem dX11_body_51 : decode cX11_body 51 = .ok (.isub, 1) := by decide +kernel
theorem dX11_body_52 : decode cX11_body 52 = .ok (.ireturn, 1) := by decide +kernel
theorem dX11_above_0 : decode cX11_above 0 = .ok (.iload_n 0, 1) := by decide +kernel
theorem dX11_above_1 : decode cX11_above 1 = .ok (.iconst 3, 1) := by decide +kernel
theorem dX11_above_2 : decode cX11_above 2 = .ok (.if_icmp .ne 7, 3) := by decide +kernel
theorem dX11_above_5 : decode cX11_above 5 = .ok (.iconst 2, 1) := by decide +kernel
theorem dX11_above_6 : decode cX11_above 6 = .ok (.goto 23, 3) := by decide +kernel
theorem dX11_above_9 : decode cX11_above 9 = .ok (.iload_n 0, 1) := by decide +kernel
theorem dX11_above_10 : decode cX11_above 10 = .ok (.iconst 5, 1) := by decide +kernel
theorem dX11_above_11 : decode cX11_above 11 = .ok (.if_icmp .ne 7, 3) := by decide +kernel
theorem dX11_above_14 : decode cX11_above 14 = .ok (.iconst 1, 1) := by decide +kernel
theorem dX11_above_15 : decode cX11_above 15 = .ok (.goto 14, 3) := by decide +kernel
theorem dX11_above_18 : decode cX11_above 18 = .ok (.iload_n 0, 1) := by decide +kernel
theorem dX11_above_19 : decode cX11_above 19 = .ok (.bipush 6, 2) := by decide +kernel
theorem dX11_above_21 : decode cX11_above 21 = .ok (.if_icmp .ne 7, 3) := by decide +kernel
theorem dX11_above_24 : decode cX11_above 24 = .ok (.iconst 4, 1) := by decide +kernel
theorem dX11_above_25 : decode cX11_above 25 = .ok (.goto 4, 3) := by decide +kernel
theorem dX11_above_28 : decode cX11_above 28 = .ok (.iconst 0, 1) := by decide +kernel
theorem dX11_above_29 : decode cX11_above 29 = .ok (.ireturn, 1) := by decide +kernel
theorem dX11_begins_0 : decode cX11_begins 0 = .ok (.aload_n 0, 1) := by decide +kernel
theorem dX11_begins_1 : decode cX11_begins 1 = .ok (.getfield 371, 3) := by decide +kernel
theorem dX11_begins_4 : decode cX11_begins 4 = .ok (.bipush 24, 2) := by decide +kernel
theorem dX11_begins_6 : decode cX11_begins 6 = .ok (.if_icmp .ge 13, 3) := by decide +kernel
theorem dX11_begins_9 : decode cX11_begins 9 = .ok (.aload_n 0, 1) := by decide +kernel
theorem dX11_begins_10 : decode cX11_begins 10 = .ok (.getfield 73, 3) := by decide +kernel
theorem dX11_begins_13 : decode cX11_begins 13 = .ok (.aload_n 0, 1) := by decide +kernel
theorem dX11_begins_14 : decode cX11_begins 14 = .ok (.getfield 371, 3) := by decide +kernel
theorem dX11_begins_17 : decode cX11_begins 17 = .ok (.iload_n 1, 1) := by decide +kernel
theorem dX11_begins_18 : decode cX11_begins 18 = .ok (.iastore, 1) := by decide +kernel
theorem dX11_begins_19 : decode cX11_begins 19 = .ok (.aload_n 0, 1) := by decide +kernel
theorem dX11_begins_20 : decode cX11_begins 20 = .ok (.dup, 1) := by decide +kernel
theorem dX11_begins_21 : decode cX11_begins 21 = .ok (.getfield 371, 3) := by decide +kernel
theorem dX11_begins_24 : decode cX11_begins 24 = .ok (.iconst 1, 1) := by decide +kernel
theorem dX11_begins_25 : decode cX11_begins 25 = .ok (.iadd, 1) := by decide +kernel
theorem dX11_begins_26 : decode cX11_begins 26 = .ok (.putfield 371, 3) := by decide +kernel
theorem dX11_begins_29 : decode cX11_begins 29 = .ok (.return_, 1) := by decide +kernel
theorem dX11_clingsAs_0 : decode cX11_clingsAs 0 = .ok (.iload_n 1, 1) := by decide +kernel
theorem dX11_clingsAs_1 : decode cX11_clingsAs 1 = .ok (.iconst 1, 1) := by decide +kernel
theorem dX11_clingsAs_2 : decode cX11_clingsAs 2 = .ok (.if_icmp .eq 8, 3) := by decide +kernel
theorem dX11_clingsAs_5 : decode cX11_clingsAs 5 = .ok (.iload_n 1, 1) := by decide +kernel
theorem dX11_clingsAs_6 : decode cX11_clingsAs 6 = .ok (.iconst 5, 1) := by decide +kernel
theorem dX11_clingsAs_7 : decode cX11_clingsAs 7 = .ok (.if_icmp .ne 18, 3) := by decide +kernel
theorem dX11_clingsAs_10 : decode cX11_clingsAs 10 = .ok (.aload_n 0, 1) := by decide +kernel
theorem dX11_clingsAs_11 : decode cX11_clingsAs 11 = .ok (.bipush 20, 2) := by decide +kernel
theorem dX11_clingsAs_13 : decode cX11_clingsAs 13 = .ok (.invokevirtual 374, 3) := by decide +kernel
theorem dX11_clingsAs_16 : decode cX11_clingsAs 16 = .ok (.aload_n 0, 1) := by decide +kernel
theorem dX11_clingsAs_17 : decode cX11_clingsAs 17 = .ok (.iconst 0, 1) := by decide +kernel
theorem dX11_clingsAs_18 : decode cX11_clingsAs 18 = .ok (.iload_n 2, 1) := by decide +kernel
theorem dX11_clingsAs_19 : decode cX11_clingsAs 19 = .ok (.invokevirtual 378, 3) := by decide +kernel
theorem dX11_clingsAs_22 : decode cX11_clingsAs 22 = .ok (.iconst 3, 1) := by decide +kernel
theorem dX11_clingsAs_23 : decode cX11_clingsAs 23 = .ok (.iadd, 1) := by decide +kernel
theorem dX11_clingsAs_24 : decode cX11_clingsAs 24 = .ok (.ireturn, 1) := by decide +kernel
theorem dX11_clingsAs_25 : decode cX11_clingsAs 25 = .ok (.iload_n 1, 1) := by decide +kernel
theorem dX11_clingsAs_26 : decode cX11_clingsAs 26 = .ok (.bipush 6, 2) := by decide +kernel
theorem dX11_clingsAs_28 : decode cX11_clingsAs 28 = .ok (.if_icmp .ne 18, 3) := by decide +kernel
theorem dX11_clingsAs_31 : decode cX11_clingsAs 31 = .ok (.aload_n 0, 1) := by decide +kernel
theorem dX11_clingsAs_32 : decode cX11_clingsAs 32 = .ok (.bipush 70, 2) := by decide +kernel
theorem dX11_clingsAs_34 : decode cX11_clingsAs 34 = .ok (.invokevirtual 374, 3) := by decide +kernel
theorem dX11_clingsAs_37 : decode cX11_clingsAs 37 = .ok (.aload_n 0, 1) := by decide +kernel
theorem dX11_clingsAs_38 : decode cX11_clingsAs 38 = .ok (.iconst 4, 1) := by decide +kernel
theorem dX11_clingsAs_39 : decode cX11_clingsAs 39 = .ok (.iload_n 2, 1) := by decide +kernel
theorem dX11_clingsAs_40 : decode cX11_clingsAs 40 = .ok (.invokevirtual 378, 3) := by decide +kernel
theorem dX11_clingsAs_43 : decode cX11_clingsAs 43 = .ok (.iconst 2, 1) := by decide +kernel
theorem dX11_clingsAs_44 : decode cX11_clingsAs 44 = .ok (.imul, 1) := by decide +kernel
theorem dX11_clingsAs_45 : decode cX11_clingsAs 45 = .ok (.ireturn, 1) := by decide +kernel
theorem dX11_clingsAs_46 : decode cX11_clingsAs 46 = .ok (.aload_n 0, 1) := by decide +kernel
theorem dX11_clingsAs_47 : decode cX11_clingsAs 47 = .ok (.iconst 1, 1) := by decide +kernel
theorem dX11_clingsAs_48 : decode cX11_clingsAs 48 = .ok (.invokevirtual 374, 3) := by decide +kernel
theorem dX11_clingsAs_51 : decode cX11_clingsAs 51 = .ok (.iload_n 2, 1) := by decide +kernel
theorem dX11_clingsAs_52 : decode cX11_clingsAs 52 = .ok (.aload_n 0, 1) := by decide +kernel
theorem dX11_clingsAs_53 : decode cX11_clingsAs 53 = .ok (.getfield 381, 3) := by decide +kernel
theorem dX11_clingsAs_56 : decode cX11_clingsAs 56 = .ok (.iadd, 1) := by decide +kernel
theorem dX11_clingsAs_57 : decode cX11_clingsAs 57 = .ok (.ireturn, 1) := by decide +kernel
theorem dX11_shakesAs_0 : decode cX11_shakesAs 0 = .ok (.iload_n 1, 1) := by decide +kernel
theorem dX11_shakesAs_1 : decode cX11_shakesAs 1 = .ok (.iconst 3, 1) := by decide +kernel
theorem dX11_shakesAs_2 : decode cX11_shakesAs 2 = .ok (.if_icmp .ne 18, 3) := by decide +kernel
theorem dX11_shakesAs_5 : decode cX11_shakesAs 5 = .ok (.aload_n 0, 1) := by decide +kernel
theorem dX11_shakesAs_6 : decode cX11_shakesAs 6 = .ok (.bipush 41, 2) := by decide +kernel
theorem dX11_shakesAs_8 : decode cX11_shakesAs 8 = .ok (.invokevirtual 374, 3) := by decide +kernel
theorem dX11_shakesAs_11 : decode cX11_shakesAs 11 = .ok (.aload_n 0, 1) := by decide +kernel
theorem dX11_shakesAs_12 : decode cX11_shakesAs 12 = .ok (.iconst 2, 1) := by decide +kernel
theorem dX11_shakesAs_13 : decode cX11_shakesAs 13 = .ok (.iload_n 2, 1) := by decide +kernel
theorem dX11_shakesAs_14 : decode cX11_shakesAs 14 = .ok (.iconst 1, 1) := by decide +kernel
theorem dX11_shakesAs_15 : decode cX11_shakesAs 15 = .ok (.iadd, 1) := by decide +kernel
theorem dX11_shakesAs_16 : decode cX11_shakesAs 16 = .ok (.invokevirtual 384, 3) := by decide +kernel
theorem dX11_shakesAs_19 : decode cX11_shakesAs 19 = .ok (.ireturn, 1) := by decide +kernel
theorem dX11_shakesAs_20 : decode cX11_shakesAs 20 = .ok (.iload_n 1, 1) := by decide +kernel
theorem dX11_shakesAs_21 : decode cX11_shakesAs 21 = .ok (.iconst 2, 1) := by decide +kernel
theorem dX11_shakesAs_22 : decode cX11_shakesAs 22 = .ok (.if_icmp .ne 17, 3) := by decide +kernel
theorem dX11_shakesAs_25 : decode cX11_shakesAs 25 = .ok (.aload_n 0, 1) := by decide +kernel
theorem dX11_shakesAs_26 : decode cX11_shakesAs 26 = .ok (.bipush 30, 2) := by decide +kernel
theorem dX11_shakesAs_28 : decode cX11_shakesAs 28 = .ok (.invokevirtual 374, 3) := by decide +kernel
theorem dX11_shakesAs_31 : decode cX11_shakesAs 31 = .ok (.aload_n 0, 1) := by decide +kernel
theorem dX11_shakesAs_32 : decode cX11_shakesAs 32 = .ok (.iconst 0, 1) := by decide +kernel
theorem dX11_shakesAs_33 : decode cX11_shakesAs 33 = .ok (.iload_n 2, 1) := by decide +kernel
theorem dX11_shakesAs_34 : decode cX11_shakesAs 34 = .ok (.invokevirtual 384, 3) := by decide +kernel
theorem dX11_shakesAs_37 : decode cX11_shakesAs 37 = .ok (.ineg, 1) := by decide +kernel
theorem dX11_shakesAs_38 : decode cX11_shakesAs 38 = .ok (.ireturn, 1) := by decide +kernel
theorem dX11_shakesAs_39 : decode cX11_shakesAs 39 = .ok (.iload_n 1, 1) := by decide +kernel
theorem dX11_shakesAs_40 : decode cX11_shakesAs 40 = .ok (.bipush 7, 2) := by decide +kernel
theorem dX11_shakesAs_42 : decode cX11_shakesAs 42 = .ok (.if_icmp .ne 28, 3) := by decide +kernel
theorem dX11_shakesAs_45 : decode cX11_shakesAs 45 = .ok (.aload_n 0, 1) := by decide +kernel
theorem dX11_shakesAs_46 : decode cX11_shakesAs 46 = .ok (.bipush 80, 2) := by decide +kernel
theorem dX11_shakesAs_48 : decode cX11_shakesAs 48 = .ok (.invokevirtual 374, 3) := by decide +kernel
theorem dX11_shakesAs_51 : decode cX11_shakesAs 51 = .ok (.aload_n 0, 1) := by decide +kernel
theorem dX11_shakesAs_52 : decode cX11_shakesAs 52 = .ok (.iconst 0, 1) := by decide +kernel
theorem dX11_shakesAs_53 : decode cX11_shakesAs 53 = .ok (.iload_n 2, 1) := by decide +kernel
theorem dX11_shakesAs_54 : decode cX11_shakesAs 54 = .ok (.invokevirtual 384, 3) := by decide +kernel
theorem dX11_shakesAs_57 : decode cX11_shakesAs 57 = .ok (.istore_n 3, 1) := by decide +kernel
theorem dX11_shakesAs_58 : decode cX11_shakesAs 58 = .ok (.iload_n 3, 1) := by decide +kernel
theorem dX11_shakesAs_59 : decode cX11_shakesAs 59 = .ok (.aload_n 0, 1) := by decide +kernel
theorem dX11_shakesAs_60 : decode cX11_shakesAs 60 = .ok (.aload_n 0, 1) := by decide +kernel
theorem dX11_shakesAs_61 : decode cX11_shakesAs 61 = .ok (.getfield 387, 3) := by decide +kernel
theorem dX11_shakesAs_64 : decode cX11_shakesAs 64 = .ok (.iconst 2, 1) := by decide +kernel
theorem dX11_shakesAs_65 : decode cX11_shakesAs 65 = .ok (.invokevirtual 390, 3) := by decide +kernel
theorem dX11_shakesAs_68 : decode cX11_shakesAs 68 = .ok (.iadd, 1) := by decide +kernel
theorem dX11_shakesAs_69 : decode cX11_shakesAs 69 = .ok (.ireturn, 1) := by decide +kernel
theorem dX11_shakesAs_70 : decode cX11_shakesAs 70 = .ok (.aload_n 0, 1) := by decide +kernel
theorem dX11_shakesAs_71 : decode cX11_shakesAs 71 = .ok (.bipush 10, 2) := by decide +kernel
theorem dX11_shakesAs_73 : decode cX11_shakesAs 73 = .ok (.invokevirtual 374, 3) := by decide +kernel
theorem dX11_shakesAs_76 : decode cX11_shakesAs 76 = .ok (.aload_n 0, 1) := by decide +kernel
theorem dX11_shakesAs_77 : decode cX11_shakesAs 77 = .ok (.aload_n 0, 1) := by decide +kernel
theorem dX11_shakesAs_78 : decode cX11_shakesAs 78 = .ok (.getfield 387, 3) := by decide +kernel
theorem dX11_shakesAs_81 : decode cX11_shakesAs 81 = .ok (.iload_n 2, 1) := by decide +kernel
theorem dX11_shakesAs_82 : decode cX11_shakesAs 82 = .ok (.invokevirtual 378, 3) := by decide +kernel
theorem dX11_shakesAs_85 : decode cX11_shakesAs 85 = .ok (.iconst 2, 1) := by decide +kernel
theorem dX11_shakesAs_86 : decode cX11_shakesAs 86 = .ok (.imul, 1) := by decide +kernel
theorem dX11_shakesAs_87 : decode cX11_shakesAs 87 = .ok (.ireturn, 1) := by decide +kernel
theorem dX11_hopsAs_0 : decode cX11_hopsAs 0 = .ok (.iload_n 1, 1) := by decide +kernel
theorem dX11_hopsAs_1 : decode cX11_hopsAs 1 = .ok (.iconst 3, 1) := by decide +kernel
theorem dX11_hopsAs_2 : decode cX11_hopsAs 2 = .ok (.if_icmp .ne 18, 3) := by decide +kernel
theorem dX11_hopsAs_5 : decode cX11_hopsAs 5 = .ok (.aload_n 0, 1) := by decide +kernel
theorem dX11_hopsAs_6 : decode cX11_hopsAs 6 = .ok (.bipush 40, 2) := by decide +kernel
theorem dX11_hopsAs_8 : decode cX11_hopsAs 8 = .ok (.invokevirtual 374, 3) := by decide +kernel
theorem dX11_hopsAs_11 : decode cX11_hopsAs 11 = .ok (.aload_n 0, 1) := by decide +kernel
theorem dX11_hopsAs_12 : decode cX11_hopsAs 12 = .ok (.iconst 2, 1) := by decide +kernel
theorem dX11_hopsAs_13 : decode cX11_hopsAs 13 = .ok (.iload_n 2, 1) := by decide +kernel
theorem dX11_hopsAs_14 : decode cX11_hopsAs 14 = .ok (.invokevirtual 390, 3) := by decide +kernel
theorem dX11_hopsAs_17 : decode cX11_hopsAs 17 = .ok (.iconst 3, 1) := by decide +kernel
theorem dX11_hopsAs_18 : decode cX11_hopsAs 18 = .ok (.imul, 1) := by decide +kernel
theorem dX11_hopsAs_19 : decode cX11_hopsAs 19 = .ok (.ireturn, 1) := by decide +kernel
theorem dX11_hopsAs_20 : decode cX11_hopsAs 20 = .ok (.iload_n 1, 1) := by decide +kernel
theorem dX11_hopsAs_21 : decode cX11_hopsAs 21 = .ok (.iconst 4, 1) := by decide +kernel
theorem dX11_hopsAs_22 : decode cX11_hopsAs 22 = .ok (.if_icmp .eq 9, 3) := by decide +kernel
theorem dX11_hopsAs_25 : decode cX11_hopsAs 25 = .ok (.iload_n 1, 1) := by decide +kernel
theorem dX11_hopsAs_26 : decode cX11_hopsAs 26 = .ok (.bipush 6, 2) := by decide +kernel
theorem dX11_hopsAs_28 : decode cX11_hopsAs 28 = .ok (.if_icmp .ne 28, 3) := by decide +kernel
theorem dX11_hopsAs_31 : decode cX11_hopsAs 31 = .ok (.aload_n 0, 1) := by decide +kernel
theorem dX11_hopsAs_32 : decode cX11_hopsAs 32 = .ok (.bipush 50, 2) := by decide +kernel
theorem dX11_hopsAs_34 : decode cX11_hopsAs 34 = .ok (.invokevirtual 374, 3) := by decide +kernel
theorem dX11_hopsAs_37 : decode cX11_hopsAs 37 = .ok (.aload_n 0, 1) := by decide +kernel
theorem dX11_hopsAs_38 : decode cX11_hopsAs 38 = .ok (.iconst 0, 1) := by decide +kernel
theorem dX11_hopsAs_39 : decode cX11_hopsAs 39 = .ok (.iload_n 2, 1) := by decide +kernel
theorem dX11_hopsAs_40 : decode cX11_hopsAs 40 = .ok (.invokevirtual 390, 3) := by decide +kernel
theorem dX11_hopsAs_43 : decode cX11_hopsAs 43 = .ok (.istore_n 3, 1) := by decide +kernel
theorem dX11_hopsAs_44 : decode cX11_hopsAs 44 = .ok (.iload_n 3, 1) := by decide +kernel
theorem dX11_hopsAs_45 : decode cX11_hopsAs 45 = .ok (.aload_n 0, 1) := by decide +kernel
theorem dX11_hopsAs_46 : decode cX11_hopsAs 46 = .ok (.aload_n 0, 1) := by decide +kernel
theorem dX11_hopsAs_47 : decode cX11_hopsAs 47 = .ok (.getfield 387, 3) := by decide +kernel
theorem dX11_hopsAs_50 : decode cX11_hopsAs 50 = .ok (.iconst 2, 1) := by decide +kernel
theorem dX11_hopsAs_51 : decode cX11_hopsAs 51 = .ok (.invokevirtual 378, 3) := by decide +kernel
theorem dX11_hopsAs_54 : decode cX11_hopsAs 54 = .ok (.isub, 1) := by decide +kernel
theorem dX11_hopsAs_55 : decode cX11_hopsAs 55 = .ok (.ireturn, 1) := by decide +kernel
theorem dX11_hopsAs_56 : decode cX11_hopsAs 56 = .ok (.aload_n 0, 1) := by decide +kernel
theorem dX11_hopsAs_57 : decode cX11_hopsAs 57 = .ok (.bipush 11, 2) := by decide +kernel
theorem dX11_hopsAs_59 : decode cX11_hopsAs 59 = .ok (.invokevirtual 374, 3) := by decide +kernel
theorem dX11_hopsAs_62 : decode cX11_hopsAs 62 = .ok (.iload_n 2, 1) := by decide +kernel
theorem dX11_hopsAs_63 : decode cX11_hopsAs 63 = .ok (.aload_n 0, 1) := by decide +kernel
theorem dX11_hopsAs_64 : decode cX11_hopsAs 64 = .ok (.getfield 381, 3) := by decide +kernel
theorem dX11_hopsAs_67 : decode cX11_hopsAs 67 = .ok (.ixor, 1) := by decide +kernel
theorem dX11_hopsAs_68 : decode cX11_hopsAs 68 = .ok (.ireturn, 1) := by decide +kernel
theorem dX11_tellsAs_0 : decode cX11_tellsAs 0 = .ok (.iload_n 1, 1) := by decide +kernel
theorem dX11_tellsAs_1 : decode cX11_tellsAs 1 = .ok (.iconst 5, 1) := by decide +kernel
theorem dX11_tellsAs_2 : decode cX11_tellsAs 2 = .ok (.if_icmp .ne 18, 3) := by decide +kernel
theorem dX11_tellsAs_5 : decode cX11_tellsAs 5 = .ok (.aload_n 0, 1) := by decide +kernel
theorem dX11_tellsAs_6 : decode cX11_tellsAs 6 = .ok (.bipush 60, 2) := by decide +kernel
theorem dX11_tellsAs_8 : decode cX11_tellsAs 8 = .ok (.invokevirtual 374, 3) := by decide +kernel
theorem dX11_tellsAs_11 : decode cX11_tellsAs 11 = .ok (.aload_n 0, 1) := by decide +kernel
theorem dX11_tellsAs_12 : decode cX11_tellsAs 12 = .ok (.iconst 1, 1) := by decide +kernel
theorem dX11_tellsAs_13 : decode cX11_tellsAs 13 = .ok (.iload_n 2, 1) := by decide +kernel
theorem dX11_tellsAs_14 : decode cX11_tellsAs 14 = .ok (.invokevirtual 393, 3) := by decide +kernel
theorem dX11_tellsAs_17 : decode cX11_tellsAs 17 = .ok (.iconst 5, 1) := by decide +kernel
theorem dX11_tellsAs_18 : decode cX11_tellsAs 18 = .ok (.ixor, 1) := by decide +kernel
theorem dX11_tellsAs_19 : decode cX11_tellsAs 19 = .ok (.ireturn, 1) := by decide +kernel
theorem dX11_tellsAs_20 : decode cX11_tellsAs 20 = .ok (.iload_n 1, 1) := by decide +kernel
theorem dX11_tellsAs_21 : decode cX11_tellsAs 21 = .ok (.bipush 7, 2) := by decide +kernel
theorem dX11_tellsAs_23 : decode cX11_tellsAs 23 = .ok (.if_icmp .ne 18, 3) := by decide +kernel
theorem dX11_tellsAs_26 : decode cX11_tellsAs 26 = .ok (.aload_n 0, 1) := by decide +kernel
theorem dX11_tellsAs_27 : decode cX11_tellsAs 27 = .ok (.bipush 81, 2) := by decide +kernel
theorem dX11_tellsAs_29 : decode cX11_tellsAs 29 = .ok (.invokevirtual 374, 3) := by decide +kernel
theorem dX11_tellsAs_32 : decode cX11_tellsAs 32 = .ok (.aload_n 0, 1) := by decide +kernel
theorem dX11_tellsAs_33 : decode cX11_tellsAs 33 = .ok (.iconst 0, 1) := by decide +kernel
theorem dX11_tellsAs_34 : decode cX11_tellsAs 34 = .ok (.iload_n 2, 1) := by decide +kernel
theorem dX11_tellsAs_35 : decode cX11_tellsAs 35 = .ok (.invokevirtual 393, 3) := by decide +kernel
theorem dX11_tellsAs_38 : decode cX11_tellsAs 38 = .ok (.iconst 1, 1) := by decide +kernel
theorem dX11_tellsAs_39 : decode cX11_tellsAs 39 = .ok (.isub, 1) := by decide +kernel
theorem dX11_tellsAs_40 : decode cX11_tellsAs 40 = .ok (.ireturn, 1) := by decide +kernel
theorem dX11_tellsAs_41 : decode cX11_tellsAs 41 = .ok (.aload_n 0, 1) := by decide +kernel
theorem dX11_tellsAs_42 : decode cX11_tellsAs 42 = .ok (.iconst 2, 1) := by decide +kernel
theorem dX11_tellsAs_43 : decode cX11_tellsAs 43 = .ok (.invokevirtual 374, 3) := by decide +kernel
theorem dX11_tellsAs_46 : decode cX11_tellsAs 46 = .ok (.aload_n 0, 1) := by decide +kernel
theorem dX11_tellsAs_47 : decode cX11_tellsAs 47 = .ok (.aload_n 0, 1) := by decide +kernel
theorem dX11_tellsAs_48 : decode cX11_tellsAs 48 = .ok (.getfield 387, 3) := by decide +kernel
theorem dX11_tellsAs_51 : decode cX11_tellsAs 51 = .ok (.iload_n 2, 1) := by decide +kernel
theorem dX11_tellsAs_52 : decode cX11_tellsAs 52 = .ok (.invokevirtual 384, 3) := by decide +kernel
theorem dX11_tellsAs_55 : decode cX11_tellsAs 55 = .ok (.istore_n 3, 1) := by decide +kernel
theorem dX11_tellsAs_56 : decode cX11_tellsAs 56 = .ok (.iload_n 3, 1) := by decide +kernel
theorem dX11_tellsAs_57 : decode cX11_tellsAs 57 = .ok (.aload_n 0, 1) := by decide +kernel
theorem dX11_tellsAs_58 : decode cX11_tellsAs 58 = .ok (.aload_n 0, 1) := by decide +kernel
theorem dX11_tellsAs_59 : decode cX11_tellsAs 59 = .ok (.getfield 387, 3) := by decide +kernel
theorem dX11_tellsAs_62 : decode cX11_tellsAs 62 = .ok (.iconst 1, 1) := by decide +kernel
theorem dX11_tellsAs_63 : decode cX11_tellsAs 63 = .ok (.invokevirtual 390, 3) := by decide +kernel
theorem dX11_tellsAs_66 : decode cX11_tellsAs 66 = .ok (.isub, 1) := by decide +kernel
theorem dX11_tellsAs_67 : decode cX11_tellsAs 67 = .ok (.ireturn, 1) := by decide +kernel
theorem dX11_act_0 : decode cX11_act 0 = .ok (.aload_n 0, 1) := by decide +kernel
theorem dX11_act_1 : decode cX11_act 1 = .ok (.iconst 0, 1) := by decide +kernel
theorem dX11_act_2 : decode cX11_act 2 = .ok (.putfield 371, 3) := by decide +kernel
theorem dX11_act_5 : decode cX11_act 5 = .ok (.aload_n 0, 1) := by decide +kernel
theorem dX11_act_6 : decode cX11_act 6 = .ok (.iload_n 1, 1) := by decide +kernel
theorem dX11_act_7 : decode cX11_act 7 = .ok (.invokevirtual 396, 3) := by decide +kernel
theorem dX11_act_10 : decode cX11_act 10 = .ok (.ifCond .ne 5, 3) := by decide +kernel
theorem dX11_act_13 : decode cX11_act 13 = .ok (.iconst 0, 1) := by decide +kernel
theorem dX11_act_14 : decode cX11_act 14 = .ok (.ireturn, 1) := by decide +kernel
theorem dX11_act_15 : decode cX11_act 15 = .ok (.aload_n 0, 1) := by decide +kernel
theorem dX11_act_16 : decode cX11_act 16 = .ok (.aload_n 0, 1) := by decide +kernel
theorem dX11_act_17 : decode cX11_act 17 = .ok (.getfield 70, 3) := by decide +kernel
theorem dX11_act_20 : decode cX11_act 20 = .ok (.iload_n 1, 1) := by decide +kernel
theorem dX11_act_21 : decode cX11_act 21 = .ok (.iaload, 1) := by decide +kernel
theorem dX11_act_22 : decode cX11_act 22 = .ok (.putfield 387, 3) := by decide +kernel
theorem dX11_act_25 : decode cX11_act 25 = .ok (.aload_n 0, 1) := by decide +kernel
theorem dX11_act_26 : decode cX11_act 26 = .ok (.iload_n 1, 1) := by decide +kernel
theorem dX11_act_27 : decode cX11_act 27 = .ok (.putfield 381, 3) := by decide +kernel
theorem dX11_act_30 : decode cX11_act 30 = .ok (.iload_n 2, 1) := by decide +kernel
theorem dX11_act_31 : decode cX11_act 31 = .ok (.tableswitch 69 0 3 #[29, 39, 49, 59], 29) := by decide +kernel
theorem dX11_act_60 : decode cX11_act 60 = .ok (.aload_n 0, 1) := by decide +kernel
theorem dX11_act_61 : decode cX11_act 61 = .ok (.aload_n 0, 1) := by decide +kernel
theorem dX11_act_62 : decode cX11_act 62 = .ok (.getfield 387, 3) := by decide +kernel
theorem dX11_act_65 : decode cX11_act 65 = .ok (.iload_n 3, 1) := by decide +kernel
theorem dX11_act_66 : decode cX11_act 66 = .ok (.invokevirtual 378, 3) := by decide +kernel
theorem dX11_act_69 : decode cX11_act 69 = .ok (.ireturn, 1) := by decide +kernel
theorem dX11_act_70 : decode cX11_act 70 = .ok (.aload_n 0, 1) := by decide +kernel
theorem dX11_act_71 : decode cX11_act 71 = .ok (.aload_n 0, 1) := by decide +kernel
theorem dX11_act_72 : decode cX11_act 72 = .ok (.getfield 387, 3) := by decide +kernel
theorem dX11_act_75 : decode cX11_act 75 = .ok (.iload_n 3, 1) := by decide +kernel
theorem dX11_act_76 : decode cX11_act 76 = .ok (.invokevirtual 384, 3) := by decide +kernel
theorem dX11_act_79 : decode cX11_act 79 = .ok (.ireturn, 1) := by decide +kernel
theorem dX11_act_80 : decode cX11_act 80 = .ok (.aload_n 0, 1) := by decide +kernel
theorem dX11_act_81 : decode cX11_act 81 = .ok (.aload_n 0, 1) := by decide +kernel
theorem dX11_act_82 : decode cX11_act 82 = .ok (.getfield 387, 3) := by decide +kernel
theorem dX11_act_85 : decode cX11_act 85 = .ok (.iload_n 3, 1) := by decide +kernel
theorem dX11_act_86 : decode cX11_act 86 = .ok (.invokevirtual 390, 3) := by decide +kernel
theorem dX11_act_89 : decode cX11_act 89 = .ok (.ireturn, 1) := by decide +kernel
theorem dX11_act_90 : decode cX11_act 90 = .ok (.aload_n 0, 1) := by decide +kernel
theorem dX11_act_91 : decode cX11_act 91 = .ok (.aload_n 0, 1) := by decide +kernel
theorem dX11_act_92 : decode cX11_act 92 = .ok (.getfield 387, 3) := by decide +kernel
theorem dX11_act_95 : decode cX11_act 95 = .ok (.iload_n 3, 1) := by decide +kernel
theorem dX11_act_96 : decode cX11_act 96 = .ok (.invokevirtual 393, 3) := by decide +kernel
theorem dX11_act_99 : decode cX11_act 99 = .ok (.ireturn, 1) := by decide +kernel
theorem dX11_act_100 : decode cX11_act 100 = .ok (.iconst 0, 1) := by decide +kernel
theorem dX11_act_101 : decode cX11_act 101 = .ok (.ireturn, 1) := by decide +kernel
theorem dX11_trace_0 : decode cX11_trace 0 = .ok (.iload_n 1, 1) := by decide +kernel
theorem dX11_trace_1 : decode cX11_trace 1 = .ok (.ifCond .lt 26, 3) := by decide +kernel
theorem dX11_trace_4 : decode cX11_trace 4 = .ok (.iload_n 1, 1) := by decide +kernel
theorem dX11_trace_5 : decode cX11_trace 5 = .ok (.aload_n 0, 1) := by decide +kernel
theorem dX11_trace_6 : decode cX11_trace 6 = .ok (.getfield 371, 3) := by decide +kernel
theorem dX11_trace_9 : decode cX11_trace 9 = .ok (.if_icmp .ge 18, 3) := by decide +kernel
theorem dX11_trace_12 : decode cX11_trace 12 = .ok (.iload_n 1, 1) := by decide +kernel
theorem dX11_trace_13 : decode cX11_trace 13 = .ok (.bipush 24, 2) := by decide +kernel
theorem dX11_trace_15 : decode cX11_trace 15 = .ok (.if_icmp .ge 12, 3) := by decide +kernel
theorem dX11_trace_18 : decode cX11_trace 18 = .ok (.aload_n 0, 1) := by decide +kernel
theorem dX11_trace_19 : decode cX11_trace 19 = .ok (.getfield 73, 3) := by decide +kernel
theorem dX11_trace_22 : decode cX11_trace 22 = .ok (.iload_n 1, 1) := by decide +kernel
theorem dX11_trace_23 : decode cX11_trace 23 = .ok (.iaload, 1) := by decide +kernel
theorem dX11_trace_24 : decode cX11_trace 24 = .ok (.goto 4, 3) := by decide +kernel
theorem dX11_trace_27 : decode cX11_trace 27 = .ok (.iconst (-1), 1) := by decide +kernel
theorem dX11_trace_28 : decode cX11_trace 28 = .ok (.ireturn, 1) := by decide +kernel
theorem dX11_isShelf_0 : decode cX11_isShelf 0 = .ok (.iload_n 0, 1) := by decide +kernel
theorem dX11_isShelf_1 : decode cX11_isShelf 1 = .ok (.i2l, 1) := by decide +kernel
theorem dX11_isShelf_2 : decode cX11_isShelf 2 = .ok (.lconst 0, 1) := by decide +kernel
theorem dX11_isShelf_3 : decode cX11_isShelf 3 = .ok (.ldc2_w 399, 3) := by decide +kernel
theorem dX11_isShelf_6 : decode cX11_isShelf 6 = .ok (.invokestatic 106, 3) := by decide +kernel
theorem dX11_isShelf_9 : decode cX11_isShelf 9 = .ok (.ireturn, 1) := by decide +kernel
theorem dX11_keep_0 : decode cX11_keep 0 = .ok (.iload_n 1, 1) := by decide +kernel
theorem dX11_keep_1 : decode cX11_keep 1 = .ok (.invokestatic 126, 3) := by decide +kernel
theorem dX11_keep_4 : decode cX11_keep 4 = .ok (.ifCond .eq 16, 3) := by decide +kernel
theorem dX11_keep_7 : decode cX11_keep 7 = .ok (.iload_n 2, 1) := by decide +kernel
theorem dX11_keep_8 : decode cX11_keep 8 = .ok (.iconst (-1), 1) := by decide +kernel
theorem dX11_keep_9 : decode cX11_keep 9 = .ok (.if_icmp .eq 13, 3) := by decide +kernel
theorem dX11_keep_12 : decode cX11_keep 12 = .ok (.aload_n 0, 1) := by decide +kernel
theorem dX11_keep_13 : decode cX11_keep 13 = .ok (.iload_n 2, 1) := by decide +kernel
theorem dX11_keep_14 : decode cX11_keep 14 = .ok (.invokevirtual 396, 3) := by decide +kernel
theorem dX11_keep_17 : decode cX11_keep 17 = .ok (.ifCond .ne 5, 3) := by decide +kernel
theorem dX11_keep_20 : decode cX11_keep 20 = .ok (.iconst (-1), 1) := by decide +kernel
theorem dX11_keep_21 : decode cX11_keep 21 = .ok (.ireturn, 1) := by decide +kernel
theorem dX11_keep_22 : decode cX11_keep 22 = .ok (.aload_n 0, 1) := by decide +kernel
theorem dX11_keep_23 : decode cX11_keep 23 = .ok (.getfield 76, 3) := by decide +kernel
theorem dX11_keep_26 : decode cX11_keep 26 = .ok (.iload_n 1, 1) := by decide +kernel
theorem dX11_keep_27 : decode cX11_keep 27 = .ok (.iload_n 2, 1) := by decide +kernel
theorem dX11_keep_28 : decode cX11_keep 28 = .ok (.iastore, 1) := by decide +kernel
theorem dX11_keep_29 : decode cX11_keep 29 = .ok (.aload_n 0, 1) := by decide +kernel
theorem dX11_keep_30 : decode cX11_keep 30 = .ok (.getfield 79, 3) := by decide +kernel
theorem dX11_keep_33 : decode cX11_keep 33 = .ok (.iload_n 1, 1) := by decide +kernel
theorem dX11_keep_34 : decode cX11_keep 34 = .ok (.iconst 0, 1) := by decide +kernel
theorem dX11_keep_35 : decode cX11_keep 35 = .ok (.iastore, 1) := by decide +kernel
theorem dX11_keep_36 : decode cX11_keep 36 = .ok (.iconst 1, 1) := by decide +kernel
theorem dX11_keep_37 : decode cX11_keep 37 = .ok (.ireturn, 1) := by decide +kernel
theorem dX11_row_0 : decode cX11_row 0 = .ok (.iload_n 1, 1) := by decide +kernel
theorem dX11_row_1 : decode cX11_row 1 = .ok (.invokestatic 126, 3) := by decide +kernel
theorem dX11_row_4 : decode cX11_row 4 = .ok (.ifCond .eq 21, 3) := by decide +kernel
theorem dX11_row_7 : decode cX11_row 7 = .ok (.iload_n 2, 1) := by decide +kernel
theorem dX11_row_8 : decode cX11_row 8 = .ok (.i2l, 1) := by decide +kernel
theorem dX11_row_9 : decode cX11_row 9 = .ok (.lconst 0, 1) := by decide +kernel
theorem dX11_row_10 : decode cX11_row 10 = .ok (.ldc2_w 185, 3) := by decide +kernel
theorem dX11_row_13 : decode cX11_row 13 = .ok (.invokestatic 106, 3) := by decide +kernel
theorem dX11_row_16 : decode cX11_row 16 = .ok (.ifCond .eq 9, 3) := by decide +kernel
theorem dX11_row_19 : decode cX11_row 19 = .ok (.iload_n 3, 1) := by decide +kernel
theorem dX11_row_20 : decode cX11_row 20 = .ok (.bipush 60, 2) := by decide +kernel
theorem dX11_row_22 : decode cX11_row 22 = .ok (.if_icmp .le 5, 3) := by decide +kernel
theorem dX11_row_25 : decode cX11_row 25 = .ok (.iconst (-1), 1) := by decide +kernel
theorem dX11_row_26 : decode cX11_row 26 = .ok (.ireturn, 1) := by decide +kernel
theorem dX11_row_27 : decode cX11_row 27 = .ok (.iload_n 3, 1) := by decide +kernel
theorem dX11_row_28 : decode cX11_row 28 = .ok (.ifCond .ge 6, 3) := by decide +kernel
theorem dX11_row_31 : decode cX11_row 31 = .ok (.bipush (-14), 2) := by decide +kernel
theorem dX11_row_33 : decode cX11_row 33 = .ok (.ireturn, 1) := by decide +kernel
theorem dX11_row_34 : decode cX11_row 34 = .ok (.aload_n 0, 1) := by decide +kernel
theorem dX11_row_35 : decode cX11_row 35 = .ok (.getfield 76, 3) := by decide +kernel
theorem dX11_row_38 : decode cX11_row 38 = .ok (.iload_n 1, 1) := by decide +kernel
theorem dX11_row_39 : decode cX11_row 39 = .ok (.bipush 50, 2) := by decide +kernel
theorem dX11_row_41 : decode cX11_row 41 = .ok (.iload_n 2, 1) := by decide +kernel
theorem dX11_row_42 : decode cX11_row 42 = .ok (.iadd, 1) := by decide +kernel
theorem dX11_row_43 : decode cX11_row 43 = .ok (.iastore, 1) := by decide +kernel
theorem dX11_row_44 : decode cX11_row 44 = .ok (.aload_n 0, 1) := by decide +kernel
theorem dX11_row_45 : decode cX11_row 45 = .ok (.getfield 79, 3) := by decide +kernel
theorem dX11_row_48 : decode cX11_row 48 = .ok (.iload_n 1, 1) := by decide +kernel
theorem dX11_row_49 : decode cX11_row 49 = .ok (.iload_n 3, 1) := by decide +kernel
theorem dX11_row_50 : decode cX11_row 50 = .ok (.iastore, 1) := by decide +kernel
theorem dX11_row_51 : decode cX11_row 51 = .ok (.bipush 60, 2) := by decide +kernel
theorem dX11_row_53 : decode cX11_row 53 = .ok (.iload_n 1, 1) := by decide +kernel
theorem dX11_row_54 : decode cX11_row 54 = .ok (.imul, 1) := by decide +kernel
theorem dX11_row_55 : decode cX11_row 55 = .ok (.istore 4, 2) := by decide +kernel
theorem dX11_row_57 : decode cX11_row 57 = .ok (.iload 4, 2) := by decide +kernel
theorem dX11_row_59 : decode cX11_row 59 = .ok (.bipush 60, 2) := by decide +kernel
theorem dX11_row_61 : decode cX11_row 61 = .ok (.iload_n 1, 1) := by decide +kernel
theorem dX11_row_62 : decode cX11_row 62 = .ok (.imul, 1) := by decide +kernel
theorem dX11_row_63 : decode cX11_row 63 = .ok (.bipush 60, 2) := by decide +kernel
theorem dX11_row_65 : decode cX11_row 65 = .ok (.iadd, 1) := by decide +kernel
theorem dX11_row_66 : decode cX11_row 66 = .ok (.if_icmp .ge 17, 3) := by decide +kernel
theorem dX11_row_69 : decode cX11_row 69 = .ok (.aload_n 0, 1) := by decide +kernel
theorem dX11_row_70 : decode cX11_row 70 = .ok (.getfield 82, 3) := by decide +kernel
theorem dX11_row_73 : decode cX11_row 73 = .ok (.iload 4, 2) := by decide +kernel
theorem dX11_row_75 : decode cX11_row 75 = .ok (.lconst 0, 1) := by decide +kernel
theorem dX11_row_76 : decode cX11_row 76 = .ok (.lastore, 1) := by decide +kernel
theorem dX11_row_77 : decode cX11_row 77 = .ok (.iinc 4 1, 3) := by decide +kernel
theorem dX11_row_80 : decode cX11_row 80 = .ok (.goto (-23), 3) := by decide +kernel
theorem dX11_row_83 : decode cX11_row 83 = .ok (.iconst 1, 1) := by decide +kernel
theorem dX11_row_84 : decode cX11_row 84 = .ok (.ireturn, 1) := by decide +kernel
theorem dX11_refusal_0 : decode cX11_refusal 0 = .ok (.iload_n 1, 1) := by decide +kernel
theorem dX11_refusal_1 : decode cX11_refusal 1 = .ok (.invokestatic 126, 3) := by decide +kernel
theorem dX11_refusal_4 : decode cX11_refusal 4 = .ok (.ifCond .ne 5, 3) := by decide +kernel
theorem dX11_refusal_7 : decode cX11_refusal 7 = .ok (.iconst (-1), 1) := by decide +kernel
theorem dX11_refusal_8 : decode cX11_refusal 8 = .ok (.ireturn, 1) := by decide +kernel
theorem dX11_refusal_9 : decode cX11_refusal 9 = .ok (.aload_n 0, 1) := by decide +kernel
theorem dX11_refusal_10 : decode cX11_refusal 10 = .ok (.getfield 76, 3) := by decide +kernel
theorem dX11_refusal_13 : decode cX11_refusal 13 = .ok (.iload_n 1, 1) := by decide +kernel
theorem dX11_refusal_14 : decode cX11_refusal 14 = .ok (.iaload, 1) := by decide +kernel
theorem dX11_refusal_15 : decode cX11_refusal 15 = .ok (.ifCond .ge 6, 3) := by decide +kernel
theorem dX11_refusal_18 : decode cX11_refusal 18 = .ok (.bipush (-11), 2) := by decide +kernel
