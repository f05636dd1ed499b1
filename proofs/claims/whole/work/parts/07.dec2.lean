theorem dX9_begin_13 : decode cX9_begin 13 = .ok (.invokevirtual 73, 3) := by decide +kernel
theorem dX9_begin_16 : decode cX9_begin 16 = .ok (.putfield 35, 3) := by decide +kernel
theorem dX9_begin_19 : decode cX9_begin 19 = .ok (.aload_n 0, 1) := by decide +kernel
theorem dX9_begin_20 : decode cX9_begin 20 = .ok (.iload_n 2, 1) := by decide +kernel
theorem dX9_begin_21 : decode cX9_begin 21 = .ok (.putfield 39, 3) := by decide +kernel
theorem dX9_begin_24 : decode cX9_begin 24 = .ok (.aload_n 0, 1) := by decide +kernel
theorem dX9_begin_25 : decode cX9_begin 25 = .ok (.iconst 0, 1) := by decide +kernel
theorem dX9_begin_26 : decode cX9_begin 26 = .ok (.putfield 98, 3) := by decide +kernel
theorem dX9_begin_29 : decode cX9_begin 29 = .ok (.aload_n 0, 1) := by decide +kernel
theorem dX9_begin_30 : decode cX9_begin 30 = .ok (.iconst 0, 1) := by decide +kernel
theorem dX9_begin_31 : decode cX9_begin 31 = .ok (.putfield 101, 3) := by decide +kernel
theorem dX9_begin_34 : decode cX9_begin 34 = .ok (.aload_n 0, 1) := by decide +kernel
theorem dX9_begin_35 : decode cX9_begin 35 = .ok (.iconst 0, 1) := by decide +kernel
theorem dX9_begin_36 : decode cX9_begin 36 = .ok (.putfield 46, 3) := by decide +kernel
theorem dX9_begin_39 : decode cX9_begin 39 = .ok (.aload_n 0, 1) := by decide +kernel
theorem dX9_begin_40 : decode cX9_begin 40 = .ok (.iconst 0, 1) := by decide +kernel
theorem dX9_begin_41 : decode cX9_begin 41 = .ok (.putfield 52, 3) := by decide +kernel
theorem dX9_begin_44 : decode cX9_begin 44 = .ok (.aload_n 0, 1) := by decide +kernel
theorem dX9_begin_45 : decode cX9_begin 45 = .ok (.iconst 0, 1) := by decide +kernel
theorem dX9_begin_46 : decode cX9_begin 46 = .ok (.putfield 55, 3) := by decide +kernel
theorem dX9_begin_49 : decode cX9_begin 49 = .ok (.aload_n 0, 1) := by decide +kernel
theorem dX9_begin_50 : decode cX9_begin 50 = .ok (.iconst 0, 1) := by decide +kernel
theorem dX9_begin_51 : decode cX9_begin 51 = .ok (.putfield 104, 3) := by decide +kernel
theorem dX9_begin_54 : decode cX9_begin 54 = .ok (.aload_n 0, 1) := by decide +kernel
theorem dX9_begin_55 : decode cX9_begin 55 = .ok (.iconst 0, 1) := by decide +kernel
theorem dX9_begin_56 : decode cX9_begin 56 = .ok (.putfield 107, 3) := by decide +kernel
theorem dX9_begin_59 : decode cX9_begin 59 = .ok (.aload_n 0, 1) := by decide +kernel
theorem dX9_begin_60 : decode cX9_begin 60 = .ok (.iconst 0, 1) := by decide +kernel
theorem dX9_begin_61 : decode cX9_begin 61 = .ok (.putfield 110, 3) := by decide +kernel
theorem dX9_begin_64 : decode cX9_begin 64 = .ok (.aload_n 0, 1) := by decide +kernel
theorem dX9_begin_65 : decode cX9_begin 65 = .ok (.iconst 0, 1) := by decide +kernel
theorem dX9_begin_66 : decode cX9_begin 66 = .ok (.putfield 84, 3) := by decide +kernel
theorem dX9_begin_69 : decode cX9_begin 69 = .ok (.aload_n 0, 1) := by decide +kernel
theorem dX9_begin_70 : decode cX9_begin 70 = .ok (.bipush (-2), 2) := by decide +kernel
theorem dX9_begin_72 : decode cX9_begin 72 = .ok (.putfield 81, 3) := by decide +kernel
theorem dX9_begin_75 : decode cX9_begin 75 = .ok (.return_, 1) := by decide +kernel
theorem dX9_seenAt_0 : decode cX9_seenAt 0 = .ok (.iload_n 1, 1) := by decide +kernel
theorem dX9_seenAt_1 : decode cX9_seenAt 1 = .ok (.iconst 1, 1) := by decide +kernel
theorem dX9_seenAt_2 : decode cX9_seenAt 2 = .ok (.isub, 1) := by decide +kernel
theorem dX9_seenAt_3 : decode cX9_seenAt 3 = .ok (.aload_n 0, 1) := by decide +kernel
theorem dX9_seenAt_4 : decode cX9_seenAt 4 = .ok (.getfield 9, 3) := by decide +kernel
theorem dX9_seenAt_7 : decode cX9_seenAt 7 = .ok (.getfield 113, 3) := by decide +kernel
theorem dX9_seenAt_10 : decode cX9_seenAt 10 = .ok (.isub, 1) := by decide +kernel
theorem dX9_seenAt_11 : decode cX9_seenAt 11 = .ok (.istore_n 2, 1) := by decide +kernel
theorem dX9_seenAt_12 : decode cX9_seenAt 12 = .ok (.iload_n 2, 1) := by decide +kernel
theorem dX9_seenAt_13 : decode cX9_seenAt 13 = .ok (.ifCond .lt 21, 3) := by decide +kernel
theorem dX9_seenAt_16 : decode cX9_seenAt 16 = .ok (.iload_n 2, 1) := by decide +kernel
theorem dX9_seenAt_17 : decode cX9_seenAt 17 = .ok (.sipush 200, 3) := by decide +kernel
theorem dX9_seenAt_20 : decode cX9_seenAt 20 = .ok (.if_icmp .ge 14, 3) := by decide +kernel
theorem dX9_seenAt_23 : decode cX9_seenAt 23 = .ok (.aload_n 0, 1) := by decide +kernel
theorem dX9_seenAt_24 : decode cX9_seenAt 24 = .ok (.getfield 28, 3) := by decide +kernel
theorem dX9_seenAt_27 : decode cX9_seenAt 27 = .ok (.iconst 1, 1) := by decide +kernel
theorem dX9_seenAt_28 : decode cX9_seenAt 28 = .ok (.aaload, 1) := by decide +kernel
theorem dX9_seenAt_29 : decode cX9_seenAt 29 = .ok (.iload_n 2, 1) := by decide +kernel
theorem dX9_seenAt_30 : decode cX9_seenAt 30 = .ok (.iaload, 1) := by decide +kernel
theorem dX9_seenAt_31 : decode cX9_seenAt 31 = .ok (.goto 7, 3) := by decide +kernel
theorem dX9_seenAt_34 : decode cX9_seenAt 34 = .ok (.aload_n 0, 1) := by decide +kernel
theorem dX9_seenAt_35 : decode cX9_seenAt 35 = .ok (.getfield 35, 3) := by decide +kernel
theorem dX9_seenAt_38 : decode cX9_seenAt 38 = .ok (.istore_n 3, 1) := by decide +kernel
theorem dX9_seenAt_39 : decode cX9_seenAt 39 = .ok (.aload_n 0, 1) := by decide +kernel
theorem dX9_seenAt_40 : decode cX9_seenAt 40 = .ok (.getfield 9, 3) := by decide +kernel
theorem dX9_seenAt_43 : decode cX9_seenAt 43 = .ok (.getfield 116, 3) := by decide +kernel
theorem dX9_seenAt_46 : decode cX9_seenAt 46 = .ok (.istore 4, 2) := by decide +kernel
theorem dX9_seenAt_48 : decode cX9_seenAt 48 = .ok (.iload_n 3, 1) := by decide +kernel
theorem dX9_seenAt_49 : decode cX9_seenAt 49 = .ok (.aload_n 0, 1) := by decide +kernel
theorem dX9_seenAt_50 : decode cX9_seenAt 50 = .ok (.getfield 39, 3) := by decide +kernel
theorem dX9_seenAt_53 : decode cX9_seenAt 53 = .ok (.bipush 8, 2) := by decide +kernel
theorem dX9_seenAt_55 : decode cX9_seenAt 55 = .ok (.iushr, 1) := by decide +kernel
theorem dX9_seenAt_56 : decode cX9_seenAt 56 = .ok (.iconst 2, 1) := by decide +kernel
theorem dX9_seenAt_57 : decode cX9_seenAt 57 = .ok (.iload 4, 2) := by decide +kernel
theorem dX9_seenAt_59 : decode cX9_seenAt 59 = .ok (.imul, 1) := by decide +kernel
theorem dX9_seenAt_60 : decode cX9_seenAt 60 = .ok (.iconst 1, 1) := by decide +kernel
theorem dX9_seenAt_61 : decode cX9_seenAt 61 = .ok (.iadd, 1) := by decide +kernel
theorem dX9_seenAt_62 : decode cX9_seenAt 62 = .ok (.irem, 1) := by decide +kernel
theorem dX9_seenAt_63 : decode cX9_seenAt 63 = .ok (.iadd, 1) := by decide +kernel
theorem dX9_seenAt_64 : decode cX9_seenAt 64 = .ok (.iload 4, 2) := by decide +kernel
theorem dX9_seenAt_66 : decode cX9_seenAt 66 = .ok (.isub, 1) := by decide +kernel
theorem dX9_seenAt_67 : decode cX9_seenAt 67 = .ok (.ireturn, 1) := by decide +kernel
theorem dX9_shakeAndHop_0 : decode cX9_shakeAndHop 0 = .ok (.aload_n 0, 1) := by decide +kernel
theorem dX9_shakeAndHop_1 : decode cX9_shakeAndHop 1 = .ok (.getfield 9, 3) := by decide +kernel
theorem dX9_shakeAndHop_4 : decode cX9_shakeAndHop 4 = .ok (.iload_n 3, 1) := by decide +kernel
theorem dX9_shakeAndHop_5 : decode cX9_shakeAndHop 5 = .ok (.aload_n 0, 1) := by decide +kernel
theorem dX9_shakeAndHop_6 : decode cX9_shakeAndHop 6 = .ok (.getfield 46, 3) := by decide +kernel
theorem dX9_shakeAndHop_9 : decode cX9_shakeAndHop 9 = .ok (.invokevirtual 119, 3) := by decide +kernel
theorem dX9_shakeAndHop_12 : decode cX9_shakeAndHop 12 = .ok (.istore 4, 2) := by decide +kernel
theorem dX9_shakeAndHop_14 : decode cX9_shakeAndHop 14 = .ok (.iload 4, 2) := by decide +kernel
theorem dX9_shakeAndHop_16 : decode cX9_shakeAndHop 16 = .ok (.aload_n 0, 1) := by decide +kernel
theorem dX9_shakeAndHop_17 : decode cX9_shakeAndHop 17 = .ok (.getfield 9, 3) := by decide +kernel
theorem dX9_shakeAndHop_20 : decode cX9_shakeAndHop 20 = .ok (.iload_n 2, 1) := by decide +kernel
theorem dX9_shakeAndHop_21 : decode cX9_shakeAndHop 21 = .ok (.invokevirtual 123, 3) := by decide +kernel
theorem dX9_shakeAndHop_24 : decode cX9_shakeAndHop 24 = .ok (.isub, 1) := by decide +kernel
theorem dX9_shakeAndHop_25 : decode cX9_shakeAndHop 25 = .ok (.istore 5, 2) := by decide +kernel
theorem dX9_shakeAndHop_27 : decode cX9_shakeAndHop 27 = .ok (.iload 4, 2) := by decide +kernel
theorem dX9_shakeAndHop_29 : decode cX9_shakeAndHop 29 = .ok (.sipush 500, 3) := by decide +kernel
theorem dX9_shakeAndHop_32 : decode cX9_shakeAndHop 32 = .ok (.if_icmp .le 13, 3) := by decide +kernel
theorem dX9_shakeAndHop_35 : decode cX9_shakeAndHop 35 = .ok (.aload_n 0, 1) := by decide +kernel
theorem dX9_shakeAndHop_36 : decode cX9_shakeAndHop 36 = .ok (.dup, 1) := by decide +kernel
theorem dX9_shakeAndHop_37 : decode cX9_shakeAndHop 37 = .ok (.getfield 104, 3) := by decide +kernel
theorem dX9_shakeAndHop_40 : decode cX9_shakeAndHop 40 = .ok (.iconst 1, 1) := by decide +kernel
theorem dX9_shakeAndHop_41 : decode cX9_shakeAndHop 41 = .ok (.iadd, 1) := by decide +kernel
theorem dX9_shakeAndHop_42 : decode cX9_shakeAndHop 42 = .ok (.putfield 104, 3) := by decide +kernel
theorem dX9_shakeAndHop_45 : decode cX9_shakeAndHop 45 = .ok (.iload 5, 2) := by decide +kernel
theorem dX9_shakeAndHop_47 : decode cX9_shakeAndHop 47 = .ok (.ifCond .le 88, 3) := by decide +kernel
theorem dX9_shakeAndHop_50 : decode cX9_shakeAndHop 50 = .ok (.aload_n 0, 1) := by decide +kernel
theorem dX9_shakeAndHop_51 : decode cX9_shakeAndHop 51 = .ok (.getfield 22, 3) := by decide +kernel
theorem dX9_shakeAndHop_54 : decode cX9_shakeAndHop 54 = .ok (.invokevirtual 126, 3) := by decide +kernel
theorem dX9_shakeAndHop_57 : decode cX9_shakeAndHop 57 = .ok (.istore 6, 2) := by decide +kernel
theorem dX9_shakeAndHop_59 : decode cX9_shakeAndHop 59 = .ok (.aload_n 0, 1) := by decide +kernel
theorem dX9_shakeAndHop_60 : decode cX9_shakeAndHop 60 = .ok (.dup, 1) := by decide +kernel
theorem dX9_shakeAndHop_61 : decode cX9_shakeAndHop 61 = .ok (.getfield 107, 3) := by decide +kernel
theorem dX9_shakeAndHop_64 : decode cX9_shakeAndHop 64 = .ok (.iconst 1, 1) := by decide +kernel
theorem dX9_shakeAndHop_65 : decode cX9_shakeAndHop 65 = .ok (.iadd, 1) := by decide +kernel
theorem dX9_shakeAndHop_66 : decode cX9_shakeAndHop 66 = .ok (.putfield 107, 3) := by decide +kernel
theorem dX9_shakeAndHop_69 : decode cX9_shakeAndHop 69 = .ok (.aload_n 0, 1) := by decide +kernel
theorem dX9_shakeAndHop_70 : decode cX9_shakeAndHop 70 = .ok (.aload_n 0, 1) := by decide +kernel
theorem dX9_shakeAndHop_71 : decode cX9_shakeAndHop 71 = .ok (.getfield 98, 3) := by decide +kernel
theorem dX9_shakeAndHop_74 : decode cX9_shakeAndHop 74 = .ok (.iload 6, 2) := by decide +kernel
theorem dX9_shakeAndHop_76 : decode cX9_shakeAndHop 76 = .ok (.invokestatic 129, 3) := by decide +kernel
theorem dX9_shakeAndHop_79 : decode cX9_shakeAndHop 79 = .ok (.iload 5, 2) := by decide +kernel
theorem dX9_shakeAndHop_81 : decode cX9_shakeAndHop 81 = .ok (.imul, 1) := by decide +kernel
theorem dX9_shakeAndHop_82 : decode cX9_shakeAndHop 82 = .ok (.sipush 1000, 3) := by decide +kernel
theorem dX9_shakeAndHop_85 : decode cX9_shakeAndHop 85 = .ok (.idiv, 1) := by decide +kernel
theorem dX9_shakeAndHop_86 : decode cX9_shakeAndHop 86 = .ok (.iadd, 1) := by decide +kernel
theorem dX9_shakeAndHop_87 : decode cX9_shakeAndHop 87 = .ok (.aload_n 0, 1) := by decide +kernel
theorem dX9_shakeAndHop_88 : decode cX9_shakeAndHop 88 = .ok (.getfield 9, 3) := by decide +kernel
theorem dX9_shakeAndHop_91 : decode cX9_shakeAndHop 91 = .ok (.iload_n 2, 1) := by decide +kernel
theorem dX9_shakeAndHop_92 : decode cX9_shakeAndHop 92 = .ok (.invokevirtual 132, 3) := by decide +kernel
theorem dX9_shakeAndHop_95 : decode cX9_shakeAndHop 95 = .ok (.iadd, 1) := by decide +kernel
theorem dX9_shakeAndHop_96 : decode cX9_shakeAndHop 96 = .ok (.invokestatic 135, 3) := by decide +kernel
theorem dX9_shakeAndHop_99 : decode cX9_shakeAndHop 99 = .ok (.putfield 98, 3) := by decide +kernel
theorem dX9_shakeAndHop_102 : decode cX9_shakeAndHop 102 = .ok (.aload_n 0, 1) := by decide +kernel
theorem dX9_shakeAndHop_103 : decode cX9_shakeAndHop 103 = .ok (.aload_n 0, 1) := by decide +kernel
theorem dX9_shakeAndHop_104 : decode cX9_shakeAndHop 104 = .ok (.getfield 101, 3) := by decide +kernel
theorem dX9_shakeAndHop_107 : decode cX9_shakeAndHop 107 = .ok (.iload 6, 2) := by decide +kernel
theorem dX9_shakeAndHop_109 : decode cX9_shakeAndHop 109 = .ok (.invokestatic 138, 3) := by decide +kernel
theorem dX9_shakeAndHop_112 : decode cX9_shakeAndHop 112 = .ok (.iload 5, 2) := by decide +kernel
theorem dX9_shakeAndHop_114 : decode cX9_shakeAndHop 114 = .ok (.imul, 1) := by decide +kernel
theorem dX9_shakeAndHop_115 : decode cX9_shakeAndHop 115 = .ok (.sipush 1000, 3) := by decide +kernel
theorem dX9_shakeAndHop_118 : decode cX9_shakeAndHop 118 = .ok (.idiv, 1) := by decide +kernel
theorem dX9_shakeAndHop_119 : decode cX9_shakeAndHop 119 = .ok (.iadd, 1) := by decide +kernel
theorem dX9_shakeAndHop_120 : decode cX9_shakeAndHop 120 = .ok (.aload_n 0, 1) := by decide +kernel
theorem dX9_shakeAndHop_121 : decode cX9_shakeAndHop 121 = .ok (.getfield 9, 3) := by decide +kernel
theorem dX9_shakeAndHop_124 : decode cX9_shakeAndHop 124 = .ok (.iload_n 2, 1) := by decide +kernel
theorem dX9_shakeAndHop_125 : decode cX9_shakeAndHop 125 = .ok (.invokevirtual 141, 3) := by decide +kernel
theorem dX9_shakeAndHop_128 : decode cX9_shakeAndHop 128 = .ok (.iadd, 1) := by decide +kernel
theorem dX9_shakeAndHop_129 : decode cX9_shakeAndHop 129 = .ok (.invokestatic 135, 3) := by decide +kernel
theorem dX9_shakeAndHop_132 : decode cX9_shakeAndHop 132 = .ok (.putfield 101, 3) := by decide +kernel
theorem dX9_shakeAndHop_135 : decode cX9_shakeAndHop 135 = .ok (.aload_n 0, 1) := by decide +kernel
theorem dX9_shakeAndHop_136 : decode cX9_shakeAndHop 136 = .ok (.aload_n 0, 1) := by decide +kernel
theorem dX9_shakeAndHop_137 : decode cX9_shakeAndHop 137 = .ok (.getfield 84, 3) := by decide +kernel
theorem dX9_shakeAndHop_140 : decode cX9_shakeAndHop 140 = .ok (.aload_n 0, 1) := by decide +kernel
theorem dX9_shakeAndHop_141 : decode cX9_shakeAndHop 141 = .ok (.invokevirtual 144, 3) := by decide +kernel
theorem dX9_shakeAndHop_144 : decode cX9_shakeAndHop 144 = .ok (.invokestatic 147, 3) := by decide +kernel
theorem dX9_shakeAndHop_147 : decode cX9_shakeAndHop 147 = .ok (.putfield 84, 3) := by decide +kernel
theorem dX9_shakeAndHop_150 : decode cX9_shakeAndHop 150 = .ok (.aload_n 0, 1) := by decide +kernel
theorem dX9_shakeAndHop_151 : decode cX9_shakeAndHop 151 = .ok (.getfield 28, 3) := by decide +kernel
theorem dX9_shakeAndHop_154 : decode cX9_shakeAndHop 154 = .ok (.iconst 0, 1) := by decide +kernel
theorem dX9_shakeAndHop_155 : decode cX9_shakeAndHop 155 = .ok (.aaload, 1) := by decide +kernel
theorem dX9_shakeAndHop_156 : decode cX9_shakeAndHop 156 = .ok (.iload_n 1, 1) := by decide +kernel
theorem dX9_shakeAndHop_157 : decode cX9_shakeAndHop 157 = .ok (.aload_n 0, 1) := by decide +kernel
theorem dX9_shakeAndHop_158 : decode cX9_shakeAndHop 158 = .ok (.getfield 46, 3) := by decide +kernel
theorem dX9_shakeAndHop_161 : decode cX9_shakeAndHop 161 = .ok (.iastore, 1) := by decide +kernel
theorem dX9_shakeAndHop_162 : decode cX9_shakeAndHop 162 = .ok (.aload_n 0, 1) := by decide +kernel
theorem dX9_shakeAndHop_163 : decode cX9_shakeAndHop 163 = .ok (.getfield 28, 3) := by decide +kernel
theorem dX9_shakeAndHop_166 : decode cX9_shakeAndHop 166 = .ok (.iconst 1, 1) := by decide +kernel
theorem dX9_shakeAndHop_167 : decode cX9_shakeAndHop 167 = .ok (.aaload, 1) := by decide +kernel
theorem dX9_shakeAndHop_168 : decode cX9_shakeAndHop 168 = .ok (.iload_n 1, 1) := by decide +kernel
theorem dX9_shakeAndHop_169 : decode cX9_shakeAndHop 169 = .ok (.iload_n 3, 1) := by decide +kernel
theorem dX9_shakeAndHop_170 : decode cX9_shakeAndHop 170 = .ok (.iastore, 1) := by decide +kernel
theorem dX9_shakeAndHop_171 : decode cX9_shakeAndHop 171 = .ok (.aload_n 0, 1) := by decide +kernel
theorem dX9_shakeAndHop_172 : decode cX9_shakeAndHop 172 = .ok (.getfield 28, 3) := by decide +kernel
theorem dX9_shakeAndHop_175 : decode cX9_shakeAndHop 175 = .ok (.iconst 2, 1) := by decide +kernel
theorem dX9_shakeAndHop_176 : decode cX9_shakeAndHop 176 = .ok (.aaload, 1) := by decide +kernel
theorem dX9_shakeAndHop_177 : decode cX9_shakeAndHop 177 = .ok (.iload_n 1, 1) := by decide +kernel
theorem dX9_shakeAndHop_178 : decode cX9_shakeAndHop 178 = .ok (.iload 4, 2) := by decide +kernel
theorem dX9_shakeAndHop_180 : decode cX9_shakeAndHop 180 = .ok (.iastore, 1) := by decide +kernel
theorem dX9_shakeAndHop_181 : decode cX9_shakeAndHop 181 = .ok (.aload_n 0, 1) := by decide +kernel
theorem dX9_shakeAndHop_182 : decode cX9_shakeAndHop 182 = .ok (.getfield 28, 3) := by decide +kernel
theorem dX9_shakeAndHop_185 : decode cX9_shakeAndHop 185 = .ok (.iconst 3, 1) := by decide +kernel
theorem dX9_shakeAndHop_186 : decode cX9_shakeAndHop 186 = .ok (.aaload, 1) := by decide +kernel
theorem dX9_shakeAndHop_187 : decode cX9_shakeAndHop 187 = .ok (.iload_n 1, 1) := by decide +kernel
theorem dX9_shakeAndHop_188 : decode cX9_shakeAndHop 188 = .ok (.aload_n 0, 1) := by decide +kernel
theorem dX9_shakeAndHop_189 : decode cX9_shakeAndHop 189 = .ok (.getfield 98, 3) := by decide +kernel
theorem dX9_shakeAndHop_192 : decode cX9_shakeAndHop 192 = .ok (.iastore, 1) := by decide +kernel
theorem dX9_shakeAndHop_193 : decode cX9_shakeAndHop 193 = .ok (.aload_n 0, 1) := by decide +kernel
theorem dX9_shakeAndHop_194 : decode cX9_shakeAndHop 194 = .ok (.getfield 28, 3) := by decide +kernel
theorem dX9_shakeAndHop_197 : decode cX9_shakeAndHop 197 = .ok (.iconst 4, 1) := by decide +kernel
theorem dX9_shakeAndHop_198 : decode cX9_shakeAndHop 198 = .ok (.aaload, 1) := by decide +kernel
theorem dX9_shakeAndHop_199 : decode cX9_shakeAndHop 199 = .ok (.iload_n 1, 1) := by decide +kernel
theorem dX9_shakeAndHop_200 : decode cX9_shakeAndHop 200 = .ok (.aload_n 0, 1) := by decide +kernel
theorem dX9_shakeAndHop_201 : decode cX9_shakeAndHop 201 = .ok (.getfield 101, 3) := by decide +kernel
theorem dX9_shakeAndHop_204 : decode cX9_shakeAndHop 204 = .ok (.iastore, 1) := by decide +kernel
theorem dX9_shakeAndHop_205 : decode cX9_shakeAndHop 205 = .ok (.aload_n 0, 1) := by decide +kernel
theorem dX9_shakeAndHop_206 : decode cX9_shakeAndHop 206 = .ok (.iload_n 1, 1) := by decide +kernel
theorem dX9_shakeAndHop_207 : decode cX9_shakeAndHop 207 = .ok (.iconst 1, 1) := by decide +kernel
theorem dX9_shakeAndHop_208 : decode cX9_shakeAndHop 208 = .ok (.iadd, 1) := by decide +kernel
theorem dX9_shakeAndHop_209 : decode cX9_shakeAndHop 209 = .ok (.putfield 110, 3) := by decide +kernel
theorem dX9_shakeAndHop_212 : decode cX9_shakeAndHop 212 = .ok (.return_, 1) := by decide +kernel
theorem dX9_within_0 : decode cX9_within 0 = .ok (.sipush (-9999), 3) := by decide +kernel
theorem dX9_within_3 : decode cX9_within 3 = .ok (.sipush 9999, 3) := by decide +kernel
theorem dX9_within_6 : decode cX9_within 6 = .ok (.iload_n 0, 1) := by decide +kernel
theorem dX9_within_7 : decode cX9_within 7 = .ok (.invokestatic 152, 3) := by decide +kernel
theorem dX9_within_10 : decode cX9_within 10 = .ok (.invokestatic 147, 3) := by decide +kernel
theorem dX9_within_13 : decode cX9_within 13 = .ok (.ireturn, 1) := by decide +kernel
theorem dX9_keptOf_0 : decode cX9_keptOf 0 = .ok (.iload_n 1, 1) := by decide +kernel
theorem dX9_keptOf_1 : decode cX9_keptOf 1 = .ok (.ifCond .lt 31, 3) := by decide +kernel
theorem dX9_keptOf_4 : decode cX9_keptOf 4 = .ok (.iload_n 1, 1) := by decide +kernel
theorem dX9_keptOf_5 : decode cX9_keptOf 5 = .ok (.aload_n 0, 1) := by decide +kernel
theorem dX9_keptOf_6 : decode cX9_keptOf 6 = .ok (.getfield 110, 3) := by decide +kernel
theorem dX9_keptOf_9 : decode cX9_keptOf 9 = .ok (.if_icmp .ge 23, 3) := by decide +kernel
theorem dX9_keptOf_12 : decode cX9_keptOf 12 = .ok (.iload_n 2, 1) := by decide +kernel
theorem dX9_keptOf_13 : decode cX9_keptOf 13 = .ok (.ifCond .lt 19, 3) := by decide +kernel
theorem dX9_keptOf_16 : decode cX9_keptOf 16 = .ok (.iload_n 2, 1) := by decide +kernel
theorem dX9_keptOf_17 : decode cX9_keptOf 17 = .ok (.iconst 5, 1) := by decide +kernel
theorem dX9_keptOf_18 : decode cX9_keptOf 18 = .ok (.if_icmp .ge 14, 3) := by decide +kernel
theorem dX9_keptOf_21 : decode cX9_keptOf 21 = .ok (.aload_n 0, 1) := by decide +kernel
theorem dX9_keptOf_22 : decode cX9_keptOf 22 = .ok (.getfield 28, 3) := by decide +kernel
theorem dX9_keptOf_25 : decode cX9_keptOf 25 = .ok (.iload_n 2, 1) := by decide +kernel
theorem dX9_keptOf_26 : decode cX9_keptOf 26 = .ok (.aaload, 1) := by decide +kernel
theorem dX9_keptOf_27 : decode cX9_keptOf 27 = .ok (.iload_n 1, 1) := by decide +kernel
theorem dX9_keptOf_28 : decode cX9_keptOf 28 = .ok (.iaload, 1) := by decide +kernel
theorem dX9_keptOf_29 : decode cX9_keptOf 29 = .ok (.goto 5, 3) := by decide +kernel
theorem dX9_keptOf_32 : decode cX9_keptOf 32 = .ok (.ldc 155, 2) := by decide +kernel
theorem dX9_keptOf_34 : decode cX9_keptOf 34 = .ok (.ireturn, 1) := by decide +kernel
theorem dX9_counted_0 : decode cX9_counted 0 = .ok (.iload_n 1, 1) := by decide +kernel
theorem dX9_counted_1 : decode cX9_counted 1 = .ok (.tableswitch 51 0 3 #[31, 36, 41, 46], 31) := by decide +kernel
theorem dX9_counted_32 : decode cX9_counted 32 = .ok (.aload_n 0, 1) := by decide +kernel
theorem dX9_counted_33 : decode cX9_counted 33 = .ok (.getfield 110, 3) := by decide +kernel
theorem dX9_counted_36 : decode cX9_counted 36 = .ok (.ireturn, 1) := by decide +kernel
theorem dX9_counted_37 : decode cX9_counted 37 = .ok (.aload_n 0, 1) := by decide +kernel
theorem dX9_counted_38 : decode cX9_counted 38 = .ok (.getfield 104, 3) := by decide +kernel
theorem dX9_counted_41 : decode cX9_counted 41 = .ok (.ireturn, 1) := by decide +kernel
theorem dX9_counted_42 : decode cX9_counted 42 = .ok (.aload_n 0, 1) := by decide +kernel
theorem dX9_counted_43 : decode cX9_counted 43 = .ok (.getfield 107, 3) := by decide +kernel
theorem dX9_counted_46 : decode cX9_counted 46 = .ok (.ireturn, 1) := by decide +kernel
theorem dX9_counted_47 : decode cX9_counted 47 = .ok (.aload_n 0, 1) := by decide +kernel
theorem dX9_counted_48 : decode cX9_counted 48 = .ok (.getfield 55, 3) := by decide +kernel
theorem dX9_counted_51 : decode cX9_counted 51 = .ok (.ireturn, 1) := by decide +kernel
theorem dX9_counted_52 : decode cX9_counted 52 = .ok (.ldc 155, 2) := by decide +kernel
theorem dX9_counted_54 : decode cX9_counted 54 = .ok (.ireturn, 1) := by decide +kernel
theorem dX9_left_0 : decode cX9_left 0 = .ok (.aload_n 0, 1) := by decide +kernel
theorem dX9_left_1 : decode cX9_left 1 = .ok (.getfield 22, 3) := by decide +kernel
theorem dX9_left_4 : decode cX9_left 4 = .ok (.invokevirtual 156, 3) := by decide +kernel
theorem dX9_left_7 : decode cX9_left 7 = .ok (.ireturn, 1) := by decide +kernel
theorem dX9_walked_0 : decode cX9_walked 0 = .ok (.aload_n 0, 1) := by decide +kernel
theorem dX9_walked_1 : decode cX9_walked 1 = .ok (.getfield 98, 3) := by decide +kernel
theorem dX9_walked_4 : decode cX9_walked 4 = .ok (.invokestatic 159, 3) := by decide +kernel
theorem dX9_walked_7 : decode cX9_walked 7 = .ok (.aload_n 0, 1) := by decide +kernel
theorem dX9_walked_8 : decode cX9_walked 8 = .ok (.getfield 101, 3) := by decide +kernel
theorem dX9_walked_11 : decode cX9_walked 11 = .ok (.invokestatic 159, 3) := by decide +kernel
theorem dX9_walked_14 : decode cX9_walked 14 = .ok (.iadd, 1) := by decide +kernel
theorem dX9_walked_15 : decode cX9_walked 15 = .ok (.ireturn, 1) := by decide +kernel
theorem dX10_lump_0 : decode cX10_lump 0 = .ok (.iload_n 1, 1) := by decide +kernel
theorem dX10_lump_1 : decode cX10_lump 1 = .ok (.ifCond .lt 29, 3) := by decide +kernel
theorem dX10_lump_4 : decode cX10_lump 4 = .ok (.iload_n 2, 1) := by decide +kernel
theorem dX10_lump_5 : decode cX10_lump 5 = .ok (.ifCond .lt 25, 3) := by decide +kernel
theorem dX10_lump_8 : decode cX10_lump 8 = .ok (.iload_n 1, 1) := by decide +kernel
theorem dX10_lump_9 : decode cX10_lump 9 = .ok (.bipush 100, 2) := by decide +kernel
theorem dX10_lump_11 : decode cX10_lump 11 = .ok (.idiv, 1) := by decide +kernel
theorem dX10_lump_12 : decode cX10_lump 12 = .ok (.iload_n 1, 1) := by decide +kernel
theorem dX10_lump_13 : decode cX10_lump 13 = .ok (.bipush 100, 2) := by decide +kernel
theorem dX10_lump_15 : decode cX10_lump 15 = .ok (.irem, 1) := by decide +kernel
theorem dX10_lump_16 : decode cX10_lump 16 = .ok (.iload_n 2, 1) := by decide +kernel
theorem dX10_lump_17 : decode cX10_lump 17 = .ok (.bipush 10, 2) := by decide +kernel
theorem dX10_lump_19 : decode cX10_lump 19 = .ok (.idiv, 1) := by decide +kernel
theorem dX10_lump_20 : decode cX10_lump 20 = .ok (.iload_n 2, 1) := by decide +kernel
theorem dX10_lump_21 : decode cX10_lump 21 = .ok (.bipush 10, 2) := by decide +kernel
theorem dX10_lump_23 : decode cX10_lump 23 = .ok (.irem, 1) := by decide +kernel
theorem dX10_lump_24 : decode cX10_lump 24 = .ok (.invokestatic 71, 3) := by decide +kernel
theorem dX10_lump_27 : decode cX10_lump 27 = .ok (.ifCond .ne 5, 3) := by decide +kernel
theorem dX10_lump_30 : decode cX10_lump 30 = .ok (.iconst (-1), 1) := by decide +kernel
theorem dX10_lump_31 : decode cX10_lump 31 = .ok (.ireturn, 1) := by decide +kernel
theorem dX10_lump_32 : decode cX10_lump 32 = .ok (.aload_n 0, 1) := by decide +kernel
theorem dX10_lump_33 : decode cX10_lump 33 = .ok (.getfield 10, 3) := by decide +kernel
theorem dX10_lump_36 : decode cX10_lump 36 = .ok (.invokevirtual 75, 3) := by decide +kernel
theorem dX10_lump_39 : decode cX10_lump 39 = .ok (.ifCond .eq 6, 3) := by decide +kernel
theorem dX10_lump_42 : decode cX10_lump 42 = .ok (.bipush (-3), 2) := by decide +kernel
theorem dX10_lump_44 : decode cX10_lump 44 = .ok (.ireturn, 1) := by decide +kernel
theorem dX10_lump_45 : decode cX10_lump 45 = .ok (.aload_n 0, 1) := by decide +kernel
theorem dX10_lump_46 : decode cX10_lump 46 = .ok (.getfield 10, 3) := by decide +kernel
theorem dX10_lump_49 : decode cX10_lump 49 = .ok (.iload_n 1, 1) := by decide +kernel
theorem dX10_lump_50 : decode cX10_lump 50 = .ok (.bipush 100, 2) := by decide +kernel
theorem dX10_lump_52 : decode cX10_lump 52 = .ok (.idiv, 1) := by decide +kernel
theorem dX10_lump_53 : decode cX10_lump 53 = .ok (.iload_n 1, 1) := by decide +kernel
theorem dX10_lump_54 : decode cX10_lump 54 = .ok (.bipush 100, 2) := by decide +kernel
theorem dX10_lump_56 : decode cX10_lump 56 = .ok (.irem, 1) := by decide +kernel
theorem dX10_lump_57 : decode cX10_lump 57 = .ok (.iload_n 2, 1) := by decide +kernel
theorem dX10_lump_58 : decode cX10_lump 58 = .ok (.bipush 10, 2) := by decide +kernel
theorem dX10_lump_60 : decode cX10_lump 60 = .ok (.idiv, 1) := by decide +kernel
theorem dX10_lump_61 : decode cX10_lump 61 = .ok (.iload_n 2, 1) := by decide +kernel
theorem dX10_lump_62 : decode cX10_lump 62 = .ok (.bipush 10, 2) := by decide +kernel
theorem dX10_lump_64 : decode cX10_lump 64 = .ok (.irem, 1) := by decide +kernel
theorem dX10_lump_65 : decode cX10_lump 65 = .ok (.invokevirtual 79, 3) := by decide +kernel
theorem dX10_lump_68 : decode cX10_lump 68 = .ok (.ireturn, 1) := by decide +kernel
theorem dX10_lumps_0 : decode cX10_lumps 0 = .ok (.iload_n 1, 1) := by decide +kernel
theorem dX10_lumps_1 : decode cX10_lumps 1 = .ok (.invokestatic 83, 3) := by decide +kernel
theorem dX10_lumps_4 : decode cX10_lumps 4 = .ok (.ifCond .eq 14, 3) := by decide +kernel
theorem dX10_lumps_7 : decode cX10_lumps 7 = .ok (.iload_n 3, 1) := by decide +kernel
theorem dX10_lumps_8 : decode cX10_lumps 8 = .ok (.iconst 1, 1) := by decide +kernel
theorem dX10_lumps_9 : decode cX10_lumps 9 = .ok (.if_icmp .lt 9, 3) := by decide +kernel
theorem dX10_lumps_12 : decode cX10_lumps 12 = .ok (.iload_n 3, 1) := by decide +kernel
theorem dX10_lumps_13 : decode cX10_lumps 13 = .ok (.bipush 12, 2) := by decide +kernel
theorem dX10_lumps_15 : decode cX10_lumps 15 = .ok (.if_icmp .le 5, 3) := by decide +kernel
theorem dX10_lumps_18 : decode cX10_lumps 18 = .ok (.iconst (-1), 1) := by decide +kernel
theorem dX10_lumps_19 : decode cX10_lumps 19 = .ok (.ireturn, 1) := by decide +kernel
theorem dX10_lumps_20 : decode cX10_lumps 20 = .ok (.aload_n 0, 1) := by decide +kernel
theorem dX10_lumps_21 : decode cX10_lumps 21 = .ok (.getfield 67, 3) := by decide +kernel
theorem dX10_lumps_24 : decode cX10_lumps 24 = .ok (.iload_n 1, 1) := by decide +kernel
theorem dX10_lumps_25 : decode cX10_lumps 25 = .ok (.invokevirtual 87, 3) := by decide +kernel
theorem dX10_lumps_28 : decode cX10_lumps 28 = .ok (.ifCond .eq 5, 3) := by decide +kernel
theorem dX10_lumps_31 : decode cX10_lumps 31 = .ok (.iconst 0, 1) := by decide +kernel
theorem dX10_lumps_32 : decode cX10_lumps 32 = .ok (.ireturn, 1) := by decide +kernel
theorem dX10_lumps_33 : decode cX10_lumps 33 = .ok (.aload_n 0, 1) := by decide +kernel
theorem dX10_lumps_34 : decode cX10_lumps 34 = .ok (.getfield 67, 3) := by decide +kernel
theorem dX10_lumps_37 : decode cX10_lumps 37 = .ok (.iload_n 1, 1) := by decide +kernel
theorem dX10_lumps_38 : decode cX10_lumps 38 = .ok (.iconst 0, 1) := by decide +kernel
theorem dX10_lumps_39 : decode cX10_lumps 39 = .ok (.invokevirtual 90, 3) := by decide +kernel
theorem dX10_lumps_42 : decode cX10_lumps 42 = .ok (.ifCond .ne 6, 3) := by decide +kernel
theorem dX10_lumps_45 : decode cX10_lumps 45 = .ok (.bipush (-12), 2) := by decide +kernel
theorem dX10_lumps_47 : decode cX10_lumps 47 = .ok (.ireturn, 1) := by decide +kernel
theorem dX10_lumps_48 : decode cX10_lumps 48 = .ok (.iconst 0, 1) := by decide +kernel
theorem dX10_lumps_49 : decode cX10_lumps 49 = .ok (.istore 4, 2) := by decide +kernel
theorem dX10_lumps_51 : decode cX10_lumps 51 = .ok (.iload 4, 2) := by decide +kernel
theorem dX10_lumps_53 : decode cX10_lumps 53 = .ok (.iload_n 3, 1) := by decide +kernel
theorem dX10_lumps_54 : decode cX10_lumps 54 = .ok (.if_icmp .ge 27, 3) := by decide +kernel
theorem dX10_lumps_57 : decode cX10_lumps 57 = .ok (.aload_n 0, 1) := by decide +kernel
theorem dX10_lumps_58 : decode cX10_lumps 58 = .ok (.iload_n 1, 1) := by decide +kernel
theorem dX10_lumps_59 : decode cX10_lumps 59 = .ok (.iload_n 2, 1) := by decide +kernel
theorem dX10_lumps_60 : decode cX10_lumps 60 = .ok (.i2l, 1) := by decide +kernel
theorem dX10_lumps_61 : decode cX10_lumps 61 = .ok (.ldc2_w 94, 3) := by decide +kernel
theorem dX10_lumps_64 : decode cX10_lumps 64 = .ok (.iload 4, 2) := by decide +kernel
theorem dX10_lumps_66 : decode cX10_lumps 66 = .ok (.i2l, 1) := by decide +kernel
theorem dX10_lumps_67 : decode cX10_lumps 67 = .ok (.lmul, 1) := by decide +kernel
theorem dX10_lumps_68 : decode cX10_lumps 68 = .ok (.ladd, 1) := by decide +kernel
theorem dX10_lumps_69 : decode cX10_lumps 69 = .ok (.invokevirtual 96, 3) := by decide +kernel
theorem dX10_lumps_72 : decode cX10_lumps 72 = .ok (.ifCond .eq 9, 3) := by decide +kernel
theorem dX10_lumps_75 : decode cX10_lumps 75 = .ok (.iinc 4 1, 3) := by decide +kernel
theorem dX10_lumps_78 : decode cX10_lumps 78 = .ok (.goto (-27), 3) := by decide +kernel
theorem dX10_lumps_81 : decode cX10_lumps 81 = .ok (.iload 4, 2) := by decide +kernel
theorem dX10_lumps_83 : decode cX10_lumps 83 = .ok (.ireturn, 1) := by decide +kernel
theorem dX10_lumpCameFromRow_0 : decode cX10_lumpCameFromRow 0 = .ok (.aload_n 0, 1) := by decide +kernel
theorem dX10_lumpCameFromRow_1 : decode cX10_lumpCameFromRow 1 = .ok (.getfield 10, 3) := by decide +kernel
theorem dX10_lumpCameFromRow_4 : decode cX10_lumpCameFromRow 4 = .ok (.invokevirtual 75, 3) := by decide +kernel
theorem dX10_lumpCameFromRow_7 : decode cX10_lumpCameFromRow 7 = .ok (.ifCond .ne 16, 3) := by decide +kernel
theorem dX10_lumpCameFromRow_10 : decode cX10_lumpCameFromRow 10 = .ok (.aload_n 0, 1) := by decide +kernel
theorem dX10_lumpCameFromRow_11 : decode cX10_lumpCameFromRow 11 = .ok (.getfield 67, 3) := by decide +kernel
theorem dX10_lumpCameFromRow_14 : decode cX10_lumpCameFromRow 14 = .ok (.iload_n 1, 1) := by decide +kernel
theorem dX10_lumpCameFromRow_15 : decode cX10_lumpCameFromRow 15 = .ok (.lload_n 2, 1) := by decide +kernel
theorem dX10_lumpCameFromRow_16 : decode cX10_lumpCameFromRow 16 = .ok (.iconst 4, 1) := by decide +kernel
theorem dX10_lumpCameFromRow_17 : decode cX10_lumpCameFromRow 17 = .ok (.invokevirtual 100, 3) := by decide +kernel
theorem dX10_lumpCameFromRow_20 : decode cX10_lumpCameFromRow 20 = .ok (.ifCond .ne 5, 3) := by decide +kernel
theorem dX10_lumpCameFromRow_23 : decode cX10_lumpCameFromRow 23 = .ok (.iconst 0, 1) := by decide +kernel
theorem dX10_lumpCameFromRow_24 : decode cX10_lumpCameFromRow 24 = .ok (.ireturn, 1) := by decide +kernel
theorem dX10_lumpCameFromRow_25 : decode cX10_lumpCameFromRow 25 = .ok (.lload_n 2, 1) := by decide +kernel
theorem dX10_lumpCameFromRow_26 : decode cX10_lumpCameFromRow 26 = .ok (.l2i, 1) := by decide +kernel
theorem dX10_lumpCameFromRow_27 : decode cX10_lumpCameFromRow 27 = .ok (.istore 4, 2) := by decide +kernel
theorem dX10_lumpCameFromRow_29 : decode cX10_lumpCameFromRow 29 = .ok (.aload_n 0, 1) := by decide +kernel
theorem dX10_lumpCameFromRow_30 : decode cX10_lumpCameFromRow 30 = .ok (.getfield 67, 3) := by decide +kernel
theorem dX10_lumpCameFromRow_33 : decode cX10_lumpCameFromRow 33 = .ok (.iload_n 1, 1) := by decide +kernel
theorem dX10_lumpCameFromRow_34 : decode cX10_lumpCameFromRow 34 = .ok (.iload 4, 2) := by decide +kernel
theorem dX10_lumpCameFromRow_36 : decode cX10_lumpCameFromRow 36 = .ok (.invokevirtual 104, 3) := by decide +kernel
theorem dX10_lumpCameFromRow_39 : decode cX10_lumpCameFromRow 39 = .ok (.l2i, 1) := by decide +kernel
theorem dX10_lumpCameFromRow_40 : decode cX10_lumpCameFromRow 40 = .ok (.istore 5, 2) := by decide +kernel
theorem dX10_lumpCameFromRow_42 : decode cX10_lumpCameFromRow 42 = .ok (.aload_n 0, 1) := by decide +kernel
theorem dX10_lumpCameFromRow_43 : decode cX10_lumpCameFromRow 43 = .ok (.getfield 67, 3) := by decide +kernel
theorem dX10_lumpCameFromRow_46 : decode cX10_lumpCameFromRow 46 = .ok (.iload_n 1, 1) := by decide +kernel
theorem dX10_lumpCameFromRow_47 : decode cX10_lumpCameFromRow 47 = .ok (.iload 4, 2) := by decide +kernel
theorem dX10_lumpCameFromRow_49 : decode cX10_lumpCameFromRow 49 = .ok (.iconst 1, 1) := by decide +kernel
theorem dX10_lumpCameFromRow_50 : decode cX10_lumpCameFromRow 50 = .ok (.iadd, 1) := by decide +kernel
theorem dX10_lumpCameFromRow_51 : decode cX10_lumpCameFromRow 51 = .ok (.invokevirtual 104, 3) := by decide +kernel
theorem dX10_lumpCameFromRow_54 : decode cX10_lumpCameFromRow 54 = .ok (.l2i, 1) := by decide +kernel
theorem dX10_lumpCameFromRow_55 : decode cX10_lumpCameFromRow 55 = .ok (.istore 6, 2) := by decide +kernel
theorem dX10_lumpCameFromRow_57 : decode cX10_lumpCameFromRow 57 = .ok (.aload_n 0, 1) := by decide +kernel
theorem dX10_lumpCameFromRow_58 : decode cX10_lumpCameFromRow 58 = .ok (.getfield 67, 3) := by decide +kernel
theorem dX10_lumpCameFromRow_61 : decode cX10_lumpCameFromRow 61 = .ok (.iload_n 1, 1) := by decide +kernel
theorem dX10_lumpCameFromRow_62 : decode cX10_lumpCameFromRow 62 = .ok (.iload 4, 2) := by decide +kernel
theorem dX10_lumpCameFromRow_64 : decode cX10_lumpCameFromRow 64 = .ok (.iconst 2, 1) := by decide +kernel
theorem dX10_lumpCameFromRow_65 : decode cX10_lumpCameFromRow 65 = .ok (.iadd, 1) := by decide +kernel
theorem dX10_lumpCameFromRow_66 : decode cX10_lumpCameFromRow 66 = .ok (.invokevirtual 104, 3) := by decide +kernel
theorem dX10_lumpCameFromRow_69 : decode cX10_lumpCameFromRow 69 = .ok (.l2i, 1) := by decide +kernel
theorem dX10_lumpCameFromRow_70 : decode cX10_lumpCameFromRow 70 = .ok (.istore 7, 2) := by decide +kernel
theorem dX10_lumpCameFromRow_72 : decode cX10_lumpCameFromRow 72 = .ok (.aload_n 0, 1) := by decide +kernel
theorem dX10_lumpCameFromRow_73 : decode cX10_lumpCameFromRow 73 = .ok (.getfield 67, 3) := by decide +kernel
theorem dX10_lumpCameFromRow_76 : decode cX10_lumpCameFromRow 76 = .ok (.iload_n 1, 1) := by decide +kernel
theorem dX10_lumpCameFromRow_77 : decode cX10_lumpCameFromRow 77 = .ok (.iload 4, 2) := by decide +kernel
theorem dX10_lumpCameFromRow_79 : decode cX10_lumpCameFromRow 79 = .ok (.iconst 3, 1) := by decide +kernel
theorem dX10_lumpCameFromRow_80 : decode cX10_lumpCameFromRow 80 = .ok (.iadd, 1) := by decide +kernel
theorem dX10_lumpCameFromRow_81 : decode cX10_lumpCameFromRow 81 = .ok (.invokevirtual 104, 3) := by decide +kernel
theorem dX10_lumpCameFromRow_84 : decode cX10_lumpCameFromRow 84 = .ok (.l2i, 1) := by decide +kernel
theorem dX10_lumpCameFromRow_85 : decode cX10_lumpCameFromRow 85 = .ok (.istore 8, 2) := by decide +kernel
theorem dX10_lumpCameFromRow_87 : decode cX10_lumpCameFromRow 87 = .ok (.iload 5, 2) := by decide +kernel
theorem dX10_lumpCameFromRow_89 : decode cX10_lumpCameFromRow 89 = .ok (.iload 6, 2) := by decide +kernel
theorem dX10_lumpCameFromRow_91 : decode cX10_lumpCameFromRow 91 = .ok (.iload 7, 2) := by decide +kernel
theorem dX10_lumpCameFromRow_93 : decode cX10_lumpCameFromRow 93 = .ok (.iload 8, 2) := by decide +kernel
theorem dX10_lumpCameFromRow_95 : decode cX10_lumpCameFromRow 95 = .ok (.invokestatic 71, 3) := by decide +kernel
theorem dX10_lumpCameFromRow_98 : decode cX10_lumpCameFromRow 98 = .ok (.ifCond .ne 5, 3) := by decide +kernel
theorem dX10_lumpCameFromRow_101 : decode cX10_lumpCameFromRow 101 = .ok (.iconst 0, 1) := by decide +kernel
theorem dX10_lumpCameFromRow_102 : decode cX10_lumpCameFromRow 102 = .ok (.ireturn, 1) := by decide +kernel
theorem dX10_lumpCameFromRow_103 : decode cX10_lumpCameFromRow 103 = .ok (.aload_n 0, 1) := by decide +kernel
theorem dX10_lumpCameFromRow_104 : decode cX10_lumpCameFromRow 104 = .ok (.getfield 10, 3) := by decide +kernel
theorem dX10_lumpCameFromRow_107 : decode cX10_lumpCameFromRow 107 = .ok (.iload 5, 2) := by decide +kernel
theorem dX10_lumpCameFromRow_109 : decode cX10_lumpCameFromRow 109 = .ok (.iload 6, 2) := by decide +kernel
theorem dX10_lumpCameFromRow_111 : decode cX10_lumpCameFromRow 111 = .ok (.iload 7, 2) := by decide +kernel
theorem dX10_lumpCameFromRow_113 : decode cX10_lumpCameFromRow 113 = .ok (.iload 8, 2) := by decide +kernel
theorem dX10_lumpCameFromRow_115 : decode cX10_lumpCameFromRow 115 = .ok (.invokevirtual 79, 3) := by decide +kernel
theorem dX10_lumpCameFromRow_118 : decode cX10_lumpCameFromRow 118 = .ok (.pop, 1) := by decide +kernel
theorem dX10_lumpCameFromRow_119 : decode cX10_lumpCameFromRow 119 = .ok (.iconst 1, 1) := by decide +kernel
theorem dX10_lumpCameFromRow_120 : decode cX10_lumpCameFromRow 120 = .ok (.ireturn, 1) := by decide +kernel
theorem dX10_mend_0 : decode cX10_mend 0 = .ok (.aload_n 0, 1) := by decide +kernel
theorem dX10_mend_1 : decode cX10_mend 1 = .ok (.getfield 10, 3) := by decide +kernel
theorem dX10_mend_4 : decode cX10_mend 4 = .ok (.iload_n 1, 1) := by decide +kernel
theorem dX10_mend_5 : decode cX10_mend 5 = .ok (.invokevirtual 108, 3) := by decide +kernel
theorem dX10_mend_8 : decode cX10_mend 8 = .ok (.ifCond .eq 11, 3) := by decide +kernel
theorem dX10_mend_11 : decode cX10_mend 11 = .ok (.iload_n 2, 1) := by decide +kernel
theorem dX10_mend_12 : decode cX10_mend 12 = .ok (.iload_n 3, 1) := by decide +kernel
theorem dX10_mend_13 : decode cX10_mend 13 = .ok (.invokestatic 111, 3) := by decide +kernel
theorem dX10_mend_16 : decode cX10_mend 16 = .ok (.ifCond .ne 5, 3) := by decide +kernel
theorem dX10_mend_19 : decode cX10_mend 19 = .ok (.iconst (-1), 1) := by decide +kernel
theorem dX10_mend_20 : decode cX10_mend 20 = .ok (.ireturn, 1) := by decide +kernel
theorem dX10_mend_21 : decode cX10_mend 21 = .ok (.aload_n 0, 1) := by decide +kernel
theorem dX10_mend_22 : decode cX10_mend 22 = .ok (.getfield 21, 3) := by decide +kernel
theorem dX10_mend_25 : decode cX10_mend 25 = .ok (.iload_n 1, 1) := by decide +kernel
theorem dX10_mend_26 : decode cX10_mend 26 = .ok (.iload_n 2, 1) := by decide +kernel
theorem dX10_mend_27 : decode cX10_mend 27 = .ok (.iload_n 3, 1) := by decide +kernel
theorem dX10_mend_28 : decode cX10_mend 28 = .ok (.invokevirtual 114, 3) := by decide +kernel
theorem dX10_mend_31 : decode cX10_mend 31 = .ok (.ireturn, 1) := by decide +kernel
theorem dX10_of_0 : decode cX10_of 0 = .ok (.aload_n 0, 1) := by decide +kernel
theorem dX10_of_1 : decode cX10_of 1 = .ok (.getfield 10, 3) := by decide +kernel
theorem dX10_of_4 : decode cX10_of 4 = .ok (.iload_n 1, 1) := by decide +kernel
theorem dX10_of_5 : decode cX10_of 5 = .ok (.invokevirtual 108, 3) := by decide +kernel
theorem dX10_of_8 : decode cX10_of 8 = .ok (.ifCond .eq 12, 3) := by decide +kernel
theorem dX10_of_11 : decode cX10_of 11 = .ok (.iload_n 2, 1) := by decide +kernel
theorem dX10_of_12 : decode cX10_of 12 = .ok (.ifCond .lt 8, 3) := by decide +kernel
theorem dX10_of_15 : decode cX10_of 15 = .ok (.iload_n 2, 1) := by decide +kernel
theorem dX10_of_16 : decode cX10_of 16 = .ok (.iconst 3, 1) := by decide +kernel
theorem dX10_of_17 : decode cX10_of 17 = .ok (.if_icmp .le 5, 3) := by decide +kernel
theorem dX10_of_20 : decode cX10_of 20 = .ok (.iconst (-1), 1) := by decide +kernel
theorem dX10_of_21 : decode cX10_of 21 = .ok (.ireturn, 1) := by decide +kernel
theorem dX10_of_22 : decode cX10_of 22 = .ok (.aload_n 0, 1) := by decide +kernel
theorem dX10_of_23 : decode cX10_of 23 = .ok (.getfield 10, 3) := by decide +kernel
theorem dX10_of_26 : decode cX10_of 26 = .ok (.iload_n 1, 1) := by decide +kernel
theorem dX10_of_27 : decode cX10_of 27 = .ok (.iload_n 2, 1) := by decide +kernel
theorem dX10_of_28 : decode cX10_of 28 = .ok (.invokevirtual 118, 3) := by decide +kernel
theorem dX10_of_31 : decode cX10_of 31 = .ok (.ireturn, 1) := by decide +kernel
theorem dX10_counter_0 : decode cX10_counter 0 = .ok (.iload_n 1, 1) := by decide +kernel
theorem dX10_counter_1 : decode cX10_counter 1 = .ok (.invokestatic 122, 3) := by decide +kernel
theorem dX10_counter_4 : decode cX10_counter 4 = .ok (.ifCond .ne 5, 3) := by decide +kernel
theorem dX10_counter_7 : decode cX10_counter 7 = .ok (.iconst (-1), 1) := by decide +kernel
theorem dX10_counter_8 : decode cX10_counter 8 = .ok (.ireturn, 1) := by decide +kernel
theorem dX10_counter_9 : decode cX10_counter 9 = .ok (.aload_n 0, 1) := by decide +kernel
theorem dX10_counter_10 : decode cX10_counter 10 = .ok (.getfield 21, 3) := by decide +kernel
theorem dX10_counter_13 : decode cX10_counter 13 = .ok (.iconst 0, 1) := by decide +kernel
theorem dX10_counter_14 : decode cX10_counter 14 = .ok (.iconst 4, 1) := by decide +kernel
theorem dX10_counter_15 : decode cX10_counter 15 = .ok (.iload_n 1, 1) := by decide +kernel
theorem dX10_counter_16 : decode cX10_counter 16 = .ok (.invokevirtual 114, 3) := by decide +kernel
theorem dX10_counter_19 : decode cX10_counter 19 = .ok (.ireturn, 1) := by decide +kernel
theorem dX10_set_0 : decode cX10_set 0 = .ok (.iload_n 1, 1) := by decide +kernel
theorem dX10_set_1 : decode cX10_set 1 = .ok (.iload_n 2, 1) := by decide +kernel
theorem dX10_set_2 : decode cX10_set 2 = .ok (.invokestatic 125, 3) := by decide +kernel
theorem dX10_set_5 : decode cX10_set 5 = .ok (.ifCond .eq 15, 3) := by decide +kernel
theorem dX10_set_8 : decode cX10_set 8 = .ok (.aload_n 0, 1) := by decide +kernel
theorem dX10_set_9 : decode cX10_set 9 = .ok (.getfield 28, 3) := by decide +kernel
theorem dX10_set_12 : decode cX10_set 12 = .ok (.iload_n 1, 1) := by decide +kernel
theorem dX10_set_13 : decode cX10_set 13 = .ok (.iload_n 2, 1) := by decide +kernel
theorem dX10_set_14 : decode cX10_set 14 = .ok (.invokevirtual 126, 3) := by decide +kernel
theorem dX10_set_17 : decode cX10_set 17 = .ok (.goto 4, 3) := by decide +kernel
theorem dX10_set_20 : decode cX10_set 20 = .ok (.iconst (-1), 1) := by decide +kernel
theorem dX10_set_21 : decode cX10_set 21 = .ok (.ireturn, 1) := by decide +kernel
theorem dX10_floor_0 : decode cX10_floor 0 = .ok (.iload_n 2, 1) := by decide +kernel
theorem dX10_floor_1 : decode cX10_floor 1 = .ok (.ifCond .lt 24, 3) := by decide +kernel
theorem dX10_floor_4 : decode cX10_floor 4 = .ok (.iload_n 1, 1) := by decide +kernel
theorem dX10_floor_5 : decode cX10_floor 5 = .ok (.iload_n 2, 1) := by decide +kernel
theorem dX10_floor_6 : decode cX10_floor 6 = .ok (.bipush 100, 2) := by decide +kernel
theorem dX10_floor_8 : decode cX10_floor 8 = .ok (.idiv, 1) := by decide +kernel
theorem dX10_floor_9 : decode cX10_floor 9 = .ok (.bipush 9, 2) := by decide +kernel
theorem dX10_floor_11 : decode cX10_floor 11 = .ok (.isub, 1) := by decide +kernel
theorem dX10_floor_12 : decode cX10_floor 12 = .ok (.iload_n 2, 1) := by decide +kernel
theorem dX10_floor_13 : decode cX10_floor 13 = .ok (.bipush 100, 2) := by decide +kernel
theorem dX10_floor_15 : decode cX10_floor 15 = .ok (.irem, 1) := by decide +kernel
theorem dX10_floor_16 : decode cX10_floor 16 = .ok (.bipush 9, 2) := by decide +kernel
theorem dX10_floor_18 : decode cX10_floor 18 = .ok (.isub, 1) := by decide +kernel
theorem dX10_floor_19 : decode cX10_floor 19 = .ok (.invokestatic 128, 3) := by decide +kernel
theorem dX10_floor_22 : decode cX10_floor 22 = .ok (.ifCond .ne 5, 3) := by decide +kernel
theorem dX10_floor_25 : decode cX10_floor 25 = .ok (.iconst (-1), 1) := by decide +kernel
theorem dX10_floor_26 : decode cX10_floor 26 = .ok (.ireturn, 1) := by decide +kernel
theorem dX10_floor_27 : decode cX10_floor 27 = .ok (.aload_n 0, 1) := by decide +kernel
theorem dX10_floor_28 : decode cX10_floor 28 = .ok (.getfield 28, 3) := by decide +kernel
theorem dX10_floor_31 : decode cX10_floor 31 = .ok (.invokevirtual 132, 3) := by decide +kernel
theorem dX10_floor_34 : decode cX10_floor 34 = .ok (.ifCond .eq 8, 3) := by decide +kernel
theorem dX10_floor_37 : decode cX10_floor 37 = .ok (.bipush (-3), 2) := by decide +kernel
theorem dX10_floor_39 : decode cX10_floor 39 = .ok (.goto 25, 3) := by decide +kernel
theorem dX10_floor_42 : decode cX10_floor 42 = .ok (.aload_n 0, 1) := by decide +kernel
theorem dX10_floor_43 : decode cX10_floor 43 = .ok (.getfield 28, 3) := by decide +kernel
theorem dX10_floor_46 : decode cX10_floor 46 = .ok (.iload_n 1, 1) := by decide +kernel
theorem dX10_floor_47 : decode cX10_floor 47 = .ok (.iload_n 2, 1) := by decide +kernel
theorem dX10_floor_48 : decode cX10_floor 48 = .ok (.bipush 100, 2) := by decide +kernel
theorem dX10_floor_50 : decode cX10_floor 50 = .ok (.idiv, 1) := by decide +kernel
theorem dX10_floor_51 : decode cX10_floor 51 = .ok (.bipush 9, 2) := by decide +kernel
theorem dX10_floor_53 : decode cX10_floor 53 = .ok (.isub, 1) := by decide +kernel
theorem dX10_floor_54 : decode cX10_floor 54 = .ok (.iload_n 2, 1) := by decide +kernel
theorem dX10_floor_55 : decode cX10_floor 55 = .ok (.bipush 100, 2) := by decide +kernel
theorem dX10_floor_57 : decode cX10_floor 57 = .ok (.irem, 1) := by decide +kernel
theorem dX10_floor_58 : decode cX10_floor 58 = .ok (.bipush 9, 2) := by decide +kernel
theorem dX10_floor_60 : decode cX10_floor 60 = .ok (.isub, 1) := by decide +kernel
theorem dX10_floor_61 : decode cX10_floor 61 = .ok (.invokevirtual 135, 3) := by decide +kernel
theorem dX10_floor_64 : decode cX10_floor 64 = .ok (.ireturn, 1) := by decide +kernel
theorem dX10_load_0 : decode cX10_load 0 = .ok (.iload_n 1, 1) := by decide +kernel
theorem dX10_load_1 : decode cX10_load 1 = .ok (.tableswitch 75 0 4 #[35, 43, 51, 59, 67], 35) := by decide +kernel
theorem dX10_load_36 : decode cX10_load 36 = .ok (.aload_n 0, 1) := by decide +kernel
theorem dX10_load_37 : decode cX10_load 37 = .ok (.getfield 10, 3) := by decide +kernel
theorem dX10_load_40 : decode cX10_load 40 = .ok (.invokevirtual 138, 3) := by decide +kernel
theorem dX10_load_43 : decode cX10_load 43 = .ok (.ireturn, 1) := by decide +kernel
theorem dX10_load_44 : decode cX10_load 44 = .ok (.aload_n 0, 1) := by decide +kernel
theorem dX10_load_45 : decode cX10_load 45 = .ok (.getfield 10, 3) := by decide +kernel
theorem dX10_load_48 : decode cX10_load 48 = .ok (.invokevirtual 142, 3) := by decide +kernel
theorem dX10_load_51 : decode cX10_load 51 = .ok (.ireturn, 1) := by decide +kernel
theorem dX10_load_52 : decode cX10_load 52 = .ok (.aload_n 0, 1) := by decide +kernel
theorem dX10_load_53 : decode cX10_load 53 = .ok (.getfield 10, 3) := by decide +kernel
theorem dX10_load_56 : decode cX10_load 56 = .ok (.invokevirtual 145, 3) := by decide +kernel
theorem dX10_load_59 : decode cX10_load 59 = .ok (.ireturn, 1) := by decide +kernel
theorem dX10_load_60 : decode cX10_load 60 = .ok (.aload_n 0, 1) := by decide +kernel
theorem dX10_load_61 : decode cX10_load 61 = .ok (.getfield 10, 3) := by decide +kernel
theorem dX10_load_64 : decode cX10_load 64 = .ok (.invokevirtual 148, 3) := by decide +kernel
theorem dX10_load_67 : decode cX10_load 67 = .ok (.ireturn, 1) := by decide +kernel
theorem dX10_load_68 : decode cX10_load 68 = .ok (.aload_n 0, 1) := by decide +kernel
theorem dX10_load_69 : decode cX10_load 69 = .ok (.getfield 10, 3) := by decide +kernel
theorem dX10_load_72 : decode cX10_load 72 = .ok (.invokevirtual 151, 3) := by decide +kernel
theorem dX10_load_75 : decode cX10_load 75 = .ok (.ireturn, 1) := by decide +kernel
theorem dX10_load_76 : decode cX10_load 76 = .ok (.ldc 154, 2) := by decide +kernel
theorem dX10_load_78 : decode cX10_load 78 = .ok (.ireturn, 1) := by decide +kernel
theorem dX10_shake_0 : decode cX10_shake 0 = .ok (.iload_n 1, 1) := by decide +kernel
theorem dX10_shake_1 : decode cX10_shake 1 = .ok (.invokestatic 155, 3) := by decide +kernel
theorem dX10_shake_4 : decode cX10_shake 4 = .ok (.ifCond .eq 21, 3) := by decide +kernel
theorem dX10_shake_7 : decode cX10_shake 7 = .ok (.aload_n 0, 1) := by decide +kernel
theorem dX10_shake_8 : decode cX10_shake 8 = .ok (.getfield 28, 3) := by decide +kernel
theorem dX10_shake_11 : decode cX10_shake 11 = .ok (.aload_n 0, 1) := by decide +kernel
theorem dX10_shake_12 : decode cX10_shake 12 = .ok (.getfield 10, 3) := by decide +kernel
theorem dX10_shake_15 : decode cX10_shake 15 = .ok (.invokevirtual 138, 3) := by decide +kernel
theorem dX10_shake_18 : decode cX10_shake 18 = .ok (.iload_n 1, 1) := by decide +kernel
theorem dX10_shake_19 : decode cX10_shake 19 = .ok (.invokevirtual 158, 3) := by decide +kernel
theorem dX10_shake_22 : decode cX10_shake 22 = .ok (.goto 4, 3) := by decide +kernel
theorem dX10_shake_25 : decode cX10_shake 25 = .ok (.iconst (-1), 1) := by decide +kernel
theorem dX10_shake_26 : decode cX10_shake 26 = .ok (.ireturn, 1) := by decide +kernel
theorem dX10_feed_0 : decode cX10_feed 0 = .ok (.iload_n 1, 1) := by decide +kernel
theorem dX10_feed_1 : decode cX10_feed 1 = .ok (.iconst 1, 1) := by decide +kernel
theorem dX10_feed_2 : decode cX10_feed 2 = .ok (.if_icmp .lt 8, 3) := by decide +kernel
theorem dX10_feed_5 : decode cX10_feed 5 = .ok (.iload_n 1, 1) := by decide +kernel
theorem dX10_feed_6 : decode cX10_feed 6 = .ok (.iconst 4, 1) := by decide +kernel
theorem dX10_feed_7 : decode cX10_feed 7 = .ok (.if_icmp .le 5, 3) := by decide +kernel
theorem dX10_feed_10 : decode cX10_feed 10 = .ok (.iconst (-1), 1) := by decide +kernel
theorem dX10_feed_11 : decode cX10_feed 11 = .ok (.ireturn, 1) := by decide +kernel
theorem dX10_feed_12 : decode cX10_feed 12 = .ok (.aload_n 0, 1) := by decide +kernel
theorem dX10_feed_13 : decode cX10_feed 13 = .ok (.getfield 35, 3) := by decide +kernel
theorem dX10_feed_16 : decode cX10_feed 16 = .ok (.getfield 161, 3) := by decide +kernel
theorem dX10_feed_19 : decode cX10_feed 19 = .ok (.iload_n 1, 1) := by decide +kernel
theorem dX10_feed_20 : decode cX10_feed 20 = .ok (.invokevirtual 165, 3) := by decide +kernel
theorem dX10_feed_23 : decode cX10_feed 23 = .ok (.ifCond .eq 18, 3) := by decide +kernel
theorem dX10_feed_26 : decode cX10_feed 26 = .ok (.aload_n 0, 1) := by decide +kernel
theorem dX10_feed_27 : decode cX10_feed 27 = .ok (.getfield 35, 3) := by decide +kernel
theorem dX10_feed_30 : decode cX10_feed 30 = .ok (.getfield 161, 3) := by decide +kernel
theorem dX10_feed_33 : decode cX10_feed 33 = .ok (.iload_n 1, 1) := by decide +kernel
theorem dX10_feed_34 : decode cX10_feed 34 = .ok (.iload_n 2, 1) := by decide +kernel
theorem dX10_feed_35 : decode cX10_feed 35 = .ok (.invokevirtual 170, 3) := by decide +kernel
theorem dX10_feed_38 : decode cX10_feed 38 = .ok (.goto 5, 3) := by decide +kernel
theorem dX10_feed_41 : decode cX10_feed 41 = .ok (.bipush (-3), 2) := by decide +kernel
theorem dX10_feed_43 : decode cX10_feed 43 = .ok (.ireturn, 1) := by decide +kernel
theorem dX10_law_0 : decode cX10_law 0 = .ok (.aload_n 0, 1) := by decide +kernel
theorem dX10_law_1 : decode cX10_law 1 = .ok (.getfield 35, 3) := by decide +kernel
theorem dX10_law_4 : decode cX10_law 4 = .ok (.invokevirtual 173, 3) := by decide +kernel
theorem dX10_law_7 : decode cX10_law 7 = .ok (.ifCond .eq 8, 3) := by decide +kernel
theorem dX10_law_10 : decode cX10_law 10 = .ok (.bipush (-3), 2) := by decide +kernel
theorem dX10_law_12 : decode cX10_law 12 = .ok (.goto 10, 3) := by decide +kernel
theorem dX10_law_15 : decode cX10_law 15 = .ok (.aload_n 0, 1) := by decide +kernel
theorem dX10_law_16 : decode cX10_law 16 = .ok (.getfield 35, 3) := by decide +kernel
theorem dX10_law_19 : decode cX10_law 19 = .ok (.invokevirtual 176, 3) := by decide +kernel
theorem dX10_law_22 : decode cX10_law 22 = .ok (.ireturn, 1) := by decide +kernel
theorem dX10_water_0 : decode cX10_water 0 = .ok (.iload_n 1, 1) := by decide +kernel
theorem dX10_water_1 : decode cX10_water 1 = .ok (.iconst (-1), 1) := by decide +kernel
theorem dX10_water_2 : decode cX10_water 2 = .ok (.if_icmp .eq 14, 3) := by decide +kernel
theorem dX10_water_5 : decode cX10_water 5 = .ok (.aload_n 0, 1) := by decide +kernel
theorem dX10_water_6 : decode cX10_water 6 = .ok (.getfield 35, 3) := by decide +kernel
theorem dX10_water_9 : decode cX10_water 9 = .ok (.iload_n 1, 1) := by decide +kernel
theorem dX10_water_10 : decode cX10_water 10 = .ok (.invokevirtual 179, 3) := by decide +kernel
theorem dX10_water_13 : decode cX10_water 13 = .ok (.ifCond .eq 14, 3) := by decide +kernel
theorem dX10_water_16 : decode cX10_water 16 = .ok (.aload_n 0, 1) := by decide +kernel
theorem dX10_water_17 : decode cX10_water 17 = .ok (.getfield 35, 3) := by decide +kernel
theorem dX10_water_20 : decode cX10_water 20 = .ok (.iload_n 1, 1) := by decide +kernel
theorem dX10_water_21 : decode cX10_water 21 = .ok (.invokevirtual 182, 3) := by decide +kernel
theorem dX10_water_24 : decode cX10_water 24 = .ok (.goto 5, 3) := by decide +kernel
theorem dX10_water_27 : decode cX10_water 27 = .ok (.ldc 154, 2) := by decide +kernel
theorem dX10_water_29 : decode cX10_water 29 = .ok (.ireturn, 1) := by decide +kernel
theorem dX10_run_0 : decode cX10_run 0 = .ok (.aload_n 0, 1) := by decide +kernel
theorem dX10_run_1 : decode cX10_run 1 = .ok (.iload_n 1, 1) := by decide +kernel
theorem dX10_run_2 : decode cX10_run 2 = .ok (.invokevirtual 186, 3) := by decide +kernel
theorem dX10_run_5 : decode cX10_run 5 = .ok (.ifCond .eq 24, 3) := by decide +kernel
theorem dX10_run_8 : decode cX10_run 8 = .ok (.iload_n 2, 1) := by decide +kernel
theorem dX10_run_9 : decode cX10_run 9 = .ok (.sipush 200, 3) := by decide +kernel
theorem dX10_run_12 : decode cX10_run 12 = .ok (.invokestatic 189, 3) := by decide +kernel
theorem dX10_run_15 : decode cX10_run 15 = .ok (.ifCond .eq 14, 3) := by decide +kernel
theorem dX10_run_18 : decode cX10_run 18 = .ok (.iload 4, 2) := by decide +kernel
theorem dX10_run_20 : decode cX10_run 20 = .ok (.ifCond .lt 9, 3) := by decide +kernel
theorem dX10_run_23 : decode cX10_run 23 = .ok (.iload 4, 2) := by decide +kernel
theorem dX10_run_25 : decode cX10_run 25 = .ok (.iconst 1, 1) := by decide +kernel
theorem dX10_run_26 : decode cX10_run 26 = .ok (.if_icmp .le 5, 3) := by decide +kernel
theorem dX10_run_29 : decode cX10_run 29 = .ok (.iconst (-1), 1) := by decide +kernel
theorem dX10_run_30 : decode cX10_run 30 = .ok (.ireturn, 1) := by decide +kernel
theorem dX10_run_31 : decode cX10_run 31 = .ok (.aload_n 0, 1) := by decide +kernel
theorem dX10_run_32 : decode cX10_run 32 = .ok (.getfield 44, 3) := by decide +kernel
theorem dX10_run_35 : decode cX10_run 35 = .ok (.aload_n 0, 1) := by decide +kernel
theorem dX10_run_36 : decode cX10_run 36 = .ok (.getfield 10, 3) := by decide +kernel
theorem dX10_run_39 : decode cX10_run 39 = .ok (.iload_n 1, 1) := by decide +kernel
theorem dX10_run_40 : decode cX10_run 40 = .ok (.bipush 10, 2) := by decide +kernel
theorem dX10_run_42 : decode cX10_run 42 = .ok (.idiv, 1) := by decide +kernel
theorem dX10_run_43 : decode cX10_run 43 = .ok (.iload_n 1, 1) := by decide +kernel
theorem dX10_run_44 : decode cX10_run 44 = .ok (.bipush 10, 2) := by decide +kernel
theorem dX10_run_46 : decode cX10_run 46 = .ok (.irem, 1) := by decide +kernel
theorem dX10_run_47 : decode cX10_run 47 = .ok (.iload_n 2, 1) := by decide +kernel
theorem dX10_run_48 : decode cX10_run 48 = .ok (.sipush 1000, 3) := by decide +kernel
theorem dX10_run_51 : decode cX10_run 51 = .ok (.idiv, 1) := by decide +kernel
theorem dX10_run_52 : decode cX10_run 52 = .ok (.iload_n 2, 1) := by decide +kernel
theorem dX10_run_53 : decode cX10_run 53 = .ok (.sipush 1000, 3) := by decide +kernel
theorem dX10_run_56 : decode cX10_run 56 = .ok (.irem, 1) := by decide +kernel
theorem dX10_run_57 : decode cX10_run 57 = .ok (.iload_n 3, 1) := by decide +kernel
theorem dX10_run_58 : decode cX10_run 58 = .ok (.invokevirtual 192, 3) := by decide +kernel
theorem dX10_run_61 : decode cX10_run 61 = .ok (.iload 4, 2) := by decide +kernel
theorem dX10_run_63 : decode cX10_run 63 = .ok (.iconst 1, 1) := by decide +kernel
theorem dX10_run_64 : decode cX10_run 64 = .ok (.if_icmp .ne 24, 3) := by decide +kernel
theorem dX10_run_67 : decode cX10_run 67 = .ok (.aload_n 0, 1) := by decide +kernel
theorem dX10_run_68 : decode cX10_run 68 = .ok (.getfield 10, 3) := by decide +kernel
theorem dX10_run_71 : decode cX10_run 71 = .ok (.aload_n 0, 1) := by decide +kernel
theorem dX10_run_72 : decode cX10_run 72 = .ok (.getfield 44, 3) := by decide +kernel
theorem dX10_run_75 : decode cX10_run 75 = .ok (.getfield 196, 3) := by decide +kernel
theorem dX10_run_78 : decode cX10_run 78 = .ok (.invokevirtual 197, 3) := by decide +kernel
theorem dX10_run_81 : decode cX10_run 81 = .ok (.aload_n 0, 1) := by decide +kernel
theorem dX10_run_82 : decode cX10_run 82 = .ok (.getfield 21, 3) := by decide +kernel
theorem dX10_run_85 : decode cX10_run 85 = .ok (.invokevirtual 200, 3) := by decide +kernel
theorem dX10_run_88 : decode cX10_run 88 = .ok (.aload_n 0, 1) := by decide +kernel
theorem dX10_run_89 : decode cX10_run 89 = .ok (.getfield 44, 3) := by decide +kernel
theorem dX10_run_92 : decode cX10_run 92 = .ok (.getfield 203, 3) := by decide +kernel
theorem dX10_run_95 : decode cX10_run 95 = .ok (.ireturn, 1) := by decide +kernel
theorem dX10_isRuleAndFloor_0 : decode cX10_isRuleAndFloor 0 = .ok (.iload_n 1, 1) := by decide +kernel
theorem dX10_isRuleAndFloor_1 : decode cX10_isRuleAndFloor 1 = .ok (.ifCond .lt 35, 3) := by decide +kernel
theorem dX10_isRuleAndFloor_4 : decode cX10_isRuleAndFloor 4 = .ok (.aload_n 0, 1) := by decide +kernel
theorem dX10_isRuleAndFloor_5 : decode cX10_isRuleAndFloor 5 = .ok (.getfield 35, 3) := by decide +kernel
theorem dX10_isRuleAndFloor_8 : decode cX10_isRuleAndFloor 8 = .ok (.iload_n 1, 1) := by decide +kernel
theorem dX10_isRuleAndFloor_9 : decode cX10_isRuleAndFloor 9 = .ok (.bipush 10, 2) := by decide +kernel
theorem dX10_isRuleAndFloor_11 : decode cX10_isRuleAndFloor 11 = .ok (.idiv, 1) := by decide +kernel
theorem dX10_isRuleAndFloor_12 : decode cX10_isRuleAndFloor 12 = .ok (.invokevirtual 179, 3) := by decide +kernel
theorem dX10_isRuleAndFloor_15 : decode cX10_isRuleAndFloor 15 = .ok (.ifCond .eq 21, 3) := by decide +kernel
theorem dX10_isRuleAndFloor_18 : decode cX10_isRuleAndFloor 18 = .ok (.aload_n 0, 1) := by decide +kernel
theorem dX10_isRuleAndFloor_19 : decode cX10_isRuleAndFloor 19 = .ok (.getfield 28, 3) := by decide +kernel
theorem dX10_isRuleAndFloor_22 : decode cX10_isRuleAndFloor 22 = .ok (.iload_n 1, 1) := by decide +kernel
theorem dX10_isRuleAndFloor_23 : decode cX10_isRuleAndFloor 23 = .ok (.bipush 10, 2) := by decide +kernel
theorem dX10_isRuleAndFloor_25 : decode cX10_isRuleAndFloor 25 = .ok (.irem, 1) := by decide +kernel
theorem dX10_isRuleAndFloor_26 : decode cX10_isRuleAndFloor 26 = .ok (.invokevirtual 207, 3) := by decide +kernel
theorem dX10_isRuleAndFloor_29 : decode cX10_isRuleAndFloor 29 = .ok (.ifCond .eq 7, 3) := by decide +kernel
theorem dX10_isRuleAndFloor_32 : decode cX10_isRuleAndFloor 32 = .ok (.iconst 1, 1) := by decide +kernel
theorem dX10_isRuleAndFloor_33 : decode cX10_isRuleAndFloor 33 = .ok (.goto 4, 3) := by decide +kernel
theorem dX10_isRuleAndFloor_36 : decode cX10_isRuleAndFloor 36 = .ok (.iconst 0, 1) := by decide +kernel
theorem dX10_isRuleAndFloor_37 : decode cX10_isRuleAndFloor 37 = .ok (.ireturn, 1) := by decide +kernel
theorem dX10_isGoalAndCount_0 : decode cX10_isGoalAndCount 0 = .ok (.iload_n 0, 1) := by decide +kernel
theorem dX10_isGoalAndCount_1 : decode cX10_isGoalAndCount 1 = .ok (.ifCond .lt 36, 3) := by decide +kernel
theorem dX10_isGoalAndCount_4 : decode cX10_isGoalAndCount 4 = .ok (.iload_n 0, 1) := by decide +kernel
theorem dX10_isGoalAndCount_5 : decode cX10_isGoalAndCount 5 = .ok (.sipush 1000, 3) := by decide +kernel
theorem dX10_isGoalAndCount_8 : decode cX10_isGoalAndCount 8 = .ok (.idiv, 1) := by decide +kernel
theorem dX10_isGoalAndCount_9 : decode cX10_isGoalAndCount 9 = .ok (.invokestatic 210, 3) := by decide +kernel
theorem dX10_isGoalAndCount_12 : decode cX10_isGoalAndCount 12 = .ok (.ifCond .eq 25, 3) := by decide +kernel
theorem dX10_isGoalAndCount_15 : decode cX10_isGoalAndCount 15 = .ok (.iload_n 0, 1) := by decide +kernel
theorem dX10_isGoalAndCount_16 : decode cX10_isGoalAndCount 16 = .ok (.sipush 1000, 3) := by decide +kernel
theorem dX10_isGoalAndCount_19 : decode cX10_isGoalAndCount 19 = .ok (.irem, 1) := by decide +kernel
theorem dX10_isGoalAndCount_20 : decode cX10_isGoalAndCount 20 = .ok (.iconst 1, 1) := by decide +kernel
theorem dX10_isGoalAndCount_21 : decode cX10_isGoalAndCount 21 = .ok (.if_icmp .lt 16, 3) := by decide +kernel
theorem dX10_isGoalAndCount_24 : decode cX10_isGoalAndCount 24 = .ok (.iload_n 0, 1) := by decide +kernel
theorem dX10_isGoalAndCount_25 : decode cX10_isGoalAndCount 25 = .ok (.sipush 1000, 3) := by decide +kernel
theorem dX10_isGoalAndCount_28 : decode cX10_isGoalAndCount 28 = .ok (.irem, 1) := by decide +kernel
theorem dX10_isGoalAndCount_29 : decode cX10_isGoalAndCount 29 = .ok (.iload_n 1, 1) := by decide +kernel
theorem dX10_isGoalAndCount_30 : decode cX10_isGoalAndCount 30 = .ok (.if_icmp .gt 7, 3) := by decide +kernel
theorem dX10_isGoalAndCount_33 : decode cX10_isGoalAndCount 33 = .ok (.iconst 1, 1) := by decide +kernel
theorem dX10_isGoalAndCount_34 : decode cX10_isGoalAndCount 34 = .ok (.goto 4, 3) := by decide +kernel
theorem dX10_isGoalAndCount_37 : decode cX10_isGoalAndCount 37 = .ok (.iconst 0, 1) := by decide +kernel
theorem dX10_isGoalAndCount_38 : decode cX10_isGoalAndCount 38 = .ok (.ireturn, 1) := by decide +kernel
theorem dX10_led_0 : decode cX10_led 0 = .ok (.aload_n 0, 1) := by decide +kernel
theorem dX10_led_1 : decode cX10_led 1 = .ok (.getfield 44, 3) := by decide +kernel
theorem dX10_led_4 : decode cX10_led 4 = .ok (.getfield 213, 3) := by decide +kernel
theorem dX10_led_7 : decode cX10_led 7 = .ok (.ifCond .ne 6, 3) := by decide +kernel
theorem dX10_led_10 : decode cX10_led 10 = .ok (.ldc 154, 2) := by decide +kernel
theorem dX10_led_12 : decode cX10_led 12 = .ok (.ireturn, 1) := by decide +kernel
theorem dX10_led_13 : decode cX10_led 13 = .ok (.iload_n 1, 1) := by decide +kernel
theorem dX10_led_14 : decode cX10_led 14 = .ok (.iconst (-1), 1) := by decide +kernel
theorem dX10_led_15 : decode cX10_led 15 = .ok (.if_icmp .ne 14, 3) := by decide +kernel
theorem dX10_led_18 : decode cX10_led 18 = .ok (.aload_n 0, 1) := by decide +kernel
theorem dX10_led_19 : decode cX10_led 19 = .ok (.getfield 44, 3) := by decide +kernel
theorem dX10_led_22 : decode cX10_led 22 = .ok (.iload_n 2, 1) := by decide +kernel
theorem dX10_led_23 : decode cX10_led 23 = .ok (.invokevirtual 216, 3) := by decide +kernel
theorem dX10_led_26 : decode cX10_led 26 = .ok (.goto 12, 3) := by decide +kernel
theorem dX10_led_29 : decode cX10_led 29 = .ok (.aload_n 0, 1) := by decide +kernel
theorem dX10_led_30 : decode cX10_led 30 = .ok (.getfield 44, 3) := by decide +kernel
theorem dX10_led_33 : decode cX10_led 33 = .ok (.iload_n 1, 1) := by decide +kernel
theorem dX10_led_34 : decode cX10_led 34 = .ok (.iload_n 2, 1) := by decide +kernel
theorem dX10_led_35 : decode cX10_led 35 = .ok (.invokevirtual 219, 3) := by decide +kernel
theorem dX10_led_38 : decode cX10_led 38 = .ok (.ireturn, 1) := by decide +kernel
theorem dX10_did_0 : decode cX10_did 0 = .ok (.aload_n 0, 1) := by decide +kernel
theorem dX10_did_1 : decode cX10_did 1 = .ok (.getfield 44, 3) := by decide +kernel
theorem dX10_did_4 : decode cX10_did 4 = .ok (.getfield 213, 3) := by decide +kernel
theorem dX10_did_7 : decode cX10_did 7 = .ok (.ifCond .ne 6, 3) := by decide +kernel
theorem dX10_did_10 : decode cX10_did 10 = .ok (.ldc 154, 2) := by decide +kernel
theorem dX10_did_12 : decode cX10_did 12 = .ok (.ireturn, 1) := by decide +kernel
theorem dX10_did_13 : decode cX10_did 13 = .ok (.iload_n 1, 1) := by decide +kernel
theorem dX10_did_14 : decode cX10_did 14 = .ok (.tableswitch 82 0 4 #[34, 42, 50, 58, 66], 34) := by decide +kernel
theorem dX10_did_48 : decode cX10_did 48 = .ok (.aload_n 0, 1) := by decide +kernel
theorem dX10_did_49 : decode cX10_did 49 = .ok (.getfield 44, 3) := by decide +kernel
theorem dX10_did_52 : decode cX10_did 52 = .ok (.getfield 222, 3) := by decide +kernel
theorem dX10_did_55 : decode cX10_did 55 = .ok (.ireturn, 1) := by decide +kernel
theorem dX10_did_56 : decode cX10_did 56 = .ok (.aload_n 0, 1) := by decide +kernel
theorem dX10_did_57 : decode cX10_did 57 = .ok (.getfield 44, 3) := by decide +kernel
theorem dX10_did_60 : decode cX10_did 60 = .ok (.invokevirtual 225, 3) := by decide +kernel
theorem dX10_did_63 : decode cX10_did 63 = .ok (.ireturn, 1) := by decide +kernel
theorem dX10_did_64 : decode cX10_did 64 = .ok (.aload_n 0, 1) := by decide +kernel
theorem dX10_did_65 : decode cX10_did 65 = .ok (.getfield 44, 3) := by decide +kernel
theorem dX10_did_68 : decode cX10_did 68 = .ok (.invokevirtual 228, 3) := by decide +kernel
theorem dX10_did_71 : decode cX10_did 71 = .ok (.ireturn, 1) := by decide +kernel
theorem dX10_did_72 : decode cX10_did 72 = .ok (.aload_n 0, 1) := by decide +kernel
theorem dX10_did_73 : decode cX10_did 73 = .ok (.getfield 44, 3) := by decide +kernel
theorem dX10_did_76 : decode cX10_did 76 = .ok (.getfield 231, 3) := by decide +kernel
theorem dX10_did_79 : decode cX10_did 79 = .ok (.ireturn, 1) := by decide +kernel
theorem dX10_did_80 : decode cX10_did 80 = .ok (.aload_n 0, 1) := by decide +kernel
theorem dX10_did_81 : decode cX10_did 81 = .ok (.getfield 44, 3) := by decide +kernel
theorem dX10_did_84 : decode cX10_did 84 = .ok (.getfield 234, 3) := by decide +kernel
theorem dX10_did_87 : decode cX10_did 87 = .ok (.ifCond .eq 7, 3) := by decide +kernel
theorem dX10_did_90 : decode cX10_did 90 = .ok (.iconst 1, 1) := by decide +kernel
theorem dX10_did_91 : decode cX10_did 91 = .ok (.goto 4, 3) := by decide +kernel
theorem dX10_did_94 : decode cX10_did 94 = .ok (.iconst 0, 1) := by decide +kernel
theorem dX10_did_95 : decode cX10_did 95 = .ok (.ireturn, 1) := by decide +kernel
theorem dX10_did_96 : decode cX10_did 96 = .ok (.ldc 154, 2) := by decide +kernel
theorem dX10_did_98 : decode cX10_did 98 = .ok (.ireturn, 1) := by decide +kernel
theorem dX10_fear_0 : decode cX10_fear 0 = .ok (.iload_n 1, 1) := by decide +kernel
theorem dX10_fear_1 : decode cX10_fear 1 = .ok (.ifCond .lt 8, 3) := by decide +kernel
theorem dX10_fear_4 : decode cX10_fear 4 = .ok (.iload_n 1, 1) := by decide +kernel
theorem dX10_fear_5 : decode cX10_fear 5 = .ok (.iconst 1, 1) := by decide +kernel
theorem dX10_fear_6 : decode cX10_fear 6 = .ok (.if_icmp .le 5, 3) := by decide +kernel
theorem dX10_fear_9 : decode cX10_fear 9 = .ok (.iconst (-1), 1) := by decide +kernel
theorem dX10_fear_10 : decode cX10_fear 10 = .ok (.ireturn, 1) := by decide +kernel
theorem dX10_fear_11 : decode cX10_fear 11 = .ok (.aload_n 0, 1) := by decide +kernel
theorem dX10_fear_12 : decode cX10_fear 12 = .ok (.getfield 53, 3) := by decide +kernel
theorem dX10_fear_15 : decode cX10_fear 15 = .ok (.invokevirtual 238, 3) := by decide +kernel
theorem dX10_fear_18 : decode cX10_fear 18 = .ok (.istore_n 2, 1) := by decide +kernel
theorem dX10_fear_19 : decode cX10_fear 19 = .ok (.iload_n 1, 1) := by decide +kernel
theorem dX10_fear_20 : decode cX10_fear 20 = .ok (.ifCond .ne 7, 3) := by decide +kernel
theorem dX10_fear_23 : decode cX10_fear 23 = .ok (.iload_n 2, 1) := by decide +kernel
theorem dX10_fear_24 : decode cX10_fear 24 = .ok (.goto 18, 3) := by decide +kernel
theorem dX10_fear_27 : decode cX10_fear 27 = .ok (.aload_n 0, 1) := by decide +kernel
theorem dX10_fear_28 : decode cX10_fear 28 = .ok (.getfield 28, 3) := by decide +kernel
theorem dX10_fear_31 : decode cX10_fear 31 = .ok (.aload_n 0, 1) := by decide +kernel
theorem dX10_fear_32 : decode cX10_fear 32 = .ok (.getfield 10, 3) := by decide +kernel
theorem dX10_fear_35 : decode cX10_fear 35 = .ok (.invokevirtual 138, 3) := by decide +kernel
theorem dX10_fear_38 : decode cX10_fear 38 = .ok (.iload_n 2, 1) := by decide +kernel
theorem dX10_fear_39 : decode cX10_fear 39 = .ok (.invokevirtual 158, 3) := by decide +kernel
theorem dX10_fear_42 : decode cX10_fear 42 = .ok (.ireturn, 1) := by decide +kernel
theorem dX10_may_0 : decode cX10_may 0 = .ok (.aload_n 0, 1) := by decide +kernel
theorem dX10_may_1 : decode cX10_may 1 = .ok (.getfield 28, 3) := by decide +kernel
theorem dX10_may_4 : decode cX10_may 4 = .ok (.iload_n 1, 1) := by decide +kernel
theorem dX10_may_5 : decode cX10_may 5 = .ok (.invokevirtual 207, 3) := by decide +kernel
theorem dX10_may_8 : decode cX10_may 8 = .ok (.ifCond .eq 22, 3) := by decide +kernel
theorem dX10_may_11 : decode cX10_may 11 = .ok (.iload_n 2, 1) := by decide +kernel
theorem dX10_may_12 : decode cX10_may 12 = .ok (.invokestatic 210, 3) := by decide +kernel
theorem dX10_may_15 : decode cX10_may 15 = .ok (.ifCond .eq 15, 3) := by decide +kernel
theorem dX10_may_18 : decode cX10_may 18 = .ok (.aload_n 0, 1) := by decide +kernel
theorem dX10_may_19 : decode cX10_may 19 = .ok (.getfield 28, 3) := by decide +kernel
theorem dX10_may_22 : decode cX10_may 22 = .ok (.iload_n 1, 1) := by decide +kernel
theorem dX10_may_23 : decode cX10_may 23 = .ok (.iload_n 2, 1) := by decide +kernel
theorem dX10_may_24 : decode cX10_may 24 = .ok (.invokevirtual 241, 3) := by decide +kernel
theorem dX10_may_27 : decode cX10_may 27 = .ok (.goto 4, 3) := by decide +kernel
theorem dX10_may_30 : decode cX10_may 30 = .ok (.iconst (-1), 1) := by decide +kernel
theorem dX10_may_31 : decode cX10_may 31 = .ok (.ireturn, 1) := by decide +kernel
theorem dX10_weight_0 : decode cX10_weight 0 = .ok (.iload_n 1, 1) := by decide +kernel
theorem dX10_weight_1 : decode cX10_weight 1 = .ok (.ifCond .lt 8, 3) := by decide +kernel
theorem dX10_weight_4 : decode cX10_weight 4 = .ok (.iload_n 1, 1) := by decide +kernel
theorem dX10_weight_5 : decode cX10_weight 5 = .ok (.iconst 1, 1) := by decide +kernel
theorem dX10_weight_6 : decode cX10_weight 6 = .ok (.if_icmp .le 7, 3) := by decide +kernel
theorem dX10_weight_9 : decode cX10_weight 9 = .ok (.iconst (-1), 1) := by decide +kernel
theorem dX10_weight_10 : decode cX10_weight 10 = .ok (.goto 11, 3) := by decide +kernel
theorem dX10_weight_13 : decode cX10_weight 13 = .ok (.aload_n 0, 1) := by decide +kernel
theorem dX10_weight_14 : decode cX10_weight 14 = .ok (.getfield 53, 3) := by decide +kernel
theorem dX10_weight_17 : decode cX10_weight 17 = .ok (.iload_n 1, 1) := by decide +kernel
theorem dX10_weight_18 : decode cX10_weight 18 = .ok (.invokevirtual 244, 3) := by decide +kernel
theorem dX10_weight_21 : decode cX10_weight 21 = .ok (.ireturn, 1) := by decide +kernel
theorem dX10_spread_0 : decode cX10_spread 0 = .ok (.iload_n 1, 1) := by decide +kernel
theorem dX10_spread_1 : decode cX10_spread 1 = .ok (.iconst 1, 1) := by decide +kernel
theorem dX10_spread_2 : decode cX10_spread 2 = .ok (.if_icmp .lt 18, 3) := by decide +kernel
theorem dX10_spread_5 : decode cX10_spread 5 = .ok (.iload_n 1, 1) := by decide +kernel
theorem dX10_spread_6 : decode cX10_spread 6 = .ok (.bipush 50, 2) := by decide +kernel
theorem dX10_spread_8 : decode cX10_spread 8 = .ok (.if_icmp .gt 12, 3) := by decide +kernel
theorem dX10_spread_11 : decode cX10_spread 11 = .ok (.iload_n 3, 1) := by decide +kernel
theorem dX10_spread_12 : decode cX10_spread 12 = .ok (.ifCond .lt 8, 3) := by decide +kernel
theorem dX10_spread_15 : decode cX10_spread 15 = .ok (.iload_n 3, 1) := by decide +kernel
theorem dX10_spread_16 : decode cX10_spread 16 = .ok (.iconst 2, 1) := by decide +kernel
theorem dX10_spread_17 : decode cX10_spread 17 = .ok (.if_icmp .le 7, 3) := by decide +kernel
theorem dX10_spread_20 : decode cX10_spread 20 = .ok (.iconst (-1), 1) := by decide +kernel
theorem dX10_spread_21 : decode cX10_spread 21 = .ok (.goto 13, 3) := by decide +kernel
theorem dX10_spread_24 : decode cX10_spread 24 = .ok (.aload_n 0, 1) := by decide +kernel
theorem dX10_spread_25 : decode cX10_spread 25 = .ok (.getfield 53, 3) := by decide +kernel
theorem dX10_spread_28 : decode cX10_spread 28 = .ok (.iload_n 1, 1) := by decide +kernel
theorem dX10_spread_29 : decode cX10_spread 29 = .ok (.iload_n 2, 1) := by decide +kernel
theorem dX10_spread_30 : decode cX10_spread 30 = .ok (.iload_n 3, 1) := by decide +kernel
theorem dX10_spread_31 : decode cX10_spread 31 = .ok (.invokevirtual 247, 3) := by decide +kernel
theorem dX10_spread_34 : decode cX10_spread 34 = .ok (.ireturn, 1) := by decide +kernel
theorem dX10_loads_0 : decode cX10_loads 0 = .ok (.aload_n 0, 1) := by decide +kernel
theorem dX10_loads_1 : decode cX10_loads 1 = .ok (.iload_n 1, 1) := by decide +kernel
theorem dX10_loads_2 : decode cX10_loads 2 = .ok (.invokevirtual 186, 3) := by decide +kernel
theorem dX10_loads_5 : decode cX10_loads 5 = .ok (.ifCond .eq 23, 3) := by decide +kernel
theorem dX10_loads_8 : decode cX10_loads 8 = .ok (.iload_n 2, 1) := by decide +kernel
theorem dX10_loads_9 : decode cX10_loads 9 = .ok (.bipush 50, 2) := by decide +kernel
theorem dX10_loads_11 : decode cX10_loads 11 = .ok (.invokestatic 189, 3) := by decide +kernel
theorem dX10_loads_14 : decode cX10_loads 14 = .ok (.ifCond .eq 14, 3) := by decide +kernel
theorem dX10_loads_17 : decode cX10_loads 17 = .ok (.iload 4, 2) := by decide +kernel
theorem dX10_loads_19 : decode cX10_loads 19 = .ok (.ifCond .lt 9, 3) := by decide +kernel
theorem dX10_loads_22 : decode cX10_loads 22 = .ok (.iload 4, 2) := by decide +kernel
theorem dX10_loads_24 : decode cX10_loads 24 = .ok (.iconst 3, 1) := by decide +kernel
theorem dX10_loads_25 : decode cX10_loads 25 = .ok (.if_icmp .le 5, 3) := by decide +kernel
theorem dX10_loads_28 : decode cX10_loads 28 = .ok (.iconst (-1), 1) := by decide +kernel
theorem dX10_loads_29 : decode cX10_loads 29 = .ok (.ireturn, 1) := by decide +kernel
theorem dX10_loads_30 : decode cX10_loads 30 = .ok (.aload_n 0, 1) := by decide +kernel
theorem dX10_loads_31 : decode cX10_loads 31 = .ok (.getfield 53, 3) := by decide +kernel
theorem dX10_loads_34 : decode cX10_loads 34 = .ok (.iload_n 1, 1) := by decide +kernel
theorem dX10_loads_35 : decode cX10_loads 35 = .ok (.bipush 10, 2) := by decide +kernel
theorem dX10_loads_37 : decode cX10_loads 37 = .ok (.idiv, 1) := by decide +kernel
theorem dX10_loads_38 : decode cX10_loads 38 = .ok (.iload_n 1, 1) := by decide +kernel
theorem dX10_loads_39 : decode cX10_loads 39 = .ok (.bipush 10, 2) := by decide +kernel
theorem dX10_loads_41 : decode cX10_loads 41 = .ok (.irem, 1) := by decide +kernel
theorem dX10_loads_42 : decode cX10_loads 42 = .ok (.iload_n 2, 1) := by decide +kernel
theorem dX10_loads_43 : decode cX10_loads 43 = .ok (.sipush 1000, 3) := by decide +kernel
theorem dX10_loads_46 : decode cX10_loads 46 = .ok (.idiv, 1) := by decide +kernel
theorem dX10_loads_47 : decode cX10_loads 47 = .ok (.iload_n 2, 1) := by decide +kernel
theorem dX10_loads_48 : decode cX10_loads 48 = .ok (.sipush 1000, 3) := by decide +kernel
theorem dX10_loads_51 : decode cX10_loads 51 = .ok (.irem, 1) := by decide +kernel
theorem dX10_loads_52 : decode cX10_loads 52 = .ok (.iload_n 3, 1) := by decide +kernel
theorem dX10_loads_53 : decode cX10_loads 53 = .ok (.invokevirtual 250, 3) := by decide +kernel
theorem dX10_loads_56 : decode cX10_loads 56 = .ok (.aload_n 0, 1) := by decide +kernel
theorem dX10_loads_57 : decode cX10_loads 57 = .ok (.getfield 53, 3) := by decide +kernel
theorem dX10_loads_60 : decode cX10_loads 60 = .ok (.iload 4, 2) := by decide +kernel
theorem dX10_loads_62 : decode cX10_loads 62 = .ok (.invokevirtual 254, 3) := by decide +kernel
theorem dX10_loads_65 : decode cX10_loads 65 = .ok (.ireturn, 1) := by decide +kernel
theorem dX10_best_0 : decode cX10_best 0 = .ok (.aload_n 0, 1) := by decide +kernel
theorem dX10_best_1 : decode cX10_best 1 = .ok (.getfield 28, 3) := by decide +kernel
theorem dX10_best_4 : decode cX10_best 4 = .ok (.iload_n 1, 1) := by decide +kernel
theorem dX10_best_5 : decode cX10_best 5 = .ok (.invokevirtual 207, 3) := by decide +kernel
theorem dX10_best_8 : decode cX10_best 8 = .ok (.ifCond .eq 10, 3) := by decide +kernel
theorem dX10_best_11 : decode cX10_best 11 = .ok (.iload_n 2, 1) := by decide +kernel
theorem dX10_best_12 : decode cX10_best 12 = .ok (.invokestatic 210, 3) := by decide +kernel
theorem dX10_best_15 : decode cX10_best 15 = .ok (.ifCond .ne 5, 3) := by decide +kernel
theorem dX10_best_18 : decode cX10_best 18 = .ok (.iconst (-1), 1) := by decide +kernel
theorem dX10_best_19 : decode cX10_best 19 = .ok (.ireturn, 1) := by decide +kernel
theorem dX10_best_20 : decode cX10_best 20 = .ok (.aload_n 0, 1) := by decide +kernel
theorem dX10_best_21 : decode cX10_best 21 = .ok (.getfield 35, 3) := by decide +kernel
theorem dX10_best_24 : decode cX10_best 24 = .ok (.getfield 257, 3) := by decide +kernel
theorem dX10_best_27 : decode cX10_best 27 = .ok (.ifCond .ne 8, 3) := by decide +kernel
theorem dX10_best_30 : decode cX10_best 30 = .ok (.bipush (-5), 2) := by decide +kernel
theorem dX10_best_32 : decode cX10_best 32 = .ok (.goto 13, 3) := by decide +kernel
theorem dX10_best_35 : decode cX10_best 35 = .ok (.aload_n 0, 1) := by decide +kernel
theorem dX10_best_36 : decode cX10_best 36 = .ok (.getfield 53, 3) := by decide +kernel
theorem dX10_best_39 : decode cX10_best 39 = .ok (.iload_n 1, 1) := by decide +kernel
theorem dX10_best_40 : decode cX10_best 40 = .ok (.iload_n 2, 1) := by decide +kernel
theorem dX10_best_41 : decode cX10_best 41 = .ok (.iload_n 3, 1) := by decide +kernel
theorem dX10_best_42 : decode cX10_best 42 = .ok (.invokevirtual 260, 3) := by decide +kernel
theorem dX10_best_45 : decode cX10_best 45 = .ok (.ireturn, 1) := by decide +kernel
theorem dX10_never_0 : decode cX10_never 0 = .ok (.aload_n 0, 1) := by decide +kernel
theorem dX10_never_1 : decode cX10_never 1 = .ok (.getfield 35, 3) := by decide +kernel
theorem dX10_never_4 : decode cX10_never 4 = .ok (.iload_n 1, 1) := by decide +kernel
theorem dX10_never_5 : decode cX10_never 5 = .ok (.invokevirtual 179, 3) := by decide +kernel
theorem dX10_never_8 : decode cX10_never 8 = .ok (.ifCond .eq 21, 3) := by decide +kernel
theorem dX10_never_11 : decode cX10_never 11 = .ok (.iload_n 2, 1) := by decide +kernel
theorem dX10_never_12 : decode cX10_never 12 = .ok (.invokestatic 210, 3) := by decide +kernel
theorem dX10_never_15 : decode cX10_never 15 = .ok (.ifCond .eq 14, 3) := by decide +kernel
theorem dX10_never_18 : decode cX10_never 18 = .ok (.iload_n 3, 1) := by decide +kernel
theorem dX10_never_19 : decode cX10_never 19 = .ok (.ifCond .lt 10, 3) := by decide +kernel
theorem dX10_never_22 : decode cX10_never 22 = .ok (.iload_n 3, 1) := by decide +kernel
theorem dX10_never_23 : decode cX10_never 23 = .ok (.sipush 950, 3) := by decide +kernel
theorem dX10_never_26 : decode cX10_never 26 = .ok (.if_icmp .le 5, 3) := by decide +kernel
theorem dX10_never_29 : decode cX10_never 29 = .ok (.iconst (-1), 1) := by decide +kernel
theorem dX10_never_30 : decode cX10_never 30 = .ok (.ireturn, 1) := by decide +kernel
theorem dX10_never_31 : decode cX10_never 31 = .ok (.aload_n 0, 1) := by decide +kernel
theorem dX10_never_32 : decode cX10_never 32 = .ok (.getfield 53, 3) := by decide +kernel
theorem dX10_never_35 : decode cX10_never 35 = .ok (.iload_n 1, 1) := by decide +kernel
theorem dX10_never_36 : decode cX10_never 36 = .ok (.iload_n 2, 1) := by decide +kernel
theorem dX10_never_37 : decode cX10_never 37 = .ok (.iload_n 3, 1) := by decide +kernel
theorem dX10_never_38 : decode cX10_never 38 = .ok (.invokevirtual 263, 3) := by decide +kernel
theorem dX10_never_41 : decode cX10_never 41 = .ok (.ifCond .eq 7, 3) := by decide +kernel
theorem dX10_never_44 : decode cX10_never 44 = .ok (.iconst 1, 1) := by decide +kernel
theorem dX10_never_45 : decode cX10_never 45 = .ok (.goto 4, 3) := by decide +kernel
theorem dX10_never_48 : decode cX10_never 48 = .ok (.iconst 0, 1) := by decide +kernel
theorem dX10_never_49 : decode cX10_never 49 = .ok (.ireturn, 1) := by decide +kernel
theorem dX10_beside_0 : decode cX10_beside 0 = .ok (.iload_n 1, 1) := by decide +kernel
theorem dX10_beside_1 : decode cX10_beside 1 = .ok (.bipush 60, 2) := by decide +kernel
theorem dX10_beside_3 : decode cX10_beside 3 = .ok (.if_icmp .lt 21, 3) := by decide +kernel
theorem dX10_beside_6 : decode cX10_beside 6 = .ok (.iload_n 1, 1) := by decide +kernel
theorem dX10_beside_7 : decode cX10_beside 7 = .ok (.invokestatic 155, 3) := by decide +kernel
theorem dX10_beside_10 : decode cX10_beside 10 = .ok (.ifCond .eq 14, 3) := by decide +kernel
theorem dX10_beside_13 : decode cX10_beside 13 = .ok (.iload_n 2, 1) := by decide +kernel
theorem dX10_beside_14 : decode cX10_beside 14 = .ok (.ifCond .lt 10, 3) := by decide +kernel
theorem dX10_beside_17 : decode cX10_beside 17 = .ok (.iload_n 2, 1) := by decide +kernel
theorem dX10_beside_18 : decode cX10_beside 18 = .ok (.sipush 9999, 3) := by decide +kernel
theorem dX10_beside_21 : decode cX10_beside 21 = .ok (.if_icmp .le 5, 3) := by decide +kernel
theorem dX10_beside_24 : decode cX10_beside 24 = .ok (.iconst (-1), 1) := by decide +kernel
theorem dX10_beside_25 : decode cX10_beside 25 = .ok (.ireturn, 1) := by decide +kernel
theorem dX10_beside_26 : decode cX10_beside 26 = .ok (.aload_n 0, 1) := by decide +kernel
theorem dX10_beside_27 : decode cX10_beside 27 = .ok (.getfield 53, 3) := by decide +kernel
theorem dX10_beside_30 : decode cX10_beside 30 = .ok (.iload_n 1, 1) := by decide +kernel
theorem dX10_beside_31 : decode cX10_beside 31 = .ok (.iload_n 2, 1) := by decide +kernel
theorem dX10_beside_32 : decode cX10_beside 32 = .ok (.invokevirtual 266, 3) := by decide +kernel
theorem dX10_beside_35 : decode cX10_beside 35 = .ok (.ireturn, 1) := by decide +kernel
theorem dX10_undo_0 : decode cX10_undo 0 = .ok (.aload_n 0, 1) := by decide +kernel
theorem dX10_undo_1 : decode cX10_undo 1 = .ok (.getfield 21, 3) := by decide +kernel
theorem dX10_undo_4 : decode cX10_undo 4 = .ok (.invokevirtual 269, 3) := by decide +kernel
theorem dX10_undo_7 : decode cX10_undo 7 = .ok (.ifCond .ne 8, 3) := by decide +kernel
theorem dX10_undo_10 : decode cX10_undo 10 = .ok (.bipush (-5), 2) := by decide +kernel
theorem dX10_undo_12 : decode cX10_undo 12 = .ok (.goto 10, 3) := by decide +kernel
theorem dX10_undo_15 : decode cX10_undo 15 = .ok (.aload_n 0, 1) := by decide +kernel
theorem dX10_undo_16 : decode cX10_undo 16 = .ok (.getfield 21, 3) := by decide +kernel
theorem dX10_undo_19 : decode cX10_undo 19 = .ok (.invokevirtual 272, 3) := by decide +kernel
theorem dX10_undo_22 : decode cX10_undo 22 = .ok (.ireturn, 1) := by decide +kernel
theorem dX10_redo_0 : decode cX10_redo 0 = .ok (.aload_n 0, 1) := by decide +kernel
theorem dX10_redo_1 : decode cX10_redo 1 = .ok (.getfield 21, 3) := by decide +kernel
theorem dX10_redo_4 : decode cX10_redo 4 = .ok (.invokevirtual 275, 3) := by decide +kernel
theorem dX10_redo_7 : decode cX10_redo 7 = .ok (.ifCond .ne 8, 3) := by decide +kernel
theorem dX10_redo_10 : decode cX10_redo 10 = .ok (.bipush (-5), 2) := by decide +kernel
theorem dX10_redo_12 : decode cX10_redo 12 = .ok (.goto 10, 3) := by decide +kernel
theorem dX10_redo_15 : decode cX10_redo 15 = .ok (.aload_n 0, 1) := by decide +kernel
theorem dX10_redo_16 : decode cX10_redo 16 = .ok (.getfield 21, 3) := by decide +kernel
theorem dX10_redo_19 : decode cX10_redo 19 = .ok (.invokevirtual 278, 3) := by decide +kernel
theorem dX10_redo_22 : decode cX10_redo 22 = .ok (.ireturn, 1) := by decide +kernel
theorem dX10_body_0 : decode cX10_body 0 = .ok (.iload_n 1, 1) := by decide +kernel
theorem dX10_body_1 : decode cX10_body 1 = .ok (.invokestatic 281, 3) := by decide +kernel
theorem dX10_body_4 : decode cX10_body 4 = .ok (.ifCond .ne 5, 3) := by decide +kernel
theorem dX10_body_7 : decode cX10_body 7 = .ok (.iconst (-1), 1) := by decide +kernel
theorem dX10_body_8 : decode cX10_body 8 = .ok (.ireturn, 1) := by decide +kernel
theorem dX10_body_9 : decode cX10_body 9 = .ok (.aload_n 0, 1) := by decide +kernel
theorem dX10_body_10 : decode cX10_body 10 = .ok (.getfield 60, 3) := by decide +kernel
theorem dX10_body_13 : decode cX10_body 13 = .ok (.invokevirtual 284, 3) := by decide +kernel
theorem dX10_body_16 : decode cX10_body 16 = .ok (.ifCond .eq 8, 3) := by decide +kernel
theorem dX10_body_19 : decode cX10_body 19 = .ok (.bipush (-3), 2) := by decide +kernel
theorem dX10_body_21 : decode cX10_body 21 = .ok (.goto 11, 3) := by decide +kernel
theorem dX10_body_24 : decode cX10_body 24 = .ok (.aload_n 0, 1) := by decide +kernel
theorem dX10_body_25 : decode cX10_body 25 = .ok (.getfield 60, 3) := by decide +kernel
theorem dX10_body_28 : decode cX10_body 28 = .ok (.iload_n 1, 1) := by decide +kernel
theorem dX10_body_29 : decode cX10_body 29 = .ok (.invokevirtual 285, 3) := by decide +kernel
theorem dX10_body_32 : decode cX10_body 32 = .ok (.ireturn, 1) := by decide +kernel
theorem dX10_act_0 : decode cX10_act 0 = .ok (.aload_n 0, 1) := by decide +kernel
theorem dX10_act_1 : decode cX10_act 1 = .ok (.getfield 60, 3) := by decide +kernel
theorem dX10_act_4 : decode cX10_act 4 = .ok (.iload_n 1, 1) := by decide +kernel
theorem dX10_act_5 : decode cX10_act 5 = .ok (.iload_n 2, 1) := by decide +kernel
theorem dX10_act_6 : decode cX10_act 6 = .ok (.iload_n 3, 1) := by decide +kernel
theorem dX10_act_7 : decode cX10_act 7 = .ok (.invokevirtual 288, 3) := by decide +kernel
theorem dX10_act_10 : decode cX10_act 10 = .ok (.ireturn, 1) := by decide +kernel
theorem dX10_trace_0 : decode cX10_trace 0 = .ok (.iload_n 1, 1) := by decide +kernel
theorem dX10_trace_1 : decode cX10_trace 1 = .ok (.ifCond .lt 25, 3) := by decide +kernel
theorem dX10_trace_4 : decode cX10_trace 4 = .ok (.iload_n 1, 1) := by decide +kernel
theorem dX10_trace_5 : decode cX10_trace 5 = .ok (.aload_n 0, 1) := by decide +kernel
theorem dX10_trace_6 : decode cX10_trace 6 = .ok (.getfield 60, 3) := by decide +kernel
theorem dX10_trace_9 : decode cX10_trace 9 = .ok (.invokevirtual 291, 3) := by decide +kernel
theorem dX10_trace_12 : decode cX10_trace 12 = .ok (.if_icmp .ge 14, 3) := by decide +kernel
theorem dX10_trace_15 : decode cX10_trace 15 = .ok (.aload_n 0, 1) := by decide +kernel
theorem dX10_trace_16 : decode cX10_trace 16 = .ok (.getfield 60, 3) := by decide +kernel
theorem dX10_trace_19 : decode cX10_trace 19 = .ok (.iload_n 1, 1) := by decide +kernel
theorem dX10_trace_20 : decode cX10_trace 20 = .ok (.invokevirtual 294, 3) := by decide +kernel
theorem dX10_trace_23 : decode cX10_trace 23 = .ok (.goto 4, 3) := by decide +kernel
theorem dX10_trace_26 : decode cX10_trace 26 = .ok (.iconst (-1), 1) := by decide +kernel
theorem dX10_trace_27 : decode cX10_trace 27 = .ok (.ireturn, 1) := by decide +kernel
theorem dX10_keep_0 : decode cX10_keep 0 = .ok (.iload_n 1, 1) := by decide +kernel
theorem dX10_keep_1 : decode cX10_keep 1 = .ok (.invokestatic 83, 3) := by decide +kernel
theorem dX10_keep_4 : decode cX10_keep 4 = .ok (.ifCond .eq 19, 3) := by decide +kernel
theorem dX10_keep_7 : decode cX10_keep 7 = .ok (.iload_n 2, 1) := by decide +kernel
theorem dX10_keep_8 : decode cX10_keep 8 = .ok (.iconst (-1), 1) := by decide +kernel
theorem dX10_keep_9 : decode cX10_keep 9 = .ok (.if_icmp .eq 16, 3) := by decide +kernel
theorem dX10_keep_12 : decode cX10_keep 12 = .ok (.aload_n 0, 1) := by decide +kernel
theorem dX10_keep_13 : decode cX10_keep 13 = .ok (.getfield 60, 3) := by decide +kernel
theorem dX10_keep_16 : decode cX10_keep 16 = .ok (.iload_n 2, 1) := by decide +kernel
theorem dX10_keep_17 : decode cX10_keep 17 = .ok (.invokevirtual 297, 3) := by decide +kernel
theorem dX10_keep_20 : decode cX10_keep 20 = .ok (.ifCond .ne 5, 3) := by decide +kernel
theorem dX10_keep_23 : decode cX10_keep 23 = .ok (.iconst (-1), 1) := by decide +kernel
theorem dX10_keep_24 : decode cX10_keep 24 = .ok (.ireturn, 1) := by decide +kernel
theorem dX10_keep_25 : decode cX10_keep 25 = .ok (.aload_n 0, 1) := by decide +kernel
theorem dX10_keep_26 : decode cX10_keep 26 = .ok (.getfield 67, 3) := by decide +kernel
theorem dX10_keep_29 : decode cX10_keep 29 = .ok (.iload_n 1, 1) := by decide +kernel
theorem dX10_keep_30 : decode cX10_keep 30 = .ok (.iload_n 2, 1) := by decide +kernel
theorem dX10_keep_31 : decode cX10_keep 31 = .ok (.invokevirtual 300, 3) := by decide +kernel
theorem dX10_keep_34 : decode cX10_keep 34 = .ok (.iconst 1, 1) := by decide +kernel
theorem dX10_keep_35 : decode cX10_keep 35 = .ok (.ireturn, 1) := by decide +kernel
theorem dX10_row_0 : decode cX10_row 0 = .ok (.iload_n 1, 1) := by decide +kernel
theorem dX10_row_1 : decode cX10_row 1 = .ok (.invokestatic 83, 3) := by decide +kernel
theorem dX10_row_4 : decode cX10_row 4 = .ok (.ifCond .eq 16, 3) := by decide +kernel
theorem dX10_row_7 : decode cX10_row 7 = .ok (.iload_n 2, 1) := by decide +kernel
theorem dX10_row_8 : decode cX10_row 8 = .ok (.invokestatic 304, 3) := by decide +kernel
theorem dX10_row_11 : decode cX10_row 11 = .ok (.ifCond .eq 9, 3) := by decide +kernel
theorem dX10_row_14 : decode cX10_row 14 = .ok (.iload_n 3, 1) := by decide +kernel
theorem dX10_row_15 : decode cX10_row 15 = .ok (.bipush 60, 2) := by decide +kernel
theorem dX10_row_17 : decode cX10_row 17 = .ok (.if_icmp .le 5, 3) := by decide +kernel
theorem dX10_row_20 : decode cX10_row 20 = .ok (.iconst (-1), 1) := by decide +kernel
theorem dX10_row_21 : decode cX10_row 21 = .ok (.ireturn, 1) := by decide +kernel
theorem dX10_row_22 : decode cX10_row 22 = .ok (.iload_n 3, 1) := by decide +kernel
theorem dX10_row_23 : decode cX10_row 23 = .ok (.ifCond .ge 6, 3) := by decide +kernel
theorem dX10_row_26 : decode cX10_row 26 = .ok (.bipush (-14), 2) := by decide +kernel
theorem dX10_row_28 : decode cX10_row 28 = .ok (.ireturn, 1) := by decide +kernel
theorem dX10_row_29 : decode cX10_row 29 = .ok (.aload_n 0, 1) := by decide +kernel
theorem dX10_row_30 : decode cX10_row 30 = .ok (.getfield 67, 3) := by decide +kernel
theorem dX10_row_33 : decode cX10_row 33 = .ok (.iload_n 1, 1) := by decide +kernel
theorem dX10_row_34 : decode cX10_row 34 = .ok (.iload_n 2, 1) := by decide +kernel
theorem dX10_row_35 : decode cX10_row 35 = .ok (.iload_n 3, 1) := by decide +kernel
theorem dX10_row_36 : decode cX10_row 36 = .ok (.invokevirtual 307, 3) := by decide +kernel
theorem dX10_row_39 : decode cX10_row 39 = .ok (.iconst 1, 1) := by decide +kernel
theorem dX10_row_40 : decode cX10_row 40 = .ok (.ireturn, 1) := by decide +kernel
theorem dX10_put_0 : decode cX10_put 0 = .ok (.aload_n 0, 1) := by decide +kernel
theorem dX10_put_1 : decode cX10_put 1 = .ok (.iload_n 1, 1) := by decide +kernel
theorem dX10_put_2 : decode cX10_put 2 = .ok (.iload_n 2, 1) := by decide +kernel
theorem dX10_put_3 : decode cX10_put 3 = .ok (.invokevirtual 311, 3) := by decide +kernel
theorem dX10_put_6 : decode cX10_put 6 = .ok (.istore 5, 2) := by decide +kernel
theorem dX10_put_8 : decode cX10_put 8 = .ok (.iload 5, 2) := by decide +kernel
theorem dX10_put_10 : decode cX10_put 10 = .ok (.ifCond .eq 6, 3) := by decide +kernel
theorem dX10_put_13 : decode cX10_put 13 = .ok (.iload 5, 2) := by decide +kernel
theorem dX10_put_15 : decode cX10_put 15 = .ok (.ireturn, 1) := by decide +kernel
theorem dX10_put_16 : decode cX10_put 16 = .ok (.aload_n 0, 1) := by decide +kernel
theorem dX10_put_17 : decode cX10_put 17 = .ok (.getfield 67, 3) := by decide +kernel
theorem dX10_put_20 : decode cX10_put 20 = .ok (.iload_n 1, 1) := by decide +kernel
theorem dX10_put_21 : decode cX10_put 21 = .ok (.iload_n 2, 1) := by decide +kernel
theorem dX10_put_22 : decode cX10_put 22 = .ok (.lload_n 3, 1) := by decide +kernel
theorem dX10_put_23 : decode cX10_put 23 = .ok (.invokevirtual 314, 3) := by decide +kernel
theorem dX10_put_26 : decode cX10_put 26 = .ok (.iconst 1, 1) := by decide +kernel
theorem dX10_put_27 : decode cX10_put 27 = .ok (.ireturn, 1) := by decide +kernel
theorem dX10_element_0 : decode cX10_element 0 = .ok (.aload_n 0, 1) := by decide +kernel
theorem dX10_element_1 : decode cX10_element 1 = .ok (.iload_n 1, 1) := by decide +kernel
theorem dX10_element_2 : decode cX10_element 2 = .ok (.iload_n 2, 1) := by decide +kernel
theorem dX10_element_3 : decode cX10_element 3 = .ok (.invokevirtual 311, 3) := by decide +kernel
theorem dX10_element_6 : decode cX10_element 6 = .ok (.ifCond .ne 15, 3) := by decide +kernel
theorem dX10_element_9 : decode cX10_element 9 = .ok (.aload_n 0, 1) := by decide +kernel
theorem dX10_element_10 : decode cX10_element 10 = .ok (.getfield 67, 3) := by decide +kernel
theorem dX10_element_13 : decode cX10_element 13 = .ok (.iload_n 1, 1) := by decide +kernel
theorem dX10_element_14 : decode cX10_element 14 = .ok (.iload_n 2, 1) := by decide +kernel
theorem dX10_element_15 : decode cX10_element 15 = .ok (.invokevirtual 104, 3) := by decide +kernel
theorem dX10_element_18 : decode cX10_element 18 = .ok (.goto 6, 3) := by decide +kernel
theorem dX10_element_21 : decode cX10_element 21 = .ok (.ldc2_w 320, 3) := by decide +kernel
theorem dX10_element_24 : decode cX10_element 24 = .ok (.lreturn, 1) := by decide +kernel
theorem dX10_elementRefusal_0 : decode cX10_elementRefusal 0 = .ok (.iload_n 1, 1) := by decide +kernel
theorem dX10_elementRefusal_1 : decode cX10_elementRefusal 1 = .ok (.invokestatic 83, 3) := by decide +kernel
theorem dX10_elementRefusal_4 : decode cX10_elementRefusal 4 = .ok (.ifCond .ne 5, 3) := by decide +kernel
theorem dX10_elementRefusal_7 : decode cX10_elementRefusal 7 = .ok (.iconst (-1), 1) := by decide +kernel
theorem dX10_elementRefusal_8 : decode cX10_elementRefusal 8 = .ok (.ireturn, 1) := by decide +kernel
theorem dX10_elementRefusal_9 : decode cX10_elementRefusal 9 = .ok (.aload_n 0, 1) := by decide +kernel
theorem dX10_elementRefusal_10 : decode cX10_elementRefusal 10 = .ok (.getfield 67, 3) := by decide +kernel
theorem dX10_elementRefusal_13 : decode cX10_elementRefusal 13 = .ok (.iload_n 1, 1) := by decide +kernel
theorem dX10_elementRefusal_14 : decode cX10_elementRefusal 14 = .ok (.invokevirtual 87, 3) := by decide +kernel
theorem dX10_elementRefusal_17 : decode cX10_elementRefusal 17 = .ok (.ifCond .eq 6, 3) := by decide +kernel
theorem dX10_elementRefusal_20 : decode cX10_elementRefusal 20 = .ok (.bipush (-11), 2) := by decide +kernel
theorem dX10_elementRefusal_22 : decode cX10_elementRefusal 22 = .ok (.ireturn, 1) := by decide +kernel
theorem dX10_elementRefusal_23 : decode cX10_elementRefusal 23 = .ok (.aload_n 0, 1) := by decide +kernel
theorem dX10_elementRefusal_24 : decode cX10_elementRefusal 24 = .ok (.getfield 67, 3) := by decide +kernel
theorem dX10_elementRefusal_27 : decode cX10_elementRefusal 27 = .ok (.iload_n 1, 1) := by decide +kernel
theorem dX10_elementRefusal_28 : decode cX10_elementRefusal 28 = .ok (.invokevirtual 322, 3) := by decide +kernel
theorem dX10_elementRefusal_31 : decode cX10_elementRefusal 31 = .ok (.ifCond .ne 6, 3) := by decide +kernel
theorem dX10_elementRefusal_34 : decode cX10_elementRefusal 34 = .ok (.bipush (-12), 2) := by decide +kernel
theorem dX10_elementRefusal_36 : decode cX10_elementRefusal 36 = .ok (.ireturn, 1) := by decide +kernel
theorem dX10_elementRefusal_37 : decode cX10_elementRefusal 37 = .ok (.aload_n 0, 1) := by decide +kernel
theorem dX10_elementRefusal_38 : decode cX10_elementRefusal 38 = .ok (.getfield 67, 3) := by decide +kernel
theorem dX10_elementRefusal_41 : decode cX10_elementRefusal 41 = .ok (.iload_n 1, 1) := by decide +kernel
theorem dX10_elementRefusal_42 : decode cX10_elementRefusal 42 = .ok (.iload_n 2, 1) := by decide +kernel
theorem dX10_elementRefusal_43 : decode cX10_elementRefusal 43 = .ok (.i2l, 1) := by decide +kernel
theorem dX10_elementRefusal_44 : decode cX10_elementRefusal 44 = .ok (.iconst 1, 1) := by decide +kernel
theorem dX10_elementRefusal_45 : decode cX10_elementRefusal 45 = .ok (.invokevirtual 100, 3) := by decide +kernel
theorem dX10_elementRefusal_48 : decode cX10_elementRefusal 48 = .ok (.ifCond .eq 7, 3) := by decide +kernel
theorem dX10_elementRefusal_51 : decode cX10_elementRefusal 51 = .ok (.iconst 0, 1) := by decide +kernel
theorem dX10_elementRefusal_52 : decode cX10_elementRefusal 52 = .ok (.goto 5, 3) := by decide +kernel
theorem dX10_elementRefusal_55 : decode cX10_elementRefusal 55 = .ok (.bipush (-13), 2) := by decide +kernel
theorem dX10_elementRefusal_57 : decode cX10_elementRefusal 57 = .ok (.ireturn, 1) := by decide +kernel
theorem dX10_shift_0 : decode cX10_shift 0 = .ok (.iload_n 1, 1) := by decide +kernel
theorem dX10_shift_1 : decode cX10_shift 1 = .ok (.invokestatic 83, 3) := by decide +kernel
theorem dX10_shift_4 : decode cX10_shift 4 = .ok (.ifCond .eq 10, 3) := by decide +kernel
theorem dX10_shift_7 : decode cX10_shift 7 = .ok (.iload_n 3, 1) := by decide +kernel
theorem dX10_shift_8 : decode cX10_shift 8 = .ok (.invokestatic 83, 3) := by decide +kernel
theorem dX10_shift_11 : decode cX10_shift 11 = .ok (.ifCond .ne 5, 3) := by decide +kernel
theorem dX10_shift_14 : decode cX10_shift 14 = .ok (.iconst (-1), 1) := by decide +kernel
theorem dX10_shift_15 : decode cX10_shift 15 = .ok (.ireturn, 1) := by decide +kernel
theorem dX10_shift_16 : decode cX10_shift 16 = .ok (.aload_n 0, 1) := by decide +kernel
theorem dX10_shift_17 : decode cX10_shift 17 = .ok (.getfield 67, 3) := by decide +kernel
theorem dX10_shift_20 : decode cX10_shift 20 = .ok (.iload_n 1, 1) := by decide +kernel
theorem dX10_shift_21 : decode cX10_shift 21 = .ok (.invokevirtual 87, 3) := by decide +kernel
theorem dX10_shift_24 : decode cX10_shift 24 = .ok (.ifCond .ne 14, 3) := by decide +kernel
theorem dX10_shift_27 : decode cX10_shift 27 = .ok (.aload_n 0, 1) := by decide +kernel
theorem dX10_shift_28 : decode cX10_shift 28 = .ok (.getfield 67, 3) := by decide +kernel
theorem dX10_shift_31 : decode cX10_shift 31 = .ok (.iload_n 3, 1) := by decide +kernel
theorem dX10_shift_32 : decode cX10_shift 32 = .ok (.invokevirtual 87, 3) := by decide +kernel
theorem dX10_shift_35 : decode cX10_shift 35 = .ok (.ifCond .eq 6, 3) := by decide +kernel
theorem dX10_shift_38 : decode cX10_shift 38 = .ok (.bipush (-11), 2) := by decide +kernel
theorem dX10_shift_40 : decode cX10_shift 40 = .ok (.ireturn, 1) := by decide +kernel
theorem dX10_shift_41 : decode cX10_shift 41 = .ok (.aload_n 0, 1) := by decide +kernel
theorem dX10_shift_42 : decode cX10_shift 42 = .ok (.getfield 67, 3) := by decide +kernel
theorem dX10_shift_45 : decode cX10_shift 45 = .ok (.iload_n 1, 1) := by decide +kernel
theorem dX10_shift_46 : decode cX10_shift 46 = .ok (.invokevirtual 322, 3) := by decide +kernel
theorem dX10_shift_49 : decode cX10_shift 49 = .ok (.ifCond .eq 22, 3) := by decide +kernel
theorem dX10_shift_52 : decode cX10_shift 52 = .ok (.aload_n 0, 1) := by decide +kernel
theorem dX10_shift_53 : decode cX10_shift 53 = .ok (.getfield 67, 3) := by decide +kernel
theorem dX10_shift_56 : decode cX10_shift 56 = .ok (.iload_n 3, 1) := by decide +kernel
theorem dX10_shift_57 : decode cX10_shift 57 = .ok (.aload_n 0, 1) := by decide +kernel
theorem dX10_shift_58 : decode cX10_shift 58 = .ok (.getfield 67, 3) := by decide +kernel
theorem dX10_shift_61 : decode cX10_shift 61 = .ok (.iload_n 1, 1) := by decide +kernel
theorem dX10_shift_62 : decode cX10_shift 62 = .ok (.invokevirtual 325, 3) := by decide +kernel
theorem dX10_shift_65 : decode cX10_shift 65 = .ok (.invokevirtual 90, 3) := by decide +kernel
theorem dX10_shift_68 : decode cX10_shift 68 = .ok (.ifCond .ne 6, 3) := by decide +kernel
theorem dX10_shift_71 : decode cX10_shift 71 = .ok (.bipush (-12), 2) := by decide +kernel
theorem dX10_shift_73 : decode cX10_shift 73 = .ok (.ireturn, 1) := by decide +kernel
theorem dX10_shift_74 : decode cX10_shift 74 = .ok (.iload 5, 2) := by decide +kernel
theorem dX10_shift_76 : decode cX10_shift 76 = .ok (.ifCond .lt 34, 3) := by decide +kernel
theorem dX10_shift_79 : decode cX10_shift 79 = .ok (.aload_n 0, 1) := by decide +kernel
theorem dX10_shift_80 : decode cX10_shift 80 = .ok (.getfield 67, 3) := by decide +kernel
theorem dX10_shift_83 : decode cX10_shift 83 = .ok (.iload_n 1, 1) := by decide +kernel
theorem dX10_shift_84 : decode cX10_shift 84 = .ok (.iload_n 2, 1) := by decide +kernel
theorem dX10_shift_85 : decode cX10_shift 85 = .ok (.i2l, 1) := by decide +kernel
theorem dX10_shift_86 : decode cX10_shift 86 = .ok (.iload 5, 2) := by decide +kernel
theorem dX10_shift_88 : decode cX10_shift 88 = .ok (.invokevirtual 100, 3) := by decide +kernel
theorem dX10_shift_91 : decode cX10_shift 91 = .ok (.ifCond .eq 19, 3) := by decide +kernel
theorem dX10_shift_94 : decode cX10_shift 94 = .ok (.aload_n 0, 1) := by decide +kernel
theorem dX10_shift_95 : decode cX10_shift 95 = .ok (.getfield 67, 3) := by decide +kernel
theorem dX10_shift_98 : decode cX10_shift 98 = .ok (.iload_n 3, 1) := by decide +kernel
theorem dX10_shift_99 : decode cX10_shift 99 = .ok (.iload 4, 2) := by decide +kernel
theorem dX10_shift_101 : decode cX10_shift 101 = .ok (.i2l, 1) := by decide +kernel
theorem dX10_shift_102 : decode cX10_shift 102 = .ok (.iload 5, 2) := by decide +kernel
theorem dX10_shift_104 : decode cX10_shift 104 = .ok (.invokevirtual 100, 3) := by decide +kernel
theorem dX10_shift_107 : decode cX10_shift 107 = .ok (.ifCond .ne 6, 3) := by decide +kernel
theorem dX10_shift_110 : decode cX10_shift 110 = .ok (.bipush (-13), 2) := by decide +kernel
theorem dX10_shift_112 : decode cX10_shift 112 = .ok (.ireturn, 1) := by decide +kernel
theorem dX10_shift_113 : decode cX10_shift 113 = .ok (.aload_n 0, 1) := by decide +kernel
theorem dX10_shift_114 : decode cX10_shift 114 = .ok (.getfield 67, 3) := by decide +kernel
theorem dX10_shift_117 : decode cX10_shift 117 = .ok (.iload_n 1, 1) := by decide +kernel
theorem dX10_shift_118 : decode cX10_shift 118 = .ok (.iload_n 2, 1) := by decide +kernel
theorem dX10_shift_119 : decode cX10_shift 119 = .ok (.iload_n 3, 1) := by decide +kernel
theorem dX10_shift_120 : decode cX10_shift 120 = .ok (.iload 4, 2) := by decide +kernel
theorem dX10_shift_122 : decode cX10_shift 122 = .ok (.iload 5, 2) := by decide +kernel
theorem dX10_shift_124 : decode cX10_shift 124 = .ok (.invokevirtual 328, 3) := by decide +kernel
theorem dX10_shift_127 : decode cX10_shift 127 = .ok (.iload 5, 2) := by decide +kernel
theorem dX10_shift_129 : decode cX10_shift 129 = .ok (.ireturn, 1) := by decide +kernel
theorem dX10_taken_0 : decode cX10_taken 0 = .ok (.iload_n 1, 1) := by decide +kernel
theorem dX10_taken_1 : decode cX10_taken 1 = .ok (.invokestatic 83, 3) := by decide +kernel
theorem dX10_taken_4 : decode cX10_taken 4 = .ok (.ifCond .eq 10, 3) := by decide +kernel
theorem dX10_taken_7 : decode cX10_taken 7 = .ok (.iload_n 2, 1) := by decide +kernel
theorem dX10_taken_8 : decode cX10_taken 8 = .ok (.invokestatic 281, 3) := by decide +kernel
theorem dX10_taken_11 : decode cX10_taken 11 = .ok (.ifCond .ne 5, 3) := by decide +kernel
theorem dX10_taken_14 : decode cX10_taken 14 = .ok (.iconst (-1), 1) := by decide +kernel
theorem dX10_taken_15 : decode cX10_taken 15 = .ok (.ireturn, 1) := by decide +kernel
theorem dX10_taken_16 : decode cX10_taken 16 = .ok (.aload_n 0, 1) := by decide +kernel
theorem dX10_taken_17 : decode cX10_taken 17 = .ok (.getfield 67, 3) := by decide +kernel
theorem dX10_taken_20 : decode cX10_taken 20 = .ok (.iload_n 1, 1) := by decide +kernel
theorem dX10_taken_21 : decode cX10_taken 21 = .ok (.invokevirtual 87, 3) := by decide +kernel
theorem dX10_taken_24 : decode cX10_taken 24 = .ok (.ifCond .eq 6, 3) := by decide +kernel
theorem dX10_taken_27 : decode cX10_taken 27 = .ok (.bipush (-11), 2) := by decide +kernel
theorem dX10_taken_29 : decode cX10_taken 29 = .ok (.ireturn, 1) := by decide +kernel
theorem dX10_taken_30 : decode cX10_taken 30 = .ok (.aload_n 0, 1) := by decide +kernel
theorem dX10_taken_31 : decode cX10_taken 31 = .ok (.getfield 67, 3) := by decide +kernel
theorem dX10_taken_34 : decode cX10_taken 34 = .ok (.iload_n 1, 1) := by decide +kernel
theorem dX10_taken_35 : decode cX10_taken 35 = .ok (.invokevirtual 322, 3) := by decide +kernel
theorem dX10_taken_38 : decode cX10_taken 38 = .ok (.ifCond .eq 6, 3) := by decide +kernel
theorem dX10_taken_41 : decode cX10_taken 41 = .ok (.bipush (-12), 2) := by decide +kernel
theorem dX10_taken_43 : decode cX10_taken 43 = .ok (.ireturn, 1) := by decide +kernel
theorem dX10_taken_44 : decode cX10_taken 44 = .ok (.aload_n 0, 1) := by decide +kernel
theorem dX10_taken_45 : decode cX10_taken 45 = .ok (.getfield 60, 3) := by decide +kernel
theorem dX10_taken_48 : decode cX10_taken 48 = .ok (.aload_n 0, 1) := by decide +kernel
theorem dX10_taken_49 : decode cX10_taken 49 = .ok (.getfield 67, 3) := by decide +kernel
theorem dX10_taken_52 : decode cX10_taken 52 = .ok (.iload_n 1, 1) := by decide +kernel
theorem dX10_taken_53 : decode cX10_taken 53 = .ok (.invokevirtual 331, 3) := by decide +kernel
theorem dX10_taken_56 : decode cX10_taken 56 = .ok (.invokevirtual 334, 3) := by decide +kernel
theorem dX10_taken_59 : decode cX10_taken 59 = .ok (.istore_n 3, 1) := by decide +kernel
theorem dX10_taken_60 : decode cX10_taken 60 = .ok (.iload_n 3, 1) := by decide +kernel
theorem dX10_taken_61 : decode cX10_taken 61 = .ok (.iload_n 2, 1) := by decide +kernel
theorem dX10_taken_62 : decode cX10_taken 62 = .ok (.invokestatic 337, 3) := by decide +kernel
theorem dX10_taken_65 : decode cX10_taken 65 = .ok (.ifCond .eq 7, 3) := by decide +kernel
theorem dX10_taken_68 : decode cX10_taken 68 = .ok (.iload_n 3, 1) := by decide +kernel
theorem dX10_taken_69 : decode cX10_taken 69 = .ok (.goto 5, 3) := by decide +kernel
theorem dX10_taken_72 : decode cX10_taken 72 = .ok (.bipush (-12), 2) := by decide +kernel
theorem dX10_taken_74 : decode cX10_taken 74 = .ok (.ireturn, 1) := by decide +kernel
theorem dX10_count_0 : decode cX10_count 0 = .ok (.iload_n 1, 1) := by decide +kernel
theorem dX10_count_1 : decode cX10_count 1 = .ok (.tableswitch 102 0 6 #[43, 51, 59, 67, 78, 86, 94], 43) := by decide +kernel
theorem dX10_count_44 : decode cX10_count 44 = .ok (.aload_n 0, 1) := by decide +kernel
theorem dX10_count_45 : decode cX10_count 45 = .ok (.getfield 10, 3) := by decide +kernel
theorem dX10_count_48 : decode cX10_count 48 = .ok (.getfield 340, 3) := by decide +kernel
theorem dX10_count_51 : decode cX10_count 51 = .ok (.ireturn, 1) := by decide +kernel
theorem dX10_count_52 : decode cX10_count 52 = .ok (.aload_n 0, 1) := by decide +kernel
theorem dX10_count_53 : decode cX10_count 53 = .ok (.getfield 28, 3) := by decide +kernel
theorem dX10_count_56 : decode cX10_count 56 = .ok (.getfield 341, 3) := by decide +kernel
theorem dX10_count_59 : decode cX10_count 59 = .ok (.ireturn, 1) := by decide +kernel
theorem dX10_count_60 : decode cX10_count 60 = .ok (.aload_n 0, 1) := by decide +kernel
theorem dX10_count_61 : decode cX10_count 61 = .ok (.getfield 35, 3) := by decide +kernel
theorem dX10_count_64 : decode cX10_count 64 = .ok (.getfield 257, 3) := by decide +kernel
theorem dX10_count_67 : decode cX10_count 67 = .ok (.ireturn, 1) := by decide +kernel
theorem dX10_count_68 : decode cX10_count 68 = .ok (.aload_n 0, 1) := by decide +kernel
theorem dX10_count_69 : decode cX10_count 69 = .ok (.getfield 35, 3) := by decide +kernel
theorem dX10_count_72 : decode cX10_count 72 = .ok (.getfield 161, 3) := by decide +kernel
theorem dX10_count_75 : decode cX10_count 75 = .ok (.getfield 344, 3) := by decide +kernel
theorem dX10_count_78 : decode cX10_count 78 = .ok (.ireturn, 1) := by decide +kernel
theorem dX10_count_79 : decode cX10_count 79 = .ok (.aload_n 0, 1) := by decide +kernel
theorem dX10_count_80 : decode cX10_count 80 = .ok (.getfield 21, 3) := by decide +kernel
theorem dX10_count_83 : decode cX10_count 83 = .ok (.invokevirtual 269, 3) := by decide +kernel
theorem dX10_count_86 : decode cX10_count 86 = .ok (.ireturn, 1) := by decide +kernel
theorem dX10_count_87 : decode cX10_count 87 = .ok (.aload_n 0, 1) := by decide +kernel
theorem dX10_count_88 : decode cX10_count 88 = .ok (.getfield 60, 3) := by decide +kernel
theorem dX10_count_91 : decode cX10_count 91 = .ok (.getfield 345, 3) := by decide +kernel
theorem dX10_count_94 : decode cX10_count 94 = .ok (.ireturn, 1) := by decide +kernel
theorem dX10_count_95 : decode cX10_count 95 = .ok (.aload_n 0, 1) := by decide +kernel
theorem dX10_count_96 : decode cX10_count 96 = .ok (.getfield 60, 3) := by decide +kernel
theorem dX10_count_99 : decode cX10_count 99 = .ok (.getfield 346, 3) := by decide +kernel
theorem dX10_count_102 : decode cX10_count 102 = .ok (.ireturn, 1) := by decide +kernel
theorem dX10_count_103 : decode cX10_count 103 = .ok (.iconst (-1), 1) := by decide +kernel
theorem dX10_count_104 : decode cX10_count 104 = .ok (.ireturn, 1) := by decide +kernel
theorem dX11_within_0 : decode cX11_within 0 = .ok (.lload_n 0, 1) := by decide +kernel
theorem dX11_within_1 : decode cX11_within 1 = .ok (.lload_n 2, 1) := by decide +kernel
theorem dX11_within_2 : decode cX11_within 2 = .ok (.lcmp, 1) := by decide +kernel
theorem dX11_within_3 : decode cX11_within 3 = .ok (.ifCond .lt 14, 3) := by decide +kernel
theorem dX11_within_6 : decode cX11_within 6 = .ok (.lload_n 0, 1) := by decide +kernel
theorem dX11_within_7 : decode cX11_within 7 = .ok (.lload 4, 2) := by decide +kernel
theorem dX11_within_9 : decode cX11_within 9 = .ok (.lcmp, 1) := by decide +kernel
theorem dX11_within_10 : decode cX11_within 10 = .ok (.ifCond .gt 7, 3) := by decide +kernel
theorem dX11_within_13 : decode cX11_within 13 = .ok (.iconst 1, 1) := by decide +kernel
theorem dX11_within_14 : decode cX11_within 14 = .ok (.goto 4, 3) := by decide +kernel
theorem dX11_within_17 : decode cX11_within 17 = .ok (.iconst 0, 1) := by decide +kernel
theorem dX11_within_18 : decode cX11_within 18 = .ok (.ireturn, 1) := by decide +kernel
theorem dX11_size_0 : decode cX11_size 0 = .ok (.iload_n 0, 1) := by decide +kernel
theorem dX11_size_1 : decode cX11_size 1 = .ok (.ifCond .ge 8, 3) := by decide +kernel
theorem dX11_size_4 : decode cX11_size 4 = .ok (.iload_n 0, 1) := by decide +kernel
theorem dX11_size_5 : decode cX11_size 5 = .ok (.ineg, 1) := by decide +kernel
theorem dX11_size_6 : decode cX11_size 6 = .ok (.goto 4, 3) := by decide +kernel
theorem dX11_size_9 : decode cX11_size 9 = .ok (.iload_n 0, 1) := by decide +kernel
theorem dX11_size_10 : decode cX11_size 10 = .ok (.ireturn, 1) := by decide +kernel
theorem dX11_becomes_0 : decode cX11_becomes 0 = .ok (.aload_n 0, 1) := by decide +kernel
theorem dX11_becomes_1 : decode cX11_becomes 1 = .ok (.getfield 9, 3) := by decide +kernel
theorem dX11_becomes_4 : decode cX11_becomes 4 = .ok (.iload_n 1, 1) := by decide +kernel
theorem dX11_becomes_5 : decode cX11_becomes 5 = .ok (.iaload, 1) := by decide +kernel
theorem dX11_becomes_6 : decode cX11_becomes 6 = .ok (.istore_n 3, 1) := by decide +kernel
theorem dX11_becomes_7 : decode cX11_becomes 7 = .ok (.iload_n 3, 1) := by decide +kernel
theorem dX11_becomes_8 : decode cX11_becomes 8 = .ok (.iload_n 2, 1) := by decide +kernel
theorem dX11_becomes_9 : decode cX11_becomes 9 = .ok (.if_icmp .ne 5, 3) := by decide +kernel
theorem dX11_becomes_12 : decode cX11_becomes 12 = .ok (.iload_n 3, 1) := by decide +kernel
theorem dX11_becomes_13 : decode cX11_becomes 13 = .ok (.ireturn, 1) := by decide +kernel
theorem dX11_becomes_14 : decode cX11_becomes 14 = .ok (.aload_n 0, 1) := by decide +kernel
theorem dX11_becomes_15 : decode cX11_becomes 15 = .ok (.getfield 93, 3) := by decide +kernel
theorem dX11_becomes_18 : decode cX11_becomes 18 = .ok (.bipush 40, 2) := by decide +kernel
theorem dX11_becomes_20 : decode cX11_becomes 20 = .ok (.if_icmp .ne 77, 3) := by decide +kernel
theorem dX11_becomes_23 : decode cX11_becomes 23 = .ok (.iconst 1, 1) := by decide +kernel
theorem dX11_becomes_24 : decode cX11_becomes 24 = .ok (.istore 4, 2) := by decide +kernel
theorem dX11_becomes_26 : decode cX11_becomes 26 = .ok (.iload 4, 2) := by decide +kernel
theorem dX11_becomes_28 : decode cX11_becomes 28 = .ok (.bipush 40, 2) := by decide +kernel
theorem dX11_becomes_30 : decode cX11_becomes 30 = .ok (.if_icmp .ge 57, 3) := by decide +kernel
theorem dX11_becomes_33 : decode cX11_becomes 33 = .ok (.aload_n 0, 1) := by decide +kernel
theorem dX11_becomes_34 : decode cX11_becomes 34 = .ok (.getfield 13, 3) := by decide +kernel
theorem dX11_becomes_37 : decode cX11_becomes 37 = .ok (.iload 4, 2) := by decide +kernel
theorem dX11_becomes_39 : decode cX11_becomes 39 = .ok (.iconst 1, 1) := by decide +kernel
theorem dX11_becomes_40 : decode cX11_becomes 40 = .ok (.isub, 1) := by decide +kernel
theorem dX11_becomes_41 : decode cX11_becomes 41 = .ok (.aload_n 0, 1) := by decide +kernel
theorem dX11_becomes_42 : decode cX11_becomes 42 = .ok (.getfield 13, 3) := by decide +kernel
theorem dX11_becomes_45 : decode cX11_becomes 45 = .ok (.iload 4, 2) := by decide +kernel
theorem dX11_becomes_47 : decode cX11_becomes 47 = .ok (.iaload, 1) := by decide +kernel
theorem dX11_becomes_48 : decode cX11_becomes 48 = .ok (.iastore, 1) := by decide +kernel
theorem dX11_becomes_49 : decode cX11_becomes 49 = .ok (.aload_n 0, 1) := by decide +kernel
theorem dX11_becomes_50 : decode cX11_becomes 50 = .ok (.getfield 16, 3) := by decide +kernel
theorem dX11_becomes_53 : decode cX11_becomes 53 = .ok (.iload 4, 2) := by decide +kernel
theorem dX11_becomes_55 : decode cX11_becomes 55 = .ok (.iconst 1, 1) := by decide +kernel
theorem dX11_becomes_56 : decode cX11_becomes 56 = .ok (.isub, 1) := by decide +kernel
theorem dX11_becomes_57 : decode cX11_becomes 57 = .ok (.aload_n 0, 1) := by decide +kernel
theorem dX11_becomes_58 : decode cX11_becomes 58 = .ok (.getfield 16, 3) := by decide +kernel
theorem dX11_becomes_61 : decode cX11_becomes 61 = .ok (.iload 4, 2) := by decide +kernel
theorem dX11_becomes_63 : decode cX11_becomes 63 = .ok (.iaload, 1) := by decide +kernel
theorem dX11_becomes_64 : decode cX11_becomes 64 = .ok (.iastore, 1) := by decide +kernel
theorem dX11_becomes_65 : decode cX11_becomes 65 = .ok (.aload_n 0, 1) := by decide +kernel
theorem dX11_becomes_66 : decode cX11_becomes 66 = .ok (.getfield 19, 3) := by decide +kernel
theorem dX11_becomes_69 : decode cX11_becomes 69 = .ok (.iload 4, 2) := by decide +kernel
theorem dX11_becomes_71 : decode cX11_becomes 71 = .ok (.iconst 1, 1) := by decide +kernel
theorem dX11_becomes_72 : decode cX11_becomes 72 = .ok (.isub, 1) := by decide +kernel
theorem dX11_becomes_73 : decode cX11_becomes 73 = .ok (.aload_n 0, 1) := by decide +kernel
theorem dX11_becomes_74 : decode cX11_becomes 74 = .ok (.getfield 19, 3) := by decide +kernel
theorem dX11_becomes_77 : decode cX11_becomes 77 = .ok (.iload 4, 2) := by decide +kernel
theorem dX11_becomes_79 : decode cX11_becomes 79 = .ok (.iaload, 1) := by decide +kernel
theorem dX11_becomes_80 : decode cX11_becomes 80 = .ok (.iastore, 1) := by decide +kernel
theorem dX11_becomes_81 : decode cX11_becomes 81 = .ok (.iinc 4 1, 3) := by decide +kernel
theorem dX11_becomes_84 : decode cX11_becomes 84 = .ok (.goto (-58), 3) := by decide +kernel
theorem dX11_becomes_87 : decode cX11_becomes 87 = .ok (.aload_n 0, 1) := by decide +kernel
theorem dX11_becomes_88 : decode cX11_becomes 88 = .ok (.dup, 1) := by decide +kernel
theorem dX11_becomes_89 : decode cX11_becomes 89 = .ok (.getfield 93, 3) := by decide +kernel
theorem dX11_becomes_92 : decode cX11_becomes 92 = .ok (.iconst 1, 1) := by decide +kernel
theorem dX11_becomes_93 : decode cX11_becomes 93 = .ok (.isub, 1) := by decide +kernel
theorem dX11_becomes_94 : decode cX11_becomes 94 = .ok (.putfield 93, 3) := by decide +kernel
theorem dX11_becomes_97 : decode cX11_becomes 97 = .ok (.aload_n 0, 1) := by decide +kernel
theorem dX11_becomes_98 : decode cX11_becomes 98 = .ok (.getfield 13, 3) := by decide +kernel
theorem dX11_becomes_101 : decode cX11_becomes 101 = .ok (.aload_n 0, 1) := by decide +kernel
theorem dX11_becomes_102 : decode cX11_becomes 102 = .ok (.getfield 93, 3) := by decide +kernel
theorem dX11_becomes_105 : decode cX11_becomes 105 = .ok (.iload_n 1, 1) := by decide +kernel
theorem dX11_becomes_106 : decode cX11_becomes 106 = .ok (.iastore, 1) := by decide +kernel
theorem dX11_becomes_107 : decode cX11_becomes 107 = .ok (.aload_n 0, 1) := by decide +kernel
theorem dX11_becomes_108 : decode cX11_becomes 108 = .ok (.getfield 16, 3) := by decide +kernel
theorem dX11_becomes_111 : decode cX11_becomes 111 = .ok (.aload_n 0, 1) := by decide +kernel
theorem dX11_becomes_112 : decode cX11_becomes 112 = .ok (.getfield 93, 3) := by decide +kernel
theorem dX11_becomes_115 : decode cX11_becomes 115 = .ok (.iload_n 3, 1) := by decide +kernel
theorem dX11_becomes_116 : decode cX11_becomes 116 = .ok (.iastore, 1) := by decide +kernel
theorem dX11_becomes_117 : decode cX11_becomes 117 = .ok (.aload_n 0, 1) := by decide +kernel
theorem dX11_becomes_118 : decode cX11_becomes 118 = .ok (.getfield 19, 3) := by decide +kernel
theorem dX11_becomes_121 : decode cX11_becomes 121 = .ok (.aload_n 0, 1) := by decide +kernel
theorem dX11_becomes_122 : decode cX11_becomes 122 = .ok (.getfield 93, 3) := by decide +kernel
theorem dX11_becomes_125 : decode cX11_becomes 125 = .ok (.iload_n 2, 1) := by decide +kernel
theorem dX11_becomes_126 : decode cX11_becomes 126 = .ok (.iastore, 1) := by decide +kernel
theorem dX11_becomes_127 : decode cX11_becomes 127 = .ok (.aload_n 0, 1) := by decide +kernel
theorem dX11_becomes_128 : decode cX11_becomes 128 = .ok (.dup, 1) := by decide +kernel
theorem dX11_becomes_129 : decode cX11_becomes 129 = .ok (.getfield 93, 3) := by decide +kernel
theorem dX11_becomes_132 : decode cX11_becomes 132 = .ok (.iconst 1, 1) := by decide +kernel
theorem dX11_becomes_133 : decode cX11_becomes 133 = .ok (.iadd, 1) := by decide +kernel
theorem dX11_becomes_134 : decode cX11_becomes 134 = .ok (.putfield 93, 3) := by decide +kernel
theorem dX11_becomes_137 : decode cX11_becomes 137 = .ok (.aload_n 0, 1) := by decide +kernel
theorem dX11_becomes_138 : decode cX11_becomes 138 = .ok (.aload_n 0, 1) := by decide +kernel
theorem dX11_becomes_139 : decode cX11_becomes 139 = .ok (.getfield 93, 3) := by decide +kernel
theorem dX11_becomes_142 : decode cX11_becomes 142 = .ok (.putfield 96, 3) := by decide +kernel
theorem dX11_becomes_145 : decode cX11_becomes 145 = .ok (.aload_n 0, 1) := by decide +kernel
theorem dX11_becomes_146 : decode cX11_becomes 146 = .ok (.getfield 9, 3) := by decide +kernel
theorem dX11_becomes_149 : decode cX11_becomes 149 = .ok (.iload_n 1, 1) := by decide +kernel
theorem dX11_becomes_150 : decode cX11_becomes 150 = .ok (.iload_n 2, 1) := by decide +kernel
theorem dX11_becomes_151 : decode cX11_becomes 151 = .ok (.iastore, 1) := by decide +kernel
theorem dX11_becomes_152 : decode cX11_becomes 152 = .ok (.iload_n 3, 1) := by decide +kernel
theorem dX11_becomes_153 : decode cX11_becomes 153 = .ok (.ireturn, 1) := by decide +kernel
theorem dX11_undo_0 : decode cX11_undo 0 = .ok (.aload_n 0, 1) := by decide +kernel
theorem dX11_undo_1 : decode cX11_undo 1 = .ok (.getfield 93, 3) := by decide +kernel
theorem dX11_undo_4 : decode cX11_undo 4 = .ok (.ifCond .ne 6, 3) := by decide +kernel
theorem dX11_undo_7 : decode cX11_undo 7 = .ok (.bipush (-5), 2) := by decide +kernel
theorem dX11_undo_9 : decode cX11_undo 9 = .ok (.ireturn, 1) := by decide +kernel
theorem dX11_undo_10 : decode cX11_undo 10 = .ok (.aload_n 0, 1) := by decide +kernel
theorem dX11_undo_11 : decode cX11_undo 11 = .ok (.dup, 1) := by decide +kernel
theorem dX11_undo_12 : decode cX11_undo 12 = .ok (.getfield 93, 3) := by decide +kernel
theorem dX11_undo_15 : decode cX11_undo 15 = .ok (.iconst 1, 1) := by decide +kernel
theorem dX11_undo_16 : decode cX11_undo 16 = .ok (.isub, 1) := by decide +kernel
theorem dX11_undo_17 : decode cX11_undo 17 = .ok (.putfield 93, 3) := by decide +kernel
theorem dX11_undo_20 : decode cX11_undo 20 = .ok (.aload_n 0, 1) := by decide +kernel
theorem dX11_undo_21 : decode cX11_undo 21 = .ok (.getfield 9, 3) := by decide +kernel
theorem dX11_undo_24 : decode cX11_undo 24 = .ok (.aload_n 0, 1) := by decide +kernel
theorem dX11_undo_25 : decode cX11_undo 25 = .ok (.getfield 13, 3) := by decide +kernel
theorem dX11_undo_28 : decode cX11_undo 28 = .ok (.aload_n 0, 1) := by decide +kernel
theorem dX11_undo_29 : decode cX11_undo 29 = .ok (.getfield 93, 3) := by decide +kernel
theorem dX11_undo_32 : decode cX11_undo 32 = .ok (.iaload, 1) := by decide +kernel
theorem dX11_undo_33 : decode cX11_undo 33 = .ok (.aload_n 0, 1) := by decide +kernel
theorem dX11_undo_34 : decode cX11_undo 34 = .ok (.getfield 16, 3) := by decide +kernel
theorem dX11_undo_37 : decode cX11_undo 37 = .ok (.aload_n 0, 1) := by decide +kernel
theorem dX11_undo_38 : decode cX11_undo 38 = .ok (.getfield 93, 3) := by decide +kernel
theorem dX11_undo_41 : decode cX11_undo 41 = .ok (.iaload, 1) := by decide +kernel
theorem dX11_undo_42 : decode cX11_undo 42 = .ok (.iastore, 1) := by decide +kernel
theorem dX11_undo_43 : decode cX11_undo 43 = .ok (.aload_n 0, 1) := by decide +kernel
theorem dX11_undo_44 : decode cX11_undo 44 = .ok (.getfield 93, 3) := by decide +kernel
theorem dX11_undo_47 : decode cX11_undo 47 = .ok (.ireturn, 1) := by decide +kernel
theorem dX11_redo_0 : decode cX11_redo 0 = .ok (.aload_n 0, 1) := by decide +kernel
theorem dX11_redo_1 : decode cX11_redo 1 = .ok (.getfield 93, 3) := by decide +kernel
theorem dX11_redo_4 : decode cX11_redo 4 = .ok (.aload_n 0, 1) := by decide +kernel
theorem dX11_redo_5 : decode cX11_redo 5 = .ok (.getfield 96, 3) := by decide +kernel
theorem dX11_redo_8 : decode cX11_redo 8 = .ok (.if_icmp .ne 6, 3) := by decide +kernel
theorem dX11_redo_11 : decode cX11_redo 11 = .ok (.bipush (-5), 2) := by decide +kernel
theorem dX11_redo_13 : decode cX11_redo 13 = .ok (.ireturn, 1) := by decide +kernel
theorem dX11_redo_14 : decode cX11_redo 14 = .ok (.aload_n 0, 1) := by decide +kernel
theorem dX11_redo_15 : decode cX11_redo 15 = .ok (.getfield 9, 3) := by decide +kernel
theorem dX11_redo_18 : decode cX11_redo 18 = .ok (.aload_n 0, 1) := by decide +kernel
theorem dX11_redo_19 : decode cX11_redo 19 = .ok (.getfield 13, 3) := by decide +kernel
theorem dX11_redo_22 : decode cX11_redo 22 = .ok (.aload_n 0, 1) := by decide +kernel
theorem dX11_redo_23 : decode cX11_redo 23 = .ok (.getfield 93, 3) := by decide +kernel
theorem dX11_redo_26 : decode cX11_redo 26 = .ok (.iaload, 1) := by decide +kernel
theorem dX11_redo_27 : decode cX11_redo 27 = .ok (.aload_n 0, 1) := by decide +kernel
theorem dX11_redo_28 : decode cX11_redo 28 = .ok (.getfield 19, 3) := by decide +kernel
theorem dX11_redo_31 : decode cX11_redo 31 = .ok (.aload_n 0, 1) := by decide +kernel
theorem dX11_redo_32 : decode cX11_redo 32 = .ok (.getfield 93, 3) := by decide +kernel
theorem dX11_redo_35 : decode cX11_redo 35 = .ok (.iaload, 1) := by decide +kernel
theorem dX11_redo_36 : decode cX11_redo 36 = .ok (.iastore, 1) := by decide +kernel
theorem dX11_redo_37 : decode cX11_redo 37 = .ok (.aload_n 0, 1) := by decide +kernel
theorem dX11_redo_38 : decode cX11_redo 38 = .ok (.dup, 1) := by decide +kernel
theorem dX11_redo_39 : decode cX11_redo 39 = .ok (.getfield 93, 3) := by decide +kernel
theorem dX11_redo_42 : decode cX11_redo 42 = .ok (.iconst 1, 1) := by decide +kernel
theorem dX11_redo_43 : decode cX11_redo 43 = .ok (.iadd, 1) := by decide +kernel
theorem dX11_redo_44 : decode cX11_redo 44 = .ok (.putfield 93, 3) := by decide +kernel
theorem dX11_redo_47 : decode cX11_redo 47 = .ok (.aload_n 0, 1) := by decide +kernel
theorem dX11_redo_48 : decode cX11_redo 48 = .ok (.getfield 96, 3) := by decide +kernel
theorem dX11_redo_51 : decode cX11_redo 51 = .ok (.aload_n 0, 1) := by decide +kernel
theorem dX11_redo_52 : decode cX11_redo 52 = .ok (.getfield 93, 3) := by decide +kernel
theorem dX11_redo_55 : decode cX11_redo 55 = .ok (.isub, 1) := by decide +kernel
theorem dX11_redo_56 : decode cX11_redo 56 = .ok (.ireturn, 1) := by decide +kernel
theorem dX11_cosine_0 : decode cX11_cosine 0 = .ok (.iload_n 0, 1) := by decide +kernel
theorem dX11_cosine_1 : decode cX11_cosine 1 = .ok (.bipush 6, 2) := by decide +kernel
theorem dX11_cosine_3 : decode cX11_cosine 3 = .ok (.if_icmp .le 10, 3) := by decide +kernel
theorem dX11_cosine_6 : decode cX11_cosine 6 = .ok (.bipush 12, 2) := by decide +kernel
theorem dX11_cosine_8 : decode cX11_cosine 8 = .ok (.iload_n 0, 1) := by decide +kernel
theorem dX11_cosine_9 : decode cX11_cosine 9 = .ok (.isub, 1) := by decide +kernel
theorem dX11_cosine_10 : decode cX11_cosine 10 = .ok (.goto 4, 3) := by decide +kernel
theorem dX11_cosine_13 : decode cX11_cosine 13 = .ok (.iload_n 0, 1) := by decide +kernel
theorem dX11_cosine_14 : decode cX11_cosine 14 = .ok (.istore_n 1, 1) := by decide +kernel
theorem dX11_cosine_15 : decode cX11_cosine 15 = .ok (.iload_n 1, 1) := by decide +kernel
theorem dX11_cosine_16 : decode cX11_cosine 16 = .ok (.tableswitch 62 0 5 #[40, 44, 48, 52, 54, 58], 40) := by decide +kernel
theorem dX11_cosine_56 : decode cX11_cosine 56 = .ok (.sipush 1000, 3) := by decide +kernel
theorem dX11_cosine_59 : decode cX11_cosine 59 = .ok (.ireturn, 1) := by decide +kernel
theorem dX11_cosine_60 : decode cX11_cosine 60 = .ok (.sipush 866, 3) := by decide +kernel
theorem dX11_cosine_63 : decode cX11_cosine 63 = .ok (.ireturn, 1) := by decide +kernel
theorem dX11_cosine_64 : decode cX11_cosine 64 = .ok (.sipush 500, 3) := by decide +kernel
theorem dX11_cosine_67 : decode cX11_cosine 67 = .ok (.ireturn, 1) := by decide +kernel
theorem dX11_cosine_68 : decode cX11_cosine 68 = .ok (.iconst 0, 1) := by decide +kernel
theorem dX11_cosine_69 : decode cX11_cosine 69 = .ok (.ireturn, 1) := by decide +kernel
theorem dX11_cosine_70 : decode cX11_cosine 70 = .ok (.sipush (-500), 3) := by decide +kernel
theorem dX11_cosine_73 : decode cX11_cosine 73 = .ok (.ireturn, 1) := by decide +kernel
theorem dX11_cosine_74 : decode cX11_cosine 74 = .ok (.sipush (-866), 3) := by decide +kernel
theorem dX11_cosine_77 : decode cX11_cosine 77 = .ok (.ireturn, 1) := by decide +kernel
theorem dX11_cosine_78 : decode cX11_cosine 78 = .ok (.sipush (-1000), 3) := by decide +kernel
theorem dX11_cosine_81 : decode cX11_cosine 81 = .ok (.ireturn, 1) := by decide +kernel
theorem dX11_sine_0 : decode cX11_sine 0 = .ok (.iload_n 0, 1) := by decide +kernel
theorem dX11_sine_1 : decode cX11_sine 1 = .ok (.bipush 9, 2) := by decide +kernel
theorem dX11_sine_3 : decode cX11_sine 3 = .ok (.iadd, 1) := by decide +kernel
theorem dX11_sine_4 : decode cX11_sine 4 = .ok (.bipush 12, 2) := by decide +kernel
theorem dX11_sine_6 : decode cX11_sine 6 = .ok (.irem, 1) := by decide +kernel
theorem dX11_sine_7 : decode cX11_sine 7 = .ok (.invokestatic 99, 3) := by decide +kernel
theorem dX11_sine_10 : decode cX11_sine 10 = .ok (.ireturn, 1) := by decide +kernel
theorem dX11_isLump_0 : decode cX11_isLump 0 = .ok (.iload_n 1, 1) := by decide +kernel
theorem dX11_isLump_1 : decode cX11_isLump 1 = .ok (.i2l, 1) := by decide +kernel
theorem dX11_isLump_2 : decode cX11_isLump 2 = .ok (.lconst 0, 1) := by decide +kernel
theorem dX11_isLump_3 : decode cX11_isLump 3 = .ok (.aload_n 0, 1) := by decide +kernel
theorem dX11_isLump_4 : decode cX11_isLump 4 = .ok (.getfield 103, 3) := by decide +kernel
theorem dX11_isLump_7 : decode cX11_isLump 7 = .ok (.iconst 1, 1) := by decide +kernel
theorem dX11_isLump_8 : decode cX11_isLump 8 = .ok (.isub, 1) := by decide +kernel
theorem dX11_isLump_9 : decode cX11_isLump 9 = .ok (.i2l, 1) := by decide +kernel
theorem dX11_isLump_10 : decode cX11_isLump 10 = .ok (.invokestatic 106, 3) := by decide +kernel
theorem dX11_isLump_13 : decode cX11_isLump 13 = .ok (.ireturn, 1) := by decide +kernel
theorem dX11_isOne_0 : decode cX11_isOne 0 = .ok (.lload_n 0, 1) := by decide +kernel
theorem dX11_isOne_1 : decode cX11_isOne 1 = .ok (.lconst 1, 1) := by decide +kernel
theorem dX11_isOne_2 : decode cX11_isOne 2 = .ok (.ldc2_w 110, 3) := by decide +kernel
theorem dX11_isOne_5 : decode cX11_isOne 5 = .ok (.invokestatic 106, 3) := by decide +kernel
theorem dX11_isOne_8 : decode cX11_isOne 8 = .ok (.ifCond .eq 42, 3) := by decide +kernel
theorem dX11_isOne_11 : decode cX11_isOne 11 = .ok (.lload_n 2, 1) := by decide +kernel
theorem dX11_isOne_12 : decode cX11_isOne 12 = .ok (.lconst 0, 1) := by decide +kernel
theorem dX11_isOne_13 : decode cX11_isOne 13 = .ok (.ldc2_w 112, 3) := by decide +kernel
theorem dX11_isOne_16 : decode cX11_isOne 16 = .ok (.invokestatic 106, 3) := by decide +kernel
theorem dX11_isOne_19 : decode cX11_isOne 19 = .ok (.ifCond .eq 31, 3) := by decide +kernel
theorem dX11_isOne_22 : decode cX11_isOne 22 = .ok (.lload 4, 2) := by decide +kernel
theorem dX11_isOne_24 : decode cX11_isOne 24 = .ok (.lconst 0, 1) := by decide +kernel
theorem dX11_isOne_25 : decode cX11_isOne 25 = .ok (.ldc2_w 114, 3) := by decide +kernel
theorem dX11_isOne_28 : decode cX11_isOne 28 = .ok (.invokestatic 106, 3) := by decide +kernel
theorem dX11_isOne_31 : decode cX11_isOne 31 = .ok (.ifCond .eq 19, 3) := by decide +kernel
theorem dX11_isOne_34 : decode cX11_isOne 34 = .ok (.lload 6, 2) := by decide +kernel
theorem dX11_isOne_36 : decode cX11_isOne 36 = .ok (.lconst 0, 1) := by decide +kernel
theorem dX11_isOne_37 : decode cX11_isOne 37 = .ok (.ldc2_w 116, 3) := by decide +kernel
theorem dX11_isOne_40 : decode cX11_isOne 40 = .ok (.invokestatic 106, 3) := by decide +kernel
theorem dX11_isOne_43 : decode cX11_isOne 43 = .ok (.ifCond .eq 7, 3) := by decide +kernel
theorem dX11_isOne_46 : decode cX11_isOne 46 = .ok (.iconst 1, 1) := by decide +kernel
theorem dX11_isOne_47 : decode cX11_isOne 47 = .ok (.goto 4, 3) := by decide +kernel
theorem dX11_isOne_50 : decode cX11_isOne 50 = .ok (.iconst 0, 1) := by decide +kernel
theorem dX11_isOne_51 : decode cX11_isOne 51 = .ok (.ireturn, 1) := by decide +kernel
theorem dX11_adds_0 : decode cX11_adds 0 = .ok (.aload_n 0, 1) := by decide +kernel
theorem dX11_adds_1 : decode cX11_adds 1 = .ok (.getfield 9, 3) := by decide +kernel
theorem dX11_adds_4 : decode cX11_adds 4 = .ok (.aload_n 0, 1) := by decide +kernel
theorem dX11_adds_5 : decode cX11_adds 5 = .ok (.getfield 103, 3) := by decide +kernel
theorem dX11_adds_8 : decode cX11_adds 8 = .ok (.iload_n 1, 1) := by decide +kernel
theorem dX11_adds_9 : decode cX11_adds 9 = .ok (.iastore, 1) := by decide +kernel
theorem dX11_adds_10 : decode cX11_adds 10 = .ok (.aload_n 0, 1) := by decide +kernel
theorem dX11_adds_11 : decode cX11_adds 11 = .ok (.getfield 9, 3) := by decide +kernel
theorem dX11_adds_14 : decode cX11_adds 14 = .ok (.bipush 12, 2) := by decide +kernel
theorem dX11_adds_16 : decode cX11_adds 16 = .ok (.aload_n 0, 1) := by decide +kernel
theorem dX11_adds_17 : decode cX11_adds 17 = .ok (.getfield 103, 3) := by decide +kernel
theorem dX11_adds_20 : decode cX11_adds 20 = .ok (.iadd, 1) := by decide +kernel
theorem dX11_adds_21 : decode cX11_adds 21 = .ok (.iload_n 2, 1) := by decide +kernel
theorem dX11_adds_22 : decode cX11_adds 22 = .ok (.iastore, 1) := by decide +kernel
theorem dX11_adds_23 : decode cX11_adds 23 = .ok (.aload_n 0, 1) := by decide +kernel
theorem dX11_adds_24 : decode cX11_adds 24 = .ok (.getfield 9, 3) := by decide +kernel
theorem dX11_adds_27 : decode cX11_adds 27 = .ok (.bipush 24, 2) := by decide +kernel
theorem dX11_adds_29 : decode cX11_adds 29 = .ok (.aload_n 0, 1) := by decide +kernel
theorem dX11_adds_30 : decode cX11_adds 30 = .ok (.getfield 103, 3) := by decide +kernel
theorem dX11_adds_33 : decode cX11_adds 33 = .ok (.iadd, 1) := by decide +kernel
theorem dX11_adds_34 : decode cX11_adds 34 = .ok (.iload_n 3, 1) := by decide +kernel
theorem dX11_adds_35 : decode cX11_adds 35 = .ok (.iastore, 1) := by decide +kernel
theorem dX11_adds_36 : decode cX11_adds 36 = .ok (.aload_n 0, 1) := by decide +kernel
theorem dX11_adds_37 : decode cX11_adds 37 = .ok (.getfield 22, 3) := by decide +kernel
theorem dX11_adds_40 : decode cX11_adds 40 = .ok (.aload_n 0, 1) := by decide +kernel
theorem dX11_adds_41 : decode cX11_adds 41 = .ok (.getfield 103, 3) := by decide +kernel
theorem dX11_adds_44 : decode cX11_adds 44 = .ok (.iload 4, 2) := by decide +kernel
theorem dX11_adds_46 : decode cX11_adds 46 = .ok (.iastore, 1) := by decide +kernel
theorem dX11_adds_47 : decode cX11_adds 47 = .ok (.aload_n 0, 1) := by decide +kernel
theorem dX11_adds_48 : decode cX11_adds 48 = .ok (.dup, 1) := by decide +kernel
theorem dX11_adds_49 : decode cX11_adds 49 = .ok (.getfield 103, 3) := by decide +kernel
theorem dX11_adds_52 : decode cX11_adds 52 = .ok (.iconst 1, 1) := by decide +kernel
theorem dX11_adds_53 : decode cX11_adds 53 = .ok (.iadd, 1) := by decide +kernel
theorem dX11_adds_54 : decode cX11_adds 54 = .ok (.putfield 103, 3) := by decide +kernel
theorem dX11_adds_57 : decode cX11_adds 57 = .ok (.return_, 1) := by decide +kernel
theorem dX11_lump_0 : decode cX11_lump 0 = .ok (.iload_n 1, 1) := by decide +kernel
theorem dX11_lump_1 : decode cX11_lump 1 = .ok (.ifCond .lt 33, 3) := by decide +kernel
theorem dX11_lump_4 : decode cX11_lump 4 = .ok (.iload_n 2, 1) := by decide +kernel
theorem dX11_lump_5 : decode cX11_lump 5 = .ok (.ifCond .lt 29, 3) := by decide +kernel
theorem dX11_lump_8 : decode cX11_lump 8 = .ok (.iload_n 1, 1) := by decide +kernel
theorem dX11_lump_9 : decode cX11_lump 9 = .ok (.bipush 100, 2) := by decide +kernel
theorem dX11_lump_11 : decode cX11_lump 11 = .ok (.idiv, 1) := by decide +kernel
theorem dX11_lump_12 : decode cX11_lump 12 = .ok (.i2l, 1) := by decide +kernel
theorem dX11_lump_13 : decode cX11_lump 13 = .ok (.iload_n 1, 1) := by decide +kernel
theorem dX11_lump_14 : decode cX11_lump 14 = .ok (.bipush 100, 2) := by decide +kernel
theorem dX11_lump_16 : decode cX11_lump 16 = .ok (.irem, 1) := by decide +kernel
theorem dX11_lump_17 : decode cX11_lump 17 = .ok (.i2l, 1) := by decide +kernel
theorem dX11_lump_18 : decode cX11_lump 18 = .ok (.iload_n 2, 1) := by decide +kernel
theorem dX11_lump_19 : decode cX11_lump 19 = .ok (.bipush 10, 2) := by decide +kernel
theorem dX11_lump_21 : decode cX11_lump 21 = .ok (.idiv, 1) := by decide +kernel
theorem dX11_lump_22 : decode cX11_lump 22 = .ok (.i2l, 1) := by decide +kernel
theorem dX11_lump_23 : decode cX11_lump 23 = .ok (.iload_n 2, 1) := by decide +kernel
theorem dX11_lump_24 : decode cX11_lump 24 = .ok (.bipush 10, 2) := by decide +kernel
theorem dX11_lump_26 : decode cX11_lump 26 = .ok (.irem, 1) := by decide +kernel
theorem dX11_lump_27 : decode cX11_lump 27 = .ok (.i2l, 1) := by decide +kernel
theorem dX11_lump_28 : decode cX11_lump 28 = .ok (.invokestatic 118, 3) := by decide +kernel
