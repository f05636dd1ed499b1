theorem dX11_lump_31 : decode cX11_lump 31 = .ok (.ifCond .ne 5, 3) := by decide +kernel
theorem dX11_lump_34 : decode cX11_lump 34 = .ok (.iconst (-1), 1) := by decide +kernel
theorem dX11_lump_35 : decode cX11_lump 35 = .ok (.ireturn, 1) := by decide +kernel
theorem dX11_lump_36 : decode cX11_lump 36 = .ok (.aload_n 0, 1) := by decide +kernel
theorem dX11_lump_37 : decode cX11_lump 37 = .ok (.getfield 103, 3) := by decide +kernel
theorem dX11_lump_40 : decode cX11_lump 40 = .ok (.bipush 12, 2) := by decide +kernel
theorem dX11_lump_42 : decode cX11_lump 42 = .ok (.if_icmp .ne 6, 3) := by decide +kernel
theorem dX11_lump_45 : decode cX11_lump 45 = .ok (.bipush (-3), 2) := by decide +kernel
theorem dX11_lump_47 : decode cX11_lump 47 = .ok (.ireturn, 1) := by decide +kernel
theorem dX11_lump_48 : decode cX11_lump 48 = .ok (.aload_n 0, 1) := by decide +kernel
theorem dX11_lump_49 : decode cX11_lump 49 = .ok (.iload_n 1, 1) := by decide +kernel
theorem dX11_lump_50 : decode cX11_lump 50 = .ok (.bipush 100, 2) := by decide +kernel
theorem dX11_lump_52 : decode cX11_lump 52 = .ok (.idiv, 1) := by decide +kernel
theorem dX11_lump_53 : decode cX11_lump 53 = .ok (.iload_n 1, 1) := by decide +kernel
theorem dX11_lump_54 : decode cX11_lump 54 = .ok (.bipush 100, 2) := by decide +kernel
theorem dX11_lump_56 : decode cX11_lump 56 = .ok (.irem, 1) := by decide +kernel
theorem dX11_lump_57 : decode cX11_lump 57 = .ok (.iload_n 2, 1) := by decide +kernel
theorem dX11_lump_58 : decode cX11_lump 58 = .ok (.bipush 10, 2) := by decide +kernel
theorem dX11_lump_60 : decode cX11_lump 60 = .ok (.idiv, 1) := by decide +kernel
theorem dX11_lump_61 : decode cX11_lump 61 = .ok (.iload_n 2, 1) := by decide +kernel
theorem dX11_lump_62 : decode cX11_lump 62 = .ok (.bipush 10, 2) := by decide +kernel
theorem dX11_lump_64 : decode cX11_lump 64 = .ok (.irem, 1) := by decide +kernel
theorem dX11_lump_65 : decode cX11_lump 65 = .ok (.invokevirtual 122, 3) := by decide +kernel
theorem dX11_lump_68 : decode cX11_lump 68 = .ok (.aload_n 0, 1) := by decide +kernel
theorem dX11_lump_69 : decode cX11_lump 69 = .ok (.getfield 103, 3) := by decide +kernel
theorem dX11_lump_72 : decode cX11_lump 72 = .ok (.iconst 1, 1) := by decide +kernel
theorem dX11_lump_73 : decode cX11_lump 73 = .ok (.isub, 1) := by decide +kernel
theorem dX11_lump_74 : decode cX11_lump 74 = .ok (.ireturn, 1) := by decide +kernel
theorem dX11_lumps_0 : decode cX11_lumps 0 = .ok (.iload_n 1, 1) := by decide +kernel
theorem dX11_lumps_1 : decode cX11_lumps 1 = .ok (.invokestatic 126, 3) := by decide +kernel
theorem dX11_lumps_4 : decode cX11_lumps 4 = .ok (.ifCond .eq 15, 3) := by decide +kernel
theorem dX11_lumps_7 : decode cX11_lumps 7 = .ok (.iload_n 3, 1) := by decide +kernel
theorem dX11_lumps_8 : decode cX11_lumps 8 = .ok (.i2l, 1) := by decide +kernel
theorem dX11_lumps_9 : decode cX11_lumps 9 = .ok (.lconst 1, 1) := by decide +kernel
theorem dX11_lumps_10 : decode cX11_lumps 10 = .ok (.ldc2_w 130, 3) := by decide +kernel
theorem dX11_lumps_13 : decode cX11_lumps 13 = .ok (.invokestatic 106, 3) := by decide +kernel
theorem dX11_lumps_16 : decode cX11_lumps 16 = .ok (.ifCond .ne 5, 3) := by decide +kernel
theorem dX11_lumps_19 : decode cX11_lumps 19 = .ok (.iconst (-1), 1) := by decide +kernel
theorem dX11_lumps_20 : decode cX11_lumps 20 = .ok (.ireturn, 1) := by decide +kernel
theorem dX11_lumps_21 : decode cX11_lumps 21 = .ok (.aload_n 0, 1) := by decide +kernel
theorem dX11_lumps_22 : decode cX11_lumps 22 = .ok (.getfield 76, 3) := by decide +kernel
theorem dX11_lumps_25 : decode cX11_lumps 25 = .ok (.iload_n 1, 1) := by decide +kernel
theorem dX11_lumps_26 : decode cX11_lumps 26 = .ok (.iaload, 1) := by decide +kernel
theorem dX11_lumps_27 : decode cX11_lumps 27 = .ok (.ifCond .lt 17, 3) := by decide +kernel
theorem dX11_lumps_30 : decode cX11_lumps 30 = .ok (.aload_n 0, 1) := by decide +kernel
theorem dX11_lumps_31 : decode cX11_lumps 31 = .ok (.getfield 76, 3) := by decide +kernel
theorem dX11_lumps_34 : decode cX11_lumps 34 = .ok (.iload_n 1, 1) := by decide +kernel
theorem dX11_lumps_35 : decode cX11_lumps 35 = .ok (.iaload, 1) := by decide +kernel
theorem dX11_lumps_36 : decode cX11_lumps 36 = .ok (.bipush 50, 2) := by decide +kernel
theorem dX11_lumps_38 : decode cX11_lumps 38 = .ok (.if_icmp .eq 6, 3) := by decide +kernel
theorem dX11_lumps_41 : decode cX11_lumps 41 = .ok (.bipush (-12), 2) := by decide +kernel
theorem dX11_lumps_43 : decode cX11_lumps 43 = .ok (.ireturn, 1) := by decide +kernel
theorem dX11_lumps_44 : decode cX11_lumps 44 = .ok (.iconst 0, 1) := by decide +kernel
theorem dX11_lumps_45 : decode cX11_lumps 45 = .ok (.istore 4, 2) := by decide +kernel
theorem dX11_lumps_47 : decode cX11_lumps 47 = .ok (.aload_n 0, 1) := by decide +kernel
theorem dX11_lumps_48 : decode cX11_lumps 48 = .ok (.getfield 76, 3) := by decide +kernel
theorem dX11_lumps_51 : decode cX11_lumps 51 = .ok (.iload_n 1, 1) := by decide +kernel
theorem dX11_lumps_52 : decode cX11_lumps 52 = .ok (.iaload, 1) := by decide +kernel
theorem dX11_lumps_53 : decode cX11_lumps 53 = .ok (.bipush 50, 2) := by decide +kernel
theorem dX11_lumps_55 : decode cX11_lumps 55 = .ok (.if_icmp .ne 11, 3) := by decide +kernel
theorem dX11_lumps_58 : decode cX11_lumps 58 = .ok (.iload_n 2, 1) := by decide +kernel
theorem dX11_lumps_59 : decode cX11_lumps 59 = .ok (.ifCond .lt 7, 3) := by decide +kernel
theorem dX11_lumps_62 : decode cX11_lumps 62 = .ok (.iconst 1, 1) := by decide +kernel
theorem dX11_lumps_63 : decode cX11_lumps 63 = .ok (.goto 4, 3) := by decide +kernel
theorem dX11_lumps_66 : decode cX11_lumps 66 = .ok (.iconst 0, 1) := by decide +kernel
theorem dX11_lumps_67 : decode cX11_lumps 67 = .ok (.istore 5, 2) := by decide +kernel
theorem dX11_lumps_69 : decode cX11_lumps 69 = .ok (.iload 5, 2) := by decide +kernel
theorem dX11_lumps_71 : decode cX11_lumps 71 = .ok (.ifCond .eq 160, 3) := by decide +kernel
theorem dX11_lumps_74 : decode cX11_lumps 74 = .ok (.iload 4, 2) := by decide +kernel
theorem dX11_lumps_76 : decode cX11_lumps 76 = .ok (.iload_n 3, 1) := by decide +kernel
theorem dX11_lumps_77 : decode cX11_lumps 77 = .ok (.if_icmp .ge 154, 3) := by decide +kernel
theorem dX11_lumps_80 : decode cX11_lumps 80 = .ok (.iload_n 2, 1) := by decide +kernel
theorem dX11_lumps_81 : decode cX11_lumps 81 = .ok (.aload_n 0, 1) := by decide +kernel
theorem dX11_lumps_82 : decode cX11_lumps 82 = .ok (.getfield 79, 3) := by decide +kernel
theorem dX11_lumps_85 : decode cX11_lumps 85 = .ok (.iload_n 1, 1) := by decide +kernel
theorem dX11_lumps_86 : decode cX11_lumps 86 = .ok (.iaload, 1) := by decide +kernel
theorem dX11_lumps_87 : decode cX11_lumps 87 = .ok (.iconst 4, 1) := by decide +kernel
theorem dX11_lumps_88 : decode cX11_lumps 88 = .ok (.isub, 1) := by decide +kernel
theorem dX11_lumps_89 : decode cX11_lumps 89 = .ok (.iconst 4, 1) := by decide +kernel
theorem dX11_lumps_90 : decode cX11_lumps 90 = .ok (.iload 4, 2) := by decide +kernel
theorem dX11_lumps_92 : decode cX11_lumps 92 = .ok (.imul, 1) := by decide +kernel
theorem dX11_lumps_93 : decode cX11_lumps 93 = .ok (.isub, 1) := by decide +kernel
theorem dX11_lumps_94 : decode cX11_lumps 94 = .ok (.if_icmp .gt 16, 3) := by decide +kernel
theorem dX11_lumps_97 : decode cX11_lumps 97 = .ok (.aload_n 0, 1) := by decide +kernel
theorem dX11_lumps_98 : decode cX11_lumps 98 = .ok (.getfield 103, 3) := by decide +kernel
theorem dX11_lumps_101 : decode cX11_lumps 101 = .ok (.bipush 12, 2) := by decide +kernel
theorem dX11_lumps_103 : decode cX11_lumps 103 = .ok (.if_icmp .ge 7, 3) := by decide +kernel
theorem dX11_lumps_106 : decode cX11_lumps 106 = .ok (.iconst 1, 1) := by decide +kernel
theorem dX11_lumps_107 : decode cX11_lumps 107 = .ok (.goto 4, 3) := by decide +kernel
theorem dX11_lumps_110 : decode cX11_lumps 110 = .ok (.iconst 0, 1) := by decide +kernel
theorem dX11_lumps_111 : decode cX11_lumps 111 = .ok (.istore 5, 2) := by decide +kernel
theorem dX11_lumps_113 : decode cX11_lumps 113 = .ok (.bipush 60, 2) := by decide +kernel
theorem dX11_lumps_115 : decode cX11_lumps 115 = .ok (.iload_n 1, 1) := by decide +kernel
theorem dX11_lumps_116 : decode cX11_lumps 116 = .ok (.imul, 1) := by decide +kernel
theorem dX11_lumps_117 : decode cX11_lumps 117 = .ok (.iload_n 2, 1) := by decide +kernel
theorem dX11_lumps_118 : decode cX11_lumps 118 = .ok (.iadd, 1) := by decide +kernel
theorem dX11_lumps_119 : decode cX11_lumps 119 = .ok (.iconst 4, 1) := by decide +kernel
theorem dX11_lumps_120 : decode cX11_lumps 120 = .ok (.iload 4, 2) := by decide +kernel
theorem dX11_lumps_122 : decode cX11_lumps 122 = .ok (.imul, 1) := by decide +kernel
theorem dX11_lumps_123 : decode cX11_lumps 123 = .ok (.iadd, 1) := by decide +kernel
theorem dX11_lumps_124 : decode cX11_lumps 124 = .ok (.istore 6, 2) := by decide +kernel
theorem dX11_lumps_126 : decode cX11_lumps 126 = .ok (.iload 5, 2) := by decide +kernel
theorem dX11_lumps_128 : decode cX11_lumps 128 = .ok (.ifCond .eq 47, 3) := by decide +kernel
theorem dX11_lumps_131 : decode cX11_lumps 131 = .ok (.aload_n 0, 1) := by decide +kernel
theorem dX11_lumps_132 : decode cX11_lumps 132 = .ok (.getfield 82, 3) := by decide +kernel
theorem dX11_lumps_135 : decode cX11_lumps 135 = .ok (.iload 6, 2) := by decide +kernel
theorem dX11_lumps_137 : decode cX11_lumps 137 = .ok (.laload, 1) := by decide +kernel
theorem dX11_lumps_138 : decode cX11_lumps 138 = .ok (.aload_n 0, 1) := by decide +kernel
theorem dX11_lumps_139 : decode cX11_lumps 139 = .ok (.getfield 82, 3) := by decide +kernel
theorem dX11_lumps_142 : decode cX11_lumps 142 = .ok (.iload 6, 2) := by decide +kernel
theorem dX11_lumps_144 : decode cX11_lumps 144 = .ok (.iconst 1, 1) := by decide +kernel
theorem dX11_lumps_145 : decode cX11_lumps 145 = .ok (.iadd, 1) := by decide +kernel
theorem dX11_lumps_146 : decode cX11_lumps 146 = .ok (.laload, 1) := by decide +kernel
theorem dX11_lumps_147 : decode cX11_lumps 147 = .ok (.aload_n 0, 1) := by decide +kernel
theorem dX11_lumps_148 : decode cX11_lumps 148 = .ok (.getfield 82, 3) := by decide +kernel
theorem dX11_lumps_151 : decode cX11_lumps 151 = .ok (.iload 6, 2) := by decide +kernel
theorem dX11_lumps_153 : decode cX11_lumps 153 = .ok (.iconst 2, 1) := by decide +kernel
theorem dX11_lumps_154 : decode cX11_lumps 154 = .ok (.iadd, 1) := by decide +kernel
theorem dX11_lumps_155 : decode cX11_lumps 155 = .ok (.laload, 1) := by decide +kernel
theorem dX11_lumps_156 : decode cX11_lumps 156 = .ok (.aload_n 0, 1) := by decide +kernel
theorem dX11_lumps_157 : decode cX11_lumps 157 = .ok (.getfield 82, 3) := by decide +kernel
theorem dX11_lumps_160 : decode cX11_lumps 160 = .ok (.iload 6, 2) := by decide +kernel
theorem dX11_lumps_162 : decode cX11_lumps 162 = .ok (.iconst 3, 1) := by decide +kernel
theorem dX11_lumps_163 : decode cX11_lumps 163 = .ok (.iadd, 1) := by decide +kernel
theorem dX11_lumps_164 : decode cX11_lumps 164 = .ok (.laload, 1) := by decide +kernel
theorem dX11_lumps_165 : decode cX11_lumps 165 = .ok (.invokestatic 118, 3) := by decide +kernel
theorem dX11_lumps_168 : decode cX11_lumps 168 = .ok (.ifCond .eq 7, 3) := by decide +kernel
theorem dX11_lumps_171 : decode cX11_lumps 171 = .ok (.iconst 1, 1) := by decide +kernel
theorem dX11_lumps_172 : decode cX11_lumps 172 = .ok (.goto 4, 3) := by decide +kernel
theorem dX11_lumps_175 : decode cX11_lumps 175 = .ok (.iconst 0, 1) := by decide +kernel
theorem dX11_lumps_176 : decode cX11_lumps 176 = .ok (.istore 5, 2) := by decide +kernel
theorem dX11_lumps_178 : decode cX11_lumps 178 = .ok (.iload 5, 2) := by decide +kernel
theorem dX11_lumps_180 : decode cX11_lumps 180 = .ok (.ifCond .eq 48, 3) := by decide +kernel
theorem dX11_lumps_183 : decode cX11_lumps 183 = .ok (.aload_n 0, 1) := by decide +kernel
theorem dX11_lumps_184 : decode cX11_lumps 184 = .ok (.aload_n 0, 1) := by decide +kernel
theorem dX11_lumps_185 : decode cX11_lumps 185 = .ok (.getfield 82, 3) := by decide +kernel
theorem dX11_lumps_188 : decode cX11_lumps 188 = .ok (.iload 6, 2) := by decide +kernel
theorem dX11_lumps_190 : decode cX11_lumps 190 = .ok (.laload, 1) := by decide +kernel
theorem dX11_lumps_191 : decode cX11_lumps 191 = .ok (.l2i, 1) := by decide +kernel
theorem dX11_lumps_192 : decode cX11_lumps 192 = .ok (.aload_n 0, 1) := by decide +kernel
theorem dX11_lumps_193 : decode cX11_lumps 193 = .ok (.getfield 82, 3) := by decide +kernel
theorem dX11_lumps_196 : decode cX11_lumps 196 = .ok (.iload 6, 2) := by decide +kernel
theorem dX11_lumps_198 : decode cX11_lumps 198 = .ok (.iconst 1, 1) := by decide +kernel
theorem dX11_lumps_199 : decode cX11_lumps 199 = .ok (.iadd, 1) := by decide +kernel
theorem dX11_lumps_200 : decode cX11_lumps 200 = .ok (.laload, 1) := by decide +kernel
theorem dX11_lumps_201 : decode cX11_lumps 201 = .ok (.l2i, 1) := by decide +kernel
theorem dX11_lumps_202 : decode cX11_lumps 202 = .ok (.aload_n 0, 1) := by decide +kernel
theorem dX11_lumps_203 : decode cX11_lumps 203 = .ok (.getfield 82, 3) := by decide +kernel
theorem dX11_lumps_206 : decode cX11_lumps 206 = .ok (.iload 6, 2) := by decide +kernel
theorem dX11_lumps_208 : decode cX11_lumps 208 = .ok (.iconst 2, 1) := by decide +kernel
theorem dX11_lumps_209 : decode cX11_lumps 209 = .ok (.iadd, 1) := by decide +kernel
theorem dX11_lumps_210 : decode cX11_lumps 210 = .ok (.laload, 1) := by decide +kernel
theorem dX11_lumps_211 : decode cX11_lumps 211 = .ok (.l2i, 1) := by decide +kernel
theorem dX11_lumps_212 : decode cX11_lumps 212 = .ok (.aload_n 0, 1) := by decide +kernel
theorem dX11_lumps_213 : decode cX11_lumps 213 = .ok (.getfield 82, 3) := by decide +kernel
theorem dX11_lumps_216 : decode cX11_lumps 216 = .ok (.iload 6, 2) := by decide +kernel
theorem dX11_lumps_218 : decode cX11_lumps 218 = .ok (.iconst 3, 1) := by decide +kernel
theorem dX11_lumps_219 : decode cX11_lumps 219 = .ok (.iadd, 1) := by decide +kernel
theorem dX11_lumps_220 : decode cX11_lumps 220 = .ok (.laload, 1) := by decide +kernel
theorem dX11_lumps_221 : decode cX11_lumps 221 = .ok (.l2i, 1) := by decide +kernel
theorem dX11_lumps_222 : decode cX11_lumps 222 = .ok (.invokevirtual 122, 3) := by decide +kernel
theorem dX11_lumps_225 : decode cX11_lumps 225 = .ok (.iinc 4 1, 3) := by decide +kernel
theorem dX11_lumps_228 : decode cX11_lumps 228 = .ok (.goto (-159), 3) := by decide +kernel
theorem dX11_lumps_231 : decode cX11_lumps 231 = .ok (.iload 4, 2) := by decide +kernel
theorem dX11_lumps_233 : decode cX11_lumps 233 = .ok (.ireturn, 1) := by decide +kernel
theorem dX11_mend_0 : decode cX11_mend 0 = .ok (.aload_n 0, 1) := by decide +kernel
theorem dX11_mend_1 : decode cX11_mend 1 = .ok (.iload_n 1, 1) := by decide +kernel
theorem dX11_mend_2 : decode cX11_mend 2 = .ok (.invokevirtual 132, 3) := by decide +kernel
theorem dX11_mend_5 : decode cX11_mend 5 = .ok (.ifCond .eq 15, 3) := by decide +kernel
theorem dX11_mend_8 : decode cX11_mend 8 = .ok (.iload_n 2, 1) := by decide +kernel
theorem dX11_mend_9 : decode cX11_mend 9 = .ok (.i2l, 1) := by decide +kernel
theorem dX11_mend_10 : decode cX11_mend 10 = .ok (.lconst 0, 1) := by decide +kernel
theorem dX11_mend_11 : decode cX11_mend 11 = .ok (.ldc2_w 135, 3) := by decide +kernel
theorem dX11_mend_14 : decode cX11_mend 14 = .ok (.invokestatic 106, 3) := by decide +kernel
theorem dX11_mend_17 : decode cX11_mend 17 = .ok (.ifCond .ne 5, 3) := by decide +kernel
theorem dX11_mend_20 : decode cX11_mend 20 = .ok (.iconst (-1), 1) := by decide +kernel
theorem dX11_mend_21 : decode cX11_mend 21 = .ok (.ireturn, 1) := by decide +kernel
theorem dX11_mend_22 : decode cX11_mend 22 = .ok (.iload_n 2, 1) := by decide +kernel
theorem dX11_mend_23 : decode cX11_mend 23 = .ok (.ifCond .ne 15, 3) := by decide +kernel
theorem dX11_mend_26 : decode cX11_mend 26 = .ok (.iload_n 3, 1) := by decide +kernel
theorem dX11_mend_27 : decode cX11_mend 27 = .ok (.i2l, 1) := by decide +kernel
theorem dX11_mend_28 : decode cX11_mend 28 = .ok (.lconst 1, 1) := by decide +kernel
theorem dX11_mend_29 : decode cX11_mend 29 = .ok (.ldc2_w 110, 3) := by decide +kernel
theorem dX11_mend_32 : decode cX11_mend 32 = .ok (.invokestatic 106, 3) := by decide +kernel
theorem dX11_mend_35 : decode cX11_mend 35 = .ok (.goto 23, 3) := by decide +kernel
theorem dX11_mend_38 : decode cX11_mend 38 = .ok (.iload_n 3, 1) := by decide +kernel
theorem dX11_mend_39 : decode cX11_mend 39 = .ok (.i2l, 1) := by decide +kernel
theorem dX11_mend_40 : decode cX11_mend 40 = .ok (.lconst 0, 1) := by decide +kernel
theorem dX11_mend_41 : decode cX11_mend 41 = .ok (.iload_n 2, 1) := by decide +kernel
theorem dX11_mend_42 : decode cX11_mend 42 = .ok (.iconst 1, 1) := by decide +kernel
theorem dX11_mend_43 : decode cX11_mend 43 = .ok (.if_icmp .ne 9, 3) := by decide +kernel
theorem dX11_mend_46 : decode cX11_mend 46 = .ok (.ldc2_w 112, 3) := by decide +kernel
theorem dX11_mend_49 : decode cX11_mend 49 = .ok (.goto 6, 3) := by decide +kernel
theorem dX11_mend_52 : decode cX11_mend 52 = .ok (.ldc2_w 114, 3) := by decide +kernel
theorem dX11_mend_55 : decode cX11_mend 55 = .ok (.invokestatic 106, 3) := by decide +kernel
theorem dX11_mend_58 : decode cX11_mend 58 = .ok (.istore 4, 2) := by decide +kernel
theorem dX11_mend_60 : decode cX11_mend 60 = .ok (.iload 4, 2) := by decide +kernel
theorem dX11_mend_62 : decode cX11_mend 62 = .ok (.ifCond .eq 17, 3) := by decide +kernel
theorem dX11_mend_65 : decode cX11_mend 65 = .ok (.aload_n 0, 1) := by decide +kernel
theorem dX11_mend_66 : decode cX11_mend 66 = .ok (.bipush 12, 2) := by decide +kernel
theorem dX11_mend_68 : decode cX11_mend 68 = .ok (.iload_n 2, 1) := by decide +kernel
theorem dX11_mend_69 : decode cX11_mend 69 = .ok (.imul, 1) := by decide +kernel
theorem dX11_mend_70 : decode cX11_mend 70 = .ok (.iload_n 1, 1) := by decide +kernel
theorem dX11_mend_71 : decode cX11_mend 71 = .ok (.iadd, 1) := by decide +kernel
theorem dX11_mend_72 : decode cX11_mend 72 = .ok (.iload_n 3, 1) := by decide +kernel
theorem dX11_mend_73 : decode cX11_mend 73 = .ok (.invokevirtual 137, 3) := by decide +kernel
theorem dX11_mend_76 : decode cX11_mend 76 = .ok (.goto 4, 3) := by decide +kernel
theorem dX11_mend_79 : decode cX11_mend 79 = .ok (.iconst (-1), 1) := by decide +kernel
theorem dX11_mend_80 : decode cX11_mend 80 = .ok (.ireturn, 1) := by decide +kernel
theorem dX11_of_0 : decode cX11_of 0 = .ok (.aload_n 0, 1) := by decide +kernel
theorem dX11_of_1 : decode cX11_of 1 = .ok (.iload_n 1, 1) := by decide +kernel
theorem dX11_of_2 : decode cX11_of 2 = .ok (.invokevirtual 132, 3) := by decide +kernel
theorem dX11_of_5 : decode cX11_of 5 = .ok (.ifCond .eq 43, 3) := by decide +kernel
theorem dX11_of_8 : decode cX11_of 8 = .ok (.iload_n 2, 1) := by decide +kernel
theorem dX11_of_9 : decode cX11_of 9 = .ok (.i2l, 1) := by decide +kernel
theorem dX11_of_10 : decode cX11_of 10 = .ok (.lconst 0, 1) := by decide +kernel
theorem dX11_of_11 : decode cX11_of 11 = .ok (.ldc2_w 141, 3) := by decide +kernel
theorem dX11_of_14 : decode cX11_of 14 = .ok (.invokestatic 106, 3) := by decide +kernel
theorem dX11_of_17 : decode cX11_of 17 = .ok (.ifCond .eq 31, 3) := by decide +kernel
theorem dX11_of_20 : decode cX11_of 20 = .ok (.iload_n 2, 1) := by decide +kernel
theorem dX11_of_21 : decode cX11_of 21 = .ok (.iconst 3, 1) := by decide +kernel
theorem dX11_of_22 : decode cX11_of 22 = .ok (.if_icmp .ne 12, 3) := by decide +kernel
theorem dX11_of_25 : decode cX11_of 25 = .ok (.aload_n 0, 1) := by decide +kernel
theorem dX11_of_26 : decode cX11_of 26 = .ok (.getfield 22, 3) := by decide +kernel
theorem dX11_of_29 : decode cX11_of 29 = .ok (.iload_n 1, 1) := by decide +kernel
theorem dX11_of_30 : decode cX11_of 30 = .ok (.iaload, 1) := by decide +kernel
theorem dX11_of_31 : decode cX11_of 31 = .ok (.goto 18, 3) := by decide +kernel
theorem dX11_of_34 : decode cX11_of 34 = .ok (.aload_n 0, 1) := by decide +kernel
theorem dX11_of_35 : decode cX11_of 35 = .ok (.getfield 9, 3) := by decide +kernel
theorem dX11_of_38 : decode cX11_of 38 = .ok (.bipush 12, 2) := by decide +kernel
theorem dX11_of_40 : decode cX11_of 40 = .ok (.iload_n 2, 1) := by decide +kernel
theorem dX11_of_41 : decode cX11_of 41 = .ok (.imul, 1) := by decide +kernel
theorem dX11_of_42 : decode cX11_of 42 = .ok (.iload_n 1, 1) := by decide +kernel
theorem dX11_of_43 : decode cX11_of 43 = .ok (.iadd, 1) := by decide +kernel
theorem dX11_of_44 : decode cX11_of 44 = .ok (.iaload, 1) := by decide +kernel
theorem dX11_of_45 : decode cX11_of 45 = .ok (.goto 4, 3) := by decide +kernel
theorem dX11_of_48 : decode cX11_of 48 = .ok (.iconst (-1), 1) := by decide +kernel
theorem dX11_of_49 : decode cX11_of 49 = .ok (.ireturn, 1) := by decide +kernel
theorem dX11_counter_0 : decode cX11_counter 0 = .ok (.iload_n 1, 1) := by decide +kernel
theorem dX11_counter_1 : decode cX11_counter 1 = .ok (.i2l, 1) := by decide +kernel
theorem dX11_counter_2 : decode cX11_counter 2 = .ok (.lconst 0, 1) := by decide +kernel
theorem dX11_counter_3 : decode cX11_counter 3 = .ok (.ldc2_w 143, 3) := by decide +kernel
theorem dX11_counter_6 : decode cX11_counter 6 = .ok (.invokestatic 106, 3) := by decide +kernel
theorem dX11_counter_9 : decode cX11_counter 9 = .ok (.ifCond .eq 22, 3) := by decide +kernel
theorem dX11_counter_12 : decode cX11_counter 12 = .ok (.iload_n 1, 1) := by decide +kernel
theorem dX11_counter_13 : decode cX11_counter 13 = .ok (.bipush 100, 2) := by decide +kernel
theorem dX11_counter_15 : decode cX11_counter 15 = .ok (.irem, 1) := by decide +kernel
theorem dX11_counter_16 : decode cX11_counter 16 = .ok (.bipush 12, 2) := by decide +kernel
theorem dX11_counter_18 : decode cX11_counter 18 = .ok (.if_icmp .ge 13, 3) := by decide +kernel
theorem dX11_counter_21 : decode cX11_counter 21 = .ok (.aload_n 0, 1) := by decide +kernel
theorem dX11_counter_22 : decode cX11_counter 22 = .ok (.bipush 36, 2) := by decide +kernel
theorem dX11_counter_24 : decode cX11_counter 24 = .ok (.iload_n 1, 1) := by decide +kernel
theorem dX11_counter_25 : decode cX11_counter 25 = .ok (.invokevirtual 137, 3) := by decide +kernel
theorem dX11_counter_28 : decode cX11_counter 28 = .ok (.goto 4, 3) := by decide +kernel
theorem dX11_counter_31 : decode cX11_counter 31 = .ok (.iconst (-1), 1) := by decide +kernel
theorem dX11_counter_32 : decode cX11_counter 32 = .ok (.ireturn, 1) := by decide +kernel
theorem dX11_set_0 : decode cX11_set 0 = .ok (.iload_n 1, 1) := by decide +kernel
theorem dX11_set_1 : decode cX11_set 1 = .ok (.ifCond .ne 17, 3) := by decide +kernel
theorem dX11_set_4 : decode cX11_set 4 = .ok (.iload_n 2, 1) := by decide +kernel
theorem dX11_set_5 : decode cX11_set 5 = .ok (.i2l, 1) := by decide +kernel
theorem dX11_set_6 : decode cX11_set 6 = .ok (.ldc2_w 145, 3) := by decide +kernel
theorem dX11_set_9 : decode cX11_set 9 = .ok (.ldc2_w 147, 3) := by decide +kernel
theorem dX11_set_12 : decode cX11_set 12 = .ok (.invokestatic 106, 3) := by decide +kernel
theorem dX11_set_15 : decode cX11_set 15 = .ok (.goto 64, 3) := by decide +kernel
theorem dX11_set_18 : decode cX11_set 18 = .ok (.iload_n 1, 1) := by decide +kernel
theorem dX11_set_19 : decode cX11_set 19 = .ok (.iconst 1, 1) := by decide +kernel
theorem dX11_set_20 : decode cX11_set 20 = .ok (.if_icmp .eq 8, 3) := by decide +kernel
theorem dX11_set_23 : decode cX11_set 23 = .ok (.iload_n 1, 1) := by decide +kernel
theorem dX11_set_24 : decode cX11_set 24 = .ok (.iconst 4, 1) := by decide +kernel
theorem dX11_set_25 : decode cX11_set 25 = .ok (.if_icmp .ne 15, 3) := by decide +kernel
theorem dX11_set_28 : decode cX11_set 28 = .ok (.iload_n 2, 1) := by decide +kernel
theorem dX11_set_29 : decode cX11_set 29 = .ok (.i2l, 1) := by decide +kernel
theorem dX11_set_30 : decode cX11_set 30 = .ok (.lconst 1, 1) := by decide +kernel
theorem dX11_set_31 : decode cX11_set 31 = .ok (.ldc2_w 143, 3) := by decide +kernel
theorem dX11_set_34 : decode cX11_set 34 = .ok (.invokestatic 106, 3) := by decide +kernel
theorem dX11_set_37 : decode cX11_set 37 = .ok (.goto 42, 3) := by decide +kernel
theorem dX11_set_40 : decode cX11_set 40 = .ok (.iload_n 1, 1) := by decide +kernel
theorem dX11_set_41 : decode cX11_set 41 = .ok (.iconst 2, 1) := by decide +kernel
theorem dX11_set_42 : decode cX11_set 42 = .ok (.if_icmp .ne 15, 3) := by decide +kernel
theorem dX11_set_45 : decode cX11_set 45 = .ok (.iload_n 2, 1) := by decide +kernel
theorem dX11_set_46 : decode cX11_set 46 = .ok (.i2l, 1) := by decide +kernel
theorem dX11_set_47 : decode cX11_set 47 = .ok (.lconst 0, 1) := by decide +kernel
theorem dX11_set_48 : decode cX11_set 48 = .ok (.ldc2_w 116, 3) := by decide +kernel
theorem dX11_set_51 : decode cX11_set 51 = .ok (.invokestatic 106, 3) := by decide +kernel
theorem dX11_set_54 : decode cX11_set 54 = .ok (.goto 25, 3) := by decide +kernel
theorem dX11_set_57 : decode cX11_set 57 = .ok (.iload_n 1, 1) := by decide +kernel
theorem dX11_set_58 : decode cX11_set 58 = .ok (.iconst 3, 1) := by decide +kernel
theorem dX11_set_59 : decode cX11_set 59 = .ok (.if_icmp .ne 19, 3) := by decide +kernel
theorem dX11_set_62 : decode cX11_set 62 = .ok (.iload_n 2, 1) := by decide +kernel
theorem dX11_set_63 : decode cX11_set 63 = .ok (.i2l, 1) := by decide +kernel
theorem dX11_set_64 : decode cX11_set 64 = .ok (.lconst 0, 1) := by decide +kernel
theorem dX11_set_65 : decode cX11_set 65 = .ok (.ldc2_w 110, 3) := by decide +kernel
theorem dX11_set_68 : decode cX11_set 68 = .ok (.invokestatic 106, 3) := by decide +kernel
theorem dX11_set_71 : decode cX11_set 71 = .ok (.ifCond .eq 7, 3) := by decide +kernel
theorem dX11_set_74 : decode cX11_set 74 = .ok (.iconst 1, 1) := by decide +kernel
theorem dX11_set_75 : decode cX11_set 75 = .ok (.goto 4, 3) := by decide +kernel
theorem dX11_set_78 : decode cX11_set 78 = .ok (.iconst 0, 1) := by decide +kernel
theorem dX11_set_79 : decode cX11_set 79 = .ok (.istore_n 3, 1) := by decide +kernel
theorem dX11_set_80 : decode cX11_set 80 = .ok (.iload_n 3, 1) := by decide +kernel
theorem dX11_set_81 : decode cX11_set 81 = .ok (.ifCond .ne 5, 3) := by decide +kernel
theorem dX11_set_84 : decode cX11_set 84 = .ok (.iconst (-1), 1) := by decide +kernel
theorem dX11_set_85 : decode cX11_set 85 = .ok (.ireturn, 1) := by decide +kernel
theorem dX11_set_86 : decode cX11_set 86 = .ok (.aload_n 0, 1) := by decide +kernel
theorem dX11_set_87 : decode cX11_set 87 = .ok (.getfield 25, 3) := by decide +kernel
theorem dX11_set_90 : decode cX11_set 90 = .ok (.iload_n 1, 1) := by decide +kernel
theorem dX11_set_91 : decode cX11_set 91 = .ok (.iaload, 1) := by decide +kernel
theorem dX11_set_92 : decode cX11_set 92 = .ok (.istore 4, 2) := by decide +kernel
theorem dX11_set_94 : decode cX11_set 94 = .ok (.aload_n 0, 1) := by decide +kernel
theorem dX11_set_95 : decode cX11_set 95 = .ok (.getfield 25, 3) := by decide +kernel
theorem dX11_set_98 : decode cX11_set 98 = .ok (.iload_n 1, 1) := by decide +kernel
theorem dX11_set_99 : decode cX11_set 99 = .ok (.iload_n 2, 1) := by decide +kernel
theorem dX11_set_100 : decode cX11_set 100 = .ok (.iastore, 1) := by decide +kernel
theorem dX11_set_101 : decode cX11_set 101 = .ok (.iload 4, 2) := by decide +kernel
theorem dX11_set_103 : decode cX11_set 103 = .ok (.ireturn, 1) := by decide +kernel
theorem dX11_floor_0 : decode cX11_floor 0 = .ok (.iload_n 1, 1) := by decide +kernel
theorem dX11_floor_1 : decode cX11_floor 1 = .ok (.i2l, 1) := by decide +kernel
theorem dX11_floor_2 : decode cX11_floor 2 = .ok (.lconst 1, 1) := by decide +kernel
theorem dX11_floor_3 : decode cX11_floor 3 = .ok (.ldc2_w 149, 3) := by decide +kernel
theorem dX11_floor_6 : decode cX11_floor 6 = .ok (.invokestatic 106, 3) := by decide +kernel
theorem dX11_floor_9 : decode cX11_floor 9 = .ok (.ifCond .eq 25, 3) := by decide +kernel
theorem dX11_floor_12 : decode cX11_floor 12 = .ok (.iload_n 2, 1) := by decide +kernel
theorem dX11_floor_13 : decode cX11_floor 13 = .ok (.ifCond .lt 21, 3) := by decide +kernel
theorem dX11_floor_16 : decode cX11_floor 16 = .ok (.iload_n 2, 1) := by decide +kernel
theorem dX11_floor_17 : decode cX11_floor 17 = .ok (.bipush 100, 2) := by decide +kernel
theorem dX11_floor_19 : decode cX11_floor 19 = .ok (.idiv, 1) := by decide +kernel
theorem dX11_floor_20 : decode cX11_floor 20 = .ok (.bipush 18, 2) := by decide +kernel
theorem dX11_floor_22 : decode cX11_floor 22 = .ok (.if_icmp .gt 12, 3) := by decide +kernel
theorem dX11_floor_25 : decode cX11_floor 25 = .ok (.iload_n 2, 1) := by decide +kernel
theorem dX11_floor_26 : decode cX11_floor 26 = .ok (.bipush 100, 2) := by decide +kernel
theorem dX11_floor_28 : decode cX11_floor 28 = .ok (.irem, 1) := by decide +kernel
theorem dX11_floor_29 : decode cX11_floor 29 = .ok (.bipush 18, 2) := by decide +kernel
theorem dX11_floor_31 : decode cX11_floor 31 = .ok (.if_icmp .le 5, 3) := by decide +kernel
theorem dX11_floor_34 : decode cX11_floor 34 = .ok (.iconst (-1), 1) := by decide +kernel
theorem dX11_floor_35 : decode cX11_floor 35 = .ok (.ireturn, 1) := by decide +kernel
theorem dX11_floor_36 : decode cX11_floor 36 = .ok (.aload_n 0, 1) := by decide +kernel
theorem dX11_floor_37 : decode cX11_floor 37 = .ok (.getfield 151, 3) := by decide +kernel
theorem dX11_floor_40 : decode cX11_floor 40 = .ok (.iconst 4, 1) := by decide +kernel
theorem dX11_floor_41 : decode cX11_floor 41 = .ok (.if_icmp .ne 6, 3) := by decide +kernel
theorem dX11_floor_44 : decode cX11_floor 44 = .ok (.bipush (-3), 2) := by decide +kernel
theorem dX11_floor_46 : decode cX11_floor 46 = .ok (.ireturn, 1) := by decide +kernel
theorem dX11_floor_47 : decode cX11_floor 47 = .ok (.aload_n 0, 1) := by decide +kernel
theorem dX11_floor_48 : decode cX11_floor 48 = .ok (.getfield 28, 3) := by decide +kernel
theorem dX11_floor_51 : decode cX11_floor 51 = .ok (.aload_n 0, 1) := by decide +kernel
theorem dX11_floor_52 : decode cX11_floor 52 = .ok (.getfield 151, 3) := by decide +kernel
theorem dX11_floor_55 : decode cX11_floor 55 = .ok (.iload_n 1, 1) := by decide +kernel
theorem dX11_floor_56 : decode cX11_floor 56 = .ok (.iastore, 1) := by decide +kernel
theorem dX11_floor_57 : decode cX11_floor 57 = .ok (.aload_n 0, 1) := by decide +kernel
theorem dX11_floor_58 : decode cX11_floor 58 = .ok (.getfield 31, 3) := by decide +kernel
theorem dX11_floor_61 : decode cX11_floor 61 = .ok (.aload_n 0, 1) := by decide +kernel
theorem dX11_floor_62 : decode cX11_floor 62 = .ok (.getfield 151, 3) := by decide +kernel
theorem dX11_floor_65 : decode cX11_floor 65 = .ok (.iload_n 2, 1) := by decide +kernel
theorem dX11_floor_66 : decode cX11_floor 66 = .ok (.bipush 100, 2) := by decide +kernel
theorem dX11_floor_68 : decode cX11_floor 68 = .ok (.idiv, 1) := by decide +kernel
theorem dX11_floor_69 : decode cX11_floor 69 = .ok (.bipush 9, 2) := by decide +kernel
theorem dX11_floor_71 : decode cX11_floor 71 = .ok (.isub, 1) := by decide +kernel
theorem dX11_floor_72 : decode cX11_floor 72 = .ok (.iastore, 1) := by decide +kernel
theorem dX11_floor_73 : decode cX11_floor 73 = .ok (.aload_n 0, 1) := by decide +kernel
theorem dX11_floor_74 : decode cX11_floor 74 = .ok (.getfield 34, 3) := by decide +kernel
theorem dX11_floor_77 : decode cX11_floor 77 = .ok (.aload_n 0, 1) := by decide +kernel
theorem dX11_floor_78 : decode cX11_floor 78 = .ok (.getfield 151, 3) := by decide +kernel
theorem dX11_floor_81 : decode cX11_floor 81 = .ok (.iload_n 2, 1) := by decide +kernel
theorem dX11_floor_82 : decode cX11_floor 82 = .ok (.bipush 100, 2) := by decide +kernel
theorem dX11_floor_84 : decode cX11_floor 84 = .ok (.irem, 1) := by decide +kernel
theorem dX11_floor_85 : decode cX11_floor 85 = .ok (.bipush 9, 2) := by decide +kernel
theorem dX11_floor_87 : decode cX11_floor 87 = .ok (.isub, 1) := by decide +kernel
theorem dX11_floor_88 : decode cX11_floor 88 = .ok (.iastore, 1) := by decide +kernel
theorem dX11_floor_89 : decode cX11_floor 89 = .ok (.aload_n 0, 1) := by decide +kernel
theorem dX11_floor_90 : decode cX11_floor 90 = .ok (.dup, 1) := by decide +kernel
theorem dX11_floor_91 : decode cX11_floor 91 = .ok (.getfield 151, 3) := by decide +kernel
theorem dX11_floor_94 : decode cX11_floor 94 = .ok (.iconst 1, 1) := by decide +kernel
theorem dX11_floor_95 : decode cX11_floor 95 = .ok (.iadd, 1) := by decide +kernel
theorem dX11_floor_96 : decode cX11_floor 96 = .ok (.putfield 151, 3) := by decide +kernel
theorem dX11_floor_99 : decode cX11_floor 99 = .ok (.aload_n 0, 1) := by decide +kernel
theorem dX11_floor_100 : decode cX11_floor 100 = .ok (.getfield 151, 3) := by decide +kernel
theorem dX11_floor_103 : decode cX11_floor 103 = .ok (.iconst 1, 1) := by decide +kernel
theorem dX11_floor_104 : decode cX11_floor 104 = .ok (.isub, 1) := by decide +kernel
theorem dX11_floor_105 : decode cX11_floor 105 = .ok (.ireturn, 1) := by decide +kernel
theorem dX11_sumX_0 : decode cX11_sumX 0 = .ok (.aload_n 0, 1) := by decide +kernel
theorem dX11_sumX_1 : decode cX11_sumX 1 = .ok (.getfield 9, 3) := by decide +kernel
theorem dX11_sumX_4 : decode cX11_sumX 4 = .ok (.bipush 36, 2) := by decide +kernel
theorem dX11_sumX_6 : decode cX11_sumX 6 = .ok (.iaload, 1) := by decide +kernel
theorem dX11_sumX_7 : decode cX11_sumX 7 = .ok (.bipush 100, 2) := by decide +kernel
theorem dX11_sumX_9 : decode cX11_sumX 9 = .ok (.idiv, 1) := by decide +kernel
theorem dX11_sumX_10 : decode cX11_sumX 10 = .ok (.aload_n 0, 1) := by decide +kernel
theorem dX11_sumX_11 : decode cX11_sumX 11 = .ok (.getfield 9, 3) := by decide +kernel
theorem dX11_sumX_14 : decode cX11_sumX 14 = .ok (.bipush 36, 2) := by decide +kernel
theorem dX11_sumX_16 : decode cX11_sumX 16 = .ok (.iaload, 1) := by decide +kernel
theorem dX11_sumX_17 : decode cX11_sumX 17 = .ok (.bipush 100, 2) := by decide +kernel
theorem dX11_sumX_19 : decode cX11_sumX 19 = .ok (.irem, 1) := by decide +kernel
theorem dX11_sumX_20 : decode cX11_sumX 20 = .ok (.invokestatic 99, 3) := by decide +kernel
theorem dX11_sumX_23 : decode cX11_sumX 23 = .ok (.imul, 1) := by decide +kernel
theorem dX11_sumX_24 : decode cX11_sumX 24 = .ok (.bipush 10, 2) := by decide +kernel
theorem dX11_sumX_26 : decode cX11_sumX 26 = .ok (.idiv, 1) := by decide +kernel
theorem dX11_sumX_27 : decode cX11_sumX 27 = .ok (.istore_n 1, 1) := by decide +kernel
theorem dX11_sumX_28 : decode cX11_sumX 28 = .ok (.iconst 0, 1) := by decide +kernel
theorem dX11_sumX_29 : decode cX11_sumX 29 = .ok (.istore_n 2, 1) := by decide +kernel
theorem dX11_sumX_30 : decode cX11_sumX 30 = .ok (.iload_n 2, 1) := by decide +kernel
theorem dX11_sumX_31 : decode cX11_sumX 31 = .ok (.aload_n 0, 1) := by decide +kernel
theorem dX11_sumX_32 : decode cX11_sumX 32 = .ok (.getfield 103, 3) := by decide +kernel
theorem dX11_sumX_35 : decode cX11_sumX 35 = .ok (.if_icmp .ge 44, 3) := by decide +kernel
theorem dX11_sumX_38 : decode cX11_sumX 38 = .ok (.iload_n 1, 1) := by decide +kernel
theorem dX11_sumX_39 : decode cX11_sumX 39 = .ok (.aload_n 0, 1) := by decide +kernel
theorem dX11_sumX_40 : decode cX11_sumX 40 = .ok (.getfield 9, 3) := by decide +kernel
theorem dX11_sumX_43 : decode cX11_sumX 43 = .ok (.iload_n 2, 1) := by decide +kernel
theorem dX11_sumX_44 : decode cX11_sumX 44 = .ok (.iaload, 1) := by decide +kernel
theorem dX11_sumX_45 : decode cX11_sumX 45 = .ok (.aload_n 0, 1) := by decide +kernel
theorem dX11_sumX_46 : decode cX11_sumX 46 = .ok (.getfield 9, 3) := by decide +kernel
theorem dX11_sumX_49 : decode cX11_sumX 49 = .ok (.bipush 12, 2) := by decide +kernel
theorem dX11_sumX_51 : decode cX11_sumX 51 = .ok (.iload_n 2, 1) := by decide +kernel
theorem dX11_sumX_52 : decode cX11_sumX 52 = .ok (.iadd, 1) := by decide +kernel
theorem dX11_sumX_53 : decode cX11_sumX 53 = .ok (.iaload, 1) := by decide +kernel
theorem dX11_sumX_54 : decode cX11_sumX 54 = .ok (.iadd, 1) := by decide +kernel
theorem dX11_sumX_55 : decode cX11_sumX 55 = .ok (.aload_n 0, 1) := by decide +kernel
theorem dX11_sumX_56 : decode cX11_sumX 56 = .ok (.getfield 9, 3) := by decide +kernel
theorem dX11_sumX_59 : decode cX11_sumX 59 = .ok (.bipush 24, 2) := by decide +kernel
theorem dX11_sumX_61 : decode cX11_sumX 61 = .ok (.iload_n 2, 1) := by decide +kernel
theorem dX11_sumX_62 : decode cX11_sumX 62 = .ok (.iadd, 1) := by decide +kernel
theorem dX11_sumX_63 : decode cX11_sumX 63 = .ok (.iaload, 1) := by decide +kernel
theorem dX11_sumX_64 : decode cX11_sumX 64 = .ok (.invokestatic 99, 3) := by decide +kernel
theorem dX11_sumX_67 : decode cX11_sumX 67 = .ok (.imul, 1) := by decide +kernel
theorem dX11_sumX_68 : decode cX11_sumX 68 = .ok (.bipush 10, 2) := by decide +kernel
theorem dX11_sumX_70 : decode cX11_sumX 70 = .ok (.idiv, 1) := by decide +kernel
theorem dX11_sumX_71 : decode cX11_sumX 71 = .ok (.iadd, 1) := by decide +kernel
theorem dX11_sumX_72 : decode cX11_sumX 72 = .ok (.istore_n 1, 1) := by decide +kernel
theorem dX11_sumX_73 : decode cX11_sumX 73 = .ok (.iinc 2 1, 3) := by decide +kernel
theorem dX11_sumX_76 : decode cX11_sumX 76 = .ok (.goto (-46), 3) := by decide +kernel
theorem dX11_sumX_79 : decode cX11_sumX 79 = .ok (.iload_n 1, 1) := by decide +kernel
theorem dX11_sumX_80 : decode cX11_sumX 80 = .ok (.ireturn, 1) := by decide +kernel
theorem dX11_sumY_0 : decode cX11_sumY 0 = .ok (.aload_n 0, 1) := by decide +kernel
theorem dX11_sumY_1 : decode cX11_sumY 1 = .ok (.getfield 9, 3) := by decide +kernel
theorem dX11_sumY_4 : decode cX11_sumY 4 = .ok (.bipush 36, 2) := by decide +kernel
theorem dX11_sumY_6 : decode cX11_sumY 6 = .ok (.iaload, 1) := by decide +kernel
theorem dX11_sumY_7 : decode cX11_sumY 7 = .ok (.bipush 100, 2) := by decide +kernel
theorem dX11_sumY_9 : decode cX11_sumY 9 = .ok (.idiv, 1) := by decide +kernel
theorem dX11_sumY_10 : decode cX11_sumY 10 = .ok (.aload_n 0, 1) := by decide +kernel
theorem dX11_sumY_11 : decode cX11_sumY 11 = .ok (.getfield 9, 3) := by decide +kernel
theorem dX11_sumY_14 : decode cX11_sumY 14 = .ok (.bipush 36, 2) := by decide +kernel
theorem dX11_sumY_16 : decode cX11_sumY 16 = .ok (.iaload, 1) := by decide +kernel
theorem dX11_sumY_17 : decode cX11_sumY 17 = .ok (.bipush 100, 2) := by decide +kernel
theorem dX11_sumY_19 : decode cX11_sumY 19 = .ok (.irem, 1) := by decide +kernel
theorem dX11_sumY_20 : decode cX11_sumY 20 = .ok (.invokestatic 154, 3) := by decide +kernel
theorem dX11_sumY_23 : decode cX11_sumY 23 = .ok (.imul, 1) := by decide +kernel
theorem dX11_sumY_24 : decode cX11_sumY 24 = .ok (.bipush 10, 2) := by decide +kernel
theorem dX11_sumY_26 : decode cX11_sumY 26 = .ok (.idiv, 1) := by decide +kernel
theorem dX11_sumY_27 : decode cX11_sumY 27 = .ok (.istore_n 1, 1) := by decide +kernel
theorem dX11_sumY_28 : decode cX11_sumY 28 = .ok (.iconst 0, 1) := by decide +kernel
theorem dX11_sumY_29 : decode cX11_sumY 29 = .ok (.istore_n 2, 1) := by decide +kernel
theorem dX11_sumY_30 : decode cX11_sumY 30 = .ok (.iload_n 2, 1) := by decide +kernel
theorem dX11_sumY_31 : decode cX11_sumY 31 = .ok (.aload_n 0, 1) := by decide +kernel
theorem dX11_sumY_32 : decode cX11_sumY 32 = .ok (.getfield 103, 3) := by decide +kernel
theorem dX11_sumY_35 : decode cX11_sumY 35 = .ok (.if_icmp .ge 44, 3) := by decide +kernel
theorem dX11_sumY_38 : decode cX11_sumY 38 = .ok (.iload_n 1, 1) := by decide +kernel
theorem dX11_sumY_39 : decode cX11_sumY 39 = .ok (.aload_n 0, 1) := by decide +kernel
theorem dX11_sumY_40 : decode cX11_sumY 40 = .ok (.getfield 9, 3) := by decide +kernel
theorem dX11_sumY_43 : decode cX11_sumY 43 = .ok (.iload_n 2, 1) := by decide +kernel
theorem dX11_sumY_44 : decode cX11_sumY 44 = .ok (.iaload, 1) := by decide +kernel
theorem dX11_sumY_45 : decode cX11_sumY 45 = .ok (.aload_n 0, 1) := by decide +kernel
theorem dX11_sumY_46 : decode cX11_sumY 46 = .ok (.getfield 9, 3) := by decide +kernel
theorem dX11_sumY_49 : decode cX11_sumY 49 = .ok (.bipush 12, 2) := by decide +kernel
theorem dX11_sumY_51 : decode cX11_sumY 51 = .ok (.iload_n 2, 1) := by decide +kernel
theorem dX11_sumY_52 : decode cX11_sumY 52 = .ok (.iadd, 1) := by decide +kernel
theorem dX11_sumY_53 : decode cX11_sumY 53 = .ok (.iaload, 1) := by decide +kernel
theorem dX11_sumY_54 : decode cX11_sumY 54 = .ok (.iadd, 1) := by decide +kernel
theorem dX11_sumY_55 : decode cX11_sumY 55 = .ok (.aload_n 0, 1) := by decide +kernel
theorem dX11_sumY_56 : decode cX11_sumY 56 = .ok (.getfield 9, 3) := by decide +kernel
theorem dX11_sumY_59 : decode cX11_sumY 59 = .ok (.bipush 24, 2) := by decide +kernel
theorem dX11_sumY_61 : decode cX11_sumY 61 = .ok (.iload_n 2, 1) := by decide +kernel
theorem dX11_sumY_62 : decode cX11_sumY 62 = .ok (.iadd, 1) := by decide +kernel
theorem dX11_sumY_63 : decode cX11_sumY 63 = .ok (.iaload, 1) := by decide +kernel
theorem dX11_sumY_64 : decode cX11_sumY 64 = .ok (.invokestatic 154, 3) := by decide +kernel
theorem dX11_sumY_67 : decode cX11_sumY 67 = .ok (.imul, 1) := by decide +kernel
theorem dX11_sumY_68 : decode cX11_sumY 68 = .ok (.bipush 10, 2) := by decide +kernel
theorem dX11_sumY_70 : decode cX11_sumY 70 = .ok (.idiv, 1) := by decide +kernel
theorem dX11_sumY_71 : decode cX11_sumY 71 = .ok (.iadd, 1) := by decide +kernel
theorem dX11_sumY_72 : decode cX11_sumY 72 = .ok (.istore_n 1, 1) := by decide +kernel
theorem dX11_sumY_73 : decode cX11_sumY 73 = .ok (.iinc 2 1, 3) := by decide +kernel
theorem dX11_sumY_76 : decode cX11_sumY 76 = .ok (.goto (-46), 3) := by decide +kernel
theorem dX11_sumY_79 : decode cX11_sumY 79 = .ok (.iload_n 1, 1) := by decide +kernel
theorem dX11_sumY_80 : decode cX11_sumY 80 = .ok (.ireturn, 1) := by decide +kernel
theorem dX11_lopsided_0 : decode cX11_lopsided 0 = .ok (.aload_n 0, 1) := by decide +kernel
theorem dX11_lopsided_1 : decode cX11_lopsided 1 = .ok (.invokevirtual 157, 3) := by decide +kernel
theorem dX11_lopsided_4 : decode cX11_lopsided 4 = .ok (.invokestatic 161, 3) := by decide +kernel
theorem dX11_lopsided_7 : decode cX11_lopsided 7 = .ok (.istore_n 1, 1) := by decide +kernel
theorem dX11_lopsided_8 : decode cX11_lopsided 8 = .ok (.aload_n 0, 1) := by decide +kernel
theorem dX11_lopsided_9 : decode cX11_lopsided 9 = .ok (.invokevirtual 164, 3) := by decide +kernel
theorem dX11_lopsided_12 : decode cX11_lopsided 12 = .ok (.invokestatic 161, 3) := by decide +kernel
theorem dX11_lopsided_15 : decode cX11_lopsided 15 = .ok (.istore_n 2, 1) := by decide +kernel
theorem dX11_lopsided_16 : decode cX11_lopsided 16 = .ok (.iload_n 1, 1) := by decide +kernel
theorem dX11_lopsided_17 : decode cX11_lopsided 17 = .ok (.iload_n 2, 1) := by decide +kernel
theorem dX11_lopsided_18 : decode cX11_lopsided 18 = .ok (.if_icmp .le 7, 3) := by decide +kernel
theorem dX11_lopsided_21 : decode cX11_lopsided 21 = .ok (.iload_n 1, 1) := by decide +kernel
theorem dX11_lopsided_22 : decode cX11_lopsided 22 = .ok (.goto 4, 3) := by decide +kernel
theorem dX11_lopsided_25 : decode cX11_lopsided 25 = .ok (.iload_n 2, 1) := by decide +kernel
theorem dX11_lopsided_26 : decode cX11_lopsided 26 = .ok (.istore_n 3, 1) := by decide +kernel
theorem dX11_lopsided_27 : decode cX11_lopsided 27 = .ok (.iload_n 1, 1) := by decide +kernel
theorem dX11_lopsided_28 : decode cX11_lopsided 28 = .ok (.iload_n 2, 1) := by decide +kernel
theorem dX11_lopsided_29 : decode cX11_lopsided 29 = .ok (.if_icmp .le 7, 3) := by decide +kernel
theorem dX11_lopsided_32 : decode cX11_lopsided 32 = .ok (.iload_n 2, 1) := by decide +kernel
theorem dX11_lopsided_33 : decode cX11_lopsided 33 = .ok (.goto 4, 3) := by decide +kernel
theorem dX11_lopsided_36 : decode cX11_lopsided 36 = .ok (.iload_n 1, 1) := by decide +kernel
theorem dX11_lopsided_37 : decode cX11_lopsided 37 = .ok (.istore 4, 2) := by decide +kernel
theorem dX11_lopsided_39 : decode cX11_lopsided 39 = .ok (.iload_n 3, 1) := by decide +kernel
theorem dX11_lopsided_40 : decode cX11_lopsided 40 = .ok (.iconst 3, 1) := by decide +kernel
theorem dX11_lopsided_41 : decode cX11_lopsided 41 = .ok (.iload 4, 2) := by decide +kernel
theorem dX11_lopsided_43 : decode cX11_lopsided 43 = .ok (.imul, 1) := by decide +kernel
theorem dX11_lopsided_44 : decode cX11_lopsided 44 = .ok (.bipush 8, 2) := by decide +kernel
theorem dX11_lopsided_46 : decode cX11_lopsided 46 = .ok (.idiv, 1) := by decide +kernel
theorem dX11_lopsided_47 : decode cX11_lopsided 47 = .ok (.iadd, 1) := by decide +kernel
theorem dX11_lopsided_48 : decode cX11_lopsided 48 = .ok (.bipush 100, 2) := by decide +kernel
theorem dX11_lopsided_50 : decode cX11_lopsided 50 = .ok (.idiv, 1) := by decide +kernel
theorem dX11_lopsided_51 : decode cX11_lopsided 51 = .ok (.ireturn, 1) := by decide +kernel
theorem dX11_side_0 : decode cX11_side 0 = .ok (.aload_n 0, 1) := by decide +kernel
theorem dX11_side_1 : decode cX11_side 1 = .ok (.invokevirtual 157, 3) := by decide +kernel
theorem dX11_side_4 : decode cX11_side 4 = .ok (.istore_n 1, 1) := by decide +kernel
theorem dX11_side_5 : decode cX11_side 5 = .ok (.aload_n 0, 1) := by decide +kernel
theorem dX11_side_6 : decode cX11_side 6 = .ok (.invokevirtual 164, 3) := by decide +kernel
theorem dX11_side_9 : decode cX11_side 9 = .ok (.istore_n 2, 1) := by decide +kernel
theorem dX11_side_10 : decode cX11_side 10 = .ok (.iconst 0, 1) := by decide +kernel
theorem dX11_side_11 : decode cX11_side 11 = .ok (.istore_n 3, 1) := by decide +kernel
theorem dX11_side_12 : decode cX11_side 12 = .ok (.iconst 1, 1) := by decide +kernel
theorem dX11_side_13 : decode cX11_side 13 = .ok (.istore 4, 2) := by decide +kernel
theorem dX11_side_15 : decode cX11_side 15 = .ok (.iload 4, 2) := by decide +kernel
theorem dX11_side_17 : decode cX11_side 17 = .ok (.bipush 12, 2) := by decide +kernel
theorem dX11_side_19 : decode cX11_side 19 = .ok (.if_icmp .ge 47, 3) := by decide +kernel
theorem dX11_side_22 : decode cX11_side 22 = .ok (.iload_n 1, 1) := by decide +kernel
theorem dX11_side_23 : decode cX11_side 23 = .ok (.iload 4, 2) := by decide +kernel
theorem dX11_side_25 : decode cX11_side 25 = .ok (.invokestatic 99, 3) := by decide +kernel
theorem dX11_side_28 : decode cX11_side 28 = .ok (.imul, 1) := by decide +kernel
theorem dX11_side_29 : decode cX11_side 29 = .ok (.iload_n 2, 1) := by decide +kernel
theorem dX11_side_30 : decode cX11_side 30 = .ok (.iload 4, 2) := by decide +kernel
theorem dX11_side_32 : decode cX11_side 32 = .ok (.invokestatic 154, 3) := by decide +kernel
theorem dX11_side_35 : decode cX11_side 35 = .ok (.imul, 1) := by decide +kernel
theorem dX11_side_36 : decode cX11_side 36 = .ok (.iadd, 1) := by decide +kernel
theorem dX11_side_37 : decode cX11_side 37 = .ok (.iload_n 1, 1) := by decide +kernel
theorem dX11_side_38 : decode cX11_side 38 = .ok (.iload_n 3, 1) := by decide +kernel
theorem dX11_side_39 : decode cX11_side 39 = .ok (.invokestatic 99, 3) := by decide +kernel
theorem dX11_side_42 : decode cX11_side 42 = .ok (.imul, 1) := by decide +kernel
theorem dX11_side_43 : decode cX11_side 43 = .ok (.iload_n 2, 1) := by decide +kernel
theorem dX11_side_44 : decode cX11_side 44 = .ok (.iload_n 3, 1) := by decide +kernel
theorem dX11_side_45 : decode cX11_side 45 = .ok (.invokestatic 154, 3) := by decide +kernel
theorem dX11_side_48 : decode cX11_side 48 = .ok (.imul, 1) := by decide +kernel
theorem dX11_side_49 : decode cX11_side 49 = .ok (.iadd, 1) := by decide +kernel
theorem dX11_side_50 : decode cX11_side 50 = .ok (.if_icmp .le 8, 3) := by decide +kernel
theorem dX11_side_53 : decode cX11_side 53 = .ok (.iload 4, 2) := by decide +kernel
theorem dX11_side_55 : decode cX11_side 55 = .ok (.goto 4, 3) := by decide +kernel
theorem dX11_side_58 : decode cX11_side 58 = .ok (.iload_n 3, 1) := by decide +kernel
theorem dX11_side_59 : decode cX11_side 59 = .ok (.istore_n 3, 1) := by decide +kernel
theorem dX11_side_60 : decode cX11_side 60 = .ok (.iinc 4 1, 3) := by decide +kernel
theorem dX11_side_63 : decode cX11_side 63 = .ok (.goto (-48), 3) := by decide +kernel
theorem dX11_side_66 : decode cX11_side 66 = .ok (.iload_n 3, 1) := by decide +kernel
theorem dX11_side_67 : decode cX11_side 67 = .ok (.ireturn, 1) := by decide +kernel
theorem dX11_allWet_0 : decode cX11_allWet 0 = .ok (.iconst 0, 1) := by decide +kernel
theorem dX11_allWet_1 : decode cX11_allWet 1 = .ok (.istore_n 1, 1) := by decide +kernel
theorem dX11_allWet_2 : decode cX11_allWet 2 = .ok (.iconst 0, 1) := by decide +kernel
theorem dX11_allWet_3 : decode cX11_allWet 3 = .ok (.istore_n 2, 1) := by decide +kernel
theorem dX11_allWet_4 : decode cX11_allWet 4 = .ok (.iload_n 2, 1) := by decide +kernel
theorem dX11_allWet_5 : decode cX11_allWet 5 = .ok (.aload_n 0, 1) := by decide +kernel
theorem dX11_allWet_6 : decode cX11_allWet 6 = .ok (.getfield 103, 3) := by decide +kernel
theorem dX11_allWet_9 : decode cX11_allWet 9 = .ok (.if_icmp .ge 21, 3) := by decide +kernel
theorem dX11_allWet_12 : decode cX11_allWet 12 = .ok (.iload_n 1, 1) := by decide +kernel
theorem dX11_allWet_13 : decode cX11_allWet 13 = .ok (.aload_n 0, 1) := by decide +kernel
theorem dX11_allWet_14 : decode cX11_allWet 14 = .ok (.getfield 9, 3) := by decide +kernel
theorem dX11_allWet_17 : decode cX11_allWet 17 = .ok (.bipush 12, 2) := by decide +kernel
theorem dX11_allWet_19 : decode cX11_allWet 19 = .ok (.iload_n 2, 1) := by decide +kernel
theorem dX11_allWet_20 : decode cX11_allWet 20 = .ok (.iadd, 1) := by decide +kernel
theorem dX11_allWet_21 : decode cX11_allWet 21 = .ok (.iaload, 1) := by decide +kernel
theorem dX11_allWet_22 : decode cX11_allWet 22 = .ok (.iadd, 1) := by decide +kernel
theorem dX11_allWet_23 : decode cX11_allWet 23 = .ok (.istore_n 1, 1) := by decide +kernel
theorem dX11_allWet_24 : decode cX11_allWet 24 = .ok (.iinc 2 1, 3) := by decide +kernel
theorem dX11_allWet_27 : decode cX11_allWet 27 = .ok (.goto (-23), 3) := by decide +kernel
theorem dX11_allWet_30 : decode cX11_allWet 30 = .ok (.iload_n 1, 1) := by decide +kernel
theorem dX11_allWet_31 : decode cX11_allWet 31 = .ok (.ireturn, 1) := by decide +kernel
theorem dX11_load_0 : decode cX11_load 0 = .ok (.iload_n 1, 1) := by decide +kernel
theorem dX11_load_1 : decode cX11_load 1 = .ok (.tableswitch 60 0 4 #[35, 40, 45, 50, 55], 35) := by decide +kernel
theorem dX11_load_36 : decode cX11_load 36 = .ok (.aload_n 0, 1) := by decide +kernel
theorem dX11_load_37 : decode cX11_load 37 = .ok (.invokevirtual 167, 3) := by decide +kernel
theorem dX11_load_40 : decode cX11_load 40 = .ok (.ireturn, 1) := by decide +kernel
theorem dX11_load_41 : decode cX11_load 41 = .ok (.aload_n 0, 1) := by decide +kernel
theorem dX11_load_42 : decode cX11_load 42 = .ok (.invokevirtual 157, 3) := by decide +kernel
theorem dX11_load_45 : decode cX11_load 45 = .ok (.ireturn, 1) := by decide +kernel
theorem dX11_load_46 : decode cX11_load 46 = .ok (.aload_n 0, 1) := by decide +kernel
theorem dX11_load_47 : decode cX11_load 47 = .ok (.invokevirtual 164, 3) := by decide +kernel
theorem dX11_load_50 : decode cX11_load 50 = .ok (.ireturn, 1) := by decide +kernel
theorem dX11_load_51 : decode cX11_load 51 = .ok (.aload_n 0, 1) := by decide +kernel
theorem dX11_load_52 : decode cX11_load 52 = .ok (.invokevirtual 170, 3) := by decide +kernel
theorem dX11_load_55 : decode cX11_load 55 = .ok (.ireturn, 1) := by decide +kernel
theorem dX11_load_56 : decode cX11_load 56 = .ok (.aload_n 0, 1) := by decide +kernel
theorem dX11_load_57 : decode cX11_load 57 = .ok (.invokevirtual 173, 3) := by decide +kernel
theorem dX11_load_60 : decode cX11_load 60 = .ok (.ireturn, 1) := by decide +kernel
theorem dX11_load_61 : decode cX11_load 61 = .ok (.ldc 176, 2) := by decide +kernel
theorem dX11_load_63 : decode cX11_load 63 = .ok (.ireturn, 1) := by decide +kernel
theorem dX11_shakeOf_0 : decode cX11_shakeOf 0 = .ok (.iload_n 2, 1) := by decide +kernel
theorem dX11_shakeOf_1 : decode cX11_shakeOf 1 = .ok (.bipush 10, 2) := by decide +kernel
theorem dX11_shakeOf_3 : decode cX11_shakeOf 3 = .ok (.idiv, 1) := by decide +kernel
theorem dX11_shakeOf_4 : decode cX11_shakeOf 4 = .ok (.istore_n 3, 1) := by decide +kernel
theorem dX11_shakeOf_5 : decode cX11_shakeOf 5 = .ok (.aload_n 0, 1) := by decide +kernel
theorem dX11_shakeOf_6 : decode cX11_shakeOf 6 = .ok (.getfield 25, 3) := by decide +kernel
theorem dX11_shakeOf_9 : decode cX11_shakeOf 9 = .ok (.iconst 0, 1) := by decide +kernel
theorem dX11_shakeOf_10 : decode cX11_shakeOf 10 = .ok (.iaload, 1) := by decide +kernel
theorem dX11_shakeOf_11 : decode cX11_shakeOf 11 = .ok (.bipush 10, 2) := by decide +kernel
theorem dX11_shakeOf_13 : decode cX11_shakeOf 13 = .ok (.idiv, 1) := by decide +kernel
theorem dX11_shakeOf_14 : decode cX11_shakeOf 14 = .ok (.istore 4, 2) := by decide +kernel
theorem dX11_shakeOf_16 : decode cX11_shakeOf 16 = .ok (.iload_n 1, 1) := by decide +kernel
theorem dX11_shakeOf_17 : decode cX11_shakeOf 17 = .ok (.i2l, 1) := by decide +kernel
theorem dX11_shakeOf_18 : decode cX11_shakeOf 18 = .ok (.iload_n 3, 1) := by decide +kernel
theorem dX11_shakeOf_19 : decode cX11_shakeOf 19 = .ok (.i2l, 1) := by decide +kernel
theorem dX11_shakeOf_20 : decode cX11_shakeOf 20 = .ok (.lmul, 1) := by decide +kernel
theorem dX11_shakeOf_21 : decode cX11_shakeOf 21 = .ok (.iload_n 3, 1) := by decide +kernel
theorem dX11_shakeOf_22 : decode cX11_shakeOf 22 = .ok (.i2l, 1) := by decide +kernel
theorem dX11_shakeOf_23 : decode cX11_shakeOf 23 = .ok (.lmul, 1) := by decide +kernel
theorem dX11_shakeOf_24 : decode cX11_shakeOf 24 = .ok (.iload_n 3, 1) := by decide +kernel
theorem dX11_shakeOf_25 : decode cX11_shakeOf 25 = .ok (.iload_n 3, 1) := by decide +kernel
theorem dX11_shakeOf_26 : decode cX11_shakeOf 26 = .ok (.imul, 1) := by decide +kernel
theorem dX11_shakeOf_27 : decode cX11_shakeOf 27 = .ok (.iload 4, 2) := by decide +kernel
theorem dX11_shakeOf_29 : decode cX11_shakeOf 29 = .ok (.iload 4, 2) := by decide +kernel
theorem dX11_shakeOf_31 : decode cX11_shakeOf 31 = .ok (.imul, 1) := by decide +kernel
theorem dX11_shakeOf_32 : decode cX11_shakeOf 32 = .ok (.isub, 1) := by decide +kernel
theorem dX11_shakeOf_33 : decode cX11_shakeOf 33 = .ok (.invokestatic 161, 3) := by decide +kernel
theorem dX11_shakeOf_36 : decode cX11_shakeOf 36 = .ok (.aload_n 0, 1) := by decide +kernel
theorem dX11_shakeOf_37 : decode cX11_shakeOf 37 = .ok (.getfield 25, 3) := by decide +kernel
theorem dX11_shakeOf_40 : decode cX11_shakeOf 40 = .ok (.iconst 1, 1) := by decide +kernel
theorem dX11_shakeOf_41 : decode cX11_shakeOf 41 = .ok (.iaload, 1) := by decide +kernel
theorem dX11_shakeOf_42 : decode cX11_shakeOf 42 = .ok (.iadd, 1) := by decide +kernel
theorem dX11_shakeOf_43 : decode cX11_shakeOf 43 = .ok (.i2l, 1) := by decide +kernel
theorem dX11_shakeOf_44 : decode cX11_shakeOf 44 = .ok (.ldiv, 1) := by decide +kernel
theorem dX11_shakeOf_45 : decode cX11_shakeOf 45 = .ok (.lstore 5, 2) := by decide +kernel
theorem dX11_shakeOf_47 : decode cX11_shakeOf 47 = .ok (.lload 5, 2) := by decide +kernel
theorem dX11_shakeOf_49 : decode cX11_shakeOf 49 = .ok (.ldc2_w 177, 3) := by decide +kernel
theorem dX11_shakeOf_52 : decode cX11_shakeOf 52 = .ok (.lcmp, 1) := by decide +kernel
theorem dX11_shakeOf_53 : decode cX11_shakeOf 53 = .ok (.ifCond .le 8, 3) := by decide +kernel
theorem dX11_shakeOf_56 : decode cX11_shakeOf 56 = .ok (.ldc 179, 2) := by decide +kernel
theorem dX11_shakeOf_58 : decode cX11_shakeOf 58 = .ok (.goto 6, 3) := by decide +kernel
theorem dX11_shakeOf_61 : decode cX11_shakeOf 61 = .ok (.lload 5, 2) := by decide +kernel
theorem dX11_shakeOf_63 : decode cX11_shakeOf 63 = .ok (.l2i, 1) := by decide +kernel
theorem dX11_shakeOf_64 : decode cX11_shakeOf 64 = .ok (.ireturn, 1) := by decide +kernel
theorem dX11_shake_0 : decode cX11_shake 0 = .ok (.iload_n 1, 1) := by decide +kernel
theorem dX11_shake_1 : decode cX11_shake 1 = .ok (.i2l, 1) := by decide +kernel
theorem dX11_shake_2 : decode cX11_shake 2 = .ok (.lconst 0, 1) := by decide +kernel
theorem dX11_shake_3 : decode cX11_shake 3 = .ok (.ldc2_w 180, 3) := by decide +kernel
theorem dX11_shake_6 : decode cX11_shake 6 = .ok (.invokestatic 106, 3) := by decide +kernel
theorem dX11_shake_9 : decode cX11_shake 9 = .ok (.ifCond .eq 15, 3) := by decide +kernel
theorem dX11_shake_12 : decode cX11_shake 12 = .ok (.aload_n 0, 1) := by decide +kernel
theorem dX11_shake_13 : decode cX11_shake 13 = .ok (.aload_n 0, 1) := by decide +kernel
theorem dX11_shake_14 : decode cX11_shake 14 = .ok (.invokevirtual 167, 3) := by decide +kernel
theorem dX11_shake_17 : decode cX11_shake 17 = .ok (.iload_n 1, 1) := by decide +kernel
theorem dX11_shake_18 : decode cX11_shake 18 = .ok (.invokevirtual 182, 3) := by decide +kernel
theorem dX11_shake_21 : decode cX11_shake 21 = .ok (.goto 4, 3) := by decide +kernel
theorem dX11_shake_24 : decode cX11_shake 24 = .ok (.iconst (-1), 1) := by decide +kernel
theorem dX11_shake_25 : decode cX11_shake 25 = .ok (.ireturn, 1) := by decide +kernel
theorem dX11_feed_0 : decode cX11_feed 0 = .ok (.iload_n 1, 1) := by decide +kernel
theorem dX11_feed_1 : decode cX11_feed 1 = .ok (.i2l, 1) := by decide +kernel
theorem dX11_feed_2 : decode cX11_feed 2 = .ok (.lconst 1, 1) := by decide +kernel
theorem dX11_feed_3 : decode cX11_feed 3 = .ok (.ldc2_w 185, 3) := by decide +kernel
theorem dX11_feed_6 : decode cX11_feed 6 = .ok (.invokestatic 106, 3) := by decide +kernel
theorem dX11_feed_9 : decode cX11_feed 9 = .ok (.ifCond .ne 5, 3) := by decide +kernel
theorem dX11_feed_12 : decode cX11_feed 12 = .ok (.iconst (-1), 1) := by decide +kernel
theorem dX11_feed_13 : decode cX11_feed 13 = .ok (.ireturn, 1) := by decide +kernel
theorem dX11_feed_14 : decode cX11_feed 14 = .ok (.aload_n 0, 1) := by decide +kernel
theorem dX11_feed_15 : decode cX11_feed 15 = .ok (.getfield 187, 3) := by decide +kernel
theorem dX11_feed_18 : decode cX11_feed 18 = .ok (.iload_n 1, 1) := by decide +kernel
theorem dX11_feed_19 : decode cX11_feed 19 = .ok (.iadd, 1) := by decide +kernel
theorem dX11_feed_20 : decode cX11_feed 20 = .ok (.bipush 120, 2) := by decide +kernel
theorem dX11_feed_22 : decode cX11_feed 22 = .ok (.if_icmp .le 6, 3) := by decide +kernel
theorem dX11_feed_25 : decode cX11_feed 25 = .ok (.bipush (-3), 2) := by decide +kernel
theorem dX11_feed_27 : decode cX11_feed 27 = .ok (.ireturn, 1) := by decide +kernel
theorem dX11_feed_28 : decode cX11_feed 28 = .ok (.iconst 0, 1) := by decide +kernel
theorem dX11_feed_29 : decode cX11_feed 29 = .ok (.istore_n 3, 1) := by decide +kernel
theorem dX11_feed_30 : decode cX11_feed 30 = .ok (.iload_n 3, 1) := by decide +kernel
theorem dX11_feed_31 : decode cX11_feed 31 = .ok (.iload_n 1, 1) := by decide +kernel
theorem dX11_feed_32 : decode cX11_feed 32 = .ok (.if_icmp .ge 38, 3) := by decide +kernel
theorem dX11_feed_35 : decode cX11_feed 35 = .ok (.aload_n 0, 1) := by decide +kernel
theorem dX11_feed_36 : decode cX11_feed 36 = .ok (.getfield 37, 3) := by decide +kernel
theorem dX11_feed_39 : decode cX11_feed 39 = .ok (.aload_n 0, 1) := by decide +kernel
theorem dX11_feed_40 : decode cX11_feed 40 = .ok (.getfield 187, 3) := by decide +kernel
theorem dX11_feed_43 : decode cX11_feed 43 = .ok (.iload_n 2, 1) := by decide +kernel
theorem dX11_feed_44 : decode cX11_feed 44 = .ok (.bipush 8, 2) := by decide +kernel
theorem dX11_feed_46 : decode cX11_feed 46 = .ok (.iload_n 3, 1) := by decide +kernel
theorem dX11_feed_47 : decode cX11_feed 47 = .ok (.imul, 1) := by decide +kernel
theorem dX11_feed_48 : decode cX11_feed 48 = .ok (.ishr, 1) := by decide +kernel
theorem dX11_feed_49 : decode cX11_feed 49 = .ok (.sipush 255, 3) := by decide +kernel
theorem dX11_feed_52 : decode cX11_feed 52 = .ok (.iand, 1) := by decide +kernel
theorem dX11_feed_53 : decode cX11_feed 53 = .ok (.iastore, 1) := by decide +kernel
theorem dX11_feed_54 : decode cX11_feed 54 = .ok (.aload_n 0, 1) := by decide +kernel
theorem dX11_feed_55 : decode cX11_feed 55 = .ok (.dup, 1) := by decide +kernel
theorem dX11_feed_56 : decode cX11_feed 56 = .ok (.getfield 187, 3) := by decide +kernel
theorem dX11_feed_59 : decode cX11_feed 59 = .ok (.iconst 1, 1) := by decide +kernel
theorem dX11_feed_60 : decode cX11_feed 60 = .ok (.iadd, 1) := by decide +kernel
theorem dX11_feed_61 : decode cX11_feed 61 = .ok (.putfield 187, 3) := by decide +kernel
theorem dX11_feed_64 : decode cX11_feed 64 = .ok (.iinc 3 1, 3) := by decide +kernel
theorem dX11_feed_67 : decode cX11_feed 67 = .ok (.goto (-37), 3) := by decide +kernel
theorem dX11_feed_70 : decode cX11_feed 70 = .ok (.aload_n 0, 1) := by decide +kernel
theorem dX11_feed_71 : decode cX11_feed 71 = .ok (.getfield 187, 3) := by decide +kernel
theorem dX11_feed_74 : decode cX11_feed 74 = .ok (.ireturn, 1) := by decide +kernel
theorem dX11_byteAt_0 : decode cX11_byteAt 0 = .ok (.aload_n 0, 1) := by decide +kernel
theorem dX11_byteAt_1 : decode cX11_byteAt 1 = .ok (.getfield 190, 3) := by decide +kernel
theorem dX11_byteAt_4 : decode cX11_byteAt 4 = .ok (.aload_n 0, 1) := by decide +kernel
theorem dX11_byteAt_5 : decode cX11_byteAt 5 = .ok (.getfield 193, 3) := by decide +kernel
theorem dX11_byteAt_8 : decode cX11_byteAt 8 = .ok (.if_icmp .ge 39, 3) := by decide +kernel
theorem dX11_byteAt_11 : decode cX11_byteAt 11 = .ok (.aload_n 0, 1) := by decide +kernel
theorem dX11_byteAt_12 : decode cX11_byteAt 12 = .ok (.getfield 196, 3) := by decide +kernel
theorem dX11_byteAt_15 : decode cX11_byteAt 15 = .ok (.ifCond .ge 15, 3) := by decide +kernel
theorem dX11_byteAt_18 : decode cX11_byteAt 18 = .ok (.aload_n 0, 1) := by decide +kernel
theorem dX11_byteAt_19 : decode cX11_byteAt 19 = .ok (.getfield 37, 3) := by decide +kernel
theorem dX11_byteAt_22 : decode cX11_byteAt 22 = .ok (.aload_n 0, 1) := by decide +kernel
theorem dX11_byteAt_23 : decode cX11_byteAt 23 = .ok (.getfield 190, 3) := by decide +kernel
theorem dX11_byteAt_26 : decode cX11_byteAt 26 = .ok (.iaload, 1) := by decide +kernel
theorem dX11_byteAt_27 : decode cX11_byteAt 27 = .ok (.goto 21, 3) := by decide +kernel
theorem dX11_byteAt_30 : decode cX11_byteAt 30 = .ok (.aload_n 0, 1) := by decide +kernel
theorem dX11_byteAt_31 : decode cX11_byteAt 31 = .ok (.getfield 40, 3) := by decide +kernel
theorem dX11_byteAt_34 : decode cX11_byteAt 34 = .ok (.aload_n 0, 1) := by decide +kernel
theorem dX11_byteAt_35 : decode cX11_byteAt 35 = .ok (.getfield 196, 3) := by decide +kernel
theorem dX11_byteAt_38 : decode cX11_byteAt 38 = .ok (.aload_n 0, 1) := by decide +kernel
theorem dX11_byteAt_39 : decode cX11_byteAt 39 = .ok (.getfield 190, 3) := by decide +kernel
theorem dX11_byteAt_42 : decode cX11_byteAt 42 = .ok (.iadd, 1) := by decide +kernel
theorem dX11_byteAt_43 : decode cX11_byteAt 43 = .ok (.iaload, 1) := by decide +kernel
theorem dX11_byteAt_44 : decode cX11_byteAt 44 = .ok (.goto 4, 3) := by decide +kernel
theorem dX11_byteAt_47 : decode cX11_byteAt 47 = .ok (.iconst 0, 1) := by decide +kernel
theorem dX11_byteAt_48 : decode cX11_byteAt 48 = .ok (.ireturn, 1) := by decide +kernel
theorem dX11_wrong_0 : decode cX11_wrong 0 = .ok (.aload_n 0, 1) := by decide +kernel
theorem dX11_wrong_1 : decode cX11_wrong 1 = .ok (.aload_n 0, 1) := by decide +kernel
theorem dX11_wrong_2 : decode cX11_wrong 2 = .ok (.getfield 199, 3) := by decide +kernel
theorem dX11_wrong_5 : decode cX11_wrong 5 = .ok (.ifCond .ge 10, 3) := by decide +kernel
theorem dX11_wrong_8 : decode cX11_wrong 8 = .ok (.aload_n 0, 1) := by decide +kernel
theorem dX11_wrong_9 : decode cX11_wrong 9 = .ok (.getfield 190, 3) := by decide +kernel
theorem dX11_wrong_12 : decode cX11_wrong 12 = .ok (.goto 7, 3) := by decide +kernel
theorem dX11_wrong_15 : decode cX11_wrong 15 = .ok (.aload_n 0, 1) := by decide +kernel
theorem dX11_wrong_16 : decode cX11_wrong 16 = .ok (.getfield 199, 3) := by decide +kernel
theorem dX11_wrong_19 : decode cX11_wrong 19 = .ok (.putfield 199, 3) := by decide +kernel
theorem dX11_wrong_22 : decode cX11_wrong 22 = .ok (.iconst 0, 1) := by decide +kernel
theorem dX11_wrong_23 : decode cX11_wrong 23 = .ok (.ireturn, 1) := by decide +kernel
theorem dX11_takes_0 : decode cX11_takes 0 = .ok (.aload_n 0, 1) := by decide +kernel
theorem dX11_takes_1 : decode cX11_takes 1 = .ok (.getfield 199, 3) := by decide +kernel
theorem dX11_takes_4 : decode cX11_takes 4 = .ok (.ifCond .ge 11, 3) := by decide +kernel
theorem dX11_takes_7 : decode cX11_takes 7 = .ok (.aload_n 0, 1) := by decide +kernel
theorem dX11_takes_8 : decode cX11_takes 8 = .ok (.invokevirtual 202, 3) := by decide +kernel
theorem dX11_takes_11 : decode cX11_takes 11 = .ok (.iload_n 1, 1) := by decide +kernel
theorem dX11_takes_12 : decode cX11_takes 12 = .ok (.if_icmp .eq 5, 3) := by decide +kernel
theorem dX11_takes_15 : decode cX11_takes 15 = .ok (.iconst 0, 1) := by decide +kernel
theorem dX11_takes_16 : decode cX11_takes 16 = .ok (.ireturn, 1) := by decide +kernel
theorem dX11_takes_17 : decode cX11_takes 17 = .ok (.aload_n 0, 1) := by decide +kernel
theorem dX11_takes_18 : decode cX11_takes 18 = .ok (.dup, 1) := by decide +kernel
theorem dX11_takes_19 : decode cX11_takes 19 = .ok (.getfield 190, 3) := by decide +kernel
theorem dX11_takes_22 : decode cX11_takes 22 = .ok (.iconst 1, 1) := by decide +kernel
theorem dX11_takes_23 : decode cX11_takes 23 = .ok (.iadd, 1) := by decide +kernel
theorem dX11_takes_24 : decode cX11_takes 24 = .ok (.putfield 190, 3) := by decide +kernel
theorem dX11_takes_27 : decode cX11_takes 27 = .ok (.iconst 1, 1) := by decide +kernel
theorem dX11_takes_28 : decode cX11_takes 28 = .ok (.ireturn, 1) := by decide +kernel
theorem dX11_either_0 : decode cX11_either 0 = .ok (.aload_n 0, 1) := by decide +kernel
theorem dX11_either_1 : decode cX11_either 1 = .ok (.invokevirtual 205, 3) := by decide +kernel
theorem dX11_either_4 : decode cX11_either 4 = .ok (.istore_n 1, 1) := by decide +kernel
theorem dX11_either_5 : decode cX11_either 5 = .ok (.aload_n 0, 1) := by decide +kernel
theorem dX11_either_6 : decode cX11_either 6 = .ok (.bipush 124, 2) := by decide +kernel
theorem dX11_either_8 : decode cX11_either 8 = .ok (.invokevirtual 208, 3) := by decide +kernel
theorem dX11_either_11 : decode cX11_either 11 = .ok (.ifCond .eq 25, 3) := by decide +kernel
theorem dX11_either_14 : decode cX11_either 14 = .ok (.aload_n 0, 1) := by decide +kernel
theorem dX11_either_15 : decode cX11_either 15 = .ok (.invokevirtual 205, 3) := by decide +kernel
theorem dX11_either_18 : decode cX11_either 18 = .ok (.istore_n 2, 1) := by decide +kernel
theorem dX11_either_19 : decode cX11_either 19 = .ok (.iload_n 1, 1) := by decide +kernel
theorem dX11_either_20 : decode cX11_either 20 = .ok (.ifCond .ne 7, 3) := by decide +kernel
theorem dX11_either_23 : decode cX11_either 23 = .ok (.iload_n 2, 1) := by decide +kernel
theorem dX11_either_24 : decode cX11_either 24 = .ok (.ifCond .eq 7, 3) := by decide +kernel
theorem dX11_either_27 : decode cX11_either 27 = .ok (.iconst 1, 1) := by decide +kernel
theorem dX11_either_28 : decode cX11_either 28 = .ok (.goto 4, 3) := by decide +kernel
theorem dX11_either_31 : decode cX11_either 31 = .ok (.iconst 0, 1) := by decide +kernel
theorem dX11_either_32 : decode cX11_either 32 = .ok (.istore_n 1, 1) := by decide +kernel
theorem dX11_either_33 : decode cX11_either 33 = .ok (.goto (-28), 3) := by decide +kernel
theorem dX11_either_36 : decode cX11_either 36 = .ok (.iload_n 1, 1) := by decide +kernel
theorem dX11_either_37 : decode cX11_either 37 = .ok (.ireturn, 1) := by decide +kernel
theorem dX11_both_0 : decode cX11_both 0 = .ok (.aload_n 0, 1) := by decide +kernel
theorem dX11_both_1 : decode cX11_both 1 = .ok (.invokevirtual 211, 3) := by decide +kernel
theorem dX11_both_4 : decode cX11_both 4 = .ok (.istore_n 1, 1) := by decide +kernel
theorem dX11_both_5 : decode cX11_both 5 = .ok (.aload_n 0, 1) := by decide +kernel
theorem dX11_both_6 : decode cX11_both 6 = .ok (.bipush 38, 2) := by decide +kernel
theorem dX11_both_8 : decode cX11_both 8 = .ok (.invokevirtual 208, 3) := by decide +kernel
theorem dX11_both_11 : decode cX11_both 11 = .ok (.ifCond .eq 25, 3) := by decide +kernel
theorem dX11_both_14 : decode cX11_both 14 = .ok (.aload_n 0, 1) := by decide +kernel
theorem dX11_both_15 : decode cX11_both 15 = .ok (.invokevirtual 211, 3) := by decide +kernel
theorem dX11_both_18 : decode cX11_both 18 = .ok (.istore_n 2, 1) := by decide +kernel
theorem dX11_both_19 : decode cX11_both 19 = .ok (.iload_n 1, 1) := by decide +kernel
theorem dX11_both_20 : decode cX11_both 20 = .ok (.ifCond .eq 11, 3) := by decide +kernel
theorem dX11_both_23 : decode cX11_both 23 = .ok (.iload_n 2, 1) := by decide +kernel
theorem dX11_both_24 : decode cX11_both 24 = .ok (.ifCond .eq 7, 3) := by decide +kernel
theorem dX11_both_27 : decode cX11_both 27 = .ok (.iconst 1, 1) := by decide +kernel
theorem dX11_both_28 : decode cX11_both 28 = .ok (.goto 4, 3) := by decide +kernel
theorem dX11_both_31 : decode cX11_both 31 = .ok (.iconst 0, 1) := by decide +kernel
theorem dX11_both_32 : decode cX11_both 32 = .ok (.istore_n 1, 1) := by decide +kernel
theorem dX11_both_33 : decode cX11_both 33 = .ok (.goto (-28), 3) := by decide +kernel
theorem dX11_both_36 : decode cX11_both 36 = .ok (.iload_n 1, 1) := by decide +kernel
theorem dX11_both_37 : decode cX11_both 37 = .ok (.ireturn, 1) := by decide +kernel
theorem dX11_compared_0 : decode cX11_compared 0 = .ok (.aload_n 0, 1) := by decide +kernel
theorem dX11_compared_1 : decode cX11_compared 1 = .ok (.invokevirtual 214, 3) := by decide +kernel
theorem dX11_compared_4 : decode cX11_compared 4 = .ok (.istore_n 1, 1) := by decide +kernel
theorem dX11_compared_5 : decode cX11_compared 5 = .ok (.aload_n 0, 1) := by decide +kernel
theorem dX11_compared_6 : decode cX11_compared 6 = .ok (.invokevirtual 202, 3) := by decide +kernel
theorem dX11_compared_9 : decode cX11_compared 9 = .ok (.istore_n 2, 1) := by decide +kernel
theorem dX11_compared_10 : decode cX11_compared 10 = .ok (.aload_n 0, 1) := by decide +kernel
theorem dX11_compared_11 : decode cX11_compared 11 = .ok (.getfield 199, 3) := by decide +kernel
theorem dX11_compared_14 : decode cX11_compared 14 = .ok (.ifCond .ge 21, 3) := by decide +kernel
theorem dX11_compared_17 : decode cX11_compared 17 = .ok (.iload_n 2, 1) := by decide +kernel
theorem dX11_compared_18 : decode cX11_compared 18 = .ok (.bipush 60, 2) := by decide +kernel
theorem dX11_compared_20 : decode cX11_compared 20 = .ok (.if_icmp .eq 17, 3) := by decide +kernel
theorem dX11_compared_23 : decode cX11_compared 23 = .ok (.iload_n 2, 1) := by decide +kernel
theorem dX11_compared_24 : decode cX11_compared 24 = .ok (.bipush 61, 2) := by decide +kernel
theorem dX11_compared_26 : decode cX11_compared 26 = .ok (.if_icmp .eq 11, 3) := by decide +kernel
theorem dX11_compared_29 : decode cX11_compared 29 = .ok (.iload_n 2, 1) := by decide +kernel
theorem dX11_compared_30 : decode cX11_compared 30 = .ok (.bipush 62, 2) := by decide +kernel
theorem dX11_compared_32 : decode cX11_compared 32 = .ok (.if_icmp .eq 5, 3) := by decide +kernel
theorem dX11_compared_35 : decode cX11_compared 35 = .ok (.iload_n 1, 1) := by decide +kernel
theorem dX11_compared_36 : decode cX11_compared 36 = .ok (.ireturn, 1) := by decide +kernel
theorem dX11_compared_37 : decode cX11_compared 37 = .ok (.aload_n 0, 1) := by decide +kernel
theorem dX11_compared_38 : decode cX11_compared 38 = .ok (.dup, 1) := by decide +kernel
theorem dX11_compared_39 : decode cX11_compared 39 = .ok (.getfield 190, 3) := by decide +kernel
theorem dX11_compared_42 : decode cX11_compared 42 = .ok (.iconst 1, 1) := by decide +kernel
theorem dX11_compared_43 : decode cX11_compared 43 = .ok (.iadd, 1) := by decide +kernel
theorem dX11_compared_44 : decode cX11_compared 44 = .ok (.putfield 190, 3) := by decide +kernel
theorem dX11_compared_47 : decode cX11_compared 47 = .ok (.aload_n 0, 1) := by decide +kernel
theorem dX11_compared_48 : decode cX11_compared 48 = .ok (.invokevirtual 214, 3) := by decide +kernel
theorem dX11_compared_51 : decode cX11_compared 51 = .ok (.istore_n 3, 1) := by decide +kernel
theorem dX11_compared_52 : decode cX11_compared 52 = .ok (.iload_n 2, 1) := by decide +kernel
theorem dX11_compared_53 : decode cX11_compared 53 = .ok (.bipush 60, 2) := by decide +kernel
theorem dX11_compared_55 : decode cX11_compared 55 = .ok (.if_icmp .ne 11, 3) := by decide +kernel
theorem dX11_compared_58 : decode cX11_compared 58 = .ok (.iload_n 1, 1) := by decide +kernel
theorem dX11_compared_59 : decode cX11_compared 59 = .ok (.iload_n 3, 1) := by decide +kernel
theorem dX11_compared_60 : decode cX11_compared 60 = .ok (.if_icmp .ge 29, 3) := by decide +kernel
theorem dX11_compared_63 : decode cX11_compared 63 = .ok (.goto 22, 3) := by decide +kernel
theorem dX11_compared_66 : decode cX11_compared 66 = .ok (.iload_n 2, 1) := by decide +kernel
theorem dX11_compared_67 : decode cX11_compared 67 = .ok (.bipush 61, 2) := by decide +kernel
theorem dX11_compared_69 : decode cX11_compared 69 = .ok (.if_icmp .ne 11, 3) := by decide +kernel
theorem dX11_compared_72 : decode cX11_compared 72 = .ok (.iload_n 1, 1) := by decide +kernel
theorem dX11_compared_73 : decode cX11_compared 73 = .ok (.iload_n 3, 1) := by decide +kernel
theorem dX11_compared_74 : decode cX11_compared 74 = .ok (.if_icmp .ne 15, 3) := by decide +kernel
theorem dX11_compared_77 : decode cX11_compared 77 = .ok (.goto 8, 3) := by decide +kernel
theorem dX11_compared_80 : decode cX11_compared 80 = .ok (.iload_n 1, 1) := by decide +kernel
theorem dX11_compared_81 : decode cX11_compared 81 = .ok (.iload_n 3, 1) := by decide +kernel
theorem dX11_compared_82 : decode cX11_compared 82 = .ok (.if_icmp .le 7, 3) := by decide +kernel
theorem dX11_compared_85 : decode cX11_compared 85 = .ok (.iconst 1, 1) := by decide +kernel
theorem dX11_compared_86 : decode cX11_compared 86 = .ok (.goto 4, 3) := by decide +kernel
theorem dX11_compared_89 : decode cX11_compared 89 = .ok (.iconst 0, 1) := by decide +kernel
theorem dX11_compared_90 : decode cX11_compared 90 = .ok (.ireturn, 1) := by decide +kernel
theorem dX11_sums_0 : decode cX11_sums 0 = .ok (.aload_n 0, 1) := by decide +kernel
theorem dX11_sums_1 : decode cX11_sums 1 = .ok (.invokevirtual 217, 3) := by decide +kernel
theorem dX11_sums_4 : decode cX11_sums 4 = .ok (.istore_n 1, 1) := by decide +kernel
theorem dX11_sums_5 : decode cX11_sums 5 = .ok (.aload_n 0, 1) := by decide +kernel
theorem dX11_sums_6 : decode cX11_sums 6 = .ok (.getfield 199, 3) := by decide +kernel
theorem dX11_sums_9 : decode cX11_sums 9 = .ok (.ifCond .ge 68, 3) := by decide +kernel
theorem dX11_sums_12 : decode cX11_sums 12 = .ok (.aload_n 0, 1) := by decide +kernel
theorem dX11_sums_13 : decode cX11_sums 13 = .ok (.invokevirtual 202, 3) := by decide +kernel
theorem dX11_sums_16 : decode cX11_sums 16 = .ok (.bipush 43, 2) := by decide +kernel
theorem dX11_sums_18 : decode cX11_sums 18 = .ok (.if_icmp .eq 12, 3) := by decide +kernel
theorem dX11_sums_21 : decode cX11_sums 21 = .ok (.aload_n 0, 1) := by decide +kernel
theorem dX11_sums_22 : decode cX11_sums 22 = .ok (.invokevirtual 202, 3) := by decide +kernel
theorem dX11_sums_25 : decode cX11_sums 25 = .ok (.bipush 45, 2) := by decide +kernel
theorem dX11_sums_27 : decode cX11_sums 27 = .ok (.if_icmp .ne 50, 3) := by decide +kernel
theorem dX11_sums_30 : decode cX11_sums 30 = .ok (.aload_n 0, 1) := by decide +kernel
theorem dX11_sums_31 : decode cX11_sums 31 = .ok (.invokevirtual 202, 3) := by decide +kernel
theorem dX11_sums_34 : decode cX11_sums 34 = .ok (.bipush 43, 2) := by decide +kernel
theorem dX11_sums_36 : decode cX11_sums 36 = .ok (.if_icmp .ne 7, 3) := by decide +kernel
theorem dX11_sums_39 : decode cX11_sums 39 = .ok (.iconst 1, 1) := by decide +kernel
theorem dX11_sums_40 : decode cX11_sums 40 = .ok (.goto 4, 3) := by decide +kernel
theorem dX11_sums_43 : decode cX11_sums 43 = .ok (.iconst 0, 1) := by decide +kernel
theorem dX11_sums_44 : decode cX11_sums 44 = .ok (.istore_n 2, 1) := by decide +kernel
theorem dX11_sums_45 : decode cX11_sums 45 = .ok (.aload_n 0, 1) := by decide +kernel
theorem dX11_sums_46 : decode cX11_sums 46 = .ok (.dup, 1) := by decide +kernel
theorem dX11_sums_47 : decode cX11_sums 47 = .ok (.getfield 190, 3) := by decide +kernel
theorem dX11_sums_50 : decode cX11_sums 50 = .ok (.iconst 1, 1) := by decide +kernel
theorem dX11_sums_51 : decode cX11_sums 51 = .ok (.iadd, 1) := by decide +kernel
theorem dX11_sums_52 : decode cX11_sums 52 = .ok (.putfield 190, 3) := by decide +kernel
theorem dX11_sums_55 : decode cX11_sums 55 = .ok (.aload_n 0, 1) := by decide +kernel
theorem dX11_sums_56 : decode cX11_sums 56 = .ok (.invokevirtual 217, 3) := by decide +kernel
theorem dX11_sums_59 : decode cX11_sums 59 = .ok (.istore_n 3, 1) := by decide +kernel
theorem dX11_sums_60 : decode cX11_sums 60 = .ok (.iload_n 2, 1) := by decide +kernel
theorem dX11_sums_61 : decode cX11_sums 61 = .ok (.ifCond .eq 9, 3) := by decide +kernel
theorem dX11_sums_64 : decode cX11_sums 64 = .ok (.iload_n 1, 1) := by decide +kernel
theorem dX11_sums_65 : decode cX11_sums 65 = .ok (.iload_n 3, 1) := by decide +kernel
theorem dX11_sums_66 : decode cX11_sums 66 = .ok (.iadd, 1) := by decide +kernel
theorem dX11_sums_67 : decode cX11_sums 67 = .ok (.goto 6, 3) := by decide +kernel
theorem dX11_sums_70 : decode cX11_sums 70 = .ok (.iload_n 1, 1) := by decide +kernel
theorem dX11_sums_71 : decode cX11_sums 71 = .ok (.iload_n 3, 1) := by decide +kernel
theorem dX11_sums_72 : decode cX11_sums 72 = .ok (.isub, 1) := by decide +kernel
theorem dX11_sums_73 : decode cX11_sums 73 = .ok (.istore_n 1, 1) := by decide +kernel
theorem dX11_sums_74 : decode cX11_sums 74 = .ok (.goto (-69), 3) := by decide +kernel
theorem dX11_sums_77 : decode cX11_sums 77 = .ok (.iload_n 1, 1) := by decide +kernel
theorem dX11_sums_78 : decode cX11_sums 78 = .ok (.ireturn, 1) := by decide +kernel
theorem dX11_product_0 : decode cX11_product 0 = .ok (.aload_n 0, 1) := by decide +kernel
theorem dX11_product_1 : decode cX11_product 1 = .ok (.invokevirtual 220, 3) := by decide +kernel
theorem dX11_product_4 : decode cX11_product 4 = .ok (.istore_n 1, 1) := by decide +kernel
theorem dX11_product_5 : decode cX11_product 5 = .ok (.aload_n 0, 1) := by decide +kernel
theorem dX11_product_6 : decode cX11_product 6 = .ok (.invokevirtual 202, 3) := by decide +kernel
theorem dX11_product_9 : decode cX11_product 9 = .ok (.istore_n 2, 1) := by decide +kernel
theorem dX11_product_10 : decode cX11_product 10 = .ok (.aload_n 0, 1) := by decide +kernel
theorem dX11_product_11 : decode cX11_product 11 = .ok (.getfield 199, 3) := by decide +kernel
theorem dX11_product_14 : decode cX11_product 14 = .ok (.ifCond .ge 80, 3) := by decide +kernel
theorem dX11_product_17 : decode cX11_product 17 = .ok (.iload_n 2, 1) := by decide +kernel
theorem dX11_product_18 : decode cX11_product 18 = .ok (.bipush 42, 2) := by decide +kernel
theorem dX11_product_20 : decode cX11_product 20 = .ok (.if_icmp .eq 15, 3) := by decide +kernel
theorem dX11_product_23 : decode cX11_product 23 = .ok (.iload_n 2, 1) := by decide +kernel
theorem dX11_product_24 : decode cX11_product 24 = .ok (.bipush 47, 2) := by decide +kernel
theorem dX11_product_26 : decode cX11_product 26 = .ok (.if_icmp .eq 9, 3) := by decide +kernel
theorem dX11_product_29 : decode cX11_product 29 = .ok (.iload_n 2, 1) := by decide +kernel
theorem dX11_product_30 : decode cX11_product 30 = .ok (.bipush 37, 2) := by decide +kernel
theorem dX11_product_32 : decode cX11_product 32 = .ok (.if_icmp .ne 62, 3) := by decide +kernel
theorem dX11_product_35 : decode cX11_product 35 = .ok (.aload_n 0, 1) := by decide +kernel
theorem dX11_product_36 : decode cX11_product 36 = .ok (.dup, 1) := by decide +kernel
theorem dX11_product_37 : decode cX11_product 37 = .ok (.getfield 190, 3) := by decide +kernel
theorem dX11_product_40 : decode cX11_product 40 = .ok (.iconst 1, 1) := by decide +kernel
theorem dX11_product_41 : decode cX11_product 41 = .ok (.iadd, 1) := by decide +kernel
theorem dX11_product_42 : decode cX11_product 42 = .ok (.putfield 190, 3) := by decide +kernel
theorem dX11_product_45 : decode cX11_product 45 = .ok (.aload_n 0, 1) := by decide +kernel
theorem dX11_product_46 : decode cX11_product 46 = .ok (.invokevirtual 220, 3) := by decide +kernel
theorem dX11_product_49 : decode cX11_product 49 = .ok (.istore_n 3, 1) := by decide +kernel
theorem dX11_product_50 : decode cX11_product 50 = .ok (.iload_n 2, 1) := by decide +kernel
theorem dX11_product_51 : decode cX11_product 51 = .ok (.bipush 42, 2) := by decide +kernel
theorem dX11_product_53 : decode cX11_product 53 = .ok (.if_icmp .ne 9, 3) := by decide +kernel
theorem dX11_product_56 : decode cX11_product 56 = .ok (.iload_n 1, 1) := by decide +kernel
theorem dX11_product_57 : decode cX11_product 57 = .ok (.iload_n 3, 1) := by decide +kernel
theorem dX11_product_58 : decode cX11_product 58 = .ok (.imul, 1) := by decide +kernel
theorem dX11_product_59 : decode cX11_product 59 = .ok (.goto 26, 3) := by decide +kernel
theorem dX11_product_62 : decode cX11_product 62 = .ok (.iload_n 3, 1) := by decide +kernel
theorem dX11_product_63 : decode cX11_product 63 = .ok (.ifCond .ne 7, 3) := by decide +kernel
theorem dX11_product_66 : decode cX11_product 66 = .ok (.iconst 0, 1) := by decide +kernel
theorem dX11_product_67 : decode cX11_product 67 = .ok (.goto 18, 3) := by decide +kernel
theorem dX11_product_70 : decode cX11_product 70 = .ok (.iload_n 2, 1) := by decide +kernel
theorem dX11_product_71 : decode cX11_product 71 = .ok (.bipush 47, 2) := by decide +kernel
theorem dX11_product_73 : decode cX11_product 73 = .ok (.if_icmp .ne 9, 3) := by decide +kernel
theorem dX11_product_76 : decode cX11_product 76 = .ok (.iload_n 1, 1) := by decide +kernel
theorem dX11_product_77 : decode cX11_product 77 = .ok (.iload_n 3, 1) := by decide +kernel
theorem dX11_product_78 : decode cX11_product 78 = .ok (.idiv, 1) := by decide +kernel
theorem dX11_product_79 : decode cX11_product 79 = .ok (.goto 6, 3) := by decide +kernel
theorem dX11_product_82 : decode cX11_product 82 = .ok (.iload_n 1, 1) := by decide +kernel
theorem dX11_product_83 : decode cX11_product 83 = .ok (.iload_n 3, 1) := by decide +kernel
theorem dX11_product_84 : decode cX11_product 84 = .ok (.irem, 1) := by decide +kernel
theorem dX11_product_85 : decode cX11_product 85 = .ok (.istore_n 1, 1) := by decide +kernel
theorem dX11_product_86 : decode cX11_product 86 = .ok (.aload_n 0, 1) := by decide +kernel
theorem dX11_product_87 : decode cX11_product 87 = .ok (.invokevirtual 202, 3) := by decide +kernel
theorem dX11_product_90 : decode cX11_product 90 = .ok (.istore_n 2, 1) := by decide +kernel
theorem dX11_product_91 : decode cX11_product 91 = .ok (.goto (-81), 3) := by decide +kernel
theorem dX11_product_94 : decode cX11_product 94 = .ok (.iload_n 1, 1) := by decide +kernel
theorem dX11_product_95 : decode cX11_product 95 = .ok (.ireturn, 1) := by decide +kernel
theorem dX11_nameOf_0 : decode cX11_nameOf 0 = .ok (.iload_n 0, 1) := by decide +kernel
theorem dX11_nameOf_1 : decode cX11_nameOf 1 = .ok (.tableswitch 120 99 119 #[117, 109, 120, 120, 111, 101, 120, 120, 120, 107, 120, 120, 120, 103, 120, 120, 114, 105, 120, 120, 99], 99) := by decide +kernel
theorem dX11_nameOf_100 : decode cX11_nameOf 100 = .ok (.iconst 0, 1) := by decide +kernel
theorem dX11_nameOf_101 : decode cX11_nameOf 101 = .ok (.ireturn, 1) := by decide +kernel
theorem dX11_nameOf_102 : decode cX11_nameOf 102 = .ok (.iconst 1, 1) := by decide +kernel
theorem dX11_nameOf_103 : decode cX11_nameOf 103 = .ok (.ireturn, 1) := by decide +kernel
theorem dX11_nameOf_104 : decode cX11_nameOf 104 = .ok (.iconst 2, 1) := by decide +kernel
theorem dX11_nameOf_105 : decode cX11_nameOf 105 = .ok (.ireturn, 1) := by decide +kernel
theorem dX11_nameOf_106 : decode cX11_nameOf 106 = .ok (.iconst 3, 1) := by decide +kernel
theorem dX11_nameOf_107 : decode cX11_nameOf 107 = .ok (.ireturn, 1) := by decide +kernel
theorem dX11_nameOf_108 : decode cX11_nameOf 108 = .ok (.iconst 4, 1) := by decide +kernel
theorem dX11_nameOf_109 : decode cX11_nameOf 109 = .ok (.ireturn, 1) := by decide +kernel
theorem dX11_nameOf_110 : decode cX11_nameOf 110 = .ok (.iconst 5, 1) := by decide +kernel
theorem dX11_nameOf_111 : decode cX11_nameOf 111 = .ok (.ireturn, 1) := by decide +kernel
theorem dX11_nameOf_112 : decode cX11_nameOf 112 = .ok (.bipush 6, 2) := by decide +kernel
theorem dX11_nameOf_114 : decode cX11_nameOf 114 = .ok (.ireturn, 1) := by decide +kernel
theorem dX11_nameOf_115 : decode cX11_nameOf 115 = .ok (.bipush 7, 2) := by decide +kernel
theorem dX11_nameOf_117 : decode cX11_nameOf 117 = .ok (.ireturn, 1) := by decide +kernel
theorem dX11_nameOf_118 : decode cX11_nameOf 118 = .ok (.bipush 8, 2) := by decide +kernel
theorem dX11_nameOf_120 : decode cX11_nameOf 120 = .ok (.ireturn, 1) := by decide +kernel
theorem dX11_nameOf_121 : decode cX11_nameOf 121 = .ok (.iconst (-1), 1) := by decide +kernel
theorem dX11_nameOf_122 : decode cX11_nameOf 122 = .ok (.ireturn, 1) := by decide +kernel
theorem dX11_one_0 : decode cX11_one 0 = .ok (.aload_n 0, 1) := by decide +kernel
theorem dX11_one_1 : decode cX11_one 1 = .ok (.getfield 199, 3) := by decide +kernel
theorem dX11_one_4 : decode cX11_one 4 = .ok (.ifCond .lt 5, 3) := by decide +kernel
theorem dX11_one_7 : decode cX11_one 7 = .ok (.iconst 0, 1) := by decide +kernel
theorem dX11_one_8 : decode cX11_one 8 = .ok (.ireturn, 1) := by decide +kernel
theorem dX11_one_9 : decode cX11_one 9 = .ok (.aload_n 0, 1) := by decide +kernel
theorem dX11_one_10 : decode cX11_one 10 = .ok (.invokevirtual 202, 3) := by decide +kernel
theorem dX11_one_13 : decode cX11_one 13 = .ok (.istore_n 1, 1) := by decide +kernel
theorem dX11_one_14 : decode cX11_one 14 = .ok (.iload_n 1, 1) := by decide +kernel
theorem dX11_one_15 : decode cX11_one 15 = .ok (.bipush 33, 2) := by decide +kernel
theorem dX11_one_17 : decode cX11_one 17 = .ok (.if_icmp .eq 15, 3) := by decide +kernel
theorem dX11_one_20 : decode cX11_one 20 = .ok (.iload_n 1, 1) := by decide +kernel
theorem dX11_one_21 : decode cX11_one 21 = .ok (.bipush 45, 2) := by decide +kernel
theorem dX11_one_23 : decode cX11_one 23 = .ok (.if_icmp .eq 9, 3) := by decide +kernel
theorem dX11_one_26 : decode cX11_one 26 = .ok (.iload_n 1, 1) := by decide +kernel
theorem dX11_one_27 : decode cX11_one 27 = .ok (.bipush 40, 2) := by decide +kernel
theorem dX11_one_29 : decode cX11_one 29 = .ok (.if_icmp .ne 116, 3) := by decide +kernel
theorem dX11_one_32 : decode cX11_one 32 = .ok (.aload_n 0, 1) := by decide +kernel
theorem dX11_one_33 : decode cX11_one 33 = .ok (.getfield 223, 3) := by decide +kernel
theorem dX11_one_36 : decode cX11_one 36 = .ok (.bipush 6, 2) := by decide +kernel
theorem dX11_one_38 : decode cX11_one 38 = .ok (.if_icmp .ne 8, 3) := by decide +kernel
theorem dX11_one_41 : decode cX11_one 41 = .ok (.aload_n 0, 1) := by decide +kernel
theorem dX11_one_42 : decode cX11_one 42 = .ok (.invokevirtual 226, 3) := by decide +kernel
theorem dX11_one_45 : decode cX11_one 45 = .ok (.ireturn, 1) := by decide +kernel
theorem dX11_one_46 : decode cX11_one 46 = .ok (.aload_n 0, 1) := by decide +kernel
theorem dX11_one_47 : decode cX11_one 47 = .ok (.dup, 1) := by decide +kernel
theorem dX11_one_48 : decode cX11_one 48 = .ok (.getfield 223, 3) := by decide +kernel
theorem dX11_one_51 : decode cX11_one 51 = .ok (.iconst 1, 1) := by decide +kernel
theorem dX11_one_52 : decode cX11_one 52 = .ok (.iadd, 1) := by decide +kernel
theorem dX11_one_53 : decode cX11_one 53 = .ok (.putfield 223, 3) := by decide +kernel
theorem dX11_one_56 : decode cX11_one 56 = .ok (.aload_n 0, 1) := by decide +kernel
theorem dX11_one_57 : decode cX11_one 57 = .ok (.dup, 1) := by decide +kernel
theorem dX11_one_58 : decode cX11_one 58 = .ok (.getfield 190, 3) := by decide +kernel
theorem dX11_one_61 : decode cX11_one 61 = .ok (.iconst 1, 1) := by decide +kernel
theorem dX11_one_62 : decode cX11_one 62 = .ok (.iadd, 1) := by decide +kernel
theorem dX11_one_63 : decode cX11_one 63 = .ok (.putfield 190, 3) := by decide +kernel
theorem dX11_one_66 : decode cX11_one 66 = .ok (.iload_n 1, 1) := by decide +kernel
theorem dX11_one_67 : decode cX11_one 67 = .ok (.bipush 40, 2) := by decide +kernel
theorem dX11_one_69 : decode cX11_one 69 = .ok (.if_icmp .ne 10, 3) := by decide +kernel
theorem dX11_one_72 : decode cX11_one 72 = .ok (.aload_n 0, 1) := by decide +kernel
theorem dX11_one_73 : decode cX11_one 73 = .ok (.invokevirtual 229, 3) := by decide +kernel
theorem dX11_one_76 : decode cX11_one 76 = .ok (.goto 7, 3) := by decide +kernel
theorem dX11_one_79 : decode cX11_one 79 = .ok (.aload_n 0, 1) := by decide +kernel
theorem dX11_one_80 : decode cX11_one 80 = .ok (.invokevirtual 220, 3) := by decide +kernel
theorem dX11_one_83 : decode cX11_one 83 = .ok (.istore_n 2, 1) := by decide +kernel
theorem dX11_one_84 : decode cX11_one 84 = .ok (.iload_n 1, 1) := by decide +kernel
theorem dX11_one_85 : decode cX11_one 85 = .ok (.bipush 40, 2) := by decide +kernel
theorem dX11_one_87 : decode cX11_one 87 = .ok (.if_icmp .ne 17, 3) := by decide +kernel
theorem dX11_one_90 : decode cX11_one 90 = .ok (.aload_n 0, 1) := by decide +kernel
theorem dX11_one_91 : decode cX11_one 91 = .ok (.bipush 41, 2) := by decide +kernel
theorem dX11_one_93 : decode cX11_one 93 = .ok (.invokevirtual 208, 3) := by decide +kernel
theorem dX11_one_96 : decode cX11_one 96 = .ok (.ifCond .ne 8, 3) := by decide +kernel
theorem dX11_one_99 : decode cX11_one 99 = .ok (.aload_n 0, 1) := by decide +kernel
theorem dX11_one_100 : decode cX11_one 100 = .ok (.invokevirtual 226, 3) := by decide +kernel
theorem dX11_one_103 : decode cX11_one 103 = .ok (.ireturn, 1) := by decide +kernel
theorem dX11_one_104 : decode cX11_one 104 = .ok (.aload_n 0, 1) := by decide +kernel
theorem dX11_one_105 : decode cX11_one 105 = .ok (.dup, 1) := by decide +kernel
theorem dX11_one_106 : decode cX11_one 106 = .ok (.getfield 223, 3) := by decide +kernel
theorem dX11_one_109 : decode cX11_one 109 = .ok (.iconst 1, 1) := by decide +kernel
theorem dX11_one_110 : decode cX11_one 110 = .ok (.isub, 1) := by decide +kernel
theorem dX11_one_111 : decode cX11_one 111 = .ok (.putfield 223, 3) := by decide +kernel
theorem dX11_one_114 : decode cX11_one 114 = .ok (.iload_n 1, 1) := by decide +kernel
theorem dX11_one_115 : decode cX11_one 115 = .ok (.bipush 40, 2) := by decide +kernel
theorem dX11_one_117 : decode cX11_one 117 = .ok (.if_icmp .ne 7, 3) := by decide +kernel
theorem dX11_one_120 : decode cX11_one 120 = .ok (.iload_n 2, 1) := by decide +kernel
theorem dX11_one_121 : decode cX11_one 121 = .ok (.goto 23, 3) := by decide +kernel
theorem dX11_one_124 : decode cX11_one 124 = .ok (.iload_n 1, 1) := by decide +kernel
theorem dX11_one_125 : decode cX11_one 125 = .ok (.bipush 45, 2) := by decide +kernel
theorem dX11_one_127 : decode cX11_one 127 = .ok (.if_icmp .ne 8, 3) := by decide +kernel
theorem dX11_one_130 : decode cX11_one 130 = .ok (.iload_n 2, 1) := by decide +kernel
theorem dX11_one_131 : decode cX11_one 131 = .ok (.ineg, 1) := by decide +kernel
theorem dX11_one_132 : decode cX11_one 132 = .ok (.goto 12, 3) := by decide +kernel
theorem dX11_one_135 : decode cX11_one 135 = .ok (.iload_n 2, 1) := by decide +kernel
theorem dX11_one_136 : decode cX11_one 136 = .ok (.ifCond .ne 7, 3) := by decide +kernel
theorem dX11_one_139 : decode cX11_one 139 = .ok (.iconst 1, 1) := by decide +kernel
theorem dX11_one_140 : decode cX11_one 140 = .ok (.goto 4, 3) := by decide +kernel
theorem dX11_one_143 : decode cX11_one 143 = .ok (.iconst 0, 1) := by decide +kernel
theorem dX11_one_144 : decode cX11_one 144 = .ok (.ireturn, 1) := by decide +kernel
theorem dX11_one_145 : decode cX11_one 145 = .ok (.iload_n 1, 1) := by decide +kernel
theorem dX11_one_146 : decode cX11_one 146 = .ok (.invokestatic 232, 3) := by decide +kernel
theorem dX11_one_149 : decode cX11_one 149 = .ok (.istore_n 2, 1) := by decide +kernel
theorem dX11_one_150 : decode cX11_one 150 = .ok (.iload_n 2, 1) := by decide +kernel
theorem dX11_one_151 : decode cX11_one 151 = .ok (.ifCond .lt 20, 3) := by decide +kernel
theorem dX11_one_154 : decode cX11_one 154 = .ok (.aload_n 0, 1) := by decide +kernel
theorem dX11_one_155 : decode cX11_one 155 = .ok (.dup, 1) := by decide +kernel
theorem dX11_one_156 : decode cX11_one 156 = .ok (.getfield 190, 3) := by decide +kernel
theorem dX11_one_159 : decode cX11_one 159 = .ok (.iconst 1, 1) := by decide +kernel
theorem dX11_one_160 : decode cX11_one 160 = .ok (.iadd, 1) := by decide +kernel
theorem dX11_one_161 : decode cX11_one 161 = .ok (.putfield 190, 3) := by decide +kernel
theorem dX11_one_164 : decode cX11_one 164 = .ok (.aload_n 0, 1) := by decide +kernel
theorem dX11_one_165 : decode cX11_one 165 = .ok (.getfield 46, 3) := by decide +kernel
theorem dX11_one_168 : decode cX11_one 168 = .ok (.iload_n 2, 1) := by decide +kernel
theorem dX11_one_169 : decode cX11_one 169 = .ok (.iaload, 1) := by decide +kernel
theorem dX11_one_170 : decode cX11_one 170 = .ok (.ireturn, 1) := by decide +kernel
theorem dX11_one_171 : decode cX11_one 171 = .ok (.iconst 0, 1) := by decide +kernel
theorem dX11_one_172 : decode cX11_one 172 = .ok (.istore_n 3, 1) := by decide +kernel
theorem dX11_one_173 : decode cX11_one 173 = .ok (.iconst 0, 1) := by decide +kernel
theorem dX11_one_174 : decode cX11_one 174 = .ok (.istore 4, 2) := by decide +kernel
theorem dX11_one_176 : decode cX11_one 176 = .ok (.iload 4, 2) := by decide +kernel
theorem dX11_one_178 : decode cX11_one 178 = .ok (.iconst 4, 1) := by decide +kernel
theorem dX11_one_179 : decode cX11_one 179 = .ok (.if_icmp .ge 50, 3) := by decide +kernel
theorem dX11_one_182 : decode cX11_one 182 = .ok (.aload_n 0, 1) := by decide +kernel
theorem dX11_one_183 : decode cX11_one 183 = .ok (.invokevirtual 202, 3) := by decide +kernel
theorem dX11_one_186 : decode cX11_one 186 = .ok (.bipush 48, 2) := by decide +kernel
theorem dX11_one_188 : decode cX11_one 188 = .ok (.if_icmp .lt 41, 3) := by decide +kernel
theorem dX11_one_191 : decode cX11_one 191 = .ok (.aload_n 0, 1) := by decide +kernel
theorem dX11_one_192 : decode cX11_one 192 = .ok (.invokevirtual 202, 3) := by decide +kernel
theorem dX11_one_195 : decode cX11_one 195 = .ok (.bipush 57, 2) := by decide +kernel
theorem dX11_one_197 : decode cX11_one 197 = .ok (.if_icmp .gt 32, 3) := by decide +kernel
theorem dX11_one_200 : decode cX11_one 200 = .ok (.bipush 10, 2) := by decide +kernel
theorem dX11_one_202 : decode cX11_one 202 = .ok (.iload_n 3, 1) := by decide +kernel
theorem dX11_one_203 : decode cX11_one 203 = .ok (.imul, 1) := by decide +kernel
theorem dX11_one_204 : decode cX11_one 204 = .ok (.aload_n 0, 1) := by decide +kernel
theorem dX11_one_205 : decode cX11_one 205 = .ok (.invokevirtual 202, 3) := by decide +kernel
theorem dX11_one_208 : decode cX11_one 208 = .ok (.iadd, 1) := by decide +kernel
theorem dX11_one_209 : decode cX11_one 209 = .ok (.bipush 48, 2) := by decide +kernel
theorem dX11_one_211 : decode cX11_one 211 = .ok (.isub, 1) := by decide +kernel
theorem dX11_one_212 : decode cX11_one 212 = .ok (.istore_n 3, 1) := by decide +kernel
theorem dX11_one_213 : decode cX11_one 213 = .ok (.iinc 4 1, 3) := by decide +kernel
theorem dX11_one_216 : decode cX11_one 216 = .ok (.aload_n 0, 1) := by decide +kernel
theorem dX11_one_217 : decode cX11_one 217 = .ok (.dup, 1) := by decide +kernel
theorem dX11_one_218 : decode cX11_one 218 = .ok (.getfield 190, 3) := by decide +kernel
theorem dX11_one_221 : decode cX11_one 221 = .ok (.iconst 1, 1) := by decide +kernel
theorem dX11_one_222 : decode cX11_one 222 = .ok (.iadd, 1) := by decide +kernel
theorem dX11_one_223 : decode cX11_one 223 = .ok (.putfield 190, 3) := by decide +kernel
theorem dX11_one_226 : decode cX11_one 226 = .ok (.goto (-50), 3) := by decide +kernel
theorem dX11_one_229 : decode cX11_one 229 = .ok (.iload 4, 2) := by decide +kernel
theorem dX11_one_231 : decode cX11_one 231 = .ok (.ifCond .ne 10, 3) := by decide +kernel
theorem dX11_one_234 : decode cX11_one 234 = .ok (.aload_n 0, 1) := by decide +kernel
theorem dX11_one_235 : decode cX11_one 235 = .ok (.invokevirtual 226, 3) := by decide +kernel
theorem dX11_one_238 : decode cX11_one 238 = .ok (.goto 4, 3) := by decide +kernel
theorem dX11_one_241 : decode cX11_one 241 = .ok (.iload_n 3, 1) := by decide +kernel
theorem dX11_one_242 : decode cX11_one 242 = .ok (.ireturn, 1) := by decide +kernel
theorem dX11_workOut_0 : decode cX11_workOut 0 = .ok (.aload_n 0, 1) := by decide +kernel
theorem dX11_workOut_1 : decode cX11_workOut 1 = .ok (.iload_n 1, 1) := by decide +kernel
theorem dX11_workOut_2 : decode cX11_workOut 2 = .ok (.putfield 196, 3) := by decide +kernel
theorem dX11_workOut_5 : decode cX11_workOut 5 = .ok (.aload_n 0, 1) := by decide +kernel
theorem dX11_workOut_6 : decode cX11_workOut 6 = .ok (.iconst 0, 1) := by decide +kernel
theorem dX11_workOut_7 : decode cX11_workOut 7 = .ok (.putfield 190, 3) := by decide +kernel
theorem dX11_workOut_10 : decode cX11_workOut 10 = .ok (.aload_n 0, 1) := by decide +kernel
theorem dX11_workOut_11 : decode cX11_workOut 11 = .ok (.iload_n 2, 1) := by decide +kernel
theorem dX11_workOut_12 : decode cX11_workOut 12 = .ok (.putfield 193, 3) := by decide +kernel
theorem dX11_workOut_15 : decode cX11_workOut 15 = .ok (.aload_n 0, 1) := by decide +kernel
theorem dX11_workOut_16 : decode cX11_workOut 16 = .ok (.iconst (-1), 1) := by decide +kernel
theorem dX11_workOut_17 : decode cX11_workOut 17 = .ok (.putfield 199, 3) := by decide +kernel
theorem dX11_workOut_20 : decode cX11_workOut 20 = .ok (.aload_n 0, 1) := by decide +kernel
theorem dX11_workOut_21 : decode cX11_workOut 21 = .ok (.iconst 0, 1) := by decide +kernel
theorem dX11_workOut_22 : decode cX11_workOut 22 = .ok (.putfield 223, 3) := by decide +kernel
theorem dX11_workOut_25 : decode cX11_workOut 25 = .ok (.iconst 0, 1) := by decide +kernel
theorem dX11_workOut_26 : decode cX11_workOut 26 = .ok (.istore_n 3, 1) := by decide +kernel
theorem dX11_workOut_27 : decode cX11_workOut 27 = .ok (.iconst 0, 1) := by decide +kernel
theorem dX11_workOut_28 : decode cX11_workOut 28 = .ok (.istore 4, 2) := by decide +kernel
theorem dX11_workOut_30 : decode cX11_workOut 30 = .ok (.iconst 1, 1) := by decide +kernel
theorem dX11_workOut_31 : decode cX11_workOut 31 = .ok (.istore 5, 2) := by decide +kernel
theorem dX11_workOut_33 : decode cX11_workOut 33 = .ok (.iload 5, 2) := by decide +kernel
theorem dX11_workOut_35 : decode cX11_workOut 35 = .ok (.ifCond .eq 72, 3) := by decide +kernel
theorem dX11_workOut_38 : decode cX11_workOut 38 = .ok (.aload_n 0, 1) := by decide +kernel
theorem dX11_workOut_39 : decode cX11_workOut 39 = .ok (.invokevirtual 229, 3) := by decide +kernel
theorem dX11_workOut_42 : decode cX11_workOut 42 = .ok (.istore 6, 2) := by decide +kernel
theorem dX11_workOut_44 : decode cX11_workOut 44 = .ok (.iconst 1, 1) := by decide +kernel
theorem dX11_workOut_45 : decode cX11_workOut 45 = .ok (.istore 7, 2) := by decide +kernel
theorem dX11_workOut_47 : decode cX11_workOut 47 = .ok (.aload_n 0, 1) := by decide +kernel
theorem dX11_workOut_48 : decode cX11_workOut 48 = .ok (.bipush 63, 2) := by decide +kernel
theorem dX11_workOut_50 : decode cX11_workOut 50 = .ok (.invokevirtual 208, 3) := by decide +kernel
theorem dX11_workOut_53 : decode cX11_workOut 53 = .ok (.ifCond .eq 21, 3) := by decide +kernel
theorem dX11_workOut_56 : decode cX11_workOut 56 = .ok (.iload 6, 2) := by decide +kernel
theorem dX11_workOut_58 : decode cX11_workOut 58 = .ok (.ifCond .eq 7, 3) := by decide +kernel
theorem dX11_workOut_61 : decode cX11_workOut 61 = .ok (.iconst 1, 1) := by decide +kernel
theorem dX11_workOut_62 : decode cX11_workOut 62 = .ok (.goto 4, 3) := by decide +kernel
theorem dX11_workOut_65 : decode cX11_workOut 65 = .ok (.iconst 0, 1) := by decide +kernel
theorem dX11_workOut_66 : decode cX11_workOut 66 = .ok (.istore 7, 2) := by decide +kernel
theorem dX11_workOut_68 : decode cX11_workOut 68 = .ok (.aload_n 0, 1) := by decide +kernel
theorem dX11_workOut_69 : decode cX11_workOut 69 = .ok (.invokevirtual 229, 3) := by decide +kernel
theorem dX11_workOut_72 : decode cX11_workOut 72 = .ok (.istore 6, 2) := by decide +kernel
theorem dX11_workOut_74 : decode cX11_workOut 74 = .ok (.aload_n 0, 1) := by decide +kernel
theorem dX11_workOut_75 : decode cX11_workOut 75 = .ok (.getfield 199, 3) := by decide +kernel
theorem dX11_workOut_78 : decode cX11_workOut 78 = .ok (.ifCond .ge 18, 3) := by decide +kernel
theorem dX11_workOut_81 : decode cX11_workOut 81 = .ok (.iload 7, 2) := by decide +kernel
theorem dX11_workOut_83 : decode cX11_workOut 83 = .ok (.ifCond .eq 13, 3) := by decide +kernel
theorem dX11_workOut_86 : decode cX11_workOut 86 = .ok (.iload_n 3, 1) := by decide +kernel
theorem dX11_workOut_87 : decode cX11_workOut 87 = .ok (.ifCond .ne 9, 3) := by decide +kernel
theorem dX11_workOut_90 : decode cX11_workOut 90 = .ok (.iconst 1, 1) := by decide +kernel
theorem dX11_workOut_91 : decode cX11_workOut 91 = .ok (.istore_n 3, 1) := by decide +kernel
theorem dX11_workOut_92 : decode cX11_workOut 92 = .ok (.iload 6, 2) := by decide +kernel
theorem dX11_workOut_94 : decode cX11_workOut 94 = .ok (.istore 4, 2) := by decide +kernel
theorem dX11_workOut_96 : decode cX11_workOut 96 = .ok (.aload_n 0, 1) := by decide +kernel
theorem dX11_workOut_97 : decode cX11_workOut 97 = .ok (.bipush 59, 2) := by decide +kernel
theorem dX11_workOut_99 : decode cX11_workOut 99 = .ok (.invokevirtual 208, 3) := by decide +kernel
theorem dX11_workOut_102 : decode cX11_workOut 102 = .ok (.istore 5, 2) := by decide +kernel
theorem dX11_workOut_104 : decode cX11_workOut 104 = .ok (.goto (-71), 3) := by decide +kernel
theorem dX11_workOut_107 : decode cX11_workOut 107 = .ok (.aload_n 0, 1) := by decide +kernel
theorem dX11_workOut_108 : decode cX11_workOut 108 = .ok (.getfield 199, 3) := by decide +kernel
theorem dX11_workOut_111 : decode cX11_workOut 111 = .ok (.ifCond .ge 19, 3) := by decide +kernel
theorem dX11_workOut_114 : decode cX11_workOut 114 = .ok (.aload_n 0, 1) := by decide +kernel
theorem dX11_workOut_115 : decode cX11_workOut 115 = .ok (.getfield 190, 3) := by decide +kernel
theorem dX11_workOut_118 : decode cX11_workOut 118 = .ok (.aload_n 0, 1) := by decide +kernel
theorem dX11_workOut_119 : decode cX11_workOut 119 = .ok (.getfield 193, 3) := by decide +kernel
theorem dX11_workOut_122 : decode cX11_workOut 122 = .ok (.if_icmp .ge 8, 3) := by decide +kernel
theorem dX11_workOut_125 : decode cX11_workOut 125 = .ok (.aload_n 0, 1) := by decide +kernel
theorem dX11_workOut_126 : decode cX11_workOut 126 = .ok (.invokevirtual 226, 3) := by decide +kernel
theorem dX11_workOut_129 : decode cX11_workOut 129 = .ok (.ireturn, 1) := by decide +kernel
theorem dX11_workOut_130 : decode cX11_workOut 130 = .ok (.iload 4, 2) := by decide +kernel
theorem dX11_workOut_132 : decode cX11_workOut 132 = .ok (.ireturn, 1) := by decide +kernel
theorem dX11_law_0 : decode cX11_law 0 = .ok (.aload_n 0, 1) := by decide +kernel
theorem dX11_law_1 : decode cX11_law 1 = .ok (.getfield 235, 3) := by decide +kernel
theorem dX11_law_4 : decode cX11_law 4 = .ok (.iconst 4, 1) := by decide +kernel
theorem dX11_law_5 : decode cX11_law 5 = .ok (.if_icmp .ne 6, 3) := by decide +kernel
theorem dX11_law_8 : decode cX11_law 8 = .ok (.bipush (-3), 2) := by decide +kernel
theorem dX11_law_10 : decode cX11_law 10 = .ok (.ireturn, 1) := by decide +kernel
theorem dX11_law_11 : decode cX11_law 11 = .ok (.aload_n 0, 1) := by decide +kernel
theorem dX11_law_12 : decode cX11_law 12 = .ok (.iconst (-1), 1) := by decide +kernel
theorem dX11_law_13 : decode cX11_law 13 = .ok (.aload_n 0, 1) := by decide +kernel
theorem dX11_law_14 : decode cX11_law 14 = .ok (.getfield 187, 3) := by decide +kernel
theorem dX11_law_17 : decode cX11_law 17 = .ok (.invokevirtual 238, 3) := by decide +kernel
theorem dX11_law_20 : decode cX11_law 20 = .ok (.istore_n 1, 1) := by decide +kernel
theorem dX11_law_21 : decode cX11_law 21 = .ok (.aload_n 0, 1) := by decide +kernel
theorem dX11_law_22 : decode cX11_law 22 = .ok (.getfield 187, 3) := by decide +kernel
theorem dX11_law_25 : decode cX11_law 25 = .ok (.istore_n 2, 1) := by decide +kernel
theorem dX11_law_26 : decode cX11_law 26 = .ok (.aload_n 0, 1) := by decide +kernel
theorem dX11_law_27 : decode cX11_law 27 = .ok (.iconst 0, 1) := by decide +kernel
theorem dX11_law_28 : decode cX11_law 28 = .ok (.putfield 187, 3) := by decide +kernel
theorem dX11_law_31 : decode cX11_law 31 = .ok (.aload_n 0, 1) := by decide +kernel
theorem dX11_law_32 : decode cX11_law 32 = .ok (.getfield 199, 3) := by decide +kernel
theorem dX11_law_35 : decode cX11_law 35 = .ok (.ifCond .lt 11, 3) := by decide +kernel
theorem dX11_law_38 : decode cX11_law 38 = .ok (.bipush (-100), 2) := by decide +kernel
theorem dX11_law_40 : decode cX11_law 40 = .ok (.aload_n 0, 1) := by decide +kernel
theorem dX11_law_41 : decode cX11_law 41 = .ok (.getfield 199, 3) := by decide +kernel
theorem dX11_law_44 : decode cX11_law 44 = .ok (.isub, 1) := by decide +kernel
theorem dX11_law_45 : decode cX11_law 45 = .ok (.ireturn, 1) := by decide +kernel
theorem dX11_law_46 : decode cX11_law 46 = .ok (.iconst 0, 1) := by decide +kernel
theorem dX11_law_47 : decode cX11_law 47 = .ok (.istore_n 3, 1) := by decide +kernel
theorem dX11_law_48 : decode cX11_law 48 = .ok (.iload_n 3, 1) := by decide +kernel
theorem dX11_law_49 : decode cX11_law 49 = .ok (.iload_n 2, 1) := by decide +kernel
theorem dX11_law_50 : decode cX11_law 50 = .ok (.if_icmp .ge 29, 3) := by decide +kernel
theorem dX11_law_53 : decode cX11_law 53 = .ok (.aload_n 0, 1) := by decide +kernel
theorem dX11_law_54 : decode cX11_law 54 = .ok (.getfield 40, 3) := by decide +kernel
theorem dX11_law_57 : decode cX11_law 57 = .ok (.bipush 120, 2) := by decide +kernel
theorem dX11_law_59 : decode cX11_law 59 = .ok (.aload_n 0, 1) := by decide +kernel
theorem dX11_law_60 : decode cX11_law 60 = .ok (.getfield 235, 3) := by decide +kernel
theorem dX11_law_63 : decode cX11_law 63 = .ok (.imul, 1) := by decide +kernel
theorem dX11_law_64 : decode cX11_law 64 = .ok (.iload_n 3, 1) := by decide +kernel
theorem dX11_law_65 : decode cX11_law 65 = .ok (.iadd, 1) := by decide +kernel
theorem dX11_law_66 : decode cX11_law 66 = .ok (.aload_n 0, 1) := by decide +kernel
theorem dX11_law_67 : decode cX11_law 67 = .ok (.getfield 37, 3) := by decide +kernel
theorem dX11_law_70 : decode cX11_law 70 = .ok (.iload_n 3, 1) := by decide +kernel
theorem dX11_law_71 : decode cX11_law 71 = .ok (.iaload, 1) := by decide +kernel
theorem dX11_law_72 : decode cX11_law 72 = .ok (.iastore, 1) := by decide +kernel
theorem dX11_law_73 : decode cX11_law 73 = .ok (.iinc 3 1, 3) := by decide +kernel
theorem dX11_law_76 : decode cX11_law 76 = .ok (.goto (-28), 3) := by decide +kernel
theorem dX11_law_79 : decode cX11_law 79 = .ok (.aload_n 0, 1) := by decide +kernel
theorem dX11_law_80 : decode cX11_law 80 = .ok (.getfield 43, 3) := by decide +kernel
theorem dX11_law_83 : decode cX11_law 83 = .ok (.aload_n 0, 1) := by decide +kernel
theorem dX11_law_84 : decode cX11_law 84 = .ok (.getfield 235, 3) := by decide +kernel
theorem dX11_law_87 : decode cX11_law 87 = .ok (.iload_n 2, 1) := by decide +kernel
theorem dX11_law_88 : decode cX11_law 88 = .ok (.iastore, 1) := by decide +kernel
theorem dX11_law_89 : decode cX11_law 89 = .ok (.aload_n 0, 1) := by decide +kernel
theorem dX11_law_90 : decode cX11_law 90 = .ok (.dup, 1) := by decide +kernel
theorem dX11_law_91 : decode cX11_law 91 = .ok (.getfield 235, 3) := by decide +kernel
theorem dX11_law_94 : decode cX11_law 94 = .ok (.iconst 1, 1) := by decide +kernel
theorem dX11_law_95 : decode cX11_law 95 = .ok (.iadd, 1) := by decide +kernel
theorem dX11_law_96 : decode cX11_law 96 = .ok (.putfield 235, 3) := by decide +kernel
theorem dX11_law_99 : decode cX11_law 99 = .ok (.aload_n 0, 1) := by decide +kernel
theorem dX11_law_100 : decode cX11_law 100 = .ok (.getfield 235, 3) := by decide +kernel
theorem dX11_law_103 : decode cX11_law 103 = .ok (.iconst 1, 1) := by decide +kernel
theorem dX11_law_104 : decode cX11_law 104 = .ok (.isub, 1) := by decide +kernel
theorem dX11_law_105 : decode cX11_law 105 = .ok (.ireturn, 1) := by decide +kernel
theorem dX11_isLaw_0 : decode cX11_isLaw 0 = .ok (.iload_n 1, 1) := by decide +kernel
theorem dX11_isLaw_1 : decode cX11_isLaw 1 = .ok (.i2l, 1) := by decide +kernel
theorem dX11_isLaw_2 : decode cX11_isLaw 2 = .ok (.lconst 0, 1) := by decide +kernel
theorem dX11_isLaw_3 : decode cX11_isLaw 3 = .ok (.aload_n 0, 1) := by decide +kernel
theorem dX11_isLaw_4 : decode cX11_isLaw 4 = .ok (.getfield 235, 3) := by decide +kernel
theorem dX11_isLaw_7 : decode cX11_isLaw 7 = .ok (.iconst 1, 1) := by decide +kernel
theorem dX11_isLaw_8 : decode cX11_isLaw 8 = .ok (.isub, 1) := by decide +kernel
theorem dX11_isLaw_9 : decode cX11_isLaw 9 = .ok (.i2l, 1) := by decide +kernel
theorem dX11_isLaw_10 : decode cX11_isLaw 10 = .ok (.invokestatic 106, 3) := by decide +kernel
theorem dX11_isLaw_13 : decode cX11_isLaw 13 = .ok (.ireturn, 1) := by decide +kernel
theorem dX11_water_0 : decode cX11_water 0 = .ok (.iload_n 1, 1) := by decide +kernel
theorem dX11_water_1 : decode cX11_water 1 = .ok (.iconst (-1), 1) := by decide +kernel
theorem dX11_water_2 : decode cX11_water 2 = .ok (.if_icmp .eq 14, 3) := by decide +kernel
theorem dX11_water_5 : decode cX11_water 5 = .ok (.aload_n 0, 1) := by decide +kernel
theorem dX11_water_6 : decode cX11_water 6 = .ok (.iload_n 1, 1) := by decide +kernel
theorem dX11_water_7 : decode cX11_water 7 = .ok (.invokevirtual 241, 3) := by decide +kernel
theorem dX11_water_10 : decode cX11_water 10 = .ok (.ifCond .ne 6, 3) := by decide +kernel
theorem dX11_water_13 : decode cX11_water 13 = .ok (.ldc 176, 2) := by decide +kernel
theorem dX11_water_15 : decode cX11_water 15 = .ok (.ireturn, 1) := by decide +kernel
theorem dX11_water_16 : decode cX11_water 16 = .ok (.aload_n 0, 1) := by decide +kernel
theorem dX11_water_17 : decode cX11_water 17 = .ok (.getfield 89, 3) := by decide +kernel
theorem dX11_water_20 : decode cX11_water 20 = .ok (.istore_n 2, 1) := by decide +kernel
theorem dX11_water_21 : decode cX11_water 21 = .ok (.aload_n 0, 1) := by decide +kernel
theorem dX11_water_22 : decode cX11_water 22 = .ok (.iload_n 1, 1) := by decide +kernel
theorem dX11_water_23 : decode cX11_water 23 = .ok (.putfield 89, 3) := by decide +kernel
theorem dX11_water_26 : decode cX11_water 26 = .ok (.iload_n 2, 1) := by decide +kernel
theorem dX11_water_27 : decode cX11_water 27 = .ok (.ireturn, 1) := by decide +kernel
theorem dX11_clearNames_0 : decode cX11_clearNames 0 = .ok (.iconst 0, 1) := by decide +kernel
theorem dX11_clearNames_1 : decode cX11_clearNames 1 = .ok (.istore_n 1, 1) := by decide +kernel
theorem dX11_clearNames_2 : decode cX11_clearNames 2 = .ok (.iload_n 1, 1) := by decide +kernel
theorem dX11_clearNames_3 : decode cX11_clearNames 3 = .ok (.bipush 9, 2) := by decide +kernel
theorem dX11_clearNames_5 : decode cX11_clearNames 5 = .ok (.if_icmp .ge 16, 3) := by decide +kernel
theorem dX11_clearNames_8 : decode cX11_clearNames 8 = .ok (.aload_n 0, 1) := by decide +kernel
theorem dX11_clearNames_9 : decode cX11_clearNames 9 = .ok (.getfield 46, 3) := by decide +kernel
theorem dX11_clearNames_12 : decode cX11_clearNames 12 = .ok (.iload_n 1, 1) := by decide +kernel
theorem dX11_clearNames_13 : decode cX11_clearNames 13 = .ok (.iconst 0, 1) := by decide +kernel
theorem dX11_clearNames_14 : decode cX11_clearNames 14 = .ok (.iastore, 1) := by decide +kernel
theorem dX11_clearNames_15 : decode cX11_clearNames 15 = .ok (.iinc 1 1, 3) := by decide +kernel
theorem dX11_clearNames_18 : decode cX11_clearNames 18 = .ok (.goto (-16), 3) := by decide +kernel
theorem dX11_clearNames_21 : decode cX11_clearNames 21 = .ok (.return_, 1) := by decide +kernel
theorem dX11_ruled_0 : decode cX11_ruled 0 = .ok (.aload_n 0, 1) := by decide +kernel
theorem dX11_ruled_1 : decode cX11_ruled 1 = .ok (.invokevirtual 244, 3) := by decide +kernel
theorem dX11_ruled_4 : decode cX11_ruled 4 = .ok (.aload_n 0, 1) := by decide +kernel
theorem dX11_ruled_5 : decode cX11_ruled 5 = .ok (.getfield 46, 3) := by decide +kernel
theorem dX11_ruled_8 : decode cX11_ruled 8 = .ok (.iconst 2, 1) := by decide +kernel
theorem dX11_ruled_9 : decode cX11_ruled 9 = .ok (.iload_n 2, 1) := by decide +kernel
theorem dX11_ruled_10 : decode cX11_ruled 10 = .ok (.iastore, 1) := by decide +kernel
theorem dX11_ruled_11 : decode cX11_ruled 11 = .ok (.aload_n 0, 1) := by decide +kernel
theorem dX11_ruled_12 : decode cX11_ruled 12 = .ok (.getfield 46, 3) := by decide +kernel
theorem dX11_ruled_15 : decode cX11_ruled 15 = .ok (.iconst 3, 1) := by decide +kernel
theorem dX11_ruled_16 : decode cX11_ruled 16 = .ok (.iload_n 3, 1) := by decide +kernel
theorem dX11_ruled_17 : decode cX11_ruled 17 = .ok (.iastore, 1) := by decide +kernel
theorem dX11_ruled_18 : decode cX11_ruled 18 = .ok (.aload_n 0, 1) := by decide +kernel
theorem dX11_ruled_19 : decode cX11_ruled 19 = .ok (.getfield 46, 3) := by decide +kernel
theorem dX11_ruled_22 : decode cX11_ruled 22 = .ok (.iconst 5, 1) := by decide +kernel
theorem dX11_ruled_23 : decode cX11_ruled 23 = .ok (.iload 4, 2) := by decide +kernel
theorem dX11_ruled_25 : decode cX11_ruled 25 = .ok (.iastore, 1) := by decide +kernel
theorem dX11_ruled_26 : decode cX11_ruled 26 = .ok (.aload_n 0, 1) := by decide +kernel
theorem dX11_ruled_27 : decode cX11_ruled 27 = .ok (.getfield 46, 3) := by decide +kernel
theorem dX11_ruled_30 : decode cX11_ruled 30 = .ok (.bipush 6, 2) := by decide +kernel
theorem dX11_ruled_32 : decode cX11_ruled 32 = .ok (.iload 5, 2) := by decide +kernel
theorem dX11_ruled_34 : decode cX11_ruled 34 = .ok (.iastore, 1) := by decide +kernel
theorem dX11_ruled_35 : decode cX11_ruled 35 = .ok (.aload_n 0, 1) := by decide +kernel
theorem dX11_ruled_36 : decode cX11_ruled 36 = .ok (.getfield 46, 3) := by decide +kernel
theorem dX11_ruled_39 : decode cX11_ruled 39 = .ok (.bipush 7, 2) := by decide +kernel
theorem dX11_ruled_41 : decode cX11_ruled 41 = .ok (.iload 6, 2) := by decide +kernel
theorem dX11_ruled_43 : decode cX11_ruled 43 = .ok (.iastore, 1) := by decide +kernel
theorem dX11_ruled_44 : decode cX11_ruled 44 = .ok (.aload_n 0, 1) := by decide +kernel
theorem dX11_ruled_45 : decode cX11_ruled 45 = .ok (.getfield 46, 3) := by decide +kernel
theorem dX11_ruled_48 : decode cX11_ruled 48 = .ok (.bipush 8, 2) := by decide +kernel
theorem dX11_ruled_50 : decode cX11_ruled 50 = .ok (.iload 7, 2) := by decide +kernel
theorem dX11_ruled_52 : decode cX11_ruled 52 = .ok (.iastore, 1) := by decide +kernel
theorem dX11_ruled_53 : decode cX11_ruled 53 = .ok (.aload_n 0, 1) := by decide +kernel
theorem dX11_ruled_54 : decode cX11_ruled 54 = .ok (.bipush 120, 2) := by decide +kernel
theorem dX11_ruled_56 : decode cX11_ruled 56 = .ok (.iload_n 1, 1) := by decide +kernel
theorem dX11_ruled_57 : decode cX11_ruled 57 = .ok (.imul, 1) := by decide +kernel
theorem dX11_ruled_58 : decode cX11_ruled 58 = .ok (.aload_n 0, 1) := by decide +kernel
theorem dX11_ruled_59 : decode cX11_ruled 59 = .ok (.getfield 43, 3) := by decide +kernel
theorem dX11_ruled_62 : decode cX11_ruled 62 = .ok (.iload_n 1, 1) := by decide +kernel
theorem dX11_ruled_63 : decode cX11_ruled 63 = .ok (.iaload, 1) := by decide +kernel
theorem dX11_ruled_64 : decode cX11_ruled 64 = .ok (.invokevirtual 238, 3) := by decide +kernel
theorem dX11_ruled_67 : decode cX11_ruled 67 = .ok (.istore 8, 2) := by decide +kernel
theorem dX11_ruled_69 : decode cX11_ruled 69 = .ok (.iload 8, 2) := by decide +kernel
theorem dX11_ruled_71 : decode cX11_ruled 71 = .ok (.ifCond .ge 7, 3) := by decide +kernel
theorem dX11_ruled_74 : decode cX11_ruled 74 = .ok (.iconst 0, 1) := by decide +kernel
theorem dX11_ruled_75 : decode cX11_ruled 75 = .ok (.goto 19, 3) := by decide +kernel
theorem dX11_ruled_78 : decode cX11_ruled 78 = .ok (.iload 8, 2) := by decide +kernel
theorem dX11_ruled_80 : decode cX11_ruled 80 = .ok (.sipush 1200, 3) := by decide +kernel
theorem dX11_ruled_83 : decode cX11_ruled 83 = .ok (.if_icmp .le 9, 3) := by decide +kernel
theorem dX11_ruled_86 : decode cX11_ruled 86 = .ok (.sipush 1200, 3) := by decide +kernel
theorem dX11_ruled_89 : decode cX11_ruled 89 = .ok (.goto 5, 3) := by decide +kernel
theorem dX11_ruled_92 : decode cX11_ruled 92 = .ok (.iload 8, 2) := by decide +kernel
theorem dX11_ruled_94 : decode cX11_ruled 94 = .ok (.ireturn, 1) := by decide +kernel
theorem dX11_waterLeaves_0 : decode cX11_waterLeaves 0 = .ok (.aload_n 0, 1) := by decide +kernel
theorem dX11_waterLeaves_1 : decode cX11_waterLeaves 1 = .ok (.invokevirtual 167, 3) := by decide +kernel
theorem dX11_waterLeaves_4 : decode cX11_waterLeaves 4 = .ok (.istore 5, 2) := by decide +kernel
theorem dX11_waterLeaves_6 : decode cX11_waterLeaves 6 = .ok (.iconst 0, 1) := by decide +kernel
theorem dX11_waterLeaves_7 : decode cX11_waterLeaves 7 = .ok (.istore 6, 2) := by decide +kernel
theorem dX11_waterLeaves_9 : decode cX11_waterLeaves 9 = .ok (.iload 6, 2) := by decide +kernel
theorem dX11_waterLeaves_11 : decode cX11_waterLeaves 11 = .ok (.aload_n 0, 1) := by decide +kernel
theorem dX11_waterLeaves_12 : decode cX11_waterLeaves 12 = .ok (.getfield 103, 3) := by decide +kernel
theorem dX11_waterLeaves_15 : decode cX11_waterLeaves 15 = .ok (.if_icmp .ge 160, 3) := by decide +kernel
theorem dX11_waterLeaves_18 : decode cX11_waterLeaves 18 = .ok (.aload_n 0, 1) := by decide +kernel
theorem dX11_waterLeaves_19 : decode cX11_waterLeaves 19 = .ok (.getfield 9, 3) := by decide +kernel
theorem dX11_waterLeaves_22 : decode cX11_waterLeaves 22 = .ok (.bipush 12, 2) := by decide +kernel
theorem dX11_waterLeaves_24 : decode cX11_waterLeaves 24 = .ok (.iload 6, 2) := by decide +kernel
theorem dX11_waterLeaves_26 : decode cX11_waterLeaves 26 = .ok (.iadd, 1) := by decide +kernel
theorem dX11_waterLeaves_27 : decode cX11_waterLeaves 27 = .ok (.iaload, 1) := by decide +kernel
theorem dX11_waterLeaves_28 : decode cX11_waterLeaves 28 = .ok (.istore 7, 2) := by decide +kernel
theorem dX11_waterLeaves_30 : decode cX11_waterLeaves 30 = .ok (.iload 7, 2) := by decide +kernel
theorem dX11_waterLeaves_32 : decode cX11_waterLeaves 32 = .ok (.iload_n 1, 1) := by decide +kernel
theorem dX11_waterLeaves_33 : decode cX11_waterLeaves 33 = .ok (.imul, 1) := by decide +kernel
theorem dX11_waterLeaves_34 : decode cX11_waterLeaves 34 = .ok (.sipush 6000, 3) := by decide +kernel
theorem dX11_waterLeaves_37 : decode cX11_waterLeaves 37 = .ok (.idiv, 1) := by decide +kernel
theorem dX11_waterLeaves_38 : decode cX11_waterLeaves 38 = .ok (.istore 8, 2) := by decide +kernel
theorem dX11_waterLeaves_40 : decode cX11_waterLeaves 40 = .ok (.aload_n 0, 1) := by decide +kernel
theorem dX11_waterLeaves_41 : decode cX11_waterLeaves 41 = .ok (.getfield 89, 3) := by decide +kernel
theorem dX11_waterLeaves_44 : decode cX11_waterLeaves 44 = .ok (.ifCond .lt 89, 3) := by decide +kernel
theorem dX11_waterLeaves_47 : decode cX11_waterLeaves 47 = .ok (.aload_n 0, 1) := by decide +kernel
theorem dX11_waterLeaves_48 : decode cX11_waterLeaves 48 = .ok (.invokevirtual 244, 3) := by decide +kernel
theorem dX11_waterLeaves_51 : decode cX11_waterLeaves 51 = .ok (.aload_n 0, 1) := by decide +kernel
theorem dX11_waterLeaves_52 : decode cX11_waterLeaves 52 = .ok (.getfield 46, 3) := by decide +kernel
theorem dX11_waterLeaves_55 : decode cX11_waterLeaves 55 = .ok (.iconst 0, 1) := by decide +kernel
theorem dX11_waterLeaves_56 : decode cX11_waterLeaves 56 = .ok (.iload 7, 2) := by decide +kernel
theorem dX11_waterLeaves_58 : decode cX11_waterLeaves 58 = .ok (.iastore, 1) := by decide +kernel
theorem dX11_waterLeaves_59 : decode cX11_waterLeaves 59 = .ok (.aload_n 0, 1) := by decide +kernel
theorem dX11_waterLeaves_60 : decode cX11_waterLeaves 60 = .ok (.getfield 46, 3) := by decide +kernel
theorem dX11_waterLeaves_63 : decode cX11_waterLeaves 63 = .ok (.iconst 1, 1) := by decide +kernel
theorem dX11_waterLeaves_64 : decode cX11_waterLeaves 64 = .ok (.aload_n 0, 1) := by decide +kernel
theorem dX11_waterLeaves_65 : decode cX11_waterLeaves 65 = .ok (.getfield 22, 3) := by decide +kernel
theorem dX11_waterLeaves_68 : decode cX11_waterLeaves 68 = .ok (.iload 6, 2) := by decide +kernel
theorem dX11_waterLeaves_70 : decode cX11_waterLeaves 70 = .ok (.iaload, 1) := by decide +kernel
theorem dX11_waterLeaves_71 : decode cX11_waterLeaves 71 = .ok (.iastore, 1) := by decide +kernel
theorem dX11_waterLeaves_72 : decode cX11_waterLeaves 72 = .ok (.aload_n 0, 1) := by decide +kernel
theorem dX11_waterLeaves_73 : decode cX11_waterLeaves 73 = .ok (.getfield 46, 3) := by decide +kernel
theorem dX11_waterLeaves_76 : decode cX11_waterLeaves 76 = .ok (.iconst 2, 1) := by decide +kernel
theorem dX11_waterLeaves_77 : decode cX11_waterLeaves 77 = .ok (.iload_n 1, 1) := by decide +kernel
theorem dX11_waterLeaves_78 : decode cX11_waterLeaves 78 = .ok (.iastore, 1) := by decide +kernel
theorem dX11_waterLeaves_79 : decode cX11_waterLeaves 79 = .ok (.aload_n 0, 1) := by decide +kernel
theorem dX11_waterLeaves_80 : decode cX11_waterLeaves 80 = .ok (.getfield 46, 3) := by decide +kernel
theorem dX11_waterLeaves_83 : decode cX11_waterLeaves 83 = .ok (.iconst 3, 1) := by decide +kernel
theorem dX11_waterLeaves_84 : decode cX11_waterLeaves 84 = .ok (.iload_n 2, 1) := by decide +kernel
theorem dX11_waterLeaves_85 : decode cX11_waterLeaves 85 = .ok (.iastore, 1) := by decide +kernel
theorem dX11_waterLeaves_86 : decode cX11_waterLeaves 86 = .ok (.aload_n 0, 1) := by decide +kernel
theorem dX11_waterLeaves_87 : decode cX11_waterLeaves 87 = .ok (.getfield 46, 3) := by decide +kernel
theorem dX11_waterLeaves_90 : decode cX11_waterLeaves 90 = .ok (.iconst 4, 1) := by decide +kernel
theorem dX11_waterLeaves_91 : decode cX11_waterLeaves 91 = .ok (.iload 5, 2) := by decide +kernel
theorem dX11_waterLeaves_93 : decode cX11_waterLeaves 93 = .ok (.iastore, 1) := by decide +kernel
theorem dX11_waterLeaves_94 : decode cX11_waterLeaves 94 = .ok (.aload_n 0, 1) := by decide +kernel
theorem dX11_waterLeaves_95 : decode cX11_waterLeaves 95 = .ok (.getfield 46, 3) := by decide +kernel
theorem dX11_waterLeaves_98 : decode cX11_waterLeaves 98 = .ok (.bipush 7, 2) := by decide +kernel
theorem dX11_waterLeaves_100 : decode cX11_waterLeaves 100 = .ok (.iload_n 3, 1) := by decide +kernel
theorem dX11_waterLeaves_101 : decode cX11_waterLeaves 101 = .ok (.iastore, 1) := by decide +kernel
theorem dX11_waterLeaves_102 : decode cX11_waterLeaves 102 = .ok (.aload_n 0, 1) := by decide +kernel
theorem dX11_waterLeaves_103 : decode cX11_waterLeaves 103 = .ok (.getfield 46, 3) := by decide +kernel
theorem dX11_waterLeaves_106 : decode cX11_waterLeaves 106 = .ok (.bipush 8, 2) := by decide +kernel
theorem dX11_waterLeaves_108 : decode cX11_waterLeaves 108 = .ok (.iload 4, 2) := by decide +kernel
theorem dX11_waterLeaves_110 : decode cX11_waterLeaves 110 = .ok (.iastore, 1) := by decide +kernel
theorem dX11_waterLeaves_111 : decode cX11_waterLeaves 111 = .ok (.aload_n 0, 1) := by decide +kernel
theorem dX11_waterLeaves_112 : decode cX11_waterLeaves 112 = .ok (.bipush 120, 2) := by decide +kernel
theorem dX11_waterLeaves_114 : decode cX11_waterLeaves 114 = .ok (.aload_n 0, 1) := by decide +kernel
theorem dX11_waterLeaves_115 : decode cX11_waterLeaves 115 = .ok (.getfield 89, 3) := by decide +kernel
theorem dX11_waterLeaves_118 : decode cX11_waterLeaves 118 = .ok (.imul, 1) := by decide +kernel
theorem dX11_waterLeaves_119 : decode cX11_waterLeaves 119 = .ok (.aload_n 0, 1) := by decide +kernel
theorem dX11_waterLeaves_120 : decode cX11_waterLeaves 120 = .ok (.getfield 43, 3) := by decide +kernel
theorem dX11_waterLeaves_123 : decode cX11_waterLeaves 123 = .ok (.aload_n 0, 1) := by decide +kernel
theorem dX11_waterLeaves_124 : decode cX11_waterLeaves 124 = .ok (.getfield 89, 3) := by decide +kernel
theorem dX11_waterLeaves_127 : decode cX11_waterLeaves 127 = .ok (.iaload, 1) := by decide +kernel
theorem dX11_waterLeaves_128 : decode cX11_waterLeaves 128 = .ok (.invokevirtual 238, 3) := by decide +kernel
theorem dX11_waterLeaves_131 : decode cX11_waterLeaves 131 = .ok (.istore 8, 2) := by decide +kernel
theorem dX11_waterLeaves_133 : decode cX11_waterLeaves 133 = .ok (.aload_n 0, 1) := by decide +kernel
theorem dX11_waterLeaves_134 : decode cX11_waterLeaves 134 = .ok (.getfield 9, 3) := by decide +kernel
theorem dX11_waterLeaves_137 : decode cX11_waterLeaves 137 = .ok (.bipush 12, 2) := by decide +kernel
theorem dX11_waterLeaves_139 : decode cX11_waterLeaves 139 = .ok (.iload 6, 2) := by decide +kernel
theorem dX11_waterLeaves_141 : decode cX11_waterLeaves 141 = .ok (.iadd, 1) := by decide +kernel
theorem dX11_waterLeaves_142 : decode cX11_waterLeaves 142 = .ok (.iload 7, 2) := by decide +kernel
theorem dX11_waterLeaves_144 : decode cX11_waterLeaves 144 = .ok (.iload 8, 2) := by decide +kernel
theorem dX11_waterLeaves_146 : decode cX11_waterLeaves 146 = .ok (.ifCond .ge 7, 3) := by decide +kernel
theorem dX11_waterLeaves_149 : decode cX11_waterLeaves 149 = .ok (.iconst 0, 1) := by decide +kernel
theorem dX11_waterLeaves_150 : decode cX11_waterLeaves 150 = .ok (.goto 17, 3) := by decide +kernel
theorem dX11_waterLeaves_153 : decode cX11_waterLeaves 153 = .ok (.iload 8, 2) := by decide +kernel
theorem dX11_waterLeaves_155 : decode cX11_waterLeaves 155 = .ok (.iload 7, 2) := by decide +kernel
theorem dX11_waterLeaves_157 : decode cX11_waterLeaves 157 = .ok (.if_icmp .le 8, 3) := by decide +kernel
theorem dX11_waterLeaves_160 : decode cX11_waterLeaves 160 = .ok (.iload 7, 2) := by decide +kernel
theorem dX11_waterLeaves_162 : decode cX11_waterLeaves 162 = .ok (.goto 5, 3) := by decide +kernel
theorem dX11_waterLeaves_165 : decode cX11_waterLeaves 165 = .ok (.iload 8, 2) := by decide +kernel
theorem dX11_waterLeaves_167 : decode cX11_waterLeaves 167 = .ok (.isub, 1) := by decide +kernel
theorem dX11_waterLeaves_168 : decode cX11_waterLeaves 168 = .ok (.iastore, 1) := by decide +kernel
theorem dX11_waterLeaves_169 : decode cX11_waterLeaves 169 = .ok (.iinc 6 1, 3) := by decide +kernel
theorem dX11_waterLeaves_172 : decode cX11_waterLeaves 172 = .ok (.goto (-163), 3) := by decide +kernel
theorem dX11_waterLeaves_175 : decode cX11_waterLeaves 175 = .ok (.return_, 1) := by decide +kernel
theorem dX11_drawn_0 : decode cX11_drawn 0 = .ok (.aload_n 0, 1) := by decide +kernel
theorem dX11_drawn_1 : decode cX11_drawn 1 = .ok (.aload_n 0, 1) := by decide +kernel
theorem dX11_drawn_2 : decode cX11_drawn 2 = .ok (.getfield 247, 3) := by decide +kernel
theorem dX11_drawn_5 : decode cX11_drawn 5 = .ok (.ldc 250, 2) := by decide +kernel
theorem dX11_drawn_7 : decode cX11_drawn 7 = .ok (.imul, 1) := by decide +kernel
theorem dX11_drawn_8 : decode cX11_drawn 8 = .ok (.sipush 12345, 3) := by decide +kernel
theorem dX11_drawn_11 : decode cX11_drawn 11 = .ok (.iadd, 1) := by decide +kernel
theorem dX11_drawn_12 : decode cX11_drawn 12 = .ok (.putfield 247, 3) := by decide +kernel
theorem dX11_drawn_15 : decode cX11_drawn 15 = .ok (.aload_n 0, 1) := by decide +kernel
theorem dX11_drawn_16 : decode cX11_drawn 16 = .ok (.getfield 247, 3) := by decide +kernel
theorem dX11_drawn_19 : decode cX11_drawn 19 = .ok (.bipush 8, 2) := by decide +kernel
theorem dX11_drawn_21 : decode cX11_drawn 21 = .ok (.iushr, 1) := by decide +kernel
theorem dX11_drawn_22 : decode cX11_drawn 22 = .ok (.iload_n 1, 1) := by decide +kernel
theorem dX11_drawn_23 : decode cX11_drawn 23 = .ok (.irem, 1) := by decide +kernel
theorem dX11_drawn_24 : decode cX11_drawn 24 = .ok (.ireturn, 1) := by decide +kernel
theorem dX11_tumbles_0 : decode cX11_tumbles 0 = .ok (.iconst 0, 1) := by decide +kernel
theorem dX11_tumbles_1 : decode cX11_tumbles 1 = .ok (.istore_n 1, 1) := by decide +kernel
theorem dX11_tumbles_2 : decode cX11_tumbles 2 = .ok (.iload_n 1, 1) := by decide +kernel
theorem dX11_tumbles_3 : decode cX11_tumbles 3 = .ok (.aload_n 0, 1) := by decide +kernel
theorem dX11_tumbles_4 : decode cX11_tumbles 4 = .ok (.getfield 103, 3) := by decide +kernel
theorem dX11_tumbles_7 : decode cX11_tumbles 7 = .ok (.if_icmp .ge 24, 3) := by decide +kernel
theorem dX11_tumbles_10 : decode cX11_tumbles 10 = .ok (.aload_n 0, 1) := by decide +kernel
theorem dX11_tumbles_11 : decode cX11_tumbles 11 = .ok (.getfield 9, 3) := by decide +kernel
theorem dX11_tumbles_14 : decode cX11_tumbles 14 = .ok (.bipush 24, 2) := by decide +kernel
theorem dX11_tumbles_16 : decode cX11_tumbles 16 = .ok (.iload_n 1, 1) := by decide +kernel
theorem dX11_tumbles_17 : decode cX11_tumbles 17 = .ok (.iadd, 1) := by decide +kernel
theorem dX11_tumbles_18 : decode cX11_tumbles 18 = .ok (.aload_n 0, 1) := by decide +kernel
theorem dX11_tumbles_19 : decode cX11_tumbles 19 = .ok (.bipush 12, 2) := by decide +kernel
theorem dX11_tumbles_21 : decode cX11_tumbles 21 = .ok (.invokevirtual 251, 3) := by decide +kernel
theorem dX11_tumbles_24 : decode cX11_tumbles 24 = .ok (.iastore, 1) := by decide +kernel
theorem dX11_tumbles_25 : decode cX11_tumbles 25 = .ok (.iinc 1 1, 3) := by decide +kernel
theorem dX11_tumbles_28 : decode cX11_tumbles 28 = .ok (.goto (-26), 3) := by decide +kernel
theorem dX11_tumbles_31 : decode cX11_tumbles 31 = .ok (.return_, 1) := by decide +kernel
theorem dX11_keepsLoad_0 : decode cX11_keepsLoad 0 = .ok (.iconst 0, 1) := by decide +kernel
theorem dX11_keepsLoad_1 : decode cX11_keepsLoad 1 = .ok (.istore_n 1, 1) := by decide +kernel
theorem dX11_keepsLoad_2 : decode cX11_keepsLoad 2 = .ok (.iload_n 1, 1) := by decide +kernel
theorem dX11_keepsLoad_3 : decode cX11_keepsLoad 3 = .ok (.bipush 36, 2) := by decide +kernel
theorem dX11_keepsLoad_5 : decode cX11_keepsLoad 5 = .ok (.if_icmp .gt 21, 3) := by decide +kernel
theorem dX11_keepsLoad_8 : decode cX11_keepsLoad 8 = .ok (.aload_n 0, 1) := by decide +kernel
theorem dX11_keepsLoad_9 : decode cX11_keepsLoad 9 = .ok (.getfield 49, 3) := by decide +kernel
theorem dX11_keepsLoad_12 : decode cX11_keepsLoad 12 = .ok (.iload_n 1, 1) := by decide +kernel
theorem dX11_keepsLoad_13 : decode cX11_keepsLoad 13 = .ok (.aload_n 0, 1) := by decide +kernel
theorem dX11_keepsLoad_14 : decode cX11_keepsLoad 14 = .ok (.getfield 9, 3) := by decide +kernel
theorem dX11_keepsLoad_17 : decode cX11_keepsLoad 17 = .ok (.iload_n 1, 1) := by decide +kernel
theorem dX11_keepsLoad_18 : decode cX11_keepsLoad 18 = .ok (.iaload, 1) := by decide +kernel
theorem dX11_keepsLoad_19 : decode cX11_keepsLoad 19 = .ok (.iastore, 1) := by decide +kernel
theorem dX11_keepsLoad_20 : decode cX11_keepsLoad 20 = .ok (.iinc 1 1, 3) := by decide +kernel
theorem dX11_keepsLoad_23 : decode cX11_keepsLoad 23 = .ok (.goto (-21), 3) := by decide +kernel
theorem dX11_keepsLoad_26 : decode cX11_keepsLoad 26 = .ok (.return_, 1) := by decide +kernel
theorem dX11_laysBack_0 : decode cX11_laysBack 0 = .ok (.iconst 0, 1) := by decide +kernel
theorem dX11_laysBack_1 : decode cX11_laysBack 1 = .ok (.istore_n 1, 1) := by decide +kernel
theorem dX11_laysBack_2 : decode cX11_laysBack 2 = .ok (.iload_n 1, 1) := by decide +kernel
theorem dX11_laysBack_3 : decode cX11_laysBack 3 = .ok (.bipush 36, 2) := by decide +kernel
theorem dX11_laysBack_5 : decode cX11_laysBack 5 = .ok (.if_icmp .gt 21, 3) := by decide +kernel
theorem dX11_laysBack_8 : decode cX11_laysBack 8 = .ok (.aload_n 0, 1) := by decide +kernel
theorem dX11_laysBack_9 : decode cX11_laysBack 9 = .ok (.getfield 9, 3) := by decide +kernel
theorem dX11_laysBack_12 : decode cX11_laysBack 12 = .ok (.iload_n 1, 1) := by decide +kernel
theorem dX11_laysBack_13 : decode cX11_laysBack 13 = .ok (.aload_n 0, 1) := by decide +kernel
theorem dX11_laysBack_14 : decode cX11_laysBack 14 = .ok (.getfield 49, 3) := by decide +kernel
theorem dX11_laysBack_17 : decode cX11_laysBack 17 = .ok (.iload_n 1, 1) := by decide +kernel
theorem dX11_laysBack_18 : decode cX11_laysBack 18 = .ok (.iaload, 1) := by decide +kernel
theorem dX11_laysBack_19 : decode cX11_laysBack 19 = .ok (.iastore, 1) := by decide +kernel
theorem dX11_laysBack_20 : decode cX11_laysBack 20 = .ok (.iinc 1 1, 3) := by decide +kernel
theorem dX11_laysBack_23 : decode cX11_laysBack 23 = .ok (.goto (-21), 3) := by decide +kernel
theorem dX11_laysBack_26 : decode cX11_laysBack 26 = .ok (.return_, 1) := by decide +kernel
theorem dX11_heldSpot_0 : decode cX11_heldSpot 0 = .ok (.iload_n 0, 1) := by decide +kernel
theorem dX11_heldSpot_1 : decode cX11_heldSpot 1 = .ok (.sipush (-9999), 3) := by decide +kernel
theorem dX11_heldSpot_4 : decode cX11_heldSpot 4 = .ok (.if_icmp .ge 9, 3) := by decide +kernel
theorem dX11_heldSpot_7 : decode cX11_heldSpot 7 = .ok (.sipush (-9999), 3) := by decide +kernel
theorem dX11_heldSpot_10 : decode cX11_heldSpot 10 = .ok (.goto 17, 3) := by decide +kernel
theorem dX11_heldSpot_13 : decode cX11_heldSpot 13 = .ok (.iload_n 0, 1) := by decide +kernel
theorem dX11_heldSpot_14 : decode cX11_heldSpot 14 = .ok (.sipush 9999, 3) := by decide +kernel
theorem dX11_heldSpot_17 : decode cX11_heldSpot 17 = .ok (.if_icmp .le 9, 3) := by decide +kernel
theorem dX11_heldSpot_20 : decode cX11_heldSpot 20 = .ok (.sipush 9999, 3) := by decide +kernel
theorem dX11_heldSpot_23 : decode cX11_heldSpot 23 = .ok (.goto 4, 3) := by decide +kernel
theorem dX11_heldSpot_26 : decode cX11_heldSpot 26 = .ok (.iload_n 0, 1) := by decide +kernel
theorem dX11_heldSpot_27 : decode cX11_heldSpot 27 = .ok (.ireturn, 1) := by decide +kernel
theorem dX11_seenAt_0 : decode cX11_seenAt 0 = .ok (.iload_n 1, 1) := by decide +kernel
theorem dX11_seenAt_1 : decode cX11_seenAt 1 = .ok (.aload_n 0, 1) := by decide +kernel
theorem dX11_seenAt_2 : decode cX11_seenAt 2 = .ok (.getfield 25, 3) := by decide +kernel
theorem dX11_seenAt_5 : decode cX11_seenAt 5 = .ok (.iconst 2, 1) := by decide +kernel
theorem dX11_seenAt_6 : decode cX11_seenAt 6 = .ok (.iaload, 1) := by decide +kernel
theorem dX11_seenAt_7 : decode cX11_seenAt 7 = .ok (.isub, 1) := by decide +kernel
