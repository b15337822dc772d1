theorem dX12_one_181 : decode cX12_one 181 = .ok (.iload_n 1, 1) := by decide +kernel
theorem dX12_one_182 : decode cX12_one 182 = .ok (.bipush 57, 2) := by decide +kernel
theorem dX12_one_184 : decode cX12_one 184 = .ok (.if_icmp .le 8, 3) := by decide +kernel
theorem dX12_one_187 : decode cX12_one 187 = .ok (.aload_n 0, 1) := by decide +kernel
theorem dX12_one_188 : decode cX12_one 188 = .ok (.invokevirtual 265, 3) := by decide +kernel
theorem dX12_one_191 : decode cX12_one 191 = .ok (.ireturn, 1) := by decide +kernel
theorem dX12_one_192 : decode cX12_one 192 = .ok (.iconst 0, 1) := by decide +kernel
theorem dX12_one_193 : decode cX12_one 193 = .ok (.istore_n 3, 1) := by decide +kernel
theorem dX12_one_194 : decode cX12_one 194 = .ok (.iconst 0, 1) := by decide +kernel
theorem dX12_one_195 : decode cX12_one 195 = .ok (.istore 4, 2) := by decide +kernel
theorem dX12_one_197 : decode cX12_one 197 = .ok (.aload_n 0, 1) := by decide +kernel
theorem dX12_one_198 : decode cX12_one 198 = .ok (.invokevirtual 256, 3) := by decide +kernel
theorem dX12_one_201 : decode cX12_one 201 = .ok (.bipush 48, 2) := by decide +kernel
theorem dX12_one_203 : decode cX12_one 203 = .ok (.if_icmp .lt 53, 3) := by decide +kernel
theorem dX12_one_206 : decode cX12_one 206 = .ok (.aload_n 0, 1) := by decide +kernel
theorem dX12_one_207 : decode cX12_one 207 = .ok (.invokevirtual 256, 3) := by decide +kernel
theorem dX12_one_210 : decode cX12_one 210 = .ok (.bipush 57, 2) := by decide +kernel
theorem dX12_one_212 : decode cX12_one 212 = .ok (.if_icmp .gt 44, 3) := by decide +kernel
theorem dX12_one_215 : decode cX12_one 215 = .ok (.iload 4, 2) := by decide +kernel
theorem dX12_one_217 : decode cX12_one 217 = .ok (.bipush 6, 2) := by decide +kernel
theorem dX12_one_219 : decode cX12_one 219 = .ok (.if_icmp .ne 8, 3) := by decide +kernel
theorem dX12_one_222 : decode cX12_one 222 = .ok (.aload_n 0, 1) := by decide +kernel
theorem dX12_one_223 : decode cX12_one 223 = .ok (.invokevirtual 265, 3) := by decide +kernel
theorem dX12_one_226 : decode cX12_one 226 = .ok (.ireturn, 1) := by decide +kernel
theorem dX12_one_227 : decode cX12_one 227 = .ok (.bipush 10, 2) := by decide +kernel
theorem dX12_one_229 : decode cX12_one 229 = .ok (.iload_n 3, 1) := by decide +kernel
theorem dX12_one_230 : decode cX12_one 230 = .ok (.imul, 1) := by decide +kernel
theorem dX12_one_231 : decode cX12_one 231 = .ok (.aload_n 0, 1) := by decide +kernel
theorem dX12_one_232 : decode cX12_one 232 = .ok (.invokevirtual 256, 3) := by decide +kernel
theorem dX12_one_235 : decode cX12_one 235 = .ok (.iadd, 1) := by decide +kernel
theorem dX12_one_236 : decode cX12_one 236 = .ok (.bipush 48, 2) := by decide +kernel
theorem dX12_one_238 : decode cX12_one 238 = .ok (.isub, 1) := by decide +kernel
theorem dX12_one_239 : decode cX12_one 239 = .ok (.istore_n 3, 1) := by decide +kernel
theorem dX12_one_240 : decode cX12_one 240 = .ok (.iinc 4 1, 3) := by decide +kernel
theorem dX12_one_243 : decode cX12_one 243 = .ok (.aload_n 0, 1) := by decide +kernel
theorem dX12_one_244 : decode cX12_one 244 = .ok (.dup, 1) := by decide +kernel
theorem dX12_one_245 : decode cX12_one 245 = .ok (.getfield 240, 3) := by decide +kernel
theorem dX12_one_248 : decode cX12_one 248 = .ok (.iconst 1, 1) := by decide +kernel
theorem dX12_one_249 : decode cX12_one 249 = .ok (.iadd, 1) := by decide +kernel
theorem dX12_one_250 : decode cX12_one 250 = .ok (.putfield 240, 3) := by decide +kernel
theorem dX12_one_253 : decode cX12_one 253 = .ok (.goto (-56), 3) := by decide +kernel
theorem dX12_one_256 : decode cX12_one 256 = .ok (.iload_n 3, 1) := by decide +kernel
theorem dX12_one_257 : decode cX12_one 257 = .ok (.ireturn, 1) := by decide +kernel
theorem dX12_band_0 : decode cX12_band 0 = .ok (.aload_n 0, 1) := by decide +kernel
theorem dX12_band_1 : decode cX12_band 1 = .ok (.invokevirtual 268, 3) := by decide +kernel
theorem dX12_band_4 : decode cX12_band 4 = .ok (.istore_n 1, 1) := by decide +kernel
theorem dX12_band_5 : decode cX12_band 5 = .ok (.aload_n 0, 1) := by decide +kernel
theorem dX12_band_6 : decode cX12_band 6 = .ok (.invokevirtual 256, 3) := by decide +kernel
theorem dX12_band_9 : decode cX12_band 9 = .ok (.istore_n 2, 1) := by decide +kernel
theorem dX12_band_10 : decode cX12_band 10 = .ok (.aload_n 0, 1) := by decide +kernel
theorem dX12_band_11 : decode cX12_band 11 = .ok (.iconst 1, 1) := by decide +kernel
theorem dX12_band_12 : decode cX12_band 12 = .ok (.putfield 271, 3) := by decide +kernel
theorem dX12_band_15 : decode cX12_band 15 = .ok (.aload_n 0, 1) := by decide +kernel
theorem dX12_band_16 : decode cX12_band 16 = .ok (.getfield 249, 3) := by decide +kernel
theorem dX12_band_19 : decode cX12_band 19 = .ok (.ifCond .ge 21, 3) := by decide +kernel
theorem dX12_band_22 : decode cX12_band 22 = .ok (.iload_n 2, 1) := by decide +kernel
theorem dX12_band_23 : decode cX12_band 23 = .ok (.bipush 60, 2) := by decide +kernel
theorem dX12_band_25 : decode cX12_band 25 = .ok (.if_icmp .eq 17, 3) := by decide +kernel
theorem dX12_band_28 : decode cX12_band 28 = .ok (.iload_n 2, 1) := by decide +kernel
theorem dX12_band_29 : decode cX12_band 29 = .ok (.bipush 61, 2) := by decide +kernel
theorem dX12_band_31 : decode cX12_band 31 = .ok (.if_icmp .eq 11, 3) := by decide +kernel
theorem dX12_band_34 : decode cX12_band 34 = .ok (.iload_n 2, 1) := by decide +kernel
theorem dX12_band_35 : decode cX12_band 35 = .ok (.bipush 62, 2) := by decide +kernel
theorem dX12_band_37 : decode cX12_band 37 = .ok (.if_icmp .eq 5, 3) := by decide +kernel
theorem dX12_band_40 : decode cX12_band 40 = .ok (.iload_n 1, 1) := by decide +kernel
theorem dX12_band_41 : decode cX12_band 41 = .ok (.ireturn, 1) := by decide +kernel
theorem dX12_band_42 : decode cX12_band 42 = .ok (.aload_n 0, 1) := by decide +kernel
theorem dX12_band_43 : decode cX12_band 43 = .ok (.dup, 1) := by decide +kernel
theorem dX12_band_44 : decode cX12_band 44 = .ok (.getfield 240, 3) := by decide +kernel
theorem dX12_band_47 : decode cX12_band 47 = .ok (.iconst 1, 1) := by decide +kernel
theorem dX12_band_48 : decode cX12_band 48 = .ok (.iadd, 1) := by decide +kernel
theorem dX12_band_49 : decode cX12_band 49 = .ok (.putfield 240, 3) := by decide +kernel
theorem dX12_band_52 : decode cX12_band 52 = .ok (.aload_n 0, 1) := by decide +kernel
theorem dX12_band_53 : decode cX12_band 53 = .ok (.invokevirtual 268, 3) := by decide +kernel
theorem dX12_band_56 : decode cX12_band 56 = .ok (.istore_n 3, 1) := by decide +kernel
theorem dX12_band_57 : decode cX12_band 57 = .ok (.iload_n 2, 1) := by decide +kernel
theorem dX12_band_58 : decode cX12_band 58 = .ok (.bipush 60, 2) := by decide +kernel
theorem dX12_band_60 : decode cX12_band 60 = .ok (.if_icmp .ne 16, 3) := by decide +kernel
theorem dX12_band_63 : decode cX12_band 63 = .ok (.iload_n 1, 1) := by decide +kernel
theorem dX12_band_64 : decode cX12_band 64 = .ok (.iload_n 3, 1) := by decide +kernel
theorem dX12_band_65 : decode cX12_band 65 = .ok (.if_icmp .ge 7, 3) := by decide +kernel
theorem dX12_band_68 : decode cX12_band 68 = .ok (.iconst 1, 1) := by decide +kernel
theorem dX12_band_69 : decode cX12_band 69 = .ok (.goto 36, 3) := by decide +kernel
theorem dX12_band_72 : decode cX12_band 72 = .ok (.iconst 0, 1) := by decide +kernel
theorem dX12_band_73 : decode cX12_band 73 = .ok (.goto 32, 3) := by decide +kernel
theorem dX12_band_76 : decode cX12_band 76 = .ok (.iload_n 2, 1) := by decide +kernel
theorem dX12_band_77 : decode cX12_band 77 = .ok (.bipush 61, 2) := by decide +kernel
theorem dX12_band_79 : decode cX12_band 79 = .ok (.if_icmp .ne 16, 3) := by decide +kernel
theorem dX12_band_82 : decode cX12_band 82 = .ok (.iload_n 1, 1) := by decide +kernel
theorem dX12_band_83 : decode cX12_band 83 = .ok (.iload_n 3, 1) := by decide +kernel
theorem dX12_band_84 : decode cX12_band 84 = .ok (.if_icmp .ne 7, 3) := by decide +kernel
theorem dX12_band_87 : decode cX12_band 87 = .ok (.iconst 1, 1) := by decide +kernel
theorem dX12_band_88 : decode cX12_band 88 = .ok (.goto 17, 3) := by decide +kernel
theorem dX12_band_91 : decode cX12_band 91 = .ok (.iconst 0, 1) := by decide +kernel
theorem dX12_band_92 : decode cX12_band 92 = .ok (.goto 13, 3) := by decide +kernel
theorem dX12_band_95 : decode cX12_band 95 = .ok (.iload_n 1, 1) := by decide +kernel
theorem dX12_band_96 : decode cX12_band 96 = .ok (.iload_n 3, 1) := by decide +kernel
theorem dX12_band_97 : decode cX12_band 97 = .ok (.if_icmp .le 7, 3) := by decide +kernel
theorem dX12_band_100 : decode cX12_band 100 = .ok (.iconst 1, 1) := by decide +kernel
theorem dX12_band_101 : decode cX12_band 101 = .ok (.goto 4, 3) := by decide +kernel
theorem dX12_band_104 : decode cX12_band 104 = .ok (.iconst 0, 1) := by decide +kernel
theorem dX12_band_105 : decode cX12_band 105 = .ok (.istore 4, 2) := by decide +kernel
theorem dX12_band_107 : decode cX12_band 107 = .ok (.aload_n 0, 1) := by decide +kernel
theorem dX12_band_108 : decode cX12_band 108 = .ok (.getfield 249, 3) := by decide +kernel
theorem dX12_band_111 : decode cX12_band 111 = .ok (.ifCond .ge 17, 3) := by decide +kernel
theorem dX12_band_114 : decode cX12_band 114 = .ok (.aload_n 0, 1) := by decide +kernel
theorem dX12_band_115 : decode cX12_band 115 = .ok (.invokevirtual 256, 3) := by decide +kernel
theorem dX12_band_118 : decode cX12_band 118 = .ok (.bipush 44, 2) := by decide +kernel
theorem dX12_band_120 : decode cX12_band 120 = .ok (.if_icmp .eq 8, 3) := by decide +kernel
theorem dX12_band_123 : decode cX12_band 123 = .ok (.aload_n 0, 1) := by decide +kernel
theorem dX12_band_124 : decode cX12_band 124 = .ok (.invokevirtual 265, 3) := by decide +kernel
theorem dX12_band_127 : decode cX12_band 127 = .ok (.ireturn, 1) := by decide +kernel
theorem dX12_band_128 : decode cX12_band 128 = .ok (.aload_n 0, 1) := by decide +kernel
theorem dX12_band_129 : decode cX12_band 129 = .ok (.dup, 1) := by decide +kernel
theorem dX12_band_130 : decode cX12_band 130 = .ok (.getfield 240, 3) := by decide +kernel
theorem dX12_band_133 : decode cX12_band 133 = .ok (.iconst 1, 1) := by decide +kernel
theorem dX12_band_134 : decode cX12_band 134 = .ok (.iadd, 1) := by decide +kernel
theorem dX12_band_135 : decode cX12_band 135 = .ok (.putfield 240, 3) := by decide +kernel
theorem dX12_band_138 : decode cX12_band 138 = .ok (.aload_n 0, 1) := by decide +kernel
theorem dX12_band_139 : decode cX12_band 139 = .ok (.getfield 249, 3) := by decide +kernel
theorem dX12_band_142 : decode cX12_band 142 = .ok (.ifCond .ge 10, 3) := by decide +kernel
theorem dX12_band_145 : decode cX12_band 145 = .ok (.aload_n 0, 1) := by decide +kernel
theorem dX12_band_146 : decode cX12_band 146 = .ok (.invokevirtual 268, 3) := by decide +kernel
theorem dX12_band_149 : decode cX12_band 149 = .ok (.goto 4, 3) := by decide +kernel
theorem dX12_band_152 : decode cX12_band 152 = .ok (.iconst 0, 1) := by decide +kernel
theorem dX12_band_153 : decode cX12_band 153 = .ok (.istore 5, 2) := by decide +kernel
theorem dX12_band_155 : decode cX12_band 155 = .ok (.aload_n 0, 1) := by decide +kernel
theorem dX12_band_156 : decode cX12_band 156 = .ok (.iload 4, 2) := by decide +kernel
theorem dX12_band_158 : decode cX12_band 158 = .ok (.putfield 271, 3) := by decide +kernel
theorem dX12_band_161 : decode cX12_band 161 = .ok (.iload 5, 2) := by decide +kernel
theorem dX12_band_163 : decode cX12_band 163 = .ok (.ireturn, 1) := by decide +kernel
theorem dX12_workOut_0 : decode cX12_workOut 0 = .ok (.aload_n 0, 1) := by decide +kernel
theorem dX12_workOut_1 : decode cX12_workOut 1 = .ok (.iload_n 1, 1) := by decide +kernel
theorem dX12_workOut_2 : decode cX12_workOut 2 = .ok (.putfield 246, 3) := by decide +kernel
theorem dX12_workOut_5 : decode cX12_workOut 5 = .ok (.aload_n 0, 1) := by decide +kernel
theorem dX12_workOut_6 : decode cX12_workOut 6 = .ok (.iconst 0, 1) := by decide +kernel
theorem dX12_workOut_7 : decode cX12_workOut 7 = .ok (.putfield 240, 3) := by decide +kernel
theorem dX12_workOut_10 : decode cX12_workOut 10 = .ok (.aload_n 0, 1) := by decide +kernel
theorem dX12_workOut_11 : decode cX12_workOut 11 = .ok (.iload_n 2, 1) := by decide +kernel
theorem dX12_workOut_12 : decode cX12_workOut 12 = .ok (.putfield 243, 3) := by decide +kernel
theorem dX12_workOut_15 : decode cX12_workOut 15 = .ok (.aload_n 0, 1) := by decide +kernel
theorem dX12_workOut_16 : decode cX12_workOut 16 = .ok (.iconst (-1), 1) := by decide +kernel
theorem dX12_workOut_17 : decode cX12_workOut 17 = .ok (.putfield 249, 3) := by decide +kernel
theorem dX12_workOut_20 : decode cX12_workOut 20 = .ok (.aload_n 0, 1) := by decide +kernel
theorem dX12_workOut_21 : decode cX12_workOut 21 = .ok (.iconst 0, 1) := by decide +kernel
theorem dX12_workOut_22 : decode cX12_workOut 22 = .ok (.putfield 262, 3) := by decide +kernel
theorem dX12_workOut_25 : decode cX12_workOut 25 = .ok (.iconst 0, 1) := by decide +kernel
theorem dX12_workOut_26 : decode cX12_workOut 26 = .ok (.istore_n 3, 1) := by decide +kernel
theorem dX12_workOut_27 : decode cX12_workOut 27 = .ok (.iconst 0, 1) := by decide +kernel
theorem dX12_workOut_28 : decode cX12_workOut 28 = .ok (.istore 4, 2) := by decide +kernel
theorem dX12_workOut_30 : decode cX12_workOut 30 = .ok (.iconst 1, 1) := by decide +kernel
theorem dX12_workOut_31 : decode cX12_workOut 31 = .ok (.istore 5, 2) := by decide +kernel
theorem dX12_workOut_33 : decode cX12_workOut 33 = .ok (.iload 5, 2) := by decide +kernel
theorem dX12_workOut_35 : decode cX12_workOut 35 = .ok (.ifCond .eq 90, 3) := by decide +kernel
theorem dX12_workOut_38 : decode cX12_workOut 38 = .ok (.aload_n 0, 1) := by decide +kernel
theorem dX12_workOut_39 : decode cX12_workOut 39 = .ok (.invokevirtual 274, 3) := by decide +kernel
theorem dX12_workOut_42 : decode cX12_workOut 42 = .ok (.istore 6, 2) := by decide +kernel
theorem dX12_workOut_44 : decode cX12_workOut 44 = .ok (.aload_n 0, 1) := by decide +kernel
theorem dX12_workOut_45 : decode cX12_workOut 45 = .ok (.getfield 249, 3) := by decide +kernel
theorem dX12_workOut_48 : decode cX12_workOut 48 = .ok (.ifCond .ge 21, 3) := by decide +kernel
theorem dX12_workOut_51 : decode cX12_workOut 51 = .ok (.aload_n 0, 1) := by decide +kernel
theorem dX12_workOut_52 : decode cX12_workOut 52 = .ok (.getfield 271, 3) := by decide +kernel
theorem dX12_workOut_55 : decode cX12_workOut 55 = .ok (.ifCond .eq 14, 3) := by decide +kernel
theorem dX12_workOut_58 : decode cX12_workOut 58 = .ok (.iload 4, 2) := by decide +kernel
theorem dX12_workOut_60 : decode cX12_workOut 60 = .ok (.ifCond .ne 9, 3) := by decide +kernel
theorem dX12_workOut_63 : decode cX12_workOut 63 = .ok (.iload 6, 2) := by decide +kernel
theorem dX12_workOut_65 : decode cX12_workOut 65 = .ok (.istore_n 3, 1) := by decide +kernel
theorem dX12_workOut_66 : decode cX12_workOut 66 = .ok (.iconst 1, 1) := by decide +kernel
theorem dX12_workOut_67 : decode cX12_workOut 67 = .ok (.istore 4, 2) := by decide +kernel
theorem dX12_workOut_69 : decode cX12_workOut 69 = .ok (.aload_n 0, 1) := by decide +kernel
theorem dX12_workOut_70 : decode cX12_workOut 70 = .ok (.getfield 249, 3) := by decide +kernel
theorem dX12_workOut_73 : decode cX12_workOut 73 = .ok (.ifCond .ge 27, 3) := by decide +kernel
theorem dX12_workOut_76 : decode cX12_workOut 76 = .ok (.aload_n 0, 1) := by decide +kernel
theorem dX12_workOut_77 : decode cX12_workOut 77 = .ok (.invokevirtual 256, 3) := by decide +kernel
theorem dX12_workOut_80 : decode cX12_workOut 80 = .ok (.bipush 59, 2) := by decide +kernel
theorem dX12_workOut_82 : decode cX12_workOut 82 = .ok (.if_icmp .ne 18, 3) := by decide +kernel
theorem dX12_workOut_85 : decode cX12_workOut 85 = .ok (.aload_n 0, 1) := by decide +kernel
theorem dX12_workOut_86 : decode cX12_workOut 86 = .ok (.getfield 240, 3) := by decide +kernel
theorem dX12_workOut_89 : decode cX12_workOut 89 = .ok (.aload_n 0, 1) := by decide +kernel
theorem dX12_workOut_90 : decode cX12_workOut 90 = .ok (.getfield 243, 3) := by decide +kernel
theorem dX12_workOut_93 : decode cX12_workOut 93 = .ok (.if_icmp .ge 7, 3) := by decide +kernel
theorem dX12_workOut_96 : decode cX12_workOut 96 = .ok (.iconst 1, 1) := by decide +kernel
theorem dX12_workOut_97 : decode cX12_workOut 97 = .ok (.goto 4, 3) := by decide +kernel
theorem dX12_workOut_100 : decode cX12_workOut 100 = .ok (.iconst 0, 1) := by decide +kernel
theorem dX12_workOut_101 : decode cX12_workOut 101 = .ok (.istore 5, 2) := by decide +kernel
theorem dX12_workOut_103 : decode cX12_workOut 103 = .ok (.aload_n 0, 1) := by decide +kernel
theorem dX12_workOut_104 : decode cX12_workOut 104 = .ok (.dup, 1) := by decide +kernel
theorem dX12_workOut_105 : decode cX12_workOut 105 = .ok (.getfield 240, 3) := by decide +kernel
theorem dX12_workOut_108 : decode cX12_workOut 108 = .ok (.iload 5, 2) := by decide +kernel
theorem dX12_workOut_110 : decode cX12_workOut 110 = .ok (.ifCond .eq 7, 3) := by decide +kernel
theorem dX12_workOut_113 : decode cX12_workOut 113 = .ok (.iconst 1, 1) := by decide +kernel
theorem dX12_workOut_114 : decode cX12_workOut 114 = .ok (.goto 4, 3) := by decide +kernel
theorem dX12_workOut_117 : decode cX12_workOut 117 = .ok (.iconst 0, 1) := by decide +kernel
theorem dX12_workOut_118 : decode cX12_workOut 118 = .ok (.iadd, 1) := by decide +kernel
theorem dX12_workOut_119 : decode cX12_workOut 119 = .ok (.putfield 240, 3) := by decide +kernel
theorem dX12_workOut_122 : decode cX12_workOut 122 = .ok (.goto (-89), 3) := by decide +kernel
theorem dX12_workOut_125 : decode cX12_workOut 125 = .ok (.aload_n 0, 1) := by decide +kernel
theorem dX12_workOut_126 : decode cX12_workOut 126 = .ok (.getfield 249, 3) := by decide +kernel
theorem dX12_workOut_129 : decode cX12_workOut 129 = .ok (.ifCond .ge 19, 3) := by decide +kernel
theorem dX12_workOut_132 : decode cX12_workOut 132 = .ok (.aload_n 0, 1) := by decide +kernel
theorem dX12_workOut_133 : decode cX12_workOut 133 = .ok (.getfield 240, 3) := by decide +kernel
theorem dX12_workOut_136 : decode cX12_workOut 136 = .ok (.aload_n 0, 1) := by decide +kernel
theorem dX12_workOut_137 : decode cX12_workOut 137 = .ok (.getfield 243, 3) := by decide +kernel
theorem dX12_workOut_140 : decode cX12_workOut 140 = .ok (.if_icmp .ge 8, 3) := by decide +kernel
theorem dX12_workOut_143 : decode cX12_workOut 143 = .ok (.aload_n 0, 1) := by decide +kernel
theorem dX12_workOut_144 : decode cX12_workOut 144 = .ok (.invokevirtual 265, 3) := by decide +kernel
theorem dX12_workOut_147 : decode cX12_workOut 147 = .ok (.ireturn, 1) := by decide +kernel
theorem dX12_workOut_148 : decode cX12_workOut 148 = .ok (.iload_n 3, 1) := by decide +kernel
theorem dX12_workOut_149 : decode cX12_workOut 149 = .ok (.ireturn, 1) := by decide +kernel
theorem dX12_terms_0 : decode cX12_terms 0 = .ok (.iload_n 1, 1) := by decide +kernel
theorem dX12_terms_1 : decode cX12_terms 1 = .ok (.iconst 0, 1) := by decide +kernel
theorem dX12_terms_2 : decode cX12_terms 2 = .ok (.iconst 2, 1) := by decide +kernel
theorem dX12_terms_3 : decode cX12_terms 3 = .ok (.invokestatic 142, 3) := by decide +kernel
theorem dX12_terms_6 : decode cX12_terms 6 = .ok (.ifCond .eq 10, 3) := by decide +kernel
theorem dX12_terms_9 : decode cX12_terms 9 = .ok (.iload_n 2, 1) := by decide +kernel
theorem dX12_terms_10 : decode cX12_terms 10 = .ok (.invokestatic 277, 3) := by decide +kernel
theorem dX12_terms_13 : decode cX12_terms 13 = .ok (.ifCond .ne 5, 3) := by decide +kernel
theorem dX12_terms_16 : decode cX12_terms 16 = .ok (.iconst (-1), 1) := by decide +kernel
theorem dX12_terms_17 : decode cX12_terms 17 = .ok (.ireturn, 1) := by decide +kernel
theorem dX12_terms_18 : decode cX12_terms 18 = .ok (.aload_n 0, 1) := by decide +kernel
theorem dX12_terms_19 : decode cX12_terms 19 = .ok (.getfield 280, 3) := by decide +kernel
theorem dX12_terms_22 : decode cX12_terms 22 = .ok (.bipush 20, 2) := by decide +kernel
theorem dX12_terms_24 : decode cX12_terms 24 = .ok (.if_icmp .ne 6, 3) := by decide +kernel
theorem dX12_terms_27 : decode cX12_terms 27 = .ok (.bipush (-2), 2) := by decide +kernel
theorem dX12_terms_29 : decode cX12_terms 29 = .ok (.ireturn, 1) := by decide +kernel
theorem dX12_terms_30 : decode cX12_terms 30 = .ok (.aload_n 0, 1) := by decide +kernel
theorem dX12_terms_31 : decode cX12_terms 31 = .ok (.iconst (-1), 1) := by decide +kernel
theorem dX12_terms_32 : decode cX12_terms 32 = .ok (.aload_n 0, 1) := by decide +kernel
theorem dX12_terms_33 : decode cX12_terms 33 = .ok (.getfield 237, 3) := by decide +kernel
theorem dX12_terms_36 : decode cX12_terms 36 = .ok (.invokevirtual 283, 3) := by decide +kernel
theorem dX12_terms_39 : decode cX12_terms 39 = .ok (.istore_n 3, 1) := by decide +kernel
theorem dX12_terms_40 : decode cX12_terms 40 = .ok (.aload_n 0, 1) := by decide +kernel
theorem dX12_terms_41 : decode cX12_terms 41 = .ok (.getfield 237, 3) := by decide +kernel
theorem dX12_terms_44 : decode cX12_terms 44 = .ok (.istore 4, 2) := by decide +kernel
theorem dX12_terms_46 : decode cX12_terms 46 = .ok (.aload_n 0, 1) := by decide +kernel
theorem dX12_terms_47 : decode cX12_terms 47 = .ok (.iconst 0, 1) := by decide +kernel
theorem dX12_terms_48 : decode cX12_terms 48 = .ok (.putfield 237, 3) := by decide +kernel
theorem dX12_terms_51 : decode cX12_terms 51 = .ok (.aload_n 0, 1) := by decide +kernel
theorem dX12_terms_52 : decode cX12_terms 52 = .ok (.getfield 249, 3) := by decide +kernel
theorem dX12_terms_55 : decode cX12_terms 55 = .ok (.ifCond .lt 11, 3) := by decide +kernel
theorem dX12_terms_58 : decode cX12_terms 58 = .ok (.bipush (-100), 2) := by decide +kernel
theorem dX12_terms_60 : decode cX12_terms 60 = .ok (.aload_n 0, 1) := by decide +kernel
theorem dX12_terms_61 : decode cX12_terms 61 = .ok (.getfield 249, 3) := by decide +kernel
theorem dX12_terms_64 : decode cX12_terms 64 = .ok (.isub, 1) := by decide +kernel
theorem dX12_terms_65 : decode cX12_terms 65 = .ok (.ireturn, 1) := by decide +kernel
theorem dX12_terms_66 : decode cX12_terms 66 = .ok (.iconst 0, 1) := by decide +kernel
theorem dX12_terms_67 : decode cX12_terms 67 = .ok (.istore 5, 2) := by decide +kernel
theorem dX12_terms_69 : decode cX12_terms 69 = .ok (.iload 5, 2) := by decide +kernel
theorem dX12_terms_71 : decode cX12_terms 71 = .ok (.iload 4, 2) := by decide +kernel
theorem dX12_terms_73 : decode cX12_terms 73 = .ok (.if_icmp .ge 31, 3) := by decide +kernel
theorem dX12_terms_76 : decode cX12_terms 76 = .ok (.aload_n 0, 1) := by decide +kernel
theorem dX12_terms_77 : decode cX12_terms 77 = .ok (.getfield 63, 3) := by decide +kernel
theorem dX12_terms_80 : decode cX12_terms 80 = .ok (.bipush 120, 2) := by decide +kernel
theorem dX12_terms_82 : decode cX12_terms 82 = .ok (.aload_n 0, 1) := by decide +kernel
theorem dX12_terms_83 : decode cX12_terms 83 = .ok (.getfield 280, 3) := by decide +kernel
theorem dX12_terms_86 : decode cX12_terms 86 = .ok (.imul, 1) := by decide +kernel
theorem dX12_terms_87 : decode cX12_terms 87 = .ok (.iload 5, 2) := by decide +kernel
theorem dX12_terms_89 : decode cX12_terms 89 = .ok (.iadd, 1) := by decide +kernel
theorem dX12_terms_90 : decode cX12_terms 90 = .ok (.aload_n 0, 1) := by decide +kernel
theorem dX12_terms_91 : decode cX12_terms 91 = .ok (.getfield 60, 3) := by decide +kernel
theorem dX12_terms_94 : decode cX12_terms 94 = .ok (.iload 5, 2) := by decide +kernel
theorem dX12_terms_96 : decode cX12_terms 96 = .ok (.iaload, 1) := by decide +kernel
theorem dX12_terms_97 : decode cX12_terms 97 = .ok (.iastore, 1) := by decide +kernel
theorem dX12_terms_98 : decode cX12_terms 98 = .ok (.iinc 5 1, 3) := by decide +kernel
theorem dX12_terms_101 : decode cX12_terms 101 = .ok (.goto (-32), 3) := by decide +kernel
theorem dX12_terms_104 : decode cX12_terms 104 = .ok (.aload_n 0, 1) := by decide +kernel
theorem dX12_terms_105 : decode cX12_terms 105 = .ok (.getfield 66, 3) := by decide +kernel
theorem dX12_terms_108 : decode cX12_terms 108 = .ok (.aload_n 0, 1) := by decide +kernel
theorem dX12_terms_109 : decode cX12_terms 109 = .ok (.getfield 280, 3) := by decide +kernel
theorem dX12_terms_112 : decode cX12_terms 112 = .ok (.iload 4, 2) := by decide +kernel
theorem dX12_terms_114 : decode cX12_terms 114 = .ok (.iastore, 1) := by decide +kernel
theorem dX12_terms_115 : decode cX12_terms 115 = .ok (.aload_n 0, 1) := by decide +kernel
theorem dX12_terms_116 : decode cX12_terms 116 = .ok (.getfield 69, 3) := by decide +kernel
theorem dX12_terms_119 : decode cX12_terms 119 = .ok (.aload_n 0, 1) := by decide +kernel
theorem dX12_terms_120 : decode cX12_terms 120 = .ok (.getfield 280, 3) := by decide +kernel
theorem dX12_terms_123 : decode cX12_terms 123 = .ok (.iload_n 1, 1) := by decide +kernel
theorem dX12_terms_124 : decode cX12_terms 124 = .ok (.iastore, 1) := by decide +kernel
theorem dX12_terms_125 : decode cX12_terms 125 = .ok (.aload_n 0, 1) := by decide +kernel
theorem dX12_terms_126 : decode cX12_terms 126 = .ok (.getfield 72, 3) := by decide +kernel
theorem dX12_terms_129 : decode cX12_terms 129 = .ok (.aload_n 0, 1) := by decide +kernel
theorem dX12_terms_130 : decode cX12_terms 130 = .ok (.getfield 280, 3) := by decide +kernel
theorem dX12_terms_133 : decode cX12_terms 133 = .ok (.iload_n 2, 1) := by decide +kernel
theorem dX12_terms_134 : decode cX12_terms 134 = .ok (.iastore, 1) := by decide +kernel
theorem dX12_terms_135 : decode cX12_terms 135 = .ok (.aload_n 0, 1) := by decide +kernel
theorem dX12_terms_136 : decode cX12_terms 136 = .ok (.getfield 75, 3) := by decide +kernel
theorem dX12_terms_139 : decode cX12_terms 139 = .ok (.aload_n 0, 1) := by decide +kernel
theorem dX12_terms_140 : decode cX12_terms 140 = .ok (.getfield 280, 3) := by decide +kernel
theorem dX12_terms_143 : decode cX12_terms 143 = .ok (.aload_n 0, 1) := by decide +kernel
theorem dX12_terms_144 : decode cX12_terms 144 = .ok (.getfield 162, 3) := by decide +kernel
theorem dX12_terms_147 : decode cX12_terms 147 = .ok (.iastore, 1) := by decide +kernel
theorem dX12_terms_148 : decode cX12_terms 148 = .ok (.aload_n 0, 1) := by decide +kernel
theorem dX12_terms_149 : decode cX12_terms 149 = .ok (.dup, 1) := by decide +kernel
theorem dX12_terms_150 : decode cX12_terms 150 = .ok (.getfield 280, 3) := by decide +kernel
theorem dX12_terms_153 : decode cX12_terms 153 = .ok (.iconst 1, 1) := by decide +kernel
theorem dX12_terms_154 : decode cX12_terms 154 = .ok (.iadd, 1) := by decide +kernel
theorem dX12_terms_155 : decode cX12_terms 155 = .ok (.putfield 280, 3) := by decide +kernel
theorem dX12_terms_158 : decode cX12_terms 158 = .ok (.aload_n 0, 1) := by decide +kernel
theorem dX12_terms_159 : decode cX12_terms 159 = .ok (.getfield 280, 3) := by decide +kernel
theorem dX12_terms_162 : decode cX12_terms 162 = .ok (.iconst 1, 1) := by decide +kernel
theorem dX12_terms_163 : decode cX12_terms 163 = .ok (.isub, 1) := by decide +kernel
theorem dX12_terms_164 : decode cX12_terms 164 = .ok (.ireturn, 1) := by decide +kernel
theorem dX12_force_0 : decode cX12_force 0 = .ok (.iconst (-1), 1) := by decide +kernel
theorem dX12_force_1 : decode cX12_force 1 = .ok (.istore 4, 2) := by decide +kernel
theorem dX12_force_3 : decode cX12_force 3 = .ok (.iconst 0, 1) := by decide +kernel
theorem dX12_force_4 : decode cX12_force 4 = .ok (.istore 5, 2) := by decide +kernel
theorem dX12_force_6 : decode cX12_force 6 = .ok (.iload 5, 2) := by decide +kernel
theorem dX12_force_8 : decode cX12_force 8 = .ok (.aload_n 0, 1) := by decide +kernel
theorem dX12_force_9 : decode cX12_force 9 = .ok (.getfield 280, 3) := by decide +kernel
theorem dX12_force_12 : decode cX12_force 12 = .ok (.if_icmp .ge 51, 3) := by decide +kernel
theorem dX12_force_15 : decode cX12_force 15 = .ok (.aload_n 0, 1) := by decide +kernel
theorem dX12_force_16 : decode cX12_force 16 = .ok (.getfield 69, 3) := by decide +kernel
theorem dX12_force_19 : decode cX12_force 19 = .ok (.iload 5, 2) := by decide +kernel
theorem dX12_force_21 : decode cX12_force 21 = .ok (.iaload, 1) := by decide +kernel
theorem dX12_force_22 : decode cX12_force 22 = .ok (.iload_n 1, 1) := by decide +kernel
theorem dX12_force_23 : decode cX12_force 23 = .ok (.if_icmp .ne 30, 3) := by decide +kernel
theorem dX12_force_26 : decode cX12_force 26 = .ok (.aload_n 0, 1) := by decide +kernel
theorem dX12_force_27 : decode cX12_force 27 = .ok (.getfield 75, 3) := by decide +kernel
theorem dX12_force_30 : decode cX12_force 30 = .ok (.iload 5, 2) := by decide +kernel
theorem dX12_force_32 : decode cX12_force 32 = .ok (.iaload, 1) := by decide +kernel
theorem dX12_force_33 : decode cX12_force 33 = .ok (.iload_n 3, 1) := by decide +kernel
theorem dX12_force_34 : decode cX12_force 34 = .ok (.if_icmp .gt 19, 3) := by decide +kernel
theorem dX12_force_37 : decode cX12_force 37 = .ok (.aload_n 0, 1) := by decide +kernel
theorem dX12_force_38 : decode cX12_force 38 = .ok (.getfield 72, 3) := by decide +kernel
theorem dX12_force_41 : decode cX12_force 41 = .ok (.iload 5, 2) := by decide +kernel
theorem dX12_force_43 : decode cX12_force 43 = .ok (.iaload, 1) := by decide +kernel
theorem dX12_force_44 : decode cX12_force 44 = .ok (.iload_n 2, 1) := by decide +kernel
theorem dX12_force_45 : decode cX12_force 45 = .ok (.if_icmp .gt 8, 3) := by decide +kernel
theorem dX12_force_48 : decode cX12_force 48 = .ok (.iload 5, 2) := by decide +kernel
theorem dX12_force_50 : decode cX12_force 50 = .ok (.goto 5, 3) := by decide +kernel
theorem dX12_force_53 : decode cX12_force 53 = .ok (.iload 4, 2) := by decide +kernel
theorem dX12_force_55 : decode cX12_force 55 = .ok (.istore 4, 2) := by decide +kernel
theorem dX12_force_57 : decode cX12_force 57 = .ok (.iinc 5 1, 3) := by decide +kernel
theorem dX12_force_60 : decode cX12_force 60 = .ok (.goto (-54), 3) := by decide +kernel
theorem dX12_force_63 : decode cX12_force 63 = .ok (.iload 4, 2) := by decide +kernel
theorem dX12_force_65 : decode cX12_force 65 = .ok (.ireturn, 1) := by decide +kernel
theorem dX12_inForce_0 : decode cX12_inForce 0 = .ok (.iload_n 1, 1) := by decide +kernel
theorem dX12_inForce_1 : decode cX12_inForce 1 = .ok (.iconst 0, 1) := by decide +kernel
theorem dX12_inForce_2 : decode cX12_inForce 2 = .ok (.iconst 2, 1) := by decide +kernel
theorem dX12_inForce_3 : decode cX12_inForce 3 = .ok (.invokestatic 142, 3) := by decide +kernel
theorem dX12_inForce_6 : decode cX12_inForce 6 = .ok (.ifCond .eq 17, 3) := by decide +kernel
theorem dX12_inForce_9 : decode cX12_inForce 9 = .ok (.iload_n 2, 1) := by decide +kernel
theorem dX12_inForce_10 : decode cX12_inForce 10 = .ok (.invokestatic 277, 3) := by decide +kernel
theorem dX12_inForce_13 : decode cX12_inForce 13 = .ok (.ifCond .eq 10, 3) := by decide +kernel
theorem dX12_inForce_16 : decode cX12_inForce 16 = .ok (.iload_n 3, 1) := by decide +kernel
theorem dX12_inForce_17 : decode cX12_inForce 17 = .ok (.invokestatic 277, 3) := by decide +kernel
theorem dX12_inForce_20 : decode cX12_inForce 20 = .ok (.ifCond .ne 5, 3) := by decide +kernel
theorem dX12_inForce_23 : decode cX12_inForce 23 = .ok (.iconst (-1), 1) := by decide +kernel
theorem dX12_inForce_24 : decode cX12_inForce 24 = .ok (.ireturn, 1) := by decide +kernel
theorem dX12_inForce_25 : decode cX12_inForce 25 = .ok (.aload_n 0, 1) := by decide +kernel
theorem dX12_inForce_26 : decode cX12_inForce 26 = .ok (.iload_n 1, 1) := by decide +kernel
theorem dX12_inForce_27 : decode cX12_inForce 27 = .ok (.iload_n 2, 1) := by decide +kernel
theorem dX12_inForce_28 : decode cX12_inForce 28 = .ok (.iload_n 3, 1) := by decide +kernel
theorem dX12_inForce_29 : decode cX12_inForce 29 = .ok (.invokevirtual 286, 3) := by decide +kernel
theorem dX12_inForce_32 : decode cX12_inForce 32 = .ok (.istore 4, 2) := by decide +kernel
theorem dX12_inForce_34 : decode cX12_inForce 34 = .ok (.iload 4, 2) := by decide +kernel
theorem dX12_inForce_36 : decode cX12_inForce 36 = .ok (.ifCond .ge 8, 3) := by decide +kernel
theorem dX12_inForce_39 : decode cX12_inForce 39 = .ok (.bipush (-4), 2) := by decide +kernel
theorem dX12_inForce_41 : decode cX12_inForce 41 = .ok (.goto 5, 3) := by decide +kernel
theorem dX12_inForce_44 : decode cX12_inForce 44 = .ok (.iload 4, 2) := by decide +kernel
theorem dX12_inForce_46 : decode cX12_inForce 46 = .ok (.ireturn, 1) := by decide +kernel
theorem dX12_wasOpen_0 : decode cX12_wasOpen 0 = .ok (.aload_n 0, 1) := by decide +kernel
theorem dX12_wasOpen_1 : decode cX12_wasOpen 1 = .ok (.getfield 35, 3) := by decide +kernel
theorem dX12_wasOpen_4 : decode cX12_wasOpen 4 = .ok (.iload_n 1, 1) := by decide +kernel
theorem dX12_wasOpen_5 : decode cX12_wasOpen 5 = .ok (.iaload, 1) := by decide +kernel
theorem dX12_wasOpen_6 : decode cX12_wasOpen 6 = .ok (.iload_n 2, 1) := by decide +kernel
theorem dX12_wasOpen_7 : decode cX12_wasOpen 7 = .ok (.if_icmp .gt 26, 3) := by decide +kernel
theorem dX12_wasOpen_10 : decode cX12_wasOpen 10 = .ok (.aload_n 0, 1) := by decide +kernel
theorem dX12_wasOpen_11 : decode cX12_wasOpen 11 = .ok (.getfield 38, 3) := by decide +kernel
theorem dX12_wasOpen_14 : decode cX12_wasOpen 14 = .ok (.iload_n 1, 1) := by decide +kernel
theorem dX12_wasOpen_15 : decode cX12_wasOpen 15 = .ok (.iaload, 1) := by decide +kernel
theorem dX12_wasOpen_16 : decode cX12_wasOpen 16 = .ok (.ifCond .lt 13, 3) := by decide +kernel
theorem dX12_wasOpen_19 : decode cX12_wasOpen 19 = .ok (.aload_n 0, 1) := by decide +kernel
theorem dX12_wasOpen_20 : decode cX12_wasOpen 20 = .ok (.getfield 38, 3) := by decide +kernel
theorem dX12_wasOpen_23 : decode cX12_wasOpen 23 = .ok (.iload_n 1, 1) := by decide +kernel
theorem dX12_wasOpen_24 : decode cX12_wasOpen 24 = .ok (.iaload, 1) := by decide +kernel
theorem dX12_wasOpen_25 : decode cX12_wasOpen 25 = .ok (.iload_n 2, 1) := by decide +kernel
theorem dX12_wasOpen_26 : decode cX12_wasOpen 26 = .ok (.if_icmp .le 7, 3) := by decide +kernel
theorem dX12_wasOpen_29 : decode cX12_wasOpen 29 = .ok (.iconst 1, 1) := by decide +kernel
theorem dX12_wasOpen_30 : decode cX12_wasOpen 30 = .ok (.goto 4, 3) := by decide +kernel
theorem dX12_wasOpen_33 : decode cX12_wasOpen 33 = .ok (.iconst 0, 1) := by decide +kernel
theorem dX12_wasOpen_34 : decode cX12_wasOpen 34 = .ok (.ireturn, 1) := by decide +kernel
theorem dX12_given_0 : decode cX12_given 0 = .ok (.iload_n 3, 1) := by decide +kernel
theorem dX12_given_1 : decode cX12_given 1 = .ok (.sipush 333, 3) := by decide +kernel
theorem dX12_given_4 : decode cX12_given 4 = .ok (.if_icmp .ge 22, 3) := by decide +kernel
theorem dX12_given_7 : decode cX12_given 7 = .ok (.aload_n 0, 1) := by decide +kernel
theorem dX12_given_8 : decode cX12_given 8 = .ok (.getfield 81, 3) := by decide +kernel
theorem dX12_given_11 : decode cX12_given 11 = .ok (.sipush 333, 3) := by decide +kernel
theorem dX12_given_14 : decode cX12_given 14 = .ok (.iload_n 2, 1) := by decide +kernel
theorem dX12_given_15 : decode cX12_given 15 = .ok (.imul, 1) := by decide +kernel
theorem dX12_given_16 : decode cX12_given 16 = .ok (.iload_n 3, 1) := by decide +kernel
theorem dX12_given_17 : decode cX12_given 17 = .ok (.iadd, 1) := by decide +kernel
theorem dX12_given_18 : decode cX12_given 18 = .ok (.baload, 1) := by decide +kernel
theorem dX12_given_19 : decode cX12_given 19 = .ok (.ifCond .eq 7, 3) := by decide +kernel
theorem dX12_given_22 : decode cX12_given 22 = .ok (.iconst 1, 1) := by decide +kernel
theorem dX12_given_23 : decode cX12_given 23 = .ok (.goto 4, 3) := by decide +kernel
theorem dX12_given_26 : decode cX12_given 26 = .ok (.iconst 0, 1) := by decide +kernel
theorem dX12_given_27 : decode cX12_given 27 = .ok (.istore 5, 2) := by decide +kernel
theorem dX12_given_29 : decode cX12_given 29 = .ok (.aload_n 0, 1) := by decide +kernel
theorem dX12_given_30 : decode cX12_given 30 = .ok (.getfield 78, 3) := by decide +kernel
theorem dX12_given_33 : decode cX12_given 33 = .ok (.iconst 0, 1) := by decide +kernel
theorem dX12_given_34 : decode cX12_given 34 = .ok (.iload 5, 2) := by decide +kernel
theorem dX12_given_36 : decode cX12_given 36 = .ok (.ifCond .eq 18, 3) := by decide +kernel
theorem dX12_given_39 : decode cX12_given 39 = .ok (.aload_n 0, 1) := by decide +kernel
theorem dX12_given_40 : decode cX12_given 40 = .ok (.getfield 85, 3) := by decide +kernel
theorem dX12_given_43 : decode cX12_given 43 = .ok (.sipush 333, 3) := by decide +kernel
theorem dX12_given_46 : decode cX12_given 46 = .ok (.iload_n 2, 1) := by decide +kernel
theorem dX12_given_47 : decode cX12_given 47 = .ok (.imul, 1) := by decide +kernel
theorem dX12_given_48 : decode cX12_given 48 = .ok (.iload_n 3, 1) := by decide +kernel
theorem dX12_given_49 : decode cX12_given 49 = .ok (.iadd, 1) := by decide +kernel
theorem dX12_given_50 : decode cX12_given 50 = .ok (.iaload, 1) := by decide +kernel
theorem dX12_given_51 : decode cX12_given 51 = .ok (.goto 4, 3) := by decide +kernel
theorem dX12_given_54 : decode cX12_given 54 = .ok (.iconst 0, 1) := by decide +kernel
theorem dX12_given_55 : decode cX12_given 55 = .ok (.iastore, 1) := by decide +kernel
theorem dX12_given_56 : decode cX12_given 56 = .ok (.aload_n 0, 1) := by decide +kernel
theorem dX12_given_57 : decode cX12_given 57 = .ok (.getfield 78, 3) := by decide +kernel
theorem dX12_given_60 : decode cX12_given 60 = .ok (.iconst 1, 1) := by decide +kernel
theorem dX12_given_61 : decode cX12_given 61 = .ok (.iload 5, 2) := by decide +kernel
theorem dX12_given_63 : decode cX12_given 63 = .ok (.ifCond .eq 18, 3) := by decide +kernel
theorem dX12_given_66 : decode cX12_given 66 = .ok (.aload_n 0, 1) := by decide +kernel
theorem dX12_given_67 : decode cX12_given 67 = .ok (.getfield 88, 3) := by decide +kernel
theorem dX12_given_70 : decode cX12_given 70 = .ok (.sipush 333, 3) := by decide +kernel
theorem dX12_given_73 : decode cX12_given 73 = .ok (.iload_n 2, 1) := by decide +kernel
theorem dX12_given_74 : decode cX12_given 74 = .ok (.imul, 1) := by decide +kernel
theorem dX12_given_75 : decode cX12_given 75 = .ok (.iload_n 3, 1) := by decide +kernel
theorem dX12_given_76 : decode cX12_given 76 = .ok (.iadd, 1) := by decide +kernel
theorem dX12_given_77 : decode cX12_given 77 = .ok (.iaload, 1) := by decide +kernel
theorem dX12_given_78 : decode cX12_given 78 = .ok (.goto 4, 3) := by decide +kernel
theorem dX12_given_81 : decode cX12_given 81 = .ok (.iconst 0, 1) := by decide +kernel
theorem dX12_given_82 : decode cX12_given 82 = .ok (.iastore, 1) := by decide +kernel
theorem dX12_given_83 : decode cX12_given 83 = .ok (.aload_n 0, 1) := by decide +kernel
theorem dX12_given_84 : decode cX12_given 84 = .ok (.getfield 78, 3) := by decide +kernel
theorem dX12_given_87 : decode cX12_given 87 = .ok (.iconst 2, 1) := by decide +kernel
theorem dX12_given_88 : decode cX12_given 88 = .ok (.iload_n 3, 1) := by decide +kernel
theorem dX12_given_89 : decode cX12_given 89 = .ok (.iastore, 1) := by decide +kernel
theorem dX12_given_90 : decode cX12_given 90 = .ok (.aload_n 0, 1) := by decide +kernel
theorem dX12_given_91 : decode cX12_given 91 = .ok (.getfield 78, 3) := by decide +kernel
theorem dX12_given_94 : decode cX12_given 94 = .ok (.iconst 3, 1) := by decide +kernel
theorem dX12_given_95 : decode cX12_given 95 = .ok (.iload 4, 2) := by decide +kernel
theorem dX12_given_97 : decode cX12_given 97 = .ok (.aload_n 0, 1) := by decide +kernel
theorem dX12_given_98 : decode cX12_given 98 = .ok (.getfield 35, 3) := by decide +kernel
theorem dX12_given_101 : decode cX12_given 101 = .ok (.iload_n 2, 1) := by decide +kernel
theorem dX12_given_102 : decode cX12_given 102 = .ok (.iaload, 1) := by decide +kernel
theorem dX12_given_103 : decode cX12_given 103 = .ok (.if_icmp .le 19, 3) := by decide +kernel
theorem dX12_given_106 : decode cX12_given 106 = .ok (.iload 4, 2) := by decide +kernel
theorem dX12_given_108 : decode cX12_given 108 = .ok (.aload_n 0, 1) := by decide +kernel
theorem dX12_given_109 : decode cX12_given 109 = .ok (.getfield 35, 3) := by decide +kernel
theorem dX12_given_112 : decode cX12_given 112 = .ok (.iload_n 2, 1) := by decide +kernel
theorem dX12_given_113 : decode cX12_given 113 = .ok (.iaload, 1) := by decide +kernel
theorem dX12_given_114 : decode cX12_given 114 = .ok (.isub, 1) := by decide +kernel
theorem dX12_given_115 : decode cX12_given 115 = .ok (.sipush 360, 3) := by decide +kernel
theorem dX12_given_118 : decode cX12_given 118 = .ok (.idiv, 1) := by decide +kernel
theorem dX12_given_119 : decode cX12_given 119 = .ok (.goto 4, 3) := by decide +kernel
theorem dX12_given_122 : decode cX12_given 122 = .ok (.iconst 0, 1) := by decide +kernel
theorem dX12_given_123 : decode cX12_given 123 = .ok (.iastore, 1) := by decide +kernel
theorem dX12_given_124 : decode cX12_given 124 = .ok (.aload_n 0, 1) := by decide +kernel
theorem dX12_given_125 : decode cX12_given 125 = .ok (.getfield 78, 3) := by decide +kernel
theorem dX12_given_128 : decode cX12_given 128 = .ok (.iconst 4, 1) := by decide +kernel
theorem dX12_given_129 : decode cX12_given 129 = .ok (.iconst 0, 1) := by decide +kernel
theorem dX12_given_130 : decode cX12_given 130 = .ok (.iastore, 1) := by decide +kernel
theorem dX12_given_131 : decode cX12_given 131 = .ok (.iconst 0, 1) := by decide +kernel
theorem dX12_given_132 : decode cX12_given 132 = .ok (.istore 6, 2) := by decide +kernel
theorem dX12_given_134 : decode cX12_given 134 = .ok (.iload 6, 2) := by decide +kernel
theorem dX12_given_136 : decode cX12_given 136 = .ok (.aload_n 0, 1) := by decide +kernel
theorem dX12_given_137 : decode cX12_given 137 = .ok (.getfield 139, 3) := by decide +kernel
theorem dX12_given_140 : decode cX12_given 140 = .ok (.if_icmp .ge 50, 3) := by decide +kernel
theorem dX12_given_143 : decode cX12_given 143 = .ok (.aload_n 0, 1) := by decide +kernel
theorem dX12_given_144 : decode cX12_given 144 = .ok (.getfield 78, 3) := by decide +kernel
theorem dX12_given_147 : decode cX12_given 147 = .ok (.iconst 4, 1) := by decide +kernel
theorem dX12_given_148 : decode cX12_given 148 = .ok (.dup2, 1) := by decide +kernel
theorem dX12_given_149 : decode cX12_given 149 = .ok (.iaload, 1) := by decide +kernel
theorem dX12_given_150 : decode cX12_given 150 = .ok (.aload_n 0, 1) := by decide +kernel
theorem dX12_given_151 : decode cX12_given 151 = .ok (.getfield 29, 3) := by decide +kernel
theorem dX12_given_154 : decode cX12_given 154 = .ok (.iload 6, 2) := by decide +kernel
theorem dX12_given_156 : decode cX12_given 156 = .ok (.iaload, 1) := by decide +kernel
theorem dX12_given_157 : decode cX12_given 157 = .ok (.aload_n 0, 1) := by decide +kernel
theorem dX12_given_158 : decode cX12_given 158 = .ok (.getfield 29, 3) := by decide +kernel
theorem dX12_given_161 : decode cX12_given 161 = .ok (.iload_n 2, 1) := by decide +kernel
theorem dX12_given_162 : decode cX12_given 162 = .ok (.iaload, 1) := by decide +kernel
theorem dX12_given_163 : decode cX12_given 163 = .ok (.if_icmp .ne 18, 3) := by decide +kernel
theorem dX12_given_166 : decode cX12_given 166 = .ok (.aload_n 0, 1) := by decide +kernel
theorem dX12_given_167 : decode cX12_given 167 = .ok (.iload 6, 2) := by decide +kernel
theorem dX12_given_169 : decode cX12_given 169 = .ok (.iload 4, 2) := by decide +kernel
theorem dX12_given_171 : decode cX12_given 171 = .ok (.invokevirtual 290, 3) := by decide +kernel
theorem dX12_given_174 : decode cX12_given 174 = .ok (.ifCond .eq 7, 3) := by decide +kernel
theorem dX12_given_177 : decode cX12_given 177 = .ok (.iconst 1, 1) := by decide +kernel
theorem dX12_given_178 : decode cX12_given 178 = .ok (.goto 4, 3) := by decide +kernel
theorem dX12_given_181 : decode cX12_given 181 = .ok (.iconst 0, 1) := by decide +kernel
theorem dX12_given_182 : decode cX12_given 182 = .ok (.iadd, 1) := by decide +kernel
theorem dX12_given_183 : decode cX12_given 183 = .ok (.iastore, 1) := by decide +kernel
theorem dX12_given_184 : decode cX12_given 184 = .ok (.iinc 6 1, 3) := by decide +kernel
theorem dX12_given_187 : decode cX12_given 187 = .ok (.goto (-53), 3) := by decide +kernel
theorem dX12_given_190 : decode cX12_given 190 = .ok (.aload_n 0, 1) := by decide +kernel
theorem dX12_given_191 : decode cX12_given 191 = .ok (.bipush 120, 2) := by decide +kernel
theorem dX12_given_193 : decode cX12_given 193 = .ok (.iload_n 1, 1) := by decide +kernel
theorem dX12_given_194 : decode cX12_given 194 = .ok (.imul, 1) := by decide +kernel
theorem dX12_given_195 : decode cX12_given 195 = .ok (.aload_n 0, 1) := by decide +kernel
theorem dX12_given_196 : decode cX12_given 196 = .ok (.getfield 66, 3) := by decide +kernel
theorem dX12_given_199 : decode cX12_given 199 = .ok (.iload_n 1, 1) := by decide +kernel
theorem dX12_given_200 : decode cX12_given 200 = .ok (.iaload, 1) := by decide +kernel
theorem dX12_given_201 : decode cX12_given 201 = .ok (.invokevirtual 283, 3) := by decide +kernel
theorem dX12_given_204 : decode cX12_given 204 = .ok (.istore 6, 2) := by decide +kernel
theorem dX12_given_206 : decode cX12_given 206 = .ok (.iload 6, 2) := by decide +kernel
theorem dX12_given_208 : decode cX12_given 208 = .ok (.ifCond .ge 7, 3) := by decide +kernel
theorem dX12_given_211 : decode cX12_given 211 = .ok (.iconst 0, 1) := by decide +kernel
theorem dX12_given_212 : decode cX12_given 212 = .ok (.goto 17, 3) := by decide +kernel
theorem dX12_given_215 : decode cX12_given 215 = .ok (.iload 6, 2) := by decide +kernel
theorem dX12_given_217 : decode cX12_given 217 = .ok (.ldc 154, 2) := by decide +kernel
theorem dX12_given_219 : decode cX12_given 219 = .ok (.if_icmp .le 8, 3) := by decide +kernel
theorem dX12_given_222 : decode cX12_given 222 = .ok (.ldc 154, 2) := by decide +kernel
theorem dX12_given_224 : decode cX12_given 224 = .ok (.goto 5, 3) := by decide +kernel
theorem dX12_given_227 : decode cX12_given 227 = .ok (.iload 6, 2) := by decide +kernel
theorem dX12_given_229 : decode cX12_given 229 = .ok (.ireturn, 1) := by decide +kernel
theorem dX12_lastOf_0 : decode cX12_lastOf 0 = .ok (.bipush 30, 2) := by decide +kernel
theorem dX12_lastOf_2 : decode cX12_lastOf 2 = .ok (.iload_n 0, 1) := by decide +kernel
theorem dX12_lastOf_3 : decode cX12_lastOf 3 = .ok (.imul, 1) := by decide +kernel
theorem dX12_lastOf_4 : decode cX12_lastOf 4 = .ok (.bipush 30, 2) := by decide +kernel
theorem dX12_lastOf_6 : decode cX12_lastOf 6 = .ok (.iadd, 1) := by decide +kernel
theorem dX12_lastOf_7 : decode cX12_lastOf 7 = .ok (.iconst 1, 1) := by decide +kernel
theorem dX12_lastOf_8 : decode cX12_lastOf 8 = .ok (.isub, 1) := by decide +kernel
theorem dX12_lastOf_9 : decode cX12_lastOf 9 = .ok (.ireturn, 1) := by decide +kernel
theorem dX12_gives_0 : decode cX12_gives 0 = .ok (.iload_n 1, 1) := by decide +kernel
theorem dX12_gives_1 : decode cX12_gives 1 = .ok (.ifCond .lt 40, 3) := by decide +kernel
theorem dX12_gives_4 : decode cX12_gives 4 = .ok (.iload_n 1, 1) := by decide +kernel
theorem dX12_gives_5 : decode cX12_gives 5 = .ok (.aload_n 0, 1) := by decide +kernel
theorem dX12_gives_6 : decode cX12_gives 6 = .ok (.getfield 280, 3) := by decide +kernel
theorem dX12_gives_9 : decode cX12_gives 9 = .ok (.if_icmp .ge 32, 3) := by decide +kernel
theorem dX12_gives_12 : decode cX12_gives 12 = .ok (.aload_n 0, 1) := by decide +kernel
theorem dX12_gives_13 : decode cX12_gives 13 = .ok (.iload_n 2, 1) := by decide +kernel
theorem dX12_gives_14 : decode cX12_gives 14 = .ok (.invokevirtual 192, 3) := by decide +kernel
theorem dX12_gives_17 : decode cX12_gives 17 = .ok (.ifCond .eq 24, 3) := by decide +kernel
theorem dX12_gives_20 : decode cX12_gives 20 = .ok (.iload_n 3, 1) := by decide +kernel
theorem dX12_gives_21 : decode cX12_gives 21 = .ok (.invokestatic 293, 3) := by decide +kernel
theorem dX12_gives_24 : decode cX12_gives 24 = .ok (.ifCond .eq 17, 3) := by decide +kernel
theorem dX12_gives_27 : decode cX12_gives 27 = .ok (.aload_n 0, 1) := by decide +kernel
theorem dX12_gives_28 : decode cX12_gives 28 = .ok (.iload_n 1, 1) := by decide +kernel
theorem dX12_gives_29 : decode cX12_gives 29 = .ok (.iload_n 2, 1) := by decide +kernel
theorem dX12_gives_30 : decode cX12_gives 30 = .ok (.iload_n 3, 1) := by decide +kernel
theorem dX12_gives_31 : decode cX12_gives 31 = .ok (.iload_n 3, 1) := by decide +kernel
theorem dX12_gives_32 : decode cX12_gives 32 = .ok (.invokestatic 296, 3) := by decide +kernel
theorem dX12_gives_35 : decode cX12_gives 35 = .ok (.invokevirtual 299, 3) := by decide +kernel
theorem dX12_gives_38 : decode cX12_gives 38 = .ok (.goto 4, 3) := by decide +kernel
theorem dX12_gives_41 : decode cX12_gives 41 = .ok (.iconst (-1), 1) := by decide +kernel
theorem dX12_gives_42 : decode cX12_gives 42 = .ok (.ireturn, 1) := by decide +kernel
theorem dX12_due_0 : decode cX12_due 0 = .ok (.aload_n 0, 1) := by decide +kernel
theorem dX12_due_1 : decode cX12_due 1 = .ok (.iload_n 1, 1) := by decide +kernel
theorem dX12_due_2 : decode cX12_due 2 = .ok (.iload_n 3, 1) := by decide +kernel
theorem dX12_due_3 : decode cX12_due 3 = .ok (.invokestatic 296, 3) := by decide +kernel
theorem dX12_due_6 : decode cX12_due 6 = .ok (.aload_n 0, 1) := by decide +kernel
theorem dX12_due_7 : decode cX12_due 7 = .ok (.getfield 162, 3) := by decide +kernel
theorem dX12_due_10 : decode cX12_due 10 = .ok (.invokevirtual 286, 3) := by decide +kernel
theorem dX12_due_13 : decode cX12_due 13 = .ok (.istore 4, 2) := by decide +kernel
theorem dX12_due_15 : decode cX12_due 15 = .ok (.iload 4, 2) := by decide +kernel
theorem dX12_due_17 : decode cX12_due 17 = .ok (.ifCond .ge 7, 3) := by decide +kernel
theorem dX12_due_20 : decode cX12_due 20 = .ok (.iconst 0, 1) := by decide +kernel
theorem dX12_due_21 : decode cX12_due 21 = .ok (.goto 15, 3) := by decide +kernel
theorem dX12_due_24 : decode cX12_due 24 = .ok (.aload_n 0, 1) := by decide +kernel
theorem dX12_due_25 : decode cX12_due 25 = .ok (.iload 4, 2) := by decide +kernel
theorem dX12_due_27 : decode cX12_due 27 = .ok (.iload_n 2, 1) := by decide +kernel
theorem dX12_due_28 : decode cX12_due 28 = .ok (.iload_n 3, 1) := by decide +kernel
theorem dX12_due_29 : decode cX12_due 29 = .ok (.iload_n 3, 1) := by decide +kernel
theorem dX12_due_30 : decode cX12_due 30 = .ok (.invokestatic 296, 3) := by decide +kernel
theorem dX12_due_33 : decode cX12_due 33 = .ok (.invokevirtual 299, 3) := by decide +kernel
theorem dX12_due_36 : decode cX12_due 36 = .ok (.ireturn, 1) := by decide +kernel
theorem dX12_month_0 : decode cX12_month 0 = .ok (.aload_n 0, 1) := by decide +kernel
theorem dX12_month_1 : decode cX12_month 1 = .ok (.iload_n 1, 1) := by decide +kernel
theorem dX12_month_2 : decode cX12_month 2 = .ok (.invokevirtual 192, 3) := by decide +kernel
theorem dX12_month_5 : decode cX12_month 5 = .ok (.ifCond .eq 45, 3) := by decide +kernel
theorem dX12_month_8 : decode cX12_month 8 = .ok (.iload_n 2, 1) := by decide +kernel
theorem dX12_month_9 : decode cX12_month 9 = .ok (.invokestatic 293, 3) := by decide +kernel
theorem dX12_month_12 : decode cX12_month 12 = .ok (.ifCond .eq 38, 3) := by decide +kernel
theorem dX12_month_15 : decode cX12_month 15 = .ok (.iload_n 3, 1) := by decide +kernel
theorem dX12_month_16 : decode cX12_month 16 = .ok (.iconst 0, 1) := by decide +kernel
theorem dX12_month_17 : decode cX12_month 17 = .ok (.ldc_w 303, 3) := by decide +kernel
theorem dX12_month_20 : decode cX12_month 20 = .ok (.invokestatic 142, 3) := by decide +kernel
theorem dX12_month_23 : decode cX12_month 23 = .ok (.ifCond .eq 27, 3) := by decide +kernel
theorem dX12_month_26 : decode cX12_month 26 = .ok (.iload 4, 2) := by decide +kernel
theorem dX12_month_28 : decode cX12_month 28 = .ok (.iconst 0, 1) := by decide +kernel
theorem dX12_month_29 : decode cX12_month 29 = .ok (.sipush 9999, 3) := by decide +kernel
theorem dX12_month_32 : decode cX12_month 32 = .ok (.invokestatic 142, 3) := by decide +kernel
theorem dX12_month_35 : decode cX12_month 35 = .ok (.ifCond .eq 15, 3) := by decide +kernel
theorem dX12_month_38 : decode cX12_month 38 = .ok (.iload 5, 2) := by decide +kernel
theorem dX12_month_40 : decode cX12_month 40 = .ok (.iconst 0, 1) := by decide +kernel
theorem dX12_month_41 : decode cX12_month 41 = .ok (.sipush 9999, 3) := by decide +kernel
theorem dX12_month_44 : decode cX12_month 44 = .ok (.invokestatic 142, 3) := by decide +kernel
theorem dX12_month_47 : decode cX12_month 47 = .ok (.ifCond .ne 5, 3) := by decide +kernel
theorem dX12_month_50 : decode cX12_month 50 = .ok (.iconst (-1), 1) := by decide +kernel
theorem dX12_month_51 : decode cX12_month 51 = .ok (.ireturn, 1) := by decide +kernel
theorem dX12_month_52 : decode cX12_month 52 = .ok (.sipush 333, 3) := by decide +kernel
theorem dX12_month_55 : decode cX12_month 55 = .ok (.iload_n 1, 1) := by decide +kernel
theorem dX12_month_56 : decode cX12_month 56 = .ok (.imul, 1) := by decide +kernel
theorem dX12_month_57 : decode cX12_month 57 = .ok (.iload_n 2, 1) := by decide +kernel
theorem dX12_month_58 : decode cX12_month 58 = .ok (.iadd, 1) := by decide +kernel
theorem dX12_month_59 : decode cX12_month 59 = .ok (.istore 6, 2) := by decide +kernel
theorem dX12_month_61 : decode cX12_month 61 = .ok (.aload_n 0, 1) := by decide +kernel
theorem dX12_month_62 : decode cX12_month 62 = .ok (.getfield 81, 3) := by decide +kernel
theorem dX12_month_65 : decode cX12_month 65 = .ok (.iload 6, 2) := by decide +kernel
theorem dX12_month_67 : decode cX12_month 67 = .ok (.baload, 1) := by decide +kernel
theorem dX12_month_68 : decode cX12_month 68 = .ok (.ifCond .ne 26, 3) := by decide +kernel
theorem dX12_month_71 : decode cX12_month 71 = .ok (.aload_n 0, 1) := by decide +kernel
theorem dX12_month_72 : decode cX12_month 72 = .ok (.getfield 162, 3) := by decide +kernel
theorem dX12_month_75 : decode cX12_month 75 = .ok (.iload_n 2, 1) := by decide +kernel
theorem dX12_month_76 : decode cX12_month 76 = .ok (.invokestatic 296, 3) := by decide +kernel
theorem dX12_month_79 : decode cX12_month 79 = .ok (.if_icmp .le 15, 3) := by decide +kernel
theorem dX12_month_82 : decode cX12_month 82 = .ok (.aload_n 0, 1) := by decide +kernel
theorem dX12_month_83 : decode cX12_month 83 = .ok (.iload_n 1, 1) := by decide +kernel
theorem dX12_month_84 : decode cX12_month 84 = .ok (.iload_n 2, 1) := by decide +kernel
theorem dX12_month_85 : decode cX12_month 85 = .ok (.invokestatic 296, 3) := by decide +kernel
theorem dX12_month_88 : decode cX12_month 88 = .ok (.invokevirtual 290, 3) := by decide +kernel
theorem dX12_month_91 : decode cX12_month 91 = .ok (.ifCond .ne 6, 3) := by decide +kernel
theorem dX12_month_94 : decode cX12_month 94 = .ok (.bipush (-3), 2) := by decide +kernel
theorem dX12_month_96 : decode cX12_month 96 = .ok (.ireturn, 1) := by decide +kernel
theorem dX12_month_97 : decode cX12_month 97 = .ok (.aload_n 0, 1) := by decide +kernel
theorem dX12_month_98 : decode cX12_month 98 = .ok (.getfield 81, 3) := by decide +kernel
theorem dX12_month_101 : decode cX12_month 101 = .ok (.iload 6, 2) := by decide +kernel
theorem dX12_month_103 : decode cX12_month 103 = .ok (.iconst 1, 1) := by decide +kernel
theorem dX12_month_104 : decode cX12_month 104 = .ok (.bastore, 1) := by decide +kernel
theorem dX12_month_105 : decode cX12_month 105 = .ok (.aload_n 0, 1) := by decide +kernel
theorem dX12_month_106 : decode cX12_month 106 = .ok (.getfield 85, 3) := by decide +kernel
theorem dX12_month_109 : decode cX12_month 109 = .ok (.iload 6, 2) := by decide +kernel
theorem dX12_month_111 : decode cX12_month 111 = .ok (.iload_n 3, 1) := by decide +kernel
theorem dX12_month_112 : decode cX12_month 112 = .ok (.iastore, 1) := by decide +kernel
theorem dX12_month_113 : decode cX12_month 113 = .ok (.aload_n 0, 1) := by decide +kernel
theorem dX12_month_114 : decode cX12_month 114 = .ok (.getfield 88, 3) := by decide +kernel
theorem dX12_month_117 : decode cX12_month 117 = .ok (.iload 6, 2) := by decide +kernel
theorem dX12_month_119 : decode cX12_month 119 = .ok (.iload 4, 2) := by decide +kernel
theorem dX12_month_121 : decode cX12_month 121 = .ok (.iastore, 1) := by decide +kernel
theorem dX12_month_122 : decode cX12_month 122 = .ok (.aload_n 0, 1) := by decide +kernel
theorem dX12_month_123 : decode cX12_month 123 = .ok (.getfield 91, 3) := by decide +kernel
theorem dX12_month_126 : decode cX12_month 126 = .ok (.iload 6, 2) := by decide +kernel
theorem dX12_month_128 : decode cX12_month 128 = .ok (.iload 5, 2) := by decide +kernel
theorem dX12_month_130 : decode cX12_month 130 = .ok (.iastore, 1) := by decide +kernel
theorem dX12_month_131 : decode cX12_month 131 = .ok (.aload_n 0, 1) := by decide +kernel
theorem dX12_month_132 : decode cX12_month 132 = .ok (.getfield 94, 3) := by decide +kernel
theorem dX12_month_135 : decode cX12_month 135 = .ok (.iload 6, 2) := by decide +kernel
theorem dX12_month_137 : decode cX12_month 137 = .ok (.aload_n 0, 1) := by decide +kernel
theorem dX12_month_138 : decode cX12_month 138 = .ok (.iconst 0, 1) := by decide +kernel
theorem dX12_month_139 : decode cX12_month 139 = .ok (.iload_n 1, 1) := by decide +kernel
theorem dX12_month_140 : decode cX12_month 140 = .ok (.iload_n 2, 1) := by decide +kernel
theorem dX12_month_141 : decode cX12_month 141 = .ok (.invokevirtual 304, 3) := by decide +kernel
theorem dX12_month_144 : decode cX12_month 144 = .ok (.iastore, 1) := by decide +kernel
theorem dX12_month_145 : decode cX12_month 145 = .ok (.aload_n 0, 1) := by decide +kernel
theorem dX12_month_146 : decode cX12_month 146 = .ok (.getfield 97, 3) := by decide +kernel
theorem dX12_month_149 : decode cX12_month 149 = .ok (.iload 6, 2) := by decide +kernel
theorem dX12_month_151 : decode cX12_month 151 = .ok (.aload_n 0, 1) := by decide +kernel
theorem dX12_month_152 : decode cX12_month 152 = .ok (.iconst 1, 1) := by decide +kernel
theorem dX12_month_153 : decode cX12_month 153 = .ok (.iload_n 1, 1) := by decide +kernel
theorem dX12_month_154 : decode cX12_month 154 = .ok (.iload_n 2, 1) := by decide +kernel
theorem dX12_month_155 : decode cX12_month 155 = .ok (.invokevirtual 304, 3) := by decide +kernel
theorem dX12_month_158 : decode cX12_month 158 = .ok (.iastore, 1) := by decide +kernel
theorem dX12_month_159 : decode cX12_month 159 = .ok (.aload_n 0, 1) := by decide +kernel
theorem dX12_month_160 : decode cX12_month 160 = .ok (.getfield 106, 3) := by decide +kernel
theorem dX12_month_163 : decode cX12_month 163 = .ok (.iload_n 1, 1) := by decide +kernel
theorem dX12_month_164 : decode cX12_month 164 = .ok (.iaload, 1) := by decide +kernel
theorem dX12_month_165 : decode cX12_month 165 = .ok (.istore 7, 2) := by decide +kernel
theorem dX12_month_167 : decode cX12_month 167 = .ok (.aload_n 0, 1) := by decide +kernel
theorem dX12_month_168 : decode cX12_month 168 = .ok (.getfield 106, 3) := by decide +kernel
theorem dX12_month_171 : decode cX12_month 171 = .ok (.iload_n 1, 1) := by decide +kernel
theorem dX12_month_172 : decode cX12_month 172 = .ok (.iconst 0, 1) := by decide +kernel
theorem dX12_month_173 : decode cX12_month 173 = .ok (.iastore, 1) := by decide +kernel
theorem dX12_month_174 : decode cX12_month 174 = .ok (.aload_n 0, 1) := by decide +kernel
theorem dX12_month_175 : decode cX12_month 175 = .ok (.iload_n 1, 1) := by decide +kernel
theorem dX12_month_176 : decode cX12_month 176 = .ok (.iload 7, 2) := by decide +kernel
theorem dX12_month_178 : decode cX12_month 178 = .ok (.invokevirtual 307, 3) := by decide +kernel
theorem dX12_month_181 : decode cX12_month 181 = .ok (.aload_n 0, 1) := by decide +kernel
theorem dX12_month_182 : decode cX12_month 182 = .ok (.getfield 94, 3) := by decide +kernel
theorem dX12_month_185 : decode cX12_month 185 = .ok (.iload 6, 2) := by decide +kernel
theorem dX12_month_187 : decode cX12_month 187 = .ok (.iaload, 1) := by decide +kernel
theorem dX12_month_188 : decode cX12_month 188 = .ok (.aload_n 0, 1) := by decide +kernel
theorem dX12_month_189 : decode cX12_month 189 = .ok (.getfield 97, 3) := by decide +kernel
theorem dX12_month_192 : decode cX12_month 192 = .ok (.iload 6, 2) := by decide +kernel
theorem dX12_month_194 : decode cX12_month 194 = .ok (.iaload, 1) := by decide +kernel
theorem dX12_month_195 : decode cX12_month 195 = .ok (.iadd, 1) := by decide +kernel
theorem dX12_month_196 : decode cX12_month 196 = .ok (.ireturn, 1) := by decide +kernel
theorem dX12_settle_0 : decode cX12_settle 0 = .ok (.iload_n 2, 1) := by decide +kernel
theorem dX12_settle_1 : decode cX12_settle 1 = .ok (.istore_n 3, 1) := by decide +kernel
theorem dX12_settle_2 : decode cX12_settle 2 = .ok (.sipush 333, 3) := by decide +kernel
theorem dX12_settle_5 : decode cX12_settle 5 = .ok (.iload_n 1, 1) := by decide +kernel
theorem dX12_settle_6 : decode cX12_settle 6 = .ok (.imul, 1) := by decide +kernel
theorem dX12_settle_7 : decode cX12_settle 7 = .ok (.istore 4, 2) := by decide +kernel
theorem dX12_settle_9 : decode cX12_settle 9 = .ok (.iload 4, 2) := by decide +kernel
theorem dX12_settle_11 : decode cX12_settle 11 = .ok (.sipush 333, 3) := by decide +kernel
theorem dX12_settle_14 : decode cX12_settle 14 = .ok (.iload_n 1, 1) := by decide +kernel
theorem dX12_settle_15 : decode cX12_settle 15 = .ok (.imul, 1) := by decide +kernel
theorem dX12_settle_16 : decode cX12_settle 16 = .ok (.sipush 333, 3) := by decide +kernel
theorem dX12_settle_19 : decode cX12_settle 19 = .ok (.iadd, 1) := by decide +kernel
theorem dX12_settle_20 : decode cX12_settle 20 = .ok (.if_icmp .ge 120, 3) := by decide +kernel
theorem dX12_settle_23 : decode cX12_settle 23 = .ok (.iload_n 3, 1) := by decide +kernel
theorem dX12_settle_24 : decode cX12_settle 24 = .ok (.ifCond .le 116, 3) := by decide +kernel
theorem dX12_settle_27 : decode cX12_settle 27 = .ok (.aload_n 0, 1) := by decide +kernel
theorem dX12_settle_28 : decode cX12_settle 28 = .ok (.getfield 94, 3) := by decide +kernel
theorem dX12_settle_31 : decode cX12_settle 31 = .ok (.iload 4, 2) := by decide +kernel
theorem dX12_settle_33 : decode cX12_settle 33 = .ok (.iaload, 1) := by decide +kernel
theorem dX12_settle_34 : decode cX12_settle 34 = .ok (.aload_n 0, 1) := by decide +kernel
theorem dX12_settle_35 : decode cX12_settle 35 = .ok (.getfield 100, 3) := by decide +kernel
theorem dX12_settle_38 : decode cX12_settle 38 = .ok (.iload 4, 2) := by decide +kernel
theorem dX12_settle_40 : decode cX12_settle 40 = .ok (.iaload, 1) := by decide +kernel
theorem dX12_settle_41 : decode cX12_settle 41 = .ok (.isub, 1) := by decide +kernel
theorem dX12_settle_42 : decode cX12_settle 42 = .ok (.istore 5, 2) := by decide +kernel
theorem dX12_settle_44 : decode cX12_settle 44 = .ok (.iload 5, 2) := by decide +kernel
theorem dX12_settle_46 : decode cX12_settle 46 = .ok (.iload_n 3, 1) := by decide +kernel
theorem dX12_settle_47 : decode cX12_settle 47 = .ok (.if_icmp .ge 8, 3) := by decide +kernel
theorem dX12_settle_50 : decode cX12_settle 50 = .ok (.iload 5, 2) := by decide +kernel
theorem dX12_settle_52 : decode cX12_settle 52 = .ok (.goto 4, 3) := by decide +kernel
theorem dX12_settle_55 : decode cX12_settle 55 = .ok (.iload_n 3, 1) := by decide +kernel
theorem dX12_settle_56 : decode cX12_settle 56 = .ok (.istore 5, 2) := by decide +kernel
theorem dX12_settle_58 : decode cX12_settle 58 = .ok (.aload_n 0, 1) := by decide +kernel
theorem dX12_settle_59 : decode cX12_settle 59 = .ok (.getfield 100, 3) := by decide +kernel
theorem dX12_settle_62 : decode cX12_settle 62 = .ok (.iload 4, 2) := by decide +kernel
theorem dX12_settle_64 : decode cX12_settle 64 = .ok (.dup2, 1) := by decide +kernel
theorem dX12_settle_65 : decode cX12_settle 65 = .ok (.iaload, 1) := by decide +kernel
theorem dX12_settle_66 : decode cX12_settle 66 = .ok (.iload 5, 2) := by decide +kernel
theorem dX12_settle_68 : decode cX12_settle 68 = .ok (.iadd, 1) := by decide +kernel
theorem dX12_settle_69 : decode cX12_settle 69 = .ok (.iastore, 1) := by decide +kernel
theorem dX12_settle_70 : decode cX12_settle 70 = .ok (.iload_n 3, 1) := by decide +kernel
theorem dX12_settle_71 : decode cX12_settle 71 = .ok (.iload 5, 2) := by decide +kernel
theorem dX12_settle_73 : decode cX12_settle 73 = .ok (.isub, 1) := by decide +kernel
theorem dX12_settle_74 : decode cX12_settle 74 = .ok (.istore_n 3, 1) := by decide +kernel
theorem dX12_settle_75 : decode cX12_settle 75 = .ok (.aload_n 0, 1) := by decide +kernel
theorem dX12_settle_76 : decode cX12_settle 76 = .ok (.getfield 97, 3) := by decide +kernel
theorem dX12_settle_79 : decode cX12_settle 79 = .ok (.iload 4, 2) := by decide +kernel
theorem dX12_settle_81 : decode cX12_settle 81 = .ok (.iaload, 1) := by decide +kernel
theorem dX12_settle_82 : decode cX12_settle 82 = .ok (.aload_n 0, 1) := by decide +kernel
theorem dX12_settle_83 : decode cX12_settle 83 = .ok (.getfield 103, 3) := by decide +kernel
theorem dX12_settle_86 : decode cX12_settle 86 = .ok (.iload 4, 2) := by decide +kernel
theorem dX12_settle_88 : decode cX12_settle 88 = .ok (.iaload, 1) := by decide +kernel
theorem dX12_settle_89 : decode cX12_settle 89 = .ok (.isub, 1) := by decide +kernel
theorem dX12_settle_90 : decode cX12_settle 90 = .ok (.istore 5, 2) := by decide +kernel
theorem dX12_settle_92 : decode cX12_settle 92 = .ok (.iload 5, 2) := by decide +kernel
theorem dX12_settle_94 : decode cX12_settle 94 = .ok (.iload_n 3, 1) := by decide +kernel
theorem dX12_settle_95 : decode cX12_settle 95 = .ok (.if_icmp .ge 8, 3) := by decide +kernel
theorem dX12_settle_98 : decode cX12_settle 98 = .ok (.iload 5, 2) := by decide +kernel
theorem dX12_settle_100 : decode cX12_settle 100 = .ok (.goto 4, 3) := by decide +kernel
theorem dX12_settle_103 : decode cX12_settle 103 = .ok (.iload_n 3, 1) := by decide +kernel
theorem dX12_settle_104 : decode cX12_settle 104 = .ok (.istore 5, 2) := by decide +kernel
theorem dX12_settle_106 : decode cX12_settle 106 = .ok (.aload_n 0, 1) := by decide +kernel
theorem dX12_settle_107 : decode cX12_settle 107 = .ok (.getfield 103, 3) := by decide +kernel
theorem dX12_settle_110 : decode cX12_settle 110 = .ok (.iload 4, 2) := by decide +kernel
theorem dX12_settle_112 : decode cX12_settle 112 = .ok (.dup2, 1) := by decide +kernel
theorem dX12_settle_113 : decode cX12_settle 113 = .ok (.iaload, 1) := by decide +kernel
theorem dX12_settle_114 : decode cX12_settle 114 = .ok (.iload 5, 2) := by decide +kernel
theorem dX12_settle_116 : decode cX12_settle 116 = .ok (.iadd, 1) := by decide +kernel
theorem dX12_settle_117 : decode cX12_settle 117 = .ok (.iastore, 1) := by decide +kernel
theorem dX12_settle_118 : decode cX12_settle 118 = .ok (.aload_n 0, 1) := by decide +kernel
theorem dX12_settle_119 : decode cX12_settle 119 = .ok (.dup, 1) := by decide +kernel
theorem dX12_settle_120 : decode cX12_settle 120 = .ok (.getfield 310, 3) := by decide +kernel
theorem dX12_settle_123 : decode cX12_settle 123 = .ok (.iload 5, 2) := by decide +kernel
theorem dX12_settle_125 : decode cX12_settle 125 = .ok (.iadd, 1) := by decide +kernel
theorem dX12_settle_126 : decode cX12_settle 126 = .ok (.putfield 310, 3) := by decide +kernel
theorem dX12_settle_129 : decode cX12_settle 129 = .ok (.iload_n 3, 1) := by decide +kernel
theorem dX12_settle_130 : decode cX12_settle 130 = .ok (.iload 5, 2) := by decide +kernel
theorem dX12_settle_132 : decode cX12_settle 132 = .ok (.isub, 1) := by decide +kernel
theorem dX12_settle_133 : decode cX12_settle 133 = .ok (.istore_n 3, 1) := by decide +kernel
theorem dX12_settle_134 : decode cX12_settle 134 = .ok (.iinc 4 1, 3) := by decide +kernel
theorem dX12_settle_137 : decode cX12_settle 137 = .ok (.goto (-128), 3) := by decide +kernel
theorem dX12_settle_140 : decode cX12_settle 140 = .ok (.aload_n 0, 1) := by decide +kernel
theorem dX12_settle_141 : decode cX12_settle 141 = .ok (.getfield 106, 3) := by decide +kernel
theorem dX12_settle_144 : decode cX12_settle 144 = .ok (.iload_n 1, 1) := by decide +kernel
theorem dX12_settle_145 : decode cX12_settle 145 = .ok (.dup2, 1) := by decide +kernel
theorem dX12_settle_146 : decode cX12_settle 146 = .ok (.iaload, 1) := by decide +kernel
theorem dX12_settle_147 : decode cX12_settle 147 = .ok (.iload_n 3, 1) := by decide +kernel
theorem dX12_settle_148 : decode cX12_settle 148 = .ok (.iadd, 1) := by decide +kernel
theorem dX12_settle_149 : decode cX12_settle 149 = .ok (.iastore, 1) := by decide +kernel
theorem dX12_settle_150 : decode cX12_settle 150 = .ok (.aload_n 0, 1) := by decide +kernel
theorem dX12_settle_151 : decode cX12_settle 151 = .ok (.iload_n 1, 1) := by decide +kernel
theorem dX12_settle_152 : decode cX12_settle 152 = .ok (.invokevirtual 165, 3) := by decide +kernel
theorem dX12_settle_155 : decode cX12_settle 155 = .ok (.ifCond .eq 17, 3) := by decide +kernel
theorem dX12_settle_158 : decode cX12_settle 158 = .ok (.aload_n 0, 1) := by decide +kernel
theorem dX12_settle_159 : decode cX12_settle 159 = .ok (.iload_n 1, 1) := by decide +kernel
theorem dX12_settle_160 : decode cX12_settle 160 = .ok (.invokevirtual 168, 3) := by decide +kernel
theorem dX12_settle_163 : decode cX12_settle 163 = .ok (.ifCond .gt 9, 3) := by decide +kernel
theorem dX12_settle_166 : decode cX12_settle 166 = .ok (.aload_n 0, 1) := by decide +kernel
theorem dX12_settle_167 : decode cX12_settle 167 = .ok (.iload_n 1, 1) := by decide +kernel
theorem dX12_settle_168 : decode cX12_settle 168 = .ok (.iconst 1, 1) := by decide +kernel
theorem dX12_settle_169 : decode cX12_settle 169 = .ok (.invokevirtual 172, 3) := by decide +kernel
theorem dX12_settle_172 : decode cX12_settle 172 = .ok (.return_, 1) := by decide +kernel
theorem dX12_isShortMonth_0 : decode cX12_isShortMonth 0 = .ok (.aload_n 0, 1) := by decide +kernel
theorem dX12_isShortMonth_1 : decode cX12_isShortMonth 1 = .ok (.getfield 85, 3) := by decide +kernel
theorem dX12_isShortMonth_4 : decode cX12_isShortMonth 4 = .ok (.iload_n 1, 1) := by decide +kernel
theorem dX12_isShortMonth_5 : decode cX12_isShortMonth 5 = .ok (.iaload, 1) := by decide +kernel
theorem dX12_isShortMonth_6 : decode cX12_isShortMonth 6 = .ok (.aload_n 0, 1) := by decide +kernel
theorem dX12_isShortMonth_7 : decode cX12_isShortMonth 7 = .ok (.getfield 88, 3) := by decide +kernel
theorem dX12_isShortMonth_10 : decode cX12_isShortMonth 10 = .ok (.iload_n 1, 1) := by decide +kernel
theorem dX12_isShortMonth_11 : decode cX12_isShortMonth 11 = .ok (.iaload, 1) := by decide +kernel
theorem dX12_isShortMonth_12 : decode cX12_isShortMonth 12 = .ok (.aload_n 0, 1) := by decide +kernel
theorem dX12_isShortMonth_13 : decode cX12_isShortMonth 13 = .ok (.getfield 23, 3) := by decide +kernel
theorem dX12_isShortMonth_16 : decode cX12_isShortMonth 16 = .ok (.imul, 1) := by decide +kernel
theorem dX12_isShortMonth_17 : decode cX12_isShortMonth 17 = .ok (.if_icmp .lt 18, 3) := by decide +kernel
theorem dX12_isShortMonth_20 : decode cX12_isShortMonth 20 = .ok (.aload_n 0, 1) := by decide +kernel
theorem dX12_isShortMonth_21 : decode cX12_isShortMonth 21 = .ok (.getfield 85, 3) := by decide +kernel
theorem dX12_isShortMonth_24 : decode cX12_isShortMonth 24 = .ok (.iload_n 1, 1) := by decide +kernel
theorem dX12_isShortMonth_25 : decode cX12_isShortMonth 25 = .ok (.iaload, 1) := by decide +kernel
theorem dX12_isShortMonth_26 : decode cX12_isShortMonth 26 = .ok (.aload_n 0, 1) := by decide +kernel
theorem dX12_isShortMonth_27 : decode cX12_isShortMonth 27 = .ok (.getfield 91, 3) := by decide +kernel
theorem dX12_isShortMonth_30 : decode cX12_isShortMonth 30 = .ok (.iload_n 1, 1) := by decide +kernel
theorem dX12_isShortMonth_31 : decode cX12_isShortMonth 31 = .ok (.iaload, 1) := by decide +kernel
theorem dX12_isShortMonth_32 : decode cX12_isShortMonth 32 = .ok (.if_icmp .ge 7, 3) := by decide +kernel
theorem dX12_isShortMonth_35 : decode cX12_isShortMonth 35 = .ok (.iconst 1, 1) := by decide +kernel
theorem dX12_isShortMonth_36 : decode cX12_isShortMonth 36 = .ok (.goto 4, 3) := by decide +kernel
theorem dX12_isShortMonth_39 : decode cX12_isShortMonth 39 = .ok (.iconst 0, 1) := by decide +kernel
theorem dX12_isShortMonth_40 : decode cX12_isShortMonth 40 = .ok (.ireturn, 1) := by decide +kernel
theorem dX12_isShort_0 : decode cX12_isShort 0 = .ok (.aload_n 0, 1) := by decide +kernel
theorem dX12_isShort_1 : decode cX12_isShort 1 = .ok (.iload_n 1, 1) := by decide +kernel
theorem dX12_isShort_2 : decode cX12_isShort 2 = .ok (.invokevirtual 192, 3) := by decide +kernel
theorem dX12_isShort_5 : decode cX12_isShort 5 = .ok (.ifCond .eq 25, 3) := by decide +kernel
theorem dX12_isShort_8 : decode cX12_isShort 8 = .ok (.iload_n 2, 1) := by decide +kernel
theorem dX12_isShort_9 : decode cX12_isShort 9 = .ok (.invokestatic 293, 3) := by decide +kernel
theorem dX12_isShort_12 : decode cX12_isShort 12 = .ok (.ifCond .eq 18, 3) := by decide +kernel
theorem dX12_isShort_15 : decode cX12_isShort 15 = .ok (.aload_n 0, 1) := by decide +kernel
theorem dX12_isShort_16 : decode cX12_isShort 16 = .ok (.getfield 81, 3) := by decide +kernel
theorem dX12_isShort_19 : decode cX12_isShort 19 = .ok (.sipush 333, 3) := by decide +kernel
theorem dX12_isShort_22 : decode cX12_isShort 22 = .ok (.iload_n 1, 1) := by decide +kernel
theorem dX12_isShort_23 : decode cX12_isShort 23 = .ok (.imul, 1) := by decide +kernel
theorem dX12_isShort_24 : decode cX12_isShort 24 = .ok (.iload_n 2, 1) := by decide +kernel
theorem dX12_isShort_25 : decode cX12_isShort 25 = .ok (.iadd, 1) := by decide +kernel
theorem dX12_isShort_26 : decode cX12_isShort 26 = .ok (.baload, 1) := by decide +kernel
theorem dX12_isShort_27 : decode cX12_isShort 27 = .ok (.ifCond .ne 5, 3) := by decide +kernel
theorem dX12_isShort_30 : decode cX12_isShort 30 = .ok (.iconst (-1), 1) := by decide +kernel
theorem dX12_isShort_31 : decode cX12_isShort 31 = .ok (.ireturn, 1) := by decide +kernel
theorem dX12_isShort_32 : decode cX12_isShort 32 = .ok (.aload_n 0, 1) := by decide +kernel
theorem dX12_isShort_33 : decode cX12_isShort 33 = .ok (.sipush 333, 3) := by decide +kernel
theorem dX12_isShort_36 : decode cX12_isShort 36 = .ok (.iload_n 1, 1) := by decide +kernel
theorem dX12_isShort_37 : decode cX12_isShort 37 = .ok (.imul, 1) := by decide +kernel
theorem dX12_isShort_38 : decode cX12_isShort 38 = .ok (.iload_n 2, 1) := by decide +kernel
theorem dX12_isShort_39 : decode cX12_isShort 39 = .ok (.iadd, 1) := by decide +kernel
theorem dX12_isShort_40 : decode cX12_isShort 40 = .ok (.invokevirtual 313, 3) := by decide +kernel
theorem dX12_isShort_43 : decode cX12_isShort 43 = .ok (.ifCond .eq 7, 3) := by decide +kernel
theorem dX12_isShort_46 : decode cX12_isShort 46 = .ok (.iconst 1, 1) := by decide +kernel
theorem dX12_isShort_47 : decode cX12_isShort 47 = .ok (.goto 4, 3) := by decide +kernel
theorem dX12_isShort_50 : decode cX12_isShort 50 = .ok (.iconst 0, 1) := by decide +kernel
theorem dX12_isShort_51 : decode cX12_isShort 51 = .ok (.ireturn, 1) := by decide +kernel
theorem dX12_under_0 : decode cX12_under 0 = .ok (.aload_n 0, 1) := by decide +kernel
theorem dX12_under_1 : decode cX12_under 1 = .ok (.iload_n 1, 1) := by decide +kernel
theorem dX12_under_2 : decode cX12_under 2 = .ok (.invokevirtual 192, 3) := by decide +kernel
theorem dX12_under_5 : decode cX12_under 5 = .ok (.ifCond .eq 10, 3) := by decide +kernel
theorem dX12_under_8 : decode cX12_under 8 = .ok (.iload_n 2, 1) := by decide +kernel
theorem dX12_under_9 : decode cX12_under 9 = .ok (.invokestatic 293, 3) := by decide +kernel
theorem dX12_under_12 : decode cX12_under 12 = .ok (.ifCond .ne 5, 3) := by decide +kernel
theorem dX12_under_15 : decode cX12_under 15 = .ok (.iconst (-1), 1) := by decide +kernel
theorem dX12_under_16 : decode cX12_under 16 = .ok (.ireturn, 1) := by decide +kernel
theorem dX12_under_17 : decode cX12_under 17 = .ok (.iconst 0, 1) := by decide +kernel
theorem dX12_under_18 : decode cX12_under 18 = .ok (.istore_n 3, 1) := by decide +kernel
theorem dX12_under_19 : decode cX12_under 19 = .ok (.iconst 0, 1) := by decide +kernel
theorem dX12_under_20 : decode cX12_under 20 = .ok (.istore 4, 2) := by decide +kernel
theorem dX12_under_22 : decode cX12_under 22 = .ok (.iload_n 2, 1) := by decide +kernel
theorem dX12_under_23 : decode cX12_under 23 = .ok (.istore 5, 2) := by decide +kernel
theorem dX12_under_25 : decode cX12_under 25 = .ok (.iload 5, 2) := by decide +kernel
theorem dX12_under_27 : decode cX12_under 27 = .ok (.ifCond .lt 59, 3) := by decide +kernel
theorem dX12_under_30 : decode cX12_under 30 = .ok (.iload_n 3, 1) := by decide +kernel
theorem dX12_under_31 : decode cX12_under 31 = .ok (.bipush 6, 2) := by decide +kernel
theorem dX12_under_33 : decode cX12_under 33 = .ok (.if_icmp .ge 53, 3) := by decide +kernel
theorem dX12_under_36 : decode cX12_under 36 = .ok (.aload_n 0, 1) := by decide +kernel
theorem dX12_under_37 : decode cX12_under 37 = .ok (.getfield 81, 3) := by decide +kernel
theorem dX12_under_40 : decode cX12_under 40 = .ok (.sipush 333, 3) := by decide +kernel
theorem dX12_under_43 : decode cX12_under 43 = .ok (.iload_n 1, 1) := by decide +kernel
theorem dX12_under_44 : decode cX12_under 44 = .ok (.imul, 1) := by decide +kernel
theorem dX12_under_45 : decode cX12_under 45 = .ok (.iload 5, 2) := by decide +kernel
theorem dX12_under_47 : decode cX12_under 47 = .ok (.iadd, 1) := by decide +kernel
theorem dX12_under_48 : decode cX12_under 48 = .ok (.baload, 1) := by decide +kernel
theorem dX12_under_49 : decode cX12_under 49 = .ok (.ifCond .eq 31, 3) := by decide +kernel
theorem dX12_under_52 : decode cX12_under 52 = .ok (.iinc 3 1, 3) := by decide +kernel
theorem dX12_under_55 : decode cX12_under 55 = .ok (.iload 4, 2) := by decide +kernel
theorem dX12_under_57 : decode cX12_under 57 = .ok (.aload_n 0, 1) := by decide +kernel
theorem dX12_under_58 : decode cX12_under 58 = .ok (.sipush 333, 3) := by decide +kernel
theorem dX12_under_61 : decode cX12_under 61 = .ok (.iload_n 1, 1) := by decide +kernel
theorem dX12_under_62 : decode cX12_under 62 = .ok (.imul, 1) := by decide +kernel
theorem dX12_under_63 : decode cX12_under 63 = .ok (.iload 5, 2) := by decide +kernel
theorem dX12_under_65 : decode cX12_under 65 = .ok (.iadd, 1) := by decide +kernel
theorem dX12_under_66 : decode cX12_under 66 = .ok (.invokevirtual 313, 3) := by decide +kernel
theorem dX12_under_69 : decode cX12_under 69 = .ok (.ifCond .eq 7, 3) := by decide +kernel
theorem dX12_under_72 : decode cX12_under 72 = .ok (.iconst 1, 1) := by decide +kernel
theorem dX12_under_73 : decode cX12_under 73 = .ok (.goto 4, 3) := by decide +kernel
theorem dX12_under_76 : decode cX12_under 76 = .ok (.iconst 0, 1) := by decide +kernel
theorem dX12_under_77 : decode cX12_under 77 = .ok (.iadd, 1) := by decide +kernel
theorem dX12_under_78 : decode cX12_under 78 = .ok (.istore 4, 2) := by decide +kernel
theorem dX12_under_80 : decode cX12_under 80 = .ok (.iinc 5 (-1), 3) := by decide +kernel
theorem dX12_under_83 : decode cX12_under 83 = .ok (.goto (-58), 3) := by decide +kernel
theorem dX12_under_86 : decode cX12_under 86 = .ok (.iload 4, 2) := by decide +kernel
theorem dX12_under_88 : decode cX12_under 88 = .ok (.iconst 3, 1) := by decide +kernel
theorem dX12_under_89 : decode cX12_under 89 = .ok (.if_icmp .lt 7, 3) := by decide +kernel
theorem dX12_under_92 : decode cX12_under 92 = .ok (.iconst 1, 1) := by decide +kernel
theorem dX12_under_93 : decode cX12_under 93 = .ok (.goto 4, 3) := by decide +kernel
theorem dX12_under_96 : decode cX12_under 96 = .ok (.iconst 0, 1) := by decide +kernel
theorem dX12_under_97 : decode cX12_under 97 = .ok (.ireturn, 1) := by decide +kernel
theorem dX12_owedOf_0 : decode cX12_owedOf 0 = .ok (.aload_n 0, 1) := by decide +kernel
theorem dX12_owedOf_1 : decode cX12_owedOf 1 = .ok (.getfield 106, 3) := by decide +kernel
theorem dX12_owedOf_4 : decode cX12_owedOf 4 = .ok (.iload_n 1, 1) := by decide +kernel
theorem dX12_owedOf_5 : decode cX12_owedOf 5 = .ok (.iaload, 1) := by decide +kernel
theorem dX12_owedOf_6 : decode cX12_owedOf 6 = .ok (.ineg, 1) := by decide +kernel
theorem dX12_owedOf_7 : decode cX12_owedOf 7 = .ok (.istore_n 2, 1) := by decide +kernel
theorem dX12_owedOf_8 : decode cX12_owedOf 8 = .ok (.sipush 333, 3) := by decide +kernel
theorem dX12_owedOf_11 : decode cX12_owedOf 11 = .ok (.iload_n 1, 1) := by decide +kernel
theorem dX12_owedOf_12 : decode cX12_owedOf 12 = .ok (.imul, 1) := by decide +kernel
theorem dX12_owedOf_13 : decode cX12_owedOf 13 = .ok (.istore_n 3, 1) := by decide +kernel
theorem dX12_owedOf_14 : decode cX12_owedOf 14 = .ok (.iload_n 3, 1) := by decide +kernel
theorem dX12_owedOf_15 : decode cX12_owedOf 15 = .ok (.sipush 333, 3) := by decide +kernel
theorem dX12_owedOf_18 : decode cX12_owedOf 18 = .ok (.iload_n 1, 1) := by decide +kernel
theorem dX12_owedOf_19 : decode cX12_owedOf 19 = .ok (.imul, 1) := by decide +kernel
theorem dX12_owedOf_20 : decode cX12_owedOf 20 = .ok (.sipush 333, 3) := by decide +kernel
theorem dX12_owedOf_23 : decode cX12_owedOf 23 = .ok (.iadd, 1) := by decide +kernel
theorem dX12_owedOf_24 : decode cX12_owedOf 24 = .ok (.if_icmp .ge 39, 3) := by decide +kernel
theorem dX12_owedOf_27 : decode cX12_owedOf 27 = .ok (.iload_n 2, 1) := by decide +kernel
theorem dX12_owedOf_28 : decode cX12_owedOf 28 = .ok (.aload_n 0, 1) := by decide +kernel
theorem dX12_owedOf_29 : decode cX12_owedOf 29 = .ok (.getfield 94, 3) := by decide +kernel
theorem dX12_owedOf_32 : decode cX12_owedOf 32 = .ok (.iload_n 3, 1) := by decide +kernel
theorem dX12_owedOf_33 : decode cX12_owedOf 33 = .ok (.iaload, 1) := by decide +kernel
theorem dX12_owedOf_34 : decode cX12_owedOf 34 = .ok (.aload_n 0, 1) := by decide +kernel
theorem dX12_owedOf_35 : decode cX12_owedOf 35 = .ok (.getfield 100, 3) := by decide +kernel
theorem dX12_owedOf_38 : decode cX12_owedOf 38 = .ok (.iload_n 3, 1) := by decide +kernel
theorem dX12_owedOf_39 : decode cX12_owedOf 39 = .ok (.iaload, 1) := by decide +kernel
theorem dX12_owedOf_40 : decode cX12_owedOf 40 = .ok (.isub, 1) := by decide +kernel
theorem dX12_owedOf_41 : decode cX12_owedOf 41 = .ok (.aload_n 0, 1) := by decide +kernel
theorem dX12_owedOf_42 : decode cX12_owedOf 42 = .ok (.getfield 97, 3) := by decide +kernel
theorem dX12_owedOf_45 : decode cX12_owedOf 45 = .ok (.iload_n 3, 1) := by decide +kernel
theorem dX12_owedOf_46 : decode cX12_owedOf 46 = .ok (.iaload, 1) := by decide +kernel
theorem dX12_owedOf_47 : decode cX12_owedOf 47 = .ok (.iadd, 1) := by decide +kernel
theorem dX12_owedOf_48 : decode cX12_owedOf 48 = .ok (.aload_n 0, 1) := by decide +kernel
theorem dX12_owedOf_49 : decode cX12_owedOf 49 = .ok (.getfield 103, 3) := by decide +kernel
theorem dX12_owedOf_52 : decode cX12_owedOf 52 = .ok (.iload_n 3, 1) := by decide +kernel
theorem dX12_owedOf_53 : decode cX12_owedOf 53 = .ok (.iaload, 1) := by decide +kernel
theorem dX12_owedOf_54 : decode cX12_owedOf 54 = .ok (.isub, 1) := by decide +kernel
theorem dX12_owedOf_55 : decode cX12_owedOf 55 = .ok (.iadd, 1) := by decide +kernel
theorem dX12_owedOf_56 : decode cX12_owedOf 56 = .ok (.istore_n 2, 1) := by decide +kernel
theorem dX12_owedOf_57 : decode cX12_owedOf 57 = .ok (.iinc 3 1, 3) := by decide +kernel
theorem dX12_owedOf_60 : decode cX12_owedOf 60 = .ok (.goto (-46), 3) := by decide +kernel
theorem dX12_owedOf_63 : decode cX12_owedOf 63 = .ok (.iload_n 2, 1) := by decide +kernel
theorem dX12_owedOf_64 : decode cX12_owedOf 64 = .ok (.ireturn, 1) := by decide +kernel
theorem dX12_pay_0 : decode cX12_pay 0 = .ok (.aload_n 0, 1) := by decide +kernel
theorem dX12_pay_1 : decode cX12_pay 1 = .ok (.iload_n 1, 1) := by decide +kernel
theorem dX12_pay_2 : decode cX12_pay 2 = .ok (.invokevirtual 192, 3) := by decide +kernel
theorem dX12_pay_5 : decode cX12_pay 5 = .ok (.ifCond .eq 13, 3) := by decide +kernel
theorem dX12_pay_8 : decode cX12_pay 8 = .ok (.iload_n 2, 1) := by decide +kernel
theorem dX12_pay_9 : decode cX12_pay 9 = .ok (.iconst 1, 1) := by decide +kernel
theorem dX12_pay_10 : decode cX12_pay 10 = .ok (.ldc 154, 2) := by decide +kernel
theorem dX12_pay_12 : decode cX12_pay 12 = .ok (.invokestatic 142, 3) := by decide +kernel
theorem dX12_pay_15 : decode cX12_pay 15 = .ok (.ifCond .ne 7, 3) := by decide +kernel
theorem dX12_pay_18 : decode cX12_pay 18 = .ok (.ldc_w 316, 3) := by decide +kernel
theorem dX12_pay_21 : decode cX12_pay 21 = .ok (.ireturn, 1) := by decide +kernel
theorem dX12_pay_22 : decode cX12_pay 22 = .ok (.aload_n 0, 1) := by decide +kernel
theorem dX12_pay_23 : decode cX12_pay 23 = .ok (.iload_n 1, 1) := by decide +kernel
theorem dX12_pay_24 : decode cX12_pay 24 = .ok (.iload_n 2, 1) := by decide +kernel
theorem dX12_pay_25 : decode cX12_pay 25 = .ok (.invokevirtual 307, 3) := by decide +kernel
theorem dX12_pay_28 : decode cX12_pay 28 = .ok (.aload_n 0, 1) := by decide +kernel
theorem dX12_pay_29 : decode cX12_pay 29 = .ok (.iload_n 1, 1) := by decide +kernel
theorem dX12_pay_30 : decode cX12_pay 30 = .ok (.invokevirtual 168, 3) := by decide +kernel
theorem dX12_pay_33 : decode cX12_pay 33 = .ok (.ireturn, 1) := by decide +kernel
theorem dX12_owed_0 : decode cX12_owed 0 = .ok (.aload_n 0, 1) := by decide +kernel
theorem dX12_owed_1 : decode cX12_owed 1 = .ok (.iload_n 1, 1) := by decide +kernel
theorem dX12_owed_2 : decode cX12_owed 2 = .ok (.invokevirtual 192, 3) := by decide +kernel
theorem dX12_owed_5 : decode cX12_owed 5 = .ok (.ifCond .eq 11, 3) := by decide +kernel
theorem dX12_owed_8 : decode cX12_owed 8 = .ok (.aload_n 0, 1) := by decide +kernel
theorem dX12_owed_9 : decode cX12_owed 9 = .ok (.iload_n 1, 1) := by decide +kernel
theorem dX12_owed_10 : decode cX12_owed 10 = .ok (.invokevirtual 168, 3) := by decide +kernel
theorem dX12_owed_13 : decode cX12_owed 13 = .ok (.goto 6, 3) := by decide +kernel
theorem dX12_owed_16 : decode cX12_owed 16 = .ok (.ldc_w 316, 3) := by decide +kernel
theorem dX12_owed_19 : decode cX12_owed 19 = .ok (.ireturn, 1) := by decide +kernel
theorem dX12_led_0 : decode cX12_led 0 = .ok (.aload_n 0, 1) := by decide +kernel
theorem dX12_led_1 : decode cX12_led 1 = .ok (.iload_n 1, 1) := by decide +kernel
theorem dX12_led_2 : decode cX12_led 2 = .ok (.invokevirtual 192, 3) := by decide +kernel
theorem dX12_led_5 : decode cX12_led 5 = .ok (.ifCond .eq 34, 3) := by decide +kernel
theorem dX12_led_8 : decode cX12_led 8 = .ok (.iload_n 2, 1) := by decide +kernel
theorem dX12_led_9 : decode cX12_led 9 = .ok (.invokestatic 293, 3) := by decide +kernel
theorem dX12_led_12 : decode cX12_led 12 = .ok (.ifCond .eq 27, 3) := by decide +kernel
theorem dX12_led_15 : decode cX12_led 15 = .ok (.aload_n 0, 1) := by decide +kernel
theorem dX12_led_16 : decode cX12_led 16 = .ok (.getfield 81, 3) := by decide +kernel
theorem dX12_led_19 : decode cX12_led 19 = .ok (.sipush 333, 3) := by decide +kernel
theorem dX12_led_22 : decode cX12_led 22 = .ok (.iload_n 1, 1) := by decide +kernel
theorem dX12_led_23 : decode cX12_led 23 = .ok (.imul, 1) := by decide +kernel
theorem dX12_led_24 : decode cX12_led 24 = .ok (.iload_n 2, 1) := by decide +kernel
theorem dX12_led_25 : decode cX12_led 25 = .ok (.iadd, 1) := by decide +kernel
theorem dX12_led_26 : decode cX12_led 26 = .ok (.baload, 1) := by decide +kernel
theorem dX12_led_27 : decode cX12_led 27 = .ok (.ifCond .eq 12, 3) := by decide +kernel
theorem dX12_led_30 : decode cX12_led 30 = .ok (.iload_n 3, 1) := by decide +kernel
theorem dX12_led_31 : decode cX12_led 31 = .ok (.iconst 0, 1) := by decide +kernel
theorem dX12_led_32 : decode cX12_led 32 = .ok (.iconst 3, 1) := by decide +kernel
theorem dX12_led_33 : decode cX12_led 33 = .ok (.invokestatic 142, 3) := by decide +kernel
theorem dX12_led_36 : decode cX12_led 36 = .ok (.ifCond .ne 5, 3) := by decide +kernel
theorem dX12_led_39 : decode cX12_led 39 = .ok (.iconst (-1), 1) := by decide +kernel
theorem dX12_led_40 : decode cX12_led 40 = .ok (.ireturn, 1) := by decide +kernel
theorem dX12_led_41 : decode cX12_led 41 = .ok (.sipush 333, 3) := by decide +kernel
theorem dX12_led_44 : decode cX12_led 44 = .ok (.iload_n 1, 1) := by decide +kernel
theorem dX12_led_45 : decode cX12_led 45 = .ok (.imul, 1) := by decide +kernel
theorem dX12_led_46 : decode cX12_led 46 = .ok (.iload_n 2, 1) := by decide +kernel
theorem dX12_led_47 : decode cX12_led 47 = .ok (.iadd, 1) := by decide +kernel
theorem dX12_led_48 : decode cX12_led 48 = .ok (.istore 4, 2) := by decide +kernel
theorem dX12_led_50 : decode cX12_led 50 = .ok (.iload_n 3, 1) := by decide +kernel
theorem dX12_led_51 : decode cX12_led 51 = .ok (.ifCond .ne 13, 3) := by decide +kernel
theorem dX12_led_54 : decode cX12_led 54 = .ok (.aload_n 0, 1) := by decide +kernel
theorem dX12_led_55 : decode cX12_led 55 = .ok (.getfield 94, 3) := by decide +kernel
theorem dX12_led_58 : decode cX12_led 58 = .ok (.iload 4, 2) := by decide +kernel
theorem dX12_led_60 : decode cX12_led 60 = .ok (.iaload, 1) := by decide +kernel
theorem dX12_led_61 : decode cX12_led 61 = .ok (.goto 40, 3) := by decide +kernel
theorem dX12_led_64 : decode cX12_led 64 = .ok (.iload_n 3, 1) := by decide +kernel
theorem dX12_led_65 : decode cX12_led 65 = .ok (.iconst 1, 1) := by decide +kernel
theorem dX12_led_66 : decode cX12_led 66 = .ok (.if_icmp .ne 13, 3) := by decide +kernel
theorem dX12_led_69 : decode cX12_led 69 = .ok (.aload_n 0, 1) := by decide +kernel
theorem dX12_led_70 : decode cX12_led 70 = .ok (.getfield 97, 3) := by decide +kernel
theorem dX12_led_73 : decode cX12_led 73 = .ok (.iload 4, 2) := by decide +kernel
theorem dX12_led_75 : decode cX12_led 75 = .ok (.iaload, 1) := by decide +kernel
theorem dX12_led_76 : decode cX12_led 76 = .ok (.goto 25, 3) := by decide +kernel
theorem dX12_led_79 : decode cX12_led 79 = .ok (.iload_n 3, 1) := by decide +kernel
theorem dX12_led_80 : decode cX12_led 80 = .ok (.iconst 2, 1) := by decide +kernel
theorem dX12_led_81 : decode cX12_led 81 = .ok (.if_icmp .ne 13, 3) := by decide +kernel
theorem dX12_led_84 : decode cX12_led 84 = .ok (.aload_n 0, 1) := by decide +kernel
theorem dX12_led_85 : decode cX12_led 85 = .ok (.getfield 100, 3) := by decide +kernel
theorem dX12_led_88 : decode cX12_led 88 = .ok (.iload 4, 2) := by decide +kernel
theorem dX12_led_90 : decode cX12_led 90 = .ok (.iaload, 1) := by decide +kernel
theorem dX12_led_91 : decode cX12_led 91 = .ok (.goto 10, 3) := by decide +kernel
theorem dX12_led_94 : decode cX12_led 94 = .ok (.aload_n 0, 1) := by decide +kernel
theorem dX12_led_95 : decode cX12_led 95 = .ok (.getfield 103, 3) := by decide +kernel
theorem dX12_led_98 : decode cX12_led 98 = .ok (.iload 4, 2) := by decide +kernel
theorem dX12_led_100 : decode cX12_led 100 = .ok (.iaload, 1) := by decide +kernel
theorem dX12_led_101 : decode cX12_led 101 = .ok (.ireturn, 1) := by decide +kernel
theorem dX12_runs_0 : decode cX12_runs 0 = .ok (.aload_n 0, 1) := by decide +kernel
theorem dX12_runs_1 : decode cX12_runs 1 = .ok (.getfield 109, 3) := by decide +kernel
theorem dX12_runs_4 : decode cX12_runs 4 = .ok (.iload_n 1, 1) := by decide +kernel
theorem dX12_runs_5 : decode cX12_runs 5 = .ok (.iaload, 1) := by decide +kernel
theorem dX12_runs_6 : decode cX12_runs 6 = .ok (.ifCond .lt 16, 3) := by decide +kernel
theorem dX12_runs_9 : decode cX12_runs 9 = .ok (.aload_n 0, 1) := by decide +kernel
theorem dX12_runs_10 : decode cX12_runs 10 = .ok (.getfield 115, 3) := by decide +kernel
theorem dX12_runs_13 : decode cX12_runs 13 = .ok (.iload_n 1, 1) := by decide +kernel
theorem dX12_runs_14 : decode cX12_runs 14 = .ok (.iaload, 1) := by decide +kernel
theorem dX12_runs_15 : decode cX12_runs 15 = .ok (.ifCond .ne 7, 3) := by decide +kernel
theorem dX12_runs_18 : decode cX12_runs 18 = .ok (.iconst 1, 1) := by decide +kernel
theorem dX12_runs_19 : decode cX12_runs 19 = .ok (.goto 4, 3) := by decide +kernel
theorem dX12_runs_22 : decode cX12_runs 22 = .ok (.iconst 0, 1) := by decide +kernel
theorem dX12_runs_23 : decode cX12_runs 23 = .ok (.ireturn, 1) := by decide +kernel
theorem dX12_endNotice_0 : decode cX12_endNotice 0 = .ok (.aload_n 0, 1) := by decide +kernel
theorem dX12_endNotice_1 : decode cX12_endNotice 1 = .ok (.getfield 115, 3) := by decide +kernel
theorem dX12_endNotice_4 : decode cX12_endNotice 4 = .ok (.iload_n 1, 1) := by decide +kernel
theorem dX12_endNotice_5 : decode cX12_endNotice 5 = .ok (.iload_n 2, 1) := by decide +kernel
theorem dX12_endNotice_6 : decode cX12_endNotice 6 = .ok (.iastore, 1) := by decide +kernel
theorem dX12_endNotice_7 : decode cX12_endNotice 7 = .ok (.aload_n 0, 1) := by decide +kernel
theorem dX12_endNotice_8 : decode cX12_endNotice 8 = .ok (.getfield 118, 3) := by decide +kernel
theorem dX12_endNotice_11 : decode cX12_endNotice 11 = .ok (.iload_n 1, 1) := by decide +kernel
theorem dX12_endNotice_12 : decode cX12_endNotice 12 = .ok (.aload_n 0, 1) := by decide +kernel
theorem dX12_endNotice_13 : decode cX12_endNotice 13 = .ok (.getfield 162, 3) := by decide +kernel
theorem dX12_endNotice_16 : decode cX12_endNotice 16 = .ok (.iastore, 1) := by decide +kernel
theorem dX12_endNotice_17 : decode cX12_endNotice 17 = .ok (.return_, 1) := by decide +kernel
theorem dX12_notice_0 : decode cX12_notice 0 = .ok (.aload_n 0, 1) := by decide +kernel
theorem dX12_notice_1 : decode cX12_notice 1 = .ok (.iload_n 1, 1) := by decide +kernel
theorem dX12_notice_2 : decode cX12_notice 2 = .ok (.invokevirtual 192, 3) := by decide +kernel
theorem dX12_notice_5 : decode cX12_notice 5 = .ok (.ifCond .ne 5, 3) := by decide +kernel
theorem dX12_notice_8 : decode cX12_notice 8 = .ok (.iconst (-1), 1) := by decide +kernel
theorem dX12_notice_9 : decode cX12_notice 9 = .ok (.ireturn, 1) := by decide +kernel
theorem dX12_notice_10 : decode cX12_notice 10 = .ok (.aload_n 0, 1) := by decide +kernel
theorem dX12_notice_11 : decode cX12_notice 11 = .ok (.iload_n 1, 1) := by decide +kernel
theorem dX12_notice_12 : decode cX12_notice 12 = .ok (.invokevirtual 168, 3) := by decide +kernel
theorem dX12_notice_15 : decode cX12_notice 15 = .ok (.ifCond .le 19, 3) := by decide +kernel
theorem dX12_notice_18 : decode cX12_notice 18 = .ok (.aload_n 0, 1) := by decide +kernel
theorem dX12_notice_19 : decode cX12_notice 19 = .ok (.iload_n 1, 1) := by decide +kernel
theorem dX12_notice_20 : decode cX12_notice 20 = .ok (.invokevirtual 165, 3) := by decide +kernel
theorem dX12_notice_23 : decode cX12_notice 23 = .ok (.ifCond .ne 11, 3) := by decide +kernel
theorem dX12_notice_26 : decode cX12_notice 26 = .ok (.aload_n 0, 1) := by decide +kernel
theorem dX12_notice_27 : decode cX12_notice 27 = .ok (.iload_n 1, 1) := by decide +kernel
theorem dX12_notice_28 : decode cX12_notice 28 = .ok (.invokevirtual 176, 3) := by decide +kernel
theorem dX12_notice_31 : decode cX12_notice 31 = .ok (.ifCond .ne 6, 3) := by decide +kernel
theorem dX12_notice_34 : decode cX12_notice 34 = .ok (.bipush (-3), 2) := by decide +kernel
theorem dX12_notice_36 : decode cX12_notice 36 = .ok (.ireturn, 1) := by decide +kernel
theorem dX12_notice_37 : decode cX12_notice 37 = .ok (.aload_n 0, 1) := by decide +kernel
theorem dX12_notice_38 : decode cX12_notice 38 = .ok (.iconst 2, 1) := by decide +kernel
theorem dX12_notice_39 : decode cX12_notice 39 = .ok (.aload_n 0, 1) := by decide +kernel
theorem dX12_notice_40 : decode cX12_notice 40 = .ok (.getfield 162, 3) := by decide +kernel
theorem dX12_notice_43 : decode cX12_notice 43 = .ok (.aload_n 0, 1) := by decide +kernel
theorem dX12_notice_44 : decode cX12_notice 44 = .ok (.getfield 162, 3) := by decide +kernel
theorem dX12_notice_47 : decode cX12_notice 47 = .ok (.invokevirtual 286, 3) := by decide +kernel
theorem dX12_notice_50 : decode cX12_notice 50 = .ok (.istore_n 2, 1) := by decide +kernel
theorem dX12_notice_51 : decode cX12_notice 51 = .ok (.iload_n 2, 1) := by decide +kernel
theorem dX12_notice_52 : decode cX12_notice 52 = .ok (.ifCond .ge 7, 3) := by decide +kernel
theorem dX12_notice_55 : decode cX12_notice 55 = .ok (.iconst 0, 1) := by decide +kernel
theorem dX12_notice_56 : decode cX12_notice 56 = .ok (.goto 20, 3) := by decide +kernel
theorem dX12_notice_59 : decode cX12_notice 59 = .ok (.aload_n 0, 1) := by decide +kernel
theorem dX12_notice_60 : decode cX12_notice 60 = .ok (.iload_n 2, 1) := by decide +kernel
theorem dX12_notice_61 : decode cX12_notice 61 = .ok (.iload_n 1, 1) := by decide +kernel
theorem dX12_notice_62 : decode cX12_notice 62 = .ok (.aload_n 0, 1) := by decide +kernel
theorem dX12_notice_63 : decode cX12_notice 63 = .ok (.getfield 162, 3) := by decide +kernel
theorem dX12_notice_66 : decode cX12_notice 66 = .ok (.bipush 30, 2) := by decide +kernel
theorem dX12_notice_68 : decode cX12_notice 68 = .ok (.idiv, 1) := by decide +kernel
theorem dX12_notice_69 : decode cX12_notice 69 = .ok (.aload_n 0, 1) := by decide +kernel
theorem dX12_notice_70 : decode cX12_notice 70 = .ok (.getfield 162, 3) := by decide +kernel
theorem dX12_notice_73 : decode cX12_notice 73 = .ok (.invokevirtual 299, 3) := by decide +kernel
theorem dX12_notice_76 : decode cX12_notice 76 = .ok (.istore_n 3, 1) := by decide +kernel
theorem dX12_notice_77 : decode cX12_notice 77 = .ok (.aload_n 0, 1) := by decide +kernel
theorem dX12_notice_78 : decode cX12_notice 78 = .ok (.getfield 109, 3) := by decide +kernel
theorem dX12_notice_81 : decode cX12_notice 81 = .ok (.iload_n 1, 1) := by decide +kernel
theorem dX12_notice_82 : decode cX12_notice 82 = .ok (.aload_n 0, 1) := by decide +kernel
theorem dX12_notice_83 : decode cX12_notice 83 = .ok (.getfield 162, 3) := by decide +kernel
theorem dX12_notice_86 : decode cX12_notice 86 = .ok (.iastore, 1) := by decide +kernel
theorem dX12_notice_87 : decode cX12_notice 87 = .ok (.aload_n 0, 1) := by decide +kernel
theorem dX12_notice_88 : decode cX12_notice 88 = .ok (.getfield 112, 3) := by decide +kernel
theorem dX12_notice_91 : decode cX12_notice 91 = .ok (.iload_n 1, 1) := by decide +kernel
theorem dX12_notice_92 : decode cX12_notice 92 = .ok (.aload_n 0, 1) := by decide +kernel
theorem dX12_notice_93 : decode cX12_notice 93 = .ok (.getfield 162, 3) := by decide +kernel
theorem dX12_notice_96 : decode cX12_notice 96 = .ok (.iload_n 3, 1) := by decide +kernel
theorem dX12_notice_97 : decode cX12_notice 97 = .ok (.iadd, 1) := by decide +kernel
theorem dX12_notice_98 : decode cX12_notice 98 = .ok (.iastore, 1) := by decide +kernel
theorem dX12_notice_99 : decode cX12_notice 99 = .ok (.aload_n 0, 1) := by decide +kernel
theorem dX12_notice_100 : decode cX12_notice 100 = .ok (.getfield 115, 3) := by decide +kernel
theorem dX12_notice_103 : decode cX12_notice 103 = .ok (.iload_n 1, 1) := by decide +kernel
theorem dX12_notice_104 : decode cX12_notice 104 = .ok (.iconst 0, 1) := by decide +kernel
theorem dX12_notice_105 : decode cX12_notice 105 = .ok (.iastore, 1) := by decide +kernel
theorem dX12_notice_106 : decode cX12_notice 106 = .ok (.aload_n 0, 1) := by decide +kernel
theorem dX12_notice_107 : decode cX12_notice 107 = .ok (.getfield 118, 3) := by decide +kernel
theorem dX12_notice_110 : decode cX12_notice 110 = .ok (.iload_n 1, 1) := by decide +kernel
theorem dX12_notice_111 : decode cX12_notice 111 = .ok (.iconst (-1), 1) := by decide +kernel
theorem dX12_notice_112 : decode cX12_notice 112 = .ok (.iastore, 1) := by decide +kernel
theorem dX12_notice_113 : decode cX12_notice 113 = .ok (.aload_n 0, 1) := by decide +kernel
theorem dX12_notice_114 : decode cX12_notice 114 = .ok (.getfield 112, 3) := by decide +kernel
theorem dX12_notice_117 : decode cX12_notice 117 = .ok (.iload_n 1, 1) := by decide +kernel
theorem dX12_notice_118 : decode cX12_notice 118 = .ok (.iaload, 1) := by decide +kernel
theorem dX12_notice_119 : decode cX12_notice 119 = .ok (.ireturn, 1) := by decide +kernel
theorem dX12_ofNotice_0 : decode cX12_ofNotice 0 = .ok (.aload_n 0, 1) := by decide +kernel
theorem dX12_ofNotice_1 : decode cX12_ofNotice 1 = .ok (.iload_n 1, 1) := by decide +kernel
theorem dX12_ofNotice_2 : decode cX12_ofNotice 2 = .ok (.invokevirtual 192, 3) := by decide +kernel
theorem dX12_ofNotice_5 : decode cX12_ofNotice 5 = .ok (.ifCond .eq 12, 3) := by decide +kernel
theorem dX12_ofNotice_8 : decode cX12_ofNotice 8 = .ok (.aload_n 0, 1) := by decide +kernel
theorem dX12_ofNotice_9 : decode cX12_ofNotice 9 = .ok (.getfield 109, 3) := by decide +kernel
theorem dX12_ofNotice_12 : decode cX12_ofNotice 12 = .ok (.iload_n 1, 1) := by decide +kernel
theorem dX12_ofNotice_13 : decode cX12_ofNotice 13 = .ok (.iaload, 1) := by decide +kernel
theorem dX12_ofNotice_14 : decode cX12_ofNotice 14 = .ok (.ifCond .ge 5, 3) := by decide +kernel
theorem dX12_ofNotice_17 : decode cX12_ofNotice 17 = .ok (.iconst (-1), 1) := by decide +kernel
theorem dX12_ofNotice_18 : decode cX12_ofNotice 18 = .ok (.ireturn, 1) := by decide +kernel
theorem dX12_ofNotice_19 : decode cX12_ofNotice 19 = .ok (.iload_n 2, 1) := by decide +kernel
theorem dX12_ofNotice_20 : decode cX12_ofNotice 20 = .ok (.tableswitch 60 0 3 #[32, 39, 46, 53], 32) := by decide +kernel
theorem dX12_ofNotice_52 : decode cX12_ofNotice 52 = .ok (.aload_n 0, 1) := by decide +kernel
theorem dX12_ofNotice_53 : decode cX12_ofNotice 53 = .ok (.getfield 109, 3) := by decide +kernel
theorem dX12_ofNotice_56 : decode cX12_ofNotice 56 = .ok (.iload_n 1, 1) := by decide +kernel
theorem dX12_ofNotice_57 : decode cX12_ofNotice 57 = .ok (.iaload, 1) := by decide +kernel
theorem dX12_ofNotice_58 : decode cX12_ofNotice 58 = .ok (.ireturn, 1) := by decide +kernel
theorem dX12_ofNotice_59 : decode cX12_ofNotice 59 = .ok (.aload_n 0, 1) := by decide +kernel
theorem dX12_ofNotice_60 : decode cX12_ofNotice 60 = .ok (.getfield 112, 3) := by decide +kernel
theorem dX12_ofNotice_63 : decode cX12_ofNotice 63 = .ok (.iload_n 1, 1) := by decide +kernel
theorem dX12_ofNotice_64 : decode cX12_ofNotice 64 = .ok (.iaload, 1) := by decide +kernel
theorem dX12_ofNotice_65 : decode cX12_ofNotice 65 = .ok (.ireturn, 1) := by decide +kernel
theorem dX12_ofNotice_66 : decode cX12_ofNotice 66 = .ok (.aload_n 0, 1) := by decide +kernel
theorem dX12_ofNotice_67 : decode cX12_ofNotice 67 = .ok (.getfield 115, 3) := by decide +kernel
theorem dX12_ofNotice_70 : decode cX12_ofNotice 70 = .ok (.iload_n 1, 1) := by decide +kernel
theorem dX12_ofNotice_71 : decode cX12_ofNotice 71 = .ok (.iaload, 1) := by decide +kernel
theorem dX12_ofNotice_72 : decode cX12_ofNotice 72 = .ok (.ireturn, 1) := by decide +kernel
theorem dX12_ofNotice_73 : decode cX12_ofNotice 73 = .ok (.aload_n 0, 1) := by decide +kernel
theorem dX12_ofNotice_74 : decode cX12_ofNotice 74 = .ok (.getfield 118, 3) := by decide +kernel
theorem dX12_ofNotice_77 : decode cX12_ofNotice 77 = .ok (.iload_n 1, 1) := by decide +kernel
theorem dX12_ofNotice_78 : decode cX12_ofNotice 78 = .ok (.iaload, 1) := by decide +kernel
theorem dX12_ofNotice_79 : decode cX12_ofNotice 79 = .ok (.ireturn, 1) := by decide +kernel
theorem dX12_ofNotice_80 : decode cX12_ofNotice 80 = .ok (.iconst (-1), 1) := by decide +kernel
theorem dX12_ofNotice_81 : decode cX12_ofNotice 81 = .ok (.ireturn, 1) := by decide +kernel
theorem dX12_gain_0 : decode cX12_gain 0 = .ok (.aload_n 0, 1) := by decide +kernel
theorem dX12_gain_1 : decode cX12_gain 1 = .ok (.iload_n 1, 1) := by decide +kernel
theorem dX12_gain_2 : decode cX12_gain 2 = .ok (.invokevirtual 192, 3) := by decide +kernel
theorem dX12_gain_5 : decode cX12_gain 5 = .ok (.ifCond .eq 14, 3) := by decide +kernel
theorem dX12_gain_8 : decode cX12_gain 8 = .ok (.iload_n 2, 1) := by decide +kernel
theorem dX12_gain_9 : decode cX12_gain 9 = .ok (.iconst 0, 1) := by decide +kernel
theorem dX12_gain_10 : decode cX12_gain 10 = .ok (.sipush 999, 3) := by decide +kernel
theorem dX12_gain_13 : decode cX12_gain 13 = .ok (.invokestatic 142, 3) := by decide +kernel
theorem dX12_gain_16 : decode cX12_gain 16 = .ok (.ifCond .ne 5, 3) := by decide +kernel
theorem dX12_gain_19 : decode cX12_gain 19 = .ok (.iconst (-1), 1) := by decide +kernel
theorem dX12_gain_20 : decode cX12_gain 20 = .ok (.ireturn, 1) := by decide +kernel
theorem dX12_gain_21 : decode cX12_gain 21 = .ok (.aload_n 0, 1) := by decide +kernel
theorem dX12_gain_22 : decode cX12_gain 22 = .ok (.getfield 121, 3) := by decide +kernel
theorem dX12_gain_25 : decode cX12_gain 25 = .ok (.iload_n 1, 1) := by decide +kernel
theorem dX12_gain_26 : decode cX12_gain 26 = .ok (.iaload, 1) := by decide +kernel
theorem dX12_gain_27 : decode cX12_gain 27 = .ok (.istore_n 3, 1) := by decide +kernel
theorem dX12_gain_28 : decode cX12_gain 28 = .ok (.aload_n 0, 1) := by decide +kernel
theorem dX12_gain_29 : decode cX12_gain 29 = .ok (.getfield 121, 3) := by decide +kernel
theorem dX12_gain_32 : decode cX12_gain 32 = .ok (.iload_n 1, 1) := by decide +kernel
theorem dX12_gain_33 : decode cX12_gain 33 = .ok (.iload_n 2, 1) := by decide +kernel
theorem dX12_gain_34 : decode cX12_gain 34 = .ok (.iastore, 1) := by decide +kernel
theorem dX12_gain_35 : decode cX12_gain 35 = .ok (.iload_n 3, 1) := by decide +kernel
theorem dX12_gain_36 : decode cX12_gain 36 = .ok (.ireturn, 1) := by decide +kernel
theorem dX12_restOf_0 : decode cX12_restOf 0 = .ok (.iload_n 2, 1) := by decide +kernel
theorem dX12_restOf_1 : decode cX12_restOf 1 = .ok (.i2l, 1) := by decide +kernel
theorem dX12_restOf_2 : decode cX12_restOf 2 = .ok (.aload_n 0, 1) := by decide +kernel
theorem dX12_restOf_3 : decode cX12_restOf 3 = .ok (.getfield 121, 3) := by decide +kernel
theorem dX12_restOf_6 : decode cX12_restOf 6 = .ok (.iload_n 1, 1) := by decide +kernel
theorem dX12_restOf_7 : decode cX12_restOf 7 = .ok (.iaload, 1) := by decide +kernel
theorem dX12_restOf_8 : decode cX12_restOf 8 = .ok (.i2l, 1) := by decide +kernel
theorem dX12_restOf_9 : decode cX12_restOf 9 = .ok (.lmul, 1) := by decide +kernel
theorem dX12_restOf_10 : decode cX12_restOf 10 = .ok (.lload_n 3, 1) := by decide +kernel
theorem dX12_restOf_11 : decode cX12_restOf 11 = .ok (.lrem, 1) := by decide +kernel
theorem dX12_restOf_12 : decode cX12_restOf 12 = .ok (.lreturn, 1) := by decide +kernel
theorem dX12_spend_0 : decode cX12_spend 0 = .ok (.iload_n 1, 1) := by decide +kernel
theorem dX12_spend_1 : decode cX12_spend 1 = .ok (.iconst 1, 1) := by decide +kernel
theorem dX12_spend_2 : decode cX12_spend 2 = .ok (.ldc 154, 2) := by decide +kernel
theorem dX12_spend_4 : decode cX12_spend 4 = .ok (.invokestatic 142, 3) := by decide +kernel
theorem dX12_spend_7 : decode cX12_spend 7 = .ok (.ifCond .ne 5, 3) := by decide +kernel
theorem dX12_spend_10 : decode cX12_spend 10 = .ok (.iconst (-1), 1) := by decide +kernel
theorem dX12_spend_11 : decode cX12_spend 11 = .ok (.ireturn, 1) := by decide +kernel
theorem dX12_spend_12 : decode cX12_spend 12 = .ok (.lconst 0, 1) := by decide +kernel
theorem dX12_spend_13 : decode cX12_spend 13 = .ok (.lstore_n 2, 1) := by decide +kernel
theorem dX12_spend_14 : decode cX12_spend 14 = .ok (.iconst 0, 1) := by decide +kernel
theorem dX12_spend_15 : decode cX12_spend 15 = .ok (.istore 4, 2) := by decide +kernel
theorem dX12_spend_17 : decode cX12_spend 17 = .ok (.iload 4, 2) := by decide +kernel
theorem dX12_spend_19 : decode cX12_spend 19 = .ok (.aload_n 0, 1) := by decide +kernel
theorem dX12_spend_20 : decode cX12_spend 20 = .ok (.getfield 139, 3) := by decide +kernel
theorem dX12_spend_23 : decode cX12_spend 23 = .ok (.if_icmp .ge 20, 3) := by decide +kernel
theorem dX12_spend_26 : decode cX12_spend 26 = .ok (.lload_n 2, 1) := by decide +kernel
theorem dX12_spend_27 : decode cX12_spend 27 = .ok (.aload_n 0, 1) := by decide +kernel
theorem dX12_spend_28 : decode cX12_spend 28 = .ok (.getfield 121, 3) := by decide +kernel
theorem dX12_spend_31 : decode cX12_spend 31 = .ok (.iload 4, 2) := by decide +kernel
theorem dX12_spend_33 : decode cX12_spend 33 = .ok (.iaload, 1) := by decide +kernel
theorem dX12_spend_34 : decode cX12_spend 34 = .ok (.i2l, 1) := by decide +kernel
theorem dX12_spend_35 : decode cX12_spend 35 = .ok (.ladd, 1) := by decide +kernel
theorem dX12_spend_36 : decode cX12_spend 36 = .ok (.lstore_n 2, 1) := by decide +kernel
theorem dX12_spend_37 : decode cX12_spend 37 = .ok (.iinc 4 1, 3) := by decide +kernel
theorem dX12_spend_40 : decode cX12_spend 40 = .ok (.goto (-23), 3) := by decide +kernel
theorem dX12_spend_43 : decode cX12_spend 43 = .ok (.iload_n 1, 1) := by decide +kernel
theorem dX12_spend_44 : decode cX12_spend 44 = .ok (.aload_n 0, 1) := by decide +kernel
theorem dX12_spend_45 : decode cX12_spend 45 = .ok (.getfield 310, 3) := by decide +kernel
theorem dX12_spend_48 : decode cX12_spend 48 = .ok (.if_icmp .gt 9, 3) := by decide +kernel
theorem dX12_spend_51 : decode cX12_spend 51 = .ok (.lload_n 2, 1) := by decide +kernel
theorem dX12_spend_52 : decode cX12_spend 52 = .ok (.lconst 0, 1) := by decide +kernel
theorem dX12_spend_53 : decode cX12_spend 53 = .ok (.lcmp, 1) := by decide +kernel
theorem dX12_spend_54 : decode cX12_spend 54 = .ok (.ifCond .ne 6, 3) := by decide +kernel
theorem dX12_spend_57 : decode cX12_spend 57 = .ok (.bipush (-3), 2) := by decide +kernel
theorem dX12_spend_59 : decode cX12_spend 59 = .ok (.ireturn, 1) := by decide +kernel
theorem dX12_spend_60 : decode cX12_spend 60 = .ok (.iload_n 1, 1) := by decide +kernel
theorem dX12_spend_61 : decode cX12_spend 61 = .ok (.istore 4, 2) := by decide +kernel
theorem dX12_spend_63 : decode cX12_spend 63 = .ok (.iconst 0, 1) := by decide +kernel
theorem dX12_spend_64 : decode cX12_spend 64 = .ok (.istore 5, 2) := by decide +kernel
theorem dX12_spend_66 : decode cX12_spend 66 = .ok (.iload 5, 2) := by decide +kernel
theorem dX12_spend_68 : decode cX12_spend 68 = .ok (.aload_n 0, 1) := by decide +kernel
theorem dX12_spend_69 : decode cX12_spend 69 = .ok (.getfield 139, 3) := by decide +kernel
theorem dX12_spend_72 : decode cX12_spend 72 = .ok (.if_icmp .ge 44, 3) := by decide +kernel
theorem dX12_spend_75 : decode cX12_spend 75 = .ok (.iload_n 1, 1) := by decide +kernel
theorem dX12_spend_76 : decode cX12_spend 76 = .ok (.i2l, 1) := by decide +kernel
theorem dX12_spend_77 : decode cX12_spend 77 = .ok (.aload_n 0, 1) := by decide +kernel
theorem dX12_spend_78 : decode cX12_spend 78 = .ok (.getfield 121, 3) := by decide +kernel
theorem dX12_spend_81 : decode cX12_spend 81 = .ok (.iload 5, 2) := by decide +kernel
theorem dX12_spend_83 : decode cX12_spend 83 = .ok (.iaload, 1) := by decide +kernel
theorem dX12_spend_84 : decode cX12_spend 84 = .ok (.i2l, 1) := by decide +kernel
theorem dX12_spend_85 : decode cX12_spend 85 = .ok (.lmul, 1) := by decide +kernel
theorem dX12_spend_86 : decode cX12_spend 86 = .ok (.lload_n 2, 1) := by decide +kernel
theorem dX12_spend_87 : decode cX12_spend 87 = .ok (.ldiv, 1) := by decide +kernel
theorem dX12_spend_88 : decode cX12_spend 88 = .ok (.l2i, 1) := by decide +kernel
theorem dX12_spend_89 : decode cX12_spend 89 = .ok (.istore 6, 2) := by decide +kernel
theorem dX12_spend_91 : decode cX12_spend 91 = .ok (.aload_n 0, 1) := by decide +kernel
theorem dX12_spend_92 : decode cX12_spend 92 = .ok (.getfield 44, 3) := by decide +kernel
theorem dX12_spend_95 : decode cX12_spend 95 = .ok (.iload 5, 2) := by decide +kernel
theorem dX12_spend_97 : decode cX12_spend 97 = .ok (.dup2, 1) := by decide +kernel
theorem dX12_spend_98 : decode cX12_spend 98 = .ok (.iaload, 1) := by decide +kernel
theorem dX12_spend_99 : decode cX12_spend 99 = .ok (.iload 6, 2) := by decide +kernel
theorem dX12_spend_101 : decode cX12_spend 101 = .ok (.iadd, 1) := by decide +kernel
theorem dX12_spend_102 : decode cX12_spend 102 = .ok (.iastore, 1) := by decide +kernel
theorem dX12_spend_103 : decode cX12_spend 103 = .ok (.iload 4, 2) := by decide +kernel
theorem dX12_spend_105 : decode cX12_spend 105 = .ok (.iload 6, 2) := by decide +kernel
theorem dX12_spend_107 : decode cX12_spend 107 = .ok (.isub, 1) := by decide +kernel
theorem dX12_spend_108 : decode cX12_spend 108 = .ok (.istore 4, 2) := by decide +kernel
theorem dX12_spend_110 : decode cX12_spend 110 = .ok (.iinc 5 1, 3) := by decide +kernel
theorem dX12_spend_113 : decode cX12_spend 113 = .ok (.goto (-47), 3) := by decide +kernel
theorem dX12_spend_116 : decode cX12_spend 116 = .ok (.iconst 0, 1) := by decide +kernel
theorem dX12_spend_117 : decode cX12_spend 117 = .ok (.istore 5, 2) := by decide +kernel
theorem dX12_spend_119 : decode cX12_spend 119 = .ok (.iload 5, 2) := by decide +kernel
theorem dX12_spend_121 : decode cX12_spend 121 = .ok (.aload_n 0, 1) := by decide +kernel
theorem dX12_spend_122 : decode cX12_spend 122 = .ok (.getfield 139, 3) := by decide +kernel
theorem dX12_spend_125 : decode cX12_spend 125 = .ok (.if_icmp .ge 105, 3) := by decide +kernel
theorem dX12_spend_128 : decode cX12_spend 128 = .ok (.iconst 0, 1) := by decide +kernel
theorem dX12_spend_129 : decode cX12_spend 129 = .ok (.istore 6, 2) := by decide +kernel
theorem dX12_spend_131 : decode cX12_spend 131 = .ok (.iconst 0, 1) := by decide +kernel
theorem dX12_spend_132 : decode cX12_spend 132 = .ok (.istore 7, 2) := by decide +kernel
theorem dX12_spend_134 : decode cX12_spend 134 = .ok (.iload 7, 2) := by decide +kernel
theorem dX12_spend_136 : decode cX12_spend 136 = .ok (.aload_n 0, 1) := by decide +kernel
theorem dX12_spend_137 : decode cX12_spend 137 = .ok (.getfield 139, 3) := by decide +kernel
theorem dX12_spend_140 : decode cX12_spend 140 = .ok (.if_icmp .ge 62, 3) := by decide +kernel
theorem dX12_spend_143 : decode cX12_spend 143 = .ok (.aload_n 0, 1) := by decide +kernel
theorem dX12_spend_144 : decode cX12_spend 144 = .ok (.iload 7, 2) := by decide +kernel
theorem dX12_spend_146 : decode cX12_spend 146 = .ok (.iload_n 1, 1) := by decide +kernel
theorem dX12_spend_147 : decode cX12_spend 147 = .ok (.lload_n 2, 1) := by decide +kernel
theorem dX12_spend_148 : decode cX12_spend 148 = .ok (.invokevirtual 317, 3) := by decide +kernel
theorem dX12_spend_151 : decode cX12_spend 151 = .ok (.lstore 8, 2) := by decide +kernel
theorem dX12_spend_153 : decode cX12_spend 153 = .ok (.aload_n 0, 1) := by decide +kernel
theorem dX12_spend_154 : decode cX12_spend 154 = .ok (.iload 5, 2) := by decide +kernel
theorem dX12_spend_156 : decode cX12_spend 156 = .ok (.iload_n 1, 1) := by decide +kernel
theorem dX12_spend_157 : decode cX12_spend 157 = .ok (.lload_n 2, 1) := by decide +kernel
theorem dX12_spend_158 : decode cX12_spend 158 = .ok (.invokevirtual 317, 3) := by decide +kernel
theorem dX12_spend_161 : decode cX12_spend 161 = .ok (.lstore 10, 2) := by decide +kernel
theorem dX12_spend_163 : decode cX12_spend 163 = .ok (.iload 6, 2) := by decide +kernel
theorem dX12_spend_165 : decode cX12_spend 165 = .ok (.lload 8, 2) := by decide +kernel
theorem dX12_spend_167 : decode cX12_spend 167 = .ok (.lload 10, 2) := by decide +kernel
theorem dX12_spend_169 : decode cX12_spend 169 = .ok (.lcmp, 1) := by decide +kernel
theorem dX12_spend_170 : decode cX12_spend 170 = .ok (.ifCond .gt 18, 3) := by decide +kernel
theorem dX12_spend_173 : decode cX12_spend 173 = .ok (.lload 8, 2) := by decide +kernel
theorem dX12_spend_175 : decode cX12_spend 175 = .ok (.lload 10, 2) := by decide +kernel
theorem dX12_spend_177 : decode cX12_spend 177 = .ok (.lcmp, 1) := by decide +kernel
theorem dX12_spend_178 : decode cX12_spend 178 = .ok (.ifCond .ne 14, 3) := by decide +kernel
theorem dX12_spend_181 : decode cX12_spend 181 = .ok (.iload 7, 2) := by decide +kernel
theorem dX12_spend_183 : decode cX12_spend 183 = .ok (.iload 5, 2) := by decide +kernel
theorem dX12_spend_185 : decode cX12_spend 185 = .ok (.if_icmp .ge 7, 3) := by decide +kernel
theorem dX12_spend_188 : decode cX12_spend 188 = .ok (.iconst 1, 1) := by decide +kernel
theorem dX12_spend_189 : decode cX12_spend 189 = .ok (.goto 4, 3) := by decide +kernel
theorem dX12_spend_192 : decode cX12_spend 192 = .ok (.iconst 0, 1) := by decide +kernel
theorem dX12_spend_193 : decode cX12_spend 193 = .ok (.iadd, 1) := by decide +kernel
theorem dX12_spend_194 : decode cX12_spend 194 = .ok (.istore 6, 2) := by decide +kernel
theorem dX12_spend_196 : decode cX12_spend 196 = .ok (.iinc 7 1, 3) := by decide +kernel
theorem dX12_spend_199 : decode cX12_spend 199 = .ok (.goto (-65), 3) := by decide +kernel
theorem dX12_spend_202 : decode cX12_spend 202 = .ok (.aload_n 0, 1) := by decide +kernel
theorem dX12_spend_203 : decode cX12_spend 203 = .ok (.getfield 44, 3) := by decide +kernel
theorem dX12_spend_206 : decode cX12_spend 206 = .ok (.iload 5, 2) := by decide +kernel
theorem dX12_spend_208 : decode cX12_spend 208 = .ok (.dup2, 1) := by decide +kernel
theorem dX12_spend_209 : decode cX12_spend 209 = .ok (.iaload, 1) := by decide +kernel
theorem dX12_spend_210 : decode cX12_spend 210 = .ok (.iload 6, 2) := by decide +kernel
theorem dX12_spend_212 : decode cX12_spend 212 = .ok (.iload 4, 2) := by decide +kernel
theorem dX12_spend_214 : decode cX12_spend 214 = .ok (.if_icmp .ge 7, 3) := by decide +kernel
theorem dX12_spend_217 : decode cX12_spend 217 = .ok (.iconst 1, 1) := by decide +kernel
theorem dX12_spend_218 : decode cX12_spend 218 = .ok (.goto 4, 3) := by decide +kernel
theorem dX12_spend_221 : decode cX12_spend 221 = .ok (.iconst 0, 1) := by decide +kernel
theorem dX12_spend_222 : decode cX12_spend 222 = .ok (.iadd, 1) := by decide +kernel
theorem dX12_spend_223 : decode cX12_spend 223 = .ok (.iastore, 1) := by decide +kernel
theorem dX12_spend_224 : decode cX12_spend 224 = .ok (.iinc 5 1, 3) := by decide +kernel
theorem dX12_spend_227 : decode cX12_spend 227 = .ok (.goto (-108), 3) := by decide +kernel
theorem dX12_spend_230 : decode cX12_spend 230 = .ok (.iconst 0, 1) := by decide +kernel
theorem dX12_spend_231 : decode cX12_spend 231 = .ok (.istore 5, 2) := by decide +kernel
theorem dX12_spend_233 : decode cX12_spend 233 = .ok (.iload 5, 2) := by decide +kernel
theorem dX12_spend_235 : decode cX12_spend 235 = .ok (.aload_n 0, 1) := by decide +kernel
theorem dX12_spend_236 : decode cX12_spend 236 = .ok (.getfield 139, 3) := by decide +kernel
theorem dX12_spend_239 : decode cX12_spend 239 = .ok (.if_icmp .ge 17, 3) := by decide +kernel
theorem dX12_spend_242 : decode cX12_spend 242 = .ok (.aload_n 0, 1) := by decide +kernel
theorem dX12_spend_243 : decode cX12_spend 243 = .ok (.getfield 121, 3) := by decide +kernel
theorem dX12_spend_246 : decode cX12_spend 246 = .ok (.iload 5, 2) := by decide +kernel
theorem dX12_spend_248 : decode cX12_spend 248 = .ok (.iconst 0, 1) := by decide +kernel
theorem dX12_spend_249 : decode cX12_spend 249 = .ok (.iastore, 1) := by decide +kernel
theorem dX12_spend_250 : decode cX12_spend 250 = .ok (.iinc 5 1, 3) := by decide +kernel
theorem dX12_spend_253 : decode cX12_spend 253 = .ok (.goto (-20), 3) := by decide +kernel
theorem dX12_spend_256 : decode cX12_spend 256 = .ok (.aload_n 0, 1) := by decide +kernel
theorem dX12_spend_257 : decode cX12_spend 257 = .ok (.dup, 1) := by decide +kernel
theorem dX12_spend_258 : decode cX12_spend 258 = .ok (.getfield 310, 3) := by decide +kernel
theorem dX12_spend_261 : decode cX12_spend 261 = .ok (.iload_n 1, 1) := by decide +kernel
theorem dX12_spend_262 : decode cX12_spend 262 = .ok (.isub, 1) := by decide +kernel
theorem dX12_spend_263 : decode cX12_spend 263 = .ok (.putfield 310, 3) := by decide +kernel
theorem dX12_spend_266 : decode cX12_spend 266 = .ok (.aload_n 0, 1) := by decide +kernel
theorem dX12_spend_267 : decode cX12_spend 267 = .ok (.getfield 310, 3) := by decide +kernel
theorem dX12_spend_270 : decode cX12_spend 270 = .ok (.ireturn, 1) := by decide +kernel
theorem dX12_load_0 : decode cX12_load 0 = .ok (.aload_n 0, 1) := by decide +kernel
theorem dX12_load_1 : decode cX12_load 1 = .ok (.iload_n 1, 1) := by decide +kernel
theorem dX12_load_2 : decode cX12_load 2 = .ok (.invokevirtual 192, 3) := by decide +kernel
theorem dX12_load_5 : decode cX12_load 5 = .ok (.ifCond .eq 22, 3) := by decide +kernel
theorem dX12_load_8 : decode cX12_load 8 = .ok (.iload_n 2, 1) := by decide +kernel
theorem dX12_load_9 : decode cX12_load 9 = .ok (.iconst 1, 1) := by decide +kernel
theorem dX12_load_10 : decode cX12_load 10 = .ok (.bipush 99, 2) := by decide +kernel
theorem dX12_load_12 : decode cX12_load 12 = .ok (.invokestatic 142, 3) := by decide +kernel
theorem dX12_load_15 : decode cX12_load 15 = .ok (.ifCond .eq 12, 3) := by decide +kernel
theorem dX12_load_18 : decode cX12_load 18 = .ok (.aload_n 0, 1) := by decide +kernel
theorem dX12_load_19 : decode cX12_load 19 = .ok (.getfield 124, 3) := by decide +kernel
theorem dX12_load_22 : decode cX12_load 22 = .ok (.iload_n 1, 1) := by decide +kernel
theorem dX12_load_23 : decode cX12_load 23 = .ok (.iaload, 1) := by decide +kernel
theorem dX12_load_24 : decode cX12_load 24 = .ok (.ifCond .le 5, 3) := by decide +kernel
theorem dX12_load_27 : decode cX12_load 27 = .ok (.iconst (-1), 1) := by decide +kernel
theorem dX12_load_28 : decode cX12_load 28 = .ok (.ireturn, 1) := by decide +kernel
theorem dX12_load_29 : decode cX12_load 29 = .ok (.aload_n 0, 1) := by decide +kernel
theorem dX12_load_30 : decode cX12_load 30 = .ok (.getfield 321, 3) := by decide +kernel
theorem dX12_load_33 : decode cX12_load 33 = .ok (.bipush 10, 2) := by decide +kernel
theorem dX12_load_35 : decode cX12_load 35 = .ok (.if_icmp .ne 6, 3) := by decide +kernel
theorem dX12_load_38 : decode cX12_load 38 = .ok (.bipush (-2), 2) := by decide +kernel
theorem dX12_load_40 : decode cX12_load 40 = .ok (.ireturn, 1) := by decide +kernel
theorem dX12_load_41 : decode cX12_load 41 = .ok (.aload_n 0, 1) := by decide +kernel
theorem dX12_load_42 : decode cX12_load 42 = .ok (.getfield 124, 3) := by decide +kernel
theorem dX12_load_45 : decode cX12_load 45 = .ok (.iload_n 1, 1) := by decide +kernel
theorem dX12_load_46 : decode cX12_load 46 = .ok (.iload_n 2, 1) := by decide +kernel
theorem dX12_load_47 : decode cX12_load 47 = .ok (.iastore, 1) := by decide +kernel
theorem dX12_load_48 : decode cX12_load 48 = .ok (.aload_n 0, 1) := by decide +kernel
theorem dX12_load_49 : decode cX12_load 49 = .ok (.dup, 1) := by decide +kernel
theorem dX12_load_50 : decode cX12_load 50 = .ok (.getfield 321, 3) := by decide +kernel
theorem dX12_load_53 : decode cX12_load 53 = .ok (.iconst 1, 1) := by decide +kernel
theorem dX12_load_54 : decode cX12_load 54 = .ok (.iadd, 1) := by decide +kernel
theorem dX12_load_55 : decode cX12_load 55 = .ok (.putfield 321, 3) := by decide +kernel
theorem dX12_load_58 : decode cX12_load 58 = .ok (.aload_n 0, 1) := by decide +kernel
theorem dX12_load_59 : decode cX12_load 59 = .ok (.getfield 321, 3) := by decide +kernel
theorem dX12_load_62 : decode cX12_load 62 = .ok (.ireturn, 1) := by decide +kernel
theorem dX12_pack_0 : decode cX12_pack 0 = .ok (.iload_n 1, 1) := by decide +kernel
theorem dX12_pack_1 : decode cX12_pack 1 = .ok (.aload_n 0, 1) := by decide +kernel
theorem dX12_pack_2 : decode cX12_pack 2 = .ok (.getfield 139, 3) := by decide +kernel
theorem dX12_pack_5 : decode cX12_pack 5 = .ok (.if_icmp .ne 5, 3) := by decide +kernel
theorem dX12_pack_8 : decode cX12_pack 8 = .ok (.iconst 1, 1) := by decide +kernel
theorem dX12_pack_9 : decode cX12_pack 9 = .ok (.ireturn, 1) := by decide +kernel
theorem dX12_pack_10 : decode cX12_pack 10 = .ok (.aload_n 0, 1) := by decide +kernel
theorem dX12_pack_11 : decode cX12_pack 11 = .ok (.getfield 124, 3) := by decide +kernel
theorem dX12_pack_14 : decode cX12_pack 14 = .ok (.iload_n 1, 1) := by decide +kernel
theorem dX12_pack_15 : decode cX12_pack 15 = .ok (.iaload, 1) := by decide +kernel
theorem dX12_pack_16 : decode cX12_pack 16 = .ok (.ifCond .ne 13, 3) := by decide +kernel
theorem dX12_pack_19 : decode cX12_pack 19 = .ok (.aload_n 0, 1) := by decide +kernel
theorem dX12_pack_20 : decode cX12_pack 20 = .ok (.iload_n 1, 1) := by decide +kernel
theorem dX12_pack_21 : decode cX12_pack 21 = .ok (.iconst 1, 1) := by decide +kernel
theorem dX12_pack_22 : decode cX12_pack 22 = .ok (.iadd, 1) := by decide +kernel
theorem dX12_pack_23 : decode cX12_pack 23 = .ok (.iload_n 2, 1) := by decide +kernel
theorem dX12_pack_24 : decode cX12_pack 24 = .ok (.iload_n 3, 1) := by decide +kernel
theorem dX12_pack_25 : decode cX12_pack 25 = .ok (.invokevirtual 324, 3) := by decide +kernel
theorem dX12_pack_28 : decode cX12_pack 28 = .ok (.ireturn, 1) := by decide +kernel
theorem dX12_pack_29 : decode cX12_pack 29 = .ok (.iconst 0, 1) := by decide +kernel
theorem dX12_pack_30 : decode cX12_pack 30 = .ok (.istore 4, 2) := by decide +kernel
theorem dX12_pack_32 : decode cX12_pack 32 = .ok (.iload 4, 2) := by decide +kernel
theorem dX12_pack_34 : decode cX12_pack 34 = .ok (.iload_n 2, 1) := by decide +kernel
theorem dX12_pack_35 : decode cX12_pack 35 = .ok (.if_icmp .gt 106, 3) := by decide +kernel
theorem dX12_pack_38 : decode cX12_pack 38 = .ok (.iload 4, 2) := by decide +kernel
theorem dX12_pack_40 : decode cX12_pack 40 = .ok (.iload_n 3, 1) := by decide +kernel
theorem dX12_pack_41 : decode cX12_pack 41 = .ok (.if_icmp .ge 100, 3) := by decide +kernel
theorem dX12_pack_44 : decode cX12_pack 44 = .ok (.aload_n 0, 1) := by decide +kernel
theorem dX12_pack_45 : decode cX12_pack 45 = .ok (.getfield 133, 3) := by decide +kernel
theorem dX12_pack_48 : decode cX12_pack 48 = .ok (.iload 4, 2) := by decide +kernel
theorem dX12_pack_50 : decode cX12_pack 50 = .ok (.iaload, 1) := by decide +kernel
theorem dX12_pack_51 : decode cX12_pack 51 = .ok (.aload_n 0, 1) := by decide +kernel
theorem dX12_pack_52 : decode cX12_pack 52 = .ok (.getfield 124, 3) := by decide +kernel
theorem dX12_pack_55 : decode cX12_pack 55 = .ok (.iload_n 1, 1) := by decide +kernel
theorem dX12_pack_56 : decode cX12_pack 56 = .ok (.iaload, 1) := by decide +kernel
theorem dX12_pack_57 : decode cX12_pack 57 = .ok (.iadd, 1) := by decide +kernel
theorem dX12_pack_58 : decode cX12_pack 58 = .ok (.aload_n 0, 1) := by decide +kernel
theorem dX12_pack_59 : decode cX12_pack 59 = .ok (.getfield 327, 3) := by decide +kernel
theorem dX12_pack_62 : decode cX12_pack 62 = .ok (.if_icmp .gt 73, 3) := by decide +kernel
theorem dX12_pack_65 : decode cX12_pack 65 = .ok (.aload_n 0, 1) := by decide +kernel
theorem dX12_pack_66 : decode cX12_pack 66 = .ok (.getfield 133, 3) := by decide +kernel
theorem dX12_pack_69 : decode cX12_pack 69 = .ok (.iload 4, 2) := by decide +kernel
theorem dX12_pack_71 : decode cX12_pack 71 = .ok (.dup2, 1) := by decide +kernel
theorem dX12_pack_72 : decode cX12_pack 72 = .ok (.iaload, 1) := by decide +kernel
theorem dX12_pack_73 : decode cX12_pack 73 = .ok (.aload_n 0, 1) := by decide +kernel
theorem dX12_pack_74 : decode cX12_pack 74 = .ok (.getfield 124, 3) := by decide +kernel
theorem dX12_pack_77 : decode cX12_pack 77 = .ok (.iload_n 1, 1) := by decide +kernel
theorem dX12_pack_78 : decode cX12_pack 78 = .ok (.iaload, 1) := by decide +kernel
theorem dX12_pack_79 : decode cX12_pack 79 = .ok (.iadd, 1) := by decide +kernel
theorem dX12_pack_80 : decode cX12_pack 80 = .ok (.iastore, 1) := by decide +kernel
theorem dX12_pack_81 : decode cX12_pack 81 = .ok (.aload_n 0, 1) := by decide +kernel
theorem dX12_pack_82 : decode cX12_pack 82 = .ok (.getfield 127, 3) := by decide +kernel
theorem dX12_pack_85 : decode cX12_pack 85 = .ok (.iload_n 1, 1) := by decide +kernel
theorem dX12_pack_86 : decode cX12_pack 86 = .ok (.iload 4, 2) := by decide +kernel
theorem dX12_pack_88 : decode cX12_pack 88 = .ok (.iastore, 1) := by decide +kernel
theorem dX12_pack_89 : decode cX12_pack 89 = .ok (.aload_n 0, 1) := by decide +kernel
theorem dX12_pack_90 : decode cX12_pack 90 = .ok (.iload_n 1, 1) := by decide +kernel
theorem dX12_pack_91 : decode cX12_pack 91 = .ok (.iconst 1, 1) := by decide +kernel
theorem dX12_pack_92 : decode cX12_pack 92 = .ok (.iadd, 1) := by decide +kernel
theorem dX12_pack_93 : decode cX12_pack 93 = .ok (.iload 4, 2) := by decide +kernel
theorem dX12_pack_95 : decode cX12_pack 95 = .ok (.iload_n 2, 1) := by decide +kernel
theorem dX12_pack_96 : decode cX12_pack 96 = .ok (.if_icmp .ne 9, 3) := by decide +kernel
theorem dX12_pack_99 : decode cX12_pack 99 = .ok (.iload_n 2, 1) := by decide +kernel
theorem dX12_pack_100 : decode cX12_pack 100 = .ok (.iconst 1, 1) := by decide +kernel
theorem dX12_pack_101 : decode cX12_pack 101 = .ok (.iadd, 1) := by decide +kernel
theorem dX12_pack_102 : decode cX12_pack 102 = .ok (.goto 4, 3) := by decide +kernel
theorem dX12_pack_105 : decode cX12_pack 105 = .ok (.iload_n 2, 1) := by decide +kernel
theorem dX12_pack_106 : decode cX12_pack 106 = .ok (.iload_n 3, 1) := by decide +kernel
theorem dX12_pack_107 : decode cX12_pack 107 = .ok (.invokevirtual 324, 3) := by decide +kernel
theorem dX12_pack_110 : decode cX12_pack 110 = .ok (.istore 5, 2) := by decide +kernel
theorem dX12_pack_112 : decode cX12_pack 112 = .ok (.aload_n 0, 1) := by decide +kernel
theorem dX12_pack_113 : decode cX12_pack 113 = .ok (.getfield 133, 3) := by decide +kernel
theorem dX12_pack_116 : decode cX12_pack 116 = .ok (.iload 4, 2) := by decide +kernel
theorem dX12_pack_118 : decode cX12_pack 118 = .ok (.dup2, 1) := by decide +kernel
theorem dX12_pack_119 : decode cX12_pack 119 = .ok (.iaload, 1) := by decide +kernel
theorem dX12_pack_120 : decode cX12_pack 120 = .ok (.aload_n 0, 1) := by decide +kernel
theorem dX12_pack_121 : decode cX12_pack 121 = .ok (.getfield 124, 3) := by decide +kernel
theorem dX12_pack_124 : decode cX12_pack 124 = .ok (.iload_n 1, 1) := by decide +kernel
theorem dX12_pack_125 : decode cX12_pack 125 = .ok (.iaload, 1) := by decide +kernel
theorem dX12_pack_126 : decode cX12_pack 126 = .ok (.isub, 1) := by decide +kernel
theorem dX12_pack_127 : decode cX12_pack 127 = .ok (.iastore, 1) := by decide +kernel
theorem dX12_pack_128 : decode cX12_pack 128 = .ok (.iload 5, 2) := by decide +kernel
theorem dX12_pack_130 : decode cX12_pack 130 = .ok (.ifCond .eq 5, 3) := by decide +kernel
theorem dX12_pack_133 : decode cX12_pack 133 = .ok (.iconst 1, 1) := by decide +kernel
theorem dX12_pack_134 : decode cX12_pack 134 = .ok (.ireturn, 1) := by decide +kernel
theorem dX12_pack_135 : decode cX12_pack 135 = .ok (.iinc 4 1, 3) := by decide +kernel
theorem dX12_pack_138 : decode cX12_pack 138 = .ok (.goto (-106), 3) := by decide +kernel
theorem dX12_pack_141 : decode cX12_pack 141 = .ok (.iconst 0, 1) := by decide +kernel
theorem dX12_pack_142 : decode cX12_pack 142 = .ok (.ireturn, 1) := by decide +kernel
theorem dX12_carts_0 : decode cX12_carts 0 = .ok (.iload_n 1, 1) := by decide +kernel
theorem dX12_carts_1 : decode cX12_carts 1 = .ok (.iconst 1, 1) := by decide +kernel
theorem dX12_carts_2 : decode cX12_carts 2 = .ok (.bipush 99, 2) := by decide +kernel
theorem dX12_carts_4 : decode cX12_carts 4 = .ok (.invokestatic 142, 3) := by decide +kernel
theorem dX12_carts_7 : decode cX12_carts 7 = .ok (.ifCond .ne 5, 3) := by decide +kernel
theorem dX12_carts_10 : decode cX12_carts 10 = .ok (.iconst (-1), 1) := by decide +kernel
theorem dX12_carts_11 : decode cX12_carts 11 = .ok (.ireturn, 1) := by decide +kernel
theorem dX12_carts_12 : decode cX12_carts 12 = .ok (.aload_n 0, 1) := by decide +kernel
theorem dX12_carts_13 : decode cX12_carts 13 = .ok (.getfield 321, 3) := by decide +kernel
theorem dX12_carts_16 : decode cX12_carts 16 = .ok (.ifCond .ne 6, 3) := by decide +kernel
theorem dX12_carts_19 : decode cX12_carts 19 = .ok (.bipush (-3), 2) := by decide +kernel
theorem dX12_carts_21 : decode cX12_carts 21 = .ok (.ireturn, 1) := by decide +kernel
theorem dX12_carts_22 : decode cX12_carts 22 = .ok (.aload_n 0, 1) := by decide +kernel
theorem dX12_carts_23 : decode cX12_carts 23 = .ok (.iload_n 1, 1) := by decide +kernel
theorem dX12_carts_24 : decode cX12_carts 24 = .ok (.putfield 327, 3) := by decide +kernel
theorem dX12_carts_27 : decode cX12_carts 27 = .ok (.iconst 1, 1) := by decide +kernel
theorem dX12_carts_28 : decode cX12_carts 28 = .ok (.istore_n 2, 1) := by decide +kernel
theorem dX12_carts_29 : decode cX12_carts 29 = .ok (.iconst 0, 1) := by decide +kernel
theorem dX12_carts_30 : decode cX12_carts 30 = .ok (.istore_n 3, 1) := by decide +kernel
theorem dX12_carts_31 : decode cX12_carts 31 = .ok (.iload_n 3, 1) := by decide +kernel
theorem dX12_carts_32 : decode cX12_carts 32 = .ok (.aload_n 0, 1) := by decide +kernel
theorem dX12_carts_33 : decode cX12_carts 33 = .ok (.getfield 139, 3) := by decide +kernel
theorem dX12_carts_36 : decode cX12_carts 36 = .ok (.if_icmp .ge 29, 3) := by decide +kernel
theorem dX12_carts_39 : decode cX12_carts 39 = .ok (.iload_n 2, 1) := by decide +kernel
theorem dX12_carts_40 : decode cX12_carts 40 = .ok (.ifCond .eq 17, 3) := by decide +kernel
theorem dX12_carts_43 : decode cX12_carts 43 = .ok (.aload_n 0, 1) := by decide +kernel
theorem dX12_carts_44 : decode cX12_carts 44 = .ok (.getfield 124, 3) := by decide +kernel
theorem dX12_carts_47 : decode cX12_carts 47 = .ok (.iload_n 3, 1) := by decide +kernel
theorem dX12_carts_48 : decode cX12_carts 48 = .ok (.iaload, 1) := by decide +kernel
theorem dX12_carts_49 : decode cX12_carts 49 = .ok (.iload_n 1, 1) := by decide +kernel
theorem dX12_carts_50 : decode cX12_carts 50 = .ok (.if_icmp .gt 7, 3) := by decide +kernel
theorem dX12_carts_53 : decode cX12_carts 53 = .ok (.iconst 1, 1) := by decide +kernel
theorem dX12_carts_54 : decode cX12_carts 54 = .ok (.goto 4, 3) := by decide +kernel
theorem dX12_carts_57 : decode cX12_carts 57 = .ok (.iconst 0, 1) := by decide +kernel
theorem dX12_carts_58 : decode cX12_carts 58 = .ok (.istore_n 2, 1) := by decide +kernel
theorem dX12_carts_59 : decode cX12_carts 59 = .ok (.iinc 3 1, 3) := by decide +kernel
theorem dX12_carts_62 : decode cX12_carts 62 = .ok (.goto (-31), 3) := by decide +kernel
theorem dX12_carts_65 : decode cX12_carts 65 = .ok (.iconst 1, 1) := by decide +kernel
theorem dX12_carts_66 : decode cX12_carts 66 = .ok (.istore_n 3, 1) := by decide +kernel
theorem dX12_carts_67 : decode cX12_carts 67 = .ok (.iload_n 2, 1) := by decide +kernel
theorem dX12_carts_68 : decode cX12_carts 68 = .ok (.ifCond .eq 19, 3) := by decide +kernel
theorem dX12_carts_71 : decode cX12_carts 71 = .ok (.aload_n 0, 1) := by decide +kernel
theorem dX12_carts_72 : decode cX12_carts 72 = .ok (.iconst 0, 1) := by decide +kernel
theorem dX12_carts_73 : decode cX12_carts 73 = .ok (.iconst 0, 1) := by decide +kernel
theorem dX12_carts_74 : decode cX12_carts 74 = .ok (.iload_n 3, 1) := by decide +kernel
theorem dX12_carts_75 : decode cX12_carts 75 = .ok (.invokevirtual 324, 3) := by decide +kernel
theorem dX12_carts_78 : decode cX12_carts 78 = .ok (.ifCond .ne 9, 3) := by decide +kernel
theorem dX12_carts_81 : decode cX12_carts 81 = .ok (.iinc 3 1, 3) := by decide +kernel
theorem dX12_carts_84 : decode cX12_carts 84 = .ok (.goto (-17), 3) := by decide +kernel
theorem dX12_carts_87 : decode cX12_carts 87 = .ok (.iconst 0, 1) := by decide +kernel
theorem dX12_carts_88 : decode cX12_carts 88 = .ok (.istore 4, 2) := by decide +kernel
theorem dX12_carts_90 : decode cX12_carts 90 = .ok (.iload 4, 2) := by decide +kernel
theorem dX12_carts_92 : decode cX12_carts 92 = .ok (.aload_n 0, 1) := by decide +kernel
theorem dX12_carts_93 : decode cX12_carts 93 = .ok (.getfield 139, 3) := by decide +kernel
theorem dX12_carts_96 : decode cX12_carts 96 = .ok (.if_icmp .ge 49, 3) := by decide +kernel
theorem dX12_carts_99 : decode cX12_carts 99 = .ok (.iload_n 2, 1) := by decide +kernel
theorem dX12_carts_100 : decode cX12_carts 100 = .ok (.ifCond .eq 31, 3) := by decide +kernel
theorem dX12_carts_103 : decode cX12_carts 103 = .ok (.aload_n 0, 1) := by decide +kernel
theorem dX12_carts_104 : decode cX12_carts 104 = .ok (.getfield 130, 3) := by decide +kernel
theorem dX12_carts_107 : decode cX12_carts 107 = .ok (.iload 4, 2) := by decide +kernel
theorem dX12_carts_109 : decode cX12_carts 109 = .ok (.aload_n 0, 1) := by decide +kernel
theorem dX12_carts_110 : decode cX12_carts 110 = .ok (.getfield 124, 3) := by decide +kernel
theorem dX12_carts_113 : decode cX12_carts 113 = .ok (.iload 4, 2) := by decide +kernel
theorem dX12_carts_115 : decode cX12_carts 115 = .ok (.iaload, 1) := by decide +kernel
theorem dX12_carts_116 : decode cX12_carts 116 = .ok (.ifCond .le 13, 3) := by decide +kernel
theorem dX12_carts_119 : decode cX12_carts 119 = .ok (.aload_n 0, 1) := by decide +kernel
theorem dX12_carts_120 : decode cX12_carts 120 = .ok (.getfield 127, 3) := by decide +kernel
theorem dX12_carts_123 : decode cX12_carts 123 = .ok (.iload 4, 2) := by decide +kernel
theorem dX12_carts_125 : decode cX12_carts 125 = .ok (.iaload, 1) := by decide +kernel
theorem dX12_carts_126 : decode cX12_carts 126 = .ok (.goto 4, 3) := by decide +kernel
theorem dX12_carts_129 : decode cX12_carts 129 = .ok (.iconst (-1), 1) := by decide +kernel
theorem dX12_carts_130 : decode cX12_carts 130 = .ok (.iastore, 1) := by decide +kernel
theorem dX12_carts_131 : decode cX12_carts 131 = .ok (.aload_n 0, 1) := by decide +kernel
theorem dX12_carts_132 : decode cX12_carts 132 = .ok (.getfield 124, 3) := by decide +kernel
theorem dX12_carts_135 : decode cX12_carts 135 = .ok (.iload 4, 2) := by decide +kernel
theorem dX12_carts_137 : decode cX12_carts 137 = .ok (.iconst 0, 1) := by decide +kernel
theorem dX12_carts_138 : decode cX12_carts 138 = .ok (.iastore, 1) := by decide +kernel
theorem dX12_carts_139 : decode cX12_carts 139 = .ok (.iinc 4 1, 3) := by decide +kernel
theorem dX12_carts_142 : decode cX12_carts 142 = .ok (.goto (-52), 3) := by decide +kernel
theorem dX12_carts_145 : decode cX12_carts 145 = .ok (.aload_n 0, 1) := by decide +kernel
theorem dX12_carts_146 : decode cX12_carts 146 = .ok (.iconst 0, 1) := by decide +kernel
theorem dX12_carts_147 : decode cX12_carts 147 = .ok (.putfield 321, 3) := by decide +kernel
theorem dX12_carts_150 : decode cX12_carts 150 = .ok (.iload_n 2, 1) := by decide +kernel
theorem dX12_carts_151 : decode cX12_carts 151 = .ok (.ifCond .eq 7, 3) := by decide +kernel
theorem dX12_carts_154 : decode cX12_carts 154 = .ok (.iload_n 3, 1) := by decide +kernel
theorem dX12_carts_155 : decode cX12_carts 155 = .ok (.goto 5, 3) := by decide +kernel
theorem dX12_carts_158 : decode cX12_carts 158 = .ok (.bipush (-4), 2) := by decide +kernel
theorem dX12_carts_160 : decode cX12_carts 160 = .ok (.ireturn, 1) := by decide +kernel
theorem dX12_cart_0 : decode cX12_cart 0 = .ok (.aload_n 0, 1) := by decide +kernel
theorem dX12_cart_1 : decode cX12_cart 1 = .ok (.iload_n 1, 1) := by decide +kernel
theorem dX12_cart_2 : decode cX12_cart 2 = .ok (.invokevirtual 192, 3) := by decide +kernel
theorem dX12_cart_5 : decode cX12_cart 5 = .ok (.ifCond .eq 12, 3) := by decide +kernel
theorem dX12_cart_8 : decode cX12_cart 8 = .ok (.aload_n 0, 1) := by decide +kernel
theorem dX12_cart_9 : decode cX12_cart 9 = .ok (.getfield 130, 3) := by decide +kernel
theorem dX12_cart_12 : decode cX12_cart 12 = .ok (.iload_n 1, 1) := by decide +kernel
theorem dX12_cart_13 : decode cX12_cart 13 = .ok (.iaload, 1) := by decide +kernel
theorem dX12_cart_14 : decode cX12_cart 14 = .ok (.goto 4, 3) := by decide +kernel
theorem dX12_cart_17 : decode cX12_cart 17 = .ok (.iconst (-1), 1) := by decide +kernel
theorem dX12_cart_18 : decode cX12_cart 18 = .ok (.ireturn, 1) := by decide +kernel
theorem dX12_count_0 : decode cX12_count 0 = .ok (.iconst 0, 1) := by decide +kernel
theorem dX12_count_1 : decode cX12_count 1 = .ok (.istore_n 2, 1) := by decide +kernel
theorem dX12_count_2 : decode cX12_count 2 = .ok (.iconst 0, 1) := by decide +kernel
theorem dX12_count_3 : decode cX12_count 3 = .ok (.istore_n 3, 1) := by decide +kernel
theorem dX12_count_4 : decode cX12_count 4 = .ok (.iconst 0, 1) := by decide +kernel
theorem dX12_count_5 : decode cX12_count 5 = .ok (.istore 4, 2) := by decide +kernel
theorem dX12_count_7 : decode cX12_count 7 = .ok (.iload 4, 2) := by decide +kernel
theorem dX12_count_9 : decode cX12_count 9 = .ok (.aload_n 0, 1) := by decide +kernel
theorem dX12_count_10 : decode cX12_count 10 = .ok (.getfield 139, 3) := by decide +kernel
theorem dX12_count_13 : decode cX12_count 13 = .ok (.if_icmp .ge 43, 3) := by decide +kernel
theorem dX12_count_16 : decode cX12_count 16 = .ok (.iload_n 2, 1) := by decide +kernel
theorem dX12_count_17 : decode cX12_count 17 = .ok (.aload_n 0, 1) := by decide +kernel
theorem dX12_count_18 : decode cX12_count 18 = .ok (.iload 4, 2) := by decide +kernel
theorem dX12_count_20 : decode cX12_count 20 = .ok (.invokevirtual 176, 3) := by decide +kernel
theorem dX12_count_23 : decode cX12_count 23 = .ok (.ifCond .eq 7, 3) := by decide +kernel
theorem dX12_count_26 : decode cX12_count 26 = .ok (.iconst 1, 1) := by decide +kernel
theorem dX12_count_27 : decode cX12_count 27 = .ok (.goto 4, 3) := by decide +kernel
theorem dX12_count_30 : decode cX12_count 30 = .ok (.iconst 0, 1) := by decide +kernel
theorem dX12_count_31 : decode cX12_count 31 = .ok (.iadd, 1) := by decide +kernel
theorem dX12_count_32 : decode cX12_count 32 = .ok (.istore_n 2, 1) := by decide +kernel
theorem dX12_count_33 : decode cX12_count 33 = .ok (.iload_n 3, 1) := by decide +kernel
theorem dX12_count_34 : decode cX12_count 34 = .ok (.aload_n 0, 1) := by decide +kernel
theorem dX12_count_35 : decode cX12_count 35 = .ok (.iload 4, 2) := by decide +kernel
theorem dX12_count_37 : decode cX12_count 37 = .ok (.invokevirtual 165, 3) := by decide +kernel
theorem dX12_count_40 : decode cX12_count 40 = .ok (.ifCond .eq 7, 3) := by decide +kernel
theorem dX12_count_43 : decode cX12_count 43 = .ok (.iconst 1, 1) := by decide +kernel
theorem dX12_count_44 : decode cX12_count 44 = .ok (.goto 4, 3) := by decide +kernel
theorem dX12_count_47 : decode cX12_count 47 = .ok (.iconst 0, 1) := by decide +kernel
theorem dX12_count_48 : decode cX12_count 48 = .ok (.iadd, 1) := by decide +kernel
theorem dX12_count_49 : decode cX12_count 49 = .ok (.istore_n 3, 1) := by decide +kernel
theorem dX12_count_50 : decode cX12_count 50 = .ok (.iinc 4 1, 3) := by decide +kernel
theorem dX12_count_53 : decode cX12_count 53 = .ok (.goto (-46), 3) := by decide +kernel
theorem dX12_count_56 : decode cX12_count 56 = .ok (.iload_n 1, 1) := by decide +kernel
theorem dX12_count_57 : decode cX12_count 57 = .ok (.tableswitch 90 0 8 #[51, 56, 61, 63, 68, 73, 78, 83, 88], 51) := by decide +kernel
theorem dX12_count_108 : decode cX12_count 108 = .ok (.aload_n 0, 1) := by decide +kernel
theorem dX12_count_109 : decode cX12_count 109 = .ok (.getfield 136, 3) := by decide +kernel
theorem dX12_count_112 : decode cX12_count 112 = .ok (.ireturn, 1) := by decide +kernel
theorem dX12_count_113 : decode cX12_count 113 = .ok (.aload_n 0, 1) := by decide +kernel
theorem dX12_count_114 : decode cX12_count 114 = .ok (.getfield 139, 3) := by decide +kernel
theorem dX12_count_117 : decode cX12_count 117 = .ok (.ireturn, 1) := by decide +kernel
theorem dX12_count_118 : decode cX12_count 118 = .ok (.iload_n 2, 1) := by decide +kernel
theorem dX12_count_119 : decode cX12_count 119 = .ok (.ireturn, 1) := by decide +kernel
theorem dX12_count_120 : decode cX12_count 120 = .ok (.aload_n 0, 1) := by decide +kernel
theorem dX12_count_121 : decode cX12_count 121 = .ok (.getfield 162, 3) := by decide +kernel
theorem dX12_count_124 : decode cX12_count 124 = .ok (.ireturn, 1) := by decide +kernel
theorem dX12_count_125 : decode cX12_count 125 = .ok (.aload_n 0, 1) := by decide +kernel
theorem dX12_count_126 : decode cX12_count 126 = .ok (.getfield 280, 3) := by decide +kernel
theorem dX12_count_129 : decode cX12_count 129 = .ok (.ireturn, 1) := by decide +kernel
theorem dX12_count_130 : decode cX12_count 130 = .ok (.aload_n 0, 1) := by decide +kernel
theorem dX12_count_131 : decode cX12_count 131 = .ok (.getfield 217, 3) := by decide +kernel
theorem dX12_count_134 : decode cX12_count 134 = .ok (.ireturn, 1) := by decide +kernel
theorem dX12_count_135 : decode cX12_count 135 = .ok (.aload_n 0, 1) := by decide +kernel
theorem dX12_count_136 : decode cX12_count 136 = .ok (.getfield 310, 3) := by decide +kernel
theorem dX12_count_139 : decode cX12_count 139 = .ok (.ireturn, 1) := by decide +kernel
theorem dX12_count_140 : decode cX12_count 140 = .ok (.aload_n 0, 1) := by decide +kernel
theorem dX12_count_141 : decode cX12_count 141 = .ok (.getfield 237, 3) := by decide +kernel
theorem dX12_count_144 : decode cX12_count 144 = .ok (.ireturn, 1) := by decide +kernel
theorem dX12_count_145 : decode cX12_count 145 = .ok (.iload_n 3, 1) := by decide +kernel
theorem dX12_count_146 : decode cX12_count 146 = .ok (.ireturn, 1) := by decide +kernel
theorem dX12_count_147 : decode cX12_count 147 = .ok (.iconst (-1), 1) := by decide +kernel
theorem dX12_count_148 : decode cX12_count 148 = .ok (.ireturn, 1) := by decide +kernel
theorem dL_law_0 : decode cL_law 0 = .ok (.new 7, 3) := by decide +kernel
theorem dL_law_3 : decode cL_law 3 = .ok (.dup, 1) := by decide +kernel
theorem dL_law_4 : decode cL_law 4 = .ok (.invokespecial 9, 3) := by decide +kernel
theorem dL_law_7 : decode cL_law 7 = .ok (.astore_n 1, 1) := by decide +kernel
theorem dL_law_8 : decode cL_law 8 = .ok (.new 10, 3) := by decide +kernel
theorem dL_law_11 : decode cL_law 11 = .ok (.dup, 1) := by decide +kernel
theorem dL_law_12 : decode cL_law 12 = .ok (.invokespecial 12, 3) := by decide +kernel
theorem dL_law_15 : decode cL_law 15 = .ok (.astore_n 2, 1) := by decide +kernel
theorem dL_law_16 : decode cL_law 16 = .ok (.iconst 0, 1) := by decide +kernel
theorem dL_law_17 : decode cL_law 17 = .ok (.istore_n 3, 1) := by decide +kernel
theorem dL_law_18 : decode cL_law 18 = .ok (.iload_n 3, 1) := by decide +kernel
theorem dL_law_19 : decode cL_law 19 = .ok (.aload_n 0, 1) := by decide +kernel
theorem dL_law_20 : decode cL_law 20 = .ok (.arraylength, 1) := by decide +kernel
theorem dL_law_21 : decode cL_law 21 = .ok (.bipush 6, 2) := by decide +kernel
theorem dL_law_23 : decode cL_law 23 = .ok (.isub, 1) := by decide +kernel
theorem dL_law_24 : decode cL_law 24 = .ok (.if_icmp .gt 1211, 3) := by decide +kernel
theorem dL_law_27 : decode cL_law 27 = .ok (.aload_n 0, 1) := by decide +kernel
theorem dL_law_28 : decode cL_law 28 = .ok (.iload_n 3, 1) := by decide +kernel
theorem dL_law_29 : decode cL_law 29 = .ok (.iaload, 1) := by decide +kernel
theorem dL_law_30 : decode cL_law 30 = .ok (.bipush 63, 2) := by decide +kernel
theorem dL_law_32 : decode cL_law 32 = .ok (.iand, 1) := by decide +kernel
theorem dL_law_33 : decode cL_law 33 = .ok (.tableswitch 1196 0 32 #[147, 170, 213, 246, 269, 302, 335, 358, 391, 414, 447, 470, 513, 536, 579, 602, 635, 668, 711, 754, 817, 850, 883, 916, 939, 982, 1005, 1038, 1071, 1094, 1127, 1150, 1173], 147) := by decide +kernel
theorem dL_law_180 : decode cL_law 180 = .ok (.aload_n 1, 1) := by decide +kernel
theorem dL_law_181 : decode cL_law 181 = .ok (.aload_n 0, 1) := by decide +kernel
theorem dL_law_182 : decode cL_law 182 = .ok (.iload_n 3, 1) := by decide +kernel
theorem dL_law_183 : decode cL_law 183 = .ok (.iconst 1, 1) := by decide +kernel
theorem dL_law_184 : decode cL_law 184 = .ok (.iadd, 1) := by decide +kernel
theorem dL_law_185 : decode cL_law 185 = .ok (.iaload, 1) := by decide +kernel
theorem dL_law_186 : decode cL_law 186 = .ok (.invokevirtual 13, 3) := by decide +kernel
theorem dL_law_189 : decode cL_law 189 = .ok (.aload_n 2, 1) := by decide +kernel
theorem dL_law_190 : decode cL_law 190 = .ok (.aload_n 0, 1) := by decide +kernel
theorem dL_law_191 : decode cL_law 191 = .ok (.iload_n 3, 1) := by decide +kernel
theorem dL_law_192 : decode cL_law 192 = .ok (.iconst 1, 1) := by decide +kernel
theorem dL_law_193 : decode cL_law 193 = .ok (.iadd, 1) := by decide +kernel
theorem dL_law_194 : decode cL_law 194 = .ok (.iaload, 1) := by decide +kernel
theorem dL_law_195 : decode cL_law 195 = .ok (.invokevirtual 17, 3) := by decide +kernel
theorem dL_law_198 : decode cL_law 198 = .ok (.if_icmp .eq 1031, 3) := by decide +kernel
theorem dL_law_201 : decode cL_law 201 = .ok (.iconst 0, 1) := by decide +kernel
theorem dL_law_202 : decode cL_law 202 = .ok (.ireturn, 1) := by decide +kernel
theorem dL_law_203 : decode cL_law 203 = .ok (.aload_n 1, 1) := by decide +kernel
theorem dL_law_204 : decode cL_law 204 = .ok (.aload_n 0, 1) := by decide +kernel
theorem dL_law_205 : decode cL_law 205 = .ok (.iload_n 3, 1) := by decide +kernel
theorem dL_law_206 : decode cL_law 206 = .ok (.iconst 1, 1) := by decide +kernel
theorem dL_law_207 : decode cL_law 207 = .ok (.iadd, 1) := by decide +kernel
theorem dL_law_208 : decode cL_law 208 = .ok (.iaload, 1) := by decide +kernel
theorem dL_law_209 : decode cL_law 209 = .ok (.aload_n 0, 1) := by decide +kernel
theorem dL_law_210 : decode cL_law 210 = .ok (.iload_n 3, 1) := by decide +kernel
theorem dL_law_211 : decode cL_law 211 = .ok (.iconst 2, 1) := by decide +kernel
theorem dL_law_212 : decode cL_law 212 = .ok (.iadd, 1) := by decide +kernel
theorem dL_law_213 : decode cL_law 213 = .ok (.iaload, 1) := by decide +kernel
theorem dL_law_214 : decode cL_law 214 = .ok (.aload_n 0, 1) := by decide +kernel
theorem dL_law_215 : decode cL_law 215 = .ok (.iload_n 3, 1) := by decide +kernel
theorem dL_law_216 : decode cL_law 216 = .ok (.iconst 3, 1) := by decide +kernel
theorem dL_law_217 : decode cL_law 217 = .ok (.iadd, 1) := by decide +kernel
theorem dL_law_218 : decode cL_law 218 = .ok (.iaload, 1) := by decide +kernel
theorem dL_law_219 : decode cL_law 219 = .ok (.invokevirtual 18, 3) := by decide +kernel
theorem dL_law_222 : decode cL_law 222 = .ok (.aload_n 2, 1) := by decide +kernel
theorem dL_law_223 : decode cL_law 223 = .ok (.aload_n 0, 1) := by decide +kernel
theorem dL_law_224 : decode cL_law 224 = .ok (.iload_n 3, 1) := by decide +kernel
theorem dL_law_225 : decode cL_law 225 = .ok (.iconst 1, 1) := by decide +kernel
theorem dL_law_226 : decode cL_law 226 = .ok (.iadd, 1) := by decide +kernel
theorem dL_law_227 : decode cL_law 227 = .ok (.iaload, 1) := by decide +kernel
theorem dL_law_228 : decode cL_law 228 = .ok (.aload_n 0, 1) := by decide +kernel
theorem dL_law_229 : decode cL_law 229 = .ok (.iload_n 3, 1) := by decide +kernel
theorem dL_law_230 : decode cL_law 230 = .ok (.iconst 2, 1) := by decide +kernel
theorem dL_law_231 : decode cL_law 231 = .ok (.iadd, 1) := by decide +kernel
theorem dL_law_232 : decode cL_law 232 = .ok (.iaload, 1) := by decide +kernel
theorem dL_law_233 : decode cL_law 233 = .ok (.aload_n 0, 1) := by decide +kernel
theorem dL_law_234 : decode cL_law 234 = .ok (.iload_n 3, 1) := by decide +kernel
theorem dL_law_235 : decode cL_law 235 = .ok (.iconst 3, 1) := by decide +kernel
theorem dL_law_236 : decode cL_law 236 = .ok (.iadd, 1) := by decide +kernel
theorem dL_law_237 : decode cL_law 237 = .ok (.iaload, 1) := by decide +kernel
theorem dL_law_238 : decode cL_law 238 = .ok (.invokevirtual 22, 3) := by decide +kernel
theorem dL_law_241 : decode cL_law 241 = .ok (.if_icmp .eq 988, 3) := by decide +kernel
theorem dL_law_244 : decode cL_law 244 = .ok (.iconst 0, 1) := by decide +kernel
theorem dL_law_245 : decode cL_law 245 = .ok (.ireturn, 1) := by decide +kernel
theorem dL_law_246 : decode cL_law 246 = .ok (.aload_n 1, 1) := by decide +kernel
theorem dL_law_247 : decode cL_law 247 = .ok (.aload_n 0, 1) := by decide +kernel
theorem dL_law_248 : decode cL_law 248 = .ok (.iload_n 3, 1) := by decide +kernel
theorem dL_law_249 : decode cL_law 249 = .ok (.iconst 1, 1) := by decide +kernel
theorem dL_law_250 : decode cL_law 250 = .ok (.iadd, 1) := by decide +kernel
theorem dL_law_251 : decode cL_law 251 = .ok (.iaload, 1) := by decide +kernel
theorem dL_law_252 : decode cL_law 252 = .ok (.aload_n 0, 1) := by decide +kernel
theorem dL_law_253 : decode cL_law 253 = .ok (.iload_n 3, 1) := by decide +kernel
theorem dL_law_254 : decode cL_law 254 = .ok (.iconst 2, 1) := by decide +kernel
theorem dL_law_255 : decode cL_law 255 = .ok (.iadd, 1) := by decide +kernel
theorem dL_law_256 : decode cL_law 256 = .ok (.iaload, 1) := by decide +kernel
theorem dL_law_257 : decode cL_law 257 = .ok (.invokevirtual 23, 3) := by decide +kernel
theorem dL_law_260 : decode cL_law 260 = .ok (.aload_n 2, 1) := by decide +kernel
theorem dL_law_261 : decode cL_law 261 = .ok (.aload_n 0, 1) := by decide +kernel
theorem dL_law_262 : decode cL_law 262 = .ok (.iload_n 3, 1) := by decide +kernel
theorem dL_law_263 : decode cL_law 263 = .ok (.iconst 1, 1) := by decide +kernel
theorem dL_law_264 : decode cL_law 264 = .ok (.iadd, 1) := by decide +kernel
theorem dL_law_265 : decode cL_law 265 = .ok (.iaload, 1) := by decide +kernel
theorem dL_law_266 : decode cL_law 266 = .ok (.aload_n 0, 1) := by decide +kernel
theorem dL_law_267 : decode cL_law 267 = .ok (.iload_n 3, 1) := by decide +kernel
theorem dL_law_268 : decode cL_law 268 = .ok (.iconst 2, 1) := by decide +kernel
theorem dL_law_269 : decode cL_law 269 = .ok (.iadd, 1) := by decide +kernel
theorem dL_law_270 : decode cL_law 270 = .ok (.iaload, 1) := by decide +kernel
theorem dL_law_271 : decode cL_law 271 = .ok (.invokevirtual 27, 3) := by decide +kernel
theorem dL_law_274 : decode cL_law 274 = .ok (.if_icmp .eq 955, 3) := by decide +kernel
theorem dL_law_277 : decode cL_law 277 = .ok (.iconst 0, 1) := by decide +kernel
theorem dL_law_278 : decode cL_law 278 = .ok (.ireturn, 1) := by decide +kernel
theorem dL_law_279 : decode cL_law 279 = .ok (.aload_n 1, 1) := by decide +kernel
theorem dL_law_280 : decode cL_law 280 = .ok (.aload_n 0, 1) := by decide +kernel
theorem dL_law_281 : decode cL_law 281 = .ok (.iload_n 3, 1) := by decide +kernel
theorem dL_law_282 : decode cL_law 282 = .ok (.iconst 1, 1) := by decide +kernel
theorem dL_law_283 : decode cL_law 283 = .ok (.iadd, 1) := by decide +kernel
theorem dL_law_284 : decode cL_law 284 = .ok (.iaload, 1) := by decide +kernel
theorem dL_law_285 : decode cL_law 285 = .ok (.invokevirtual 28, 3) := by decide +kernel
theorem dL_law_288 : decode cL_law 288 = .ok (.aload_n 2, 1) := by decide +kernel
theorem dL_law_289 : decode cL_law 289 = .ok (.aload_n 0, 1) := by decide +kernel
theorem dL_law_290 : decode cL_law 290 = .ok (.iload_n 3, 1) := by decide +kernel
theorem dL_law_291 : decode cL_law 291 = .ok (.iconst 1, 1) := by decide +kernel
theorem dL_law_292 : decode cL_law 292 = .ok (.iadd, 1) := by decide +kernel
theorem dL_law_293 : decode cL_law 293 = .ok (.iaload, 1) := by decide +kernel
theorem dL_law_294 : decode cL_law 294 = .ok (.invokevirtual 31, 3) := by decide +kernel
theorem dL_law_297 : decode cL_law 297 = .ok (.if_icmp .eq 932, 3) := by decide +kernel
theorem dL_law_300 : decode cL_law 300 = .ok (.iconst 0, 1) := by decide +kernel
theorem dL_law_301 : decode cL_law 301 = .ok (.ireturn, 1) := by decide +kernel
theorem dL_law_302 : decode cL_law 302 = .ok (.aload_n 1, 1) := by decide +kernel
theorem dL_law_303 : decode cL_law 303 = .ok (.aload_n 0, 1) := by decide +kernel
theorem dL_law_304 : decode cL_law 304 = .ok (.iload_n 3, 1) := by decide +kernel
theorem dL_law_305 : decode cL_law 305 = .ok (.iconst 1, 1) := by decide +kernel
theorem dL_law_306 : decode cL_law 306 = .ok (.iadd, 1) := by decide +kernel
theorem dL_law_307 : decode cL_law 307 = .ok (.iaload, 1) := by decide +kernel
theorem dL_law_308 : decode cL_law 308 = .ok (.aload_n 0, 1) := by decide +kernel
theorem dL_law_309 : decode cL_law 309 = .ok (.iload_n 3, 1) := by decide +kernel
theorem dL_law_310 : decode cL_law 310 = .ok (.iconst 2, 1) := by decide +kernel
theorem dL_law_311 : decode cL_law 311 = .ok (.iadd, 1) := by decide +kernel
theorem dL_law_312 : decode cL_law 312 = .ok (.iaload, 1) := by decide +kernel
theorem dL_law_313 : decode cL_law 313 = .ok (.invokevirtual 32, 3) := by decide +kernel
theorem dL_law_316 : decode cL_law 316 = .ok (.aload_n 2, 1) := by decide +kernel
theorem dL_law_317 : decode cL_law 317 = .ok (.aload_n 0, 1) := by decide +kernel
theorem dL_law_318 : decode cL_law 318 = .ok (.iload_n 3, 1) := by decide +kernel
theorem dL_law_319 : decode cL_law 319 = .ok (.iconst 1, 1) := by decide +kernel
theorem dL_law_320 : decode cL_law 320 = .ok (.iadd, 1) := by decide +kernel
theorem dL_law_321 : decode cL_law 321 = .ok (.iaload, 1) := by decide +kernel
theorem dL_law_322 : decode cL_law 322 = .ok (.aload_n 0, 1) := by decide +kernel
theorem dL_law_323 : decode cL_law 323 = .ok (.iload_n 3, 1) := by decide +kernel
theorem dL_law_324 : decode cL_law 324 = .ok (.iconst 2, 1) := by decide +kernel
theorem dL_law_325 : decode cL_law 325 = .ok (.iadd, 1) := by decide +kernel
theorem dL_law_326 : decode cL_law 326 = .ok (.iaload, 1) := by decide +kernel
theorem dL_law_327 : decode cL_law 327 = .ok (.invokevirtual 35, 3) := by decide +kernel
theorem dL_law_330 : decode cL_law 330 = .ok (.if_icmp .eq 899, 3) := by decide +kernel
theorem dL_law_333 : decode cL_law 333 = .ok (.iconst 0, 1) := by decide +kernel
theorem dL_law_334 : decode cL_law 334 = .ok (.ireturn, 1) := by decide +kernel
theorem dL_law_335 : decode cL_law 335 = .ok (.aload_n 1, 1) := by decide +kernel
theorem dL_law_336 : decode cL_law 336 = .ok (.aload_n 0, 1) := by decide +kernel
theorem dL_law_337 : decode cL_law 337 = .ok (.iload_n 3, 1) := by decide +kernel
theorem dL_law_338 : decode cL_law 338 = .ok (.iconst 1, 1) := by decide +kernel
theorem dL_law_339 : decode cL_law 339 = .ok (.iadd, 1) := by decide +kernel
theorem dL_law_340 : decode cL_law 340 = .ok (.iaload, 1) := by decide +kernel
theorem dL_law_341 : decode cL_law 341 = .ok (.aload_n 0, 1) := by decide +kernel
theorem dL_law_342 : decode cL_law 342 = .ok (.iload_n 3, 1) := by decide +kernel
theorem dL_law_343 : decode cL_law 343 = .ok (.iconst 2, 1) := by decide +kernel
theorem dL_law_344 : decode cL_law 344 = .ok (.iadd, 1) := by decide +kernel
theorem dL_law_345 : decode cL_law 345 = .ok (.iaload, 1) := by decide +kernel
theorem dL_law_346 : decode cL_law 346 = .ok (.invokevirtual 36, 3) := by decide +kernel
theorem dL_law_349 : decode cL_law 349 = .ok (.aload_n 2, 1) := by decide +kernel
theorem dL_law_350 : decode cL_law 350 = .ok (.aload_n 0, 1) := by decide +kernel
theorem dL_law_351 : decode cL_law 351 = .ok (.iload_n 3, 1) := by decide +kernel
theorem dL_law_352 : decode cL_law 352 = .ok (.iconst 1, 1) := by decide +kernel
theorem dL_law_353 : decode cL_law 353 = .ok (.iadd, 1) := by decide +kernel
theorem dL_law_354 : decode cL_law 354 = .ok (.iaload, 1) := by decide +kernel
theorem dL_law_355 : decode cL_law 355 = .ok (.aload_n 0, 1) := by decide +kernel
theorem dL_law_356 : decode cL_law 356 = .ok (.iload_n 3, 1) := by decide +kernel
theorem dL_law_357 : decode cL_law 357 = .ok (.iconst 2, 1) := by decide +kernel
theorem dL_law_358 : decode cL_law 358 = .ok (.iadd, 1) := by decide +kernel
theorem dL_law_359 : decode cL_law 359 = .ok (.iaload, 1) := by decide +kernel
theorem dL_law_360 : decode cL_law 360 = .ok (.invokevirtual 39, 3) := by decide +kernel
theorem dL_law_363 : decode cL_law 363 = .ok (.if_icmp .eq 866, 3) := by decide +kernel
theorem dL_law_366 : decode cL_law 366 = .ok (.iconst 0, 1) := by decide +kernel
theorem dL_law_367 : decode cL_law 367 = .ok (.ireturn, 1) := by decide +kernel
theorem dL_law_368 : decode cL_law 368 = .ok (.aload_n 1, 1) := by decide +kernel
theorem dL_law_369 : decode cL_law 369 = .ok (.aload_n 0, 1) := by decide +kernel
theorem dL_law_370 : decode cL_law 370 = .ok (.iload_n 3, 1) := by decide +kernel
theorem dL_law_371 : decode cL_law 371 = .ok (.iconst 1, 1) := by decide +kernel
theorem dL_law_372 : decode cL_law 372 = .ok (.iadd, 1) := by decide +kernel
theorem dL_law_373 : decode cL_law 373 = .ok (.iaload, 1) := by decide +kernel
theorem dL_law_374 : decode cL_law 374 = .ok (.invokevirtual 40, 3) := by decide +kernel
theorem dL_law_377 : decode cL_law 377 = .ok (.aload_n 2, 1) := by decide +kernel
theorem dL_law_378 : decode cL_law 378 = .ok (.aload_n 0, 1) := by decide +kernel
theorem dL_law_379 : decode cL_law 379 = .ok (.iload_n 3, 1) := by decide +kernel
theorem dL_law_380 : decode cL_law 380 = .ok (.iconst 1, 1) := by decide +kernel
theorem dL_law_381 : decode cL_law 381 = .ok (.iadd, 1) := by decide +kernel
theorem dL_law_382 : decode cL_law 382 = .ok (.iaload, 1) := by decide +kernel
theorem dL_law_383 : decode cL_law 383 = .ok (.invokevirtual 43, 3) := by decide +kernel
theorem dL_law_386 : decode cL_law 386 = .ok (.if_icmp .eq 843, 3) := by decide +kernel
theorem dL_law_389 : decode cL_law 389 = .ok (.iconst 0, 1) := by decide +kernel
theorem dL_law_390 : decode cL_law 390 = .ok (.ireturn, 1) := by decide +kernel
theorem dL_law_391 : decode cL_law 391 = .ok (.aload_n 1, 1) := by decide +kernel
theorem dL_law_392 : decode cL_law 392 = .ok (.aload_n 0, 1) := by decide +kernel
theorem dL_law_393 : decode cL_law 393 = .ok (.iload_n 3, 1) := by decide +kernel
theorem dL_law_394 : decode cL_law 394 = .ok (.iconst 1, 1) := by decide +kernel
theorem dL_law_395 : decode cL_law 395 = .ok (.iadd, 1) := by decide +kernel
theorem dL_law_396 : decode cL_law 396 = .ok (.iaload, 1) := by decide +kernel
theorem dL_law_397 : decode cL_law 397 = .ok (.aload_n 0, 1) := by decide +kernel
theorem dL_law_398 : decode cL_law 398 = .ok (.iload_n 3, 1) := by decide +kernel
theorem dL_law_399 : decode cL_law 399 = .ok (.iconst 2, 1) := by decide +kernel
theorem dL_law_400 : decode cL_law 400 = .ok (.iadd, 1) := by decide +kernel
theorem dL_law_401 : decode cL_law 401 = .ok (.iaload, 1) := by decide +kernel
theorem dL_law_402 : decode cL_law 402 = .ok (.invokevirtual 44, 3) := by decide +kernel
theorem dL_law_405 : decode cL_law 405 = .ok (.aload_n 2, 1) := by decide +kernel
theorem dL_law_406 : decode cL_law 406 = .ok (.aload_n 0, 1) := by decide +kernel
theorem dL_law_407 : decode cL_law 407 = .ok (.iload_n 3, 1) := by decide +kernel
theorem dL_law_408 : decode cL_law 408 = .ok (.iconst 1, 1) := by decide +kernel
theorem dL_law_409 : decode cL_law 409 = .ok (.iadd, 1) := by decide +kernel
theorem dL_law_410 : decode cL_law 410 = .ok (.iaload, 1) := by decide +kernel
theorem dL_law_411 : decode cL_law 411 = .ok (.aload_n 0, 1) := by decide +kernel
theorem dL_law_412 : decode cL_law 412 = .ok (.iload_n 3, 1) := by decide +kernel
theorem dL_law_413 : decode cL_law 413 = .ok (.iconst 2, 1) := by decide +kernel
theorem dL_law_414 : decode cL_law 414 = .ok (.iadd, 1) := by decide +kernel
theorem dL_law_415 : decode cL_law 415 = .ok (.iaload, 1) := by decide +kernel
theorem dL_law_416 : decode cL_law 416 = .ok (.invokevirtual 47, 3) := by decide +kernel
theorem dL_law_419 : decode cL_law 419 = .ok (.if_icmp .eq 810, 3) := by decide +kernel
theorem dL_law_422 : decode cL_law 422 = .ok (.iconst 0, 1) := by decide +kernel
theorem dL_law_423 : decode cL_law 423 = .ok (.ireturn, 1) := by decide +kernel
theorem dL_law_424 : decode cL_law 424 = .ok (.aload_n 1, 1) := by decide +kernel
theorem dL_law_425 : decode cL_law 425 = .ok (.aload_n 0, 1) := by decide +kernel
theorem dL_law_426 : decode cL_law 426 = .ok (.iload_n 3, 1) := by decide +kernel
theorem dL_law_427 : decode cL_law 427 = .ok (.iconst 1, 1) := by decide +kernel
theorem dL_law_428 : decode cL_law 428 = .ok (.iadd, 1) := by decide +kernel
theorem dL_law_429 : decode cL_law 429 = .ok (.iaload, 1) := by decide +kernel
theorem dL_law_430 : decode cL_law 430 = .ok (.invokevirtual 48, 3) := by decide +kernel
theorem dL_law_433 : decode cL_law 433 = .ok (.aload_n 2, 1) := by decide +kernel
theorem dL_law_434 : decode cL_law 434 = .ok (.aload_n 0, 1) := by decide +kernel
theorem dL_law_435 : decode cL_law 435 = .ok (.iload_n 3, 1) := by decide +kernel
theorem dL_law_436 : decode cL_law 436 = .ok (.iconst 1, 1) := by decide +kernel
theorem dL_law_437 : decode cL_law 437 = .ok (.iadd, 1) := by decide +kernel
theorem dL_law_438 : decode cL_law 438 = .ok (.iaload, 1) := by decide +kernel
theorem dL_law_439 : decode cL_law 439 = .ok (.invokevirtual 51, 3) := by decide +kernel
theorem dL_law_442 : decode cL_law 442 = .ok (.if_icmp .eq 787, 3) := by decide +kernel
theorem dL_law_445 : decode cL_law 445 = .ok (.iconst 0, 1) := by decide +kernel
theorem dL_law_446 : decode cL_law 446 = .ok (.ireturn, 1) := by decide +kernel
theorem dL_law_447 : decode cL_law 447 = .ok (.aload_n 1, 1) := by decide +kernel
theorem dL_law_448 : decode cL_law 448 = .ok (.aload_n 0, 1) := by decide +kernel
theorem dL_law_449 : decode cL_law 449 = .ok (.iload_n 3, 1) := by decide +kernel
theorem dL_law_450 : decode cL_law 450 = .ok (.iconst 1, 1) := by decide +kernel
theorem dL_law_451 : decode cL_law 451 = .ok (.iadd, 1) := by decide +kernel
theorem dL_law_452 : decode cL_law 452 = .ok (.iaload, 1) := by decide +kernel
theorem dL_law_453 : decode cL_law 453 = .ok (.aload_n 0, 1) := by decide +kernel
theorem dL_law_454 : decode cL_law 454 = .ok (.iload_n 3, 1) := by decide +kernel
theorem dL_law_455 : decode cL_law 455 = .ok (.iconst 2, 1) := by decide +kernel
theorem dL_law_456 : decode cL_law 456 = .ok (.iadd, 1) := by decide +kernel
theorem dL_law_457 : decode cL_law 457 = .ok (.iaload, 1) := by decide +kernel
theorem dL_law_458 : decode cL_law 458 = .ok (.invokevirtual 52, 3) := by decide +kernel
theorem dL_law_461 : decode cL_law 461 = .ok (.aload_n 2, 1) := by decide +kernel
theorem dL_law_462 : decode cL_law 462 = .ok (.aload_n 0, 1) := by decide +kernel
theorem dL_law_463 : decode cL_law 463 = .ok (.iload_n 3, 1) := by decide +kernel
theorem dL_law_464 : decode cL_law 464 = .ok (.iconst 1, 1) := by decide +kernel
theorem dL_law_465 : decode cL_law 465 = .ok (.iadd, 1) := by decide +kernel
theorem dL_law_466 : decode cL_law 466 = .ok (.iaload, 1) := by decide +kernel
theorem dL_law_467 : decode cL_law 467 = .ok (.aload_n 0, 1) := by decide +kernel
theorem dL_law_468 : decode cL_law 468 = .ok (.iload_n 3, 1) := by decide +kernel
theorem dL_law_469 : decode cL_law 469 = .ok (.iconst 2, 1) := by decide +kernel
theorem dL_law_470 : decode cL_law 470 = .ok (.iadd, 1) := by decide +kernel
theorem dL_law_471 : decode cL_law 471 = .ok (.iaload, 1) := by decide +kernel
theorem dL_law_472 : decode cL_law 472 = .ok (.invokevirtual 55, 3) := by decide +kernel
theorem dL_law_475 : decode cL_law 475 = .ok (.if_icmp .eq 754, 3) := by decide +kernel
theorem dL_law_478 : decode cL_law 478 = .ok (.iconst 0, 1) := by decide +kernel
theorem dL_law_479 : decode cL_law 479 = .ok (.ireturn, 1) := by decide +kernel
theorem dL_law_480 : decode cL_law 480 = .ok (.aload_n 1, 1) := by decide +kernel
theorem dL_law_481 : decode cL_law 481 = .ok (.aload_n 0, 1) := by decide +kernel
theorem dL_law_482 : decode cL_law 482 = .ok (.iload_n 3, 1) := by decide +kernel
theorem dL_law_483 : decode cL_law 483 = .ok (.iconst 1, 1) := by decide +kernel
theorem dL_law_484 : decode cL_law 484 = .ok (.iadd, 1) := by decide +kernel
theorem dL_law_485 : decode cL_law 485 = .ok (.iaload, 1) := by decide +kernel
theorem dL_law_486 : decode cL_law 486 = .ok (.invokevirtual 56, 3) := by decide +kernel
theorem dL_law_489 : decode cL_law 489 = .ok (.aload_n 2, 1) := by decide +kernel
theorem dL_law_490 : decode cL_law 490 = .ok (.aload_n 0, 1) := by decide +kernel
theorem dL_law_491 : decode cL_law 491 = .ok (.iload_n 3, 1) := by decide +kernel
theorem dL_law_492 : decode cL_law 492 = .ok (.iconst 1, 1) := by decide +kernel
theorem dL_law_493 : decode cL_law 493 = .ok (.iadd, 1) := by decide +kernel
theorem dL_law_494 : decode cL_law 494 = .ok (.iaload, 1) := by decide +kernel
theorem dL_law_495 : decode cL_law 495 = .ok (.invokevirtual 59, 3) := by decide +kernel
theorem dL_law_498 : decode cL_law 498 = .ok (.if_icmp .eq 731, 3) := by decide +kernel
theorem dL_law_501 : decode cL_law 501 = .ok (.iconst 0, 1) := by decide +kernel
theorem dL_law_502 : decode cL_law 502 = .ok (.ireturn, 1) := by decide +kernel
theorem dL_law_503 : decode cL_law 503 = .ok (.aload_n 1, 1) := by decide +kernel
theorem dL_law_504 : decode cL_law 504 = .ok (.aload_n 0, 1) := by decide +kernel
theorem dL_law_505 : decode cL_law 505 = .ok (.iload_n 3, 1) := by decide +kernel
theorem dL_law_506 : decode cL_law 506 = .ok (.iconst 1, 1) := by decide +kernel
theorem dL_law_507 : decode cL_law 507 = .ok (.iadd, 1) := by decide +kernel
theorem dL_law_508 : decode cL_law 508 = .ok (.iaload, 1) := by decide +kernel
theorem dL_law_509 : decode cL_law 509 = .ok (.aload_n 0, 1) := by decide +kernel
theorem dL_law_510 : decode cL_law 510 = .ok (.iload_n 3, 1) := by decide +kernel
theorem dL_law_511 : decode cL_law 511 = .ok (.iconst 2, 1) := by decide +kernel
theorem dL_law_512 : decode cL_law 512 = .ok (.iadd, 1) := by decide +kernel
theorem dL_law_513 : decode cL_law 513 = .ok (.iaload, 1) := by decide +kernel
theorem dL_law_514 : decode cL_law 514 = .ok (.aload_n 0, 1) := by decide +kernel
theorem dL_law_515 : decode cL_law 515 = .ok (.iload_n 3, 1) := by decide +kernel
theorem dL_law_516 : decode cL_law 516 = .ok (.iconst 3, 1) := by decide +kernel
theorem dL_law_517 : decode cL_law 517 = .ok (.iadd, 1) := by decide +kernel
theorem dL_law_518 : decode cL_law 518 = .ok (.iaload, 1) := by decide +kernel
theorem dL_law_519 : decode cL_law 519 = .ok (.invokevirtual 60, 3) := by decide +kernel
theorem dL_law_522 : decode cL_law 522 = .ok (.aload_n 2, 1) := by decide +kernel
theorem dL_law_523 : decode cL_law 523 = .ok (.aload_n 0, 1) := by decide +kernel
theorem dL_law_524 : decode cL_law 524 = .ok (.iload_n 3, 1) := by decide +kernel
theorem dL_law_525 : decode cL_law 525 = .ok (.iconst 1, 1) := by decide +kernel
theorem dL_law_526 : decode cL_law 526 = .ok (.iadd, 1) := by decide +kernel
theorem dL_law_527 : decode cL_law 527 = .ok (.iaload, 1) := by decide +kernel
theorem dL_law_528 : decode cL_law 528 = .ok (.aload_n 0, 1) := by decide +kernel
theorem dL_law_529 : decode cL_law 529 = .ok (.iload_n 3, 1) := by decide +kernel
theorem dL_law_530 : decode cL_law 530 = .ok (.iconst 2, 1) := by decide +kernel
theorem dL_law_531 : decode cL_law 531 = .ok (.iadd, 1) := by decide +kernel
theorem dL_law_532 : decode cL_law 532 = .ok (.iaload, 1) := by decide +kernel
theorem dL_law_533 : decode cL_law 533 = .ok (.aload_n 0, 1) := by decide +kernel
theorem dL_law_534 : decode cL_law 534 = .ok (.iload_n 3, 1) := by decide +kernel
theorem dL_law_535 : decode cL_law 535 = .ok (.iconst 3, 1) := by decide +kernel
theorem dL_law_536 : decode cL_law 536 = .ok (.iadd, 1) := by decide +kernel
theorem dL_law_537 : decode cL_law 537 = .ok (.iaload, 1) := by decide +kernel
theorem dL_law_538 : decode cL_law 538 = .ok (.invokevirtual 63, 3) := by decide +kernel
theorem dL_law_541 : decode cL_law 541 = .ok (.if_icmp .eq 688, 3) := by decide +kernel
theorem dL_law_544 : decode cL_law 544 = .ok (.iconst 0, 1) := by decide +kernel
theorem dL_law_545 : decode cL_law 545 = .ok (.ireturn, 1) := by decide +kernel
theorem dL_law_546 : decode cL_law 546 = .ok (.aload_n 1, 1) := by decide +kernel
theorem dL_law_547 : decode cL_law 547 = .ok (.aload_n 0, 1) := by decide +kernel
theorem dL_law_548 : decode cL_law 548 = .ok (.iload_n 3, 1) := by decide +kernel
theorem dL_law_549 : decode cL_law 549 = .ok (.iconst 1, 1) := by decide +kernel
theorem dL_law_550 : decode cL_law 550 = .ok (.iadd, 1) := by decide +kernel
theorem dL_law_551 : decode cL_law 551 = .ok (.iaload, 1) := by decide +kernel
theorem dL_law_552 : decode cL_law 552 = .ok (.invokevirtual 64, 3) := by decide +kernel
theorem dL_law_555 : decode cL_law 555 = .ok (.aload_n 2, 1) := by decide +kernel
theorem dL_law_556 : decode cL_law 556 = .ok (.aload_n 0, 1) := by decide +kernel
theorem dL_law_557 : decode cL_law 557 = .ok (.iload_n 3, 1) := by decide +kernel
theorem dL_law_558 : decode cL_law 558 = .ok (.iconst 1, 1) := by decide +kernel
theorem dL_law_559 : decode cL_law 559 = .ok (.iadd, 1) := by decide +kernel
theorem dL_law_560 : decode cL_law 560 = .ok (.iaload, 1) := by decide +kernel
theorem dL_law_561 : decode cL_law 561 = .ok (.invokevirtual 67, 3) := by decide +kernel
theorem dL_law_564 : decode cL_law 564 = .ok (.if_icmp .eq 665, 3) := by decide +kernel
theorem dL_law_567 : decode cL_law 567 = .ok (.iconst 0, 1) := by decide +kernel
theorem dL_law_568 : decode cL_law 568 = .ok (.ireturn, 1) := by decide +kernel
theorem dL_law_569 : decode cL_law 569 = .ok (.aload_n 1, 1) := by decide +kernel
theorem dL_law_570 : decode cL_law 570 = .ok (.aload_n 0, 1) := by decide +kernel
theorem dL_law_571 : decode cL_law 571 = .ok (.iload_n 3, 1) := by decide +kernel
theorem dL_law_572 : decode cL_law 572 = .ok (.iconst 1, 1) := by decide +kernel
theorem dL_law_573 : decode cL_law 573 = .ok (.iadd, 1) := by decide +kernel
theorem dL_law_574 : decode cL_law 574 = .ok (.iaload, 1) := by decide +kernel
theorem dL_law_575 : decode cL_law 575 = .ok (.aload_n 0, 1) := by decide +kernel
theorem dL_law_576 : decode cL_law 576 = .ok (.iload_n 3, 1) := by decide +kernel
theorem dL_law_577 : decode cL_law 577 = .ok (.iconst 2, 1) := by decide +kernel
theorem dL_law_578 : decode cL_law 578 = .ok (.iadd, 1) := by decide +kernel
theorem dL_law_579 : decode cL_law 579 = .ok (.iaload, 1) := by decide +kernel
theorem dL_law_580 : decode cL_law 580 = .ok (.aload_n 0, 1) := by decide +kernel
theorem dL_law_581 : decode cL_law 581 = .ok (.iload_n 3, 1) := by decide +kernel
theorem dL_law_582 : decode cL_law 582 = .ok (.iconst 3, 1) := by decide +kernel
theorem dL_law_583 : decode cL_law 583 = .ok (.iadd, 1) := by decide +kernel
theorem dL_law_584 : decode cL_law 584 = .ok (.iaload, 1) := by decide +kernel
theorem dL_law_585 : decode cL_law 585 = .ok (.invokevirtual 68, 3) := by decide +kernel
theorem dL_law_588 : decode cL_law 588 = .ok (.aload_n 2, 1) := by decide +kernel
theorem dL_law_589 : decode cL_law 589 = .ok (.aload_n 0, 1) := by decide +kernel
theorem dL_law_590 : decode cL_law 590 = .ok (.iload_n 3, 1) := by decide +kernel
theorem dL_law_591 : decode cL_law 591 = .ok (.iconst 1, 1) := by decide +kernel
theorem dL_law_592 : decode cL_law 592 = .ok (.iadd, 1) := by decide +kernel
theorem dL_law_593 : decode cL_law 593 = .ok (.iaload, 1) := by decide +kernel
theorem dL_law_594 : decode cL_law 594 = .ok (.aload_n 0, 1) := by decide +kernel
theorem dL_law_595 : decode cL_law 595 = .ok (.iload_n 3, 1) := by decide +kernel
theorem dL_law_596 : decode cL_law 596 = .ok (.iconst 2, 1) := by decide +kernel
theorem dL_law_597 : decode cL_law 597 = .ok (.iadd, 1) := by decide +kernel
theorem dL_law_598 : decode cL_law 598 = .ok (.iaload, 1) := by decide +kernel
theorem dL_law_599 : decode cL_law 599 = .ok (.aload_n 0, 1) := by decide +kernel
theorem dL_law_600 : decode cL_law 600 = .ok (.iload_n 3, 1) := by decide +kernel
theorem dL_law_601 : decode cL_law 601 = .ok (.iconst 3, 1) := by decide +kernel
theorem dL_law_602 : decode cL_law 602 = .ok (.iadd, 1) := by decide +kernel
theorem dL_law_603 : decode cL_law 603 = .ok (.iaload, 1) := by decide +kernel
theorem dL_law_604 : decode cL_law 604 = .ok (.invokevirtual 71, 3) := by decide +kernel
theorem dL_law_607 : decode cL_law 607 = .ok (.if_icmp .eq 622, 3) := by decide +kernel
theorem dL_law_610 : decode cL_law 610 = .ok (.iconst 0, 1) := by decide +kernel
theorem dL_law_611 : decode cL_law 611 = .ok (.ireturn, 1) := by decide +kernel
theorem dL_law_612 : decode cL_law 612 = .ok (.aload_n 1, 1) := by decide +kernel
theorem dL_law_613 : decode cL_law 613 = .ok (.aload_n 0, 1) := by decide +kernel
theorem dL_law_614 : decode cL_law 614 = .ok (.iload_n 3, 1) := by decide +kernel
theorem dL_law_615 : decode cL_law 615 = .ok (.iconst 1, 1) := by decide +kernel
theorem dL_law_616 : decode cL_law 616 = .ok (.iadd, 1) := by decide +kernel
theorem dL_law_617 : decode cL_law 617 = .ok (.iaload, 1) := by decide +kernel
theorem dL_law_618 : decode cL_law 618 = .ok (.invokevirtual 72, 3) := by decide +kernel
theorem dL_law_621 : decode cL_law 621 = .ok (.aload_n 2, 1) := by decide +kernel
theorem dL_law_622 : decode cL_law 622 = .ok (.aload_n 0, 1) := by decide +kernel
theorem dL_law_623 : decode cL_law 623 = .ok (.iload_n 3, 1) := by decide +kernel
theorem dL_law_624 : decode cL_law 624 = .ok (.iconst 1, 1) := by decide +kernel
theorem dL_law_625 : decode cL_law 625 = .ok (.iadd, 1) := by decide +kernel
theorem dL_law_626 : decode cL_law 626 = .ok (.iaload, 1) := by decide +kernel
theorem dL_law_627 : decode cL_law 627 = .ok (.invokevirtual 75, 3) := by decide +kernel
theorem dL_law_630 : decode cL_law 630 = .ok (.if_icmp .eq 599, 3) := by decide +kernel
theorem dL_law_633 : decode cL_law 633 = .ok (.iconst 0, 1) := by decide +kernel
theorem dL_law_634 : decode cL_law 634 = .ok (.ireturn, 1) := by decide +kernel
theorem dL_law_635 : decode cL_law 635 = .ok (.aload_n 1, 1) := by decide +kernel
theorem dL_law_636 : decode cL_law 636 = .ok (.aload_n 0, 1) := by decide +kernel
theorem dL_law_637 : decode cL_law 637 = .ok (.iload_n 3, 1) := by decide +kernel
theorem dL_law_638 : decode cL_law 638 = .ok (.iconst 1, 1) := by decide +kernel
theorem dL_law_639 : decode cL_law 639 = .ok (.iadd, 1) := by decide +kernel
theorem dL_law_640 : decode cL_law 640 = .ok (.iaload, 1) := by decide +kernel
theorem dL_law_641 : decode cL_law 641 = .ok (.aload_n 0, 1) := by decide +kernel
theorem dL_law_642 : decode cL_law 642 = .ok (.iload_n 3, 1) := by decide +kernel
theorem dL_law_643 : decode cL_law 643 = .ok (.iconst 2, 1) := by decide +kernel
theorem dL_law_644 : decode cL_law 644 = .ok (.iadd, 1) := by decide +kernel
theorem dL_law_645 : decode cL_law 645 = .ok (.iaload, 1) := by decide +kernel
theorem dL_law_646 : decode cL_law 646 = .ok (.invokevirtual 76, 3) := by decide +kernel
theorem dL_law_649 : decode cL_law 649 = .ok (.aload_n 2, 1) := by decide +kernel
theorem dL_law_650 : decode cL_law 650 = .ok (.aload_n 0, 1) := by decide +kernel
theorem dL_law_651 : decode cL_law 651 = .ok (.iload_n 3, 1) := by decide +kernel
theorem dL_law_652 : decode cL_law 652 = .ok (.iconst 1, 1) := by decide +kernel
theorem dL_law_653 : decode cL_law 653 = .ok (.iadd, 1) := by decide +kernel
theorem dL_law_654 : decode cL_law 654 = .ok (.iaload, 1) := by decide +kernel
theorem dL_law_655 : decode cL_law 655 = .ok (.aload_n 0, 1) := by decide +kernel
theorem dL_law_656 : decode cL_law 656 = .ok (.iload_n 3, 1) := by decide +kernel
theorem dL_law_657 : decode cL_law 657 = .ok (.iconst 2, 1) := by decide +kernel
theorem dL_law_658 : decode cL_law 658 = .ok (.iadd, 1) := by decide +kernel
theorem dL_law_659 : decode cL_law 659 = .ok (.iaload, 1) := by decide +kernel
theorem dL_law_660 : decode cL_law 660 = .ok (.invokevirtual 79, 3) := by decide +kernel
theorem dL_law_663 : decode cL_law 663 = .ok (.if_icmp .eq 566, 3) := by decide +kernel
theorem dL_law_666 : decode cL_law 666 = .ok (.iconst 0, 1) := by decide +kernel
theorem dL_law_667 : decode cL_law 667 = .ok (.ireturn, 1) := by decide +kernel
theorem dL_law_668 : decode cL_law 668 = .ok (.aload_n 1, 1) := by decide +kernel
theorem dL_law_669 : decode cL_law 669 = .ok (.aload_n 0, 1) := by decide +kernel
theorem dL_law_670 : decode cL_law 670 = .ok (.iload_n 3, 1) := by decide +kernel
theorem dL_law_671 : decode cL_law 671 = .ok (.iconst 1, 1) := by decide +kernel
theorem dL_law_672 : decode cL_law 672 = .ok (.iadd, 1) := by decide +kernel
theorem dL_law_673 : decode cL_law 673 = .ok (.iaload, 1) := by decide +kernel
theorem dL_law_674 : decode cL_law 674 = .ok (.aload_n 0, 1) := by decide +kernel
theorem dL_law_675 : decode cL_law 675 = .ok (.iload_n 3, 1) := by decide +kernel
theorem dL_law_676 : decode cL_law 676 = .ok (.iconst 2, 1) := by decide +kernel
theorem dL_law_677 : decode cL_law 677 = .ok (.iadd, 1) := by decide +kernel
theorem dL_law_678 : decode cL_law 678 = .ok (.iaload, 1) := by decide +kernel
theorem dL_law_679 : decode cL_law 679 = .ok (.invokevirtual 80, 3) := by decide +kernel
theorem dL_law_682 : decode cL_law 682 = .ok (.aload_n 2, 1) := by decide +kernel
theorem dL_law_683 : decode cL_law 683 = .ok (.aload_n 0, 1) := by decide +kernel
theorem dL_law_684 : decode cL_law 684 = .ok (.iload_n 3, 1) := by decide +kernel
theorem dL_law_685 : decode cL_law 685 = .ok (.iconst 1, 1) := by decide +kernel
theorem dL_law_686 : decode cL_law 686 = .ok (.iadd, 1) := by decide +kernel
theorem dL_law_687 : decode cL_law 687 = .ok (.iaload, 1) := by decide +kernel
theorem dL_law_688 : decode cL_law 688 = .ok (.aload_n 0, 1) := by decide +kernel
theorem dL_law_689 : decode cL_law 689 = .ok (.iload_n 3, 1) := by decide +kernel
theorem dL_law_690 : decode cL_law 690 = .ok (.iconst 2, 1) := by decide +kernel
theorem dL_law_691 : decode cL_law 691 = .ok (.iadd, 1) := by decide +kernel
theorem dL_law_692 : decode cL_law 692 = .ok (.iaload, 1) := by decide +kernel
theorem dL_law_693 : decode cL_law 693 = .ok (.invokevirtual 83, 3) := by decide +kernel
theorem dL_law_696 : decode cL_law 696 = .ok (.if_icmp .eq 533, 3) := by decide +kernel
theorem dL_law_699 : decode cL_law 699 = .ok (.iconst 0, 1) := by decide +kernel
theorem dL_law_700 : decode cL_law 700 = .ok (.ireturn, 1) := by decide +kernel
theorem dL_law_701 : decode cL_law 701 = .ok (.aload_n 1, 1) := by decide +kernel
theorem dL_law_702 : decode cL_law 702 = .ok (.aload_n 0, 1) := by decide +kernel
theorem dL_law_703 : decode cL_law 703 = .ok (.iload_n 3, 1) := by decide +kernel
theorem dL_law_704 : decode cL_law 704 = .ok (.iconst 1, 1) := by decide +kernel
theorem dL_law_705 : decode cL_law 705 = .ok (.iadd, 1) := by decide +kernel
theorem dL_law_706 : decode cL_law 706 = .ok (.iaload, 1) := by decide +kernel
theorem dL_law_707 : decode cL_law 707 = .ok (.aload_n 0, 1) := by decide +kernel
theorem dL_law_708 : decode cL_law 708 = .ok (.iload_n 3, 1) := by decide +kernel
theorem dL_law_709 : decode cL_law 709 = .ok (.iconst 2, 1) := by decide +kernel
theorem dL_law_710 : decode cL_law 710 = .ok (.iadd, 1) := by decide +kernel
theorem dL_law_711 : decode cL_law 711 = .ok (.iaload, 1) := by decide +kernel
theorem dL_law_712 : decode cL_law 712 = .ok (.aload_n 0, 1) := by decide +kernel
theorem dL_law_713 : decode cL_law 713 = .ok (.iload_n 3, 1) := by decide +kernel
theorem dL_law_714 : decode cL_law 714 = .ok (.iconst 3, 1) := by decide +kernel
theorem dL_law_715 : decode cL_law 715 = .ok (.iadd, 1) := by decide +kernel
theorem dL_law_716 : decode cL_law 716 = .ok (.iaload, 1) := by decide +kernel
theorem dL_law_717 : decode cL_law 717 = .ok (.invokevirtual 84, 3) := by decide +kernel
theorem dL_law_720 : decode cL_law 720 = .ok (.aload_n 2, 1) := by decide +kernel
theorem dL_law_721 : decode cL_law 721 = .ok (.aload_n 0, 1) := by decide +kernel
theorem dL_law_722 : decode cL_law 722 = .ok (.iload_n 3, 1) := by decide +kernel
theorem dL_law_723 : decode cL_law 723 = .ok (.iconst 1, 1) := by decide +kernel
theorem dL_law_724 : decode cL_law 724 = .ok (.iadd, 1) := by decide +kernel
theorem dL_law_725 : decode cL_law 725 = .ok (.iaload, 1) := by decide +kernel
theorem dL_law_726 : decode cL_law 726 = .ok (.aload_n 0, 1) := by decide +kernel
theorem dL_law_727 : decode cL_law 727 = .ok (.iload_n 3, 1) := by decide +kernel
theorem dL_law_728 : decode cL_law 728 = .ok (.iconst 2, 1) := by decide +kernel
theorem dL_law_729 : decode cL_law 729 = .ok (.iadd, 1) := by decide +kernel
theorem dL_law_730 : decode cL_law 730 = .ok (.iaload, 1) := by decide +kernel
theorem dL_law_731 : decode cL_law 731 = .ok (.aload_n 0, 1) := by decide +kernel
theorem dL_law_732 : decode cL_law 732 = .ok (.iload_n 3, 1) := by decide +kernel
theorem dL_law_733 : decode cL_law 733 = .ok (.iconst 3, 1) := by decide +kernel
theorem dL_law_734 : decode cL_law 734 = .ok (.iadd, 1) := by decide +kernel
theorem dL_law_735 : decode cL_law 735 = .ok (.iaload, 1) := by decide +kernel
theorem dL_law_736 : decode cL_law 736 = .ok (.invokevirtual 87, 3) := by decide +kernel
theorem dL_law_739 : decode cL_law 739 = .ok (.if_icmp .eq 490, 3) := by decide +kernel
theorem dL_law_742 : decode cL_law 742 = .ok (.iconst 0, 1) := by decide +kernel
theorem dL_law_743 : decode cL_law 743 = .ok (.ireturn, 1) := by decide +kernel
theorem dL_law_744 : decode cL_law 744 = .ok (.aload_n 1, 1) := by decide +kernel
theorem dL_law_745 : decode cL_law 745 = .ok (.aload_n 0, 1) := by decide +kernel
theorem dL_law_746 : decode cL_law 746 = .ok (.iload_n 3, 1) := by decide +kernel
theorem dL_law_747 : decode cL_law 747 = .ok (.iconst 1, 1) := by decide +kernel
theorem dL_law_748 : decode cL_law 748 = .ok (.iadd, 1) := by decide +kernel
theorem dL_law_749 : decode cL_law 749 = .ok (.iaload, 1) := by decide +kernel
theorem dL_law_750 : decode cL_law 750 = .ok (.aload_n 0, 1) := by decide +kernel
theorem dL_law_751 : decode cL_law 751 = .ok (.iload_n 3, 1) := by decide +kernel
theorem dL_law_752 : decode cL_law 752 = .ok (.iconst 2, 1) := by decide +kernel
theorem dL_law_753 : decode cL_law 753 = .ok (.iadd, 1) := by decide +kernel
theorem dL_law_754 : decode cL_law 754 = .ok (.iaload, 1) := by decide +kernel
theorem dL_law_755 : decode cL_law 755 = .ok (.aload_n 0, 1) := by decide +kernel
theorem dL_law_756 : decode cL_law 756 = .ok (.iload_n 3, 1) := by decide +kernel
theorem dL_law_757 : decode cL_law 757 = .ok (.iconst 3, 1) := by decide +kernel
theorem dL_law_758 : decode cL_law 758 = .ok (.iadd, 1) := by decide +kernel
theorem dL_law_759 : decode cL_law 759 = .ok (.iaload, 1) := by decide +kernel
theorem dL_law_760 : decode cL_law 760 = .ok (.invokevirtual 88, 3) := by decide +kernel
theorem dL_law_763 : decode cL_law 763 = .ok (.aload_n 2, 1) := by decide +kernel
theorem dL_law_764 : decode cL_law 764 = .ok (.aload_n 0, 1) := by decide +kernel
theorem dL_law_765 : decode cL_law 765 = .ok (.iload_n 3, 1) := by decide +kernel
theorem dL_law_766 : decode cL_law 766 = .ok (.iconst 1, 1) := by decide +kernel
theorem dL_law_767 : decode cL_law 767 = .ok (.iadd, 1) := by decide +kernel
theorem dL_law_768 : decode cL_law 768 = .ok (.iaload, 1) := by decide +kernel
theorem dL_law_769 : decode cL_law 769 = .ok (.aload_n 0, 1) := by decide +kernel
theorem dL_law_770 : decode cL_law 770 = .ok (.iload_n 3, 1) := by decide +kernel
theorem dL_law_771 : decode cL_law 771 = .ok (.iconst 2, 1) := by decide +kernel
theorem dL_law_772 : decode cL_law 772 = .ok (.iadd, 1) := by decide +kernel
theorem dL_law_773 : decode cL_law 773 = .ok (.iaload, 1) := by decide +kernel
theorem dL_law_774 : decode cL_law 774 = .ok (.aload_n 0, 1) := by decide +kernel
theorem dL_law_775 : decode cL_law 775 = .ok (.iload_n 3, 1) := by decide +kernel
theorem dL_law_776 : decode cL_law 776 = .ok (.iconst 3, 1) := by decide +kernel
theorem dL_law_777 : decode cL_law 777 = .ok (.iadd, 1) := by decide +kernel
theorem dL_law_778 : decode cL_law 778 = .ok (.iaload, 1) := by decide +kernel
theorem dL_law_779 : decode cL_law 779 = .ok (.invokevirtual 91, 3) := by decide +kernel
theorem dL_law_782 : decode cL_law 782 = .ok (.if_icmp .eq 447, 3) := by decide +kernel
theorem dL_law_785 : decode cL_law 785 = .ok (.iconst 0, 1) := by decide +kernel
theorem dL_law_786 : decode cL_law 786 = .ok (.ireturn, 1) := by decide +kernel
theorem dL_law_787 : decode cL_law 787 = .ok (.aload_n 1, 1) := by decide +kernel
theorem dL_law_788 : decode cL_law 788 = .ok (.aload_n 0, 1) := by decide +kernel
theorem dL_law_789 : decode cL_law 789 = .ok (.iload_n 3, 1) := by decide +kernel
theorem dL_law_790 : decode cL_law 790 = .ok (.iconst 1, 1) := by decide +kernel
theorem dL_law_791 : decode cL_law 791 = .ok (.iadd, 1) := by decide +kernel
theorem dL_law_792 : decode cL_law 792 = .ok (.iaload, 1) := by decide +kernel
theorem dL_law_793 : decode cL_law 793 = .ok (.aload_n 0, 1) := by decide +kernel
theorem dL_law_794 : decode cL_law 794 = .ok (.iload_n 3, 1) := by decide +kernel
theorem dL_law_795 : decode cL_law 795 = .ok (.iconst 2, 1) := by decide +kernel
theorem dL_law_796 : decode cL_law 796 = .ok (.iadd, 1) := by decide +kernel
theorem dL_law_797 : decode cL_law 797 = .ok (.iaload, 1) := by decide +kernel
theorem dL_law_798 : decode cL_law 798 = .ok (.aload_n 0, 1) := by decide +kernel
theorem dL_law_799 : decode cL_law 799 = .ok (.iload_n 3, 1) := by decide +kernel
theorem dL_law_800 : decode cL_law 800 = .ok (.iconst 3, 1) := by decide +kernel
theorem dL_law_801 : decode cL_law 801 = .ok (.iadd, 1) := by decide +kernel
theorem dL_law_802 : decode cL_law 802 = .ok (.iaload, 1) := by decide +kernel
theorem dL_law_803 : decode cL_law 803 = .ok (.aload_n 0, 1) := by decide +kernel
theorem dL_law_804 : decode cL_law 804 = .ok (.iload_n 3, 1) := by decide +kernel
theorem dL_law_805 : decode cL_law 805 = .ok (.iconst 4, 1) := by decide +kernel
theorem dL_law_806 : decode cL_law 806 = .ok (.iadd, 1) := by decide +kernel
theorem dL_law_807 : decode cL_law 807 = .ok (.iaload, 1) := by decide +kernel
theorem dL_law_808 : decode cL_law 808 = .ok (.aload_n 0, 1) := by decide +kernel
theorem dL_law_809 : decode cL_law 809 = .ok (.iload_n 3, 1) := by decide +kernel
theorem dL_law_810 : decode cL_law 810 = .ok (.iconst 5, 1) := by decide +kernel
theorem dL_law_811 : decode cL_law 811 = .ok (.iadd, 1) := by decide +kernel
theorem dL_law_812 : decode cL_law 812 = .ok (.iaload, 1) := by decide +kernel
theorem dL_law_813 : decode cL_law 813 = .ok (.invokevirtual 92, 3) := by decide +kernel
theorem dL_law_816 : decode cL_law 816 = .ok (.aload_n 2, 1) := by decide +kernel
theorem dL_law_817 : decode cL_law 817 = .ok (.aload_n 0, 1) := by decide +kernel
theorem dL_law_818 : decode cL_law 818 = .ok (.iload_n 3, 1) := by decide +kernel
theorem dL_law_819 : decode cL_law 819 = .ok (.iconst 1, 1) := by decide +kernel
theorem dL_law_820 : decode cL_law 820 = .ok (.iadd, 1) := by decide +kernel
theorem dL_law_821 : decode cL_law 821 = .ok (.iaload, 1) := by decide +kernel
theorem dL_law_822 : decode cL_law 822 = .ok (.aload_n 0, 1) := by decide +kernel
theorem dL_law_823 : decode cL_law 823 = .ok (.iload_n 3, 1) := by decide +kernel
theorem dL_law_824 : decode cL_law 824 = .ok (.iconst 2, 1) := by decide +kernel
theorem dL_law_825 : decode cL_law 825 = .ok (.iadd, 1) := by decide +kernel
theorem dL_law_826 : decode cL_law 826 = .ok (.iaload, 1) := by decide +kernel
theorem dL_law_827 : decode cL_law 827 = .ok (.aload_n 0, 1) := by decide +kernel
theorem dL_law_828 : decode cL_law 828 = .ok (.iload_n 3, 1) := by decide +kernel
theorem dL_law_829 : decode cL_law 829 = .ok (.iconst 3, 1) := by decide +kernel
theorem dL_law_830 : decode cL_law 830 = .ok (.iadd, 1) := by decide +kernel
theorem dL_law_831 : decode cL_law 831 = .ok (.iaload, 1) := by decide +kernel
theorem dL_law_832 : decode cL_law 832 = .ok (.aload_n 0, 1) := by decide +kernel
theorem dL_law_833 : decode cL_law 833 = .ok (.iload_n 3, 1) := by decide +kernel
theorem dL_law_834 : decode cL_law 834 = .ok (.iconst 4, 1) := by decide +kernel
theorem dL_law_835 : decode cL_law 835 = .ok (.iadd, 1) := by decide +kernel
theorem dL_law_836 : decode cL_law 836 = .ok (.iaload, 1) := by decide +kernel
theorem dL_law_837 : decode cL_law 837 = .ok (.aload_n 0, 1) := by decide +kernel
theorem dL_law_838 : decode cL_law 838 = .ok (.iload_n 3, 1) := by decide +kernel
theorem dL_law_839 : decode cL_law 839 = .ok (.iconst 5, 1) := by decide +kernel
theorem dL_law_840 : decode cL_law 840 = .ok (.iadd, 1) := by decide +kernel
theorem dL_law_841 : decode cL_law 841 = .ok (.iaload, 1) := by decide +kernel
theorem dL_law_842 : decode cL_law 842 = .ok (.invokevirtual 96, 3) := by decide +kernel
theorem dL_law_845 : decode cL_law 845 = .ok (.if_icmp .eq 384, 3) := by decide +kernel
theorem dL_law_848 : decode cL_law 848 = .ok (.iconst 0, 1) := by decide +kernel
theorem dL_law_849 : decode cL_law 849 = .ok (.ireturn, 1) := by decide +kernel
theorem dL_law_850 : decode cL_law 850 = .ok (.aload_n 1, 1) := by decide +kernel
theorem dL_law_851 : decode cL_law 851 = .ok (.aload_n 0, 1) := by decide +kernel
theorem dL_law_852 : decode cL_law 852 = .ok (.iload_n 3, 1) := by decide +kernel
theorem dL_law_853 : decode cL_law 853 = .ok (.iconst 1, 1) := by decide +kernel
theorem dL_law_854 : decode cL_law 854 = .ok (.iadd, 1) := by decide +kernel
theorem dL_law_855 : decode cL_law 855 = .ok (.iaload, 1) := by decide +kernel
theorem dL_law_856 : decode cL_law 856 = .ok (.aload_n 0, 1) := by decide +kernel
theorem dL_law_857 : decode cL_law 857 = .ok (.iload_n 3, 1) := by decide +kernel
theorem dL_law_858 : decode cL_law 858 = .ok (.iconst 2, 1) := by decide +kernel
theorem dL_law_859 : decode cL_law 859 = .ok (.iadd, 1) := by decide +kernel
theorem dL_law_860 : decode cL_law 860 = .ok (.iaload, 1) := by decide +kernel
theorem dL_law_861 : decode cL_law 861 = .ok (.invokevirtual 97, 3) := by decide +kernel
theorem dL_law_864 : decode cL_law 864 = .ok (.aload_n 2, 1) := by decide +kernel
theorem dL_law_865 : decode cL_law 865 = .ok (.aload_n 0, 1) := by decide +kernel
theorem dL_law_866 : decode cL_law 866 = .ok (.iload_n 3, 1) := by decide +kernel
theorem dL_law_867 : decode cL_law 867 = .ok (.iconst 1, 1) := by decide +kernel
theorem dL_law_868 : decode cL_law 868 = .ok (.iadd, 1) := by decide +kernel
theorem dL_law_869 : decode cL_law 869 = .ok (.iaload, 1) := by decide +kernel
theorem dL_law_870 : decode cL_law 870 = .ok (.aload_n 0, 1) := by decide +kernel
theorem dL_law_871 : decode cL_law 871 = .ok (.iload_n 3, 1) := by decide +kernel
theorem dL_law_872 : decode cL_law 872 = .ok (.iconst 2, 1) := by decide +kernel
theorem dL_law_873 : decode cL_law 873 = .ok (.iadd, 1) := by decide +kernel
theorem dL_law_874 : decode cL_law 874 = .ok (.iaload, 1) := by decide +kernel
theorem dL_law_875 : decode cL_law 875 = .ok (.invokevirtual 100, 3) := by decide +kernel
theorem dL_law_878 : decode cL_law 878 = .ok (.if_icmp .eq 351, 3) := by decide +kernel
theorem dL_law_881 : decode cL_law 881 = .ok (.iconst 0, 1) := by decide +kernel
theorem dL_law_882 : decode cL_law 882 = .ok (.ireturn, 1) := by decide +kernel
theorem dL_law_883 : decode cL_law 883 = .ok (.aload_n 1, 1) := by decide +kernel
theorem dL_law_884 : decode cL_law 884 = .ok (.aload_n 0, 1) := by decide +kernel
theorem dL_law_885 : decode cL_law 885 = .ok (.iload_n 3, 1) := by decide +kernel
theorem dL_law_886 : decode cL_law 886 = .ok (.iconst 1, 1) := by decide +kernel
theorem dL_law_887 : decode cL_law 887 = .ok (.iadd, 1) := by decide +kernel
theorem dL_law_888 : decode cL_law 888 = .ok (.iaload, 1) := by decide +kernel
theorem dL_law_889 : decode cL_law 889 = .ok (.aload_n 0, 1) := by decide +kernel
theorem dL_law_890 : decode cL_law 890 = .ok (.iload_n 3, 1) := by decide +kernel
theorem dL_law_891 : decode cL_law 891 = .ok (.iconst 2, 1) := by decide +kernel
theorem dL_law_892 : decode cL_law 892 = .ok (.iadd, 1) := by decide +kernel
theorem dL_law_893 : decode cL_law 893 = .ok (.iaload, 1) := by decide +kernel
theorem dL_law_894 : decode cL_law 894 = .ok (.invokevirtual 101, 3) := by decide +kernel
theorem dL_law_897 : decode cL_law 897 = .ok (.aload_n 2, 1) := by decide +kernel
theorem dL_law_898 : decode cL_law 898 = .ok (.aload_n 0, 1) := by decide +kernel
theorem dL_law_899 : decode cL_law 899 = .ok (.iload_n 3, 1) := by decide +kernel
theorem dL_law_900 : decode cL_law 900 = .ok (.iconst 1, 1) := by decide +kernel
theorem dL_law_901 : decode cL_law 901 = .ok (.iadd, 1) := by decide +kernel
theorem dL_law_902 : decode cL_law 902 = .ok (.iaload, 1) := by decide +kernel
theorem dL_law_903 : decode cL_law 903 = .ok (.aload_n 0, 1) := by decide +kernel
theorem dL_law_904 : decode cL_law 904 = .ok (.iload_n 3, 1) := by decide +kernel
theorem dL_law_905 : decode cL_law 905 = .ok (.iconst 2, 1) := by decide +kernel
theorem dL_law_906 : decode cL_law 906 = .ok (.iadd, 1) := by decide +kernel
theorem dL_law_907 : decode cL_law 907 = .ok (.iaload, 1) := by decide +kernel
theorem dL_law_908 : decode cL_law 908 = .ok (.invokevirtual 104, 3) := by decide +kernel
theorem dL_law_911 : decode cL_law 911 = .ok (.if_icmp .eq 318, 3) := by decide +kernel
theorem dL_law_914 : decode cL_law 914 = .ok (.iconst 0, 1) := by decide +kernel
theorem dL_law_915 : decode cL_law 915 = .ok (.ireturn, 1) := by decide +kernel
theorem dL_law_916 : decode cL_law 916 = .ok (.aload_n 1, 1) := by decide +kernel
theorem dL_law_917 : decode cL_law 917 = .ok (.aload_n 0, 1) := by decide +kernel
theorem dL_law_918 : decode cL_law 918 = .ok (.iload_n 3, 1) := by decide +kernel
theorem dL_law_919 : decode cL_law 919 = .ok (.iconst 1, 1) := by decide +kernel
theorem dL_law_920 : decode cL_law 920 = .ok (.iadd, 1) := by decide +kernel
theorem dL_law_921 : decode cL_law 921 = .ok (.iaload, 1) := by decide +kernel
theorem dL_law_922 : decode cL_law 922 = .ok (.aload_n 0, 1) := by decide +kernel
theorem dL_law_923 : decode cL_law 923 = .ok (.iload_n 3, 1) := by decide +kernel
theorem dL_law_924 : decode cL_law 924 = .ok (.iconst 2, 1) := by decide +kernel
theorem dL_law_925 : decode cL_law 925 = .ok (.iadd, 1) := by decide +kernel
theorem dL_law_926 : decode cL_law 926 = .ok (.iaload, 1) := by decide +kernel
theorem dL_law_927 : decode cL_law 927 = .ok (.invokevirtual 105, 3) := by decide +kernel
theorem dL_law_930 : decode cL_law 930 = .ok (.aload_n 2, 1) := by decide +kernel
theorem dL_law_931 : decode cL_law 931 = .ok (.aload_n 0, 1) := by decide +kernel
theorem dL_law_932 : decode cL_law 932 = .ok (.iload_n 3, 1) := by decide +kernel
theorem dL_law_933 : decode cL_law 933 = .ok (.iconst 1, 1) := by decide +kernel
theorem dL_law_934 : decode cL_law 934 = .ok (.iadd, 1) := by decide +kernel
theorem dL_law_935 : decode cL_law 935 = .ok (.iaload, 1) := by decide +kernel
theorem dL_law_936 : decode cL_law 936 = .ok (.aload_n 0, 1) := by decide +kernel
theorem dL_law_937 : decode cL_law 937 = .ok (.iload_n 3, 1) := by decide +kernel
theorem dL_law_938 : decode cL_law 938 = .ok (.iconst 2, 1) := by decide +kernel
theorem dL_law_939 : decode cL_law 939 = .ok (.iadd, 1) := by decide +kernel
theorem dL_law_940 : decode cL_law 940 = .ok (.iaload, 1) := by decide +kernel
theorem dL_law_941 : decode cL_law 941 = .ok (.invokevirtual 108, 3) := by decide +kernel
theorem dL_law_944 : decode cL_law 944 = .ok (.if_icmp .eq 285, 3) := by decide +kernel
theorem dL_law_947 : decode cL_law 947 = .ok (.iconst 0, 1) := by decide +kernel
theorem dL_law_948 : decode cL_law 948 = .ok (.ireturn, 1) := by decide +kernel
theorem dL_law_949 : decode cL_law 949 = .ok (.aload_n 1, 1) := by decide +kernel
theorem dL_law_950 : decode cL_law 950 = .ok (.aload_n 0, 1) := by decide +kernel
theorem dL_law_951 : decode cL_law 951 = .ok (.iload_n 3, 1) := by decide +kernel
theorem dL_law_952 : decode cL_law 952 = .ok (.iconst 1, 1) := by decide +kernel
theorem dL_law_953 : decode cL_law 953 = .ok (.iadd, 1) := by decide +kernel
theorem dL_law_954 : decode cL_law 954 = .ok (.iaload, 1) := by decide +kernel
theorem dL_law_955 : decode cL_law 955 = .ok (.invokevirtual 109, 3) := by decide +kernel
theorem dL_law_958 : decode cL_law 958 = .ok (.aload_n 2, 1) := by decide +kernel
theorem dL_law_959 : decode cL_law 959 = .ok (.aload_n 0, 1) := by decide +kernel
theorem dL_law_960 : decode cL_law 960 = .ok (.iload_n 3, 1) := by decide +kernel
theorem dL_law_961 : decode cL_law 961 = .ok (.iconst 1, 1) := by decide +kernel
theorem dL_law_962 : decode cL_law 962 = .ok (.iadd, 1) := by decide +kernel
theorem dL_law_963 : decode cL_law 963 = .ok (.iaload, 1) := by decide +kernel
theorem dL_law_964 : decode cL_law 964 = .ok (.invokevirtual 112, 3) := by decide +kernel
theorem dL_law_967 : decode cL_law 967 = .ok (.if_icmp .eq 262, 3) := by decide +kernel
theorem dL_law_970 : decode cL_law 970 = .ok (.iconst 0, 1) := by decide +kernel
theorem dL_law_971 : decode cL_law 971 = .ok (.ireturn, 1) := by decide +kernel
theorem dL_law_972 : decode cL_law 972 = .ok (.aload_n 1, 1) := by decide +kernel
theorem dL_law_973 : decode cL_law 973 = .ok (.aload_n 0, 1) := by decide +kernel
theorem dL_law_974 : decode cL_law 974 = .ok (.iload_n 3, 1) := by decide +kernel
theorem dL_law_975 : decode cL_law 975 = .ok (.iconst 1, 1) := by decide +kernel
theorem dL_law_976 : decode cL_law 976 = .ok (.iadd, 1) := by decide +kernel
theorem dL_law_977 : decode cL_law 977 = .ok (.iaload, 1) := by decide +kernel
theorem dL_law_978 : decode cL_law 978 = .ok (.aload_n 0, 1) := by decide +kernel
theorem dL_law_979 : decode cL_law 979 = .ok (.iload_n 3, 1) := by decide +kernel
theorem dL_law_980 : decode cL_law 980 = .ok (.iconst 2, 1) := by decide +kernel
theorem dL_law_981 : decode cL_law 981 = .ok (.iadd, 1) := by decide +kernel
theorem dL_law_982 : decode cL_law 982 = .ok (.iaload, 1) := by decide +kernel
theorem dL_law_983 : decode cL_law 983 = .ok (.aload_n 0, 1) := by decide +kernel
theorem dL_law_984 : decode cL_law 984 = .ok (.iload_n 3, 1) := by decide +kernel
theorem dL_law_985 : decode cL_law 985 = .ok (.iconst 3, 1) := by decide +kernel
theorem dL_law_986 : decode cL_law 986 = .ok (.iadd, 1) := by decide +kernel
theorem dL_law_987 : decode cL_law 987 = .ok (.iaload, 1) := by decide +kernel
theorem dL_law_988 : decode cL_law 988 = .ok (.invokevirtual 113, 3) := by decide +kernel
theorem dL_law_991 : decode cL_law 991 = .ok (.aload_n 2, 1) := by decide +kernel
theorem dL_law_992 : decode cL_law 992 = .ok (.aload_n 0, 1) := by decide +kernel
theorem dL_law_993 : decode cL_law 993 = .ok (.iload_n 3, 1) := by decide +kernel
theorem dL_law_994 : decode cL_law 994 = .ok (.iconst 1, 1) := by decide +kernel
theorem dL_law_995 : decode cL_law 995 = .ok (.iadd, 1) := by decide +kernel
theorem dL_law_996 : decode cL_law 996 = .ok (.iaload, 1) := by decide +kernel
theorem dL_law_997 : decode cL_law 997 = .ok (.aload_n 0, 1) := by decide +kernel
theorem dL_law_998 : decode cL_law 998 = .ok (.iload_n 3, 1) := by decide +kernel
theorem dL_law_999 : decode cL_law 999 = .ok (.iconst 2, 1) := by decide +kernel
theorem dL_law_1000 : decode cL_law 1000 = .ok (.iadd, 1) := by decide +kernel
theorem dL_law_1001 : decode cL_law 1001 = .ok (.iaload, 1) := by decide +kernel
theorem dL_law_1002 : decode cL_law 1002 = .ok (.aload_n 0, 1) := by decide +kernel
theorem dL_law_1003 : decode cL_law 1003 = .ok (.iload_n 3, 1) := by decide +kernel
theorem dL_law_1004 : decode cL_law 1004 = .ok (.iconst 3, 1) := by decide +kernel
theorem dL_law_1005 : decode cL_law 1005 = .ok (.iadd, 1) := by decide +kernel
theorem dL_law_1006 : decode cL_law 1006 = .ok (.iaload, 1) := by decide +kernel
theorem dL_law_1007 : decode cL_law 1007 = .ok (.invokevirtual 116, 3) := by decide +kernel
theorem dL_law_1010 : decode cL_law 1010 = .ok (.if_icmp .eq 219, 3) := by decide +kernel
theorem dL_law_1013 : decode cL_law 1013 = .ok (.iconst 0, 1) := by decide +kernel
theorem dL_law_1014 : decode cL_law 1014 = .ok (.ireturn, 1) := by decide +kernel
theorem dL_law_1015 : decode cL_law 1015 = .ok (.aload_n 1, 1) := by decide +kernel
theorem dL_law_1016 : decode cL_law 1016 = .ok (.aload_n 0, 1) := by decide +kernel
theorem dL_law_1017 : decode cL_law 1017 = .ok (.iload_n 3, 1) := by decide +kernel
theorem dL_law_1018 : decode cL_law 1018 = .ok (.iconst 1, 1) := by decide +kernel
theorem dL_law_1019 : decode cL_law 1019 = .ok (.iadd, 1) := by decide +kernel
theorem dL_law_1020 : decode cL_law 1020 = .ok (.iaload, 1) := by decide +kernel
theorem dL_law_1021 : decode cL_law 1021 = .ok (.invokevirtual 117, 3) := by decide +kernel
theorem dL_law_1024 : decode cL_law 1024 = .ok (.aload_n 2, 1) := by decide +kernel
theorem dL_law_1025 : decode cL_law 1025 = .ok (.aload_n 0, 1) := by decide +kernel
theorem dL_law_1026 : decode cL_law 1026 = .ok (.iload_n 3, 1) := by decide +kernel
theorem dL_law_1027 : decode cL_law 1027 = .ok (.iconst 1, 1) := by decide +kernel
theorem dL_law_1028 : decode cL_law 1028 = .ok (.iadd, 1) := by decide +kernel
theorem dL_law_1029 : decode cL_law 1029 = .ok (.iaload, 1) := by decide +kernel
theorem dL_law_1030 : decode cL_law 1030 = .ok (.invokevirtual 120, 3) := by decide +kernel
theorem dL_law_1033 : decode cL_law 1033 = .ok (.if_icmp .eq 196, 3) := by decide +kernel
theorem dL_law_1036 : decode cL_law 1036 = .ok (.iconst 0, 1) := by decide +kernel
theorem dL_law_1037 : decode cL_law 1037 = .ok (.ireturn, 1) := by decide +kernel
theorem dL_law_1038 : decode cL_law 1038 = .ok (.aload_n 1, 1) := by decide +kernel
theorem dL_law_1039 : decode cL_law 1039 = .ok (.aload_n 0, 1) := by decide +kernel
theorem dL_law_1040 : decode cL_law 1040 = .ok (.iload_n 3, 1) := by decide +kernel
theorem dL_law_1041 : decode cL_law 1041 = .ok (.iconst 1, 1) := by decide +kernel
theorem dL_law_1042 : decode cL_law 1042 = .ok (.iadd, 1) := by decide +kernel
theorem dL_law_1043 : decode cL_law 1043 = .ok (.iaload, 1) := by decide +kernel
theorem dL_law_1044 : decode cL_law 1044 = .ok (.aload_n 0, 1) := by decide +kernel
theorem dL_law_1045 : decode cL_law 1045 = .ok (.iload_n 3, 1) := by decide +kernel
theorem dL_law_1046 : decode cL_law 1046 = .ok (.iconst 2, 1) := by decide +kernel
theorem dL_law_1047 : decode cL_law 1047 = .ok (.iadd, 1) := by decide +kernel
theorem dL_law_1048 : decode cL_law 1048 = .ok (.iaload, 1) := by decide +kernel
theorem dL_law_1049 : decode cL_law 1049 = .ok (.invokevirtual 121, 3) := by decide +kernel
theorem dL_law_1052 : decode cL_law 1052 = .ok (.aload_n 2, 1) := by decide +kernel
theorem dL_law_1053 : decode cL_law 1053 = .ok (.aload_n 0, 1) := by decide +kernel
theorem dL_law_1054 : decode cL_law 1054 = .ok (.iload_n 3, 1) := by decide +kernel
theorem dL_law_1055 : decode cL_law 1055 = .ok (.iconst 1, 1) := by decide +kernel
theorem dL_law_1056 : decode cL_law 1056 = .ok (.iadd, 1) := by decide +kernel
theorem dL_law_1057 : decode cL_law 1057 = .ok (.iaload, 1) := by decide +kernel
theorem dL_law_1058 : decode cL_law 1058 = .ok (.aload_n 0, 1) := by decide +kernel
theorem dL_law_1059 : decode cL_law 1059 = .ok (.iload_n 3, 1) := by decide +kernel
theorem dL_law_1060 : decode cL_law 1060 = .ok (.iconst 2, 1) := by decide +kernel
theorem dL_law_1061 : decode cL_law 1061 = .ok (.iadd, 1) := by decide +kernel
theorem dL_law_1062 : decode cL_law 1062 = .ok (.iaload, 1) := by decide +kernel
theorem dL_law_1063 : decode cL_law 1063 = .ok (.invokevirtual 124, 3) := by decide +kernel
theorem dL_law_1066 : decode cL_law 1066 = .ok (.if_icmp .eq 163, 3) := by decide +kernel
theorem dL_law_1069 : decode cL_law 1069 = .ok (.iconst 0, 1) := by decide +kernel
theorem dL_law_1070 : decode cL_law 1070 = .ok (.ireturn, 1) := by decide +kernel
theorem dL_law_1071 : decode cL_law 1071 = .ok (.aload_n 1, 1) := by decide +kernel
theorem dL_law_1072 : decode cL_law 1072 = .ok (.aload_n 0, 1) := by decide +kernel
theorem dL_law_1073 : decode cL_law 1073 = .ok (.iload_n 3, 1) := by decide +kernel
theorem dL_law_1074 : decode cL_law 1074 = .ok (.iconst 1, 1) := by decide +kernel
theorem dL_law_1075 : decode cL_law 1075 = .ok (.iadd, 1) := by decide +kernel
theorem dL_law_1076 : decode cL_law 1076 = .ok (.iaload, 1) := by decide +kernel
theorem dL_law_1077 : decode cL_law 1077 = .ok (.aload_n 0, 1) := by decide +kernel
theorem dL_law_1078 : decode cL_law 1078 = .ok (.iload_n 3, 1) := by decide +kernel
theorem dL_law_1079 : decode cL_law 1079 = .ok (.iconst 2, 1) := by decide +kernel
theorem dL_law_1080 : decode cL_law 1080 = .ok (.iadd, 1) := by decide +kernel
theorem dL_law_1081 : decode cL_law 1081 = .ok (.iaload, 1) := by decide +kernel
theorem dL_law_1082 : decode cL_law 1082 = .ok (.invokevirtual 125, 3) := by decide +kernel
theorem dL_law_1085 : decode cL_law 1085 = .ok (.aload_n 2, 1) := by decide +kernel
theorem dL_law_1086 : decode cL_law 1086 = .ok (.aload_n 0, 1) := by decide +kernel
theorem dL_law_1087 : decode cL_law 1087 = .ok (.iload_n 3, 1) := by decide +kernel
theorem dL_law_1088 : decode cL_law 1088 = .ok (.iconst 1, 1) := by decide +kernel
theorem dL_law_1089 : decode cL_law 1089 = .ok (.iadd, 1) := by decide +kernel
theorem dL_law_1090 : decode cL_law 1090 = .ok (.iaload, 1) := by decide +kernel
theorem dL_law_1091 : decode cL_law 1091 = .ok (.aload_n 0, 1) := by decide +kernel
theorem dL_law_1092 : decode cL_law 1092 = .ok (.iload_n 3, 1) := by decide +kernel
theorem dL_law_1093 : decode cL_law 1093 = .ok (.iconst 2, 1) := by decide +kernel
theorem dL_law_1094 : decode cL_law 1094 = .ok (.iadd, 1) := by decide +kernel
theorem dL_law_1095 : decode cL_law 1095 = .ok (.iaload, 1) := by decide +kernel
theorem dL_law_1096 : decode cL_law 1096 = .ok (.invokevirtual 128, 3) := by decide +kernel
theorem dL_law_1099 : decode cL_law 1099 = .ok (.if_icmp .eq 130, 3) := by decide +kernel
theorem dL_law_1102 : decode cL_law 1102 = .ok (.iconst 0, 1) := by decide +kernel
theorem dL_law_1103 : decode cL_law 1103 = .ok (.ireturn, 1) := by decide +kernel
theorem dL_law_1104 : decode cL_law 1104 = .ok (.aload_n 1, 1) := by decide +kernel
theorem dL_law_1105 : decode cL_law 1105 = .ok (.aload_n 0, 1) := by decide +kernel
theorem dL_law_1106 : decode cL_law 1106 = .ok (.iload_n 3, 1) := by decide +kernel
theorem dL_law_1107 : decode cL_law 1107 = .ok (.iconst 1, 1) := by decide +kernel
theorem dL_law_1108 : decode cL_law 1108 = .ok (.iadd, 1) := by decide +kernel
theorem dL_law_1109 : decode cL_law 1109 = .ok (.iaload, 1) := by decide +kernel
theorem dL_law_1110 : decode cL_law 1110 = .ok (.invokevirtual 129, 3) := by decide +kernel
theorem dL_law_1113 : decode cL_law 1113 = .ok (.aload_n 2, 1) := by decide +kernel
theorem dL_law_1114 : decode cL_law 1114 = .ok (.aload_n 0, 1) := by decide +kernel
theorem dL_law_1115 : decode cL_law 1115 = .ok (.iload_n 3, 1) := by decide +kernel
theorem dL_law_1116 : decode cL_law 1116 = .ok (.iconst 1, 1) := by decide +kernel
theorem dL_law_1117 : decode cL_law 1117 = .ok (.iadd, 1) := by decide +kernel
theorem dL_law_1118 : decode cL_law 1118 = .ok (.iaload, 1) := by decide +kernel
theorem dL_law_1119 : decode cL_law 1119 = .ok (.invokevirtual 132, 3) := by decide +kernel
theorem dL_law_1122 : decode cL_law 1122 = .ok (.if_icmp .eq 107, 3) := by decide +kernel
theorem dL_law_1125 : decode cL_law 1125 = .ok (.iconst 0, 1) := by decide +kernel
theorem dL_law_1126 : decode cL_law 1126 = .ok (.ireturn, 1) := by decide +kernel
theorem dL_law_1127 : decode cL_law 1127 = .ok (.aload_n 1, 1) := by decide +kernel
theorem dL_law_1128 : decode cL_law 1128 = .ok (.aload_n 0, 1) := by decide +kernel
theorem dL_law_1129 : decode cL_law 1129 = .ok (.iload_n 3, 1) := by decide +kernel
theorem dL_law_1130 : decode cL_law 1130 = .ok (.iconst 1, 1) := by decide +kernel
theorem dL_law_1131 : decode cL_law 1131 = .ok (.iadd, 1) := by decide +kernel
theorem dL_law_1132 : decode cL_law 1132 = .ok (.iaload, 1) := by decide +kernel
theorem dL_law_1133 : decode cL_law 1133 = .ok (.aload_n 0, 1) := by decide +kernel
theorem dL_law_1134 : decode cL_law 1134 = .ok (.iload_n 3, 1) := by decide +kernel
theorem dL_law_1135 : decode cL_law 1135 = .ok (.iconst 2, 1) := by decide +kernel
theorem dL_law_1136 : decode cL_law 1136 = .ok (.iadd, 1) := by decide +kernel
theorem dL_law_1137 : decode cL_law 1137 = .ok (.iaload, 1) := by decide +kernel
theorem dL_law_1138 : decode cL_law 1138 = .ok (.invokevirtual 133, 3) := by decide +kernel
theorem dL_law_1141 : decode cL_law 1141 = .ok (.aload_n 2, 1) := by decide +kernel
theorem dL_law_1142 : decode cL_law 1142 = .ok (.aload_n 0, 1) := by decide +kernel
theorem dL_law_1143 : decode cL_law 1143 = .ok (.iload_n 3, 1) := by decide +kernel
theorem dL_law_1144 : decode cL_law 1144 = .ok (.iconst 1, 1) := by decide +kernel
theorem dL_law_1145 : decode cL_law 1145 = .ok (.iadd, 1) := by decide +kernel
theorem dL_law_1146 : decode cL_law 1146 = .ok (.iaload, 1) := by decide +kernel
theorem dL_law_1147 : decode cL_law 1147 = .ok (.aload_n 0, 1) := by decide +kernel
theorem dL_law_1148 : decode cL_law 1148 = .ok (.iload_n 3, 1) := by decide +kernel
theorem dL_law_1149 : decode cL_law 1149 = .ok (.iconst 2, 1) := by decide +kernel
theorem dL_law_1150 : decode cL_law 1150 = .ok (.iadd, 1) := by decide +kernel
theorem dL_law_1151 : decode cL_law 1151 = .ok (.iaload, 1) := by decide +kernel
theorem dL_law_1152 : decode cL_law 1152 = .ok (.invokevirtual 136, 3) := by decide +kernel
theorem dL_law_1155 : decode cL_law 1155 = .ok (.if_icmp .eq 74, 3) := by decide +kernel
theorem dL_law_1158 : decode cL_law 1158 = .ok (.iconst 0, 1) := by decide +kernel
theorem dL_law_1159 : decode cL_law 1159 = .ok (.ireturn, 1) := by decide +kernel
theorem dL_law_1160 : decode cL_law 1160 = .ok (.aload_n 1, 1) := by decide +kernel
theorem dL_law_1161 : decode cL_law 1161 = .ok (.aload_n 0, 1) := by decide +kernel
theorem dL_law_1162 : decode cL_law 1162 = .ok (.iload_n 3, 1) := by decide +kernel
theorem dL_law_1163 : decode cL_law 1163 = .ok (.iconst 1, 1) := by decide +kernel
theorem dL_law_1164 : decode cL_law 1164 = .ok (.iadd, 1) := by decide +kernel
theorem dL_law_1165 : decode cL_law 1165 = .ok (.iaload, 1) := by decide +kernel
theorem dL_law_1166 : decode cL_law 1166 = .ok (.invokevirtual 137, 3) := by decide +kernel
theorem dL_law_1169 : decode cL_law 1169 = .ok (.aload_n 2, 1) := by decide +kernel
theorem dL_law_1170 : decode cL_law 1170 = .ok (.aload_n 0, 1) := by decide +kernel
theorem dL_law_1171 : decode cL_law 1171 = .ok (.iload_n 3, 1) := by decide +kernel
theorem dL_law_1172 : decode cL_law 1172 = .ok (.iconst 1, 1) := by decide +kernel
theorem dL_law_1173 : decode cL_law 1173 = .ok (.iadd, 1) := by decide +kernel
theorem dL_law_1174 : decode cL_law 1174 = .ok (.iaload, 1) := by decide +kernel
theorem dL_law_1175 : decode cL_law 1175 = .ok (.invokevirtual 140, 3) := by decide +kernel
theorem dL_law_1178 : decode cL_law 1178 = .ok (.if_icmp .eq 51, 3) := by decide +kernel
theorem dL_law_1181 : decode cL_law 1181 = .ok (.iconst 0, 1) := by decide +kernel
theorem dL_law_1182 : decode cL_law 1182 = .ok (.ireturn, 1) := by decide +kernel
theorem dL_law_1183 : decode cL_law 1183 = .ok (.aload_n 1, 1) := by decide +kernel
theorem dL_law_1184 : decode cL_law 1184 = .ok (.aload_n 0, 1) := by decide +kernel
theorem dL_law_1185 : decode cL_law 1185 = .ok (.iload_n 3, 1) := by decide +kernel
theorem dL_law_1186 : decode cL_law 1186 = .ok (.iconst 1, 1) := by decide +kernel
theorem dL_law_1187 : decode cL_law 1187 = .ok (.iadd, 1) := by decide +kernel
theorem dL_law_1188 : decode cL_law 1188 = .ok (.iaload, 1) := by decide +kernel
theorem dL_law_1189 : decode cL_law 1189 = .ok (.invokevirtual 141, 3) := by decide +kernel
theorem dL_law_1192 : decode cL_law 1192 = .ok (.aload_n 2, 1) := by decide +kernel
theorem dL_law_1193 : decode cL_law 1193 = .ok (.aload_n 0, 1) := by decide +kernel
theorem dL_law_1194 : decode cL_law 1194 = .ok (.iload_n 3, 1) := by decide +kernel
theorem dL_law_1195 : decode cL_law 1195 = .ok (.iconst 1, 1) := by decide +kernel
theorem dL_law_1196 : decode cL_law 1196 = .ok (.iadd, 1) := by decide +kernel
theorem dL_law_1197 : decode cL_law 1197 = .ok (.iaload, 1) := by decide +kernel
theorem dL_law_1198 : decode cL_law 1198 = .ok (.invokevirtual 144, 3) := by decide +kernel
theorem dL_law_1201 : decode cL_law 1201 = .ok (.if_icmp .eq 28, 3) := by decide +kernel
theorem dL_law_1204 : decode cL_law 1204 = .ok (.iconst 0, 1) := by decide +kernel
theorem dL_law_1205 : decode cL_law 1205 = .ok (.ireturn, 1) := by decide +kernel
theorem dL_law_1206 : decode cL_law 1206 = .ok (.aload_n 1, 1) := by decide +kernel
theorem dL_law_1207 : decode cL_law 1207 = .ok (.aload_n 0, 1) := by decide +kernel
theorem dL_law_1208 : decode cL_law 1208 = .ok (.iload_n 3, 1) := by decide +kernel
theorem dL_law_1209 : decode cL_law 1209 = .ok (.iconst 1, 1) := by decide +kernel
theorem dL_law_1210 : decode cL_law 1210 = .ok (.iadd, 1) := by decide +kernel
theorem dL_law_1211 : decode cL_law 1211 = .ok (.iaload, 1) := by decide +kernel
theorem dL_law_1212 : decode cL_law 1212 = .ok (.invokevirtual 145, 3) := by decide +kernel
theorem dL_law_1215 : decode cL_law 1215 = .ok (.aload_n 2, 1) := by decide +kernel
theorem dL_law_1216 : decode cL_law 1216 = .ok (.aload_n 0, 1) := by decide +kernel
theorem dL_law_1217 : decode cL_law 1217 = .ok (.iload_n 3, 1) := by decide +kernel
theorem dL_law_1218 : decode cL_law 1218 = .ok (.iconst 1, 1) := by decide +kernel
theorem dL_law_1219 : decode cL_law 1219 = .ok (.iadd, 1) := by decide +kernel
theorem dL_law_1220 : decode cL_law 1220 = .ok (.iaload, 1) := by decide +kernel
theorem dL_law_1221 : decode cL_law 1221 = .ok (.invokevirtual 148, 3) := by decide +kernel
theorem dL_law_1224 : decode cL_law 1224 = .ok (.if_icmp .eq 5, 3) := by decide +kernel
theorem dL_law_1227 : decode cL_law 1227 = .ok (.iconst 0, 1) := by decide +kernel
theorem dL_law_1228 : decode cL_law 1228 = .ok (.ireturn, 1) := by decide +kernel
theorem dL_law_1229 : decode cL_law 1229 = .ok (.iinc 3 6, 3) := by decide +kernel
theorem dL_law_1232 : decode cL_law 1232 = .ok (.goto (-1214), 3) := by decide +kernel
theorem dL_law_1235 : decode cL_law 1235 = .ok (.iconst 1, 1) := by decide +kernel
theorem dL_law_1236 : decode cL_law 1236 = .ok (.ireturn, 1) := by decide +kernel
