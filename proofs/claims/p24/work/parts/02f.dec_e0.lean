/-! decode rows, printed by program -/
theorem dL_cell_0 : decode cL_cell 0 = .ok (.iload_n 1, 1) := by decide +kernel
theorem dL_cell_1 : decode cL_cell 1 = .ok (.aload_n 0, 1) := by decide +kernel
theorem dL_cell_2 : decode cL_cell 2 = .ok (.arraylength, 1) := by decide +kernel
theorem dL_cell_3 : decode cL_cell 3 = .ok (.if_icmp .ge 9, 3) := by decide +kernel
theorem dL_cell_6 : decode cL_cell 6 = .ok (.aload_n 0, 1) := by decide +kernel
theorem dL_cell_7 : decode cL_cell 7 = .ok (.iload_n 1, 1) := by decide +kernel
theorem dL_cell_8 : decode cL_cell 8 = .ok (.iaload, 1) := by decide +kernel
theorem dL_cell_9 : decode cL_cell 9 = .ok (.goto 15, 3) := by decide +kernel
theorem dL_cell_12 : decode cL_cell 12 = .ok (.sipush 7919, 3) := by decide +kernel
theorem dL_cell_15 : decode cL_cell 15 = .ok (.iload_n 1, 1) := by decide +kernel
theorem dL_cell_16 : decode cL_cell 16 = .ok (.iconst 3, 1) := by decide +kernel
theorem dL_cell_17 : decode cL_cell 17 = .ok (.iadd, 1) := by decide +kernel
theorem dL_cell_18 : decode cL_cell 18 = .ok (.imul, 1) := by decide +kernel
theorem dL_cell_19 : decode cL_cell 19 = .ok (.iload_n 1, 1) := by decide +kernel
theorem dL_cell_20 : decode cL_cell 20 = .ok (.bipush 11, 2) := by decide +kernel
theorem dL_cell_22 : decode cL_cell 22 = .ok (.iadd, 1) := by decide +kernel
theorem dL_cell_23 : decode cL_cell 23 = .ok (.imul, 1) := by decide +kernel
theorem dL_cell_24 : decode cL_cell 24 = .ok (.ireturn, 1) := by decide +kernel
theorem dL_low_0 : decode cL_low 0 = .ok (.iload_n 0, 1) := by decide +kernel
theorem dL_low_1 : decode cL_low 1 = .ok (.ldc 7, 2) := by decide +kernel
theorem dL_low_3 : decode cL_low 3 = .ok (.iand, 1) := by decide +kernel
theorem dL_low_4 : decode cL_low 4 = .ok (.iload_n 1, 1) := by decide +kernel
theorem dL_low_5 : decode cL_low 5 = .ok (.irem, 1) := by decide +kernel
theorem dL_low_6 : decode cL_low 6 = .ok (.ireturn, 1) := by decide +kernel
theorem dL_told_0 : decode cL_told 0 = .ok (.ldc2_w 8, 3) := by decide +kernel
theorem dL_told_3 : decode cL_told 3 = .ok (.lstore_n 1, 1) := by decide +kernel
theorem dL_told_4 : decode cL_told 4 = .ok (.iconst 0, 1) := by decide +kernel
theorem dL_told_5 : decode cL_told 5 = .ok (.istore_n 3, 1) := by decide +kernel
theorem dL_told_6 : decode cL_told 6 = .ok (.iload_n 3, 1) := by decide +kernel
theorem dL_told_7 : decode cL_told 7 = .ok (.bipush 9, 2) := by decide +kernel
theorem dL_told_9 : decode cL_told 9 = .ok (.if_icmp .ge 22, 3) := by decide +kernel
theorem dL_told_12 : decode cL_told 12 = .ok (.ldc2_w 10, 3) := by decide +kernel
theorem dL_told_15 : decode cL_told 15 = .ok (.lload_n 1, 1) := by decide +kernel
theorem dL_told_16 : decode cL_told 16 = .ok (.lmul, 1) := by decide +kernel
theorem dL_told_17 : decode cL_told 17 = .ok (.aload_n 0, 1) := by decide +kernel
theorem dL_told_18 : decode cL_told 18 = .ok (.iload_n 3, 1) := by decide +kernel
theorem dL_told_19 : decode cL_told 19 = .ok (.invokevirtual 12, 3) := by decide +kernel
theorem dL_told_22 : decode cL_told 22 = .ok (.i2l, 1) := by decide +kernel
theorem dL_told_23 : decode cL_told 23 = .ok (.ladd, 1) := by decide +kernel
theorem dL_told_24 : decode cL_told 24 = .ok (.lstore_n 1, 1) := by decide +kernel
theorem dL_told_25 : decode cL_told 25 = .ok (.iinc 3 1, 3) := by decide +kernel
theorem dL_told_28 : decode cL_told 28 = .ok (.goto (-22), 3) := by decide +kernel
theorem dL_told_31 : decode cL_told 31 = .ok (.iconst 0, 1) := by decide +kernel
theorem dL_told_32 : decode cL_told 32 = .ok (.istore_n 3, 1) := by decide +kernel
theorem dL_told_33 : decode cL_told 33 = .ok (.iload_n 3, 1) := by decide +kernel
theorem dL_told_34 : decode cL_told 34 = .ok (.aload_n 0, 1) := by decide +kernel
theorem dL_told_35 : decode cL_told 35 = .ok (.iconst 0, 1) := by decide +kernel
theorem dL_told_36 : decode cL_told 36 = .ok (.invokevirtual 12, 3) := by decide +kernel
theorem dL_told_39 : decode cL_told 39 = .ok (.if_icmp .ge 40, 3) := by decide +kernel
theorem dL_told_42 : decode cL_told 42 = .ok (.iconst 0, 1) := by decide +kernel
theorem dL_told_43 : decode cL_told 43 = .ok (.istore 4, 2) := by decide +kernel
theorem dL_told_45 : decode cL_told 45 = .ok (.iload 4, 2) := by decide +kernel
theorem dL_told_47 : decode cL_told 47 = .ok (.bipush 8, 2) := by decide +kernel
theorem dL_told_49 : decode cL_told 49 = .ok (.if_icmp .ge 24, 3) := by decide +kernel
theorem dL_told_52 : decode cL_told 52 = .ok (.ldc2_w 10, 3) := by decide +kernel
theorem dL_told_55 : decode cL_told 55 = .ok (.lload_n 1, 1) := by decide +kernel
theorem dL_told_56 : decode cL_told 56 = .ok (.lmul, 1) := by decide +kernel
theorem dL_told_57 : decode cL_told 57 = .ok (.aload_n 0, 1) := by decide +kernel
theorem dL_told_58 : decode cL_told 58 = .ok (.iload_n 3, 1) := by decide +kernel
theorem dL_told_59 : decode cL_told 59 = .ok (.iload 4, 2) := by decide +kernel
theorem dL_told_61 : decode cL_told 61 = .ok (.invokevirtual 18, 3) := by decide +kernel
theorem dL_told_64 : decode cL_told 64 = .ok (.i2l, 1) := by decide +kernel
theorem dL_told_65 : decode cL_told 65 = .ok (.ladd, 1) := by decide +kernel
theorem dL_told_66 : decode cL_told 66 = .ok (.lstore_n 1, 1) := by decide +kernel
theorem dL_told_67 : decode cL_told 67 = .ok (.iinc 4 1, 3) := by decide +kernel
theorem dL_told_70 : decode cL_told 70 = .ok (.goto (-25), 3) := by decide +kernel
theorem dL_told_73 : decode cL_told 73 = .ok (.iinc 3 1, 3) := by decide +kernel
theorem dL_told_76 : decode cL_told 76 = .ok (.goto (-43), 3) := by decide +kernel
theorem dL_told_79 : decode cL_told 79 = .ok (.iconst 0, 1) := by decide +kernel
theorem dL_told_80 : decode cL_told 80 = .ok (.istore_n 3, 1) := by decide +kernel
theorem dL_told_81 : decode cL_told 81 = .ok (.iload_n 3, 1) := by decide +kernel
theorem dL_told_82 : decode cL_told 82 = .ok (.bipush 16, 2) := by decide +kernel
theorem dL_told_84 : decode cL_told 84 = .ok (.if_icmp .ge 64, 3) := by decide +kernel
theorem dL_told_87 : decode cL_told 87 = .ok (.iconst 3, 1) := by decide +kernel
theorem dL_told_88 : decode cL_told 88 = .ok (.istore 4, 2) := by decide +kernel
theorem dL_told_90 : decode cL_told 90 = .ok (.iload 4, 2) := by decide +kernel
theorem dL_told_92 : decode cL_told 92 = .ok (.bipush 7, 2) := by decide +kernel
theorem dL_told_94 : decode cL_told 94 = .ok (.if_icmp .ge 29, 3) := by decide +kernel
theorem dL_told_97 : decode cL_told 97 = .ok (.ldc2_w 10, 3) := by decide +kernel
theorem dL_told_100 : decode cL_told 100 = .ok (.lload_n 1, 1) := by decide +kernel
theorem dL_told_101 : decode cL_told 101 = .ok (.lmul, 1) := by decide +kernel
theorem dL_told_102 : decode cL_told 102 = .ok (.aload_n 0, 1) := by decide +kernel
theorem dL_told_103 : decode cL_told 103 = .ok (.iload_n 3, 1) := by decide +kernel
theorem dL_told_104 : decode cL_told 104 = .ok (.iconst 4, 1) := by decide +kernel
theorem dL_told_105 : decode cL_told 105 = .ok (.idiv, 1) := by decide +kernel
theorem dL_told_106 : decode cL_told 106 = .ok (.iload_n 3, 1) := by decide +kernel
theorem dL_told_107 : decode cL_told 107 = .ok (.iconst 4, 1) := by decide +kernel
theorem dL_told_108 : decode cL_told 108 = .ok (.irem, 1) := by decide +kernel
theorem dL_told_109 : decode cL_told 109 = .ok (.iload 4, 2) := by decide +kernel
theorem dL_told_111 : decode cL_told 111 = .ok (.invokevirtual 22, 3) := by decide +kernel
theorem dL_told_114 : decode cL_told 114 = .ok (.i2l, 1) := by decide +kernel
theorem dL_told_115 : decode cL_told 115 = .ok (.ladd, 1) := by decide +kernel
theorem dL_told_116 : decode cL_told 116 = .ok (.lstore_n 1, 1) := by decide +kernel
theorem dL_told_117 : decode cL_told 117 = .ok (.iinc 4 1, 3) := by decide +kernel
theorem dL_told_120 : decode cL_told 120 = .ok (.goto (-30), 3) := by decide +kernel
theorem dL_told_123 : decode cL_told 123 = .ok (.ldc2_w 10, 3) := by decide +kernel
theorem dL_told_126 : decode cL_told 126 = .ok (.lload_n 1, 1) := by decide +kernel
theorem dL_told_127 : decode cL_told 127 = .ok (.lmul, 1) := by decide +kernel
theorem dL_told_128 : decode cL_told 128 = .ok (.aload_n 0, 1) := by decide +kernel
theorem dL_told_129 : decode cL_told 129 = .ok (.iload_n 3, 1) := by decide +kernel
theorem dL_told_130 : decode cL_told 130 = .ok (.iconst 4, 1) := by decide +kernel
theorem dL_told_131 : decode cL_told 131 = .ok (.idiv, 1) := by decide +kernel
theorem dL_told_132 : decode cL_told 132 = .ok (.iload_n 3, 1) := by decide +kernel
theorem dL_told_133 : decode cL_told 133 = .ok (.iconst 4, 1) := by decide +kernel
theorem dL_told_134 : decode cL_told 134 = .ok (.irem, 1) := by decide +kernel
theorem dL_told_135 : decode cL_told 135 = .ok (.iconst 1, 1) := by decide +kernel
theorem dL_told_136 : decode cL_told 136 = .ok (.invokevirtual 26, 3) := by decide +kernel
theorem dL_told_139 : decode cL_told 139 = .ok (.i2l, 1) := by decide +kernel
theorem dL_told_140 : decode cL_told 140 = .ok (.ladd, 1) := by decide +kernel
theorem dL_told_141 : decode cL_told 141 = .ok (.lstore_n 1, 1) := by decide +kernel
theorem dL_told_142 : decode cL_told 142 = .ok (.iinc 3 1, 3) := by decide +kernel
theorem dL_told_145 : decode cL_told 145 = .ok (.goto (-64), 3) := by decide +kernel
theorem dL_told_148 : decode cL_told 148 = .ok (.lload_n 1, 1) := by decide +kernel
theorem dL_told_149 : decode cL_told 149 = .ok (.lreturn, 1) := by decide +kernel
theorem dL_act_0 : decode cL_act 0 = .ok (.aload_n 0, 1) := by decide +kernel
theorem dL_act_1 : decode cL_act 1 = .ok (.iconst 0, 1) := by decide +kernel
theorem dL_act_2 : decode cL_act 2 = .ok (.invokevirtual 12, 3) := by decide +kernel
theorem dL_act_5 : decode cL_act 5 = .ok (.istore_n 3, 1) := by decide +kernel
theorem dL_act_6 : decode cL_act 6 = .ok (.iload_n 1, 1) := by decide +kernel
theorem dL_act_7 : decode cL_act 7 = .ok (.bipush 15, 2) := by decide +kernel
theorem dL_act_9 : decode cL_act 9 = .ok (.iand, 1) := by decide +kernel
theorem dL_act_10 : decode cL_act 10 = .ok (.tableswitch 178 0 8 #[50, 50, 106, 125, 125, 125, 133, 133, 133], 50) := by decide +kernel
theorem dL_act_60 : decode cL_act 60 = .ok (.iload_n 2, 1) := by decide +kernel
theorem dL_act_61 : decode cL_act 61 = .ok (.bipush 6, 2) := by decide +kernel
theorem dL_act_63 : decode cL_act 63 = .ok (.invokestatic 29, 3) := by decide +kernel
theorem dL_act_66 : decode cL_act 66 = .ok (.istore 4, 2) := by decide +kernel
theorem dL_act_68 : decode cL_act 68 = .ok (.aload_n 0, 1) := by decide +kernel
theorem dL_act_69 : decode cL_act 69 = .ok (.iload 4, 2) := by decide +kernel
theorem dL_act_71 : decode cL_act 71 = .ok (.iload 4, 2) := by decide +kernel
theorem dL_act_73 : decode cL_act 73 = .ok (.iconst 3, 1) := by decide +kernel
theorem dL_act_74 : decode cL_act 74 = .ok (.if_icmp .ne 17, 3) := by decide +kernel
theorem dL_act_77 : decode cL_act 77 = .ok (.iconst 1, 1) := by decide +kernel
theorem dL_act_78 : decode cL_act 78 = .ok (.iload_n 2, 1) := by decide +kernel
theorem dL_act_79 : decode cL_act 79 = .ok (.iconst 3, 1) := by decide +kernel
theorem dL_act_80 : decode cL_act 80 = .ok (.ishr, 1) := by decide +kernel
theorem dL_act_81 : decode cL_act 81 = .ok (.sipush 400, 3) := by decide +kernel
theorem dL_act_84 : decode cL_act 84 = .ok (.invokestatic 29, 3) := by decide +kernel
theorem dL_act_87 : decode cL_act 87 = .ok (.iadd, 1) := by decide +kernel
theorem dL_act_88 : decode cL_act 88 = .ok (.goto 24, 3) := by decide +kernel
theorem dL_act_91 : decode cL_act 91 = .ok (.iload_n 2, 1) := by decide +kernel
theorem dL_act_92 : decode cL_act 92 = .ok (.iconst 3, 1) := by decide +kernel
theorem dL_act_93 : decode cL_act 93 = .ok (.ishr, 1) := by decide +kernel
theorem dL_act_94 : decode cL_act 94 = .ok (.iload 4, 2) := by decide +kernel
theorem dL_act_96 : decode cL_act 96 = .ok (.iconst 3, 1) := by decide +kernel
theorem dL_act_97 : decode cL_act 97 = .ok (.if_icmp .le 9, 3) := by decide +kernel
theorem dL_act_100 : decode cL_act 100 = .ok (.sipush 3000, 3) := by decide +kernel
theorem dL_act_103 : decode cL_act 103 = .ok (.goto 6, 3) := by decide +kernel
theorem dL_act_106 : decode cL_act 106 = .ok (.sipush 700, 3) := by decide +kernel
theorem dL_act_109 : decode cL_act 109 = .ok (.invokestatic 29, 3) := by decide +kernel
theorem dL_act_112 : decode cL_act 112 = .ok (.invokevirtual 34, 3) := by decide +kernel
theorem dL_act_115 : decode cL_act 115 = .ok (.ireturn, 1) := by decide +kernel
theorem dL_act_116 : decode cL_act 116 = .ok (.iload_n 3, 1) := by decide +kernel
theorem dL_act_117 : decode cL_act 117 = .ok (.ifCond .ne 8, 3) := by decide +kernel
theorem dL_act_120 : decode cL_act 120 = .ok (.bipush (-9), 2) := by decide +kernel
theorem dL_act_122 : decode cL_act 122 = .ok (.goto 12, 3) := by decide +kernel
theorem dL_act_125 : decode cL_act 125 = .ok (.aload_n 0, 1) := by decide +kernel
theorem dL_act_126 : decode cL_act 126 = .ok (.iload_n 2, 1) := by decide +kernel
theorem dL_act_127 : decode cL_act 127 = .ok (.iload_n 3, 1) := by decide +kernel
theorem dL_act_128 : decode cL_act 128 = .ok (.invokestatic 29, 3) := by decide +kernel
theorem dL_act_131 : decode cL_act 131 = .ok (.invokevirtual 37, 3) := by decide +kernel
theorem dL_act_134 : decode cL_act 134 = .ok (.ireturn, 1) := by decide +kernel
theorem dL_act_135 : decode cL_act 135 = .ok (.aload_n 0, 1) := by decide +kernel
theorem dL_act_136 : decode cL_act 136 = .ok (.iload_n 2, 1) := by decide +kernel
theorem dL_act_137 : decode cL_act 137 = .ok (.iconst 3, 1) := by decide +kernel
theorem dL_act_138 : decode cL_act 138 = .ok (.iand, 1) := by decide +kernel
theorem dL_act_139 : decode cL_act 139 = .ok (.invokevirtual 40, 3) := by decide +kernel
theorem dL_act_142 : decode cL_act 142 = .ok (.ireturn, 1) := by decide +kernel
theorem dL_act_143 : decode cL_act 143 = .ok (.aload_n 0, 1) := by decide +kernel
theorem dL_act_144 : decode cL_act 144 = .ok (.iload_n 1, 1) := by decide +kernel
theorem dL_act_145 : decode cL_act 145 = .ok (.iconst 4, 1) := by decide +kernel
theorem dL_act_146 : decode cL_act 146 = .ok (.ishr, 1) := by decide +kernel
theorem dL_act_147 : decode cL_act 147 = .ok (.iload_n 3, 1) := by decide +kernel
theorem dL_act_148 : decode cL_act 148 = .ok (.iconst 1, 1) := by decide +kernel
theorem dL_act_149 : decode cL_act 149 = .ok (.iadd, 1) := by decide +kernel
theorem dL_act_150 : decode cL_act 150 = .ok (.invokestatic 29, 3) := by decide +kernel
theorem dL_act_153 : decode cL_act 153 = .ok (.iload_n 2, 1) := by decide +kernel
theorem dL_act_154 : decode cL_act 154 = .ok (.iload_n 2, 1) := by decide +kernel
theorem dL_act_155 : decode cL_act 155 = .ok (.bipush 20, 2) := by decide +kernel
theorem dL_act_157 : decode cL_act 157 = .ok (.ishr, 1) := by decide +kernel
theorem dL_act_158 : decode cL_act 158 = .ok (.iconst 1, 1) := by decide +kernel
theorem dL_act_159 : decode cL_act 159 = .ok (.iand, 1) := by decide +kernel
theorem dL_act_160 : decode cL_act 160 = .ok (.ifCond .ne 9, 3) := by decide +kernel
theorem dL_act_163 : decode cL_act 163 = .ok (.sipush 200, 3) := by decide +kernel
theorem dL_act_166 : decode cL_act 166 = .ok (.goto 6, 3) := by decide +kernel
theorem dL_act_169 : decode cL_act 169 = .ok (.sipush 1440, 3) := by decide +kernel
theorem dL_act_172 : decode cL_act 172 = .ok (.invokestatic 29, 3) := by decide +kernel
theorem dL_act_175 : decode cL_act 175 = .ok (.iload_n 2, 1) := by decide +kernel
theorem dL_act_176 : decode cL_act 176 = .ok (.bipush 11, 2) := by decide +kernel
theorem dL_act_178 : decode cL_act 178 = .ok (.ishr, 1) := by decide +kernel
theorem dL_act_179 : decode cL_act 179 = .ok (.bipush 10, 2) := by decide +kernel
theorem dL_act_181 : decode cL_act 181 = .ok (.invokestatic 29, 3) := by decide +kernel
theorem dL_act_184 : decode cL_act 184 = .ok (.invokevirtual 43, 3) := by decide +kernel
theorem dL_act_187 : decode cL_act 187 = .ok (.ireturn, 1) := by decide +kernel
theorem dL_act_188 : decode cL_act 188 = .ok (.iload_n 3, 1) := by decide +kernel
theorem dL_act_189 : decode cL_act 189 = .ok (.bipush 24, 2) := by decide +kernel
theorem dL_act_191 : decode cL_act 191 = .ok (.if_icmp .ne 8, 3) := by decide +kernel
theorem dL_act_194 : decode cL_act 194 = .ok (.bipush (-9), 2) := by decide +kernel
theorem dL_act_196 : decode cL_act 196 = .ok (.goto 81, 3) := by decide +kernel
theorem dL_act_199 : decode cL_act 199 = .ok (.aload_n 0, 1) := by decide +kernel
theorem dL_act_200 : decode cL_act 200 = .ok (.iload_n 1, 1) := by decide +kernel
theorem dL_act_201 : decode cL_act 201 = .ok (.iconst 4, 1) := by decide +kernel
theorem dL_act_202 : decode cL_act 202 = .ok (.ishr, 1) := by decide +kernel
theorem dL_act_203 : decode cL_act 203 = .ok (.iconst 4, 1) := by decide +kernel
theorem dL_act_204 : decode cL_act 204 = .ok (.invokestatic 29, 3) := by decide +kernel
theorem dL_act_207 : decode cL_act 207 = .ok (.iload_n 1, 1) := by decide +kernel
theorem dL_act_208 : decode cL_act 208 = .ok (.bipush 6, 2) := by decide +kernel
theorem dL_act_210 : decode cL_act 210 = .ok (.ishr, 1) := by decide +kernel
theorem dL_act_211 : decode cL_act 211 = .ok (.iload_n 1, 1) := by decide +kernel
theorem dL_act_212 : decode cL_act 212 = .ok (.bipush 20, 2) := by decide +kernel
theorem dL_act_214 : decode cL_act 214 = .ok (.ishr, 1) := by decide +kernel
theorem dL_act_215 : decode cL_act 215 = .ok (.iconst 1, 1) := by decide +kernel
theorem dL_act_216 : decode cL_act 216 = .ok (.iand, 1) := by decide +kernel
theorem dL_act_217 : decode cL_act 217 = .ok (.ifCond .ne 7, 3) := by decide +kernel
theorem dL_act_220 : decode cL_act 220 = .ok (.iconst 2, 1) := by decide +kernel
theorem dL_act_221 : decode cL_act 221 = .ok (.goto 5, 3) := by decide +kernel
theorem dL_act_224 : decode cL_act 224 = .ok (.bipush 28, 2) := by decide +kernel
theorem dL_act_226 : decode cL_act 226 = .ok (.invokestatic 29, 3) := by decide +kernel
theorem dL_act_229 : decode cL_act 229 = .ok (.iload_n 2, 1) := by decide +kernel
theorem dL_act_230 : decode cL_act 230 = .ok (.iload_n 2, 1) := by decide +kernel
theorem dL_act_231 : decode cL_act 231 = .ok (.bipush 20, 2) := by decide +kernel
theorem dL_act_233 : decode cL_act 233 = .ok (.ishr, 1) := by decide +kernel
theorem dL_act_234 : decode cL_act 234 = .ok (.iconst 1, 1) := by decide +kernel
theorem dL_act_235 : decode cL_act 235 = .ok (.iand, 1) := by decide +kernel
theorem dL_act_236 : decode cL_act 236 = .ok (.ifCond .ne 9, 3) := by decide +kernel
theorem dL_act_239 : decode cL_act 239 = .ok (.sipush 200, 3) := by decide +kernel
theorem dL_act_242 : decode cL_act 242 = .ok (.goto 6, 3) := by decide +kernel
theorem dL_act_245 : decode cL_act 245 = .ok (.sipush 1440, 3) := by decide +kernel
theorem dL_act_248 : decode cL_act 248 = .ok (.invokestatic 29, 3) := by decide +kernel
theorem dL_act_251 : decode cL_act 251 = .ok (.iload_n 2, 1) := by decide +kernel
theorem dL_act_252 : decode cL_act 252 = .ok (.bipush 11, 2) := by decide +kernel
theorem dL_act_254 : decode cL_act 254 = .ok (.ishr, 1) := by decide +kernel
theorem dL_act_255 : decode cL_act 255 = .ok (.bipush 10, 2) := by decide +kernel
theorem dL_act_257 : decode cL_act 257 = .ok (.invokestatic 29, 3) := by decide +kernel
theorem dL_act_260 : decode cL_act 260 = .ok (.iload_n 2, 1) := by decide +kernel
theorem dL_act_261 : decode cL_act 261 = .ok (.bipush 15, 2) := by decide +kernel
theorem dL_act_263 : decode cL_act 263 = .ok (.ishr, 1) := by decide +kernel
theorem dL_act_264 : decode cL_act 264 = .ok (.iconst 1, 1) := by decide +kernel
theorem dL_act_265 : decode cL_act 265 = .ok (.iand, 1) := by decide +kernel
theorem dL_act_266 : decode cL_act 266 = .ok (.ifCond .ne 7, 3) := by decide +kernel
theorem dL_act_269 : decode cL_act 269 = .ok (.iconst 1, 1) := by decide +kernel
theorem dL_act_270 : decode cL_act 270 = .ok (.goto 4, 3) := by decide +kernel
theorem dL_act_273 : decode cL_act 273 = .ok (.iconst 0, 1) := by decide +kernel
theorem dL_act_274 : decode cL_act 274 = .ok (.invokevirtual 46, 3) := by decide +kernel
theorem dL_act_277 : decode cL_act 277 = .ok (.ireturn, 1) := by decide +kernel
theorem dL_now_0 : decode cL_now 0 = .ok (.aload_n 0, 1) := by decide +kernel
theorem dL_now_1 : decode cL_now 1 = .ok (.iload_n 1, 1) := by decide +kernel
theorem dL_now_2 : decode cL_now 2 = .ok (.iconst 1, 1) := by decide +kernel
theorem dL_now_3 : decode cL_now 3 = .ok (.invokevirtual 34, 3) := by decide +kernel
theorem dL_now_6 : decode cL_now 6 = .ok (.istore_n 2, 1) := by decide +kernel
theorem dL_now_7 : decode cL_now 7 = .ok (.aload_n 0, 1) := by decide +kernel
theorem dL_now_8 : decode cL_now 8 = .ok (.invokevirtual 50, 3) := by decide +kernel
theorem dL_now_11 : decode cL_now 11 = .ok (.pop, 1) := by decide +kernel
theorem dL_now_12 : decode cL_now 12 = .ok (.iload_n 2, 1) := by decide +kernel
theorem dL_now_13 : decode cL_now 13 = .ok (.ireturn, 1) := by decide +kernel
theorem dL_holds_0 : decode cL_holds 0 = .ok (.aload_n 0, 1) := by decide +kernel
theorem dL_holds_1 : decode cL_holds 1 = .ok (.iconst 2, 1) := by decide +kernel
theorem dL_holds_2 : decode cL_holds 2 = .ok (.invokestatic 54, 3) := by decide +kernel
theorem dL_holds_5 : decode cL_holds 5 = .ok (.istore_n 1, 1) := by decide +kernel
theorem dL_holds_6 : decode cL_holds 6 = .ok (.aload_n 0, 1) := by decide +kernel
theorem dL_holds_7 : decode cL_holds 7 = .ok (.iconst 4, 1) := by decide +kernel
theorem dL_holds_8 : decode cL_holds 8 = .ok (.invokestatic 54, 3) := by decide +kernel
theorem dL_holds_11 : decode cL_holds 11 = .ok (.istore_n 2, 1) := by decide +kernel
theorem dL_holds_12 : decode cL_holds 12 = .ok (.aload_n 0, 1) := by decide +kernel
theorem dL_holds_13 : decode cL_holds 13 = .ok (.iconst 5, 1) := by decide +kernel
theorem dL_holds_14 : decode cL_holds 14 = .ok (.invokestatic 54, 3) := by decide +kernel
theorem dL_holds_17 : decode cL_holds 17 = .ok (.istore_n 3, 1) := by decide +kernel
theorem dL_holds_18 : decode cL_holds 18 = .ok (.aload_n 0, 1) := by decide +kernel
theorem dL_holds_19 : decode cL_holds 19 = .ok (.iconst 0, 1) := by decide +kernel
theorem dL_holds_20 : decode cL_holds 20 = .ok (.invokevirtual 12, 3) := by decide +kernel
theorem dL_holds_23 : decode cL_holds 23 = .ok (.istore 4, 2) := by decide +kernel
theorem dL_holds_25 : decode cL_holds 25 = .ok (.iconst 0, 1) := by decide +kernel
theorem dL_holds_26 : decode cL_holds 26 = .ok (.istore 5, 2) := by decide +kernel
theorem dL_holds_28 : decode cL_holds 28 = .ok (.iconst 0, 1) := by decide +kernel
theorem dL_holds_29 : decode cL_holds 29 = .ok (.istore 6, 2) := by decide +kernel
theorem dL_holds_31 : decode cL_holds 31 = .ok (.iconst 0, 1) := by decide +kernel
theorem dL_holds_32 : decode cL_holds 32 = .ok (.istore 7, 2) := by decide +kernel
theorem dL_holds_34 : decode cL_holds 34 = .ok (.iconst 0, 1) := by decide +kernel
theorem dL_holds_35 : decode cL_holds 35 = .ok (.istore 8, 2) := by decide +kernel
theorem dL_holds_37 : decode cL_holds 37 = .ok (.iload 8, 2) := by decide +kernel
theorem dL_holds_39 : decode cL_holds 39 = .ok (.iload 4, 2) := by decide +kernel
theorem dL_holds_41 : decode cL_holds 41 = .ok (.if_icmp .ge 190, 3) := by decide +kernel
theorem dL_holds_44 : decode cL_holds 44 = .ok (.sipush 1440, 3) := by decide +kernel
theorem dL_holds_47 : decode cL_holds 47 = .ok (.aload_n 0, 1) := by decide +kernel
theorem dL_holds_48 : decode cL_holds 48 = .ok (.iload 8, 2) := by decide +kernel
theorem dL_holds_50 : decode cL_holds 50 = .ok (.iconst 1, 1) := by decide +kernel
theorem dL_holds_51 : decode cL_holds 51 = .ok (.invokevirtual 18, 3) := by decide +kernel
theorem dL_holds_54 : decode cL_holds 54 = .ok (.imul, 1) := by decide +kernel
theorem dL_holds_55 : decode cL_holds 55 = .ok (.aload_n 0, 1) := by decide +kernel
theorem dL_holds_56 : decode cL_holds 56 = .ok (.iload 8, 2) := by decide +kernel
theorem dL_holds_58 : decode cL_holds 58 = .ok (.iconst 2, 1) := by decide +kernel
theorem dL_holds_59 : decode cL_holds 59 = .ok (.invokevirtual 18, 3) := by decide +kernel
theorem dL_holds_62 : decode cL_holds 62 = .ok (.iadd, 1) := by decide +kernel
theorem dL_holds_63 : decode cL_holds 63 = .ok (.istore 9, 2) := by decide +kernel
theorem dL_holds_65 : decode cL_holds 65 = .ok (.aload_n 0, 1) := by decide +kernel
theorem dL_holds_66 : decode cL_holds 66 = .ok (.iload 8, 2) := by decide +kernel
theorem dL_holds_68 : decode cL_holds 68 = .ok (.iconst 5, 1) := by decide +kernel
theorem dL_holds_69 : decode cL_holds 69 = .ok (.invokevirtual 18, 3) := by decide +kernel
theorem dL_holds_72 : decode cL_holds 72 = .ok (.istore 10, 2) := by decide +kernel
theorem dL_holds_74 : decode cL_holds 74 = .ok (.iload 6, 2) := by decide +kernel
theorem dL_holds_76 : decode cL_holds 76 = .ok (.iload 10, 2) := by decide +kernel
theorem dL_holds_78 : decode cL_holds 78 = .ok (.ifCond .ge 7, 3) := by decide +kernel
theorem dL_holds_81 : decode cL_holds 81 = .ok (.iconst 1, 1) := by decide +kernel
theorem dL_holds_82 : decode cL_holds 82 = .ok (.goto 4, 3) := by decide +kernel
theorem dL_holds_85 : decode cL_holds 85 = .ok (.iconst 0, 1) := by decide +kernel
theorem dL_holds_86 : decode cL_holds 86 = .ok (.iadd, 1) := by decide +kernel
theorem dL_holds_87 : decode cL_holds 87 = .ok (.istore 6, 2) := by decide +kernel
theorem dL_holds_89 : decode cL_holds 89 = .ok (.iload 7, 2) := by decide +kernel
theorem dL_holds_91 : decode cL_holds 91 = .ok (.iload 10, 2) := by decide +kernel
theorem dL_holds_93 : decode cL_holds 93 = .ok (.iload 8, 2) := by decide +kernel
theorem dL_holds_95 : decode cL_holds 95 = .ok (.if_icmp .le 7, 3) := by decide +kernel
theorem dL_holds_98 : decode cL_holds 98 = .ok (.iconst 1, 1) := by decide +kernel
theorem dL_holds_99 : decode cL_holds 99 = .ok (.goto 4, 3) := by decide +kernel
theorem dL_holds_102 : decode cL_holds 102 = .ok (.iconst 0, 1) := by decide +kernel
theorem dL_holds_103 : decode cL_holds 103 = .ok (.iadd, 1) := by decide +kernel
theorem dL_holds_104 : decode cL_holds 104 = .ok (.istore 7, 2) := by decide +kernel
theorem dL_holds_106 : decode cL_holds 106 = .ok (.iload 9, 2) := by decide +kernel
theorem dL_holds_108 : decode cL_holds 108 = .ok (.iload 5, 2) := by decide +kernel
theorem dL_holds_110 : decode cL_holds 110 = .ok (.if_icmp .lt 20, 3) := by decide +kernel
theorem dL_holds_113 : decode cL_holds 113 = .ok (.iload 10, 2) := by decide +kernel
theorem dL_holds_115 : decode cL_holds 115 = .ok (.ifCond .ge 17, 3) := by decide +kernel
theorem dL_holds_118 : decode cL_holds 118 = .ok (.aload_n 0, 1) := by decide +kernel
theorem dL_holds_119 : decode cL_holds 119 = .ok (.iload 8, 2) := by decide +kernel
theorem dL_holds_121 : decode cL_holds 121 = .ok (.bipush 6, 2) := by decide +kernel
theorem dL_holds_123 : decode cL_holds 123 = .ok (.invokevirtual 18, 3) := by decide +kernel
theorem dL_holds_126 : decode cL_holds 126 = .ok (.iload_n 1, 1) := by decide +kernel
theorem dL_holds_127 : decode cL_holds 127 = .ok (.if_icmp .eq 5, 3) := by decide +kernel
theorem dL_holds_130 : decode cL_holds 130 = .ok (.iconst 0, 1) := by decide +kernel
theorem dL_holds_131 : decode cL_holds 131 = .ok (.ireturn, 1) := by decide +kernel
theorem dL_holds_132 : decode cL_holds 132 = .ok (.iload 10, 2) := by decide +kernel
theorem dL_holds_134 : decode cL_holds 134 = .ok (.ifCond .lt 87, 3) := by decide +kernel
theorem dL_holds_137 : decode cL_holds 137 = .ok (.aload_n 0, 1) := by decide +kernel
theorem dL_holds_138 : decode cL_holds 138 = .ok (.iload 10, 2) := by decide +kernel
theorem dL_holds_140 : decode cL_holds 140 = .ok (.iconst 5, 1) := by decide +kernel
theorem dL_holds_141 : decode cL_holds 141 = .ok (.invokevirtual 18, 3) := by decide +kernel
theorem dL_holds_144 : decode cL_holds 144 = .ok (.iload 8, 2) := by decide +kernel
theorem dL_holds_146 : decode cL_holds 146 = .ok (.if_icmp .ne 73, 3) := by decide +kernel
theorem dL_holds_149 : decode cL_holds 149 = .ok (.aload_n 0, 1) := by decide +kernel
theorem dL_holds_150 : decode cL_holds 150 = .ok (.iload 10, 2) := by decide +kernel
theorem dL_holds_152 : decode cL_holds 152 = .ok (.iconst 0, 1) := by decide +kernel
theorem dL_holds_153 : decode cL_holds 153 = .ok (.invokevirtual 18, 3) := by decide +kernel
theorem dL_holds_156 : decode cL_holds 156 = .ok (.aload_n 0, 1) := by decide +kernel
theorem dL_holds_157 : decode cL_holds 157 = .ok (.iload 8, 2) := by decide +kernel
theorem dL_holds_159 : decode cL_holds 159 = .ok (.iconst 0, 1) := by decide +kernel
theorem dL_holds_160 : decode cL_holds 160 = .ok (.invokevirtual 18, 3) := by decide +kernel
theorem dL_holds_163 : decode cL_holds 163 = .ok (.if_icmp .ne 56, 3) := by decide +kernel
theorem dL_holds_166 : decode cL_holds 166 = .ok (.aload_n 0, 1) := by decide +kernel
theorem dL_holds_167 : decode cL_holds 167 = .ok (.iload 10, 2) := by decide +kernel
theorem dL_holds_169 : decode cL_holds 169 = .ok (.iconst 1, 1) := by decide +kernel
theorem dL_holds_170 : decode cL_holds 170 = .ok (.invokevirtual 18, 3) := by decide +kernel
theorem dL_holds_173 : decode cL_holds 173 = .ok (.aload_n 0, 1) := by decide +kernel
theorem dL_holds_174 : decode cL_holds 174 = .ok (.iload 8, 2) := by decide +kernel
theorem dL_holds_176 : decode cL_holds 176 = .ok (.iconst 1, 1) := by decide +kernel
theorem dL_holds_177 : decode cL_holds 177 = .ok (.invokevirtual 18, 3) := by decide +kernel
theorem dL_holds_180 : decode cL_holds 180 = .ok (.if_icmp .ne 39, 3) := by decide +kernel
theorem dL_holds_183 : decode cL_holds 183 = .ok (.aload_n 0, 1) := by decide +kernel
theorem dL_holds_184 : decode cL_holds 184 = .ok (.iload 10, 2) := by decide +kernel
theorem dL_holds_186 : decode cL_holds 186 = .ok (.iconst 4, 1) := by decide +kernel
theorem dL_holds_187 : decode cL_holds 187 = .ok (.invokevirtual 18, 3) := by decide +kernel
theorem dL_holds_190 : decode cL_holds 190 = .ok (.aload_n 0, 1) := by decide +kernel
theorem dL_holds_191 : decode cL_holds 191 = .ok (.iload 8, 2) := by decide +kernel
theorem dL_holds_193 : decode cL_holds 193 = .ok (.iconst 4, 1) := by decide +kernel
theorem dL_holds_194 : decode cL_holds 194 = .ok (.invokevirtual 18, 3) := by decide +kernel
theorem dL_holds_197 : decode cL_holds 197 = .ok (.if_icmp .eq 22, 3) := by decide +kernel
theorem dL_holds_200 : decode cL_holds 200 = .ok (.aload_n 0, 1) := by decide +kernel
theorem dL_holds_201 : decode cL_holds 201 = .ok (.iload 10, 2) := by decide +kernel
theorem dL_holds_203 : decode cL_holds 203 = .ok (.bipush 6, 2) := by decide +kernel
theorem dL_holds_205 : decode cL_holds 205 = .ok (.invokevirtual 18, 3) := by decide +kernel
theorem dL_holds_208 : decode cL_holds 208 = .ok (.aload_n 0, 1) := by decide +kernel
theorem dL_holds_209 : decode cL_holds 209 = .ok (.iload 8, 2) := by decide +kernel
theorem dL_holds_211 : decode cL_holds 211 = .ok (.bipush 6, 2) := by decide +kernel
theorem dL_holds_213 : decode cL_holds 213 = .ok (.invokevirtual 18, 3) := by decide +kernel
theorem dL_holds_216 : decode cL_holds 216 = .ok (.if_icmp .eq 5, 3) := by decide +kernel
theorem dL_holds_219 : decode cL_holds 219 = .ok (.iconst 0, 1) := by decide +kernel
theorem dL_holds_220 : decode cL_holds 220 = .ok (.ireturn, 1) := by decide +kernel
theorem dL_holds_221 : decode cL_holds 221 = .ok (.iload 9, 2) := by decide +kernel
theorem dL_holds_223 : decode cL_holds 223 = .ok (.istore 5, 2) := by decide +kernel
theorem dL_holds_225 : decode cL_holds 225 = .ok (.iinc 8 1, 3) := by decide +kernel
theorem dL_holds_228 : decode cL_holds 228 = .ok (.goto (-191), 3) := by decide +kernel
theorem dL_holds_231 : decode cL_holds 231 = .ok (.iconst 0, 1) := by decide +kernel
theorem dL_holds_232 : decode cL_holds 232 = .ok (.istore 8, 2) := by decide +kernel
theorem dL_holds_234 : decode cL_holds 234 = .ok (.iconst 0, 1) := by decide +kernel
theorem dL_holds_235 : decode cL_holds 235 = .ok (.istore 9, 2) := by decide +kernel
theorem dL_holds_237 : decode cL_holds 237 = .ok (.iconst 0, 1) := by decide +kernel
theorem dL_holds_238 : decode cL_holds 238 = .ok (.istore 10, 2) := by decide +kernel
theorem dL_holds_240 : decode cL_holds 240 = .ok (.iconst 0, 1) := by decide +kernel
theorem dL_holds_241 : decode cL_holds 241 = .ok (.istore 11, 2) := by decide +kernel
theorem dL_holds_243 : decode cL_holds 243 = .ok (.iload 11, 2) := by decide +kernel
theorem dL_holds_245 : decode cL_holds 245 = .ok (.bipush 16, 2) := by decide +kernel
theorem dL_holds_247 : decode cL_holds 247 = .ok (.if_icmp .ge 205, 3) := by decide +kernel
theorem dL_holds_250 : decode cL_holds 250 = .ok (.iload 11, 2) := by decide +kernel
theorem dL_holds_252 : decode cL_holds 252 = .ok (.iconst 4, 1) := by decide +kernel
theorem dL_holds_253 : decode cL_holds 253 = .ok (.idiv, 1) := by decide +kernel
theorem dL_holds_254 : decode cL_holds 254 = .ok (.istore 12, 2) := by decide +kernel
theorem dL_holds_256 : decode cL_holds 256 = .ok (.iload 11, 2) := by decide +kernel
theorem dL_holds_258 : decode cL_holds 258 = .ok (.iconst 4, 1) := by decide +kernel
theorem dL_holds_259 : decode cL_holds 259 = .ok (.irem, 1) := by decide +kernel
theorem dL_holds_260 : decode cL_holds 260 = .ok (.istore 13, 2) := by decide +kernel
theorem dL_holds_262 : decode cL_holds 262 = .ok (.iconst 0, 1) := by decide +kernel
theorem dL_holds_263 : decode cL_holds 263 = .ok (.istore 14, 2) := by decide +kernel
theorem dL_holds_265 : decode cL_holds 265 = .ok (.bipush 7, 2) := by decide +kernel
theorem dL_holds_267 : decode cL_holds 267 = .ok (.iload 13, 2) := by decide +kernel
theorem dL_holds_269 : decode cL_holds 269 = .ok (.imul, 1) := by decide +kernel
theorem dL_holds_270 : decode cL_holds 270 = .ok (.istore 15, 2) := by decide +kernel
theorem dL_holds_272 : decode cL_holds 272 = .ok (.iload 15, 2) := by decide +kernel
theorem dL_holds_274 : decode cL_holds 274 = .ok (.bipush 7, 2) := by decide +kernel
theorem dL_holds_276 : decode cL_holds 276 = .ok (.iload 13, 2) := by decide +kernel
theorem dL_holds_278 : decode cL_holds 278 = .ok (.imul, 1) := by decide +kernel
theorem dL_holds_279 : decode cL_holds 279 = .ok (.bipush 7, 2) := by decide +kernel
theorem dL_holds_281 : decode cL_holds 281 = .ok (.iadd, 1) := by decide +kernel
theorem dL_holds_282 : decode cL_holds 282 = .ok (.if_icmp .ge 49, 3) := by decide +kernel
theorem dL_holds_285 : decode cL_holds 285 = .ok (.aload_n 0, 1) := by decide +kernel
theorem dL_holds_286 : decode cL_holds 286 = .ok (.iload 12, 2) := by decide +kernel
theorem dL_holds_288 : decode cL_holds 288 = .ok (.iload 15, 2) := by decide +kernel
theorem dL_holds_290 : decode cL_holds 290 = .ok (.iconst 3, 1) := by decide +kernel
theorem dL_holds_291 : decode cL_holds 291 = .ok (.invokevirtual 58, 3) := by decide +kernel
theorem dL_holds_294 : decode cL_holds 294 = .ok (.istore 16, 2) := by decide +kernel
theorem dL_holds_296 : decode cL_holds 296 = .ok (.iload 14, 2) := by decide +kernel
theorem dL_holds_298 : decode cL_holds 298 = .ok (.iload 16, 2) := by decide +kernel
theorem dL_holds_300 : decode cL_holds 300 = .ok (.iadd, 1) := by decide +kernel
theorem dL_holds_301 : decode cL_holds 301 = .ok (.istore 14, 2) := by decide +kernel
theorem dL_holds_303 : decode cL_holds 303 = .ok (.iload 16, 2) := by decide +kernel
theorem dL_holds_305 : decode cL_holds 305 = .ok (.iload_n 2, 1) := by decide +kernel
theorem dL_holds_306 : decode cL_holds 306 = .ok (.if_icmp .gt 17, 3) := by decide +kernel
theorem dL_holds_309 : decode cL_holds 309 = .ok (.iload 16, 2) := by decide +kernel
theorem dL_holds_311 : decode cL_holds 311 = .ok (.aload_n 0, 1) := by decide +kernel
theorem dL_holds_312 : decode cL_holds 312 = .ok (.iload 12, 2) := by decide +kernel
theorem dL_holds_314 : decode cL_holds 314 = .ok (.iload 15, 2) := by decide +kernel
theorem dL_holds_316 : decode cL_holds 316 = .ok (.iconst 2, 1) := by decide +kernel
theorem dL_holds_317 : decode cL_holds 317 = .ok (.invokevirtual 58, 3) := by decide +kernel
theorem dL_holds_320 : decode cL_holds 320 = .ok (.if_icmp .le 5, 3) := by decide +kernel
theorem dL_holds_323 : decode cL_holds 323 = .ok (.iconst 0, 1) := by decide +kernel
theorem dL_holds_324 : decode cL_holds 324 = .ok (.ireturn, 1) := by decide +kernel
theorem dL_holds_325 : decode cL_holds 325 = .ok (.iinc 15 1, 3) := by decide +kernel
theorem dL_holds_328 : decode cL_holds 328 = .ok (.goto (-56), 3) := by decide +kernel
theorem dL_holds_331 : decode cL_holds 331 = .ok (.aload_n 0, 1) := by decide +kernel
theorem dL_holds_332 : decode cL_holds 332 = .ok (.iload 12, 2) := by decide +kernel
theorem dL_holds_334 : decode cL_holds 334 = .ok (.iload 13, 2) := by decide +kernel
theorem dL_holds_336 : decode cL_holds 336 = .ok (.iconst 3, 1) := by decide +kernel
theorem dL_holds_337 : decode cL_holds 337 = .ok (.invokevirtual 22, 3) := by decide +kernel
theorem dL_holds_340 : decode cL_holds 340 = .ok (.istore 15, 2) := by decide +kernel
theorem dL_holds_342 : decode cL_holds 342 = .ok (.iload 8, 2) := by decide +kernel
theorem dL_holds_344 : decode cL_holds 344 = .ok (.iload 15, 2) := by decide +kernel
theorem dL_holds_346 : decode cL_holds 346 = .ok (.iadd, 1) := by decide +kernel
theorem dL_holds_347 : decode cL_holds 347 = .ok (.istore 8, 2) := by decide +kernel
theorem dL_holds_349 : decode cL_holds 349 = .ok (.iload 9, 2) := by decide +kernel
theorem dL_holds_351 : decode cL_holds 351 = .ok (.aload_n 0, 1) := by decide +kernel
theorem dL_holds_352 : decode cL_holds 352 = .ok (.iload 12, 2) := by decide +kernel
theorem dL_holds_354 : decode cL_holds 354 = .ok (.iload 13, 2) := by decide +kernel
theorem dL_holds_356 : decode cL_holds 356 = .ok (.iconst 4, 1) := by decide +kernel
theorem dL_holds_357 : decode cL_holds 357 = .ok (.invokevirtual 22, 3) := by decide +kernel
theorem dL_holds_360 : decode cL_holds 360 = .ok (.iadd, 1) := by decide +kernel
theorem dL_holds_361 : decode cL_holds 361 = .ok (.istore 9, 2) := by decide +kernel
theorem dL_holds_363 : decode cL_holds 363 = .ok (.iload 10, 2) := by decide +kernel
theorem dL_holds_365 : decode cL_holds 365 = .ok (.aload_n 0, 1) := by decide +kernel
theorem dL_holds_366 : decode cL_holds 366 = .ok (.iload 12, 2) := by decide +kernel
theorem dL_holds_368 : decode cL_holds 368 = .ok (.iload 13, 2) := by decide +kernel
theorem dL_holds_370 : decode cL_holds 370 = .ok (.iconst 1, 1) := by decide +kernel
theorem dL_holds_371 : decode cL_holds 371 = .ok (.invokevirtual 22, 3) := by decide +kernel
theorem dL_holds_374 : decode cL_holds 374 = .ok (.iadd, 1) := by decide +kernel
theorem dL_holds_375 : decode cL_holds 375 = .ok (.istore 10, 2) := by decide +kernel
theorem dL_holds_377 : decode cL_holds 377 = .ok (.iload 15, 2) := by decide +kernel
theorem dL_holds_379 : decode cL_holds 379 = .ok (.iload_n 3, 1) := by decide +kernel
theorem dL_holds_380 : decode cL_holds 380 = .ok (.if_icmp .gt 64, 3) := by decide +kernel
theorem dL_holds_383 : decode cL_holds 383 = .ok (.iload 15, 2) := by decide +kernel
theorem dL_holds_385 : decode cL_holds 385 = .ok (.iload 14, 2) := by decide +kernel
theorem dL_holds_387 : decode cL_holds 387 = .ok (.if_icmp .gt 57, 3) := by decide +kernel
theorem dL_holds_390 : decode cL_holds 390 = .ok (.iload 14, 2) := by decide +kernel
theorem dL_holds_392 : decode cL_holds 392 = .ok (.aload_n 0, 1) := by decide +kernel
theorem dL_holds_393 : decode cL_holds 393 = .ok (.iload 12, 2) := by decide +kernel
theorem dL_holds_395 : decode cL_holds 395 = .ok (.iload 13, 2) := by decide +kernel
theorem dL_holds_397 : decode cL_holds 397 = .ok (.iconst 2, 1) := by decide +kernel
theorem dL_holds_398 : decode cL_holds 398 = .ok (.invokevirtual 22, 3) := by decide +kernel
theorem dL_holds_401 : decode cL_holds 401 = .ok (.if_icmp .ne 43, 3) := by decide +kernel
theorem dL_holds_404 : decode cL_holds 404 = .ok (.iload 14, 2) := by decide +kernel
theorem dL_holds_406 : decode cL_holds 406 = .ok (.aload_n 0, 1) := by decide +kernel
theorem dL_holds_407 : decode cL_holds 407 = .ok (.iload 12, 2) := by decide +kernel
theorem dL_holds_409 : decode cL_holds 409 = .ok (.iload 13, 2) := by decide +kernel
theorem dL_holds_411 : decode cL_holds 411 = .ok (.iconst 1, 1) := by decide +kernel
theorem dL_holds_412 : decode cL_holds 412 = .ok (.invokevirtual 22, 3) := by decide +kernel
theorem dL_holds_415 : decode cL_holds 415 = .ok (.if_icmp .gt 29, 3) := by decide +kernel
theorem dL_holds_418 : decode cL_holds 418 = .ok (.iload 15, 2) := by decide +kernel
theorem dL_holds_420 : decode cL_holds 420 = .ok (.iload 14, 2) := by decide +kernel
theorem dL_holds_422 : decode cL_holds 422 = .ok (.if_icmp .ge 9, 3) := by decide +kernel
theorem dL_holds_425 : decode cL_holds 425 = .ok (.iload 15, 2) := by decide +kernel
theorem dL_holds_427 : decode cL_holds 427 = .ok (.iload_n 3, 1) := by decide +kernel
theorem dL_holds_428 : decode cL_holds 428 = .ok (.if_icmp .ne 16, 3) := by decide +kernel
theorem dL_holds_431 : decode cL_holds 431 = .ok (.aload_n 0, 1) := by decide +kernel
theorem dL_holds_432 : decode cL_holds 432 = .ok (.iload 12, 2) := by decide +kernel
theorem dL_holds_434 : decode cL_holds 434 = .ok (.iload 13, 2) := by decide +kernel
theorem dL_holds_436 : decode cL_holds 436 = .ok (.iconst 5, 1) := by decide +kernel
theorem dL_holds_437 : decode cL_holds 437 = .ok (.invokevirtual 22, 3) := by decide +kernel
theorem dL_holds_440 : decode cL_holds 440 = .ok (.iconst 2, 1) := by decide +kernel
theorem dL_holds_441 : decode cL_holds 441 = .ok (.if_icmp .le 5, 3) := by decide +kernel
theorem dL_holds_444 : decode cL_holds 444 = .ok (.iconst 0, 1) := by decide +kernel
theorem dL_holds_445 : decode cL_holds 445 = .ok (.ireturn, 1) := by decide +kernel
theorem dL_holds_446 : decode cL_holds 446 = .ok (.iinc 11 1, 3) := by decide +kernel
theorem dL_holds_449 : decode cL_holds 449 = .ok (.goto (-206), 3) := by decide +kernel
theorem dL_holds_452 : decode cL_holds 452 = .ok (.aload_n 0, 1) := by decide +kernel
theorem dL_holds_453 : decode cL_holds 453 = .ok (.invokevirtual 61, 3) := by decide +kernel
theorem dL_holds_456 : decode cL_holds 456 = .ok (.dstore 11, 2) := by decide +kernel
theorem dL_holds_458 : decode cL_holds 458 = .ok (.iload 10, 2) := by decide +kernel
theorem dL_holds_460 : decode cL_holds 460 = .ok (.ifCond .ne 18, 3) := by decide +kernel
theorem dL_holds_463 : decode cL_holds 463 = .ok (.dload 11, 2) := by decide +kernel
theorem dL_holds_465 : decode cL_holds 465 = .ok (.dconst 1, 1) := by decide +kernel
theorem dL_holds_466 : decode cL_holds 466 = .ok (.dcmp .l, 1) := by decide +kernel
theorem dL_holds_467 : decode cL_holds 467 = .ok (.ifCond .ne 7, 3) := by decide +kernel
theorem dL_holds_470 : decode cL_holds 470 = .ok (.iconst 1, 1) := by decide +kernel
theorem dL_holds_471 : decode cL_holds 471 = .ok (.goto 39, 3) := by decide +kernel
theorem dL_holds_474 : decode cL_holds 474 = .ok (.iconst 0, 1) := by decide +kernel
theorem dL_holds_475 : decode cL_holds 475 = .ok (.goto 35, 3) := by decide +kernel
theorem dL_holds_478 : decode cL_holds 478 = .ok (.dload 11, 2) := by decide +kernel
theorem dL_holds_480 : decode cL_holds 480 = .ok (.iload 8, 2) := by decide +kernel
theorem dL_holds_482 : decode cL_holds 482 = .ok (.i2d, 1) := by decide +kernel
theorem dL_holds_483 : decode cL_holds 483 = .ok (.iload 10, 2) := by decide +kernel
theorem dL_holds_485 : decode cL_holds 485 = .ok (.i2d, 1) := by decide +kernel
theorem dL_holds_486 : decode cL_holds 486 = .ok (.ddiv, 1) := by decide +kernel
theorem dL_holds_487 : decode cL_holds 487 = .ok (.dcmp .l, 1) := by decide +kernel
theorem dL_holds_488 : decode cL_holds 488 = .ok (.ifCond .ne 21, 3) := by decide +kernel
theorem dL_holds_491 : decode cL_holds 491 = .ok (.dload 11, 2) := by decide +kernel
theorem dL_holds_493 : decode cL_holds 493 = .ok (.dconst 0, 1) := by decide +kernel
theorem dL_holds_494 : decode cL_holds 494 = .ok (.dcmp .l, 1) := by decide +kernel
theorem dL_holds_495 : decode cL_holds 495 = .ok (.ifCond .lt 14, 3) := by decide +kernel
theorem dL_holds_498 : decode cL_holds 498 = .ok (.dload 11, 2) := by decide +kernel
theorem dL_holds_500 : decode cL_holds 500 = .ok (.dconst 1, 1) := by decide +kernel
theorem dL_holds_501 : decode cL_holds 501 = .ok (.dcmp .g, 1) := by decide +kernel
theorem dL_holds_502 : decode cL_holds 502 = .ok (.ifCond .gt 7, 3) := by decide +kernel
theorem dL_holds_505 : decode cL_holds 505 = .ok (.iconst 1, 1) := by decide +kernel
theorem dL_holds_506 : decode cL_holds 506 = .ok (.goto 4, 3) := by decide +kernel
theorem dL_holds_509 : decode cL_holds 509 = .ok (.iconst 0, 1) := by decide +kernel
theorem dL_holds_510 : decode cL_holds 510 = .ok (.istore 13, 2) := by decide +kernel
theorem dL_holds_512 : decode cL_holds 512 = .ok (.iload 13, 2) := by decide +kernel
theorem dL_holds_514 : decode cL_holds 514 = .ok (.ifCond .eq 75, 3) := by decide +kernel
theorem dL_holds_517 : decode cL_holds 517 = .ok (.iload 6, 2) := by decide +kernel
theorem dL_holds_519 : decode cL_holds 519 = .ok (.aload_n 0, 1) := by decide +kernel
theorem dL_holds_520 : decode cL_holds 520 = .ok (.iconst 2, 1) := by decide +kernel
theorem dL_holds_521 : decode cL_holds 521 = .ok (.invokevirtual 12, 3) := by decide +kernel
theorem dL_holds_524 : decode cL_holds 524 = .ok (.if_icmp .ne 65, 3) := by decide +kernel
theorem dL_holds_527 : decode cL_holds 527 = .ok (.iload 6, 2) := by decide +kernel
theorem dL_holds_529 : decode cL_holds 529 = .ok (.iload 7, 2) := by decide +kernel
theorem dL_holds_531 : decode cL_holds 531 = .ok (.iadd, 1) := by decide +kernel
theorem dL_holds_532 : decode cL_holds 532 = .ok (.aload_n 0, 1) := by decide +kernel
theorem dL_holds_533 : decode cL_holds 533 = .ok (.iconst 1, 1) := by decide +kernel
theorem dL_holds_534 : decode cL_holds 534 = .ok (.invokevirtual 12, 3) := by decide +kernel
theorem dL_holds_537 : decode cL_holds 537 = .ok (.if_icmp .ne 52, 3) := by decide +kernel
theorem dL_holds_540 : decode cL_holds 540 = .ok (.iload 8, 2) := by decide +kernel
theorem dL_holds_542 : decode cL_holds 542 = .ok (.aload_n 0, 1) := by decide +kernel
theorem dL_holds_543 : decode cL_holds 543 = .ok (.iconst 3, 1) := by decide +kernel
theorem dL_holds_544 : decode cL_holds 544 = .ok (.invokevirtual 12, 3) := by decide +kernel
theorem dL_holds_547 : decode cL_holds 547 = .ok (.if_icmp .ne 42, 3) := by decide +kernel
theorem dL_holds_550 : decode cL_holds 550 = .ok (.iload 9, 2) := by decide +kernel
theorem dL_holds_552 : decode cL_holds 552 = .ok (.aload_n 0, 1) := by decide +kernel
theorem dL_holds_553 : decode cL_holds 553 = .ok (.iconst 4, 1) := by decide +kernel
theorem dL_holds_554 : decode cL_holds 554 = .ok (.invokevirtual 12, 3) := by decide +kernel
theorem dL_holds_557 : decode cL_holds 557 = .ok (.if_icmp .ne 32, 3) := by decide +kernel
theorem dL_holds_560 : decode cL_holds 560 = .ok (.aload_n 0, 1) := by decide +kernel
theorem dL_holds_561 : decode cL_holds 561 = .ok (.invokevirtual 65, 3) := by decide +kernel
theorem dL_holds_564 : decode cL_holds 564 = .ok (.ifCond .ge 7, 3) := by decide +kernel
theorem dL_holds_567 : decode cL_holds 567 = .ok (.iconst 1, 1) := by decide +kernel
theorem dL_holds_568 : decode cL_holds 568 = .ok (.goto 4, 3) := by decide +kernel
theorem dL_holds_571 : decode cL_holds 571 = .ok (.iconst 0, 1) := by decide +kernel
theorem dL_holds_572 : decode cL_holds 572 = .ok (.iload 6, 2) := by decide +kernel
theorem dL_holds_574 : decode cL_holds 574 = .ok (.ifCond .ne 7, 3) := by decide +kernel
theorem dL_holds_577 : decode cL_holds 577 = .ok (.iconst 1, 1) := by decide +kernel
theorem dL_holds_578 : decode cL_holds 578 = .ok (.goto 4, 3) := by decide +kernel
theorem dL_holds_581 : decode cL_holds 581 = .ok (.iconst 0, 1) := by decide +kernel
theorem dL_holds_582 : decode cL_holds 582 = .ok (.if_icmp .ne 7, 3) := by decide +kernel
theorem dL_holds_585 : decode cL_holds 585 = .ok (.iconst 1, 1) := by decide +kernel
theorem dL_holds_586 : decode cL_holds 586 = .ok (.goto 4, 3) := by decide +kernel
theorem dL_holds_589 : decode cL_holds 589 = .ok (.iconst 0, 1) := by decide +kernel
theorem dL_holds_590 : decode cL_holds 590 = .ok (.ireturn, 1) := by decide +kernel
theorem dL_law_0 : decode cL_law 0 = .ok (.new 13, 3) := by decide +kernel
theorem dL_law_3 : decode cL_law 3 = .ok (.dup, 1) := by decide +kernel
theorem dL_law_4 : decode cL_law 4 = .ok (.invokespecial 68, 3) := by decide +kernel
theorem dL_law_7 : decode cL_law 7 = .ok (.astore_n 1, 1) := by decide +kernel
theorem dL_law_8 : decode cL_law 8 = .ok (.iconst 0, 1) := by decide +kernel
theorem dL_law_9 : decode cL_law 9 = .ok (.istore_n 2, 1) := by decide +kernel
theorem dL_law_10 : decode cL_law 10 = .ok (.iload_n 2, 1) := by decide +kernel
theorem dL_law_11 : decode cL_law 11 = .ok (.bipush 24, 2) := by decide +kernel
theorem dL_law_13 : decode cL_law 13 = .ok (.if_icmp .ge 249, 3) := by decide +kernel
theorem dL_law_16 : decode cL_law 16 = .ok (.aload_n 0, 1) := by decide +kernel
theorem dL_law_17 : decode cL_law 17 = .ok (.iconst 2, 1) := by decide +kernel
theorem dL_law_18 : decode cL_law 18 = .ok (.iload_n 2, 1) := by decide +kernel
theorem dL_law_19 : decode cL_law 19 = .ok (.imul, 1) := by decide +kernel
theorem dL_law_20 : decode cL_law 20 = .ok (.invokestatic 69, 3) := by decide +kernel
theorem dL_law_23 : decode cL_law 23 = .ok (.istore_n 3, 1) := by decide +kernel
theorem dL_law_24 : decode cL_law 24 = .ok (.aload_n 0, 1) := by decide +kernel
theorem dL_law_25 : decode cL_law 25 = .ok (.iconst 2, 1) := by decide +kernel
theorem dL_law_26 : decode cL_law 26 = .ok (.iload_n 2, 1) := by decide +kernel
theorem dL_law_27 : decode cL_law 27 = .ok (.imul, 1) := by decide +kernel
theorem dL_law_28 : decode cL_law 28 = .ok (.iconst 1, 1) := by decide +kernel
theorem dL_law_29 : decode cL_law 29 = .ok (.iadd, 1) := by decide +kernel
theorem dL_law_30 : decode cL_law 30 = .ok (.invokestatic 69, 3) := by decide +kernel
theorem dL_law_33 : decode cL_law 33 = .ok (.istore 4, 2) := by decide +kernel
theorem dL_law_35 : decode cL_law 35 = .ok (.aload_n 1, 1) := by decide +kernel
theorem dL_law_36 : decode cL_law 36 = .ok (.bipush 9, 2) := by decide +kernel
theorem dL_law_38 : decode cL_law 38 = .ok (.invokevirtual 12, 3) := by decide +kernel
theorem dL_law_41 : decode cL_law 41 = .ok (.bipush 6, 2) := by decide +kernel
theorem dL_law_43 : decode cL_law 43 = .ok (.if_icmp .ne 13, 3) := by decide +kernel
theorem dL_law_46 : decode cL_law 46 = .ok (.aload_n 1, 1) := by decide +kernel
theorem dL_law_47 : decode cL_law 47 = .ok (.invokevirtual 50, 3) := by decide +kernel
theorem dL_law_50 : decode cL_law 50 = .ok (.pop, 1) := by decide +kernel
theorem dL_law_51 : decode cL_law 51 = .ok (.aload_n 1, 1) := by decide +kernel
theorem dL_law_52 : decode cL_law 52 = .ok (.invokevirtual 50, 3) := by decide +kernel
theorem dL_law_55 : decode cL_law 55 = .ok (.pop, 1) := by decide +kernel
theorem dL_law_56 : decode cL_law 56 = .ok (.aload_n 1, 1) := by decide +kernel
theorem dL_law_57 : decode cL_law 57 = .ok (.bipush 9, 2) := by decide +kernel
theorem dL_law_59 : decode cL_law 59 = .ok (.invokevirtual 12, 3) := by decide +kernel
theorem dL_law_62 : decode cL_law 62 = .ok (.istore 5, 2) := by decide +kernel
theorem dL_law_64 : decode cL_law 64 = .ok (.aload_n 1, 1) := by decide +kernel
theorem dL_law_65 : decode cL_law 65 = .ok (.invokestatic 73, 3) := by decide +kernel
theorem dL_law_68 : decode cL_law 68 = .ok (.lstore 6, 2) := by decide +kernel
theorem dL_law_70 : decode cL_law 70 = .ok (.aload_n 1, 1) := by decide +kernel
theorem dL_law_71 : decode cL_law 71 = .ok (.iconst 4, 1) := by decide +kernel
theorem dL_law_72 : decode cL_law 72 = .ok (.invokevirtual 12, 3) := by decide +kernel
theorem dL_law_75 : decode cL_law 75 = .ok (.istore 8, 2) := by decide +kernel
theorem dL_law_77 : decode cL_law 77 = .ok (.aload_n 1, 1) := by decide +kernel
theorem dL_law_78 : decode cL_law 78 = .ok (.iload_n 3, 1) := by decide +kernel
theorem dL_law_79 : decode cL_law 79 = .ok (.iload 4, 2) := by decide +kernel
theorem dL_law_81 : decode cL_law 81 = .ok (.invokestatic 77, 3) := by decide +kernel
theorem dL_law_84 : decode cL_law 84 = .ok (.istore 9, 2) := by decide +kernel
theorem dL_law_86 : decode cL_law 86 = .ok (.aload_n 1, 1) := by decide +kernel
theorem dL_law_87 : decode cL_law 87 = .ok (.invokestatic 73, 3) := by decide +kernel
theorem dL_law_90 : decode cL_law 90 = .ok (.lstore 10, 2) := by decide +kernel
theorem dL_law_92 : decode cL_law 92 = .ok (.iload 9, 2) := by decide +kernel
theorem dL_law_94 : decode cL_law 94 = .ok (.bipush (-9), 2) := by decide +kernel
theorem dL_law_96 : decode cL_law 96 = .ok (.if_icmp .ne 25, 3) := by decide +kernel
theorem dL_law_99 : decode cL_law 99 = .ok (.lload 10, 2) := by decide +kernel
theorem dL_law_101 : decode cL_law 101 = .ok (.lload 6, 2) := by decide +kernel
theorem dL_law_103 : decode cL_law 103 = .ok (.lcmp, 1) := by decide +kernel
theorem dL_law_104 : decode cL_law 104 = .ok (.ifCond .ne 30, 3) := by decide +kernel
theorem dL_law_107 : decode cL_law 107 = .ok (.aload_n 1, 1) := by decide +kernel
theorem dL_law_108 : decode cL_law 108 = .ok (.bipush 9, 2) := by decide +kernel
theorem dL_law_110 : decode cL_law 110 = .ok (.invokevirtual 12, 3) := by decide +kernel
theorem dL_law_113 : decode cL_law 113 = .ok (.iload 5, 2) := by decide +kernel
theorem dL_law_115 : decode cL_law 115 = .ok (.if_icmp .eq 21, 3) := by decide +kernel
theorem dL_law_118 : decode cL_law 118 = .ok (.goto 16, 3) := by decide +kernel
theorem dL_law_121 : decode cL_law 121 = .ok (.aload_n 1, 1) := by decide +kernel
theorem dL_law_122 : decode cL_law 122 = .ok (.bipush 9, 2) := by decide +kernel
theorem dL_law_124 : decode cL_law 124 = .ok (.invokevirtual 12, 3) := by decide +kernel
theorem dL_law_127 : decode cL_law 127 = .ok (.iload 5, 2) := by decide +kernel
theorem dL_law_129 : decode cL_law 129 = .ok (.iconst 1, 1) := by decide +kernel
theorem dL_law_130 : decode cL_law 130 = .ok (.iadd, 1) := by decide +kernel
theorem dL_law_131 : decode cL_law 131 = .ok (.if_icmp .eq 5, 3) := by decide +kernel
theorem dL_law_134 : decode cL_law 134 = .ok (.iconst 0, 1) := by decide +kernel
theorem dL_law_135 : decode cL_law 135 = .ok (.ireturn, 1) := by decide +kernel
theorem dL_law_136 : decode cL_law 136 = .ok (.iload_n 3, 1) := by decide +kernel
theorem dL_law_137 : decode cL_law 137 = .ok (.bipush 15, 2) := by decide +kernel
theorem dL_law_139 : decode cL_law 139 = .ok (.iand, 1) := by decide +kernel
theorem dL_law_140 : decode cL_law 140 = .ok (.iconst 2, 1) := by decide +kernel
theorem dL_law_141 : decode cL_law 141 = .ok (.if_icmp .le 30, 3) := by decide +kernel
theorem dL_law_144 : decode cL_law 144 = .ok (.iload_n 3, 1) := by decide +kernel
theorem dL_law_145 : decode cL_law 145 = .ok (.bipush 15, 2) := by decide +kernel
theorem dL_law_147 : decode cL_law 147 = .ok (.iand, 1) := by decide +kernel
theorem dL_law_148 : decode cL_law 148 = .ok (.bipush 6, 2) := by decide +kernel
theorem dL_law_150 : decode cL_law 150 = .ok (.if_icmp .ge 21, 3) := by decide +kernel
theorem dL_law_153 : decode cL_law 153 = .ok (.aload_n 1, 1) := by decide +kernel
theorem dL_law_154 : decode cL_law 154 = .ok (.iconst 4, 1) := by decide +kernel
theorem dL_law_155 : decode cL_law 155 = .ok (.invokevirtual 12, 3) := by decide +kernel
theorem dL_law_158 : decode cL_law 158 = .ok (.iload 8, 2) := by decide +kernel
theorem dL_law_160 : decode cL_law 160 = .ok (.iload 9, 2) := by decide +kernel
theorem dL_law_162 : decode cL_law 162 = .ok (.iadd, 1) := by decide +kernel
theorem dL_law_163 : decode cL_law 163 = .ok (.ldc 81, 2) := by decide +kernel
theorem dL_law_165 : decode cL_law 165 = .ok (.isub, 1) := by decide +kernel
theorem dL_law_166 : decode cL_law 166 = .ok (.if_icmp .eq 5, 3) := by decide +kernel
theorem dL_law_169 : decode cL_law 169 = .ok (.iconst 0, 1) := by decide +kernel
theorem dL_law_170 : decode cL_law 170 = .ok (.ireturn, 1) := by decide +kernel
theorem dL_law_171 : decode cL_law 171 = .ok (.iload 9, 2) := by decide +kernel
theorem dL_law_173 : decode cL_law 173 = .ok (.bipush (-9), 2) := by decide +kernel
theorem dL_law_175 : decode cL_law 175 = .ok (.if_icmp .le 55, 3) := by decide +kernel
theorem dL_law_178 : decode cL_law 178 = .ok (.iload_n 3, 1) := by decide +kernel
theorem dL_law_179 : decode cL_law 179 = .ok (.bipush 10, 2) := by decide +kernel
theorem dL_law_181 : decode cL_law 181 = .ok (.ishr, 1) := by decide +kernel
theorem dL_law_182 : decode cL_law 182 = .ok (.iconst 1, 1) := by decide +kernel
theorem dL_law_183 : decode cL_law 183 = .ok (.iand, 1) := by decide +kernel
theorem dL_law_184 : decode cL_law 184 = .ok (.ifCond .ne 46, 3) := by decide +kernel
theorem dL_law_187 : decode cL_law 187 = .ok (.aload_n 1, 1) := by decide +kernel
theorem dL_law_188 : decode cL_law 188 = .ok (.invokevirtual 50, 3) := by decide +kernel
theorem dL_law_191 : decode cL_law 191 = .ok (.iload 5, 2) := by decide +kernel
theorem dL_law_193 : decode cL_law 193 = .ok (.if_icmp .ne 35, 3) := by decide +kernel
theorem dL_law_196 : decode cL_law 196 = .ok (.aload_n 1, 1) := by decide +kernel
theorem dL_law_197 : decode cL_law 197 = .ok (.invokestatic 73, 3) := by decide +kernel
theorem dL_law_200 : decode cL_law 200 = .ok (.lload 6, 2) := by decide +kernel
theorem dL_law_202 : decode cL_law 202 = .ok (.lcmp, 1) := by decide +kernel
theorem dL_law_203 : decode cL_law 203 = .ok (.ifCond .ne 25, 3) := by decide +kernel
theorem dL_law_206 : decode cL_law 206 = .ok (.aload_n 1, 1) := by decide +kernel
theorem dL_law_207 : decode cL_law 207 = .ok (.iload_n 3, 1) := by decide +kernel
theorem dL_law_208 : decode cL_law 208 = .ok (.iload 4, 2) := by decide +kernel
theorem dL_law_210 : decode cL_law 210 = .ok (.invokestatic 77, 3) := by decide +kernel
theorem dL_law_213 : decode cL_law 213 = .ok (.iload 9, 2) := by decide +kernel
theorem dL_law_215 : decode cL_law 215 = .ok (.if_icmp .ne 13, 3) := by decide +kernel
theorem dL_law_218 : decode cL_law 218 = .ok (.aload_n 1, 1) := by decide +kernel
theorem dL_law_219 : decode cL_law 219 = .ok (.invokestatic 73, 3) := by decide +kernel
theorem dL_law_222 : decode cL_law 222 = .ok (.lload 10, 2) := by decide +kernel
theorem dL_law_224 : decode cL_law 224 = .ok (.lcmp, 1) := by decide +kernel
theorem dL_law_225 : decode cL_law 225 = .ok (.ifCond .eq 5, 3) := by decide +kernel
theorem dL_law_228 : decode cL_law 228 = .ok (.iconst 0, 1) := by decide +kernel
theorem dL_law_229 : decode cL_law 229 = .ok (.ireturn, 1) := by decide +kernel
theorem dL_law_230 : decode cL_law 230 = .ok (.iload_n 2, 1) := by decide +kernel
theorem dL_law_231 : decode cL_law 231 = .ok (.iconst 2, 1) := by decide +kernel
theorem dL_law_232 : decode cL_law 232 = .ok (.irem, 1) := by decide +kernel
