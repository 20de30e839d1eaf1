/-! decode rows, printed by program -/
theorem dX8_remove_69 : decode cX8_remove 69 = .ok (.bipush 6, 2) := by decide +kernel
theorem dX8_remove_71 : decode cX8_remove 71 = .ok (.iadd, 1) := by decide +kernel
theorem dX8_remove_72 : decode cX8_remove 72 = .ok (.iaload, 1) := by decide +kernel
theorem dX8_remove_73 : decode cX8_remove 73 = .ok (.iastore, 1) := by decide +kernel
theorem dX8_remove_74 : decode cX8_remove 74 = .ok (.iinc 2 1, 3) := by decide +kernel
theorem dX8_remove_77 : decode cX8_remove 77 = .ok (.goto (-38), 3) := by decide +kernel
theorem dX8_remove_80 : decode cX8_remove 80 = .ok (.aload_n 0, 1) := by decide +kernel
theorem dX8_remove_81 : decode cX8_remove 81 = .ok (.getfield 7, 3) := by decide +kernel
theorem dX8_remove_84 : decode cX8_remove 84 = .ok (.bipush 9, 2) := by decide +kernel
theorem dX8_remove_86 : decode cX8_remove 86 = .ok (.iaload, 1) := by decide +kernel
theorem dX8_remove_87 : decode cX8_remove 87 = .ok (.ireturn, 1) := by decide +kernel
theorem dX8_refuses_0 : decode cX8_refuses 0 = .ok (.aload_n 0, 1) := by decide +kernel
theorem dX8_refuses_1 : decode cX8_refuses 1 = .ok (.invokevirtual 50, 3) := by decide +kernel
theorem dX8_refuses_4 : decode cX8_refuses 4 = .ok (.aload_n 0, 1) := by decide +kernel
theorem dX8_refuses_5 : decode cX8_refuses 5 = .ok (.iload_n 1, 1) := by decide +kernel
theorem dX8_refuses_6 : decode cX8_refuses 6 = .ok (.invokevirtual 84, 3) := by decide +kernel
theorem dX8_refuses_9 : decode cX8_refuses 9 = .ok (.ifCond .eq 13, 3) := by decide +kernel
theorem dX8_refuses_12 : decode cX8_refuses 12 = .ok (.aload_n 0, 1) := by decide +kernel
theorem dX8_refuses_13 : decode cX8_refuses 13 = .ok (.getfield 22, 3) := by decide +kernel
theorem dX8_refuses_16 : decode cX8_refuses 16 = .ok (.iload_n 1, 1) := by decide +kernel
theorem dX8_refuses_17 : decode cX8_refuses 17 = .ok (.iaload, 1) := by decide +kernel
theorem dX8_refuses_18 : decode cX8_refuses 18 = .ok (.iconst (-1), 1) := by decide +kernel
theorem dX8_refuses_19 : decode cX8_refuses 19 = .ok (.if_icmp .eq 5, 3) := by decide +kernel
theorem dX8_refuses_22 : decode cX8_refuses 22 = .ok (.iconst 1, 1) := by decide +kernel
theorem dX8_refuses_23 : decode cX8_refuses 23 = .ok (.ireturn, 1) := by decide +kernel
theorem dX8_refuses_24 : decode cX8_refuses 24 = .ok (.aload_n 0, 1) := by decide +kernel
theorem dX8_refuses_25 : decode cX8_refuses 25 = .ok (.iload_n 1, 1) := by decide +kernel
theorem dX8_refuses_26 : decode cX8_refuses 26 = .ok (.iconst 4, 1) := by decide +kernel
theorem dX8_refuses_27 : decode cX8_refuses 27 = .ok (.invokevirtual 39, 3) := by decide +kernel
theorem dX8_refuses_30 : decode cX8_refuses 30 = .ok (.iconst 1, 1) := by decide +kernel
theorem dX8_refuses_31 : decode cX8_refuses 31 = .ok (.if_icmp .ne 7, 3) := by decide +kernel
theorem dX8_refuses_34 : decode cX8_refuses 34 = .ok (.iconst 1, 1) := by decide +kernel
theorem dX8_refuses_35 : decode cX8_refuses 35 = .ok (.goto 4, 3) := by decide +kernel
theorem dX8_refuses_38 : decode cX8_refuses 38 = .ok (.iconst 0, 1) := by decide +kernel
theorem dX8_refuses_39 : decode cX8_refuses 39 = .ok (.istore 4, 2) := by decide +kernel
theorem dX8_refuses_41 : decode cX8_refuses 41 = .ok (.iconst 4, 1) := by decide +kernel
theorem dX8_refuses_42 : decode cX8_refuses 42 = .ok (.aload_n 0, 1) := by decide +kernel
theorem dX8_refuses_43 : decode cX8_refuses 43 = .ok (.iload_n 1, 1) := by decide +kernel
theorem dX8_refuses_44 : decode cX8_refuses 44 = .ok (.iconst 0, 1) := by decide +kernel
theorem dX8_refuses_45 : decode cX8_refuses 45 = .ok (.invokevirtual 39, 3) := by decide +kernel
theorem dX8_refuses_48 : decode cX8_refuses 48 = .ok (.imul, 1) := by decide +kernel
theorem dX8_refuses_49 : decode cX8_refuses 49 = .ok (.aload_n 0, 1) := by decide +kernel
theorem dX8_refuses_50 : decode cX8_refuses 50 = .ok (.iload_n 1, 1) := by decide +kernel
theorem dX8_refuses_51 : decode cX8_refuses 51 = .ok (.iconst 1, 1) := by decide +kernel
theorem dX8_refuses_52 : decode cX8_refuses 52 = .ok (.invokevirtual 39, 3) := by decide +kernel
theorem dX8_refuses_55 : decode cX8_refuses 55 = .ok (.bipush 7, 2) := by decide +kernel
theorem dX8_refuses_57 : decode cX8_refuses 57 = .ok (.idiv, 1) := by decide +kernel
theorem dX8_refuses_58 : decode cX8_refuses 58 = .ok (.iadd, 1) := by decide +kernel
theorem dX8_refuses_59 : decode cX8_refuses 59 = .ok (.istore 5, 2) := by decide +kernel
theorem dX8_refuses_61 : decode cX8_refuses 61 = .ok (.iload 4, 2) := by decide +kernel
theorem dX8_refuses_63 : decode cX8_refuses 63 = .ok (.ifCond .eq 16, 3) := by decide +kernel
theorem dX8_refuses_66 : decode cX8_refuses 66 = .ok (.iload_n 2, 1) := by decide +kernel
theorem dX8_refuses_67 : decode cX8_refuses 67 = .ok (.aload_n 0, 1) := by decide +kernel
theorem dX8_refuses_68 : decode cX8_refuses 68 = .ok (.iload_n 1, 1) := by decide +kernel
theorem dX8_refuses_69 : decode cX8_refuses 69 = .ok (.iconst 2, 1) := by decide +kernel
theorem dX8_refuses_70 : decode cX8_refuses 70 = .ok (.invokevirtual 39, 3) := by decide +kernel
theorem dX8_refuses_73 : decode cX8_refuses 73 = .ok (.if_icmp .ge 18, 3) := by decide +kernel
theorem dX8_refuses_76 : decode cX8_refuses 76 = .ok (.goto 13, 3) := by decide +kernel
theorem dX8_refuses_79 : decode cX8_refuses 79 = .ok (.iload_n 2, 1) := by decide +kernel
theorem dX8_refuses_80 : decode cX8_refuses 80 = .ok (.aload_n 0, 1) := by decide +kernel
theorem dX8_refuses_81 : decode cX8_refuses 81 = .ok (.iload_n 1, 1) := by decide +kernel
theorem dX8_refuses_82 : decode cX8_refuses 82 = .ok (.iconst 2, 1) := by decide +kernel
theorem dX8_refuses_83 : decode cX8_refuses 83 = .ok (.invokevirtual 39, 3) := by decide +kernel
theorem dX8_refuses_86 : decode cX8_refuses 86 = .ok (.if_icmp .le 5, 3) := by decide +kernel
theorem dX8_refuses_89 : decode cX8_refuses 89 = .ok (.iconst 2, 1) := by decide +kernel
theorem dX8_refuses_90 : decode cX8_refuses 90 = .ok (.ireturn, 1) := by decide +kernel
theorem dX8_refuses_91 : decode cX8_refuses 91 = .ok (.aload_n 0, 1) := by decide +kernel
theorem dX8_refuses_92 : decode cX8_refuses 92 = .ok (.getfield 7, 3) := by decide +kernel
theorem dX8_refuses_95 : decode cX8_refuses 95 = .ok (.sipush 392, 3) := by decide +kernel
theorem dX8_refuses_98 : decode cX8_refuses 98 = .ok (.iload 5, 2) := by decide +kernel
theorem dX8_refuses_100 : decode cX8_refuses 100 = .ok (.iadd, 1) := by decide +kernel
theorem dX8_refuses_101 : decode cX8_refuses 101 = .ok (.iaload, 1) := by decide +kernel
theorem dX8_refuses_102 : decode cX8_refuses 102 = .ok (.iconst 2, 1) := by decide +kernel
theorem dX8_refuses_103 : decode cX8_refuses 103 = .ok (.if_icmp .ge 15, 3) := by decide +kernel
theorem dX8_refuses_106 : decode cX8_refuses 106 = .ok (.aload_n 0, 1) := by decide +kernel
theorem dX8_refuses_107 : decode cX8_refuses 107 = .ok (.getfield 7, 3) := by decide +kernel
theorem dX8_refuses_110 : decode cX8_refuses 110 = .ok (.bipush 9, 2) := by decide +kernel
theorem dX8_refuses_112 : decode cX8_refuses 112 = .ok (.iaload, 1) := by decide +kernel
theorem dX8_refuses_113 : decode cX8_refuses 113 = .ok (.bipush 60, 2) := by decide +kernel
theorem dX8_refuses_115 : decode cX8_refuses 115 = .ok (.if_icmp .ne 24, 3) := by decide +kernel
theorem dX8_refuses_118 : decode cX8_refuses 118 = .ok (.aload_n 0, 1) := by decide +kernel
theorem dX8_refuses_119 : decode cX8_refuses 119 = .ok (.getfield 7, 3) := by decide +kernel
theorem dX8_refuses_122 : decode cX8_refuses 122 = .ok (.sipush 392, 3) := by decide +kernel
theorem dX8_refuses_125 : decode cX8_refuses 125 = .ok (.iload 5, 2) := by decide +kernel
theorem dX8_refuses_127 : decode cX8_refuses 127 = .ok (.iadd, 1) := by decide +kernel
theorem dX8_refuses_128 : decode cX8_refuses 128 = .ok (.iaload, 1) := by decide +kernel
theorem dX8_refuses_129 : decode cX8_refuses 129 = .ok (.iconst 2, 1) := by decide +kernel
theorem dX8_refuses_130 : decode cX8_refuses 130 = .ok (.if_icmp .lt 7, 3) := by decide +kernel
theorem dX8_refuses_133 : decode cX8_refuses 133 = .ok (.iconst 3, 1) := by decide +kernel
theorem dX8_refuses_134 : decode cX8_refuses 134 = .ok (.goto 4, 3) := by decide +kernel
theorem dX8_refuses_137 : decode cX8_refuses 137 = .ok (.iconst 4, 1) := by decide +kernel
theorem dX8_refuses_138 : decode cX8_refuses 138 = .ok (.ireturn, 1) := by decide +kernel
theorem dX8_refuses_139 : decode cX8_refuses 139 = .ok (.aload_n 0, 1) := by decide +kernel
theorem dX8_refuses_140 : decode cX8_refuses 140 = .ok (.aload_n 0, 1) := by decide +kernel
theorem dX8_refuses_141 : decode cX8_refuses 141 = .ok (.iload_n 1, 1) := by decide +kernel
theorem dX8_refuses_142 : decode cX8_refuses 142 = .ok (.iconst 0, 1) := by decide +kernel
theorem dX8_refuses_143 : decode cX8_refuses 143 = .ok (.invokevirtual 39, 3) := by decide +kernel
theorem dX8_refuses_146 : decode cX8_refuses 146 = .ok (.aload_n 0, 1) := by decide +kernel
theorem dX8_refuses_147 : decode cX8_refuses 147 = .ok (.iload_n 1, 1) := by decide +kernel
theorem dX8_refuses_148 : decode cX8_refuses 148 = .ok (.iconst 1, 1) := by decide +kernel
theorem dX8_refuses_149 : decode cX8_refuses 149 = .ok (.invokevirtual 39, 3) := by decide +kernel
theorem dX8_refuses_152 : decode cX8_refuses 152 = .ok (.iload_n 2, 1) := by decide +kernel
theorem dX8_refuses_153 : decode cX8_refuses 153 = .ok (.iload_n 3, 1) := by decide +kernel
theorem dX8_refuses_154 : decode cX8_refuses 154 = .ok (.iload 4, 2) := by decide +kernel
theorem dX8_refuses_156 : decode cX8_refuses 156 = .ok (.ifCond .eq 7, 3) := by decide +kernel
theorem dX8_refuses_159 : decode cX8_refuses 159 = .ok (.iconst 0, 1) := by decide +kernel
theorem dX8_refuses_160 : decode cX8_refuses 160 = .ok (.goto 4, 3) := by decide +kernel
theorem dX8_refuses_163 : decode cX8_refuses 163 = .ok (.iconst 1, 1) := by decide +kernel
theorem dX8_refuses_164 : decode cX8_refuses 164 = .ok (.iconst 1, 1) := by decide +kernel
theorem dX8_refuses_165 : decode cX8_refuses 165 = .ok (.invokevirtual 80, 3) := by decide +kernel
theorem dX8_refuses_168 : decode cX8_refuses 168 = .ok (.istore 6, 2) := by decide +kernel
theorem dX8_refuses_170 : decode cX8_refuses 170 = .ok (.aload_n 0, 1) := by decide +kernel
theorem dX8_refuses_171 : decode cX8_refuses 171 = .ok (.invokevirtual 50, 3) := by decide +kernel
theorem dX8_refuses_174 : decode cX8_refuses 174 = .ok (.iload 6, 2) := by decide +kernel
theorem dX8_refuses_176 : decode cX8_refuses 176 = .ok (.iload_n 1, 1) := by decide +kernel
theorem dX8_refuses_177 : decode cX8_refuses 177 = .ok (.if_icmp .gt 9, 3) := by decide +kernel
theorem dX8_refuses_180 : decode cX8_refuses 180 = .ok (.iload_n 1, 1) := by decide +kernel
theorem dX8_refuses_181 : decode cX8_refuses 181 = .ok (.iconst 1, 1) := by decide +kernel
theorem dX8_refuses_182 : decode cX8_refuses 182 = .ok (.iadd, 1) := by decide +kernel
theorem dX8_refuses_183 : decode cX8_refuses 183 = .ok (.goto 4, 3) := by decide +kernel
theorem dX8_refuses_186 : decode cX8_refuses 186 = .ok (.iload_n 1, 1) := by decide +kernel
theorem dX8_refuses_187 : decode cX8_refuses 187 = .ok (.istore 7, 2) := by decide +kernel
theorem dX8_refuses_189 : decode cX8_refuses 189 = .ok (.aload_n 0, 1) := by decide +kernel
theorem dX8_refuses_190 : decode cX8_refuses 190 = .ok (.getfield 7, 3) := by decide +kernel
theorem dX8_refuses_193 : decode cX8_refuses 193 = .ok (.sipush 392, 3) := by decide +kernel
theorem dX8_refuses_196 : decode cX8_refuses 196 = .ok (.iload 5, 2) := by decide +kernel
theorem dX8_refuses_198 : decode cX8_refuses 198 = .ok (.iadd, 1) := by decide +kernel
theorem dX8_refuses_199 : decode cX8_refuses 199 = .ok (.dup2, 1) := by decide +kernel
theorem dX8_refuses_200 : decode cX8_refuses 200 = .ok (.iaload, 1) := by decide +kernel
theorem dX8_refuses_201 : decode cX8_refuses 201 = .ok (.iconst 1, 1) := by decide +kernel
theorem dX8_refuses_202 : decode cX8_refuses 202 = .ok (.iadd, 1) := by decide +kernel
theorem dX8_refuses_203 : decode cX8_refuses 203 = .ok (.iastore, 1) := by decide +kernel
theorem dX8_refuses_204 : decode cX8_refuses 204 = .ok (.aload_n 0, 1) := by decide +kernel
theorem dX8_refuses_205 : decode cX8_refuses 205 = .ok (.getfield 22, 3) := by decide +kernel
theorem dX8_refuses_208 : decode cX8_refuses 208 = .ok (.iload 6, 2) := by decide +kernel
theorem dX8_refuses_210 : decode cX8_refuses 210 = .ok (.iaload, 1) := by decide +kernel
theorem dX8_refuses_211 : decode cX8_refuses 211 = .ok (.iload 7, 2) := by decide +kernel
theorem dX8_refuses_213 : decode cX8_refuses 213 = .ok (.if_icmp .ne 7, 3) := by decide +kernel
theorem dX8_refuses_216 : decode cX8_refuses 216 = .ok (.iconst 0, 1) := by decide +kernel
theorem dX8_refuses_217 : decode cX8_refuses 217 = .ok (.goto 4, 3) := by decide +kernel
theorem dX8_refuses_220 : decode cX8_refuses 220 = .ok (.iconst 5, 1) := by decide +kernel
theorem dX8_refuses_221 : decode cX8_refuses 221 = .ok (.ireturn, 1) := by decide +kernel
theorem dX8_claim_0 : decode cX8_claim 0 = .ok (.aload_n 0, 1) := by decide +kernel
theorem dX8_claim_1 : decode cX8_claim 1 = .ok (.iconst 0, 1) := by decide +kernel
theorem dX8_claim_2 : decode cX8_claim 2 = .ok (.putfield 28, 3) := by decide +kernel
theorem dX8_claim_5 : decode cX8_claim 5 = .ok (.iload_n 2, 1) := by decide +kernel
theorem dX8_claim_6 : decode cX8_claim 6 = .ok (.iconst 0, 1) := by decide +kernel
theorem dX8_claim_7 : decode cX8_claim 7 = .ok (.sipush 1439, 3) := by decide +kernel
theorem dX8_claim_10 : decode cX8_claim 10 = .ok (.invokestatic 32, 3) := by decide +kernel
theorem dX8_claim_13 : decode cX8_claim 13 = .ok (.ifCond .eq 13, 3) := by decide +kernel
theorem dX8_claim_16 : decode cX8_claim 16 = .ok (.iload_n 3, 1) := by decide +kernel
theorem dX8_claim_17 : decode cX8_claim 17 = .ok (.iconst 0, 1) := by decide +kernel
theorem dX8_claim_18 : decode cX8_claim 18 = .ok (.bipush 9, 2) := by decide +kernel
theorem dX8_claim_20 : decode cX8_claim 20 = .ok (.invokestatic 32, 3) := by decide +kernel
theorem dX8_claim_23 : decode cX8_claim 23 = .ok (.ifCond .ne 9, 3) := by decide +kernel
theorem dX8_claim_26 : decode cX8_claim 26 = .ok (.aload_n 0, 1) := by decide +kernel
theorem dX8_claim_27 : decode cX8_claim 27 = .ok (.iconst 1, 1) := by decide +kernel
theorem dX8_claim_28 : decode cX8_claim 28 = .ok (.invokevirtual 74, 3) := by decide +kernel
theorem dX8_claim_31 : decode cX8_claim 31 = .ok (.ireturn, 1) := by decide +kernel
theorem dX8_claim_32 : decode cX8_claim 32 = .ok (.aload_n 0, 1) := by decide +kernel
theorem dX8_claim_33 : decode cX8_claim 33 = .ok (.invokevirtual 77, 3) := by decide +kernel
theorem dX8_claim_36 : decode cX8_claim 36 = .ok (.aload_n 0, 1) := by decide +kernel
theorem dX8_claim_37 : decode cX8_claim 37 = .ok (.invokevirtual 87, 3) := by decide +kernel
theorem dX8_claim_40 : decode cX8_claim 40 = .ok (.aload_n 0, 1) := by decide +kernel
theorem dX8_claim_41 : decode cX8_claim 41 = .ok (.iload_n 1, 1) := by decide +kernel
theorem dX8_claim_42 : decode cX8_claim 42 = .ok (.iload_n 2, 1) := by decide +kernel
theorem dX8_claim_43 : decode cX8_claim 43 = .ok (.iload_n 3, 1) := by decide +kernel
theorem dX8_claim_44 : decode cX8_claim 44 = .ok (.invokevirtual 90, 3) := by decide +kernel
theorem dX8_claim_47 : decode cX8_claim 47 = .ok (.istore 4, 2) := by decide +kernel
theorem dX8_claim_49 : decode cX8_claim 49 = .ok (.iload 4, 2) := by decide +kernel
theorem dX8_claim_51 : decode cX8_claim 51 = .ok (.ifCond .eq 18, 3) := by decide +kernel
theorem dX8_claim_54 : decode cX8_claim 54 = .ok (.aload_n 0, 1) := by decide +kernel
theorem dX8_claim_55 : decode cX8_claim 55 = .ok (.invokevirtual 93, 3) := by decide +kernel
theorem dX8_claim_58 : decode cX8_claim 58 = .ok (.aload_n 0, 1) := by decide +kernel
theorem dX8_claim_59 : decode cX8_claim 59 = .ok (.getfield 7, 3) := by decide +kernel
theorem dX8_claim_62 : decode cX8_claim 62 = .ok (.bipush 8, 2) := by decide +kernel
theorem dX8_claim_64 : decode cX8_claim 64 = .ok (.dup2, 1) := by decide +kernel
theorem dX8_claim_65 : decode cX8_claim 65 = .ok (.iaload, 1) := by decide +kernel
theorem dX8_claim_66 : decode cX8_claim 66 = .ok (.iconst 1, 1) := by decide +kernel
theorem dX8_claim_67 : decode cX8_claim 67 = .ok (.iadd, 1) := by decide +kernel
theorem dX8_claim_68 : decode cX8_claim 68 = .ok (.iastore, 1) := by decide +kernel
theorem dX8_claim_69 : decode cX8_claim 69 = .ok (.iload 4, 2) := by decide +kernel
theorem dX8_claim_71 : decode cX8_claim 71 = .ok (.ireturn, 1) := by decide +kernel
theorem dX8_entersLedger_0 : decode cX8_entersLedger 0 = .ok (.sipush 428, 3) := by decide +kernel
theorem dX8_entersLedger_3 : decode cX8_entersLedger 3 = .ok (.bipush 16, 2) := by decide +kernel
theorem dX8_entersLedger_5 : decode cX8_entersLedger 5 = .ok (.iload_n 1, 1) := by decide +kernel
theorem dX8_entersLedger_6 : decode cX8_entersLedger 6 = .ok (.imul, 1) := by decide +kernel
theorem dX8_entersLedger_7 : decode cX8_entersLedger 7 = .ok (.iadd, 1) := by decide +kernel
theorem dX8_entersLedger_8 : decode cX8_entersLedger 8 = .ok (.istore 4, 2) := by decide +kernel
theorem dX8_entersLedger_10 : decode cX8_entersLedger 10 = .ok (.bipush 15, 2) := by decide +kernel
theorem dX8_entersLedger_12 : decode cX8_entersLedger 12 = .ok (.istore 5, 2) := by decide +kernel
theorem dX8_entersLedger_14 : decode cX8_entersLedger 14 = .ok (.iload 5, 2) := by decide +kernel
theorem dX8_entersLedger_16 : decode cX8_entersLedger 16 = .ok (.iconst 2, 1) := by decide +kernel
theorem dX8_entersLedger_17 : decode cX8_entersLedger 17 = .ok (.if_icmp .lt 31, 3) := by decide +kernel
theorem dX8_entersLedger_20 : decode cX8_entersLedger 20 = .ok (.aload_n 0, 1) := by decide +kernel
theorem dX8_entersLedger_21 : decode cX8_entersLedger 21 = .ok (.getfield 7, 3) := by decide +kernel
theorem dX8_entersLedger_24 : decode cX8_entersLedger 24 = .ok (.iload 4, 2) := by decide +kernel
theorem dX8_entersLedger_26 : decode cX8_entersLedger 26 = .ok (.iload 5, 2) := by decide +kernel
theorem dX8_entersLedger_28 : decode cX8_entersLedger 28 = .ok (.iadd, 1) := by decide +kernel
theorem dX8_entersLedger_29 : decode cX8_entersLedger 29 = .ok (.aload_n 0, 1) := by decide +kernel
theorem dX8_entersLedger_30 : decode cX8_entersLedger 30 = .ok (.getfield 7, 3) := by decide +kernel
theorem dX8_entersLedger_33 : decode cX8_entersLedger 33 = .ok (.iload 4, 2) := by decide +kernel
theorem dX8_entersLedger_35 : decode cX8_entersLedger 35 = .ok (.iload 5, 2) := by decide +kernel
theorem dX8_entersLedger_37 : decode cX8_entersLedger 37 = .ok (.iadd, 1) := by decide +kernel
theorem dX8_entersLedger_38 : decode cX8_entersLedger 38 = .ok (.iconst 2, 1) := by decide +kernel
theorem dX8_entersLedger_39 : decode cX8_entersLedger 39 = .ok (.isub, 1) := by decide +kernel
theorem dX8_entersLedger_40 : decode cX8_entersLedger 40 = .ok (.iaload, 1) := by decide +kernel
theorem dX8_entersLedger_41 : decode cX8_entersLedger 41 = .ok (.iastore, 1) := by decide +kernel
theorem dX8_entersLedger_42 : decode cX8_entersLedger 42 = .ok (.iinc 5 (-1), 3) := by decide +kernel
theorem dX8_entersLedger_45 : decode cX8_entersLedger 45 = .ok (.goto (-31), 3) := by decide +kernel
theorem dX8_entersLedger_48 : decode cX8_entersLedger 48 = .ok (.aload_n 0, 1) := by decide +kernel
theorem dX8_entersLedger_49 : decode cX8_entersLedger 49 = .ok (.getfield 7, 3) := by decide +kernel
theorem dX8_entersLedger_52 : decode cX8_entersLedger 52 = .ok (.iload 4, 2) := by decide +kernel
theorem dX8_entersLedger_54 : decode cX8_entersLedger 54 = .ok (.iload_n 2, 1) := by decide +kernel
theorem dX8_entersLedger_55 : decode cX8_entersLedger 55 = .ok (.iastore, 1) := by decide +kernel
theorem dX8_entersLedger_56 : decode cX8_entersLedger 56 = .ok (.aload_n 0, 1) := by decide +kernel
theorem dX8_entersLedger_57 : decode cX8_entersLedger 57 = .ok (.getfield 7, 3) := by decide +kernel
theorem dX8_entersLedger_60 : decode cX8_entersLedger 60 = .ok (.iload 4, 2) := by decide +kernel
theorem dX8_entersLedger_62 : decode cX8_entersLedger 62 = .ok (.iconst 1, 1) := by decide +kernel
theorem dX8_entersLedger_63 : decode cX8_entersLedger 63 = .ok (.iadd, 1) := by decide +kernel
theorem dX8_entersLedger_64 : decode cX8_entersLedger 64 = .ok (.iload_n 3, 1) := by decide +kernel
theorem dX8_entersLedger_65 : decode cX8_entersLedger 65 = .ok (.iastore, 1) := by decide +kernel
theorem dX8_entersLedger_66 : decode cX8_entersLedger 66 = .ok (.aload_n 0, 1) := by decide +kernel
theorem dX8_entersLedger_67 : decode cX8_entersLedger 67 = .ok (.getfield 7, 3) := by decide +kernel
theorem dX8_entersLedger_70 : decode cX8_entersLedger 70 = .ok (.sipush 424, 3) := by decide +kernel
theorem dX8_entersLedger_73 : decode cX8_entersLedger 73 = .ok (.iload_n 1, 1) := by decide +kernel
theorem dX8_entersLedger_74 : decode cX8_entersLedger 74 = .ok (.iadd, 1) := by decide +kernel
theorem dX8_entersLedger_75 : decode cX8_entersLedger 75 = .ok (.dup2, 1) := by decide +kernel
theorem dX8_entersLedger_76 : decode cX8_entersLedger 76 = .ok (.iaload, 1) := by decide +kernel
theorem dX8_entersLedger_77 : decode cX8_entersLedger 77 = .ok (.aload_n 0, 1) := by decide +kernel
theorem dX8_entersLedger_78 : decode cX8_entersLedger 78 = .ok (.getfield 7, 3) := by decide +kernel
theorem dX8_entersLedger_81 : decode cX8_entersLedger 81 = .ok (.sipush 424, 3) := by decide +kernel
theorem dX8_entersLedger_84 : decode cX8_entersLedger 84 = .ok (.iload_n 1, 1) := by decide +kernel
theorem dX8_entersLedger_85 : decode cX8_entersLedger 85 = .ok (.iadd, 1) := by decide +kernel
theorem dX8_entersLedger_86 : decode cX8_entersLedger 86 = .ok (.iaload, 1) := by decide +kernel
theorem dX8_entersLedger_87 : decode cX8_entersLedger 87 = .ok (.bipush 8, 2) := by decide +kernel
theorem dX8_entersLedger_89 : decode cX8_entersLedger 89 = .ok (.if_icmp .ge 7, 3) := by decide +kernel
theorem dX8_entersLedger_92 : decode cX8_entersLedger 92 = .ok (.iconst 1, 1) := by decide +kernel
theorem dX8_entersLedger_93 : decode cX8_entersLedger 93 = .ok (.goto 4, 3) := by decide +kernel
theorem dX8_entersLedger_96 : decode cX8_entersLedger 96 = .ok (.iconst 0, 1) := by decide +kernel
theorem dX8_entersLedger_97 : decode cX8_entersLedger 97 = .ok (.iadd, 1) := by decide +kernel
theorem dX8_entersLedger_98 : decode cX8_entersLedger 98 = .ok (.iastore, 1) := by decide +kernel
theorem dX8_entersLedger_99 : decode cX8_entersLedger 99 = .ok (.return_, 1) := by decide +kernel
theorem dX8_settle_0 : decode cX8_settle 0 = .ok (.aload_n 0, 1) := by decide +kernel
theorem dX8_settle_1 : decode cX8_settle 1 = .ok (.iconst 0, 1) := by decide +kernel
theorem dX8_settle_2 : decode cX8_settle 2 = .ok (.putfield 28, 3) := by decide +kernel
theorem dX8_settle_5 : decode cX8_settle 5 = .ok (.iload_n 1, 1) := by decide +kernel
theorem dX8_settle_6 : decode cX8_settle 6 = .ok (.iconst 0, 1) := by decide +kernel
theorem dX8_settle_7 : decode cX8_settle 7 = .ok (.iconst 3, 1) := by decide +kernel
theorem dX8_settle_8 : decode cX8_settle 8 = .ok (.invokestatic 32, 3) := by decide +kernel
theorem dX8_settle_11 : decode cX8_settle 11 = .ok (.ifCond .ne 9, 3) := by decide +kernel
theorem dX8_settle_14 : decode cX8_settle 14 = .ok (.aload_n 0, 1) := by decide +kernel
theorem dX8_settle_15 : decode cX8_settle 15 = .ok (.iconst 1, 1) := by decide +kernel
theorem dX8_settle_16 : decode cX8_settle 16 = .ok (.invokevirtual 74, 3) := by decide +kernel
theorem dX8_settle_19 : decode cX8_settle 19 = .ok (.ireturn, 1) := by decide +kernel
theorem dX8_settle_20 : decode cX8_settle 20 = .ok (.aload_n 0, 1) := by decide +kernel
theorem dX8_settle_21 : decode cX8_settle 21 = .ok (.invokevirtual 77, 3) := by decide +kernel
theorem dX8_settle_24 : decode cX8_settle 24 = .ok (.iconst 0, 1) := by decide +kernel
theorem dX8_settle_25 : decode cX8_settle 25 = .ok (.istore_n 2, 1) := by decide +kernel
theorem dX8_settle_26 : decode cX8_settle 26 = .ok (.iconst 0, 1) := by decide +kernel
theorem dX8_settle_27 : decode cX8_settle 27 = .ok (.istore_n 3, 1) := by decide +kernel
theorem dX8_settle_28 : decode cX8_settle 28 = .ok (.iload_n 3, 1) := by decide +kernel
theorem dX8_settle_29 : decode cX8_settle 29 = .ok (.iconst 4, 1) := by decide +kernel
theorem dX8_settle_30 : decode cX8_settle 30 = .ok (.if_icmp .ge 122, 3) := by decide +kernel
theorem dX8_settle_33 : decode cX8_settle 33 = .ok (.iconst 4, 1) := by decide +kernel
theorem dX8_settle_34 : decode cX8_settle 34 = .ok (.iload_n 3, 1) := by decide +kernel
theorem dX8_settle_35 : decode cX8_settle 35 = .ok (.imul, 1) := by decide +kernel
theorem dX8_settle_36 : decode cX8_settle 36 = .ok (.iload_n 1, 1) := by decide +kernel
theorem dX8_settle_37 : decode cX8_settle 37 = .ok (.iadd, 1) := by decide +kernel
theorem dX8_settle_38 : decode cX8_settle 38 = .ok (.istore 4, 2) := by decide +kernel
theorem dX8_settle_40 : decode cX8_settle 40 = .ok (.aload_n 0, 1) := by decide +kernel
theorem dX8_settle_41 : decode cX8_settle 41 = .ok (.iload_n 3, 1) := by decide +kernel
theorem dX8_settle_42 : decode cX8_settle 42 = .ok (.iload_n 1, 1) := by decide +kernel
theorem dX8_settle_43 : decode cX8_settle 43 = .ok (.invokevirtual 96, 3) := by decide +kernel
theorem dX8_settle_46 : decode cX8_settle 46 = .ok (.aload_n 0, 1) := by decide +kernel
theorem dX8_settle_47 : decode cX8_settle 47 = .ok (.getfield 7, 3) := by decide +kernel
theorem dX8_settle_50 : decode cX8_settle 50 = .ok (.sipush 376, 3) := by decide +kernel
theorem dX8_settle_53 : decode cX8_settle 53 = .ok (.iload 4, 2) := by decide +kernel
theorem dX8_settle_55 : decode cX8_settle 55 = .ok (.iadd, 1) := by decide +kernel
theorem dX8_settle_56 : decode cX8_settle 56 = .ok (.iaload, 1) := by decide +kernel
theorem dX8_settle_57 : decode cX8_settle 57 = .ok (.isub, 1) := by decide +kernel
theorem dX8_settle_58 : decode cX8_settle 58 = .ok (.istore 5, 2) := by decide +kernel
theorem dX8_settle_60 : decode cX8_settle 60 = .ok (.aload_n 0, 1) := by decide +kernel
theorem dX8_settle_61 : decode cX8_settle 61 = .ok (.getfield 7, 3) := by decide +kernel
theorem dX8_settle_64 : decode cX8_settle 64 = .ok (.sipush 376, 3) := by decide +kernel
theorem dX8_settle_67 : decode cX8_settle 67 = .ok (.iload 4, 2) := by decide +kernel
theorem dX8_settle_69 : decode cX8_settle 69 = .ok (.iadd, 1) := by decide +kernel
theorem dX8_settle_70 : decode cX8_settle 70 = .ok (.dup2, 1) := by decide +kernel
theorem dX8_settle_71 : decode cX8_settle 71 = .ok (.iaload, 1) := by decide +kernel
theorem dX8_settle_72 : decode cX8_settle 72 = .ok (.iload 5, 2) := by decide +kernel
theorem dX8_settle_74 : decode cX8_settle 74 = .ok (.iadd, 1) := by decide +kernel
theorem dX8_settle_75 : decode cX8_settle 75 = .ok (.iastore, 1) := by decide +kernel
theorem dX8_settle_76 : decode cX8_settle 76 = .ok (.aload_n 0, 1) := by decide +kernel
theorem dX8_settle_77 : decode cX8_settle 77 = .ok (.getfield 7, 3) := by decide +kernel
theorem dX8_settle_80 : decode cX8_settle 80 = .ok (.sipush 408, 3) := by decide +kernel
theorem dX8_settle_83 : decode cX8_settle 83 = .ok (.iload 4, 2) := by decide +kernel
theorem dX8_settle_85 : decode cX8_settle 85 = .ok (.iadd, 1) := by decide +kernel
theorem dX8_settle_86 : decode cX8_settle 86 = .ok (.dup2, 1) := by decide +kernel
theorem dX8_settle_87 : decode cX8_settle 87 = .ok (.iaload, 1) := by decide +kernel
theorem dX8_settle_88 : decode cX8_settle 88 = .ok (.iconst 1, 1) := by decide +kernel
theorem dX8_settle_89 : decode cX8_settle 89 = .ok (.iadd, 1) := by decide +kernel
theorem dX8_settle_90 : decode cX8_settle 90 = .ok (.iastore, 1) := by decide +kernel
theorem dX8_settle_91 : decode cX8_settle 91 = .ok (.aload_n 0, 1) := by decide +kernel
theorem dX8_settle_92 : decode cX8_settle 92 = .ok (.getfield 7, 3) := by decide +kernel
theorem dX8_settle_95 : decode cX8_settle 95 = .ok (.bipush 6, 2) := by decide +kernel
theorem dX8_settle_97 : decode cX8_settle 97 = .ok (.dup2, 1) := by decide +kernel
theorem dX8_settle_98 : decode cX8_settle 98 = .ok (.iaload, 1) := by decide +kernel
theorem dX8_settle_99 : decode cX8_settle 99 = .ok (.iload 5, 2) := by decide +kernel
theorem dX8_settle_101 : decode cX8_settle 101 = .ok (.ifCond .ge 7, 3) := by decide +kernel
theorem dX8_settle_104 : decode cX8_settle 104 = .ok (.iconst 1, 1) := by decide +kernel
theorem dX8_settle_105 : decode cX8_settle 105 = .ok (.goto 4, 3) := by decide +kernel
theorem dX8_settle_108 : decode cX8_settle 108 = .ok (.iconst 0, 1) := by decide +kernel
theorem dX8_settle_109 : decode cX8_settle 109 = .ok (.iadd, 1) := by decide +kernel
theorem dX8_settle_110 : decode cX8_settle 110 = .ok (.iastore, 1) := by decide +kernel
theorem dX8_settle_111 : decode cX8_settle 111 = .ok (.aload_n 0, 1) := by decide +kernel
theorem dX8_settle_112 : decode cX8_settle 112 = .ok (.getfield 7, 3) := by decide +kernel
theorem dX8_settle_115 : decode cX8_settle 115 = .ok (.bipush 7, 2) := by decide +kernel
theorem dX8_settle_117 : decode cX8_settle 117 = .ok (.dup2, 1) := by decide +kernel
theorem dX8_settle_118 : decode cX8_settle 118 = .ok (.iaload, 1) := by decide +kernel
theorem dX8_settle_119 : decode cX8_settle 119 = .ok (.iload 5, 2) := by decide +kernel
theorem dX8_settle_121 : decode cX8_settle 121 = .ok (.ifCond .ge 9, 3) := by decide +kernel
theorem dX8_settle_124 : decode cX8_settle 124 = .ok (.iload 5, 2) := by decide +kernel
theorem dX8_settle_126 : decode cX8_settle 126 = .ok (.ineg, 1) := by decide +kernel
theorem dX8_settle_127 : decode cX8_settle 127 = .ok (.goto 4, 3) := by decide +kernel
theorem dX8_settle_130 : decode cX8_settle 130 = .ok (.iconst 0, 1) := by decide +kernel
theorem dX8_settle_131 : decode cX8_settle 131 = .ok (.iadd, 1) := by decide +kernel
theorem dX8_settle_132 : decode cX8_settle 132 = .ok (.iastore, 1) := by decide +kernel
theorem dX8_settle_133 : decode cX8_settle 133 = .ok (.aload_n 0, 1) := by decide +kernel
theorem dX8_settle_134 : decode cX8_settle 134 = .ok (.iload_n 3, 1) := by decide +kernel
theorem dX8_settle_135 : decode cX8_settle 135 = .ok (.iload_n 1, 1) := by decide +kernel
theorem dX8_settle_136 : decode cX8_settle 136 = .ok (.iload 5, 2) := by decide +kernel
theorem dX8_settle_138 : decode cX8_settle 138 = .ok (.invokevirtual 99, 3) := by decide +kernel
theorem dX8_settle_141 : decode cX8_settle 141 = .ok (.iload_n 2, 1) := by decide +kernel
theorem dX8_settle_142 : decode cX8_settle 142 = .ok (.iload 5, 2) := by decide +kernel
theorem dX8_settle_144 : decode cX8_settle 144 = .ok (.iadd, 1) := by decide +kernel
theorem dX8_settle_145 : decode cX8_settle 145 = .ok (.istore_n 2, 1) := by decide +kernel
theorem dX8_settle_146 : decode cX8_settle 146 = .ok (.iinc 3 1, 3) := by decide +kernel
theorem dX8_settle_149 : decode cX8_settle 149 = .ok (.goto (-121), 3) := by decide +kernel
theorem dX8_settle_152 : decode cX8_settle 152 = .ok (.iload_n 2, 1) := by decide +kernel
theorem dX8_settle_153 : decode cX8_settle 153 = .ok (.ldc 103, 2) := by decide +kernel
theorem dX8_settle_155 : decode cX8_settle 155 = .ok (.iadd, 1) := by decide +kernel
theorem dX8_settle_156 : decode cX8_settle 156 = .ok (.ireturn, 1) := by decide +kernel
theorem dX8_isSetting_0 : decode cX8_isSetting 0 = .ok (.iload_n 0, 1) := by decide +kernel
theorem dX8_isSetting_1 : decode cX8_isSetting 1 = .ok (.tableswitch 49 0 3 #[31, 31, 31, 40], 31) := by decide +kernel
theorem dX8_isSetting_32 : decode cX8_isSetting 32 = .ok (.iload_n 1, 1) := by decide +kernel
theorem dX8_isSetting_33 : decode cX8_isSetting 33 = .ok (.iconst 0, 1) := by decide +kernel
theorem dX8_isSetting_34 : decode cX8_isSetting 34 = .ok (.sipush 999, 3) := by decide +kernel
theorem dX8_isSetting_37 : decode cX8_isSetting 37 = .ok (.invokestatic 32, 3) := by decide +kernel
theorem dX8_isSetting_40 : decode cX8_isSetting 40 = .ok (.ireturn, 1) := by decide +kernel
theorem dX8_isSetting_41 : decode cX8_isSetting 41 = .ok (.iload_n 1, 1) := by decide +kernel
theorem dX8_isSetting_42 : decode cX8_isSetting 42 = .ok (.iconst 1, 1) := by decide +kernel
theorem dX8_isSetting_43 : decode cX8_isSetting 43 = .ok (.sipush 1439, 3) := by decide +kernel
theorem dX8_isSetting_46 : decode cX8_isSetting 46 = .ok (.invokestatic 32, 3) := by decide +kernel
theorem dX8_isSetting_49 : decode cX8_isSetting 49 = .ok (.ireturn, 1) := by decide +kernel
theorem dX8_isSetting_50 : decode cX8_isSetting 50 = .ok (.iload_n 1, 1) := by decide +kernel
theorem dX8_isSetting_51 : decode cX8_isSetting 51 = .ok (.iconst 0, 1) := by decide +kernel
theorem dX8_isSetting_52 : decode cX8_isSetting 52 = .ok (.sipush 9999, 3) := by decide +kernel
theorem dX8_isSetting_55 : decode cX8_isSetting 55 = .ok (.invokestatic 32, 3) := by decide +kernel
theorem dX8_isSetting_58 : decode cX8_isSetting 58 = .ok (.ireturn, 1) := by decide +kernel
theorem dX8_set_0 : decode cX8_set 0 = .ok (.aload_n 0, 1) := by decide +kernel
theorem dX8_set_1 : decode cX8_set 1 = .ok (.iconst 0, 1) := by decide +kernel
theorem dX8_set_2 : decode cX8_set 2 = .ok (.putfield 28, 3) := by decide +kernel
theorem dX8_set_5 : decode cX8_set 5 = .ok (.iload_n 1, 1) := by decide +kernel
theorem dX8_set_6 : decode cX8_set 6 = .ok (.iconst 0, 1) := by decide +kernel
theorem dX8_set_7 : decode cX8_set 7 = .ok (.iconst 5, 1) := by decide +kernel
theorem dX8_set_8 : decode cX8_set 8 = .ok (.invokestatic 32, 3) := by decide +kernel
theorem dX8_set_11 : decode cX8_set 11 = .ok (.ifCond .ne 9, 3) := by decide +kernel
theorem dX8_set_14 : decode cX8_set 14 = .ok (.aload_n 0, 1) := by decide +kernel
theorem dX8_set_15 : decode cX8_set 15 = .ok (.iconst 1, 1) := by decide +kernel
theorem dX8_set_16 : decode cX8_set 16 = .ok (.invokevirtual 74, 3) := by decide +kernel
theorem dX8_set_19 : decode cX8_set 19 = .ok (.ireturn, 1) := by decide +kernel
theorem dX8_set_20 : decode cX8_set 20 = .ok (.iload_n 1, 1) := by decide +kernel
theorem dX8_set_21 : decode cX8_set 21 = .ok (.iload_n 2, 1) := by decide +kernel
theorem dX8_set_22 : decode cX8_set 22 = .ok (.invokestatic 104, 3) := by decide +kernel
theorem dX8_set_25 : decode cX8_set 25 = .ok (.ifCond .ne 9, 3) := by decide +kernel
theorem dX8_set_28 : decode cX8_set 28 = .ok (.aload_n 0, 1) := by decide +kernel
theorem dX8_set_29 : decode cX8_set 29 = .ok (.iconst 2, 1) := by decide +kernel
theorem dX8_set_30 : decode cX8_set 30 = .ok (.invokevirtual 74, 3) := by decide +kernel
theorem dX8_set_33 : decode cX8_set 33 = .ok (.ireturn, 1) := by decide +kernel
theorem dX8_set_34 : decode cX8_set 34 = .ok (.aload_n 0, 1) := by decide +kernel
theorem dX8_set_35 : decode cX8_set 35 = .ok (.invokevirtual 77, 3) := by decide +kernel
theorem dX8_set_38 : decode cX8_set 38 = .ok (.aload_n 0, 1) := by decide +kernel
theorem dX8_set_39 : decode cX8_set 39 = .ok (.getfield 7, 3) := by decide +kernel
theorem dX8_set_42 : decode cX8_set 42 = .ok (.iload_n 1, 1) := by decide +kernel
theorem dX8_set_43 : decode cX8_set 43 = .ok (.iaload, 1) := by decide +kernel
theorem dX8_set_44 : decode cX8_set 44 = .ok (.istore_n 3, 1) := by decide +kernel
theorem dX8_set_45 : decode cX8_set 45 = .ok (.aload_n 0, 1) := by decide +kernel
theorem dX8_set_46 : decode cX8_set 46 = .ok (.getfield 7, 3) := by decide +kernel
theorem dX8_set_49 : decode cX8_set 49 = .ok (.iload_n 1, 1) := by decide +kernel
theorem dX8_set_50 : decode cX8_set 50 = .ok (.iload_n 2, 1) := by decide +kernel
theorem dX8_set_51 : decode cX8_set 51 = .ok (.iastore, 1) := by decide +kernel
theorem dX8_set_52 : decode cX8_set 52 = .ok (.iload_n 3, 1) := by decide +kernel
theorem dX8_set_53 : decode cX8_set 53 = .ok (.ireturn, 1) := by decide +kernel
theorem dX8_append_0 : decode cX8_append 0 = .ok (.aload_n 0, 1) := by decide +kernel
theorem dX8_append_1 : decode cX8_append 1 = .ok (.iconst 0, 1) := by decide +kernel
theorem dX8_append_2 : decode cX8_append 2 = .ok (.putfield 28, 3) := by decide +kernel
theorem dX8_append_5 : decode cX8_append 5 = .ok (.iload_n 1, 1) := by decide +kernel
theorem dX8_append_6 : decode cX8_append 6 = .ok (.bipush 33, 2) := by decide +kernel
theorem dX8_append_8 : decode cX8_append 8 = .ok (.bipush 126, 2) := by decide +kernel
theorem dX8_append_10 : decode cX8_append 10 = .ok (.invokestatic 32, 3) := by decide +kernel
theorem dX8_append_13 : decode cX8_append 13 = .ok (.ifCond .ne 9, 3) := by decide +kernel
theorem dX8_append_16 : decode cX8_append 16 = .ok (.aload_n 0, 1) := by decide +kernel
theorem dX8_append_17 : decode cX8_append 17 = .ok (.iconst 1, 1) := by decide +kernel
theorem dX8_append_18 : decode cX8_append 18 = .ok (.invokevirtual 74, 3) := by decide +kernel
theorem dX8_append_21 : decode cX8_append 21 = .ok (.ireturn, 1) := by decide +kernel
theorem dX8_append_22 : decode cX8_append 22 = .ok (.aload_n 0, 1) := by decide +kernel
theorem dX8_append_23 : decode cX8_append 23 = .ok (.getfield 108, 3) := by decide +kernel
theorem dX8_append_26 : decode cX8_append 26 = .ok (.bipush 60, 2) := by decide +kernel
theorem dX8_append_28 : decode cX8_append 28 = .ok (.if_icmp .ne 9, 3) := by decide +kernel
theorem dX8_append_31 : decode cX8_append 31 = .ok (.aload_n 0, 1) := by decide +kernel
theorem dX8_append_32 : decode cX8_append 32 = .ok (.iconst 2, 1) := by decide +kernel
theorem dX8_append_33 : decode cX8_append 33 = .ok (.invokevirtual 74, 3) := by decide +kernel
theorem dX8_append_36 : decode cX8_append 36 = .ok (.ireturn, 1) := by decide +kernel
theorem dX8_append_37 : decode cX8_append 37 = .ok (.aload_n 0, 1) := by decide +kernel
theorem dX8_append_38 : decode cX8_append 38 = .ok (.getfield 19, 3) := by decide +kernel
theorem dX8_append_41 : decode cX8_append 41 = .ok (.aload_n 0, 1) := by decide +kernel
theorem dX8_append_42 : decode cX8_append 42 = .ok (.getfield 108, 3) := by decide +kernel
theorem dX8_append_45 : decode cX8_append 45 = .ok (.iload_n 1, 1) := by decide +kernel
theorem dX8_append_46 : decode cX8_append 46 = .ok (.iastore, 1) := by decide +kernel
theorem dX8_append_47 : decode cX8_append 47 = .ok (.aload_n 0, 1) := by decide +kernel
theorem dX8_append_48 : decode cX8_append 48 = .ok (.dup, 1) := by decide +kernel
theorem dX8_append_49 : decode cX8_append 49 = .ok (.getfield 108, 3) := by decide +kernel
theorem dX8_append_52 : decode cX8_append 52 = .ok (.iconst 1, 1) := by decide +kernel
theorem dX8_append_53 : decode cX8_append 53 = .ok (.iadd, 1) := by decide +kernel
theorem dX8_append_54 : decode cX8_append 54 = .ok (.putfield 108, 3) := by decide +kernel
theorem dX8_append_57 : decode cX8_append 57 = .ok (.aload_n 0, 1) := by decide +kernel
theorem dX8_append_58 : decode cX8_append 58 = .ok (.getfield 108, 3) := by decide +kernel
theorem dX8_append_61 : decode cX8_append 61 = .ok (.ireturn, 1) := by decide +kernel
theorem dX8_clearBuffer_0 : decode cX8_clearBuffer 0 = .ok (.aload_n 0, 1) := by decide +kernel
theorem dX8_clearBuffer_1 : decode cX8_clearBuffer 1 = .ok (.iconst 0, 1) := by decide +kernel
theorem dX8_clearBuffer_2 : decode cX8_clearBuffer 2 = .ok (.putfield 28, 3) := by decide +kernel
theorem dX8_clearBuffer_5 : decode cX8_clearBuffer 5 = .ok (.aload_n 0, 1) := by decide +kernel
theorem dX8_clearBuffer_6 : decode cX8_clearBuffer 6 = .ok (.getfield 108, 3) := by decide +kernel
theorem dX8_clearBuffer_9 : decode cX8_clearBuffer 9 = .ok (.istore_n 1, 1) := by decide +kernel
theorem dX8_clearBuffer_10 : decode cX8_clearBuffer 10 = .ok (.aload_n 0, 1) := by decide +kernel
theorem dX8_clearBuffer_11 : decode cX8_clearBuffer 11 = .ok (.iconst 0, 1) := by decide +kernel
theorem dX8_clearBuffer_12 : decode cX8_clearBuffer 12 = .ok (.putfield 108, 3) := by decide +kernel
theorem dX8_clearBuffer_15 : decode cX8_clearBuffer 15 = .ok (.iload_n 1, 1) := by decide +kernel
theorem dX8_clearBuffer_16 : decode cX8_clearBuffer 16 = .ok (.ireturn, 1) := by decide +kernel
theorem dX8_sign_0 : decode cX8_sign 0 = .ok (.aload_n 0, 1) := by decide +kernel
theorem dX8_sign_1 : decode cX8_sign 1 = .ok (.getfield 111, 3) := by decide +kernel
theorem dX8_sign_4 : decode cX8_sign 4 = .ok (.aload_n 0, 1) := by decide +kernel
theorem dX8_sign_5 : decode cX8_sign 5 = .ok (.getfield 108, 3) := by decide +kernel
theorem dX8_sign_8 : decode cX8_sign 8 = .ok (.if_icmp .ge 15, 3) := by decide +kernel
theorem dX8_sign_11 : decode cX8_sign 11 = .ok (.aload_n 0, 1) := by decide +kernel
theorem dX8_sign_12 : decode cX8_sign 12 = .ok (.getfield 19, 3) := by decide +kernel
theorem dX8_sign_15 : decode cX8_sign 15 = .ok (.aload_n 0, 1) := by decide +kernel
theorem dX8_sign_16 : decode cX8_sign 16 = .ok (.getfield 111, 3) := by decide +kernel
theorem dX8_sign_19 : decode cX8_sign 19 = .ok (.iaload, 1) := by decide +kernel
theorem dX8_sign_20 : decode cX8_sign 20 = .ok (.goto 4, 3) := by decide +kernel
theorem dX8_sign_23 : decode cX8_sign 23 = .ok (.iconst 0, 1) := by decide +kernel
theorem dX8_sign_24 : decode cX8_sign 24 = .ok (.ireturn, 1) := by decide +kernel
theorem dX8_wants_0 : decode cX8_wants 0 = .ok (.aload_n 0, 1) := by decide +kernel
theorem dX8_wants_1 : decode cX8_wants 1 = .ok (.aload_n 0, 1) := by decide +kernel
theorem dX8_wants_2 : decode cX8_wants 2 = .ok (.getfield 114, 3) := by decide +kernel
theorem dX8_wants_5 : decode cX8_wants 5 = .ok (.ifCond .eq 15, 3) := by decide +kernel
theorem dX8_wants_8 : decode cX8_wants 8 = .ok (.aload_n 0, 1) := by decide +kernel
theorem dX8_wants_9 : decode cX8_wants 9 = .ok (.invokevirtual 118, 3) := by decide +kernel
theorem dX8_wants_12 : decode cX8_wants 12 = .ok (.iload_n 1, 1) := by decide +kernel
theorem dX8_wants_13 : decode cX8_wants 13 = .ok (.if_icmp .ne 7, 3) := by decide +kernel
theorem dX8_wants_16 : decode cX8_wants 16 = .ok (.iconst 1, 1) := by decide +kernel
theorem dX8_wants_17 : decode cX8_wants 17 = .ok (.goto 4, 3) := by decide +kernel
theorem dX8_wants_20 : decode cX8_wants 20 = .ok (.iconst 0, 1) := by decide +kernel
theorem dX8_wants_21 : decode cX8_wants 21 = .ok (.putfield 114, 3) := by decide +kernel
theorem dX8_wants_24 : decode cX8_wants 24 = .ok (.aload_n 0, 1) := by decide +kernel
theorem dX8_wants_25 : decode cX8_wants 25 = .ok (.dup, 1) := by decide +kernel
theorem dX8_wants_26 : decode cX8_wants 26 = .ok (.getfield 111, 3) := by decide +kernel
theorem dX8_wants_29 : decode cX8_wants 29 = .ok (.aload_n 0, 1) := by decide +kernel
theorem dX8_wants_30 : decode cX8_wants 30 = .ok (.getfield 114, 3) := by decide +kernel
theorem dX8_wants_33 : decode cX8_wants 33 = .ok (.ifCond .eq 7, 3) := by decide +kernel
theorem dX8_wants_36 : decode cX8_wants 36 = .ok (.iconst 1, 1) := by decide +kernel
theorem dX8_wants_37 : decode cX8_wants 37 = .ok (.goto 4, 3) := by decide +kernel
theorem dX8_wants_40 : decode cX8_wants 40 = .ok (.iconst 0, 1) := by decide +kernel
theorem dX8_wants_41 : decode cX8_wants 41 = .ok (.iadd, 1) := by decide +kernel
theorem dX8_wants_42 : decode cX8_wants 42 = .ok (.putfield 111, 3) := by decide +kernel
theorem dX8_wants_45 : decode cX8_wants 45 = .ok (.return_, 1) := by decide +kernel
theorem dX8_number_0 : decode cX8_number 0 = .ok (.aload_n 0, 1) := by decide +kernel
theorem dX8_number_1 : decode cX8_number 1 = .ok (.aload_n 0, 1) := by decide +kernel
theorem dX8_number_2 : decode cX8_number 2 = .ok (.getfield 114, 3) := by decide +kernel
theorem dX8_number_5 : decode cX8_number 5 = .ok (.ifCond .eq 34, 3) := by decide +kernel
theorem dX8_number_8 : decode cX8_number 8 = .ok (.aload_n 0, 1) := by decide +kernel
theorem dX8_number_9 : decode cX8_number 9 = .ok (.invokevirtual 118, 3) := by decide +kernel
theorem dX8_number_12 : decode cX8_number 12 = .ok (.bipush 48, 2) := by decide +kernel
theorem dX8_number_14 : decode cX8_number 14 = .ok (.iload_n 1, 1) := by decide +kernel
theorem dX8_number_15 : decode cX8_number 15 = .ok (.bipush 9, 2) := by decide +kernel
theorem dX8_number_17 : decode cX8_number 17 = .ok (.if_icmp .ge 10, 3) := by decide +kernel
theorem dX8_number_20 : decode cX8_number 20 = .ok (.bipush 48, 2) := by decide +kernel
theorem dX8_number_22 : decode cX8_number 22 = .ok (.iload_n 1, 1) := by decide +kernel
theorem dX8_number_23 : decode cX8_number 23 = .ok (.iadd, 1) := by decide +kernel
theorem dX8_number_24 : decode cX8_number 24 = .ok (.goto 5, 3) := by decide +kernel
theorem dX8_number_27 : decode cX8_number 27 = .ok (.bipush 57, 2) := by decide +kernel
theorem dX8_number_29 : decode cX8_number 29 = .ok (.invokestatic 32, 3) := by decide +kernel
theorem dX8_number_32 : decode cX8_number 32 = .ok (.ifCond .eq 7, 3) := by decide +kernel
theorem dX8_number_35 : decode cX8_number 35 = .ok (.iconst 1, 1) := by decide +kernel
theorem dX8_number_36 : decode cX8_number 36 = .ok (.goto 4, 3) := by decide +kernel
theorem dX8_number_39 : decode cX8_number 39 = .ok (.iconst 0, 1) := by decide +kernel
theorem dX8_number_40 : decode cX8_number 40 = .ok (.putfield 114, 3) := by decide +kernel
theorem dX8_number_43 : decode cX8_number 43 = .ok (.aload_n 0, 1) := by decide +kernel
theorem dX8_number_44 : decode cX8_number 44 = .ok (.invokevirtual 118, 3) := by decide +kernel
theorem dX8_number_47 : decode cX8_number 47 = .ok (.bipush 48, 2) := by decide +kernel
theorem dX8_number_49 : decode cX8_number 49 = .ok (.isub, 1) := by decide +kernel
theorem dX8_number_50 : decode cX8_number 50 = .ok (.istore_n 2, 1) := by decide +kernel
theorem dX8_number_51 : decode cX8_number 51 = .ok (.aload_n 0, 1) := by decide +kernel
theorem dX8_number_52 : decode cX8_number 52 = .ok (.dup, 1) := by decide +kernel
theorem dX8_number_53 : decode cX8_number 53 = .ok (.getfield 111, 3) := by decide +kernel
theorem dX8_number_56 : decode cX8_number 56 = .ok (.aload_n 0, 1) := by decide +kernel
theorem dX8_number_57 : decode cX8_number 57 = .ok (.getfield 114, 3) := by decide +kernel
theorem dX8_number_60 : decode cX8_number 60 = .ok (.ifCond .eq 7, 3) := by decide +kernel
theorem dX8_number_63 : decode cX8_number 63 = .ok (.iconst 1, 1) := by decide +kernel
theorem dX8_number_64 : decode cX8_number 64 = .ok (.goto 4, 3) := by decide +kernel
theorem dX8_number_67 : decode cX8_number 67 = .ok (.iconst 0, 1) := by decide +kernel
theorem dX8_number_68 : decode cX8_number 68 = .ok (.iadd, 1) := by decide +kernel
theorem dX8_number_69 : decode cX8_number 69 = .ok (.putfield 111, 3) := by decide +kernel
theorem dX8_number_72 : decode cX8_number 72 = .ok (.aload_n 0, 1) := by decide +kernel
theorem dX8_number_73 : decode cX8_number 73 = .ok (.getfield 114, 3) := by decide +kernel
theorem dX8_number_76 : decode cX8_number 76 = .ok (.ifCond .eq 63, 3) := by decide +kernel
theorem dX8_number_79 : decode cX8_number 79 = .ok (.iload_n 2, 1) := by decide +kernel
theorem dX8_number_80 : decode cX8_number 80 = .ok (.ifCond .le 59, 3) := by decide +kernel
theorem dX8_number_83 : decode cX8_number 83 = .ok (.aload_n 0, 1) := by decide +kernel
theorem dX8_number_84 : decode cX8_number 84 = .ok (.invokevirtual 118, 3) := by decide +kernel
theorem dX8_number_87 : decode cX8_number 87 = .ok (.bipush 48, 2) := by decide +kernel
theorem dX8_number_89 : decode cX8_number 89 = .ok (.bipush 57, 2) := by decide +kernel
theorem dX8_number_91 : decode cX8_number 91 = .ok (.invokestatic 32, 3) := by decide +kernel
theorem dX8_number_94 : decode cX8_number 94 = .ok (.ifCond .eq 45, 3) := by decide +kernel
theorem dX8_number_97 : decode cX8_number 97 = .ok (.bipush 10, 2) := by decide +kernel
theorem dX8_number_99 : decode cX8_number 99 = .ok (.iload_n 2, 1) := by decide +kernel
theorem dX8_number_100 : decode cX8_number 100 = .ok (.imul, 1) := by decide +kernel
theorem dX8_number_101 : decode cX8_number 101 = .ok (.aload_n 0, 1) := by decide +kernel
theorem dX8_number_102 : decode cX8_number 102 = .ok (.invokevirtual 118, 3) := by decide +kernel
theorem dX8_number_105 : decode cX8_number 105 = .ok (.iadd, 1) := by decide +kernel
theorem dX8_number_106 : decode cX8_number 106 = .ok (.bipush 48, 2) := by decide +kernel
theorem dX8_number_108 : decode cX8_number 108 = .ok (.isub, 1) := by decide +kernel
theorem dX8_number_109 : decode cX8_number 109 = .ok (.iload_n 1, 1) := by decide +kernel
theorem dX8_number_110 : decode cX8_number 110 = .ok (.if_icmp .gt 29, 3) := by decide +kernel
theorem dX8_number_113 : decode cX8_number 113 = .ok (.bipush 10, 2) := by decide +kernel
theorem dX8_number_115 : decode cX8_number 115 = .ok (.iload_n 2, 1) := by decide +kernel
theorem dX8_number_116 : decode cX8_number 116 = .ok (.imul, 1) := by decide +kernel
theorem dX8_number_117 : decode cX8_number 117 = .ok (.aload_n 0, 1) := by decide +kernel
theorem dX8_number_118 : decode cX8_number 118 = .ok (.invokevirtual 118, 3) := by decide +kernel
theorem dX8_number_121 : decode cX8_number 121 = .ok (.iadd, 1) := by decide +kernel
theorem dX8_number_122 : decode cX8_number 122 = .ok (.bipush 48, 2) := by decide +kernel
theorem dX8_number_124 : decode cX8_number 124 = .ok (.isub, 1) := by decide +kernel
theorem dX8_number_125 : decode cX8_number 125 = .ok (.istore_n 2, 1) := by decide +kernel
theorem dX8_number_126 : decode cX8_number 126 = .ok (.aload_n 0, 1) := by decide +kernel
theorem dX8_number_127 : decode cX8_number 127 = .ok (.dup, 1) := by decide +kernel
theorem dX8_number_128 : decode cX8_number 128 = .ok (.getfield 111, 3) := by decide +kernel
theorem dX8_number_131 : decode cX8_number 131 = .ok (.iconst 1, 1) := by decide +kernel
theorem dX8_number_132 : decode cX8_number 132 = .ok (.iadd, 1) := by decide +kernel
theorem dX8_number_133 : decode cX8_number 133 = .ok (.putfield 111, 3) := by decide +kernel
theorem dX8_number_136 : decode cX8_number 136 = .ok (.goto (-64), 3) := by decide +kernel
theorem dX8_number_139 : decode cX8_number 139 = .ok (.iload_n 2, 1) := by decide +kernel
theorem dX8_number_140 : decode cX8_number 140 = .ok (.ireturn, 1) := by decide +kernel
theorem dX8_readsTap_0 : decode cX8_readsTap 0 = .ok (.iconst 5, 1) := by decide +kernel
theorem dX8_readsTap_1 : decode cX8_readsTap 1 = .ok (.aload_n 0, 1) := by decide +kernel
theorem dX8_readsTap_2 : decode cX8_readsTap 2 = .ok (.getfield 122, 3) := by decide +kernel
theorem dX8_readsTap_5 : decode cX8_readsTap 5 = .ok (.imul, 1) := by decide +kernel
theorem dX8_readsTap_6 : decode cX8_readsTap 6 = .ok (.istore_n 1, 1) := by decide +kernel
theorem dX8_readsTap_7 : decode cX8_readsTap 7 = .ok (.aload_n 0, 1) := by decide +kernel
theorem dX8_readsTap_8 : decode cX8_readsTap 8 = .ok (.getfield 25, 3) := by decide +kernel
theorem dX8_readsTap_11 : decode cX8_readsTap 11 = .ok (.iload_n 1, 1) := by decide +kernel
theorem dX8_readsTap_12 : decode cX8_readsTap 12 = .ok (.aload_n 0, 1) := by decide +kernel
theorem dX8_readsTap_13 : decode cX8_readsTap 13 = .ok (.iconst 3, 1) := by decide +kernel
theorem dX8_readsTap_14 : decode cX8_readsTap 14 = .ok (.invokevirtual 125, 3) := by decide +kernel
theorem dX8_readsTap_17 : decode cX8_readsTap 17 = .ok (.iastore, 1) := by decide +kernel
theorem dX8_readsTap_18 : decode cX8_readsTap 18 = .ok (.aload_n 0, 1) := by decide +kernel
theorem dX8_readsTap_19 : decode cX8_readsTap 19 = .ok (.bipush 100, 2) := by decide +kernel
theorem dX8_readsTap_21 : decode cX8_readsTap 21 = .ok (.invokevirtual 128, 3) := by decide +kernel
theorem dX8_readsTap_24 : decode cX8_readsTap 24 = .ok (.aload_n 0, 1) := by decide +kernel
theorem dX8_readsTap_25 : decode cX8_readsTap 25 = .ok (.getfield 25, 3) := by decide +kernel
theorem dX8_readsTap_28 : decode cX8_readsTap 28 = .ok (.iload_n 1, 1) := by decide +kernel
theorem dX8_readsTap_29 : decode cX8_readsTap 29 = .ok (.iconst 1, 1) := by decide +kernel
theorem dX8_readsTap_30 : decode cX8_readsTap 30 = .ok (.iadd, 1) := by decide +kernel
theorem dX8_readsTap_31 : decode cX8_readsTap 31 = .ok (.aload_n 0, 1) := by decide +kernel
theorem dX8_readsTap_32 : decode cX8_readsTap 32 = .ok (.bipush 27, 2) := by decide +kernel
theorem dX8_readsTap_34 : decode cX8_readsTap 34 = .ok (.invokevirtual 125, 3) := by decide +kernel
theorem dX8_readsTap_37 : decode cX8_readsTap 37 = .ok (.iastore, 1) := by decide +kernel
theorem dX8_readsTap_38 : decode cX8_readsTap 38 = .ok (.aload_n 0, 1) := by decide +kernel
theorem dX8_readsTap_39 : decode cX8_readsTap 39 = .ok (.bipush 58, 2) := by decide +kernel
theorem dX8_readsTap_41 : decode cX8_readsTap 41 = .ok (.invokevirtual 128, 3) := by decide +kernel
theorem dX8_readsTap_44 : decode cX8_readsTap 44 = .ok (.aload_n 0, 1) := by decide +kernel
theorem dX8_readsTap_45 : decode cX8_readsTap 45 = .ok (.getfield 25, 3) := by decide +kernel
theorem dX8_readsTap_48 : decode cX8_readsTap 48 = .ok (.iload_n 1, 1) := by decide +kernel
theorem dX8_readsTap_49 : decode cX8_readsTap 49 = .ok (.iconst 2, 1) := by decide +kernel
theorem dX8_readsTap_50 : decode cX8_readsTap 50 = .ok (.iadd, 1) := by decide +kernel
theorem dX8_readsTap_51 : decode cX8_readsTap 51 = .ok (.aload_n 0, 1) := by decide +kernel
theorem dX8_readsTap_52 : decode cX8_readsTap 52 = .ok (.sipush 1439, 3) := by decide +kernel
theorem dX8_readsTap_55 : decode cX8_readsTap 55 = .ok (.invokevirtual 125, 3) := by decide +kernel
theorem dX8_readsTap_58 : decode cX8_readsTap 58 = .ok (.iastore, 1) := by decide +kernel
theorem dX8_readsTap_59 : decode cX8_readsTap 59 = .ok (.aload_n 0, 1) := by decide +kernel
theorem dX8_readsTap_60 : decode cX8_readsTap 60 = .ok (.invokevirtual 118, 3) := by decide +kernel
theorem dX8_readsTap_63 : decode cX8_readsTap 63 = .ok (.istore_n 2, 1) := by decide +kernel
theorem dX8_readsTap_64 : decode cX8_readsTap 64 = .ok (.aload_n 0, 1) := by decide +kernel
theorem dX8_readsTap_65 : decode cX8_readsTap 65 = .ok (.aload_n 0, 1) := by decide +kernel
theorem dX8_readsTap_66 : decode cX8_readsTap 66 = .ok (.getfield 114, 3) := by decide +kernel
theorem dX8_readsTap_69 : decode cX8_readsTap 69 = .ok (.ifCond .eq 19, 3) := by decide +kernel
theorem dX8_readsTap_72 : decode cX8_readsTap 72 = .ok (.iload_n 2, 1) := by decide +kernel
theorem dX8_readsTap_73 : decode cX8_readsTap 73 = .ok (.bipush 43, 2) := by decide +kernel
theorem dX8_readsTap_75 : decode cX8_readsTap 75 = .ok (.if_icmp .eq 9, 3) := by decide +kernel
theorem dX8_readsTap_78 : decode cX8_readsTap 78 = .ok (.iload_n 2, 1) := by decide +kernel
theorem dX8_readsTap_79 : decode cX8_readsTap 79 = .ok (.bipush 45, 2) := by decide +kernel
theorem dX8_readsTap_81 : decode cX8_readsTap 81 = .ok (.if_icmp .ne 7, 3) := by decide +kernel
theorem dX8_readsTap_84 : decode cX8_readsTap 84 = .ok (.iconst 1, 1) := by decide +kernel
theorem dX8_readsTap_85 : decode cX8_readsTap 85 = .ok (.goto 4, 3) := by decide +kernel
theorem dX8_readsTap_88 : decode cX8_readsTap 88 = .ok (.iconst 0, 1) := by decide +kernel
theorem dX8_readsTap_89 : decode cX8_readsTap 89 = .ok (.putfield 114, 3) := by decide +kernel
theorem dX8_readsTap_92 : decode cX8_readsTap 92 = .ok (.aload_n 0, 1) := by decide +kernel
theorem dX8_readsTap_93 : decode cX8_readsTap 93 = .ok (.dup, 1) := by decide +kernel
theorem dX8_readsTap_94 : decode cX8_readsTap 94 = .ok (.getfield 111, 3) := by decide +kernel
theorem dX8_readsTap_97 : decode cX8_readsTap 97 = .ok (.aload_n 0, 1) := by decide +kernel
theorem dX8_readsTap_98 : decode cX8_readsTap 98 = .ok (.getfield 114, 3) := by decide +kernel
theorem dX8_readsTap_101 : decode cX8_readsTap 101 = .ok (.ifCond .eq 7, 3) := by decide +kernel
theorem dX8_readsTap_104 : decode cX8_readsTap 104 = .ok (.iconst 1, 1) := by decide +kernel
theorem dX8_readsTap_105 : decode cX8_readsTap 105 = .ok (.goto 4, 3) := by decide +kernel
theorem dX8_readsTap_108 : decode cX8_readsTap 108 = .ok (.iconst 0, 1) := by decide +kernel
theorem dX8_readsTap_109 : decode cX8_readsTap 109 = .ok (.iadd, 1) := by decide +kernel
theorem dX8_readsTap_110 : decode cX8_readsTap 110 = .ok (.putfield 111, 3) := by decide +kernel
theorem dX8_readsTap_113 : decode cX8_readsTap 113 = .ok (.aload_n 0, 1) := by decide +kernel
theorem dX8_readsTap_114 : decode cX8_readsTap 114 = .ok (.getfield 25, 3) := by decide +kernel
theorem dX8_readsTap_117 : decode cX8_readsTap 117 = .ok (.iload_n 1, 1) := by decide +kernel
theorem dX8_readsTap_118 : decode cX8_readsTap 118 = .ok (.iconst 4, 1) := by decide +kernel
theorem dX8_readsTap_119 : decode cX8_readsTap 119 = .ok (.iadd, 1) := by decide +kernel
theorem dX8_readsTap_120 : decode cX8_readsTap 120 = .ok (.iload_n 2, 1) := by decide +kernel
theorem dX8_readsTap_121 : decode cX8_readsTap 121 = .ok (.bipush 43, 2) := by decide +kernel
theorem dX8_readsTap_123 : decode cX8_readsTap 123 = .ok (.if_icmp .ne 7, 3) := by decide +kernel
theorem dX8_readsTap_126 : decode cX8_readsTap 126 = .ok (.iconst 1, 1) := by decide +kernel
theorem dX8_readsTap_127 : decode cX8_readsTap 127 = .ok (.goto 4, 3) := by decide +kernel
theorem dX8_readsTap_130 : decode cX8_readsTap 130 = .ok (.iconst 0, 1) := by decide +kernel
theorem dX8_readsTap_131 : decode cX8_readsTap 131 = .ok (.iastore, 1) := by decide +kernel
theorem dX8_readsTap_132 : decode cX8_readsTap 132 = .ok (.aload_n 0, 1) := by decide +kernel
theorem dX8_readsTap_133 : decode cX8_readsTap 133 = .ok (.getfield 25, 3) := by decide +kernel
theorem dX8_readsTap_136 : decode cX8_readsTap 136 = .ok (.iload_n 1, 1) := by decide +kernel
theorem dX8_readsTap_137 : decode cX8_readsTap 137 = .ok (.iconst 3, 1) := by decide +kernel
theorem dX8_readsTap_138 : decode cX8_readsTap 138 = .ok (.iadd, 1) := by decide +kernel
theorem dX8_readsTap_139 : decode cX8_readsTap 139 = .ok (.aload_n 0, 1) := by decide +kernel
theorem dX8_readsTap_140 : decode cX8_readsTap 140 = .ok (.bipush 9, 2) := by decide +kernel
theorem dX8_readsTap_142 : decode cX8_readsTap 142 = .ok (.invokevirtual 125, 3) := by decide +kernel
theorem dX8_readsTap_145 : decode cX8_readsTap 145 = .ok (.iastore, 1) := by decide +kernel
theorem dX8_readsTap_146 : decode cX8_readsTap 146 = .ok (.aload_n 0, 1) := by decide +kernel
theorem dX8_readsTap_147 : decode cX8_readsTap 147 = .ok (.dup, 1) := by decide +kernel
theorem dX8_readsTap_148 : decode cX8_readsTap 148 = .ok (.getfield 122, 3) := by decide +kernel
theorem dX8_readsTap_151 : decode cX8_readsTap 151 = .ok (.aload_n 0, 1) := by decide +kernel
theorem dX8_readsTap_152 : decode cX8_readsTap 152 = .ok (.getfield 114, 3) := by decide +kernel
theorem dX8_readsTap_155 : decode cX8_readsTap 155 = .ok (.ifCond .eq 7, 3) := by decide +kernel
theorem dX8_readsTap_158 : decode cX8_readsTap 158 = .ok (.iconst 1, 1) := by decide +kernel
theorem dX8_readsTap_159 : decode cX8_readsTap 159 = .ok (.goto 4, 3) := by decide +kernel
theorem dX8_readsTap_162 : decode cX8_readsTap 162 = .ok (.iconst 0, 1) := by decide +kernel
theorem dX8_readsTap_163 : decode cX8_readsTap 163 = .ok (.iadd, 1) := by decide +kernel
theorem dX8_readsTap_164 : decode cX8_readsTap 164 = .ok (.putfield 122, 3) := by decide +kernel
theorem dX8_readsTap_167 : decode cX8_readsTap 167 = .ok (.return_, 1) := by decide +kernel
theorem dX8_readsAll_0 : decode cX8_readsAll 0 = .ok (.aload_n 0, 1) := by decide +kernel
theorem dX8_readsAll_1 : decode cX8_readsAll 1 = .ok (.iconst 0, 1) := by decide +kernel
theorem dX8_readsAll_2 : decode cX8_readsAll 2 = .ok (.putfield 111, 3) := by decide +kernel
theorem dX8_readsAll_5 : decode cX8_readsAll 5 = .ok (.aload_n 0, 1) := by decide +kernel
theorem dX8_readsAll_6 : decode cX8_readsAll 6 = .ok (.iconst 1, 1) := by decide +kernel
theorem dX8_readsAll_7 : decode cX8_readsAll 7 = .ok (.putfield 114, 3) := by decide +kernel
theorem dX8_readsAll_10 : decode cX8_readsAll 10 = .ok (.aload_n 0, 1) := by decide +kernel
theorem dX8_readsAll_11 : decode cX8_readsAll 11 = .ok (.iconst 0, 1) := by decide +kernel
theorem dX8_readsAll_12 : decode cX8_readsAll 12 = .ok (.putfield 122, 3) := by decide +kernel
theorem dX8_readsAll_15 : decode cX8_readsAll 15 = .ok (.aload_n 0, 1) := by decide +kernel
theorem dX8_readsAll_16 : decode cX8_readsAll 16 = .ok (.invokevirtual 132, 3) := by decide +kernel
theorem dX8_readsAll_19 : decode cX8_readsAll 19 = .ok (.aload_n 0, 1) := by decide +kernel
theorem dX8_readsAll_20 : decode cX8_readsAll 20 = .ok (.getfield 114, 3) := by decide +kernel
theorem dX8_readsAll_23 : decode cX8_readsAll 23 = .ok (.ifCond .eq 34, 3) := by decide +kernel
theorem dX8_readsAll_26 : decode cX8_readsAll 26 = .ok (.aload_n 0, 1) := by decide +kernel
theorem dX8_readsAll_27 : decode cX8_readsAll 27 = .ok (.getfield 111, 3) := by decide +kernel
theorem dX8_readsAll_30 : decode cX8_readsAll 30 = .ok (.aload_n 0, 1) := by decide +kernel
theorem dX8_readsAll_31 : decode cX8_readsAll 31 = .ok (.getfield 108, 3) := by decide +kernel
theorem dX8_readsAll_34 : decode cX8_readsAll 34 = .ok (.if_icmp .ge 23, 3) := by decide +kernel
theorem dX8_readsAll_37 : decode cX8_readsAll 37 = .ok (.aload_n 0, 1) := by decide +kernel
theorem dX8_readsAll_38 : decode cX8_readsAll 38 = .ok (.bipush 59, 2) := by decide +kernel
theorem dX8_readsAll_40 : decode cX8_readsAll 40 = .ok (.invokevirtual 128, 3) := by decide +kernel
theorem dX8_readsAll_43 : decode cX8_readsAll 43 = .ok (.aload_n 0, 1) := by decide +kernel
theorem dX8_readsAll_44 : decode cX8_readsAll 44 = .ok (.getfield 114, 3) := by decide +kernel
theorem dX8_readsAll_47 : decode cX8_readsAll 47 = .ok (.ifCond .eq (-28), 3) := by decide +kernel
theorem dX8_readsAll_50 : decode cX8_readsAll 50 = .ok (.aload_n 0, 1) := by decide +kernel
theorem dX8_readsAll_51 : decode cX8_readsAll 51 = .ok (.invokevirtual 132, 3) := by decide +kernel
theorem dX8_readsAll_54 : decode cX8_readsAll 54 = .ok (.goto (-35), 3) := by decide +kernel
theorem dX8_readsAll_57 : decode cX8_readsAll 57 = .ok (.return_, 1) := by decide +kernel
theorem dX8_firstError_0 : decode cX8_firstError 0 = .ok (.aload_n 0, 1) := by decide +kernel
theorem dX8_firstError_1 : decode cX8_firstError 1 = .ok (.iconst 0, 1) := by decide +kernel
theorem dX8_firstError_2 : decode cX8_firstError 2 = .ok (.putfield 28, 3) := by decide +kernel
theorem dX8_firstError_5 : decode cX8_firstError 5 = .ok (.aload_n 0, 1) := by decide +kernel
theorem dX8_firstError_6 : decode cX8_firstError 6 = .ok (.invokevirtual 135, 3) := by decide +kernel
theorem dX8_firstError_9 : decode cX8_firstError 9 = .ok (.aload_n 0, 1) := by decide +kernel
theorem dX8_firstError_10 : decode cX8_firstError 10 = .ok (.getfield 111, 3) := by decide +kernel
theorem dX8_firstError_13 : decode cX8_firstError 13 = .ok (.ireturn, 1) := by decide +kernel
theorem dX8_load_0 : decode cX8_load 0 = .ok (.aload_n 0, 1) := by decide +kernel
theorem dX8_load_1 : decode cX8_load 1 = .ok (.iconst 0, 1) := by decide +kernel
theorem dX8_load_2 : decode cX8_load 2 = .ok (.putfield 28, 3) := by decide +kernel
theorem dX8_load_5 : decode cX8_load 5 = .ok (.aload_n 0, 1) := by decide +kernel
theorem dX8_load_6 : decode cX8_load 6 = .ok (.invokevirtual 135, 3) := by decide +kernel
theorem dX8_load_9 : decode cX8_load 9 = .ok (.aload_n 0, 1) := by decide +kernel
theorem dX8_load_10 : decode cX8_load 10 = .ok (.getfield 114, 3) := by decide +kernel
theorem dX8_load_13 : decode cX8_load 13 = .ok (.ifCond .ne 9, 3) := by decide +kernel
theorem dX8_load_16 : decode cX8_load 16 = .ok (.aload_n 0, 1) := by decide +kernel
theorem dX8_load_17 : decode cX8_load 17 = .ok (.iconst 1, 1) := by decide +kernel
theorem dX8_load_18 : decode cX8_load 18 = .ok (.invokevirtual 74, 3) := by decide +kernel
theorem dX8_load_21 : decode cX8_load 21 = .ok (.ireturn, 1) := by decide +kernel
theorem dX8_load_22 : decode cX8_load 22 = .ok (.aload_n 0, 1) := by decide +kernel
theorem dX8_load_23 : decode cX8_load 23 = .ok (.invokevirtual 77, 3) := by decide +kernel
