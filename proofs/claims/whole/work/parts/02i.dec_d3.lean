/-! decode rows, printed by program -/
theorem dX8_hashesWallet_36 : decode cX8_hashesWallet 36 = .ok (.aload_n 0, 1) := by decide +kernel
theorem dX8_hashesWallet_37 : decode cX8_hashesWallet 37 = .ok (.iload_n 1, 1) := by decide +kernel
theorem dX8_hashesWallet_38 : decode cX8_hashesWallet 38 = .ok (.iload_n 2, 1) := by decide +kernel
theorem dX8_hashesWallet_39 : decode cX8_hashesWallet 39 = .ok (.bipush 7, 2) := by decide +kernel
theorem dX8_hashesWallet_41 : decode cX8_hashesWallet 41 = .ok (.idiv, 1) := by decide +kernel
theorem dX8_hashesWallet_42 : decode cX8_hashesWallet 42 = .ok (.iload_n 2, 1) := by decide +kernel
theorem dX8_hashesWallet_43 : decode cX8_hashesWallet 43 = .ok (.bipush 7, 2) := by decide +kernel
theorem dX8_hashesWallet_45 : decode cX8_hashesWallet 45 = .ok (.irem, 1) := by decide +kernel
theorem dX8_hashesWallet_46 : decode cX8_hashesWallet 46 = .ok (.invokevirtual 141, 3) := by decide +kernel
theorem dX8_hashesWallet_49 : decode cX8_hashesWallet 49 = .ok (.i2l, 1) := by decide +kernel
theorem dX8_hashesWallet_50 : decode cX8_hashesWallet 50 = .ok (.invokevirtual 179, 3) := by decide +kernel
theorem dX8_hashesWallet_53 : decode cX8_hashesWallet 53 = .ok (.iinc 2 1, 3) := by decide +kernel
theorem dX8_hashesWallet_56 : decode cX8_hashesWallet 56 = .ok (.goto (-27), 3) := by decide +kernel
theorem dX8_hashesWallet_59 : decode cX8_hashesWallet 59 = .ok (.iconst 0, 1) := by decide +kernel
theorem dX8_hashesWallet_60 : decode cX8_hashesWallet 60 = .ok (.istore_n 2, 1) := by decide +kernel
theorem dX8_hashesWallet_61 : decode cX8_hashesWallet 61 = .ok (.iload_n 2, 1) := by decide +kernel
theorem dX8_hashesWallet_62 : decode cX8_hashesWallet 62 = .ok (.bipush 16, 2) := by decide +kernel
theorem dX8_hashesWallet_64 : decode cX8_hashesWallet 64 = .ok (.if_icmp .ge 25, 3) := by decide +kernel
theorem dX8_hashesWallet_67 : decode cX8_hashesWallet 67 = .ok (.aload_n 0, 1) := by decide +kernel
theorem dX8_hashesWallet_68 : decode cX8_hashesWallet 68 = .ok (.aload_n 0, 1) := by decide +kernel
theorem dX8_hashesWallet_69 : decode cX8_hashesWallet 69 = .ok (.iload_n 1, 1) := by decide +kernel
theorem dX8_hashesWallet_70 : decode cX8_hashesWallet 70 = .ok (.iload_n 2, 1) := by decide +kernel
theorem dX8_hashesWallet_71 : decode cX8_hashesWallet 71 = .ok (.iconst 2, 1) := by decide +kernel
theorem dX8_hashesWallet_72 : decode cX8_hashesWallet 72 = .ok (.idiv, 1) := by decide +kernel
theorem dX8_hashesWallet_73 : decode cX8_hashesWallet 73 = .ok (.iload_n 2, 1) := by decide +kernel
theorem dX8_hashesWallet_74 : decode cX8_hashesWallet 74 = .ok (.iconst 2, 1) := by decide +kernel
theorem dX8_hashesWallet_75 : decode cX8_hashesWallet 75 = .ok (.irem, 1) := by decide +kernel
theorem dX8_hashesWallet_76 : decode cX8_hashesWallet 76 = .ok (.invokevirtual 156, 3) := by decide +kernel
theorem dX8_hashesWallet_79 : decode cX8_hashesWallet 79 = .ok (.i2l, 1) := by decide +kernel
theorem dX8_hashesWallet_80 : decode cX8_hashesWallet 80 = .ok (.invokevirtual 179, 3) := by decide +kernel
theorem dX8_hashesWallet_83 : decode cX8_hashesWallet 83 = .ok (.iinc 2 1, 3) := by decide +kernel
theorem dX8_hashesWallet_86 : decode cX8_hashesWallet 86 = .ok (.goto (-25), 3) := by decide +kernel
theorem dX8_hashesWallet_89 : decode cX8_hashesWallet 89 = .ok (.return_, 1) := by decide +kernel
theorem dX8_digest_0 : decode cX8_digest 0 = .ok (.aload_n 0, 1) := by decide +kernel
theorem dX8_digest_1 : decode cX8_digest 1 = .ok (.iconst 0, 1) := by decide +kernel
theorem dX8_digest_2 : decode cX8_digest 2 = .ok (.putfield 28, 3) := by decide +kernel
theorem dX8_digest_5 : decode cX8_digest 5 = .ok (.aload_n 0, 1) := by decide +kernel
theorem dX8_digest_6 : decode cX8_digest 6 = .ok (.ldc2_w 187, 3) := by decide +kernel
theorem dX8_digest_9 : decode cX8_digest 9 = .ok (.putfield 175, 3) := by decide +kernel
theorem dX8_digest_12 : decode cX8_digest 12 = .ok (.iconst 0, 1) := by decide +kernel
theorem dX8_digest_13 : decode cX8_digest 13 = .ok (.istore_n 1, 1) := by decide +kernel
theorem dX8_digest_14 : decode cX8_digest 14 = .ok (.iload_n 1, 1) := by decide +kernel
theorem dX8_digest_15 : decode cX8_digest 15 = .ok (.bipush 10, 2) := by decide +kernel
theorem dX8_digest_17 : decode cX8_digest 17 = .ok (.if_icmp .ge 19, 3) := by decide +kernel
theorem dX8_digest_20 : decode cX8_digest 20 = .ok (.aload_n 0, 1) := by decide +kernel
theorem dX8_digest_21 : decode cX8_digest 21 = .ok (.aload_n 0, 1) := by decide +kernel
theorem dX8_digest_22 : decode cX8_digest 22 = .ok (.iload_n 1, 1) := by decide +kernel
theorem dX8_digest_23 : decode cX8_digest 23 = .ok (.invokevirtual 153, 3) := by decide +kernel
theorem dX8_digest_26 : decode cX8_digest 26 = .ok (.i2l, 1) := by decide +kernel
theorem dX8_digest_27 : decode cX8_digest 27 = .ok (.invokevirtual 179, 3) := by decide +kernel
theorem dX8_digest_30 : decode cX8_digest 30 = .ok (.iinc 1 1, 3) := by decide +kernel
theorem dX8_digest_33 : decode cX8_digest 33 = .ok (.goto (-19), 3) := by decide +kernel
theorem dX8_digest_36 : decode cX8_digest 36 = .ok (.iconst 0, 1) := by decide +kernel
theorem dX8_digest_37 : decode cX8_digest 37 = .ok (.istore_n 1, 1) := by decide +kernel
theorem dX8_digest_38 : decode cX8_digest 38 = .ok (.iload_n 1, 1) := by decide +kernel
theorem dX8_digest_39 : decode cX8_digest 39 = .ok (.bipush 6, 2) := by decide +kernel
theorem dX8_digest_41 : decode cX8_digest 41 = .ok (.if_icmp .ge 20, 3) := by decide +kernel
theorem dX8_digest_44 : decode cX8_digest 44 = .ok (.aload_n 0, 1) := by decide +kernel
theorem dX8_digest_45 : decode cX8_digest 45 = .ok (.aload_n 0, 1) := by decide +kernel
theorem dX8_digest_46 : decode cX8_digest 46 = .ok (.getfield 7, 3) := by decide +kernel
theorem dX8_digest_49 : decode cX8_digest 49 = .ok (.iload_n 1, 1) := by decide +kernel
theorem dX8_digest_50 : decode cX8_digest 50 = .ok (.iaload, 1) := by decide +kernel
theorem dX8_digest_51 : decode cX8_digest 51 = .ok (.i2l, 1) := by decide +kernel
theorem dX8_digest_52 : decode cX8_digest 52 = .ok (.invokevirtual 179, 3) := by decide +kernel
theorem dX8_digest_55 : decode cX8_digest 55 = .ok (.iinc 1 1, 3) := by decide +kernel
theorem dX8_digest_58 : decode cX8_digest 58 = .ok (.goto (-20), 3) := by decide +kernel
theorem dX8_digest_61 : decode cX8_digest 61 = .ok (.aload_n 0, 1) := by decide +kernel
theorem dX8_digest_62 : decode cX8_digest 62 = .ok (.invokevirtual 50, 3) := by decide +kernel
theorem dX8_digest_65 : decode cX8_digest 65 = .ok (.iconst 0, 1) := by decide +kernel
theorem dX8_digest_66 : decode cX8_digest 66 = .ok (.istore_n 1, 1) := by decide +kernel
theorem dX8_digest_67 : decode cX8_digest 67 = .ok (.iload_n 1, 1) := by decide +kernel
theorem dX8_digest_68 : decode cX8_digest 68 = .ok (.bipush 8, 2) := by decide +kernel
theorem dX8_digest_70 : decode cX8_digest 70 = .ok (.aload_n 0, 1) := by decide +kernel
theorem dX8_digest_71 : decode cX8_digest 71 = .ok (.getfield 7, 3) := by decide +kernel
theorem dX8_digest_74 : decode cX8_digest 74 = .ok (.bipush 9, 2) := by decide +kernel
theorem dX8_digest_76 : decode cX8_digest 76 = .ok (.iaload, 1) := by decide +kernel
theorem dX8_digest_77 : decode cX8_digest 77 = .ok (.imul, 1) := by decide +kernel
theorem dX8_digest_78 : decode cX8_digest 78 = .ok (.if_icmp .ge 26, 3) := by decide +kernel
theorem dX8_digest_81 : decode cX8_digest 81 = .ok (.aload_n 0, 1) := by decide +kernel
theorem dX8_digest_82 : decode cX8_digest 82 = .ok (.aload_n 0, 1) := by decide +kernel
theorem dX8_digest_83 : decode cX8_digest 83 = .ok (.iload_n 1, 1) := by decide +kernel
theorem dX8_digest_84 : decode cX8_digest 84 = .ok (.bipush 8, 2) := by decide +kernel
theorem dX8_digest_86 : decode cX8_digest 86 = .ok (.idiv, 1) := by decide +kernel
theorem dX8_digest_87 : decode cX8_digest 87 = .ok (.iload_n 1, 1) := by decide +kernel
theorem dX8_digest_88 : decode cX8_digest 88 = .ok (.bipush 8, 2) := by decide +kernel
theorem dX8_digest_90 : decode cX8_digest 90 = .ok (.irem, 1) := by decide +kernel
theorem dX8_digest_91 : decode cX8_digest 91 = .ok (.invokevirtual 138, 3) := by decide +kernel
theorem dX8_digest_94 : decode cX8_digest 94 = .ok (.i2l, 1) := by decide +kernel
theorem dX8_digest_95 : decode cX8_digest 95 = .ok (.invokevirtual 179, 3) := by decide +kernel
theorem dX8_digest_98 : decode cX8_digest 98 = .ok (.iinc 1 1, 3) := by decide +kernel
theorem dX8_digest_101 : decode cX8_digest 101 = .ok (.goto (-34), 3) := by decide +kernel
theorem dX8_digest_104 : decode cX8_digest 104 = .ok (.iconst 0, 1) := by decide +kernel
theorem dX8_digest_105 : decode cX8_digest 105 = .ok (.istore_n 1, 1) := by decide +kernel
theorem dX8_digest_106 : decode cX8_digest 106 = .ok (.iload_n 1, 1) := by decide +kernel
theorem dX8_digest_107 : decode cX8_digest 107 = .ok (.iconst 4, 1) := by decide +kernel
theorem dX8_digest_108 : decode cX8_digest 108 = .ok (.if_icmp .ge 14, 3) := by decide +kernel
theorem dX8_digest_111 : decode cX8_digest 111 = .ok (.aload_n 0, 1) := by decide +kernel
theorem dX8_digest_112 : decode cX8_digest 112 = .ok (.iload_n 1, 1) := by decide +kernel
theorem dX8_digest_113 : decode cX8_digest 113 = .ok (.invokevirtual 189, 3) := by decide +kernel
theorem dX8_digest_116 : decode cX8_digest 116 = .ok (.iinc 1 1, 3) := by decide +kernel
theorem dX8_digest_119 : decode cX8_digest 119 = .ok (.goto (-13), 3) := by decide +kernel
theorem dX8_digest_122 : decode cX8_digest 122 = .ok (.iconst 0, 1) := by decide +kernel
theorem dX8_digest_123 : decode cX8_digest 123 = .ok (.istore_n 1, 1) := by decide +kernel
theorem dX8_digest_124 : decode cX8_digest 124 = .ok (.iload_n 1, 1) := by decide +kernel
theorem dX8_digest_125 : decode cX8_digest 125 = .ok (.iconst 4, 1) := by decide +kernel
theorem dX8_digest_126 : decode cX8_digest 126 = .ok (.if_icmp .ge 26, 3) := by decide +kernel
theorem dX8_digest_129 : decode cX8_digest 129 = .ok (.aload_n 0, 1) := by decide +kernel
theorem dX8_digest_130 : decode cX8_digest 130 = .ok (.aload_n 0, 1) := by decide +kernel
theorem dX8_digest_131 : decode cX8_digest 131 = .ok (.iload_n 1, 1) := by decide +kernel
theorem dX8_digest_132 : decode cX8_digest 132 = .ok (.bipush 6, 2) := by decide +kernel
theorem dX8_digest_134 : decode cX8_digest 134 = .ok (.sipush 500, 3) := by decide +kernel
theorem dX8_digest_137 : decode cX8_digest 137 = .ok (.iconst 4, 1) := by decide +kernel
theorem dX8_digest_138 : decode cX8_digest 138 = .ok (.iconst 1, 1) := by decide +kernel
theorem dX8_digest_139 : decode cX8_digest 139 = .ok (.invokevirtual 159, 3) := by decide +kernel
theorem dX8_digest_142 : decode cX8_digest 142 = .ok (.i2l, 1) := by decide +kernel
theorem dX8_digest_143 : decode cX8_digest 143 = .ok (.invokevirtual 179, 3) := by decide +kernel
theorem dX8_digest_146 : decode cX8_digest 146 = .ok (.iinc 1 1, 3) := by decide +kernel
theorem dX8_digest_149 : decode cX8_digest 149 = .ok (.goto (-25), 3) := by decide +kernel
theorem dX8_digest_152 : decode cX8_digest 152 = .ok (.aload_n 0, 1) := by decide +kernel
theorem dX8_digest_153 : decode cX8_digest 153 = .ok (.aload_n 0, 1) := by decide +kernel
theorem dX8_digest_154 : decode cX8_digest 154 = .ok (.invokevirtual 163, 3) := by decide +kernel
theorem dX8_digest_157 : decode cX8_digest 157 = .ok (.i2l, 1) := by decide +kernel
theorem dX8_digest_158 : decode cX8_digest 158 = .ok (.invokevirtual 179, 3) := by decide +kernel
theorem dX8_digest_161 : decode cX8_digest 161 = .ok (.aload_n 0, 1) := by decide +kernel
theorem dX8_digest_162 : decode cX8_digest 162 = .ok (.aload_n 0, 1) := by decide +kernel
theorem dX8_digest_163 : decode cX8_digest 163 = .ok (.invokevirtual 166, 3) := by decide +kernel
theorem dX8_digest_166 : decode cX8_digest 166 = .ok (.i2l, 1) := by decide +kernel
theorem dX8_digest_167 : decode cX8_digest 167 = .ok (.invokevirtual 179, 3) := by decide +kernel
theorem dX8_digest_170 : decode cX8_digest 170 = .ok (.aload_n 0, 1) := by decide +kernel
theorem dX8_digest_171 : decode cX8_digest 171 = .ok (.aload_n 0, 1) := by decide +kernel
theorem dX8_digest_172 : decode cX8_digest 172 = .ok (.invokevirtual 169, 3) := by decide +kernel
theorem dX8_digest_175 : decode cX8_digest 175 = .ok (.invokestatic 192, 3) := by decide +kernel
theorem dX8_digest_178 : decode cX8_digest 178 = .ok (.invokevirtual 179, 3) := by decide +kernel
theorem dX8_digest_181 : decode cX8_digest 181 = .ok (.aload_n 0, 1) := by decide +kernel
theorem dX8_digest_182 : decode cX8_digest 182 = .ok (.aload_n 0, 1) := by decide +kernel
theorem dX8_digest_183 : decode cX8_digest 183 = .ok (.getfield 108, 3) := by decide +kernel
theorem dX8_digest_186 : decode cX8_digest 186 = .ok (.i2l, 1) := by decide +kernel
theorem dX8_digest_187 : decode cX8_digest 187 = .ok (.invokevirtual 179, 3) := by decide +kernel
theorem dX8_digest_190 : decode cX8_digest 190 = .ok (.iconst 0, 1) := by decide +kernel
theorem dX8_digest_191 : decode cX8_digest 191 = .ok (.istore_n 1, 1) := by decide +kernel
theorem dX8_digest_192 : decode cX8_digest 192 = .ok (.iload_n 1, 1) := by decide +kernel
theorem dX8_digest_193 : decode cX8_digest 193 = .ok (.aload_n 0, 1) := by decide +kernel
theorem dX8_digest_194 : decode cX8_digest 194 = .ok (.getfield 108, 3) := by decide +kernel
theorem dX8_digest_197 : decode cX8_digest 197 = .ok (.if_icmp .ge 20, 3) := by decide +kernel
theorem dX8_digest_200 : decode cX8_digest 200 = .ok (.aload_n 0, 1) := by decide +kernel
theorem dX8_digest_201 : decode cX8_digest 201 = .ok (.aload_n 0, 1) := by decide +kernel
theorem dX8_digest_202 : decode cX8_digest 202 = .ok (.getfield 19, 3) := by decide +kernel
theorem dX8_digest_205 : decode cX8_digest 205 = .ok (.iload_n 1, 1) := by decide +kernel
theorem dX8_digest_206 : decode cX8_digest 206 = .ok (.iaload, 1) := by decide +kernel
theorem dX8_digest_207 : decode cX8_digest 207 = .ok (.i2l, 1) := by decide +kernel
theorem dX8_digest_208 : decode cX8_digest 208 = .ok (.invokevirtual 179, 3) := by decide +kernel
theorem dX8_digest_211 : decode cX8_digest 211 = .ok (.iinc 1 1, 3) := by decide +kernel
theorem dX8_digest_214 : decode cX8_digest 214 = .ok (.goto (-22), 3) := by decide +kernel
theorem dX8_digest_217 : decode cX8_digest 217 = .ok (.aload_n 0, 1) := by decide +kernel
theorem dX8_digest_218 : decode cX8_digest 218 = .ok (.getfield 175, 3) := by decide +kernel
theorem dX8_digest_221 : decode cX8_digest 221 = .ok (.lreturn, 1) := by decide +kernel
