/-! decode rows, printed by program -/
theorem dX7_weekNumber_66 : decode cX7_weekNumber 66 = .ok (.aload_n 0, 1) := by decide +kernel
theorem dX7_weekNumber_67 : decode cX7_weekNumber 67 = .ok (.getfield 19, 3) := by decide +kernel
theorem dX7_weekNumber_70 : decode cX7_weekNumber 70 = .ok (.iload_n 1, 1) := by decide +kernel
theorem dX7_weekNumber_71 : decode cX7_weekNumber 71 = .ok (.iload_n 2, 1) := by decide +kernel
theorem dX7_weekNumber_72 : decode cX7_weekNumber 72 = .ok (.invokevirtual 324, 3) := by decide +kernel
theorem dX7_weekNumber_75 : decode cX7_weekNumber 75 = .ok (.ireturn, 1) := by decide +kernel
theorem dX7_weekNumber_76 : decode cX7_weekNumber 76 = .ok (.aload_n 0, 1) := by decide +kernel
theorem dX7_weekNumber_77 : decode cX7_weekNumber 77 = .ok (.getfield 19, 3) := by decide +kernel
theorem dX7_weekNumber_80 : decode cX7_weekNumber 80 = .ok (.iload_n 1, 1) := by decide +kernel
theorem dX7_weekNumber_81 : decode cX7_weekNumber 81 = .ok (.iload_n 2, 1) := by decide +kernel
theorem dX7_weekNumber_82 : decode cX7_weekNumber 82 = .ok (.invokevirtual 135, 3) := by decide +kernel
theorem dX7_weekNumber_85 : decode cX7_weekNumber 85 = .ok (.ireturn, 1) := by decide +kernel
theorem dX7_weekNumber_86 : decode cX7_weekNumber 86 = .ok (.aload_n 0, 1) := by decide +kernel
theorem dX7_weekNumber_87 : decode cX7_weekNumber 87 = .ok (.getfield 10, 3) := by decide +kernel
theorem dX7_weekNumber_90 : decode cX7_weekNumber 90 = .ok (.getfield 327, 3) := by decide +kernel
theorem dX7_weekNumber_93 : decode cX7_weekNumber 93 = .ok (.iload_n 1, 1) := by decide +kernel
theorem dX7_weekNumber_94 : decode cX7_weekNumber 94 = .ok (.iload_n 2, 1) := by decide +kernel
theorem dX7_weekNumber_95 : decode cX7_weekNumber 95 = .ok (.invokestatic 277, 3) := by decide +kernel
theorem dX7_weekNumber_98 : decode cX7_weekNumber 98 = .ok (.invokestatic 148, 3) := by decide +kernel
theorem dX7_weekNumber_101 : decode cX7_weekNumber 101 = .ok (.ireturn, 1) := by decide +kernel
theorem dX7_weekNumber_102 : decode cX7_weekNumber 102 = .ok (.aload_n 0, 1) := by decide +kernel
theorem dX7_weekNumber_103 : decode cX7_weekNumber 103 = .ok (.getfield 10, 3) := by decide +kernel
theorem dX7_weekNumber_106 : decode cX7_weekNumber 106 = .ok (.getfield 268, 3) := by decide +kernel
theorem dX7_weekNumber_109 : decode cX7_weekNumber 109 = .ok (.iload_n 1, 1) := by decide +kernel
theorem dX7_weekNumber_110 : decode cX7_weekNumber 110 = .ok (.iload_n 2, 1) := by decide +kernel
theorem dX7_weekNumber_111 : decode cX7_weekNumber 111 = .ok (.invokestatic 277, 3) := by decide +kernel
theorem dX7_weekNumber_114 : decode cX7_weekNumber 114 = .ok (.invokestatic 148, 3) := by decide +kernel
theorem dX7_weekNumber_117 : decode cX7_weekNumber 117 = .ok (.ireturn, 1) := by decide +kernel
theorem dX7_weekNumber_118 : decode cX7_weekNumber 118 = .ok (.aload_n 0, 1) := by decide +kernel
theorem dX7_weekNumber_119 : decode cX7_weekNumber 119 = .ok (.getfield 10, 3) := by decide +kernel
theorem dX7_weekNumber_122 : decode cX7_weekNumber 122 = .ok (.getfield 330, 3) := by decide +kernel
theorem dX7_weekNumber_125 : decode cX7_weekNumber 125 = .ok (.iload_n 1, 1) := by decide +kernel
theorem dX7_weekNumber_126 : decode cX7_weekNumber 126 = .ok (.iload_n 2, 1) := by decide +kernel
theorem dX7_weekNumber_127 : decode cX7_weekNumber 127 = .ok (.invokestatic 277, 3) := by decide +kernel
theorem dX7_weekNumber_130 : decode cX7_weekNumber 130 = .ok (.invokestatic 148, 3) := by decide +kernel
theorem dX7_weekNumber_133 : decode cX7_weekNumber 133 = .ok (.ireturn, 1) := by decide +kernel
theorem dX7_countNumber_0 : decode cX7_countNumber 0 = .ok (.iload_n 1, 1) := by decide +kernel
theorem dX7_countNumber_1 : decode cX7_countNumber 1 = .ok (.tableswitch 129 0 8 #[51, 62, 73, 84, 89, 100, 108, 116, 124], 51) := by decide +kernel
theorem dX7_countNumber_52 : decode cX7_countNumber 52 = .ok (.aload_n 0, 1) := by decide +kernel
theorem dX7_countNumber_53 : decode cX7_countNumber 53 = .ok (.getfield 10, 3) := by decide +kernel
theorem dX7_countNumber_56 : decode cX7_countNumber 56 = .ok (.getfield 55, 3) := by decide +kernel
theorem dX7_countNumber_59 : decode cX7_countNumber 59 = .ok (.getfield 79, 3) := by decide +kernel
theorem dX7_countNumber_62 : decode cX7_countNumber 62 = .ok (.ireturn, 1) := by decide +kernel
theorem dX7_countNumber_63 : decode cX7_countNumber 63 = .ok (.aload_n 0, 1) := by decide +kernel
theorem dX7_countNumber_64 : decode cX7_countNumber 64 = .ok (.getfield 19, 3) := by decide +kernel
theorem dX7_countNumber_67 : decode cX7_countNumber 67 = .ok (.getfield 308, 3) := by decide +kernel
theorem dX7_countNumber_70 : decode cX7_countNumber 70 = .ok (.invokestatic 220, 3) := by decide +kernel
theorem dX7_countNumber_73 : decode cX7_countNumber 73 = .ok (.ireturn, 1) := by decide +kernel
theorem dX7_countNumber_74 : decode cX7_countNumber 74 = .ok (.aload_n 0, 1) := by decide +kernel
theorem dX7_countNumber_75 : decode cX7_countNumber 75 = .ok (.getfield 19, 3) := by decide +kernel
theorem dX7_countNumber_78 : decode cX7_countNumber 78 = .ok (.getfield 314, 3) := by decide +kernel
theorem dX7_countNumber_81 : decode cX7_countNumber 81 = .ok (.invokestatic 220, 3) := by decide +kernel
theorem dX7_countNumber_84 : decode cX7_countNumber 84 = .ok (.ireturn, 1) := by decide +kernel
theorem dX7_countNumber_85 : decode cX7_countNumber 85 = .ok (.aload_n 0, 1) := by decide +kernel
theorem dX7_countNumber_86 : decode cX7_countNumber 86 = .ok (.invokevirtual 224, 3) := by decide +kernel
theorem dX7_countNumber_89 : decode cX7_countNumber 89 = .ok (.ireturn, 1) := by decide +kernel
theorem dX7_countNumber_90 : decode cX7_countNumber 90 = .ok (.aload_n 0, 1) := by decide +kernel
theorem dX7_countNumber_91 : decode cX7_countNumber 91 = .ok (.getfield 10, 3) := by decide +kernel
theorem dX7_countNumber_94 : decode cX7_countNumber 94 = .ok (.getfield 327, 3) := by decide +kernel
theorem dX7_countNumber_97 : decode cX7_countNumber 97 = .ok (.invokestatic 220, 3) := by decide +kernel
theorem dX7_countNumber_100 : decode cX7_countNumber 100 = .ok (.ireturn, 1) := by decide +kernel
theorem dX7_countNumber_101 : decode cX7_countNumber 101 = .ok (.aload_n 0, 1) := by decide +kernel
theorem dX7_countNumber_102 : decode cX7_countNumber 102 = .ok (.getfield 10, 3) := by decide +kernel
theorem dX7_countNumber_105 : decode cX7_countNumber 105 = .ok (.getfield 333, 3) := by decide +kernel
theorem dX7_countNumber_108 : decode cX7_countNumber 108 = .ok (.ireturn, 1) := by decide +kernel
theorem dX7_countNumber_109 : decode cX7_countNumber 109 = .ok (.aload_n 0, 1) := by decide +kernel
theorem dX7_countNumber_110 : decode cX7_countNumber 110 = .ok (.getfield 10, 3) := by decide +kernel
theorem dX7_countNumber_113 : decode cX7_countNumber 113 = .ok (.getfield 336, 3) := by decide +kernel
theorem dX7_countNumber_116 : decode cX7_countNumber 116 = .ok (.ireturn, 1) := by decide +kernel
theorem dX7_countNumber_117 : decode cX7_countNumber 117 = .ok (.aload_n 0, 1) := by decide +kernel
theorem dX7_countNumber_118 : decode cX7_countNumber 118 = .ok (.getfield 10, 3) := by decide +kernel
theorem dX7_countNumber_121 : decode cX7_countNumber 121 = .ok (.getfield 127, 3) := by decide +kernel
theorem dX7_countNumber_124 : decode cX7_countNumber 124 = .ok (.ireturn, 1) := by decide +kernel
theorem dX7_countNumber_125 : decode cX7_countNumber 125 = .ok (.aload_n 0, 1) := by decide +kernel
theorem dX7_countNumber_126 : decode cX7_countNumber 126 = .ok (.invokevirtual 339, 3) := by decide +kernel
theorem dX7_countNumber_129 : decode cX7_countNumber 129 = .ok (.ireturn, 1) := by decide +kernel
theorem dX7_countNumber_130 : decode cX7_countNumber 130 = .ok (.aload_n 0, 1) := by decide +kernel
theorem dX7_countNumber_131 : decode cX7_countNumber 131 = .ok (.getfield 26, 3) := by decide +kernel
theorem dX7_countNumber_134 : decode cX7_countNumber 134 = .ok (.getfield 181, 3) := by decide +kernel
theorem dX7_countNumber_137 : decode cX7_countNumber 137 = .ok (.ireturn, 1) := by decide +kernel
theorem dX7_costOfAll_0 : decode cX7_costOfAll 0 = .ok (.iconst 0, 1) := by decide +kernel
theorem dX7_costOfAll_1 : decode cX7_costOfAll 1 = .ok (.istore_n 1, 1) := by decide +kernel
theorem dX7_costOfAll_2 : decode cX7_costOfAll 2 = .ok (.iconst 0, 1) := by decide +kernel
theorem dX7_costOfAll_3 : decode cX7_costOfAll 3 = .ok (.istore_n 2, 1) := by decide +kernel
theorem dX7_costOfAll_4 : decode cX7_costOfAll 4 = .ok (.iload_n 2, 1) := by decide +kernel
theorem dX7_costOfAll_5 : decode cX7_costOfAll 5 = .ok (.iconst 4, 1) := by decide +kernel
theorem dX7_costOfAll_6 : decode cX7_costOfAll 6 = .ok (.if_icmp .ge 34, 3) := by decide +kernel
theorem dX7_costOfAll_9 : decode cX7_costOfAll 9 = .ok (.iconst 0, 1) := by decide +kernel
theorem dX7_costOfAll_10 : decode cX7_costOfAll 10 = .ok (.istore_n 3, 1) := by decide +kernel
theorem dX7_costOfAll_11 : decode cX7_costOfAll 11 = .ok (.iload_n 3, 1) := by decide +kernel
theorem dX7_costOfAll_12 : decode cX7_costOfAll 12 = .ok (.iconst 4, 1) := by decide +kernel
theorem dX7_costOfAll_13 : decode cX7_costOfAll 13 = .ok (.if_icmp .ge 21, 3) := by decide +kernel
theorem dX7_costOfAll_16 : decode cX7_costOfAll 16 = .ok (.iload_n 1, 1) := by decide +kernel
theorem dX7_costOfAll_17 : decode cX7_costOfAll 17 = .ok (.aload_n 0, 1) := by decide +kernel
theorem dX7_costOfAll_18 : decode cX7_costOfAll 18 = .ok (.getfield 19, 3) := by decide +kernel
theorem dX7_costOfAll_21 : decode cX7_costOfAll 21 = .ok (.iload_n 2, 1) := by decide +kernel
theorem dX7_costOfAll_22 : decode cX7_costOfAll 22 = .ok (.iload_n 3, 1) := by decide +kernel
theorem dX7_costOfAll_23 : decode cX7_costOfAll 23 = .ok (.invokevirtual 135, 3) := by decide +kernel
theorem dX7_costOfAll_26 : decode cX7_costOfAll 26 = .ok (.iadd, 1) := by decide +kernel
theorem dX7_costOfAll_27 : decode cX7_costOfAll 27 = .ok (.istore_n 1, 1) := by decide +kernel
theorem dX7_costOfAll_28 : decode cX7_costOfAll 28 = .ok (.iinc 3 1, 3) := by decide +kernel
theorem dX7_costOfAll_31 : decode cX7_costOfAll 31 = .ok (.goto (-20), 3) := by decide +kernel
theorem dX7_costOfAll_34 : decode cX7_costOfAll 34 = .ok (.iinc 2 1, 3) := by decide +kernel
theorem dX7_costOfAll_37 : decode cX7_costOfAll 37 = .ok (.goto (-33), 3) := by decide +kernel
theorem dX7_costOfAll_40 : decode cX7_costOfAll 40 = .ok (.iload_n 1, 1) := by decide +kernel
theorem dX7_costOfAll_41 : decode cX7_costOfAll 41 = .ok (.ireturn, 1) := by decide +kernel
theorem dX7_weeksToSettleAnew_0 : decode cX7_weeksToSettleAnew 0 = .ok (.iconst 0, 1) := by decide +kernel
theorem dX7_weeksToSettleAnew_1 : decode cX7_weeksToSettleAnew 1 = .ok (.istore_n 1, 1) := by decide +kernel
theorem dX7_weeksToSettleAnew_2 : decode cX7_weeksToSettleAnew 2 = .ok (.iconst 0, 1) := by decide +kernel
theorem dX7_weeksToSettleAnew_3 : decode cX7_weeksToSettleAnew 3 = .ok (.istore_n 2, 1) := by decide +kernel
theorem dX7_weeksToSettleAnew_4 : decode cX7_weeksToSettleAnew 4 = .ok (.iload_n 2, 1) := by decide +kernel
theorem dX7_weeksToSettleAnew_5 : decode cX7_weeksToSettleAnew 5 = .ok (.iconst 4, 1) := by decide +kernel
theorem dX7_weeksToSettleAnew_6 : decode cX7_weeksToSettleAnew 6 = .ok (.if_icmp .ge 83, 3) := by decide +kernel
theorem dX7_weeksToSettleAnew_9 : decode cX7_weeksToSettleAnew 9 = .ok (.iconst 0, 1) := by decide +kernel
theorem dX7_weeksToSettleAnew_10 : decode cX7_weeksToSettleAnew 10 = .ok (.istore_n 3, 1) := by decide +kernel
theorem dX7_weeksToSettleAnew_11 : decode cX7_weeksToSettleAnew 11 = .ok (.iload_n 3, 1) := by decide +kernel
theorem dX7_weeksToSettleAnew_12 : decode cX7_weeksToSettleAnew 12 = .ok (.iconst 4, 1) := by decide +kernel
theorem dX7_weeksToSettleAnew_13 : decode cX7_weeksToSettleAnew 13 = .ok (.if_icmp .ge 70, 3) := by decide +kernel
theorem dX7_weeksToSettleAnew_16 : decode cX7_weeksToSettleAnew 16 = .ok (.iload_n 2, 1) := by decide +kernel
theorem dX7_weeksToSettleAnew_17 : decode cX7_weeksToSettleAnew 17 = .ok (.iload_n 3, 1) := by decide +kernel
theorem dX7_weeksToSettleAnew_18 : decode cX7_weeksToSettleAnew 18 = .ok (.invokestatic 277, 3) := by decide +kernel
theorem dX7_weeksToSettleAnew_21 : decode cX7_weeksToSettleAnew 21 = .ok (.istore 4, 2) := by decide +kernel
theorem dX7_weeksToSettleAnew_23 : decode cX7_weeksToSettleAnew 23 = .ok (.aload_n 0, 1) := by decide +kernel
theorem dX7_weeksToSettleAnew_24 : decode cX7_weeksToSettleAnew 24 = .ok (.getfield 10, 3) := by decide +kernel
theorem dX7_weeksToSettleAnew_27 : decode cX7_weeksToSettleAnew 27 = .ok (.getfield 330, 3) := by decide +kernel
theorem dX7_weeksToSettleAnew_30 : decode cX7_weeksToSettleAnew 30 = .ok (.iload 4, 2) := by decide +kernel
theorem dX7_weeksToSettleAnew_32 : decode cX7_weeksToSettleAnew 32 = .ok (.invokestatic 148, 3) := by decide +kernel
theorem dX7_weeksToSettleAnew_35 : decode cX7_weeksToSettleAnew 35 = .ok (.ifCond .le 7, 3) := by decide +kernel
theorem dX7_weeksToSettleAnew_38 : decode cX7_weeksToSettleAnew 38 = .ok (.iconst 1, 1) := by decide +kernel
theorem dX7_weeksToSettleAnew_39 : decode cX7_weeksToSettleAnew 39 = .ok (.goto 4, 3) := by decide +kernel
theorem dX7_weeksToSettleAnew_42 : decode cX7_weeksToSettleAnew 42 = .ok (.iconst 0, 1) := by decide +kernel
theorem dX7_weeksToSettleAnew_43 : decode cX7_weeksToSettleAnew 43 = .ok (.istore 5, 2) := by decide +kernel
theorem dX7_weeksToSettleAnew_45 : decode cX7_weeksToSettleAnew 45 = .ok (.iload 5, 2) := by decide +kernel
theorem dX7_weeksToSettleAnew_47 : decode cX7_weeksToSettleAnew 47 = .ok (.ifCond .eq 30, 3) := by decide +kernel
theorem dX7_weeksToSettleAnew_50 : decode cX7_weeksToSettleAnew 50 = .ok (.aload_n 0, 1) := by decide +kernel
theorem dX7_weeksToSettleAnew_51 : decode cX7_weeksToSettleAnew 51 = .ok (.getfield 10, 3) := by decide +kernel
theorem dX7_weeksToSettleAnew_54 : decode cX7_weeksToSettleAnew 54 = .ok (.getfield 327, 3) := by decide +kernel
theorem dX7_weeksToSettleAnew_57 : decode cX7_weeksToSettleAnew 57 = .ok (.iload 4, 2) := by decide +kernel
theorem dX7_weeksToSettleAnew_59 : decode cX7_weeksToSettleAnew 59 = .ok (.invokestatic 148, 3) := by decide +kernel
theorem dX7_weeksToSettleAnew_62 : decode cX7_weeksToSettleAnew 62 = .ok (.aload_n 0, 1) := by decide +kernel
theorem dX7_weeksToSettleAnew_63 : decode cX7_weeksToSettleAnew 63 = .ok (.getfield 19, 3) := by decide +kernel
theorem dX7_weeksToSettleAnew_66 : decode cX7_weeksToSettleAnew 66 = .ok (.iload_n 2, 1) := by decide +kernel
theorem dX7_weeksToSettleAnew_67 : decode cX7_weeksToSettleAnew 67 = .ok (.iload_n 3, 1) := by decide +kernel
theorem dX7_weeksToSettleAnew_68 : decode cX7_weeksToSettleAnew 68 = .ok (.invokevirtual 135, 3) := by decide +kernel
theorem dX7_weeksToSettleAnew_71 : decode cX7_weeksToSettleAnew 71 = .ok (.if_icmp .eq 6, 3) := by decide +kernel
theorem dX7_weeksToSettleAnew_74 : decode cX7_weeksToSettleAnew 74 = .ok (.iinc 1 1, 3) := by decide +kernel
theorem dX7_weeksToSettleAnew_77 : decode cX7_weeksToSettleAnew 77 = .ok (.iinc 3 1, 3) := by decide +kernel
theorem dX7_weeksToSettleAnew_80 : decode cX7_weeksToSettleAnew 80 = .ok (.goto (-69), 3) := by decide +kernel
theorem dX7_weeksToSettleAnew_83 : decode cX7_weeksToSettleAnew 83 = .ok (.iinc 2 1, 3) := by decide +kernel
theorem dX7_weeksToSettleAnew_86 : decode cX7_weeksToSettleAnew 86 = .ok (.goto (-82), 3) := by decide +kernel
theorem dX7_weeksToSettleAnew_89 : decode cX7_weeksToSettleAnew 89 = .ok (.iload_n 1, 1) := by decide +kernel
theorem dX7_weeksToSettleAnew_90 : decode cX7_weeksToSettleAnew 90 = .ok (.ireturn, 1) := by decide +kernel
