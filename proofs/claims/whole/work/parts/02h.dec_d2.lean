/-! decode rows, printed by program -/
theorem dX8_load_26 : decode cX8_load 26 = .ok (.aload_n 0, 1) := by decide +kernel
theorem dX8_load_27 : decode cX8_load 27 = .ok (.iconst 0, 1) := by decide +kernel
theorem dX8_load_28 : decode cX8_load 28 = .ok (.putfield 108, 3) := by decide +kernel
theorem dX8_load_31 : decode cX8_load 31 = .ok (.iconst 0, 1) := by decide +kernel
theorem dX8_load_32 : decode cX8_load 32 = .ok (.istore_n 1, 1) := by decide +kernel
theorem dX8_load_33 : decode cX8_load 33 = .ok (.iload_n 1, 1) := by decide +kernel
theorem dX8_load_34 : decode cX8_load 34 = .ok (.aload_n 0, 1) := by decide +kernel
theorem dX8_load_35 : decode cX8_load 35 = .ok (.getfield 122, 3) := by decide +kernel
theorem dX8_load_38 : decode cX8_load 38 = .ok (.if_icmp .ge 75, 3) := by decide +kernel
theorem dX8_load_41 : decode cX8_load 41 = .ok (.aload_n 0, 1) := by decide +kernel
theorem dX8_load_42 : decode cX8_load 42 = .ok (.getfield 7, 3) := by decide +kernel
theorem dX8_load_45 : decode cX8_load 45 = .ok (.bipush 9, 2) := by decide +kernel
theorem dX8_load_47 : decode cX8_load 47 = .ok (.iaload, 1) := by decide +kernel
theorem dX8_load_48 : decode cX8_load 48 = .ok (.bipush 60, 2) := by decide +kernel
theorem dX8_load_50 : decode cX8_load 50 = .ok (.if_icmp .ge 63, 3) := by decide +kernel
theorem dX8_load_53 : decode cX8_load 53 = .ok (.aload_n 0, 1) := by decide +kernel
theorem dX8_load_54 : decode cX8_load 54 = .ok (.aload_n 0, 1) := by decide +kernel
theorem dX8_load_55 : decode cX8_load 55 = .ok (.getfield 25, 3) := by decide +kernel
theorem dX8_load_58 : decode cX8_load 58 = .ok (.iconst 5, 1) := by decide +kernel
theorem dX8_load_59 : decode cX8_load 59 = .ok (.iload_n 1, 1) := by decide +kernel
theorem dX8_load_60 : decode cX8_load 60 = .ok (.imul, 1) := by decide +kernel
theorem dX8_load_61 : decode cX8_load 61 = .ok (.iaload, 1) := by decide +kernel
theorem dX8_load_62 : decode cX8_load 62 = .ok (.aload_n 0, 1) := by decide +kernel
theorem dX8_load_63 : decode cX8_load 63 = .ok (.getfield 25, 3) := by decide +kernel
theorem dX8_load_66 : decode cX8_load 66 = .ok (.iconst 5, 1) := by decide +kernel
theorem dX8_load_67 : decode cX8_load 67 = .ok (.iload_n 1, 1) := by decide +kernel
theorem dX8_load_68 : decode cX8_load 68 = .ok (.imul, 1) := by decide +kernel
theorem dX8_load_69 : decode cX8_load 69 = .ok (.iconst 1, 1) := by decide +kernel
theorem dX8_load_70 : decode cX8_load 70 = .ok (.iadd, 1) := by decide +kernel
theorem dX8_load_71 : decode cX8_load 71 = .ok (.iaload, 1) := by decide +kernel
theorem dX8_load_72 : decode cX8_load 72 = .ok (.aload_n 0, 1) := by decide +kernel
theorem dX8_load_73 : decode cX8_load 73 = .ok (.getfield 25, 3) := by decide +kernel
theorem dX8_load_76 : decode cX8_load 76 = .ok (.iconst 5, 1) := by decide +kernel
theorem dX8_load_77 : decode cX8_load 77 = .ok (.iload_n 1, 1) := by decide +kernel
theorem dX8_load_78 : decode cX8_load 78 = .ok (.imul, 1) := by decide +kernel
theorem dX8_load_79 : decode cX8_load 79 = .ok (.iconst 2, 1) := by decide +kernel
theorem dX8_load_80 : decode cX8_load 80 = .ok (.iadd, 1) := by decide +kernel
theorem dX8_load_81 : decode cX8_load 81 = .ok (.iaload, 1) := by decide +kernel
theorem dX8_load_82 : decode cX8_load 82 = .ok (.aload_n 0, 1) := by decide +kernel
theorem dX8_load_83 : decode cX8_load 83 = .ok (.getfield 25, 3) := by decide +kernel
theorem dX8_load_86 : decode cX8_load 86 = .ok (.iconst 5, 1) := by decide +kernel
theorem dX8_load_87 : decode cX8_load 87 = .ok (.iload_n 1, 1) := by decide +kernel
theorem dX8_load_88 : decode cX8_load 88 = .ok (.imul, 1) := by decide +kernel
theorem dX8_load_89 : decode cX8_load 89 = .ok (.iconst 3, 1) := by decide +kernel
theorem dX8_load_90 : decode cX8_load 90 = .ok (.iadd, 1) := by decide +kernel
theorem dX8_load_91 : decode cX8_load 91 = .ok (.iaload, 1) := by decide +kernel
theorem dX8_load_92 : decode cX8_load 92 = .ok (.aload_n 0, 1) := by decide +kernel
theorem dX8_load_93 : decode cX8_load 93 = .ok (.getfield 25, 3) := by decide +kernel
theorem dX8_load_96 : decode cX8_load 96 = .ok (.iconst 5, 1) := by decide +kernel
theorem dX8_load_97 : decode cX8_load 97 = .ok (.iload_n 1, 1) := by decide +kernel
theorem dX8_load_98 : decode cX8_load 98 = .ok (.imul, 1) := by decide +kernel
theorem dX8_load_99 : decode cX8_load 99 = .ok (.iconst 4, 1) := by decide +kernel
theorem dX8_load_100 : decode cX8_load 100 = .ok (.iadd, 1) := by decide +kernel
theorem dX8_load_101 : decode cX8_load 101 = .ok (.iaload, 1) := by decide +kernel
theorem dX8_load_102 : decode cX8_load 102 = .ok (.iconst 0, 1) := by decide +kernel
theorem dX8_load_103 : decode cX8_load 103 = .ok (.invokevirtual 80, 3) := by decide +kernel
theorem dX8_load_106 : decode cX8_load 106 = .ok (.pop, 1) := by decide +kernel
theorem dX8_load_107 : decode cX8_load 107 = .ok (.iinc 1 1, 3) := by decide +kernel
theorem dX8_load_110 : decode cX8_load 110 = .ok (.goto (-77), 3) := by decide +kernel
theorem dX8_load_113 : decode cX8_load 113 = .ok (.iload_n 1, 1) := by decide +kernel
theorem dX8_load_114 : decode cX8_load 114 = .ok (.ireturn, 1) := by decide +kernel
theorem dX8_undo_0 : decode cX8_undo 0 = .ok (.aload_n 0, 1) := by decide +kernel
theorem dX8_undo_1 : decode cX8_undo 1 = .ok (.iconst 0, 1) := by decide +kernel
theorem dX8_undo_2 : decode cX8_undo 2 = .ok (.putfield 28, 3) := by decide +kernel
theorem dX8_undo_5 : decode cX8_undo 5 = .ok (.aload_n 0, 1) := by decide +kernel
theorem dX8_undo_6 : decode cX8_undo 6 = .ok (.getfield 36, 3) := by decide +kernel
theorem dX8_undo_9 : decode cX8_undo 9 = .ok (.ifCond .ne 9, 3) := by decide +kernel
theorem dX8_undo_12 : decode cX8_undo 12 = .ok (.aload_n 0, 1) := by decide +kernel
theorem dX8_undo_13 : decode cX8_undo 13 = .ok (.iconst 1, 1) := by decide +kernel
theorem dX8_undo_14 : decode cX8_undo 14 = .ok (.invokevirtual 74, 3) := by decide +kernel
theorem dX8_undo_17 : decode cX8_undo 17 = .ok (.ireturn, 1) := by decide +kernel
theorem dX8_undo_18 : decode cX8_undo 18 = .ok (.aload_n 0, 1) := by decide +kernel
theorem dX8_undo_19 : decode cX8_undo 19 = .ok (.dup, 1) := by decide +kernel
theorem dX8_undo_20 : decode cX8_undo 20 = .ok (.getfield 36, 3) := by decide +kernel
theorem dX8_undo_23 : decode cX8_undo 23 = .ok (.iconst 1, 1) := by decide +kernel
theorem dX8_undo_24 : decode cX8_undo 24 = .ok (.isub, 1) := by decide +kernel
theorem dX8_undo_25 : decode cX8_undo 25 = .ok (.putfield 36, 3) := by decide +kernel
theorem dX8_undo_28 : decode cX8_undo 28 = .ok (.iconst 0, 1) := by decide +kernel
theorem dX8_undo_29 : decode cX8_undo 29 = .ok (.istore_n 1, 1) := by decide +kernel
theorem dX8_undo_30 : decode cX8_undo 30 = .ok (.iload_n 1, 1) := by decide +kernel
theorem dX8_undo_31 : decode cX8_undo 31 = .ok (.sipush 492, 3) := by decide +kernel
theorem dX8_undo_34 : decode cX8_undo 34 = .ok (.if_icmp .ge 30, 3) := by decide +kernel
theorem dX8_undo_37 : decode cX8_undo 37 = .ok (.aload_n 0, 1) := by decide +kernel
theorem dX8_undo_38 : decode cX8_undo 38 = .ok (.getfield 7, 3) := by decide +kernel
theorem dX8_undo_41 : decode cX8_undo 41 = .ok (.iload_n 1, 1) := by decide +kernel
theorem dX8_undo_42 : decode cX8_undo 42 = .ok (.aload_n 0, 1) := by decide +kernel
theorem dX8_undo_43 : decode cX8_undo 43 = .ok (.getfield 16, 3) := by decide +kernel
theorem dX8_undo_46 : decode cX8_undo 46 = .ok (.sipush 492, 3) := by decide +kernel
theorem dX8_undo_49 : decode cX8_undo 49 = .ok (.aload_n 0, 1) := by decide +kernel
theorem dX8_undo_50 : decode cX8_undo 50 = .ok (.getfield 36, 3) := by decide +kernel
theorem dX8_undo_53 : decode cX8_undo 53 = .ok (.imul, 1) := by decide +kernel
theorem dX8_undo_54 : decode cX8_undo 54 = .ok (.iload_n 1, 1) := by decide +kernel
theorem dX8_undo_55 : decode cX8_undo 55 = .ok (.iadd, 1) := by decide +kernel
theorem dX8_undo_56 : decode cX8_undo 56 = .ok (.iaload, 1) := by decide +kernel
theorem dX8_undo_57 : decode cX8_undo 57 = .ok (.iastore, 1) := by decide +kernel
theorem dX8_undo_58 : decode cX8_undo 58 = .ok (.iinc 1 1, 3) := by decide +kernel
theorem dX8_undo_61 : decode cX8_undo 61 = .ok (.goto (-31), 3) := by decide +kernel
theorem dX8_undo_64 : decode cX8_undo 64 = .ok (.aload_n 0, 1) := by decide +kernel
theorem dX8_undo_65 : decode cX8_undo 65 = .ok (.getfield 36, 3) := by decide +kernel
theorem dX8_undo_68 : decode cX8_undo 68 = .ok (.ireturn, 1) := by decide +kernel
theorem dX8_tellsTap_0 : decode cX8_tellsTap 0 = .ok (.iload_n 2, 1) := by decide +kernel
theorem dX8_tellsTap_1 : decode cX8_tellsTap 1 = .ok (.tableswitch 47 5 7 #[27, 34, 40], 27) := by decide +kernel
theorem dX8_tellsTap_28 : decode cX8_tellsTap 28 = .ok (.aload_n 0, 1) := by decide +kernel
theorem dX8_tellsTap_29 : decode cX8_tellsTap 29 = .ok (.getfield 22, 3) := by decide +kernel
theorem dX8_tellsTap_32 : decode cX8_tellsTap 32 = .ok (.iload_n 1, 1) := by decide +kernel
theorem dX8_tellsTap_33 : decode cX8_tellsTap 33 = .ok (.iaload, 1) := by decide +kernel
theorem dX8_tellsTap_34 : decode cX8_tellsTap 34 = .ok (.ireturn, 1) := by decide +kernel
theorem dX8_tellsTap_35 : decode cX8_tellsTap 35 = .ok (.aload_n 0, 1) := by decide +kernel
theorem dX8_tellsTap_36 : decode cX8_tellsTap 36 = .ok (.iload_n 1, 1) := by decide +kernel
theorem dX8_tellsTap_37 : decode cX8_tellsTap 37 = .ok (.invokevirtual 57, 3) := by decide +kernel
theorem dX8_tellsTap_40 : decode cX8_tellsTap 40 = .ok (.ireturn, 1) := by decide +kernel
theorem dX8_tellsTap_41 : decode cX8_tellsTap 41 = .ok (.aload_n 0, 1) := by decide +kernel
theorem dX8_tellsTap_42 : decode cX8_tellsTap 42 = .ok (.iload_n 1, 1) := by decide +kernel
theorem dX8_tellsTap_43 : decode cX8_tellsTap 43 = .ok (.iconst 5, 1) := by decide +kernel
theorem dX8_tellsTap_44 : decode cX8_tellsTap 44 = .ok (.invokevirtual 39, 3) := by decide +kernel
theorem dX8_tellsTap_47 : decode cX8_tellsTap 47 = .ok (.ireturn, 1) := by decide +kernel
theorem dX8_tellsTap_48 : decode cX8_tellsTap 48 = .ok (.aload_n 0, 1) := by decide +kernel
theorem dX8_tellsTap_49 : decode cX8_tellsTap 49 = .ok (.iload_n 1, 1) := by decide +kernel
theorem dX8_tellsTap_50 : decode cX8_tellsTap 50 = .ok (.iload_n 2, 1) := by decide +kernel
theorem dX8_tellsTap_51 : decode cX8_tellsTap 51 = .ok (.invokevirtual 39, 3) := by decide +kernel
theorem dX8_tellsTap_54 : decode cX8_tellsTap 54 = .ok (.ireturn, 1) := by decide +kernel
theorem dX8_tapOf_0 : decode cX8_tapOf 0 = .ok (.aload_n 0, 1) := by decide +kernel
theorem dX8_tapOf_1 : decode cX8_tapOf 1 = .ok (.iconst 0, 1) := by decide +kernel
theorem dX8_tapOf_2 : decode cX8_tapOf 2 = .ok (.putfield 28, 3) := by decide +kernel
theorem dX8_tapOf_5 : decode cX8_tapOf 5 = .ok (.aload_n 0, 1) := by decide +kernel
theorem dX8_tapOf_6 : decode cX8_tapOf 6 = .ok (.iload_n 1, 1) := by decide +kernel
theorem dX8_tapOf_7 : decode cX8_tapOf 7 = .ok (.invokevirtual 84, 3) := by decide +kernel
theorem dX8_tapOf_10 : decode cX8_tapOf 10 = .ok (.ifCond .ne 9, 3) := by decide +kernel
theorem dX8_tapOf_13 : decode cX8_tapOf 13 = .ok (.aload_n 0, 1) := by decide +kernel
theorem dX8_tapOf_14 : decode cX8_tapOf 14 = .ok (.iconst 1, 1) := by decide +kernel
theorem dX8_tapOf_15 : decode cX8_tapOf 15 = .ok (.invokevirtual 74, 3) := by decide +kernel
theorem dX8_tapOf_18 : decode cX8_tapOf 18 = .ok (.ireturn, 1) := by decide +kernel
theorem dX8_tapOf_19 : decode cX8_tapOf 19 = .ok (.aload_n 0, 1) := by decide +kernel
theorem dX8_tapOf_20 : decode cX8_tapOf 20 = .ok (.invokevirtual 50, 3) := by decide +kernel
theorem dX8_tapOf_23 : decode cX8_tapOf 23 = .ok (.iload_n 2, 1) := by decide +kernel
theorem dX8_tapOf_24 : decode cX8_tapOf 24 = .ok (.iconst 0, 1) := by decide +kernel
theorem dX8_tapOf_25 : decode cX8_tapOf 25 = .ok (.bipush 7, 2) := by decide +kernel
theorem dX8_tapOf_27 : decode cX8_tapOf 27 = .ok (.invokestatic 32, 3) := by decide +kernel
theorem dX8_tapOf_30 : decode cX8_tapOf 30 = .ok (.ifCond .eq 12, 3) := by decide +kernel
theorem dX8_tapOf_33 : decode cX8_tapOf 33 = .ok (.aload_n 0, 1) := by decide +kernel
theorem dX8_tapOf_34 : decode cX8_tapOf 34 = .ok (.iload_n 1, 1) := by decide +kernel
theorem dX8_tapOf_35 : decode cX8_tapOf 35 = .ok (.iload_n 2, 1) := by decide +kernel
theorem dX8_tapOf_36 : decode cX8_tapOf 36 = .ok (.invokevirtual 138, 3) := by decide +kernel
theorem dX8_tapOf_39 : decode cX8_tapOf 39 = .ok (.goto 8, 3) := by decide +kernel
theorem dX8_tapOf_42 : decode cX8_tapOf 42 = .ok (.aload_n 0, 1) := by decide +kernel
theorem dX8_tapOf_43 : decode cX8_tapOf 43 = .ok (.iconst 2, 1) := by decide +kernel
theorem dX8_tapOf_44 : decode cX8_tapOf 44 = .ok (.invokevirtual 74, 3) := by decide +kernel
theorem dX8_tapOf_47 : decode cX8_tapOf 47 = .ok (.ireturn, 1) := by decide +kernel
theorem dX8_day_0 : decode cX8_day 0 = .ok (.aload_n 0, 1) := by decide +kernel
theorem dX8_day_1 : decode cX8_day 1 = .ok (.iconst 0, 1) := by decide +kernel
theorem dX8_day_2 : decode cX8_day 2 = .ok (.putfield 28, 3) := by decide +kernel
theorem dX8_day_5 : decode cX8_day 5 = .ok (.iload_n 1, 1) := by decide +kernel
theorem dX8_day_6 : decode cX8_day 6 = .ok (.invokestatic 67, 3) := by decide +kernel
theorem dX8_day_9 : decode cX8_day 9 = .ok (.ifCond .eq 32, 3) := by decide +kernel
theorem dX8_day_12 : decode cX8_day 12 = .ok (.iload_n 2, 1) := by decide +kernel
theorem dX8_day_13 : decode cX8_day 13 = .ok (.iconst 0, 1) := by decide +kernel
theorem dX8_day_14 : decode cX8_day 14 = .ok (.bipush 27, 2) := by decide +kernel
theorem dX8_day_16 : decode cX8_day 16 = .ok (.invokestatic 32, 3) := by decide +kernel
theorem dX8_day_19 : decode cX8_day 19 = .ok (.ifCond .eq 22, 3) := by decide +kernel
theorem dX8_day_22 : decode cX8_day 22 = .ok (.iload_n 3, 1) := by decide +kernel
theorem dX8_day_23 : decode cX8_day 23 = .ok (.iconst 0, 1) := by decide +kernel
theorem dX8_day_24 : decode cX8_day 24 = .ok (.iconst 3, 1) := by decide +kernel
theorem dX8_day_25 : decode cX8_day 25 = .ok (.invokestatic 32, 3) := by decide +kernel
theorem dX8_day_28 : decode cX8_day 28 = .ok (.ifCond .eq 13, 3) := by decide +kernel
theorem dX8_day_31 : decode cX8_day 31 = .ok (.aload_n 0, 1) := by decide +kernel
theorem dX8_day_32 : decode cX8_day 32 = .ok (.iload_n 1, 1) := by decide +kernel
theorem dX8_day_33 : decode cX8_day 33 = .ok (.iload_n 2, 1) := by decide +kernel
theorem dX8_day_34 : decode cX8_day 34 = .ok (.iload_n 3, 1) := by decide +kernel
theorem dX8_day_35 : decode cX8_day 35 = .ok (.invokevirtual 60, 3) := by decide +kernel
theorem dX8_day_38 : decode cX8_day 38 = .ok (.goto 8, 3) := by decide +kernel
theorem dX8_day_41 : decode cX8_day 41 = .ok (.aload_n 0, 1) := by decide +kernel
theorem dX8_day_42 : decode cX8_day 42 = .ok (.iconst 1, 1) := by decide +kernel
theorem dX8_day_43 : decode cX8_day 43 = .ok (.invokevirtual 74, 3) := by decide +kernel
theorem dX8_day_46 : decode cX8_day 46 = .ok (.ireturn, 1) := by decide +kernel
theorem dX8_tellsWeek_0 : decode cX8_tellsWeek 0 = .ok (.iconst 4, 1) := by decide +kernel
theorem dX8_tellsWeek_1 : decode cX8_tellsWeek 1 = .ok (.iload_n 1, 1) := by decide +kernel
theorem dX8_tellsWeek_2 : decode cX8_tellsWeek 2 = .ok (.imul, 1) := by decide +kernel
theorem dX8_tellsWeek_3 : decode cX8_tellsWeek 3 = .ok (.iload_n 2, 1) := by decide +kernel
theorem dX8_tellsWeek_4 : decode cX8_tellsWeek 4 = .ok (.iadd, 1) := by decide +kernel
theorem dX8_tellsWeek_5 : decode cX8_tellsWeek 5 = .ok (.istore 4, 2) := by decide +kernel
theorem dX8_tellsWeek_7 : decode cX8_tellsWeek 7 = .ok (.iload_n 3, 1) := by decide +kernel
theorem dX8_tellsWeek_8 : decode cX8_tellsWeek 8 = .ok (.tableswitch 89 0 5 #[40, 48, 48, 58, 65, 77], 40) := by decide +kernel
theorem dX8_tellsWeek_48 : decode cX8_tellsWeek 48 = .ok (.aload_n 0, 1) := by decide +kernel
theorem dX8_tellsWeek_49 : decode cX8_tellsWeek 49 = .ok (.iload_n 1, 1) := by decide +kernel
theorem dX8_tellsWeek_50 : decode cX8_tellsWeek 50 = .ok (.iload_n 2, 1) := by decide +kernel
theorem dX8_tellsWeek_51 : decode cX8_tellsWeek 51 = .ok (.iconst 0, 1) := by decide +kernel
theorem dX8_tellsWeek_52 : decode cX8_tellsWeek 52 = .ok (.invokevirtual 64, 3) := by decide +kernel
theorem dX8_tellsWeek_55 : decode cX8_tellsWeek 55 = .ok (.ireturn, 1) := by decide +kernel
theorem dX8_tellsWeek_56 : decode cX8_tellsWeek 56 = .ok (.aload_n 0, 1) := by decide +kernel
theorem dX8_tellsWeek_57 : decode cX8_tellsWeek 57 = .ok (.iload_n 1, 1) := by decide +kernel
theorem dX8_tellsWeek_58 : decode cX8_tellsWeek 58 = .ok (.iload_n 2, 1) := by decide +kernel
theorem dX8_tellsWeek_59 : decode cX8_tellsWeek 59 = .ok (.iload_n 3, 1) := by decide +kernel
theorem dX8_tellsWeek_60 : decode cX8_tellsWeek 60 = .ok (.iconst 1, 1) := by decide +kernel
theorem dX8_tellsWeek_61 : decode cX8_tellsWeek 61 = .ok (.iadd, 1) := by decide +kernel
theorem dX8_tellsWeek_62 : decode cX8_tellsWeek 62 = .ok (.invokevirtual 64, 3) := by decide +kernel
theorem dX8_tellsWeek_65 : decode cX8_tellsWeek 65 = .ok (.ireturn, 1) := by decide +kernel
theorem dX8_tellsWeek_66 : decode cX8_tellsWeek 66 = .ok (.aload_n 0, 1) := by decide +kernel
theorem dX8_tellsWeek_67 : decode cX8_tellsWeek 67 = .ok (.iload_n 1, 1) := by decide +kernel
theorem dX8_tellsWeek_68 : decode cX8_tellsWeek 68 = .ok (.iload_n 2, 1) := by decide +kernel
theorem dX8_tellsWeek_69 : decode cX8_tellsWeek 69 = .ok (.invokevirtual 96, 3) := by decide +kernel
theorem dX8_tellsWeek_72 : decode cX8_tellsWeek 72 = .ok (.ireturn, 1) := by decide +kernel
theorem dX8_tellsWeek_73 : decode cX8_tellsWeek 73 = .ok (.aload_n 0, 1) := by decide +kernel
theorem dX8_tellsWeek_74 : decode cX8_tellsWeek 74 = .ok (.getfield 7, 3) := by decide +kernel
theorem dX8_tellsWeek_77 : decode cX8_tellsWeek 77 = .ok (.sipush 376, 3) := by decide +kernel
theorem dX8_tellsWeek_80 : decode cX8_tellsWeek 80 = .ok (.iload 4, 2) := by decide +kernel
theorem dX8_tellsWeek_82 : decode cX8_tellsWeek 82 = .ok (.iadd, 1) := by decide +kernel
theorem dX8_tellsWeek_83 : decode cX8_tellsWeek 83 = .ok (.iaload, 1) := by decide +kernel
theorem dX8_tellsWeek_84 : decode cX8_tellsWeek 84 = .ok (.ireturn, 1) := by decide +kernel
theorem dX8_tellsWeek_85 : decode cX8_tellsWeek 85 = .ok (.aload_n 0, 1) := by decide +kernel
theorem dX8_tellsWeek_86 : decode cX8_tellsWeek 86 = .ok (.getfield 7, 3) := by decide +kernel
theorem dX8_tellsWeek_89 : decode cX8_tellsWeek 89 = .ok (.sipush 392, 3) := by decide +kernel
theorem dX8_tellsWeek_92 : decode cX8_tellsWeek 92 = .ok (.iload 4, 2) := by decide +kernel
theorem dX8_tellsWeek_94 : decode cX8_tellsWeek 94 = .ok (.iadd, 1) := by decide +kernel
theorem dX8_tellsWeek_95 : decode cX8_tellsWeek 95 = .ok (.iaload, 1) := by decide +kernel
theorem dX8_tellsWeek_96 : decode cX8_tellsWeek 96 = .ok (.ireturn, 1) := by decide +kernel
theorem dX8_tellsWeek_97 : decode cX8_tellsWeek 97 = .ok (.aload_n 0, 1) := by decide +kernel
theorem dX8_tellsWeek_98 : decode cX8_tellsWeek 98 = .ok (.getfield 7, 3) := by decide +kernel
theorem dX8_tellsWeek_101 : decode cX8_tellsWeek 101 = .ok (.sipush 408, 3) := by decide +kernel
theorem dX8_tellsWeek_104 : decode cX8_tellsWeek 104 = .ok (.iload 4, 2) := by decide +kernel
theorem dX8_tellsWeek_106 : decode cX8_tellsWeek 106 = .ok (.iadd, 1) := by decide +kernel
theorem dX8_tellsWeek_107 : decode cX8_tellsWeek 107 = .ok (.iaload, 1) := by decide +kernel
theorem dX8_tellsWeek_108 : decode cX8_tellsWeek 108 = .ok (.ireturn, 1) := by decide +kernel
theorem dX8_week_0 : decode cX8_week 0 = .ok (.aload_n 0, 1) := by decide +kernel
theorem dX8_week_1 : decode cX8_week 1 = .ok (.iconst 0, 1) := by decide +kernel
theorem dX8_week_2 : decode cX8_week 2 = .ok (.putfield 28, 3) := by decide +kernel
theorem dX8_week_5 : decode cX8_week 5 = .ok (.iload_n 1, 1) := by decide +kernel
theorem dX8_week_6 : decode cX8_week 6 = .ok (.invokestatic 67, 3) := by decide +kernel
theorem dX8_week_9 : decode cX8_week 9 = .ok (.ifCond .eq 32, 3) := by decide +kernel
theorem dX8_week_12 : decode cX8_week 12 = .ok (.iload_n 2, 1) := by decide +kernel
theorem dX8_week_13 : decode cX8_week 13 = .ok (.iconst 0, 1) := by decide +kernel
theorem dX8_week_14 : decode cX8_week 14 = .ok (.iconst 3, 1) := by decide +kernel
theorem dX8_week_15 : decode cX8_week 15 = .ok (.invokestatic 32, 3) := by decide +kernel
theorem dX8_week_18 : decode cX8_week 18 = .ok (.ifCond .eq 23, 3) := by decide +kernel
theorem dX8_week_21 : decode cX8_week 21 = .ok (.iload_n 3, 1) := by decide +kernel
theorem dX8_week_22 : decode cX8_week 22 = .ok (.iconst 0, 1) := by decide +kernel
theorem dX8_week_23 : decode cX8_week 23 = .ok (.bipush 6, 2) := by decide +kernel
theorem dX8_week_25 : decode cX8_week 25 = .ok (.invokestatic 32, 3) := by decide +kernel
theorem dX8_week_28 : decode cX8_week 28 = .ok (.ifCond .eq 13, 3) := by decide +kernel
theorem dX8_week_31 : decode cX8_week 31 = .ok (.aload_n 0, 1) := by decide +kernel
theorem dX8_week_32 : decode cX8_week 32 = .ok (.iload_n 1, 1) := by decide +kernel
theorem dX8_week_33 : decode cX8_week 33 = .ok (.iload_n 2, 1) := by decide +kernel
theorem dX8_week_34 : decode cX8_week 34 = .ok (.iload_n 3, 1) := by decide +kernel
theorem dX8_week_35 : decode cX8_week 35 = .ok (.invokevirtual 141, 3) := by decide +kernel
theorem dX8_week_38 : decode cX8_week 38 = .ok (.goto 8, 3) := by decide +kernel
theorem dX8_week_41 : decode cX8_week 41 = .ok (.aload_n 0, 1) := by decide +kernel
theorem dX8_week_42 : decode cX8_week 42 = .ok (.iconst 1, 1) := by decide +kernel
theorem dX8_week_43 : decode cX8_week 43 = .ok (.invokevirtual 74, 3) := by decide +kernel
theorem dX8_week_46 : decode cX8_week 46 = .ok (.ireturn, 1) := by decide +kernel
theorem dX8_overWeeks_0 : decode cX8_overWeeks 0 = .ok (.iconst 0, 1) := by decide +kernel
theorem dX8_overWeeks_1 : decode cX8_overWeeks 1 = .ok (.istore_n 2, 1) := by decide +kernel
theorem dX8_overWeeks_2 : decode cX8_overWeeks 2 = .ok (.iconst 0, 1) := by decide +kernel
theorem dX8_overWeeks_3 : decode cX8_overWeeks 3 = .ok (.istore_n 3, 1) := by decide +kernel
theorem dX8_overWeeks_4 : decode cX8_overWeeks 4 = .ok (.iload_n 3, 1) := by decide +kernel
theorem dX8_overWeeks_5 : decode cX8_overWeeks 5 = .ok (.bipush 16, 2) := by decide +kernel
theorem dX8_overWeeks_7 : decode cX8_overWeeks 7 = .ok (.if_icmp .ge 23, 3) := by decide +kernel
theorem dX8_overWeeks_10 : decode cX8_overWeeks 10 = .ok (.iload_n 2, 1) := by decide +kernel
theorem dX8_overWeeks_11 : decode cX8_overWeeks 11 = .ok (.aload_n 0, 1) := by decide +kernel
theorem dX8_overWeeks_12 : decode cX8_overWeeks 12 = .ok (.iload_n 3, 1) := by decide +kernel
theorem dX8_overWeeks_13 : decode cX8_overWeeks 13 = .ok (.iconst 4, 1) := by decide +kernel
theorem dX8_overWeeks_14 : decode cX8_overWeeks 14 = .ok (.idiv, 1) := by decide +kernel
theorem dX8_overWeeks_15 : decode cX8_overWeeks 15 = .ok (.iload_n 3, 1) := by decide +kernel
theorem dX8_overWeeks_16 : decode cX8_overWeeks 16 = .ok (.iconst 4, 1) := by decide +kernel
theorem dX8_overWeeks_17 : decode cX8_overWeeks 17 = .ok (.irem, 1) := by decide +kernel
theorem dX8_overWeeks_18 : decode cX8_overWeeks 18 = .ok (.iload_n 1, 1) := by decide +kernel
theorem dX8_overWeeks_19 : decode cX8_overWeeks 19 = .ok (.invokevirtual 141, 3) := by decide +kernel
theorem dX8_overWeeks_22 : decode cX8_overWeeks 22 = .ok (.iadd, 1) := by decide +kernel
theorem dX8_overWeeks_23 : decode cX8_overWeeks 23 = .ok (.istore_n 2, 1) := by decide +kernel
theorem dX8_overWeeks_24 : decode cX8_overWeeks 24 = .ok (.iinc 3 1, 3) := by decide +kernel
theorem dX8_overWeeks_27 : decode cX8_overWeeks 27 = .ok (.goto (-23), 3) := by decide +kernel
theorem dX8_overWeeks_30 : decode cX8_overWeeks 30 = .ok (.iload_n 2, 1) := by decide +kernel
theorem dX8_overWeeks_31 : decode cX8_overWeeks 31 = .ok (.ireturn, 1) := by decide +kernel
theorem dX8_alone_0 : decode cX8_alone 0 = .ok (.aload_n 0, 1) := by decide +kernel
theorem dX8_alone_1 : decode cX8_alone 1 = .ok (.invokevirtual 50, 3) := by decide +kernel
theorem dX8_alone_4 : decode cX8_alone 4 = .ok (.iconst 0, 1) := by decide +kernel
theorem dX8_alone_5 : decode cX8_alone 5 = .ok (.istore_n 1, 1) := by decide +kernel
theorem dX8_alone_6 : decode cX8_alone 6 = .ok (.iconst 0, 1) := by decide +kernel
theorem dX8_alone_7 : decode cX8_alone 7 = .ok (.istore_n 2, 1) := by decide +kernel
theorem dX8_alone_8 : decode cX8_alone 8 = .ok (.iload_n 2, 1) := by decide +kernel
theorem dX8_alone_9 : decode cX8_alone 9 = .ok (.aload_n 0, 1) := by decide +kernel
theorem dX8_alone_10 : decode cX8_alone 10 = .ok (.getfield 7, 3) := by decide +kernel
theorem dX8_alone_13 : decode cX8_alone 13 = .ok (.bipush 9, 2) := by decide +kernel
theorem dX8_alone_15 : decode cX8_alone 15 = .ok (.iaload, 1) := by decide +kernel
theorem dX8_alone_16 : decode cX8_alone 16 = .ok (.if_icmp .ge 27, 3) := by decide +kernel
theorem dX8_alone_19 : decode cX8_alone 19 = .ok (.iload_n 1, 1) := by decide +kernel
theorem dX8_alone_20 : decode cX8_alone 20 = .ok (.aload_n 0, 1) := by decide +kernel
theorem dX8_alone_21 : decode cX8_alone 21 = .ok (.getfield 22, 3) := by decide +kernel
theorem dX8_alone_24 : decode cX8_alone 24 = .ok (.iload_n 2, 1) := by decide +kernel
theorem dX8_alone_25 : decode cX8_alone 25 = .ok (.iaload, 1) := by decide +kernel
theorem dX8_alone_26 : decode cX8_alone 26 = .ok (.iconst (-1), 1) := by decide +kernel
theorem dX8_alone_27 : decode cX8_alone 27 = .ok (.if_icmp .ne 7, 3) := by decide +kernel
theorem dX8_alone_30 : decode cX8_alone 30 = .ok (.iconst 1, 1) := by decide +kernel
theorem dX8_alone_31 : decode cX8_alone 31 = .ok (.goto 4, 3) := by decide +kernel
theorem dX8_alone_34 : decode cX8_alone 34 = .ok (.iconst 0, 1) := by decide +kernel
theorem dX8_alone_35 : decode cX8_alone 35 = .ok (.iadd, 1) := by decide +kernel
theorem dX8_alone_36 : decode cX8_alone 36 = .ok (.istore_n 1, 1) := by decide +kernel
theorem dX8_alone_37 : decode cX8_alone 37 = .ok (.iinc 2 1, 3) := by decide +kernel
theorem dX8_alone_40 : decode cX8_alone 40 = .ok (.goto (-32), 3) := by decide +kernel
theorem dX8_alone_43 : decode cX8_alone 43 = .ok (.iload_n 1, 1) := by decide +kernel
theorem dX8_alone_44 : decode cX8_alone 44 = .ok (.ireturn, 1) := by decide +kernel
theorem dX8_unsettled_0 : decode cX8_unsettled 0 = .ok (.iconst 0, 1) := by decide +kernel
theorem dX8_unsettled_1 : decode cX8_unsettled 1 = .ok (.istore_n 1, 1) := by decide +kernel
theorem dX8_unsettled_2 : decode cX8_unsettled 2 = .ok (.iconst 0, 1) := by decide +kernel
theorem dX8_unsettled_3 : decode cX8_unsettled 3 = .ok (.istore_n 2, 1) := by decide +kernel
theorem dX8_unsettled_4 : decode cX8_unsettled 4 = .ok (.iload_n 2, 1) := by decide +kernel
theorem dX8_unsettled_5 : decode cX8_unsettled 5 = .ok (.bipush 16, 2) := by decide +kernel
theorem dX8_unsettled_7 : decode cX8_unsettled 7 = .ok (.if_icmp .ge 53, 3) := by decide +kernel
theorem dX8_unsettled_10 : decode cX8_unsettled 10 = .ok (.iload_n 1, 1) := by decide +kernel
theorem dX8_unsettled_11 : decode cX8_unsettled 11 = .ok (.aload_n 0, 1) := by decide +kernel
theorem dX8_unsettled_12 : decode cX8_unsettled 12 = .ok (.getfield 7, 3) := by decide +kernel
theorem dX8_unsettled_15 : decode cX8_unsettled 15 = .ok (.sipush 408, 3) := by decide +kernel
theorem dX8_unsettled_18 : decode cX8_unsettled 18 = .ok (.iload_n 2, 1) := by decide +kernel
theorem dX8_unsettled_19 : decode cX8_unsettled 19 = .ok (.iadd, 1) := by decide +kernel
theorem dX8_unsettled_20 : decode cX8_unsettled 20 = .ok (.iaload, 1) := by decide +kernel
theorem dX8_unsettled_21 : decode cX8_unsettled 21 = .ok (.ifCond .le 30, 3) := by decide +kernel
theorem dX8_unsettled_24 : decode cX8_unsettled 24 = .ok (.aload_n 0, 1) := by decide +kernel
theorem dX8_unsettled_25 : decode cX8_unsettled 25 = .ok (.iload_n 2, 1) := by decide +kernel
theorem dX8_unsettled_26 : decode cX8_unsettled 26 = .ok (.iconst 4, 1) := by decide +kernel
theorem dX8_unsettled_27 : decode cX8_unsettled 27 = .ok (.idiv, 1) := by decide +kernel
theorem dX8_unsettled_28 : decode cX8_unsettled 28 = .ok (.iload_n 2, 1) := by decide +kernel
theorem dX8_unsettled_29 : decode cX8_unsettled 29 = .ok (.iconst 4, 1) := by decide +kernel
theorem dX8_unsettled_30 : decode cX8_unsettled 30 = .ok (.irem, 1) := by decide +kernel
theorem dX8_unsettled_31 : decode cX8_unsettled 31 = .ok (.invokevirtual 96, 3) := by decide +kernel
theorem dX8_unsettled_34 : decode cX8_unsettled 34 = .ok (.aload_n 0, 1) := by decide +kernel
theorem dX8_unsettled_35 : decode cX8_unsettled 35 = .ok (.getfield 7, 3) := by decide +kernel
theorem dX8_unsettled_38 : decode cX8_unsettled 38 = .ok (.sipush 376, 3) := by decide +kernel
theorem dX8_unsettled_41 : decode cX8_unsettled 41 = .ok (.iload_n 2, 1) := by decide +kernel
theorem dX8_unsettled_42 : decode cX8_unsettled 42 = .ok (.iadd, 1) := by decide +kernel
theorem dX8_unsettled_43 : decode cX8_unsettled 43 = .ok (.iaload, 1) := by decide +kernel
theorem dX8_unsettled_44 : decode cX8_unsettled 44 = .ok (.if_icmp .eq 7, 3) := by decide +kernel
theorem dX8_unsettled_47 : decode cX8_unsettled 47 = .ok (.iconst 1, 1) := by decide +kernel
theorem dX8_unsettled_48 : decode cX8_unsettled 48 = .ok (.goto 4, 3) := by decide +kernel
theorem dX8_unsettled_51 : decode cX8_unsettled 51 = .ok (.iconst 0, 1) := by decide +kernel
theorem dX8_unsettled_52 : decode cX8_unsettled 52 = .ok (.iadd, 1) := by decide +kernel
theorem dX8_unsettled_53 : decode cX8_unsettled 53 = .ok (.istore_n 1, 1) := by decide +kernel
theorem dX8_unsettled_54 : decode cX8_unsettled 54 = .ok (.iinc 2 1, 3) := by decide +kernel
theorem dX8_unsettled_57 : decode cX8_unsettled 57 = .ok (.goto (-53), 3) := by decide +kernel
theorem dX8_unsettled_60 : decode cX8_unsettled 60 = .ok (.iload_n 1, 1) := by decide +kernel
theorem dX8_unsettled_61 : decode cX8_unsettled 61 = .ok (.ireturn, 1) := by decide +kernel
theorem dX8_counts_0 : decode cX8_counts 0 = .ok (.iload_n 1, 1) := by decide +kernel
theorem dX8_counts_1 : decode cX8_counts 1 = .ok (.tableswitch 93 0 8 #[51, 59, 65, 70, 70, 76, 76, 76, 88], 51) := by decide +kernel
theorem dX8_counts_52 : decode cX8_counts 52 = .ok (.aload_n 0, 1) := by decide +kernel
theorem dX8_counts_53 : decode cX8_counts 53 = .ok (.getfield 7, 3) := by decide +kernel
theorem dX8_counts_56 : decode cX8_counts 56 = .ok (.bipush 9, 2) := by decide +kernel
theorem dX8_counts_58 : decode cX8_counts 58 = .ok (.iaload, 1) := by decide +kernel
theorem dX8_counts_59 : decode cX8_counts 59 = .ok (.ireturn, 1) := by decide +kernel
theorem dX8_counts_60 : decode cX8_counts 60 = .ok (.aload_n 0, 1) := by decide +kernel
theorem dX8_counts_61 : decode cX8_counts 61 = .ok (.iconst 0, 1) := by decide +kernel
theorem dX8_counts_62 : decode cX8_counts 62 = .ok (.invokevirtual 144, 3) := by decide +kernel
theorem dX8_counts_65 : decode cX8_counts 65 = .ok (.ireturn, 1) := by decide +kernel
theorem dX8_counts_66 : decode cX8_counts 66 = .ok (.aload_n 0, 1) := by decide +kernel
theorem dX8_counts_67 : decode cX8_counts 67 = .ok (.invokevirtual 147, 3) := by decide +kernel
theorem dX8_counts_70 : decode cX8_counts 70 = .ok (.ireturn, 1) := by decide +kernel
theorem dX8_counts_71 : decode cX8_counts 71 = .ok (.aload_n 0, 1) := by decide +kernel
theorem dX8_counts_72 : decode cX8_counts 72 = .ok (.iload_n 1, 1) := by decide +kernel
theorem dX8_counts_73 : decode cX8_counts 73 = .ok (.invokevirtual 144, 3) := by decide +kernel
theorem dX8_counts_76 : decode cX8_counts 76 = .ok (.ireturn, 1) := by decide +kernel
theorem dX8_counts_77 : decode cX8_counts 77 = .ok (.aload_n 0, 1) := by decide +kernel
theorem dX8_counts_78 : decode cX8_counts 78 = .ok (.getfield 7, 3) := by decide +kernel
theorem dX8_counts_81 : decode cX8_counts 81 = .ok (.bipush 6, 2) := by decide +kernel
theorem dX8_counts_83 : decode cX8_counts 83 = .ok (.iload_n 1, 1) := by decide +kernel
theorem dX8_counts_84 : decode cX8_counts 84 = .ok (.iadd, 1) := by decide +kernel
theorem dX8_counts_85 : decode cX8_counts 85 = .ok (.iconst 5, 1) := by decide +kernel
theorem dX8_counts_86 : decode cX8_counts 86 = .ok (.isub, 1) := by decide +kernel
theorem dX8_counts_87 : decode cX8_counts 87 = .ok (.iaload, 1) := by decide +kernel
theorem dX8_counts_88 : decode cX8_counts 88 = .ok (.ireturn, 1) := by decide +kernel
theorem dX8_counts_89 : decode cX8_counts 89 = .ok (.aload_n 0, 1) := by decide +kernel
theorem dX8_counts_90 : decode cX8_counts 90 = .ok (.invokevirtual 150, 3) := by decide +kernel
theorem dX8_counts_93 : decode cX8_counts 93 = .ok (.ireturn, 1) := by decide +kernel
theorem dX8_counts_94 : decode cX8_counts 94 = .ok (.aload_n 0, 1) := by decide +kernel
theorem dX8_counts_95 : decode cX8_counts 95 = .ok (.getfield 36, 3) := by decide +kernel
theorem dX8_counts_98 : decode cX8_counts 98 = .ok (.ireturn, 1) := by decide +kernel
theorem dX8_count_0 : decode cX8_count 0 = .ok (.aload_n 0, 1) := by decide +kernel
theorem dX8_count_1 : decode cX8_count 1 = .ok (.iconst 0, 1) := by decide +kernel
theorem dX8_count_2 : decode cX8_count 2 = .ok (.putfield 28, 3) := by decide +kernel
theorem dX8_count_5 : decode cX8_count 5 = .ok (.iload_n 1, 1) := by decide +kernel
theorem dX8_count_6 : decode cX8_count 6 = .ok (.iconst 0, 1) := by decide +kernel
theorem dX8_count_7 : decode cX8_count 7 = .ok (.bipush 9, 2) := by decide +kernel
theorem dX8_count_9 : decode cX8_count 9 = .ok (.invokestatic 32, 3) := by decide +kernel
theorem dX8_count_12 : decode cX8_count 12 = .ok (.ifCond .eq 11, 3) := by decide +kernel
theorem dX8_count_15 : decode cX8_count 15 = .ok (.aload_n 0, 1) := by decide +kernel
theorem dX8_count_16 : decode cX8_count 16 = .ok (.iload_n 1, 1) := by decide +kernel
theorem dX8_count_17 : decode cX8_count 17 = .ok (.invokevirtual 153, 3) := by decide +kernel
theorem dX8_count_20 : decode cX8_count 20 = .ok (.goto 8, 3) := by decide +kernel
theorem dX8_count_23 : decode cX8_count 23 = .ok (.aload_n 0, 1) := by decide +kernel
theorem dX8_count_24 : decode cX8_count 24 = .ok (.iconst 1, 1) := by decide +kernel
theorem dX8_count_25 : decode cX8_count 25 = .ok (.invokevirtual 74, 3) := by decide +kernel
theorem dX8_count_28 : decode cX8_count 28 = .ok (.ireturn, 1) := by decide +kernel
theorem dX8_entry_0 : decode cX8_entry 0 = .ok (.aload_n 0, 1) := by decide +kernel
theorem dX8_entry_1 : decode cX8_entry 1 = .ok (.getfield 7, 3) := by decide +kernel
theorem dX8_entry_4 : decode cX8_entry 4 = .ok (.sipush 428, 3) := by decide +kernel
theorem dX8_entry_7 : decode cX8_entry 7 = .ok (.bipush 16, 2) := by decide +kernel
theorem dX8_entry_9 : decode cX8_entry 9 = .ok (.iload_n 1, 1) := by decide +kernel
theorem dX8_entry_10 : decode cX8_entry 10 = .ok (.imul, 1) := by decide +kernel
theorem dX8_entry_11 : decode cX8_entry 11 = .ok (.iadd, 1) := by decide +kernel
theorem dX8_entry_12 : decode cX8_entry 12 = .ok (.iconst 2, 1) := by decide +kernel
theorem dX8_entry_13 : decode cX8_entry 13 = .ok (.iload_n 2, 1) := by decide +kernel
theorem dX8_entry_14 : decode cX8_entry 14 = .ok (.imul, 1) := by decide +kernel
theorem dX8_entry_15 : decode cX8_entry 15 = .ok (.iadd, 1) := by decide +kernel
theorem dX8_entry_16 : decode cX8_entry 16 = .ok (.iload_n 3, 1) := by decide +kernel
theorem dX8_entry_17 : decode cX8_entry 17 = .ok (.iadd, 1) := by decide +kernel
theorem dX8_entry_18 : decode cX8_entry 18 = .ok (.iaload, 1) := by decide +kernel
theorem dX8_entry_19 : decode cX8_entry 19 = .ok (.istore 4, 2) := by decide +kernel
theorem dX8_entry_21 : decode cX8_entry 21 = .ok (.iload_n 2, 1) := by decide +kernel
theorem dX8_entry_22 : decode cX8_entry 22 = .ok (.aload_n 0, 1) := by decide +kernel
theorem dX8_entry_23 : decode cX8_entry 23 = .ok (.getfield 7, 3) := by decide +kernel
theorem dX8_entry_26 : decode cX8_entry 26 = .ok (.sipush 424, 3) := by decide +kernel
theorem dX8_entry_29 : decode cX8_entry 29 = .ok (.iload_n 1, 1) := by decide +kernel
theorem dX8_entry_30 : decode cX8_entry 30 = .ok (.iadd, 1) := by decide +kernel
theorem dX8_entry_31 : decode cX8_entry 31 = .ok (.iaload, 1) := by decide +kernel
theorem dX8_entry_32 : decode cX8_entry 32 = .ok (.if_icmp .lt 7, 3) := by decide +kernel
theorem dX8_entry_35 : decode cX8_entry 35 = .ok (.iconst (-1), 1) := by decide +kernel
theorem dX8_entry_36 : decode cX8_entry 36 = .ok (.goto 17, 3) := by decide +kernel
theorem dX8_entry_39 : decode cX8_entry 39 = .ok (.iload_n 3, 1) := by decide +kernel
theorem dX8_entry_40 : decode cX8_entry 40 = .ok (.ifCond .ne 8, 3) := by decide +kernel
theorem dX8_entry_43 : decode cX8_entry 43 = .ok (.iload 4, 2) := by decide +kernel
theorem dX8_entry_45 : decode cX8_entry 45 = .ok (.goto 8, 3) := by decide +kernel
theorem dX8_entry_48 : decode cX8_entry 48 = .ok (.iload 4, 2) := by decide +kernel
theorem dX8_entry_50 : decode cX8_entry 50 = .ok (.ldc 103, 2) := by decide +kernel
theorem dX8_entry_52 : decode cX8_entry 52 = .ok (.iadd, 1) := by decide +kernel
theorem dX8_entry_53 : decode cX8_entry 53 = .ok (.ireturn, 1) := by decide +kernel
theorem dX8_ledger_0 : decode cX8_ledger 0 = .ok (.aload_n 0, 1) := by decide +kernel
theorem dX8_ledger_1 : decode cX8_ledger 1 = .ok (.iconst 0, 1) := by decide +kernel
theorem dX8_ledger_2 : decode cX8_ledger 2 = .ok (.putfield 28, 3) := by decide +kernel
theorem dX8_ledger_5 : decode cX8_ledger 5 = .ok (.iload_n 1, 1) := by decide +kernel
theorem dX8_ledger_6 : decode cX8_ledger 6 = .ok (.invokestatic 67, 3) := by decide +kernel
theorem dX8_ledger_9 : decode cX8_ledger 9 = .ok (.ifCond .eq 32, 3) := by decide +kernel
theorem dX8_ledger_12 : decode cX8_ledger 12 = .ok (.iload_n 2, 1) := by decide +kernel
theorem dX8_ledger_13 : decode cX8_ledger 13 = .ok (.iconst 0, 1) := by decide +kernel
theorem dX8_ledger_14 : decode cX8_ledger 14 = .ok (.bipush 7, 2) := by decide +kernel
theorem dX8_ledger_16 : decode cX8_ledger 16 = .ok (.invokestatic 32, 3) := by decide +kernel
theorem dX8_ledger_19 : decode cX8_ledger 19 = .ok (.ifCond .eq 22, 3) := by decide +kernel
theorem dX8_ledger_22 : decode cX8_ledger 22 = .ok (.iload_n 3, 1) := by decide +kernel
theorem dX8_ledger_23 : decode cX8_ledger 23 = .ok (.iconst 0, 1) := by decide +kernel
theorem dX8_ledger_24 : decode cX8_ledger 24 = .ok (.iconst 1, 1) := by decide +kernel
theorem dX8_ledger_25 : decode cX8_ledger 25 = .ok (.invokestatic 32, 3) := by decide +kernel
theorem dX8_ledger_28 : decode cX8_ledger 28 = .ok (.ifCond .eq 13, 3) := by decide +kernel
theorem dX8_ledger_31 : decode cX8_ledger 31 = .ok (.aload_n 0, 1) := by decide +kernel
theorem dX8_ledger_32 : decode cX8_ledger 32 = .ok (.iload_n 1, 1) := by decide +kernel
theorem dX8_ledger_33 : decode cX8_ledger 33 = .ok (.iload_n 2, 1) := by decide +kernel
theorem dX8_ledger_34 : decode cX8_ledger 34 = .ok (.iload_n 3, 1) := by decide +kernel
theorem dX8_ledger_35 : decode cX8_ledger 35 = .ok (.invokevirtual 156, 3) := by decide +kernel
theorem dX8_ledger_38 : decode cX8_ledger 38 = .ok (.goto 8, 3) := by decide +kernel
theorem dX8_ledger_41 : decode cX8_ledger 41 = .ok (.aload_n 0, 1) := by decide +kernel
theorem dX8_ledger_42 : decode cX8_ledger 42 = .ok (.iconst 1, 1) := by decide +kernel
theorem dX8_ledger_43 : decode cX8_ledger 43 = .ok (.invokevirtual 74, 3) := by decide +kernel
theorem dX8_ledger_46 : decode cX8_ledger 46 = .ok (.ireturn, 1) := by decide +kernel
theorem dX8_would_0 : decode cX8_would 0 = .ok (.aload_n 0, 1) := by decide +kernel
theorem dX8_would_1 : decode cX8_would 1 = .ok (.invokevirtual 87, 3) := by decide +kernel
theorem dX8_would_4 : decode cX8_would 4 = .ok (.aload_n 0, 1) := by decide +kernel
theorem dX8_would_5 : decode cX8_would 5 = .ok (.iload_n 1, 1) := by decide +kernel
theorem dX8_would_6 : decode cX8_would 6 = .ok (.iload_n 2, 1) := by decide +kernel
theorem dX8_would_7 : decode cX8_would 7 = .ok (.bipush 7, 2) := by decide +kernel
theorem dX8_would_9 : decode cX8_would 9 = .ok (.idiv, 1) := by decide +kernel
theorem dX8_would_10 : decode cX8_would 10 = .ok (.invokevirtual 96, 3) := by decide +kernel
theorem dX8_would_13 : decode cX8_would 13 = .ok (.istore 6, 2) := by decide +kernel
theorem dX8_would_15 : decode cX8_would 15 = .ok (.aload_n 0, 1) := by decide +kernel
theorem dX8_would_16 : decode cX8_would 16 = .ok (.iload_n 1, 1) := by decide +kernel
theorem dX8_would_17 : decode cX8_would 17 = .ok (.iload_n 2, 1) := by decide +kernel
theorem dX8_would_18 : decode cX8_would 18 = .ok (.iload_n 3, 1) := by decide +kernel
theorem dX8_would_19 : decode cX8_would 19 = .ok (.iload 4, 2) := by decide +kernel
theorem dX8_would_21 : decode cX8_would 21 = .ok (.iload 5, 2) := by decide +kernel
theorem dX8_would_23 : decode cX8_would 23 = .ok (.iconst 0, 1) := by decide +kernel
theorem dX8_would_24 : decode cX8_would 24 = .ok (.invokevirtual 80, 3) := by decide +kernel
theorem dX8_would_27 : decode cX8_would 27 = .ok (.pop, 1) := by decide +kernel
theorem dX8_would_28 : decode cX8_would 28 = .ok (.aload_n 0, 1) := by decide +kernel
theorem dX8_would_29 : decode cX8_would 29 = .ok (.iload_n 1, 1) := by decide +kernel
theorem dX8_would_30 : decode cX8_would 30 = .ok (.iload_n 2, 1) := by decide +kernel
theorem dX8_would_31 : decode cX8_would 31 = .ok (.bipush 7, 2) := by decide +kernel
theorem dX8_would_33 : decode cX8_would 33 = .ok (.idiv, 1) := by decide +kernel
theorem dX8_would_34 : decode cX8_would 34 = .ok (.invokevirtual 96, 3) := by decide +kernel
theorem dX8_would_37 : decode cX8_would 37 = .ok (.iload 6, 2) := by decide +kernel
theorem dX8_would_39 : decode cX8_would 39 = .ok (.isub, 1) := by decide +kernel
theorem dX8_would_40 : decode cX8_would 40 = .ok (.istore 7, 2) := by decide +kernel
theorem dX8_would_42 : decode cX8_would 42 = .ok (.aload_n 0, 1) := by decide +kernel
theorem dX8_would_43 : decode cX8_would 43 = .ok (.invokevirtual 93, 3) := by decide +kernel
theorem dX8_would_46 : decode cX8_would 46 = .ok (.iload 7, 2) := by decide +kernel
theorem dX8_would_48 : decode cX8_would 48 = .ok (.ldc 103, 2) := by decide +kernel
theorem dX8_would_50 : decode cX8_would 50 = .ok (.iadd, 1) := by decide +kernel
theorem dX8_would_51 : decode cX8_would 51 = .ok (.ireturn, 1) := by decide +kernel
theorem dX8_ifTapped_0 : decode cX8_ifTapped 0 = .ok (.aload_n 0, 1) := by decide +kernel
theorem dX8_ifTapped_1 : decode cX8_ifTapped 1 = .ok (.iconst 0, 1) := by decide +kernel
theorem dX8_ifTapped_2 : decode cX8_ifTapped 2 = .ok (.putfield 28, 3) := by decide +kernel
theorem dX8_ifTapped_5 : decode cX8_ifTapped 5 = .ok (.iload_n 1, 1) := by decide +kernel
theorem dX8_ifTapped_6 : decode cX8_ifTapped 6 = .ok (.iload_n 2, 1) := by decide +kernel
theorem dX8_ifTapped_7 : decode cX8_ifTapped 7 = .ok (.iload_n 3, 1) := by decide +kernel
theorem dX8_ifTapped_8 : decode cX8_ifTapped 8 = .ok (.iload 4, 2) := by decide +kernel
theorem dX8_ifTapped_10 : decode cX8_ifTapped 10 = .ok (.invokestatic 70, 3) := by decide +kernel
theorem dX8_ifTapped_13 : decode cX8_ifTapped 13 = .ok (.ifCond .eq 25, 3) := by decide +kernel
theorem dX8_ifTapped_16 : decode cX8_ifTapped 16 = .ok (.aload_n 0, 1) := by decide +kernel
theorem dX8_ifTapped_17 : decode cX8_ifTapped 17 = .ok (.iload_n 1, 1) := by decide +kernel
theorem dX8_ifTapped_18 : decode cX8_ifTapped 18 = .ok (.iload_n 2, 1) := by decide +kernel
theorem dX8_ifTapped_19 : decode cX8_ifTapped 19 = .ok (.iload_n 3, 1) := by decide +kernel
theorem dX8_ifTapped_20 : decode cX8_ifTapped 20 = .ok (.iload 4, 2) := by decide +kernel
theorem dX8_ifTapped_22 : decode cX8_ifTapped 22 = .ok (.iload 5, 2) := by decide +kernel
theorem dX8_ifTapped_24 : decode cX8_ifTapped 24 = .ok (.ifCond .eq 7, 3) := by decide +kernel
theorem dX8_ifTapped_27 : decode cX8_ifTapped 27 = .ok (.iconst 1, 1) := by decide +kernel
theorem dX8_ifTapped_28 : decode cX8_ifTapped 28 = .ok (.goto 4, 3) := by decide +kernel
theorem dX8_ifTapped_31 : decode cX8_ifTapped 31 = .ok (.iconst 0, 1) := by decide +kernel
theorem dX8_ifTapped_32 : decode cX8_ifTapped 32 = .ok (.invokevirtual 159, 3) := by decide +kernel
theorem dX8_ifTapped_35 : decode cX8_ifTapped 35 = .ok (.goto 8, 3) := by decide +kernel
theorem dX8_ifTapped_38 : decode cX8_ifTapped 38 = .ok (.aload_n 0, 1) := by decide +kernel
theorem dX8_ifTapped_39 : decode cX8_ifTapped 39 = .ok (.iconst 1, 1) := by decide +kernel
theorem dX8_ifTapped_40 : decode cX8_ifTapped 40 = .ok (.invokevirtual 74, 3) := by decide +kernel
theorem dX8_ifTapped_43 : decode cX8_ifTapped 43 = .ok (.ireturn, 1) := by decide +kernel
theorem dX8_whyNot_0 : decode cX8_whyNot 0 = .ok (.aload_n 0, 1) := by decide +kernel
theorem dX8_whyNot_1 : decode cX8_whyNot 1 = .ok (.iconst 0, 1) := by decide +kernel
theorem dX8_whyNot_2 : decode cX8_whyNot 2 = .ok (.putfield 28, 3) := by decide +kernel
theorem dX8_whyNot_5 : decode cX8_whyNot 5 = .ok (.iload_n 2, 1) := by decide +kernel
theorem dX8_whyNot_6 : decode cX8_whyNot 6 = .ok (.iconst 0, 1) := by decide +kernel
theorem dX8_whyNot_7 : decode cX8_whyNot 7 = .ok (.sipush 1439, 3) := by decide +kernel
theorem dX8_whyNot_10 : decode cX8_whyNot 10 = .ok (.invokestatic 32, 3) := by decide +kernel
theorem dX8_whyNot_13 : decode cX8_whyNot 13 = .ok (.ifCond .eq 13, 3) := by decide +kernel
theorem dX8_whyNot_16 : decode cX8_whyNot 16 = .ok (.iload_n 3, 1) := by decide +kernel
theorem dX8_whyNot_17 : decode cX8_whyNot 17 = .ok (.iconst 0, 1) := by decide +kernel
theorem dX8_whyNot_18 : decode cX8_whyNot 18 = .ok (.bipush 9, 2) := by decide +kernel
theorem dX8_whyNot_20 : decode cX8_whyNot 20 = .ok (.invokestatic 32, 3) := by decide +kernel
theorem dX8_whyNot_23 : decode cX8_whyNot 23 = .ok (.ifCond .ne 9, 3) := by decide +kernel
theorem dX8_whyNot_26 : decode cX8_whyNot 26 = .ok (.aload_n 0, 1) := by decide +kernel
theorem dX8_whyNot_27 : decode cX8_whyNot 27 = .ok (.iconst 1, 1) := by decide +kernel
theorem dX8_whyNot_28 : decode cX8_whyNot 28 = .ok (.invokevirtual 74, 3) := by decide +kernel
theorem dX8_whyNot_31 : decode cX8_whyNot 31 = .ok (.ireturn, 1) := by decide +kernel
theorem dX8_whyNot_32 : decode cX8_whyNot 32 = .ok (.aload_n 0, 1) := by decide +kernel
theorem dX8_whyNot_33 : decode cX8_whyNot 33 = .ok (.invokevirtual 87, 3) := by decide +kernel
theorem dX8_whyNot_36 : decode cX8_whyNot 36 = .ok (.aload_n 0, 1) := by decide +kernel
theorem dX8_whyNot_37 : decode cX8_whyNot 37 = .ok (.iload_n 1, 1) := by decide +kernel
theorem dX8_whyNot_38 : decode cX8_whyNot 38 = .ok (.iload_n 2, 1) := by decide +kernel
theorem dX8_whyNot_39 : decode cX8_whyNot 39 = .ok (.iload_n 3, 1) := by decide +kernel
theorem dX8_whyNot_40 : decode cX8_whyNot 40 = .ok (.invokevirtual 90, 3) := by decide +kernel
theorem dX8_whyNot_43 : decode cX8_whyNot 43 = .ok (.istore 4, 2) := by decide +kernel
theorem dX8_whyNot_45 : decode cX8_whyNot 45 = .ok (.aload_n 0, 1) := by decide +kernel
theorem dX8_whyNot_46 : decode cX8_whyNot 46 = .ok (.invokevirtual 93, 3) := by decide +kernel
theorem dX8_whyNot_49 : decode cX8_whyNot 49 = .ok (.iload 4, 2) := by decide +kernel
theorem dX8_whyNot_51 : decode cX8_whyNot 51 = .ok (.ireturn, 1) := by decide +kernel
theorem dX8_leakyOne_0 : decode cX8_leakyOne 0 = .ok (.aload_n 0, 1) := by decide +kernel
theorem dX8_leakyOne_1 : decode cX8_leakyOne 1 = .ok (.invokevirtual 50, 3) := by decide +kernel
theorem dX8_leakyOne_4 : decode cX8_leakyOne 4 = .ok (.iconst (-1), 1) := by decide +kernel
theorem dX8_leakyOne_5 : decode cX8_leakyOne 5 = .ok (.istore_n 1, 1) := by decide +kernel
theorem dX8_leakyOne_6 : decode cX8_leakyOne 6 = .ok (.iconst 0, 1) := by decide +kernel
theorem dX8_leakyOne_7 : decode cX8_leakyOne 7 = .ok (.istore_n 2, 1) := by decide +kernel
theorem dX8_leakyOne_8 : decode cX8_leakyOne 8 = .ok (.iconst 0, 1) := by decide +kernel
theorem dX8_leakyOne_9 : decode cX8_leakyOne 9 = .ok (.istore_n 3, 1) := by decide +kernel
theorem dX8_leakyOne_10 : decode cX8_leakyOne 10 = .ok (.iload_n 3, 1) := by decide +kernel
theorem dX8_leakyOne_11 : decode cX8_leakyOne 11 = .ok (.bipush 10, 2) := by decide +kernel
theorem dX8_leakyOne_13 : decode cX8_leakyOne 13 = .ok (.if_icmp .ge 90, 3) := by decide +kernel
theorem dX8_leakyOne_16 : decode cX8_leakyOne 16 = .ok (.iconst 0, 1) := by decide +kernel
theorem dX8_leakyOne_17 : decode cX8_leakyOne 17 = .ok (.istore 4, 2) := by decide +kernel
theorem dX8_leakyOne_19 : decode cX8_leakyOne 19 = .ok (.iconst 0, 1) := by decide +kernel
theorem dX8_leakyOne_20 : decode cX8_leakyOne 20 = .ok (.istore 5, 2) := by decide +kernel
theorem dX8_leakyOne_22 : decode cX8_leakyOne 22 = .ok (.iload 5, 2) := by decide +kernel
theorem dX8_leakyOne_24 : decode cX8_leakyOne 24 = .ok (.aload_n 0, 1) := by decide +kernel
theorem dX8_leakyOne_25 : decode cX8_leakyOne 25 = .ok (.getfield 7, 3) := by decide +kernel
theorem dX8_leakyOne_28 : decode cX8_leakyOne 28 = .ok (.bipush 9, 2) := by decide +kernel
theorem dX8_leakyOne_30 : decode cX8_leakyOne 30 = .ok (.iaload, 1) := by decide +kernel
theorem dX8_leakyOne_31 : decode cX8_leakyOne 31 = .ok (.if_icmp .ge 41, 3) := by decide +kernel
theorem dX8_leakyOne_34 : decode cX8_leakyOne 34 = .ok (.iload 4, 2) := by decide +kernel
theorem dX8_leakyOne_36 : decode cX8_leakyOne 36 = .ok (.aload_n 0, 1) := by decide +kernel
theorem dX8_leakyOne_37 : decode cX8_leakyOne 37 = .ok (.getfield 22, 3) := by decide +kernel
theorem dX8_leakyOne_40 : decode cX8_leakyOne 40 = .ok (.iload 5, 2) := by decide +kernel
theorem dX8_leakyOne_42 : decode cX8_leakyOne 42 = .ok (.iaload, 1) := by decide +kernel
theorem dX8_leakyOne_43 : decode cX8_leakyOne 43 = .ok (.iconst (-1), 1) := by decide +kernel
theorem dX8_leakyOne_44 : decode cX8_leakyOne 44 = .ok (.if_icmp .ne 18, 3) := by decide +kernel
theorem dX8_leakyOne_47 : decode cX8_leakyOne 47 = .ok (.aload_n 0, 1) := by decide +kernel
theorem dX8_leakyOne_48 : decode cX8_leakyOne 48 = .ok (.iload 5, 2) := by decide +kernel
theorem dX8_leakyOne_50 : decode cX8_leakyOne 50 = .ok (.iconst 3, 1) := by decide +kernel
theorem dX8_leakyOne_51 : decode cX8_leakyOne 51 = .ok (.invokevirtual 39, 3) := by decide +kernel
theorem dX8_leakyOne_54 : decode cX8_leakyOne 54 = .ok (.iload_n 3, 1) := by decide +kernel
theorem dX8_leakyOne_55 : decode cX8_leakyOne 55 = .ok (.if_icmp .ne 7, 3) := by decide +kernel
theorem dX8_leakyOne_58 : decode cX8_leakyOne 58 = .ok (.iconst 1, 1) := by decide +kernel
theorem dX8_leakyOne_59 : decode cX8_leakyOne 59 = .ok (.goto 4, 3) := by decide +kernel
theorem dX8_leakyOne_62 : decode cX8_leakyOne 62 = .ok (.iconst 0, 1) := by decide +kernel
theorem dX8_leakyOne_63 : decode cX8_leakyOne 63 = .ok (.iadd, 1) := by decide +kernel
theorem dX8_leakyOne_64 : decode cX8_leakyOne 64 = .ok (.istore 4, 2) := by decide +kernel
theorem dX8_leakyOne_66 : decode cX8_leakyOne 66 = .ok (.iinc 5 1, 3) := by decide +kernel
theorem dX8_leakyOne_69 : decode cX8_leakyOne 69 = .ok (.goto (-47), 3) := by decide +kernel
theorem dX8_leakyOne_72 : decode cX8_leakyOne 72 = .ok (.iload 4, 2) := by decide +kernel
theorem dX8_leakyOne_74 : decode cX8_leakyOne 74 = .ok (.iload_n 2, 1) := by decide +kernel
theorem dX8_leakyOne_75 : decode cX8_leakyOne 75 = .ok (.if_icmp .le 7, 3) := by decide +kernel
theorem dX8_leakyOne_78 : decode cX8_leakyOne 78 = .ok (.iload_n 3, 1) := by decide +kernel
theorem dX8_leakyOne_79 : decode cX8_leakyOne 79 = .ok (.goto 4, 3) := by decide +kernel
theorem dX8_leakyOne_82 : decode cX8_leakyOne 82 = .ok (.iload_n 1, 1) := by decide +kernel
theorem dX8_leakyOne_83 : decode cX8_leakyOne 83 = .ok (.istore_n 1, 1) := by decide +kernel
theorem dX8_leakyOne_84 : decode cX8_leakyOne 84 = .ok (.iload 4, 2) := by decide +kernel
theorem dX8_leakyOne_86 : decode cX8_leakyOne 86 = .ok (.iload_n 2, 1) := by decide +kernel
theorem dX8_leakyOne_87 : decode cX8_leakyOne 87 = .ok (.if_icmp .le 8, 3) := by decide +kernel
theorem dX8_leakyOne_90 : decode cX8_leakyOne 90 = .ok (.iload 4, 2) := by decide +kernel
theorem dX8_leakyOne_92 : decode cX8_leakyOne 92 = .ok (.goto 4, 3) := by decide +kernel
theorem dX8_leakyOne_95 : decode cX8_leakyOne 95 = .ok (.iload_n 2, 1) := by decide +kernel
theorem dX8_leakyOne_96 : decode cX8_leakyOne 96 = .ok (.istore_n 2, 1) := by decide +kernel
theorem dX8_leakyOne_97 : decode cX8_leakyOne 97 = .ok (.iinc 3 1, 3) := by decide +kernel
theorem dX8_leakyOne_100 : decode cX8_leakyOne 100 = .ok (.goto (-90), 3) := by decide +kernel
theorem dX8_leakyOne_103 : decode cX8_leakyOne 103 = .ok (.iload_n 1, 1) := by decide +kernel
theorem dX8_leakyOne_104 : decode cX8_leakyOne 104 = .ok (.ireturn, 1) := by decide +kernel
theorem dX8_leaky_0 : decode cX8_leaky 0 = .ok (.aload_n 0, 1) := by decide +kernel
theorem dX8_leaky_1 : decode cX8_leaky 1 = .ok (.iconst 0, 1) := by decide +kernel
theorem dX8_leaky_2 : decode cX8_leaky 2 = .ok (.putfield 28, 3) := by decide +kernel
theorem dX8_leaky_5 : decode cX8_leaky 5 = .ok (.aload_n 0, 1) := by decide +kernel
theorem dX8_leaky_6 : decode cX8_leaky 6 = .ok (.invokevirtual 163, 3) := by decide +kernel
theorem dX8_leaky_9 : decode cX8_leaky 9 = .ok (.ireturn, 1) := by decide +kernel
theorem dX8_least_0 : decode cX8_least 0 = .ok (.iconst 0, 1) := by decide +kernel
theorem dX8_least_1 : decode cX8_least 1 = .ok (.istore_n 1, 1) := by decide +kernel
theorem dX8_least_2 : decode cX8_least 2 = .ok (.iconst 0, 1) := by decide +kernel
theorem dX8_least_3 : decode cX8_least 3 = .ok (.istore_n 2, 1) := by decide +kernel
theorem dX8_least_4 : decode cX8_least 4 = .ok (.iload_n 2, 1) := by decide +kernel
theorem dX8_least_5 : decode cX8_least 5 = .ok (.bipush 16, 2) := by decide +kernel
theorem dX8_least_7 : decode cX8_least 7 = .ok (.if_icmp .ge 31, 3) := by decide +kernel
theorem dX8_least_10 : decode cX8_least 10 = .ok (.aload_n 0, 1) := by decide +kernel
theorem dX8_least_11 : decode cX8_least 11 = .ok (.iload_n 2, 1) := by decide +kernel
theorem dX8_least_12 : decode cX8_least 12 = .ok (.iconst 4, 1) := by decide +kernel
theorem dX8_least_13 : decode cX8_least 13 = .ok (.idiv, 1) := by decide +kernel
theorem dX8_least_14 : decode cX8_least 14 = .ok (.iload_n 2, 1) := by decide +kernel
theorem dX8_least_15 : decode cX8_least 15 = .ok (.iconst 4, 1) := by decide +kernel
theorem dX8_least_16 : decode cX8_least 16 = .ok (.irem, 1) := by decide +kernel
theorem dX8_least_17 : decode cX8_least 17 = .ok (.invokevirtual 96, 3) := by decide +kernel
theorem dX8_least_20 : decode cX8_least 20 = .ok (.istore_n 3, 1) := by decide +kernel
theorem dX8_least_21 : decode cX8_least 21 = .ok (.iload_n 3, 1) := by decide +kernel
theorem dX8_least_22 : decode cX8_least 22 = .ok (.iload_n 1, 1) := by decide +kernel
theorem dX8_least_23 : decode cX8_least 23 = .ok (.if_icmp .le 7, 3) := by decide +kernel
theorem dX8_least_26 : decode cX8_least 26 = .ok (.iload_n 3, 1) := by decide +kernel
theorem dX8_least_27 : decode cX8_least 27 = .ok (.goto 4, 3) := by decide +kernel
theorem dX8_least_30 : decode cX8_least 30 = .ok (.iload_n 1, 1) := by decide +kernel
theorem dX8_least_31 : decode cX8_least 31 = .ok (.istore_n 1, 1) := by decide +kernel
theorem dX8_least_32 : decode cX8_least 32 = .ok (.iinc 2 1, 3) := by decide +kernel
theorem dX8_least_35 : decode cX8_least 35 = .ok (.goto (-31), 3) := by decide +kernel
theorem dX8_least_38 : decode cX8_least 38 = .ok (.iload_n 1, 1) := by decide +kernel
theorem dX8_least_39 : decode cX8_least 39 = .ok (.ireturn, 1) := by decide +kernel
theorem dX8_leastCap_0 : decode cX8_leastCap 0 = .ok (.aload_n 0, 1) := by decide +kernel
theorem dX8_leastCap_1 : decode cX8_leastCap 1 = .ok (.iconst 0, 1) := by decide +kernel
theorem dX8_leastCap_2 : decode cX8_leastCap 2 = .ok (.putfield 28, 3) := by decide +kernel
theorem dX8_leastCap_5 : decode cX8_leastCap 5 = .ok (.aload_n 0, 1) := by decide +kernel
theorem dX8_leastCap_6 : decode cX8_leastCap 6 = .ok (.invokevirtual 166, 3) := by decide +kernel
theorem dX8_leastCap_9 : decode cX8_leastCap 9 = .ok (.ireturn, 1) := by decide +kernel
theorem dX8_share_0 : decode cX8_share 0 = .ok (.aload_n 0, 1) := by decide +kernel
theorem dX8_share_1 : decode cX8_share 1 = .ok (.iconst 1, 1) := by decide +kernel
theorem dX8_share_2 : decode cX8_share 2 = .ok (.invokevirtual 144, 3) := by decide +kernel
theorem dX8_share_5 : decode cX8_share 5 = .ok (.istore_n 1, 1) := by decide +kernel
theorem dX8_share_6 : decode cX8_share 6 = .ok (.iload_n 1, 1) := by decide +kernel
theorem dX8_share_7 : decode cX8_share 7 = .ok (.ifCond .ne 7, 3) := by decide +kernel
theorem dX8_share_10 : decode cX8_share 10 = .ok (.dconst 1, 1) := by decide +kernel
theorem dX8_share_11 : decode cX8_share 11 = .ok (.goto 12, 3) := by decide +kernel
theorem dX8_share_14 : decode cX8_share 14 = .ok (.aload_n 0, 1) := by decide +kernel
theorem dX8_share_15 : decode cX8_share 15 = .ok (.iconst 3, 1) := by decide +kernel
theorem dX8_share_16 : decode cX8_share 16 = .ok (.invokevirtual 144, 3) := by decide +kernel
theorem dX8_share_19 : decode cX8_share 19 = .ok (.i2d, 1) := by decide +kernel
theorem dX8_share_20 : decode cX8_share 20 = .ok (.iload_n 1, 1) := by decide +kernel
theorem dX8_share_21 : decode cX8_share 21 = .ok (.i2d, 1) := by decide +kernel
theorem dX8_share_22 : decode cX8_share 22 = .ok (.ddiv, 1) := by decide +kernel
theorem dX8_share_23 : decode cX8_share 23 = .ok (.dreturn, 1) := by decide +kernel
theorem dX8_capShare_0 : decode cX8_capShare 0 = .ok (.aload_n 0, 1) := by decide +kernel
theorem dX8_capShare_1 : decode cX8_capShare 1 = .ok (.iconst 0, 1) := by decide +kernel
theorem dX8_capShare_2 : decode cX8_capShare 2 = .ok (.putfield 28, 3) := by decide +kernel
theorem dX8_capShare_5 : decode cX8_capShare 5 = .ok (.aload_n 0, 1) := by decide +kernel
theorem dX8_capShare_6 : decode cX8_capShare 6 = .ok (.invokevirtual 169, 3) := by decide +kernel
theorem dX8_capShare_9 : decode cX8_capShare 9 = .ok (.dreturn, 1) := by decide +kernel
theorem dX8_hashes_0 : decode cX8_hashes 0 = .ok (.aload_n 0, 1) := by decide +kernel
theorem dX8_hashes_1 : decode cX8_hashes 1 = .ok (.ldc2_w 173, 3) := by decide +kernel
theorem dX8_hashes_4 : decode cX8_hashes 4 = .ok (.aload_n 0, 1) := by decide +kernel
theorem dX8_hashes_5 : decode cX8_hashes 5 = .ok (.getfield 175, 3) := by decide +kernel
theorem dX8_hashes_8 : decode cX8_hashes 8 = .ok (.lmul, 1) := by decide +kernel
theorem dX8_hashes_9 : decode cX8_hashes 9 = .ok (.lload_n 1, 1) := by decide +kernel
theorem dX8_hashes_10 : decode cX8_hashes 10 = .ok (.ladd, 1) := by decide +kernel
theorem dX8_hashes_11 : decode cX8_hashes 11 = .ok (.putfield 175, 3) := by decide +kernel
theorem dX8_hashes_14 : decode cX8_hashes 14 = .ok (.return_, 1) := by decide +kernel
theorem dX8_hashesDay_0 : decode cX8_hashesDay 0 = .ok (.iconst 0, 1) := by decide +kernel
theorem dX8_hashesDay_1 : decode cX8_hashesDay 1 = .ok (.istore_n 3, 1) := by decide +kernel
theorem dX8_hashesDay_2 : decode cX8_hashesDay 2 = .ok (.iload_n 3, 1) := by decide +kernel
theorem dX8_hashesDay_3 : decode cX8_hashesDay 3 = .ok (.iconst 4, 1) := by decide +kernel
theorem dX8_hashesDay_4 : decode cX8_hashesDay 4 = .ok (.if_icmp .ge 21, 3) := by decide +kernel
theorem dX8_hashesDay_7 : decode cX8_hashesDay 7 = .ok (.aload_n 0, 1) := by decide +kernel
theorem dX8_hashesDay_8 : decode cX8_hashesDay 8 = .ok (.aload_n 0, 1) := by decide +kernel
theorem dX8_hashesDay_9 : decode cX8_hashesDay 9 = .ok (.iload_n 1, 1) := by decide +kernel
theorem dX8_hashesDay_10 : decode cX8_hashesDay 10 = .ok (.iload_n 2, 1) := by decide +kernel
theorem dX8_hashesDay_11 : decode cX8_hashesDay 11 = .ok (.iload_n 3, 1) := by decide +kernel
theorem dX8_hashesDay_12 : decode cX8_hashesDay 12 = .ok (.invokevirtual 60, 3) := by decide +kernel
theorem dX8_hashesDay_15 : decode cX8_hashesDay 15 = .ok (.i2l, 1) := by decide +kernel
theorem dX8_hashesDay_16 : decode cX8_hashesDay 16 = .ok (.invokevirtual 179, 3) := by decide +kernel
theorem dX8_hashesDay_19 : decode cX8_hashesDay 19 = .ok (.iinc 3 1, 3) := by decide +kernel
theorem dX8_hashesDay_22 : decode cX8_hashesDay 22 = .ok (.goto (-20), 3) := by decide +kernel
theorem dX8_hashesDay_25 : decode cX8_hashesDay 25 = .ok (.return_, 1) := by decide +kernel
theorem dX8_hashesWallet_0 : decode cX8_hashesWallet 0 = .ok (.aload_n 0, 1) := by decide +kernel
theorem dX8_hashesWallet_1 : decode cX8_hashesWallet 1 = .ok (.iload_n 1, 1) := by decide +kernel
theorem dX8_hashesWallet_2 : decode cX8_hashesWallet 2 = .ok (.iconst 0, 1) := by decide +kernel
theorem dX8_hashesWallet_3 : decode cX8_hashesWallet 3 = .ok (.invokevirtual 183, 3) := by decide +kernel
theorem dX8_hashesWallet_6 : decode cX8_hashesWallet 6 = .ok (.aload_n 0, 1) := by decide +kernel
theorem dX8_hashesWallet_7 : decode cX8_hashesWallet 7 = .ok (.iload_n 1, 1) := by decide +kernel
theorem dX8_hashesWallet_8 : decode cX8_hashesWallet 8 = .ok (.bipush 6, 2) := by decide +kernel
theorem dX8_hashesWallet_10 : decode cX8_hashesWallet 10 = .ok (.invokevirtual 183, 3) := by decide +kernel
theorem dX8_hashesWallet_13 : decode cX8_hashesWallet 13 = .ok (.aload_n 0, 1) := by decide +kernel
theorem dX8_hashesWallet_14 : decode cX8_hashesWallet 14 = .ok (.iload_n 1, 1) := by decide +kernel
theorem dX8_hashesWallet_15 : decode cX8_hashesWallet 15 = .ok (.bipush 7, 2) := by decide +kernel
theorem dX8_hashesWallet_17 : decode cX8_hashesWallet 17 = .ok (.invokevirtual 183, 3) := by decide +kernel
theorem dX8_hashesWallet_20 : decode cX8_hashesWallet 20 = .ok (.aload_n 0, 1) := by decide +kernel
theorem dX8_hashesWallet_21 : decode cX8_hashesWallet 21 = .ok (.iload_n 1, 1) := by decide +kernel
theorem dX8_hashesWallet_22 : decode cX8_hashesWallet 22 = .ok (.bipush 27, 2) := by decide +kernel
theorem dX8_hashesWallet_24 : decode cX8_hashesWallet 24 = .ok (.invokevirtual 183, 3) := by decide +kernel
theorem dX8_hashesWallet_27 : decode cX8_hashesWallet 27 = .ok (.iconst 0, 1) := by decide +kernel
theorem dX8_hashesWallet_28 : decode cX8_hashesWallet 28 = .ok (.istore_n 2, 1) := by decide +kernel
theorem dX8_hashesWallet_29 : decode cX8_hashesWallet 29 = .ok (.iload_n 2, 1) := by decide +kernel
theorem dX8_hashesWallet_30 : decode cX8_hashesWallet 30 = .ok (.bipush 28, 2) := by decide +kernel
theorem dX8_hashesWallet_32 : decode cX8_hashesWallet 32 = .ok (.if_icmp .ge 27, 3) := by decide +kernel
theorem dX8_hashesWallet_35 : decode cX8_hashesWallet 35 = .ok (.aload_n 0, 1) := by decide +kernel
