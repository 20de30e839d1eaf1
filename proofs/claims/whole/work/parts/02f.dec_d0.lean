/-! decode rows, printed by program -/
theorem dX8_init_0 : decode cX8_init 0 = .ok (.aload_n 0, 1) := by decide +kernel
theorem dX8_init_1 : decode cX8_init 1 = .ok (.invokespecial 1, 3) := by decide +kernel
theorem dX8_init_4 : decode cX8_init 4 = .ok (.aload_n 0, 1) := by decide +kernel
theorem dX8_init_5 : decode cX8_init 5 = .ok (.sipush 492, 3) := by decide +kernel
theorem dX8_init_8 : decode cX8_init 8 = .ok (.newarray .int, 2) := by decide +kernel
theorem dX8_init_10 : decode cX8_init 10 = .ok (.putfield 7, 3) := by decide +kernel
theorem dX8_init_13 : decode cX8_init 13 = .ok (.aload_n 0, 1) := by decide +kernel
theorem dX8_init_14 : decode cX8_init 14 = .ok (.sipush 492, 3) := by decide +kernel
theorem dX8_init_17 : decode cX8_init 17 = .ok (.newarray .int, 2) := by decide +kernel
theorem dX8_init_19 : decode cX8_init 19 = .ok (.putfield 13, 3) := by decide +kernel
theorem dX8_init_22 : decode cX8_init 22 = .ok (.aload_n 0, 1) := by decide +kernel
theorem dX8_init_23 : decode cX8_init 23 = .ok (.sipush 2952, 3) := by decide +kernel
theorem dX8_init_26 : decode cX8_init 26 = .ok (.newarray .int, 2) := by decide +kernel
theorem dX8_init_28 : decode cX8_init 28 = .ok (.putfield 16, 3) := by decide +kernel
theorem dX8_init_31 : decode cX8_init 31 = .ok (.aload_n 0, 1) := by decide +kernel
theorem dX8_init_32 : decode cX8_init 32 = .ok (.bipush 60, 2) := by decide +kernel
theorem dX8_init_34 : decode cX8_init 34 = .ok (.newarray .int, 2) := by decide +kernel
theorem dX8_init_36 : decode cX8_init 36 = .ok (.putfield 19, 3) := by decide +kernel
theorem dX8_init_39 : decode cX8_init 39 = .ok (.aload_n 0, 1) := by decide +kernel
theorem dX8_init_40 : decode cX8_init 40 = .ok (.bipush 61, 2) := by decide +kernel
theorem dX8_init_42 : decode cX8_init 42 = .ok (.newarray .int, 2) := by decide +kernel
theorem dX8_init_44 : decode cX8_init 44 = .ok (.putfield 22, 3) := by decide +kernel
theorem dX8_init_47 : decode cX8_init 47 = .ok (.aload_n 0, 1) := by decide +kernel
theorem dX8_init_48 : decode cX8_init 48 = .ok (.bipush 64, 2) := by decide +kernel
theorem dX8_init_50 : decode cX8_init 50 = .ok (.newarray .int, 2) := by decide +kernel
theorem dX8_init_52 : decode cX8_init 52 = .ok (.putfield 25, 3) := by decide +kernel
theorem dX8_init_55 : decode cX8_init 55 = .ok (.aload_n 0, 1) := by decide +kernel
theorem dX8_init_56 : decode cX8_init 56 = .ok (.iconst 0, 1) := by decide +kernel
theorem dX8_init_57 : decode cX8_init 57 = .ok (.putfield 28, 3) := by decide +kernel
theorem dX8_init_60 : decode cX8_init 60 = .ok (.aload_n 0, 1) := by decide +kernel
theorem dX8_init_61 : decode cX8_init 61 = .ok (.getfield 7, 3) := by decide +kernel
theorem dX8_init_64 : decode cX8_init 64 = .ok (.iconst 0, 1) := by decide +kernel
theorem dX8_init_65 : decode cX8_init 65 = .ok (.sipush 180, 3) := by decide +kernel
theorem dX8_init_68 : decode cX8_init 68 = .ok (.iastore, 1) := by decide +kernel
theorem dX8_init_69 : decode cX8_init 69 = .ok (.aload_n 0, 1) := by decide +kernel
theorem dX8_init_70 : decode cX8_init 70 = .ok (.getfield 7, 3) := by decide +kernel
theorem dX8_init_73 : decode cX8_init 73 = .ok (.iconst 1, 1) := by decide +kernel
theorem dX8_init_74 : decode cX8_init 74 = .ok (.bipush 60, 2) := by decide +kernel
theorem dX8_init_76 : decode cX8_init 76 = .ok (.iastore, 1) := by decide +kernel
theorem dX8_init_77 : decode cX8_init 77 = .ok (.aload_n 0, 1) := by decide +kernel
theorem dX8_init_78 : decode cX8_init 78 = .ok (.getfield 7, 3) := by decide +kernel
theorem dX8_init_81 : decode cX8_init 81 = .ok (.iconst 2, 1) := by decide +kernel
theorem dX8_init_82 : decode cX8_init 82 = .ok (.sipush 420, 3) := by decide +kernel
theorem dX8_init_85 : decode cX8_init 85 = .ok (.iastore, 1) := by decide +kernel
theorem dX8_init_86 : decode cX8_init 86 = .ok (.aload_n 0, 1) := by decide +kernel
theorem dX8_init_87 : decode cX8_init 87 = .ok (.getfield 7, 3) := by decide +kernel
theorem dX8_init_90 : decode cX8_init 90 = .ok (.iconst 3, 1) := by decide +kernel
theorem dX8_init_91 : decode cX8_init 91 = .ok (.bipush 120, 2) := by decide +kernel
theorem dX8_init_93 : decode cX8_init 93 = .ok (.iastore, 1) := by decide +kernel
theorem dX8_init_94 : decode cX8_init 94 = .ok (.aload_n 0, 1) := by decide +kernel
theorem dX8_init_95 : decode cX8_init 95 = .ok (.getfield 7, 3) := by decide +kernel
theorem dX8_init_98 : decode cX8_init 98 = .ok (.iconst 4, 1) := by decide +kernel
theorem dX8_init_99 : decode cX8_init 99 = .ok (.sipush 700, 3) := by decide +kernel
theorem dX8_init_102 : decode cX8_init 102 = .ok (.iastore, 1) := by decide +kernel
theorem dX8_init_103 : decode cX8_init 103 = .ok (.aload_n 0, 1) := by decide +kernel
theorem dX8_init_104 : decode cX8_init 104 = .ok (.getfield 7, 3) := by decide +kernel
theorem dX8_init_107 : decode cX8_init 107 = .ok (.iconst 5, 1) := by decide +kernel
theorem dX8_init_108 : decode cX8_init 108 = .ok (.sipush 2800, 3) := by decide +kernel
theorem dX8_init_111 : decode cX8_init 111 = .ok (.iastore, 1) := by decide +kernel
theorem dX8_init_112 : decode cX8_init 112 = .ok (.return_, 1) := by decide +kernel
theorem dX8_thrown_0 : decode cX8_thrown 0 = .ok (.aload_n 0, 1) := by decide +kernel
theorem dX8_thrown_1 : decode cX8_thrown 1 = .ok (.getfield 28, 3) := by decide +kernel
theorem dX8_thrown_4 : decode cX8_thrown 4 = .ok (.ireturn, 1) := by decide +kernel
theorem dX8_in_0 : decode cX8_in 0 = .ok (.iload_n 0, 1) := by decide +kernel
theorem dX8_in_1 : decode cX8_in 1 = .ok (.iload_n 1, 1) := by decide +kernel
theorem dX8_in_2 : decode cX8_in 2 = .ok (.if_icmp .lt 12, 3) := by decide +kernel
theorem dX8_in_5 : decode cX8_in 5 = .ok (.iload_n 0, 1) := by decide +kernel
theorem dX8_in_6 : decode cX8_in 6 = .ok (.iload_n 2, 1) := by decide +kernel
theorem dX8_in_7 : decode cX8_in 7 = .ok (.if_icmp .gt 7, 3) := by decide +kernel
theorem dX8_in_10 : decode cX8_in 10 = .ok (.iconst 1, 1) := by decide +kernel
theorem dX8_in_11 : decode cX8_in 11 = .ok (.goto 4, 3) := by decide +kernel
theorem dX8_in_14 : decode cX8_in 14 = .ok (.iconst 0, 1) := by decide +kernel
theorem dX8_in_15 : decode cX8_in 15 = .ok (.ireturn, 1) := by decide +kernel
theorem dX8_fails_0 : decode cX8_fails 0 = .ok (.aload_n 0, 1) := by decide +kernel
theorem dX8_fails_1 : decode cX8_fails 1 = .ok (.iload_n 1, 1) := by decide +kernel
theorem dX8_fails_2 : decode cX8_fails 2 = .ok (.putfield 28, 3) := by decide +kernel
theorem dX8_fails_5 : decode cX8_fails 5 = .ok (.iconst 0, 1) := by decide +kernel
theorem dX8_fails_6 : decode cX8_fails 6 = .ok (.ireturn, 1) := by decide +kernel
theorem dX8_of_0 : decode cX8_of 0 = .ok (.aload_n 0, 1) := by decide +kernel
theorem dX8_of_1 : decode cX8_of 1 = .ok (.getfield 7, 3) := by decide +kernel
theorem dX8_of_4 : decode cX8_of 4 = .ok (.bipush 10, 2) := by decide +kernel
theorem dX8_of_6 : decode cX8_of 6 = .ok (.bipush 6, 2) := by decide +kernel
theorem dX8_of_8 : decode cX8_of 8 = .ok (.iload_n 1, 1) := by decide +kernel
theorem dX8_of_9 : decode cX8_of 9 = .ok (.imul, 1) := by decide +kernel
theorem dX8_of_10 : decode cX8_of 10 = .ok (.iadd, 1) := by decide +kernel
theorem dX8_of_11 : decode cX8_of 11 = .ok (.iload_n 2, 1) := by decide +kernel
theorem dX8_of_12 : decode cX8_of 12 = .ok (.iadd, 1) := by decide +kernel
theorem dX8_of_13 : decode cX8_of 13 = .ok (.iaload, 1) := by decide +kernel
theorem dX8_of_14 : decode cX8_of 14 = .ok (.ireturn, 1) := by decide +kernel
theorem dX8_isTap_0 : decode cX8_isTap 0 = .ok (.iload_n 1, 1) := by decide +kernel
theorem dX8_isTap_1 : decode cX8_isTap 1 = .ok (.iconst 0, 1) := by decide +kernel
theorem dX8_isTap_2 : decode cX8_isTap 2 = .ok (.aload_n 0, 1) := by decide +kernel
theorem dX8_isTap_3 : decode cX8_isTap 3 = .ok (.getfield 7, 3) := by decide +kernel
theorem dX8_isTap_6 : decode cX8_isTap 6 = .ok (.bipush 9, 2) := by decide +kernel
theorem dX8_isTap_8 : decode cX8_isTap 8 = .ok (.iaload, 1) := by decide +kernel
theorem dX8_isTap_9 : decode cX8_isTap 9 = .ok (.iconst 1, 1) := by decide +kernel
theorem dX8_isTap_10 : decode cX8_isTap 10 = .ok (.isub, 1) := by decide +kernel
theorem dX8_isTap_11 : decode cX8_isTap 11 = .ok (.invokestatic 32, 3) := by decide +kernel
theorem dX8_isTap_14 : decode cX8_isTap 14 = .ok (.ireturn, 1) := by decide +kernel
theorem dX8_isWallet_0 : decode cX8_isWallet 0 = .ok (.iload_n 0, 1) := by decide +kernel
theorem dX8_isWallet_1 : decode cX8_isWallet 1 = .ok (.iconst 0, 1) := by decide +kernel
theorem dX8_isWallet_2 : decode cX8_isWallet 2 = .ok (.iconst 3, 1) := by decide +kernel
theorem dX8_isWallet_3 : decode cX8_isWallet 3 = .ok (.invokestatic 32, 3) := by decide +kernel
theorem dX8_isWallet_6 : decode cX8_isWallet 6 = .ok (.ireturn, 1) := by decide +kernel
theorem dX8_saves_0 : decode cX8_saves 0 = .ok (.aload_n 0, 1) := by decide +kernel
theorem dX8_saves_1 : decode cX8_saves 1 = .ok (.getfield 36, 3) := by decide +kernel
theorem dX8_saves_4 : decode cX8_saves 4 = .ok (.bipush 6, 2) := by decide +kernel
theorem dX8_saves_6 : decode cX8_saves 6 = .ok (.if_icmp .ne 44, 3) := by decide +kernel
theorem dX8_saves_9 : decode cX8_saves 9 = .ok (.iconst 0, 1) := by decide +kernel
theorem dX8_saves_10 : decode cX8_saves 10 = .ok (.istore_n 1, 1) := by decide +kernel
theorem dX8_saves_11 : decode cX8_saves 11 = .ok (.iload_n 1, 1) := by decide +kernel
theorem dX8_saves_12 : decode cX8_saves 12 = .ok (.sipush 2460, 3) := by decide +kernel
theorem dX8_saves_15 : decode cX8_saves 15 = .ok (.if_icmp .ge 25, 3) := by decide +kernel
theorem dX8_saves_18 : decode cX8_saves 18 = .ok (.aload_n 0, 1) := by decide +kernel
theorem dX8_saves_19 : decode cX8_saves 19 = .ok (.getfield 16, 3) := by decide +kernel
theorem dX8_saves_22 : decode cX8_saves 22 = .ok (.iload_n 1, 1) := by decide +kernel
theorem dX8_saves_23 : decode cX8_saves 23 = .ok (.aload_n 0, 1) := by decide +kernel
theorem dX8_saves_24 : decode cX8_saves 24 = .ok (.getfield 16, 3) := by decide +kernel
theorem dX8_saves_27 : decode cX8_saves 27 = .ok (.iload_n 1, 1) := by decide +kernel
theorem dX8_saves_28 : decode cX8_saves 28 = .ok (.sipush 492, 3) := by decide +kernel
theorem dX8_saves_31 : decode cX8_saves 31 = .ok (.iadd, 1) := by decide +kernel
theorem dX8_saves_32 : decode cX8_saves 32 = .ok (.iaload, 1) := by decide +kernel
theorem dX8_saves_33 : decode cX8_saves 33 = .ok (.iastore, 1) := by decide +kernel
theorem dX8_saves_34 : decode cX8_saves 34 = .ok (.iinc 1 1, 3) := by decide +kernel
theorem dX8_saves_37 : decode cX8_saves 37 = .ok (.goto (-26), 3) := by decide +kernel
theorem dX8_saves_40 : decode cX8_saves 40 = .ok (.aload_n 0, 1) := by decide +kernel
theorem dX8_saves_41 : decode cX8_saves 41 = .ok (.dup, 1) := by decide +kernel
theorem dX8_saves_42 : decode cX8_saves 42 = .ok (.getfield 36, 3) := by decide +kernel
theorem dX8_saves_45 : decode cX8_saves 45 = .ok (.iconst 1, 1) := by decide +kernel
theorem dX8_saves_46 : decode cX8_saves 46 = .ok (.isub, 1) := by decide +kernel
theorem dX8_saves_47 : decode cX8_saves 47 = .ok (.putfield 36, 3) := by decide +kernel
theorem dX8_saves_50 : decode cX8_saves 50 = .ok (.iconst 0, 1) := by decide +kernel
theorem dX8_saves_51 : decode cX8_saves 51 = .ok (.istore_n 1, 1) := by decide +kernel
theorem dX8_saves_52 : decode cX8_saves 52 = .ok (.iload_n 1, 1) := by decide +kernel
theorem dX8_saves_53 : decode cX8_saves 53 = .ok (.sipush 492, 3) := by decide +kernel
theorem dX8_saves_56 : decode cX8_saves 56 = .ok (.if_icmp .ge 30, 3) := by decide +kernel
theorem dX8_saves_59 : decode cX8_saves 59 = .ok (.aload_n 0, 1) := by decide +kernel
theorem dX8_saves_60 : decode cX8_saves 60 = .ok (.getfield 16, 3) := by decide +kernel
theorem dX8_saves_63 : decode cX8_saves 63 = .ok (.sipush 492, 3) := by decide +kernel
theorem dX8_saves_66 : decode cX8_saves 66 = .ok (.aload_n 0, 1) := by decide +kernel
theorem dX8_saves_67 : decode cX8_saves 67 = .ok (.getfield 36, 3) := by decide +kernel
theorem dX8_saves_70 : decode cX8_saves 70 = .ok (.imul, 1) := by decide +kernel
theorem dX8_saves_71 : decode cX8_saves 71 = .ok (.iload_n 1, 1) := by decide +kernel
theorem dX8_saves_72 : decode cX8_saves 72 = .ok (.iadd, 1) := by decide +kernel
theorem dX8_saves_73 : decode cX8_saves 73 = .ok (.aload_n 0, 1) := by decide +kernel
theorem dX8_saves_74 : decode cX8_saves 74 = .ok (.getfield 7, 3) := by decide +kernel
theorem dX8_saves_77 : decode cX8_saves 77 = .ok (.iload_n 1, 1) := by decide +kernel
theorem dX8_saves_78 : decode cX8_saves 78 = .ok (.iaload, 1) := by decide +kernel
theorem dX8_saves_79 : decode cX8_saves 79 = .ok (.iastore, 1) := by decide +kernel
theorem dX8_saves_80 : decode cX8_saves 80 = .ok (.iinc 1 1, 3) := by decide +kernel
theorem dX8_saves_83 : decode cX8_saves 83 = .ok (.goto (-31), 3) := by decide +kernel
theorem dX8_saves_86 : decode cX8_saves 86 = .ok (.aload_n 0, 1) := by decide +kernel
theorem dX8_saves_87 : decode cX8_saves 87 = .ok (.dup, 1) := by decide +kernel
theorem dX8_saves_88 : decode cX8_saves 88 = .ok (.getfield 36, 3) := by decide +kernel
theorem dX8_saves_91 : decode cX8_saves 91 = .ok (.iconst 1, 1) := by decide +kernel
theorem dX8_saves_92 : decode cX8_saves 92 = .ok (.iadd, 1) := by decide +kernel
theorem dX8_saves_93 : decode cX8_saves 93 = .ok (.putfield 36, 3) := by decide +kernel
theorem dX8_saves_96 : decode cX8_saves 96 = .ok (.return_, 1) := by decide +kernel
theorem dX8_putAside_0 : decode cX8_putAside 0 = .ok (.iconst 0, 1) := by decide +kernel
theorem dX8_putAside_1 : decode cX8_putAside 1 = .ok (.istore_n 1, 1) := by decide +kernel
theorem dX8_putAside_2 : decode cX8_putAside 2 = .ok (.iload_n 1, 1) := by decide +kernel
theorem dX8_putAside_3 : decode cX8_putAside 3 = .ok (.sipush 492, 3) := by decide +kernel
theorem dX8_putAside_6 : decode cX8_putAside 6 = .ok (.if_icmp .ge 21, 3) := by decide +kernel
theorem dX8_putAside_9 : decode cX8_putAside 9 = .ok (.aload_n 0, 1) := by decide +kernel
theorem dX8_putAside_10 : decode cX8_putAside 10 = .ok (.getfield 13, 3) := by decide +kernel
theorem dX8_putAside_13 : decode cX8_putAside 13 = .ok (.iload_n 1, 1) := by decide +kernel
theorem dX8_putAside_14 : decode cX8_putAside 14 = .ok (.aload_n 0, 1) := by decide +kernel
theorem dX8_putAside_15 : decode cX8_putAside 15 = .ok (.getfield 7, 3) := by decide +kernel
theorem dX8_putAside_18 : decode cX8_putAside 18 = .ok (.iload_n 1, 1) := by decide +kernel
theorem dX8_putAside_19 : decode cX8_putAside 19 = .ok (.iaload, 1) := by decide +kernel
theorem dX8_putAside_20 : decode cX8_putAside 20 = .ok (.iastore, 1) := by decide +kernel
theorem dX8_putAside_21 : decode cX8_putAside 21 = .ok (.iinc 1 1, 3) := by decide +kernel
theorem dX8_putAside_24 : decode cX8_putAside 24 = .ok (.goto (-22), 3) := by decide +kernel
theorem dX8_putAside_27 : decode cX8_putAside 27 = .ok (.return_, 1) := by decide +kernel
theorem dX8_takeBack_0 : decode cX8_takeBack 0 = .ok (.iconst 0, 1) := by decide +kernel
theorem dX8_takeBack_1 : decode cX8_takeBack 1 = .ok (.istore_n 1, 1) := by decide +kernel
theorem dX8_takeBack_2 : decode cX8_takeBack 2 = .ok (.iload_n 1, 1) := by decide +kernel
theorem dX8_takeBack_3 : decode cX8_takeBack 3 = .ok (.sipush 492, 3) := by decide +kernel
theorem dX8_takeBack_6 : decode cX8_takeBack 6 = .ok (.if_icmp .ge 21, 3) := by decide +kernel
theorem dX8_takeBack_9 : decode cX8_takeBack 9 = .ok (.aload_n 0, 1) := by decide +kernel
theorem dX8_takeBack_10 : decode cX8_takeBack 10 = .ok (.getfield 7, 3) := by decide +kernel
theorem dX8_takeBack_13 : decode cX8_takeBack 13 = .ok (.iload_n 1, 1) := by decide +kernel
theorem dX8_takeBack_14 : decode cX8_takeBack 14 = .ok (.aload_n 0, 1) := by decide +kernel
theorem dX8_takeBack_15 : decode cX8_takeBack 15 = .ok (.getfield 13, 3) := by decide +kernel
theorem dX8_takeBack_18 : decode cX8_takeBack 18 = .ok (.iload_n 1, 1) := by decide +kernel
theorem dX8_takeBack_19 : decode cX8_takeBack 19 = .ok (.iaload, 1) := by decide +kernel
theorem dX8_takeBack_20 : decode cX8_takeBack 20 = .ok (.iastore, 1) := by decide +kernel
theorem dX8_takeBack_21 : decode cX8_takeBack 21 = .ok (.iinc 1 1, 3) := by decide +kernel
theorem dX8_takeBack_24 : decode cX8_takeBack 24 = .ok (.goto (-22), 3) := by decide +kernel
theorem dX8_takeBack_27 : decode cX8_takeBack 27 = .ok (.return_, 1) := by decide +kernel
theorem dX8_timeOf_0 : decode cX8_timeOf 0 = .ok (.sipush 1440, 3) := by decide +kernel
theorem dX8_timeOf_3 : decode cX8_timeOf 3 = .ok (.aload_n 0, 1) := by decide +kernel
theorem dX8_timeOf_4 : decode cX8_timeOf 4 = .ok (.iload_n 1, 1) := by decide +kernel
theorem dX8_timeOf_5 : decode cX8_timeOf 5 = .ok (.iconst 1, 1) := by decide +kernel
theorem dX8_timeOf_6 : decode cX8_timeOf 6 = .ok (.invokevirtual 39, 3) := by decide +kernel
theorem dX8_timeOf_9 : decode cX8_timeOf 9 = .ok (.imul, 1) := by decide +kernel
theorem dX8_timeOf_10 : decode cX8_timeOf 10 = .ok (.aload_n 0, 1) := by decide +kernel
theorem dX8_timeOf_11 : decode cX8_timeOf 11 = .ok (.iload_n 1, 1) := by decide +kernel
theorem dX8_timeOf_12 : decode cX8_timeOf 12 = .ok (.iconst 2, 1) := by decide +kernel
theorem dX8_timeOf_13 : decode cX8_timeOf 13 = .ok (.invokevirtual 39, 3) := by decide +kernel
theorem dX8_timeOf_16 : decode cX8_timeOf 16 = .ok (.iadd, 1) := by decide +kernel
theorem dX8_timeOf_17 : decode cX8_timeOf 17 = .ok (.ireturn, 1) := by decide +kernel
theorem dX8_comes_0 : decode cX8_comes 0 = .ok (.aload_n 0, 1) := by decide +kernel
theorem dX8_comes_1 : decode cX8_comes 1 = .ok (.getfield 7, 3) := by decide +kernel
theorem dX8_comes_4 : decode cX8_comes 4 = .ok (.bipush 9, 2) := by decide +kernel
theorem dX8_comes_6 : decode cX8_comes 6 = .ok (.iaload, 1) := by decide +kernel
theorem dX8_comes_7 : decode cX8_comes 7 = .ok (.istore 7, 2) := by decide +kernel
theorem dX8_comes_9 : decode cX8_comes 9 = .ok (.sipush 1440, 3) := by decide +kernel
theorem dX8_comes_12 : decode cX8_comes 12 = .ok (.iload_n 2, 1) := by decide +kernel
theorem dX8_comes_13 : decode cX8_comes 13 = .ok (.imul, 1) := by decide +kernel
theorem dX8_comes_14 : decode cX8_comes 14 = .ok (.iload_n 3, 1) := by decide +kernel
theorem dX8_comes_15 : decode cX8_comes 15 = .ok (.iadd, 1) := by decide +kernel
theorem dX8_comes_16 : decode cX8_comes 16 = .ok (.istore 8, 2) := by decide +kernel
theorem dX8_comes_18 : decode cX8_comes 18 = .ok (.iload 7, 2) := by decide +kernel
theorem dX8_comes_20 : decode cX8_comes 20 = .ok (.ifCond .le 64, 3) := by decide +kernel
theorem dX8_comes_23 : decode cX8_comes 23 = .ok (.aload_n 0, 1) := by decide +kernel
theorem dX8_comes_24 : decode cX8_comes 24 = .ok (.iload 7, 2) := by decide +kernel
theorem dX8_comes_26 : decode cX8_comes 26 = .ok (.iconst 1, 1) := by decide +kernel
theorem dX8_comes_27 : decode cX8_comes 27 = .ok (.isub, 1) := by decide +kernel
theorem dX8_comes_28 : decode cX8_comes 28 = .ok (.invokevirtual 43, 3) := by decide +kernel
theorem dX8_comes_31 : decode cX8_comes 31 = .ok (.iload 8, 2) := by decide +kernel
theorem dX8_comes_33 : decode cX8_comes 33 = .ok (.if_icmp .le 51, 3) := by decide +kernel
theorem dX8_comes_36 : decode cX8_comes 36 = .ok (.iconst 0, 1) := by decide +kernel
theorem dX8_comes_37 : decode cX8_comes 37 = .ok (.istore 9, 2) := by decide +kernel
theorem dX8_comes_39 : decode cX8_comes 39 = .ok (.iload 9, 2) := by decide +kernel
theorem dX8_comes_41 : decode cX8_comes 41 = .ok (.bipush 6, 2) := by decide +kernel
theorem dX8_comes_43 : decode cX8_comes 43 = .ok (.if_icmp .ge 35, 3) := by decide +kernel
theorem dX8_comes_46 : decode cX8_comes 46 = .ok (.aload_n 0, 1) := by decide +kernel
theorem dX8_comes_47 : decode cX8_comes 47 = .ok (.getfield 7, 3) := by decide +kernel
theorem dX8_comes_50 : decode cX8_comes 50 = .ok (.bipush 10, 2) := by decide +kernel
theorem dX8_comes_52 : decode cX8_comes 52 = .ok (.bipush 6, 2) := by decide +kernel
theorem dX8_comes_54 : decode cX8_comes 54 = .ok (.iload 7, 2) := by decide +kernel
theorem dX8_comes_56 : decode cX8_comes 56 = .ok (.imul, 1) := by decide +kernel
theorem dX8_comes_57 : decode cX8_comes 57 = .ok (.iadd, 1) := by decide +kernel
theorem dX8_comes_58 : decode cX8_comes 58 = .ok (.iload 9, 2) := by decide +kernel
theorem dX8_comes_60 : decode cX8_comes 60 = .ok (.iadd, 1) := by decide +kernel
theorem dX8_comes_61 : decode cX8_comes 61 = .ok (.aload_n 0, 1) := by decide +kernel
theorem dX8_comes_62 : decode cX8_comes 62 = .ok (.iload 7, 2) := by decide +kernel
theorem dX8_comes_64 : decode cX8_comes 64 = .ok (.iconst 1, 1) := by decide +kernel
theorem dX8_comes_65 : decode cX8_comes 65 = .ok (.isub, 1) := by decide +kernel
theorem dX8_comes_66 : decode cX8_comes 66 = .ok (.iload 9, 2) := by decide +kernel
theorem dX8_comes_68 : decode cX8_comes 68 = .ok (.invokevirtual 39, 3) := by decide +kernel
theorem dX8_comes_71 : decode cX8_comes 71 = .ok (.iastore, 1) := by decide +kernel
theorem dX8_comes_72 : decode cX8_comes 72 = .ok (.iinc 9 1, 3) := by decide +kernel
theorem dX8_comes_75 : decode cX8_comes 75 = .ok (.goto (-36), 3) := by decide +kernel
theorem dX8_comes_78 : decode cX8_comes 78 = .ok (.iinc 7 (-1), 3) := by decide +kernel
theorem dX8_comes_81 : decode cX8_comes 81 = .ok (.goto (-63), 3) := by decide +kernel
theorem dX8_comes_84 : decode cX8_comes 84 = .ok (.bipush 10, 2) := by decide +kernel
theorem dX8_comes_86 : decode cX8_comes 86 = .ok (.bipush 6, 2) := by decide +kernel
theorem dX8_comes_88 : decode cX8_comes 88 = .ok (.iload 7, 2) := by decide +kernel
theorem dX8_comes_90 : decode cX8_comes 90 = .ok (.imul, 1) := by decide +kernel
theorem dX8_comes_91 : decode cX8_comes 91 = .ok (.iadd, 1) := by decide +kernel
theorem dX8_comes_92 : decode cX8_comes 92 = .ok (.istore 9, 2) := by decide +kernel
theorem dX8_comes_94 : decode cX8_comes 94 = .ok (.aload_n 0, 1) := by decide +kernel
theorem dX8_comes_95 : decode cX8_comes 95 = .ok (.getfield 7, 3) := by decide +kernel
theorem dX8_comes_98 : decode cX8_comes 98 = .ok (.iload 9, 2) := by decide +kernel
theorem dX8_comes_100 : decode cX8_comes 100 = .ok (.iconst 0, 1) := by decide +kernel
theorem dX8_comes_101 : decode cX8_comes 101 = .ok (.iadd, 1) := by decide +kernel
theorem dX8_comes_102 : decode cX8_comes 102 = .ok (.iload_n 1, 1) := by decide +kernel
theorem dX8_comes_103 : decode cX8_comes 103 = .ok (.iastore, 1) := by decide +kernel
theorem dX8_comes_104 : decode cX8_comes 104 = .ok (.aload_n 0, 1) := by decide +kernel
theorem dX8_comes_105 : decode cX8_comes 105 = .ok (.getfield 7, 3) := by decide +kernel
theorem dX8_comes_108 : decode cX8_comes 108 = .ok (.iload 9, 2) := by decide +kernel
theorem dX8_comes_110 : decode cX8_comes 110 = .ok (.iconst 1, 1) := by decide +kernel
theorem dX8_comes_111 : decode cX8_comes 111 = .ok (.iadd, 1) := by decide +kernel
theorem dX8_comes_112 : decode cX8_comes 112 = .ok (.iload_n 2, 1) := by decide +kernel
theorem dX8_comes_113 : decode cX8_comes 113 = .ok (.iastore, 1) := by decide +kernel
theorem dX8_comes_114 : decode cX8_comes 114 = .ok (.aload_n 0, 1) := by decide +kernel
theorem dX8_comes_115 : decode cX8_comes 115 = .ok (.getfield 7, 3) := by decide +kernel
theorem dX8_comes_118 : decode cX8_comes 118 = .ok (.iload 9, 2) := by decide +kernel
theorem dX8_comes_120 : decode cX8_comes 120 = .ok (.iconst 2, 1) := by decide +kernel
theorem dX8_comes_121 : decode cX8_comes 121 = .ok (.iadd, 1) := by decide +kernel
theorem dX8_comes_122 : decode cX8_comes 122 = .ok (.iload_n 3, 1) := by decide +kernel
theorem dX8_comes_123 : decode cX8_comes 123 = .ok (.iastore, 1) := by decide +kernel
theorem dX8_comes_124 : decode cX8_comes 124 = .ok (.aload_n 0, 1) := by decide +kernel
theorem dX8_comes_125 : decode cX8_comes 125 = .ok (.getfield 7, 3) := by decide +kernel
theorem dX8_comes_128 : decode cX8_comes 128 = .ok (.iload 9, 2) := by decide +kernel
theorem dX8_comes_130 : decode cX8_comes 130 = .ok (.iconst 3, 1) := by decide +kernel
theorem dX8_comes_131 : decode cX8_comes 131 = .ok (.iadd, 1) := by decide +kernel
theorem dX8_comes_132 : decode cX8_comes 132 = .ok (.iload 4, 2) := by decide +kernel
theorem dX8_comes_134 : decode cX8_comes 134 = .ok (.iastore, 1) := by decide +kernel
theorem dX8_comes_135 : decode cX8_comes 135 = .ok (.aload_n 0, 1) := by decide +kernel
theorem dX8_comes_136 : decode cX8_comes 136 = .ok (.getfield 7, 3) := by decide +kernel
theorem dX8_comes_139 : decode cX8_comes 139 = .ok (.iload 9, 2) := by decide +kernel
theorem dX8_comes_141 : decode cX8_comes 141 = .ok (.iconst 4, 1) := by decide +kernel
theorem dX8_comes_142 : decode cX8_comes 142 = .ok (.iadd, 1) := by decide +kernel
theorem dX8_comes_143 : decode cX8_comes 143 = .ok (.iload 5, 2) := by decide +kernel
theorem dX8_comes_145 : decode cX8_comes 145 = .ok (.iastore, 1) := by decide +kernel
theorem dX8_comes_146 : decode cX8_comes 146 = .ok (.aload_n 0, 1) := by decide +kernel
theorem dX8_comes_147 : decode cX8_comes 147 = .ok (.getfield 7, 3) := by decide +kernel
theorem dX8_comes_150 : decode cX8_comes 150 = .ok (.iload 9, 2) := by decide +kernel
theorem dX8_comes_152 : decode cX8_comes 152 = .ok (.iconst 5, 1) := by decide +kernel
theorem dX8_comes_153 : decode cX8_comes 153 = .ok (.iadd, 1) := by decide +kernel
theorem dX8_comes_154 : decode cX8_comes 154 = .ok (.iload 6, 2) := by decide +kernel
theorem dX8_comes_156 : decode cX8_comes 156 = .ok (.iastore, 1) := by decide +kernel
theorem dX8_comes_157 : decode cX8_comes 157 = .ok (.aload_n 0, 1) := by decide +kernel
theorem dX8_comes_158 : decode cX8_comes 158 = .ok (.getfield 7, 3) := by decide +kernel
theorem dX8_comes_161 : decode cX8_comes 161 = .ok (.bipush 9, 2) := by decide +kernel
theorem dX8_comes_163 : decode cX8_comes 163 = .ok (.dup2, 1) := by decide +kernel
theorem dX8_comes_164 : decode cX8_comes 164 = .ok (.iaload, 1) := by decide +kernel
theorem dX8_comes_165 : decode cX8_comes 165 = .ok (.iconst 1, 1) := by decide +kernel
theorem dX8_comes_166 : decode cX8_comes 166 = .ok (.iadd, 1) := by decide +kernel
theorem dX8_comes_167 : decode cX8_comes 167 = .ok (.iastore, 1) := by decide +kernel
theorem dX8_comes_168 : decode cX8_comes 168 = .ok (.iload 7, 2) := by decide +kernel
theorem dX8_comes_170 : decode cX8_comes 170 = .ok (.ireturn, 1) := by decide +kernel
theorem dX8_nextOf_0 : decode cX8_nextOf 0 = .ok (.iload_n 1, 1) := by decide +kernel
theorem dX8_nextOf_1 : decode cX8_nextOf 1 = .ok (.iconst 1, 1) := by decide +kernel
theorem dX8_nextOf_2 : decode cX8_nextOf 2 = .ok (.iadd, 1) := by decide +kernel
theorem dX8_nextOf_3 : decode cX8_nextOf 3 = .ok (.istore_n 2, 1) := by decide +kernel
theorem dX8_nextOf_4 : decode cX8_nextOf 4 = .ok (.iload_n 2, 1) := by decide +kernel
theorem dX8_nextOf_5 : decode cX8_nextOf 5 = .ok (.aload_n 0, 1) := by decide +kernel
theorem dX8_nextOf_6 : decode cX8_nextOf 6 = .ok (.getfield 7, 3) := by decide +kernel
theorem dX8_nextOf_9 : decode cX8_nextOf 9 = .ok (.bipush 9, 2) := by decide +kernel
theorem dX8_nextOf_11 : decode cX8_nextOf 11 = .ok (.iaload, 1) := by decide +kernel
theorem dX8_nextOf_12 : decode cX8_nextOf 12 = .ok (.if_icmp .ge 24, 3) := by decide +kernel
theorem dX8_nextOf_15 : decode cX8_nextOf 15 = .ok (.aload_n 0, 1) := by decide +kernel
theorem dX8_nextOf_16 : decode cX8_nextOf 16 = .ok (.iload_n 2, 1) := by decide +kernel
theorem dX8_nextOf_17 : decode cX8_nextOf 17 = .ok (.iconst 0, 1) := by decide +kernel
theorem dX8_nextOf_18 : decode cX8_nextOf 18 = .ok (.invokevirtual 39, 3) := by decide +kernel
theorem dX8_nextOf_21 : decode cX8_nextOf 21 = .ok (.aload_n 0, 1) := by decide +kernel
theorem dX8_nextOf_22 : decode cX8_nextOf 22 = .ok (.iload_n 1, 1) := by decide +kernel
theorem dX8_nextOf_23 : decode cX8_nextOf 23 = .ok (.iconst 0, 1) := by decide +kernel
theorem dX8_nextOf_24 : decode cX8_nextOf 24 = .ok (.invokevirtual 39, 3) := by decide +kernel
theorem dX8_nextOf_27 : decode cX8_nextOf 27 = .ok (.if_icmp .eq 9, 3) := by decide +kernel
theorem dX8_nextOf_30 : decode cX8_nextOf 30 = .ok (.iinc 2 1, 3) := by decide +kernel
theorem dX8_nextOf_33 : decode cX8_nextOf 33 = .ok (.goto (-29), 3) := by decide +kernel
theorem dX8_nextOf_36 : decode cX8_nextOf 36 = .ok (.iload_n 2, 1) := by decide +kernel
theorem dX8_nextOf_37 : decode cX8_nextOf 37 = .ok (.ireturn, 1) := by decide +kernel
theorem dX8_laysRides_0 : decode cX8_laysRides 0 = .ok (.iconst 0, 1) := by decide +kernel
theorem dX8_laysRides_1 : decode cX8_laysRides 1 = .ok (.istore_n 1, 1) := by decide +kernel
theorem dX8_laysRides_2 : decode cX8_laysRides 2 = .ok (.iload_n 1, 1) := by decide +kernel
theorem dX8_laysRides_3 : decode cX8_laysRides 3 = .ok (.aload_n 0, 1) := by decide +kernel
theorem dX8_laysRides_4 : decode cX8_laysRides 4 = .ok (.getfield 7, 3) := by decide +kernel
theorem dX8_laysRides_7 : decode cX8_laysRides 7 = .ok (.bipush 9, 2) := by decide +kernel
theorem dX8_laysRides_9 : decode cX8_laysRides 9 = .ok (.iaload, 1) := by decide +kernel
theorem dX8_laysRides_10 : decode cX8_laysRides 10 = .ok (.if_icmp .ge 16, 3) := by decide +kernel
theorem dX8_laysRides_13 : decode cX8_laysRides 13 = .ok (.aload_n 0, 1) := by decide +kernel
theorem dX8_laysRides_14 : decode cX8_laysRides 14 = .ok (.getfield 22, 3) := by decide +kernel
theorem dX8_laysRides_17 : decode cX8_laysRides 17 = .ok (.iload_n 1, 1) := by decide +kernel
theorem dX8_laysRides_18 : decode cX8_laysRides 18 = .ok (.iconst (-1), 1) := by decide +kernel
theorem dX8_laysRides_19 : decode cX8_laysRides 19 = .ok (.iastore, 1) := by decide +kernel
theorem dX8_laysRides_20 : decode cX8_laysRides 20 = .ok (.iinc 1 1, 3) := by decide +kernel
theorem dX8_laysRides_23 : decode cX8_laysRides 23 = .ok (.goto (-21), 3) := by decide +kernel
theorem dX8_laysRides_26 : decode cX8_laysRides 26 = .ok (.iconst 0, 1) := by decide +kernel
theorem dX8_laysRides_27 : decode cX8_laysRides 27 = .ok (.istore_n 1, 1) := by decide +kernel
theorem dX8_laysRides_28 : decode cX8_laysRides 28 = .ok (.iload_n 1, 1) := by decide +kernel
theorem dX8_laysRides_29 : decode cX8_laysRides 29 = .ok (.aload_n 0, 1) := by decide +kernel
theorem dX8_laysRides_30 : decode cX8_laysRides 30 = .ok (.getfield 7, 3) := by decide +kernel
theorem dX8_laysRides_33 : decode cX8_laysRides 33 = .ok (.bipush 9, 2) := by decide +kernel
theorem dX8_laysRides_35 : decode cX8_laysRides 35 = .ok (.iaload, 1) := by decide +kernel
theorem dX8_laysRides_36 : decode cX8_laysRides 36 = .ok (.if_icmp .ge 106, 3) := by decide +kernel
theorem dX8_laysRides_39 : decode cX8_laysRides 39 = .ok (.aload_n 0, 1) := by decide +kernel
theorem dX8_laysRides_40 : decode cX8_laysRides 40 = .ok (.iload_n 1, 1) := by decide +kernel
theorem dX8_laysRides_41 : decode cX8_laysRides 41 = .ok (.invokevirtual 47, 3) := by decide +kernel
theorem dX8_laysRides_44 : decode cX8_laysRides 44 = .ok (.istore_n 2, 1) := by decide +kernel
theorem dX8_laysRides_45 : decode cX8_laysRides 45 = .ok (.iload_n 2, 1) := by decide +kernel
theorem dX8_laysRides_46 : decode cX8_laysRides 46 = .ok (.aload_n 0, 1) := by decide +kernel
theorem dX8_laysRides_47 : decode cX8_laysRides 47 = .ok (.getfield 7, 3) := by decide +kernel
theorem dX8_laysRides_50 : decode cX8_laysRides 50 = .ok (.bipush 9, 2) := by decide +kernel
theorem dX8_laysRides_52 : decode cX8_laysRides 52 = .ok (.iaload, 1) := by decide +kernel
theorem dX8_laysRides_53 : decode cX8_laysRides 53 = .ok (.if_icmp .ge 41, 3) := by decide +kernel
theorem dX8_laysRides_56 : decode cX8_laysRides 56 = .ok (.aload_n 0, 1) := by decide +kernel
theorem dX8_laysRides_57 : decode cX8_laysRides 57 = .ok (.iload_n 1, 1) := by decide +kernel
theorem dX8_laysRides_58 : decode cX8_laysRides 58 = .ok (.iconst 4, 1) := by decide +kernel
theorem dX8_laysRides_59 : decode cX8_laysRides 59 = .ok (.invokevirtual 39, 3) := by decide +kernel
theorem dX8_laysRides_62 : decode cX8_laysRides 62 = .ok (.iconst 1, 1) := by decide +kernel
theorem dX8_laysRides_63 : decode cX8_laysRides 63 = .ok (.if_icmp .ne 31, 3) := by decide +kernel
theorem dX8_laysRides_66 : decode cX8_laysRides 66 = .ok (.aload_n 0, 1) := by decide +kernel
theorem dX8_laysRides_67 : decode cX8_laysRides 67 = .ok (.iload_n 2, 1) := by decide +kernel
theorem dX8_laysRides_68 : decode cX8_laysRides 68 = .ok (.iconst 4, 1) := by decide +kernel
theorem dX8_laysRides_69 : decode cX8_laysRides 69 = .ok (.invokevirtual 39, 3) := by decide +kernel
theorem dX8_laysRides_72 : decode cX8_laysRides 72 = .ok (.ifCond .ne 22, 3) := by decide +kernel
theorem dX8_laysRides_75 : decode cX8_laysRides 75 = .ok (.aload_n 0, 1) := by decide +kernel
theorem dX8_laysRides_76 : decode cX8_laysRides 76 = .ok (.iload_n 1, 1) := by decide +kernel
theorem dX8_laysRides_77 : decode cX8_laysRides 77 = .ok (.iconst 1, 1) := by decide +kernel
theorem dX8_laysRides_78 : decode cX8_laysRides 78 = .ok (.invokevirtual 39, 3) := by decide +kernel
theorem dX8_laysRides_81 : decode cX8_laysRides 81 = .ok (.aload_n 0, 1) := by decide +kernel
theorem dX8_laysRides_82 : decode cX8_laysRides 82 = .ok (.iload_n 2, 1) := by decide +kernel
theorem dX8_laysRides_83 : decode cX8_laysRides 83 = .ok (.iconst 1, 1) := by decide +kernel
theorem dX8_laysRides_84 : decode cX8_laysRides 84 = .ok (.invokevirtual 39, 3) := by decide +kernel
theorem dX8_laysRides_87 : decode cX8_laysRides 87 = .ok (.if_icmp .ne 7, 3) := by decide +kernel
theorem dX8_laysRides_90 : decode cX8_laysRides 90 = .ok (.iconst 1, 1) := by decide +kernel
theorem dX8_laysRides_91 : decode cX8_laysRides 91 = .ok (.goto 4, 3) := by decide +kernel
theorem dX8_laysRides_94 : decode cX8_laysRides 94 = .ok (.iconst 0, 1) := by decide +kernel
theorem dX8_laysRides_95 : decode cX8_laysRides 95 = .ok (.istore_n 3, 1) := by decide +kernel
theorem dX8_laysRides_96 : decode cX8_laysRides 96 = .ok (.iload_n 3, 1) := by decide +kernel
theorem dX8_laysRides_97 : decode cX8_laysRides 97 = .ok (.ifCond .eq 39, 3) := by decide +kernel
theorem dX8_laysRides_100 : decode cX8_laysRides 100 = .ok (.aload_n 0, 1) := by decide +kernel
theorem dX8_laysRides_101 : decode cX8_laysRides 101 = .ok (.iload_n 2, 1) := by decide +kernel
theorem dX8_laysRides_102 : decode cX8_laysRides 102 = .ok (.iconst 2, 1) := by decide +kernel
theorem dX8_laysRides_103 : decode cX8_laysRides 103 = .ok (.invokevirtual 39, 3) := by decide +kernel
theorem dX8_laysRides_106 : decode cX8_laysRides 106 = .ok (.aload_n 0, 1) := by decide +kernel
theorem dX8_laysRides_107 : decode cX8_laysRides 107 = .ok (.iload_n 1, 1) := by decide +kernel
theorem dX8_laysRides_108 : decode cX8_laysRides 108 = .ok (.iconst 2, 1) := by decide +kernel
theorem dX8_laysRides_109 : decode cX8_laysRides 109 = .ok (.invokevirtual 39, 3) := by decide +kernel
theorem dX8_laysRides_112 : decode cX8_laysRides 112 = .ok (.isub, 1) := by decide +kernel
theorem dX8_laysRides_113 : decode cX8_laysRides 113 = .ok (.aload_n 0, 1) := by decide +kernel
theorem dX8_laysRides_114 : decode cX8_laysRides 114 = .ok (.getfield 7, 3) := by decide +kernel
theorem dX8_laysRides_117 : decode cX8_laysRides 117 = .ok (.iconst 3, 1) := by decide +kernel
theorem dX8_laysRides_118 : decode cX8_laysRides 118 = .ok (.iaload, 1) := by decide +kernel
theorem dX8_laysRides_119 : decode cX8_laysRides 119 = .ok (.if_icmp .gt 17, 3) := by decide +kernel
theorem dX8_laysRides_122 : decode cX8_laysRides 122 = .ok (.aload_n 0, 1) := by decide +kernel
theorem dX8_laysRides_123 : decode cX8_laysRides 123 = .ok (.getfield 22, 3) := by decide +kernel
theorem dX8_laysRides_126 : decode cX8_laysRides 126 = .ok (.iload_n 1, 1) := by decide +kernel
theorem dX8_laysRides_127 : decode cX8_laysRides 127 = .ok (.iload_n 2, 1) := by decide +kernel
theorem dX8_laysRides_128 : decode cX8_laysRides 128 = .ok (.iastore, 1) := by decide +kernel
theorem dX8_laysRides_129 : decode cX8_laysRides 129 = .ok (.aload_n 0, 1) := by decide +kernel
theorem dX8_laysRides_130 : decode cX8_laysRides 130 = .ok (.getfield 22, 3) := by decide +kernel
theorem dX8_laysRides_133 : decode cX8_laysRides 133 = .ok (.iload_n 2, 1) := by decide +kernel
theorem dX8_laysRides_134 : decode cX8_laysRides 134 = .ok (.iload_n 1, 1) := by decide +kernel
theorem dX8_laysRides_135 : decode cX8_laysRides 135 = .ok (.iastore, 1) := by decide +kernel
theorem dX8_laysRides_136 : decode cX8_laysRides 136 = .ok (.iinc 1 1, 3) := by decide +kernel
theorem dX8_laysRides_139 : decode cX8_laysRides 139 = .ok (.goto (-111), 3) := by decide +kernel
theorem dX8_laysRides_142 : decode cX8_laysRides 142 = .ok (.return_, 1) := by decide +kernel
theorem dX8_fare_0 : decode cX8_fare 0 = .ok (.aload_n 0, 1) := by decide +kernel
theorem dX8_fare_1 : decode cX8_fare 1 = .ok (.getfield 22, 3) := by decide +kernel
theorem dX8_fare_4 : decode cX8_fare 4 = .ok (.iload_n 1, 1) := by decide +kernel
theorem dX8_fare_5 : decode cX8_fare 5 = .ok (.iaload, 1) := by decide +kernel
theorem dX8_fare_6 : decode cX8_fare 6 = .ok (.iconst (-1), 1) := by decide +kernel
theorem dX8_fare_7 : decode cX8_fare 7 = .ok (.if_icmp .ne 10, 3) := by decide +kernel
theorem dX8_fare_10 : decode cX8_fare 10 = .ok (.aload_n 0, 1) := by decide +kernel
theorem dX8_fare_11 : decode cX8_fare 11 = .ok (.getfield 7, 3) := by decide +kernel
theorem dX8_fare_14 : decode cX8_fare 14 = .ok (.iconst 2, 1) := by decide +kernel
theorem dX8_fare_15 : decode cX8_fare 15 = .ok (.iaload, 1) := by decide +kernel
theorem dX8_fare_16 : decode cX8_fare 16 = .ok (.ireturn, 1) := by decide +kernel
theorem dX8_fare_17 : decode cX8_fare 17 = .ok (.aload_n 0, 1) := by decide +kernel
theorem dX8_fare_18 : decode cX8_fare 18 = .ok (.iload_n 1, 1) := by decide +kernel
theorem dX8_fare_19 : decode cX8_fare 19 = .ok (.iconst 3, 1) := by decide +kernel
theorem dX8_fare_20 : decode cX8_fare 20 = .ok (.invokevirtual 39, 3) := by decide +kernel
theorem dX8_fare_23 : decode cX8_fare 23 = .ok (.iconst 2, 1) := by decide +kernel
theorem dX8_fare_24 : decode cX8_fare 24 = .ok (.idiv, 1) := by decide +kernel
theorem dX8_fare_25 : decode cX8_fare 25 = .ok (.aload_n 0, 1) := by decide +kernel
theorem dX8_fare_26 : decode cX8_fare 26 = .ok (.aload_n 0, 1) := by decide +kernel
theorem dX8_fare_27 : decode cX8_fare 27 = .ok (.getfield 22, 3) := by decide +kernel
theorem dX8_fare_30 : decode cX8_fare 30 = .ok (.iload_n 1, 1) := by decide +kernel
theorem dX8_fare_31 : decode cX8_fare 31 = .ok (.iaload, 1) := by decide +kernel
theorem dX8_fare_32 : decode cX8_fare 32 = .ok (.iconst 3, 1) := by decide +kernel
theorem dX8_fare_33 : decode cX8_fare 33 = .ok (.invokevirtual 39, 3) := by decide +kernel
theorem dX8_fare_36 : decode cX8_fare 36 = .ok (.iconst 2, 1) := by decide +kernel
theorem dX8_fare_37 : decode cX8_fare 37 = .ok (.idiv, 1) := by decide +kernel
theorem dX8_fare_38 : decode cX8_fare 38 = .ok (.isub, 1) := by decide +kernel
theorem dX8_fare_39 : decode cX8_fare 39 = .ok (.istore_n 2, 1) := by decide +kernel
theorem dX8_fare_40 : decode cX8_fare 40 = .ok (.aload_n 0, 1) := by decide +kernel
theorem dX8_fare_41 : decode cX8_fare 41 = .ok (.getfield 7, 3) := by decide +kernel
theorem dX8_fare_44 : decode cX8_fare 44 = .ok (.iconst 0, 1) := by decide +kernel
theorem dX8_fare_45 : decode cX8_fare 45 = .ok (.iaload, 1) := by decide +kernel
theorem dX8_fare_46 : decode cX8_fare 46 = .ok (.aload_n 0, 1) := by decide +kernel
theorem dX8_fare_47 : decode cX8_fare 47 = .ok (.getfield 7, 3) := by decide +kernel
theorem dX8_fare_50 : decode cX8_fare 50 = .ok (.iconst 1, 1) := by decide +kernel
theorem dX8_fare_51 : decode cX8_fare 51 = .ok (.iaload, 1) := by decide +kernel
theorem dX8_fare_52 : decode cX8_fare 52 = .ok (.iload_n 2, 1) := by decide +kernel
theorem dX8_fare_53 : decode cX8_fare 53 = .ok (.ifCond .ge 8, 3) := by decide +kernel
theorem dX8_fare_56 : decode cX8_fare 56 = .ok (.iload_n 2, 1) := by decide +kernel
theorem dX8_fare_57 : decode cX8_fare 57 = .ok (.ineg, 1) := by decide +kernel
theorem dX8_fare_58 : decode cX8_fare 58 = .ok (.goto 4, 3) := by decide +kernel
theorem dX8_fare_61 : decode cX8_fare 61 = .ok (.iload_n 2, 1) := by decide +kernel
theorem dX8_fare_62 : decode cX8_fare 62 = .ok (.imul, 1) := by decide +kernel
theorem dX8_fare_63 : decode cX8_fare 63 = .ok (.iadd, 1) := by decide +kernel
theorem dX8_fare_64 : decode cX8_fare 64 = .ok (.ireturn, 1) := by decide +kernel
theorem dX8_begins_0 : decode cX8_begins 0 = .ok (.aload_n 0, 1) := by decide +kernel
theorem dX8_begins_1 : decode cX8_begins 1 = .ok (.getfield 22, 3) := by decide +kernel
theorem dX8_begins_4 : decode cX8_begins 4 = .ok (.iload_n 1, 1) := by decide +kernel
theorem dX8_begins_5 : decode cX8_begins 5 = .ok (.iaload, 1) := by decide +kernel
theorem dX8_begins_6 : decode cX8_begins 6 = .ok (.iconst (-1), 1) := by decide +kernel
theorem dX8_begins_7 : decode cX8_begins 7 = .ok (.if_icmp .eq 13, 3) := by decide +kernel
theorem dX8_begins_10 : decode cX8_begins 10 = .ok (.aload_n 0, 1) := by decide +kernel
theorem dX8_begins_11 : decode cX8_begins 11 = .ok (.getfield 22, 3) := by decide +kernel
theorem dX8_begins_14 : decode cX8_begins 14 = .ok (.iload_n 1, 1) := by decide +kernel
theorem dX8_begins_15 : decode cX8_begins 15 = .ok (.iaload, 1) := by decide +kernel
theorem dX8_begins_16 : decode cX8_begins 16 = .ok (.iload_n 1, 1) := by decide +kernel
theorem dX8_begins_17 : decode cX8_begins 17 = .ok (.if_icmp .le 7, 3) := by decide +kernel
theorem dX8_begins_20 : decode cX8_begins 20 = .ok (.iconst 1, 1) := by decide +kernel
theorem dX8_begins_21 : decode cX8_begins 21 = .ok (.goto 4, 3) := by decide +kernel
theorem dX8_begins_24 : decode cX8_begins 24 = .ok (.iconst 0, 1) := by decide +kernel
theorem dX8_begins_25 : decode cX8_begins 25 = .ok (.ireturn, 1) := by decide +kernel
theorem dX8_ofDay_0 : decode cX8_ofDay 0 = .ok (.aload_n 0, 1) := by decide +kernel
theorem dX8_ofDay_1 : decode cX8_ofDay 1 = .ok (.invokevirtual 50, 3) := by decide +kernel
theorem dX8_ofDay_4 : decode cX8_ofDay 4 = .ok (.iconst 0, 1) := by decide +kernel
theorem dX8_ofDay_5 : decode cX8_ofDay 5 = .ok (.istore 4, 2) := by decide +kernel
theorem dX8_ofDay_7 : decode cX8_ofDay 7 = .ok (.iconst 0, 1) := by decide +kernel
theorem dX8_ofDay_8 : decode cX8_ofDay 8 = .ok (.istore 5, 2) := by decide +kernel
theorem dX8_ofDay_10 : decode cX8_ofDay 10 = .ok (.iconst 0, 1) := by decide +kernel
theorem dX8_ofDay_11 : decode cX8_ofDay 11 = .ok (.istore 6, 2) := by decide +kernel
theorem dX8_ofDay_13 : decode cX8_ofDay 13 = .ok (.iconst 0, 1) := by decide +kernel
theorem dX8_ofDay_14 : decode cX8_ofDay 14 = .ok (.istore 7, 2) := by decide +kernel
theorem dX8_ofDay_16 : decode cX8_ofDay 16 = .ok (.iload 7, 2) := by decide +kernel
theorem dX8_ofDay_18 : decode cX8_ofDay 18 = .ok (.aload_n 0, 1) := by decide +kernel
theorem dX8_ofDay_19 : decode cX8_ofDay 19 = .ok (.getfield 7, 3) := by decide +kernel
theorem dX8_ofDay_22 : decode cX8_ofDay 22 = .ok (.bipush 9, 2) := by decide +kernel
theorem dX8_ofDay_24 : decode cX8_ofDay 24 = .ok (.iaload, 1) := by decide +kernel
theorem dX8_ofDay_25 : decode cX8_ofDay 25 = .ok (.if_icmp .ge 75, 3) := by decide +kernel
theorem dX8_ofDay_28 : decode cX8_ofDay 28 = .ok (.aload_n 0, 1) := by decide +kernel
theorem dX8_ofDay_29 : decode cX8_ofDay 29 = .ok (.iload 7, 2) := by decide +kernel
theorem dX8_ofDay_31 : decode cX8_ofDay 31 = .ok (.iconst 0, 1) := by decide +kernel
theorem dX8_ofDay_32 : decode cX8_ofDay 32 = .ok (.invokevirtual 39, 3) := by decide +kernel
theorem dX8_ofDay_35 : decode cX8_ofDay 35 = .ok (.iload_n 1, 1) := by decide +kernel
theorem dX8_ofDay_36 : decode cX8_ofDay 36 = .ok (.if_icmp .ne 58, 3) := by decide +kernel
theorem dX8_ofDay_39 : decode cX8_ofDay 39 = .ok (.aload_n 0, 1) := by decide +kernel
theorem dX8_ofDay_40 : decode cX8_ofDay 40 = .ok (.iload 7, 2) := by decide +kernel
theorem dX8_ofDay_42 : decode cX8_ofDay 42 = .ok (.iconst 1, 1) := by decide +kernel
theorem dX8_ofDay_43 : decode cX8_ofDay 43 = .ok (.invokevirtual 39, 3) := by decide +kernel
theorem dX8_ofDay_46 : decode cX8_ofDay 46 = .ok (.iload_n 2, 1) := by decide +kernel
theorem dX8_ofDay_47 : decode cX8_ofDay 47 = .ok (.if_icmp .ne 47, 3) := by decide +kernel
theorem dX8_ofDay_50 : decode cX8_ofDay 50 = .ok (.aload_n 0, 1) := by decide +kernel
theorem dX8_ofDay_51 : decode cX8_ofDay 51 = .ok (.iload 7, 2) := by decide +kernel
theorem dX8_ofDay_53 : decode cX8_ofDay 53 = .ok (.invokevirtual 53, 3) := by decide +kernel
theorem dX8_ofDay_56 : decode cX8_ofDay 56 = .ok (.ifCond .eq 38, 3) := by decide +kernel
theorem dX8_ofDay_59 : decode cX8_ofDay 59 = .ok (.iinc 4 1, 3) := by decide +kernel
theorem dX8_ofDay_62 : decode cX8_ofDay 62 = .ok (.iload 5, 2) := by decide +kernel
theorem dX8_ofDay_64 : decode cX8_ofDay 64 = .ok (.aload_n 0, 1) := by decide +kernel
theorem dX8_ofDay_65 : decode cX8_ofDay 65 = .ok (.getfield 22, 3) := by decide +kernel
theorem dX8_ofDay_68 : decode cX8_ofDay 68 = .ok (.iload 7, 2) := by decide +kernel
theorem dX8_ofDay_70 : decode cX8_ofDay 70 = .ok (.iaload, 1) := by decide +kernel
theorem dX8_ofDay_71 : decode cX8_ofDay 71 = .ok (.iconst (-1), 1) := by decide +kernel
theorem dX8_ofDay_72 : decode cX8_ofDay 72 = .ok (.if_icmp .ne 7, 3) := by decide +kernel
theorem dX8_ofDay_75 : decode cX8_ofDay 75 = .ok (.iconst 1, 1) := by decide +kernel
theorem dX8_ofDay_76 : decode cX8_ofDay 76 = .ok (.goto 4, 3) := by decide +kernel
theorem dX8_ofDay_79 : decode cX8_ofDay 79 = .ok (.iconst 0, 1) := by decide +kernel
theorem dX8_ofDay_80 : decode cX8_ofDay 80 = .ok (.iadd, 1) := by decide +kernel
theorem dX8_ofDay_81 : decode cX8_ofDay 81 = .ok (.istore 5, 2) := by decide +kernel
theorem dX8_ofDay_83 : decode cX8_ofDay 83 = .ok (.iload 6, 2) := by decide +kernel
theorem dX8_ofDay_85 : decode cX8_ofDay 85 = .ok (.aload_n 0, 1) := by decide +kernel
theorem dX8_ofDay_86 : decode cX8_ofDay 86 = .ok (.iload 7, 2) := by decide +kernel
theorem dX8_ofDay_88 : decode cX8_ofDay 88 = .ok (.invokevirtual 57, 3) := by decide +kernel
theorem dX8_ofDay_91 : decode cX8_ofDay 91 = .ok (.iadd, 1) := by decide +kernel
theorem dX8_ofDay_92 : decode cX8_ofDay 92 = .ok (.istore 6, 2) := by decide +kernel
theorem dX8_ofDay_94 : decode cX8_ofDay 94 = .ok (.iinc 7 1, 3) := by decide +kernel
theorem dX8_ofDay_97 : decode cX8_ofDay 97 = .ok (.goto (-81), 3) := by decide +kernel
theorem dX8_ofDay_100 : decode cX8_ofDay 100 = .ok (.iload_n 3, 1) := by decide +kernel
theorem dX8_ofDay_101 : decode cX8_ofDay 101 = .ok (.ifCond .ne 8, 3) := by decide +kernel
theorem dX8_ofDay_104 : decode cX8_ofDay 104 = .ok (.iload 4, 2) := by decide +kernel
theorem dX8_ofDay_106 : decode cX8_ofDay 106 = .ok (.goto 40, 3) := by decide +kernel
theorem dX8_ofDay_109 : decode cX8_ofDay 109 = .ok (.iload_n 3, 1) := by decide +kernel
theorem dX8_ofDay_110 : decode cX8_ofDay 110 = .ok (.iconst 1, 1) := by decide +kernel
theorem dX8_ofDay_111 : decode cX8_ofDay 111 = .ok (.if_icmp .ne 8, 3) := by decide +kernel
theorem dX8_ofDay_114 : decode cX8_ofDay 114 = .ok (.iload 5, 2) := by decide +kernel
theorem dX8_ofDay_116 : decode cX8_ofDay 116 = .ok (.goto 30, 3) := by decide +kernel
theorem dX8_ofDay_119 : decode cX8_ofDay 119 = .ok (.iload_n 3, 1) := by decide +kernel
theorem dX8_ofDay_120 : decode cX8_ofDay 120 = .ok (.iconst 2, 1) := by decide +kernel
theorem dX8_ofDay_121 : decode cX8_ofDay 121 = .ok (.if_icmp .eq 14, 3) := by decide +kernel
theorem dX8_ofDay_124 : decode cX8_ofDay 124 = .ok (.iload 6, 2) := by decide +kernel
theorem dX8_ofDay_126 : decode cX8_ofDay 126 = .ok (.aload_n 0, 1) := by decide +kernel
theorem dX8_ofDay_127 : decode cX8_ofDay 127 = .ok (.getfield 7, 3) := by decide +kernel
theorem dX8_ofDay_130 : decode cX8_ofDay 130 = .ok (.iconst 4, 1) := by decide +kernel
theorem dX8_ofDay_131 : decode cX8_ofDay 131 = .ok (.iaload, 1) := by decide +kernel
theorem dX8_ofDay_132 : decode cX8_ofDay 132 = .ok (.if_icmp .ge 8, 3) := by decide +kernel
theorem dX8_ofDay_135 : decode cX8_ofDay 135 = .ok (.iload 6, 2) := by decide +kernel
theorem dX8_ofDay_137 : decode cX8_ofDay 137 = .ok (.goto 9, 3) := by decide +kernel
theorem dX8_ofDay_140 : decode cX8_ofDay 140 = .ok (.aload_n 0, 1) := by decide +kernel
theorem dX8_ofDay_141 : decode cX8_ofDay 141 = .ok (.getfield 7, 3) := by decide +kernel
theorem dX8_ofDay_144 : decode cX8_ofDay 144 = .ok (.iconst 4, 1) := by decide +kernel
theorem dX8_ofDay_145 : decode cX8_ofDay 145 = .ok (.iaload, 1) := by decide +kernel
theorem dX8_ofDay_146 : decode cX8_ofDay 146 = .ok (.ireturn, 1) := by decide +kernel
theorem dX8_overDays_0 : decode cX8_overDays 0 = .ok (.iconst 0, 1) := by decide +kernel
theorem dX8_overDays_1 : decode cX8_overDays 1 = .ok (.istore 4, 2) := by decide +kernel
theorem dX8_overDays_3 : decode cX8_overDays 3 = .ok (.bipush 7, 2) := by decide +kernel
theorem dX8_overDays_5 : decode cX8_overDays 5 = .ok (.iload_n 2, 1) := by decide +kernel
theorem dX8_overDays_6 : decode cX8_overDays 6 = .ok (.imul, 1) := by decide +kernel
theorem dX8_overDays_7 : decode cX8_overDays 7 = .ok (.istore 5, 2) := by decide +kernel
theorem dX8_overDays_9 : decode cX8_overDays 9 = .ok (.iload 5, 2) := by decide +kernel
theorem dX8_overDays_11 : decode cX8_overDays 11 = .ok (.bipush 7, 2) := by decide +kernel
theorem dX8_overDays_13 : decode cX8_overDays 13 = .ok (.iload_n 2, 1) := by decide +kernel
theorem dX8_overDays_14 : decode cX8_overDays 14 = .ok (.imul, 1) := by decide +kernel
theorem dX8_overDays_15 : decode cX8_overDays 15 = .ok (.bipush 7, 2) := by decide +kernel
theorem dX8_overDays_17 : decode cX8_overDays 17 = .ok (.iadd, 1) := by decide +kernel
theorem dX8_overDays_18 : decode cX8_overDays 18 = .ok (.if_icmp .ge 22, 3) := by decide +kernel
theorem dX8_overDays_21 : decode cX8_overDays 21 = .ok (.iload 4, 2) := by decide +kernel
theorem dX8_overDays_23 : decode cX8_overDays 23 = .ok (.aload_n 0, 1) := by decide +kernel
theorem dX8_overDays_24 : decode cX8_overDays 24 = .ok (.iload_n 1, 1) := by decide +kernel
theorem dX8_overDays_25 : decode cX8_overDays 25 = .ok (.iload 5, 2) := by decide +kernel
theorem dX8_overDays_27 : decode cX8_overDays 27 = .ok (.iload_n 3, 1) := by decide +kernel
theorem dX8_overDays_28 : decode cX8_overDays 28 = .ok (.invokevirtual 60, 3) := by decide +kernel
theorem dX8_overDays_31 : decode cX8_overDays 31 = .ok (.iadd, 1) := by decide +kernel
theorem dX8_overDays_32 : decode cX8_overDays 32 = .ok (.istore 4, 2) := by decide +kernel
theorem dX8_overDays_34 : decode cX8_overDays 34 = .ok (.iinc 5 1, 3) := by decide +kernel
theorem dX8_overDays_37 : decode cX8_overDays 37 = .ok (.goto (-28), 3) := by decide +kernel
theorem dX8_overDays_40 : decode cX8_overDays 40 = .ok (.iload 4, 2) := by decide +kernel
theorem dX8_overDays_42 : decode cX8_overDays 42 = .ok (.ireturn, 1) := by decide +kernel
theorem dX8_costs_0 : decode cX8_costs 0 = .ok (.aload_n 0, 1) := by decide +kernel
theorem dX8_costs_1 : decode cX8_costs 1 = .ok (.iload_n 1, 1) := by decide +kernel
theorem dX8_costs_2 : decode cX8_costs 2 = .ok (.iload_n 2, 1) := by decide +kernel
theorem dX8_costs_3 : decode cX8_costs 3 = .ok (.iconst 3, 1) := by decide +kernel
theorem dX8_costs_4 : decode cX8_costs 4 = .ok (.invokevirtual 64, 3) := by decide +kernel
theorem dX8_costs_7 : decode cX8_costs 7 = .ok (.istore_n 3, 1) := by decide +kernel
theorem dX8_costs_8 : decode cX8_costs 8 = .ok (.iload_n 3, 1) := by decide +kernel
theorem dX8_costs_9 : decode cX8_costs 9 = .ok (.aload_n 0, 1) := by decide +kernel
theorem dX8_costs_10 : decode cX8_costs 10 = .ok (.getfield 7, 3) := by decide +kernel
theorem dX8_costs_13 : decode cX8_costs 13 = .ok (.iconst 5, 1) := by decide +kernel
theorem dX8_costs_14 : decode cX8_costs 14 = .ok (.iaload, 1) := by decide +kernel
theorem dX8_costs_15 : decode cX8_costs 15 = .ok (.if_icmp .ge 7, 3) := by decide +kernel
theorem dX8_costs_18 : decode cX8_costs 18 = .ok (.iload_n 3, 1) := by decide +kernel
theorem dX8_costs_19 : decode cX8_costs 19 = .ok (.goto 9, 3) := by decide +kernel
theorem dX8_costs_22 : decode cX8_costs 22 = .ok (.aload_n 0, 1) := by decide +kernel
theorem dX8_costs_23 : decode cX8_costs 23 = .ok (.getfield 7, 3) := by decide +kernel
theorem dX8_costs_26 : decode cX8_costs 26 = .ok (.iconst 5, 1) := by decide +kernel
theorem dX8_costs_27 : decode cX8_costs 27 = .ok (.iaload, 1) := by decide +kernel
theorem dX8_costs_28 : decode cX8_costs 28 = .ok (.ireturn, 1) := by decide +kernel
theorem dX8_isTold_0 : decode cX8_isTold 0 = .ok (.iload_n 0, 1) := by decide +kernel
theorem dX8_isTold_1 : decode cX8_isTold 1 = .ok (.invokestatic 67, 3) := by decide +kernel
theorem dX8_isTold_4 : decode cX8_isTold 4 = .ok (.ifCond .eq 38, 3) := by decide +kernel
theorem dX8_isTold_7 : decode cX8_isTold 7 = .ok (.iload_n 1, 1) := by decide +kernel
theorem dX8_isTold_8 : decode cX8_isTold 8 = .ok (.iconst 0, 1) := by decide +kernel
theorem dX8_isTold_9 : decode cX8_isTold 9 = .ok (.bipush 27, 2) := by decide +kernel
theorem dX8_isTold_11 : decode cX8_isTold 11 = .ok (.invokestatic 32, 3) := by decide +kernel
theorem dX8_isTold_14 : decode cX8_isTold 14 = .ok (.ifCond .eq 28, 3) := by decide +kernel
theorem dX8_isTold_17 : decode cX8_isTold 17 = .ok (.iload_n 2, 1) := by decide +kernel
theorem dX8_isTold_18 : decode cX8_isTold 18 = .ok (.iconst 0, 1) := by decide +kernel
theorem dX8_isTold_19 : decode cX8_isTold 19 = .ok (.sipush 1439, 3) := by decide +kernel
theorem dX8_isTold_22 : decode cX8_isTold 22 = .ok (.invokestatic 32, 3) := by decide +kernel
theorem dX8_isTold_25 : decode cX8_isTold 25 = .ok (.ifCond .eq 17, 3) := by decide +kernel
theorem dX8_isTold_28 : decode cX8_isTold 28 = .ok (.iload_n 3, 1) := by decide +kernel
theorem dX8_isTold_29 : decode cX8_isTold 29 = .ok (.iconst 0, 1) := by decide +kernel
theorem dX8_isTold_30 : decode cX8_isTold 30 = .ok (.bipush 9, 2) := by decide +kernel
theorem dX8_isTold_32 : decode cX8_isTold 32 = .ok (.invokestatic 32, 3) := by decide +kernel
theorem dX8_isTold_35 : decode cX8_isTold 35 = .ok (.ifCond .eq 7, 3) := by decide +kernel
theorem dX8_isTold_38 : decode cX8_isTold 38 = .ok (.iconst 1, 1) := by decide +kernel
theorem dX8_isTold_39 : decode cX8_isTold 39 = .ok (.goto 4, 3) := by decide +kernel
theorem dX8_isTold_42 : decode cX8_isTold 42 = .ok (.iconst 0, 1) := by decide +kernel
theorem dX8_isTold_43 : decode cX8_isTold 43 = .ok (.ireturn, 1) := by decide +kernel
theorem dX8_tap_0 : decode cX8_tap 0 = .ok (.aload_n 0, 1) := by decide +kernel
theorem dX8_tap_1 : decode cX8_tap 1 = .ok (.iconst 0, 1) := by decide +kernel
theorem dX8_tap_2 : decode cX8_tap 2 = .ok (.putfield 28, 3) := by decide +kernel
theorem dX8_tap_5 : decode cX8_tap 5 = .ok (.iload_n 1, 1) := by decide +kernel
theorem dX8_tap_6 : decode cX8_tap 6 = .ok (.iload_n 2, 1) := by decide +kernel
theorem dX8_tap_7 : decode cX8_tap 7 = .ok (.iload_n 3, 1) := by decide +kernel
theorem dX8_tap_8 : decode cX8_tap 8 = .ok (.iload 4, 2) := by decide +kernel
theorem dX8_tap_10 : decode cX8_tap 10 = .ok (.invokestatic 70, 3) := by decide +kernel
theorem dX8_tap_13 : decode cX8_tap 13 = .ok (.ifCond .ne 9, 3) := by decide +kernel
theorem dX8_tap_16 : decode cX8_tap 16 = .ok (.aload_n 0, 1) := by decide +kernel
theorem dX8_tap_17 : decode cX8_tap 17 = .ok (.iconst 1, 1) := by decide +kernel
theorem dX8_tap_18 : decode cX8_tap 18 = .ok (.invokevirtual 74, 3) := by decide +kernel
theorem dX8_tap_21 : decode cX8_tap 21 = .ok (.ireturn, 1) := by decide +kernel
theorem dX8_tap_22 : decode cX8_tap 22 = .ok (.aload_n 0, 1) := by decide +kernel
theorem dX8_tap_23 : decode cX8_tap 23 = .ok (.getfield 7, 3) := by decide +kernel
theorem dX8_tap_26 : decode cX8_tap 26 = .ok (.bipush 9, 2) := by decide +kernel
theorem dX8_tap_28 : decode cX8_tap 28 = .ok (.iaload, 1) := by decide +kernel
theorem dX8_tap_29 : decode cX8_tap 29 = .ok (.bipush 60, 2) := by decide +kernel
theorem dX8_tap_31 : decode cX8_tap 31 = .ok (.if_icmp .ne 9, 3) := by decide +kernel
theorem dX8_tap_34 : decode cX8_tap 34 = .ok (.aload_n 0, 1) := by decide +kernel
theorem dX8_tap_35 : decode cX8_tap 35 = .ok (.iconst 2, 1) := by decide +kernel
theorem dX8_tap_36 : decode cX8_tap 36 = .ok (.invokevirtual 74, 3) := by decide +kernel
theorem dX8_tap_39 : decode cX8_tap 39 = .ok (.ireturn, 1) := by decide +kernel
theorem dX8_tap_40 : decode cX8_tap 40 = .ok (.aload_n 0, 1) := by decide +kernel
theorem dX8_tap_41 : decode cX8_tap 41 = .ok (.invokevirtual 77, 3) := by decide +kernel
theorem dX8_tap_44 : decode cX8_tap 44 = .ok (.aload_n 0, 1) := by decide +kernel
theorem dX8_tap_45 : decode cX8_tap 45 = .ok (.iload_n 1, 1) := by decide +kernel
theorem dX8_tap_46 : decode cX8_tap 46 = .ok (.iload_n 2, 1) := by decide +kernel
theorem dX8_tap_47 : decode cX8_tap 47 = .ok (.iload_n 3, 1) := by decide +kernel
theorem dX8_tap_48 : decode cX8_tap 48 = .ok (.iload 4, 2) := by decide +kernel
theorem dX8_tap_50 : decode cX8_tap 50 = .ok (.iload 5, 2) := by decide +kernel
theorem dX8_tap_52 : decode cX8_tap 52 = .ok (.ifCond .eq 7, 3) := by decide +kernel
theorem dX8_tap_55 : decode cX8_tap 55 = .ok (.iconst 1, 1) := by decide +kernel
theorem dX8_tap_56 : decode cX8_tap 56 = .ok (.goto 4, 3) := by decide +kernel
theorem dX8_tap_59 : decode cX8_tap 59 = .ok (.iconst 0, 1) := by decide +kernel
theorem dX8_tap_60 : decode cX8_tap 60 = .ok (.iconst 0, 1) := by decide +kernel
theorem dX8_tap_61 : decode cX8_tap 61 = .ok (.invokevirtual 80, 3) := by decide +kernel
theorem dX8_tap_64 : decode cX8_tap 64 = .ok (.ireturn, 1) := by decide +kernel
theorem dX8_remove_0 : decode cX8_remove 0 = .ok (.aload_n 0, 1) := by decide +kernel
theorem dX8_remove_1 : decode cX8_remove 1 = .ok (.iconst 0, 1) := by decide +kernel
theorem dX8_remove_2 : decode cX8_remove 2 = .ok (.putfield 28, 3) := by decide +kernel
theorem dX8_remove_5 : decode cX8_remove 5 = .ok (.aload_n 0, 1) := by decide +kernel
theorem dX8_remove_6 : decode cX8_remove 6 = .ok (.iload_n 1, 1) := by decide +kernel
theorem dX8_remove_7 : decode cX8_remove 7 = .ok (.invokevirtual 84, 3) := by decide +kernel
theorem dX8_remove_10 : decode cX8_remove 10 = .ok (.ifCond .ne 9, 3) := by decide +kernel
theorem dX8_remove_13 : decode cX8_remove 13 = .ok (.aload_n 0, 1) := by decide +kernel
theorem dX8_remove_14 : decode cX8_remove 14 = .ok (.iconst 1, 1) := by decide +kernel
theorem dX8_remove_15 : decode cX8_remove 15 = .ok (.invokevirtual 74, 3) := by decide +kernel
theorem dX8_remove_18 : decode cX8_remove 18 = .ok (.ireturn, 1) := by decide +kernel
theorem dX8_remove_19 : decode cX8_remove 19 = .ok (.aload_n 0, 1) := by decide +kernel
theorem dX8_remove_20 : decode cX8_remove 20 = .ok (.invokevirtual 77, 3) := by decide +kernel
theorem dX8_remove_23 : decode cX8_remove 23 = .ok (.aload_n 0, 1) := by decide +kernel
theorem dX8_remove_24 : decode cX8_remove 24 = .ok (.getfield 7, 3) := by decide +kernel
theorem dX8_remove_27 : decode cX8_remove 27 = .ok (.bipush 9, 2) := by decide +kernel
theorem dX8_remove_29 : decode cX8_remove 29 = .ok (.dup2, 1) := by decide +kernel
theorem dX8_remove_30 : decode cX8_remove 30 = .ok (.iaload, 1) := by decide +kernel
theorem dX8_remove_31 : decode cX8_remove 31 = .ok (.iconst 1, 1) := by decide +kernel
theorem dX8_remove_32 : decode cX8_remove 32 = .ok (.isub, 1) := by decide +kernel
theorem dX8_remove_33 : decode cX8_remove 33 = .ok (.iastore, 1) := by decide +kernel
theorem dX8_remove_34 : decode cX8_remove 34 = .ok (.bipush 6, 2) := by decide +kernel
theorem dX8_remove_36 : decode cX8_remove 36 = .ok (.iload_n 1, 1) := by decide +kernel
theorem dX8_remove_37 : decode cX8_remove 37 = .ok (.imul, 1) := by decide +kernel
theorem dX8_remove_38 : decode cX8_remove 38 = .ok (.istore_n 2, 1) := by decide +kernel
theorem dX8_remove_39 : decode cX8_remove 39 = .ok (.iload_n 2, 1) := by decide +kernel
theorem dX8_remove_40 : decode cX8_remove 40 = .ok (.bipush 6, 2) := by decide +kernel
theorem dX8_remove_42 : decode cX8_remove 42 = .ok (.aload_n 0, 1) := by decide +kernel
theorem dX8_remove_43 : decode cX8_remove 43 = .ok (.getfield 7, 3) := by decide +kernel
theorem dX8_remove_46 : decode cX8_remove 46 = .ok (.bipush 9, 2) := by decide +kernel
theorem dX8_remove_48 : decode cX8_remove 48 = .ok (.iaload, 1) := by decide +kernel
theorem dX8_remove_49 : decode cX8_remove 49 = .ok (.imul, 1) := by decide +kernel
theorem dX8_remove_50 : decode cX8_remove 50 = .ok (.if_icmp .ge 30, 3) := by decide +kernel
theorem dX8_remove_53 : decode cX8_remove 53 = .ok (.aload_n 0, 1) := by decide +kernel
theorem dX8_remove_54 : decode cX8_remove 54 = .ok (.getfield 7, 3) := by decide +kernel
theorem dX8_remove_57 : decode cX8_remove 57 = .ok (.bipush 10, 2) := by decide +kernel
theorem dX8_remove_59 : decode cX8_remove 59 = .ok (.iload_n 2, 1) := by decide +kernel
theorem dX8_remove_60 : decode cX8_remove 60 = .ok (.iadd, 1) := by decide +kernel
theorem dX8_remove_61 : decode cX8_remove 61 = .ok (.aload_n 0, 1) := by decide +kernel
theorem dX8_remove_62 : decode cX8_remove 62 = .ok (.getfield 7, 3) := by decide +kernel
theorem dX8_remove_65 : decode cX8_remove 65 = .ok (.bipush 10, 2) := by decide +kernel
theorem dX8_remove_67 : decode cX8_remove 67 = .ok (.iload_n 2, 1) := by decide +kernel
theorem dX8_remove_68 : decode cX8_remove 68 = .ok (.iadd, 1) := by decide +kernel
