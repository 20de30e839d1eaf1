/-! decode rows, printed by program -/
theorem dX0_init_0 : decode cX0_init 0 = .ok (.aload_n 0, 1) := by decide +kernel
theorem dX0_init_1 : decode cX0_init 1 = .ok (.invokespecial 3, 3) := by decide +kernel
theorem dX0_init_4 : decode cX0_init 4 = .ok (.aload_n 0, 1) := by decide +kernel
theorem dX0_init_5 : decode cX0_init 5 = .ok (.bipush 61, 2) := by decide +kernel
theorem dX0_init_7 : decode cX0_init 7 = .ok (.newarray .int, 2) := by decide +kernel
theorem dX0_init_9 : decode cX0_init 9 = .ok (.putfield 9, 3) := by decide +kernel
theorem dX0_init_12 : decode cX0_init 12 = .ok (.aload_n 0, 1) := by decide +kernel
theorem dX0_init_13 : decode cX0_init 13 = .ok (.bipush 61, 2) := by decide +kernel
theorem dX0_init_15 : decode cX0_init 15 = .ok (.newarray .int, 2) := by decide +kernel
theorem dX0_init_17 : decode cX0_init 17 = .ok (.putfield 15, 3) := by decide +kernel
theorem dX0_init_20 : decode cX0_init 20 = .ok (.aload_n 0, 1) := by decide +kernel
theorem dX0_init_21 : decode cX0_init 21 = .ok (.bipush 112, 2) := by decide +kernel
theorem dX0_init_23 : decode cX0_init 23 = .ok (.newarray .int, 2) := by decide +kernel
theorem dX0_init_25 : decode cX0_init 25 = .ok (.putfield 18, 3) := by decide +kernel
theorem dX0_init_28 : decode cX0_init 28 = .ok (.aload_n 0, 1) := by decide +kernel
theorem dX0_init_29 : decode cX0_init 29 = .ok (.bipush 112, 2) := by decide +kernel
theorem dX0_init_31 : decode cX0_init 31 = .ok (.newarray .int, 2) := by decide +kernel
theorem dX0_init_33 : decode cX0_init 33 = .ok (.putfield 21, 3) := by decide +kernel
theorem dX0_init_36 : decode cX0_init 36 = .ok (.aload_n 0, 1) := by decide +kernel
theorem dX0_init_37 : decode cX0_init 37 = .ok (.bipush 112, 2) := by decide +kernel
theorem dX0_init_39 : decode cX0_init 39 = .ok (.newarray .int, 2) := by decide +kernel
theorem dX0_init_41 : decode cX0_init 41 = .ok (.putfield 24, 3) := by decide +kernel
theorem dX0_init_44 : decode cX0_init 44 = .ok (.aload_n 0, 1) := by decide +kernel
theorem dX0_init_45 : decode cX0_init 45 = .ok (.bipush 10, 2) := by decide +kernel
theorem dX0_init_47 : decode cX0_init 47 = .ok (.newarray .int, 2) := by decide +kernel
theorem dX0_init_49 : decode cX0_init 49 = .ok (.putfield 27, 3) := by decide +kernel
theorem dX0_init_52 : decode cX0_init 52 = .ok (.aload_n 0, 1) := by decide +kernel
theorem dX0_init_53 : decode cX0_init 53 = .ok (.iconst 4, 1) := by decide +kernel
theorem dX0_init_54 : decode cX0_init 54 = .ok (.newarray .int, 2) := by decide +kernel
theorem dX0_init_56 : decode cX0_init 56 = .ok (.putfield 30, 3) := by decide +kernel
theorem dX0_init_59 : decode cX0_init 59 = .ok (.aload_n 0, 1) := by decide +kernel
theorem dX0_init_60 : decode cX0_init 60 = .ok (.iconst 0, 1) := by decide +kernel
theorem dX0_init_61 : decode cX0_init 61 = .ok (.putfield 33, 3) := by decide +kernel
theorem dX0_init_64 : decode cX0_init 64 = .ok (.aload_n 0, 1) := by decide +kernel
theorem dX0_init_65 : decode cX0_init 65 = .ok (.iconst 0, 1) := by decide +kernel
theorem dX0_init_66 : decode cX0_init 66 = .ok (.putfield 37, 3) := by decide +kernel
theorem dX0_init_69 : decode cX0_init 69 = .ok (.return_, 1) := by decide +kernel
theorem dX0_readFrom_0 : decode cX0_readFrom 0 = .ok (.aload_n 0, 1) := by decide +kernel
theorem dX0_readFrom_1 : decode cX0_readFrom 1 = .ok (.aload_n 2, 1) := by decide +kernel
theorem dX0_readFrom_2 : decode cX0_readFrom 2 = .ok (.iconst 4, 1) := by decide +kernel
theorem dX0_readFrom_3 : decode cX0_readFrom 3 = .ok (.invokestatic 40, 3) := by decide +kernel
theorem dX0_readFrom_6 : decode cX0_readFrom 6 = .ok (.putfield 33, 3) := by decide +kernel
theorem dX0_readFrom_9 : decode cX0_readFrom 9 = .ok (.aload_n 0, 1) := by decide +kernel
theorem dX0_readFrom_10 : decode cX0_readFrom 10 = .ok (.aload_n 2, 1) := by decide +kernel
theorem dX0_readFrom_11 : decode cX0_readFrom 11 = .ok (.iconst 5, 1) := by decide +kernel
theorem dX0_readFrom_12 : decode cX0_readFrom 12 = .ok (.invokestatic 40, 3) := by decide +kernel
theorem dX0_readFrom_15 : decode cX0_readFrom 15 = .ok (.putfield 37, 3) := by decide +kernel
theorem dX0_readFrom_18 : decode cX0_readFrom 18 = .ok (.aload_n 0, 1) := by decide +kernel
theorem dX0_readFrom_19 : decode cX0_readFrom 19 = .ok (.aload_n 1, 1) := by decide +kernel
theorem dX0_readFrom_20 : decode cX0_readFrom 20 = .ok (.aload_n 2, 1) := by decide +kernel
theorem dX0_readFrom_21 : decode cX0_readFrom 21 = .ok (.iconst 3, 1) := by decide +kernel
theorem dX0_readFrom_22 : decode cX0_readFrom 22 = .ok (.invokestatic 40, 3) := by decide +kernel
theorem dX0_readFrom_25 : decode cX0_readFrom 25 = .ok (.invokevirtual 46, 3) := by decide +kernel
theorem dX0_readFrom_28 : decode cX0_readFrom 28 = .ok (.aload_n 0, 1) := by decide +kernel
theorem dX0_readFrom_29 : decode cX0_readFrom 29 = .ok (.aload_n 1, 1) := by decide +kernel
theorem dX0_readFrom_30 : decode cX0_readFrom 30 = .ok (.aload_n 2, 1) := by decide +kernel
theorem dX0_readFrom_31 : decode cX0_readFrom 31 = .ok (.invokevirtual 50, 3) := by decide +kernel
theorem dX0_readFrom_34 : decode cX0_readFrom 34 = .ok (.aload_n 0, 1) := by decide +kernel
theorem dX0_readFrom_35 : decode cX0_readFrom 35 = .ok (.aload_n 1, 1) := by decide +kernel
theorem dX0_readFrom_36 : decode cX0_readFrom 36 = .ok (.invokevirtual 54, 3) := by decide +kernel
theorem dX0_readFrom_39 : decode cX0_readFrom 39 = .ok (.return_, 1) := by decide +kernel
theorem dX0_findMates_0 : decode cX0_findMates 0 = .ok (.aload_n 0, 1) := by decide +kernel
theorem dX0_findMates_1 : decode cX0_findMates 1 = .ok (.getfield 9, 3) := by decide +kernel
theorem dX0_findMates_4 : decode cX0_findMates 4 = .ok (.iconst (-1), 1) := by decide +kernel
theorem dX0_findMates_5 : decode cX0_findMates 5 = .ok (.invokestatic 58, 3) := by decide +kernel
theorem dX0_findMates_8 : decode cX0_findMates 8 = .ok (.aload_n 0, 1) := by decide +kernel
theorem dX0_findMates_9 : decode cX0_findMates 9 = .ok (.getfield 30, 3) := by decide +kernel
theorem dX0_findMates_12 : decode cX0_findMates 12 = .ok (.iconst (-1), 1) := by decide +kernel
theorem dX0_findMates_13 : decode cX0_findMates 13 = .ok (.invokestatic 58, 3) := by decide +kernel
theorem dX0_findMates_16 : decode cX0_findMates 16 = .ok (.iconst 0, 1) := by decide +kernel
theorem dX0_findMates_17 : decode cX0_findMates 17 = .ok (.istore_n 3, 1) := by decide +kernel
theorem dX0_findMates_18 : decode cX0_findMates 18 = .ok (.iload_n 3, 1) := by decide +kernel
theorem dX0_findMates_19 : decode cX0_findMates 19 = .ok (.aload_n 1, 1) := by decide +kernel
theorem dX0_findMates_20 : decode cX0_findMates 20 = .ok (.getfield 62, 3) := by decide +kernel
theorem dX0_findMates_23 : decode cX0_findMates 23 = .ok (.if_icmp .ge 83, 3) := by decide +kernel
theorem dX0_findMates_26 : decode cX0_findMates 26 = .ok (.aload_n 1, 1) := by decide +kernel
theorem dX0_findMates_27 : decode cX0_findMates 27 = .ok (.iload_n 3, 1) := by decide +kernel
theorem dX0_findMates_28 : decode cX0_findMates 28 = .ok (.invokevirtual 67, 3) := by decide +kernel
theorem dX0_findMates_31 : decode cX0_findMates 31 = .ok (.istore 4, 2) := by decide +kernel
theorem dX0_findMates_33 : decode cX0_findMates 33 = .ok (.aload_n 0, 1) := by decide +kernel
theorem dX0_findMates_34 : decode cX0_findMates 34 = .ok (.getfield 30, 3) := by decide +kernel
theorem dX0_findMates_37 : decode cX0_findMates 37 = .ok (.iload 4, 2) := by decide +kernel
theorem dX0_findMates_39 : decode cX0_findMates 39 = .ok (.invokestatic 71, 3) := by decide +kernel
theorem dX0_findMates_42 : decode cX0_findMates 42 = .ok (.invokestatic 40, 3) := by decide +kernel
theorem dX0_findMates_45 : decode cX0_findMates 45 = .ok (.istore 5, 2) := by decide +kernel
theorem dX0_findMates_47 : decode cX0_findMates 47 = .ok (.iload 5, 2) := by decide +kernel
theorem dX0_findMates_49 : decode cX0_findMates 49 = .ok (.ifCond .lt 38, 3) := by decide +kernel
theorem dX0_findMates_52 : decode cX0_findMates 52 = .ok (.aload_n 1, 1) := by decide +kernel
theorem dX0_findMates_53 : decode cX0_findMates 53 = .ok (.iload 5, 2) := by decide +kernel
theorem dX0_findMates_55 : decode cX0_findMates 55 = .ok (.invokevirtual 67, 3) := by decide +kernel
theorem dX0_findMates_58 : decode cX0_findMates 58 = .ok (.iload 4, 2) := by decide +kernel
theorem dX0_findMates_60 : decode cX0_findMates 60 = .ok (.iload_n 2, 1) := by decide +kernel
theorem dX0_findMates_61 : decode cX0_findMates 61 = .ok (.invokestatic 76, 3) := by decide +kernel
theorem dX0_findMates_64 : decode cX0_findMates 64 = .ok (.ifCond .eq 23, 3) := by decide +kernel
theorem dX0_findMates_67 : decode cX0_findMates 67 = .ok (.aload_n 0, 1) := by decide +kernel
theorem dX0_findMates_68 : decode cX0_findMates 68 = .ok (.getfield 9, 3) := by decide +kernel
theorem dX0_findMates_71 : decode cX0_findMates 71 = .ok (.iload 5, 2) := by decide +kernel
theorem dX0_findMates_73 : decode cX0_findMates 73 = .ok (.iload_n 3, 1) := by decide +kernel
theorem dX0_findMates_74 : decode cX0_findMates 74 = .ok (.invokestatic 80, 3) := by decide +kernel
theorem dX0_findMates_77 : decode cX0_findMates 77 = .ok (.aload_n 0, 1) := by decide +kernel
theorem dX0_findMates_78 : decode cX0_findMates 78 = .ok (.getfield 9, 3) := by decide +kernel
theorem dX0_findMates_81 : decode cX0_findMates 81 = .ok (.iload_n 3, 1) := by decide +kernel
theorem dX0_findMates_82 : decode cX0_findMates 82 = .ok (.iload 5, 2) := by decide +kernel
theorem dX0_findMates_84 : decode cX0_findMates 84 = .ok (.invokestatic 80, 3) := by decide +kernel
theorem dX0_findMates_87 : decode cX0_findMates 87 = .ok (.aload_n 0, 1) := by decide +kernel
theorem dX0_findMates_88 : decode cX0_findMates 88 = .ok (.getfield 30, 3) := by decide +kernel
theorem dX0_findMates_91 : decode cX0_findMates 91 = .ok (.iload 4, 2) := by decide +kernel
theorem dX0_findMates_93 : decode cX0_findMates 93 = .ok (.invokestatic 71, 3) := by decide +kernel
theorem dX0_findMates_96 : decode cX0_findMates 96 = .ok (.iload_n 3, 1) := by decide +kernel
theorem dX0_findMates_97 : decode cX0_findMates 97 = .ok (.invokestatic 80, 3) := by decide +kernel
theorem dX0_findMates_100 : decode cX0_findMates 100 = .ok (.iinc 3 1, 3) := by decide +kernel
theorem dX0_findMates_103 : decode cX0_findMates 103 = .ok (.goto (-85), 3) := by decide +kernel
theorem dX0_findMates_106 : decode cX0_findMates 106 = .ok (.return_, 1) := by decide +kernel
theorem dX0_isRide_0 : decode cX0_isRide 0 = .ok (.iload_n 0, 1) := by decide +kernel
theorem dX0_isRide_1 : decode cX0_isRide 1 = .ok (.invokestatic 84, 3) := by decide +kernel
theorem dX0_isRide_4 : decode cX0_isRide 4 = .ok (.ifCond .eq 38, 3) := by decide +kernel
theorem dX0_isRide_7 : decode cX0_isRide 7 = .ok (.iload_n 1, 1) := by decide +kernel
theorem dX0_isRide_8 : decode cX0_isRide 8 = .ok (.invokestatic 84, 3) := by decide +kernel
theorem dX0_isRide_11 : decode cX0_isRide 11 = .ok (.ifCond .ne 31, 3) := by decide +kernel
theorem dX0_isRide_14 : decode cX0_isRide 14 = .ok (.iload_n 0, 1) := by decide +kernel
theorem dX0_isRide_15 : decode cX0_isRide 15 = .ok (.invokestatic 88, 3) := by decide +kernel
theorem dX0_isRide_18 : decode cX0_isRide 18 = .ok (.iload_n 1, 1) := by decide +kernel
theorem dX0_isRide_19 : decode cX0_isRide 19 = .ok (.invokestatic 88, 3) := by decide +kernel
theorem dX0_isRide_22 : decode cX0_isRide 22 = .ok (.if_icmp .ne 20, 3) := by decide +kernel
theorem dX0_isRide_25 : decode cX0_isRide 25 = .ok (.iload_n 1, 1) := by decide +kernel
theorem dX0_isRide_26 : decode cX0_isRide 26 = .ok (.invokestatic 91, 3) := by decide +kernel
theorem dX0_isRide_29 : decode cX0_isRide 29 = .ok (.iload_n 0, 1) := by decide +kernel
theorem dX0_isRide_30 : decode cX0_isRide 30 = .ok (.invokestatic 91, 3) := by decide +kernel
theorem dX0_isRide_33 : decode cX0_isRide 33 = .ok (.isub, 1) := by decide +kernel
theorem dX0_isRide_34 : decode cX0_isRide 34 = .ok (.iload_n 2, 1) := by decide +kernel
theorem dX0_isRide_35 : decode cX0_isRide 35 = .ok (.if_icmp .gt 7, 3) := by decide +kernel
theorem dX0_isRide_38 : decode cX0_isRide 38 = .ok (.iconst 1, 1) := by decide +kernel
theorem dX0_isRide_39 : decode cX0_isRide 39 = .ok (.goto 4, 3) := by decide +kernel
theorem dX0_isRide_42 : decode cX0_isRide 42 = .ok (.iconst 0, 1) := by decide +kernel
theorem dX0_isRide_43 : decode cX0_isRide 43 = .ok (.ireturn, 1) := by decide +kernel
theorem dX0_findFares_0 : decode cX0_findFares 0 = .ok (.iconst 0, 1) := by decide +kernel
theorem dX0_findFares_1 : decode cX0_findFares 1 = .ok (.istore_n 3, 1) := by decide +kernel
theorem dX0_findFares_2 : decode cX0_findFares 2 = .ok (.iload_n 3, 1) := by decide +kernel
theorem dX0_findFares_3 : decode cX0_findFares 3 = .ok (.aload_n 1, 1) := by decide +kernel
theorem dX0_findFares_4 : decode cX0_findFares 4 = .ok (.getfield 62, 3) := by decide +kernel
theorem dX0_findFares_7 : decode cX0_findFares 7 = .ok (.if_icmp .ge 81, 3) := by decide +kernel
theorem dX0_findFares_10 : decode cX0_findFares 10 = .ok (.aload_n 0, 1) := by decide +kernel
theorem dX0_findFares_11 : decode cX0_findFares 11 = .ok (.getfield 9, 3) := by decide +kernel
theorem dX0_findFares_14 : decode cX0_findFares 14 = .ok (.iload_n 3, 1) := by decide +kernel
theorem dX0_findFares_15 : decode cX0_findFares 15 = .ok (.invokestatic 40, 3) := by decide +kernel
theorem dX0_findFares_18 : decode cX0_findFares 18 = .ok (.istore 4, 2) := by decide +kernel
theorem dX0_findFares_20 : decode cX0_findFares 20 = .ok (.aload_n 2, 1) := by decide +kernel
theorem dX0_findFares_21 : decode cX0_findFares 21 = .ok (.iconst 2, 1) := by decide +kernel
theorem dX0_findFares_22 : decode cX0_findFares 22 = .ok (.invokestatic 40, 3) := by decide +kernel
theorem dX0_findFares_25 : decode cX0_findFares 25 = .ok (.istore 5, 2) := by decide +kernel
theorem dX0_findFares_27 : decode cX0_findFares 27 = .ok (.iload 4, 2) := by decide +kernel
theorem dX0_findFares_29 : decode cX0_findFares 29 = .ok (.iconst (-1), 1) := by decide +kernel
theorem dX0_findFares_30 : decode cX0_findFares 30 = .ok (.if_icmp .eq 42, 3) := by decide +kernel
theorem dX0_findFares_33 : decode cX0_findFares 33 = .ok (.aload_n 1, 1) := by decide +kernel
theorem dX0_findFares_34 : decode cX0_findFares 34 = .ok (.iload_n 3, 1) := by decide +kernel
theorem dX0_findFares_35 : decode cX0_findFares 35 = .ok (.invokevirtual 67, 3) := by decide +kernel
theorem dX0_findFares_38 : decode cX0_findFares 38 = .ok (.invokestatic 94, 3) := by decide +kernel
theorem dX0_findFares_41 : decode cX0_findFares 41 = .ok (.aload_n 1, 1) := by decide +kernel
theorem dX0_findFares_42 : decode cX0_findFares 42 = .ok (.iload 4, 2) := by decide +kernel
theorem dX0_findFares_44 : decode cX0_findFares 44 = .ok (.invokevirtual 67, 3) := by decide +kernel
theorem dX0_findFares_47 : decode cX0_findFares 47 = .ok (.invokestatic 94, 3) := by decide +kernel
theorem dX0_findFares_50 : decode cX0_findFares 50 = .ok (.isub, 1) := by decide +kernel
theorem dX0_findFares_51 : decode cX0_findFares 51 = .ok (.invokestatic 97, 3) := by decide +kernel
theorem dX0_findFares_54 : decode cX0_findFares 54 = .ok (.istore 6, 2) := by decide +kernel
theorem dX0_findFares_56 : decode cX0_findFares 56 = .ok (.aload_n 2, 1) := by decide +kernel
theorem dX0_findFares_57 : decode cX0_findFares 57 = .ok (.iconst 0, 1) := by decide +kernel
theorem dX0_findFares_58 : decode cX0_findFares 58 = .ok (.invokestatic 40, 3) := by decide +kernel
theorem dX0_findFares_61 : decode cX0_findFares 61 = .ok (.aload_n 2, 1) := by decide +kernel
theorem dX0_findFares_62 : decode cX0_findFares 62 = .ok (.iconst 1, 1) := by decide +kernel
theorem dX0_findFares_63 : decode cX0_findFares 63 = .ok (.invokestatic 40, 3) := by decide +kernel
theorem dX0_findFares_66 : decode cX0_findFares 66 = .ok (.iload 6, 2) := by decide +kernel
theorem dX0_findFares_68 : decode cX0_findFares 68 = .ok (.imul, 1) := by decide +kernel
theorem dX0_findFares_69 : decode cX0_findFares 69 = .ok (.iadd, 1) := by decide +kernel
theorem dX0_findFares_70 : decode cX0_findFares 70 = .ok (.istore 5, 2) := by decide +kernel
theorem dX0_findFares_72 : decode cX0_findFares 72 = .ok (.aload_n 0, 1) := by decide +kernel
theorem dX0_findFares_73 : decode cX0_findFares 73 = .ok (.getfield 15, 3) := by decide +kernel
theorem dX0_findFares_76 : decode cX0_findFares 76 = .ok (.iload_n 3, 1) := by decide +kernel
theorem dX0_findFares_77 : decode cX0_findFares 77 = .ok (.iload 5, 2) := by decide +kernel
theorem dX0_findFares_79 : decode cX0_findFares 79 = .ok (.invokestatic 80, 3) := by decide +kernel
theorem dX0_findFares_82 : decode cX0_findFares 82 = .ok (.iinc 3 1, 3) := by decide +kernel
theorem dX0_findFares_85 : decode cX0_findFares 85 = .ok (.goto (-83), 3) := by decide +kernel
theorem dX0_findFares_88 : decode cX0_findFares 88 = .ok (.return_, 1) := by decide +kernel
theorem dX0_addUp_0 : decode cX0_addUp 0 = .ok (.aload_n 0, 1) := by decide +kernel
theorem dX0_addUp_1 : decode cX0_addUp 1 = .ok (.getfield 18, 3) := by decide +kernel
theorem dX0_addUp_4 : decode cX0_addUp 4 = .ok (.iconst 0, 1) := by decide +kernel
theorem dX0_addUp_5 : decode cX0_addUp 5 = .ok (.invokestatic 58, 3) := by decide +kernel
theorem dX0_addUp_8 : decode cX0_addUp 8 = .ok (.aload_n 0, 1) := by decide +kernel
theorem dX0_addUp_9 : decode cX0_addUp 9 = .ok (.getfield 21, 3) := by decide +kernel
theorem dX0_addUp_12 : decode cX0_addUp 12 = .ok (.iconst 0, 1) := by decide +kernel
theorem dX0_addUp_13 : decode cX0_addUp 13 = .ok (.invokestatic 58, 3) := by decide +kernel
theorem dX0_addUp_16 : decode cX0_addUp 16 = .ok (.aload_n 0, 1) := by decide +kernel
theorem dX0_addUp_17 : decode cX0_addUp 17 = .ok (.getfield 24, 3) := by decide +kernel
theorem dX0_addUp_20 : decode cX0_addUp 20 = .ok (.iconst 0, 1) := by decide +kernel
theorem dX0_addUp_21 : decode cX0_addUp 21 = .ok (.invokestatic 58, 3) := by decide +kernel
theorem dX0_addUp_24 : decode cX0_addUp 24 = .ok (.aload_n 0, 1) := by decide +kernel
theorem dX0_addUp_25 : decode cX0_addUp 25 = .ok (.getfield 27, 3) := by decide +kernel
theorem dX0_addUp_28 : decode cX0_addUp 28 = .ok (.iconst 0, 1) := by decide +kernel
theorem dX0_addUp_29 : decode cX0_addUp 29 = .ok (.invokestatic 58, 3) := by decide +kernel
theorem dX0_addUp_32 : decode cX0_addUp 32 = .ok (.iconst 0, 1) := by decide +kernel
theorem dX0_addUp_33 : decode cX0_addUp 33 = .ok (.istore_n 2, 1) := by decide +kernel
theorem dX0_addUp_34 : decode cX0_addUp 34 = .ok (.iload_n 2, 1) := by decide +kernel
theorem dX0_addUp_35 : decode cX0_addUp 35 = .ok (.aload_n 1, 1) := by decide +kernel
theorem dX0_addUp_36 : decode cX0_addUp 36 = .ok (.getfield 62, 3) := by decide +kernel
theorem dX0_addUp_39 : decode cX0_addUp 39 = .ok (.if_icmp .ge 105, 3) := by decide +kernel
theorem dX0_addUp_42 : decode cX0_addUp 42 = .ok (.aload_n 1, 1) := by decide +kernel
theorem dX0_addUp_43 : decode cX0_addUp 43 = .ok (.iload_n 2, 1) := by decide +kernel
theorem dX0_addUp_44 : decode cX0_addUp 44 = .ok (.invokevirtual 67, 3) := by decide +kernel
theorem dX0_addUp_47 : decode cX0_addUp 47 = .ok (.istore_n 3, 1) := by decide +kernel
theorem dX0_addUp_48 : decode cX0_addUp 48 = .ok (.aload_n 0, 1) := by decide +kernel
theorem dX0_addUp_49 : decode cX0_addUp 49 = .ok (.getfield 9, 3) := by decide +kernel
theorem dX0_addUp_52 : decode cX0_addUp 52 = .ok (.iload_n 2, 1) := by decide +kernel
theorem dX0_addUp_53 : decode cX0_addUp 53 = .ok (.invokestatic 40, 3) := by decide +kernel
theorem dX0_addUp_56 : decode cX0_addUp 56 = .ok (.istore 4, 2) := by decide +kernel
theorem dX0_addUp_58 : decode cX0_addUp 58 = .ok (.iload_n 3, 1) := by decide +kernel
theorem dX0_addUp_59 : decode cX0_addUp 59 = .ok (.invokestatic 71, 3) := by decide +kernel
theorem dX0_addUp_62 : decode cX0_addUp 62 = .ok (.iload_n 3, 1) := by decide +kernel
theorem dX0_addUp_63 : decode cX0_addUp 63 = .ok (.invokestatic 88, 3) := by decide +kernel
theorem dX0_addUp_66 : decode cX0_addUp 66 = .ok (.invokestatic 102, 3) := by decide +kernel
theorem dX0_addUp_69 : decode cX0_addUp 69 = .ok (.istore 5, 2) := by decide +kernel
theorem dX0_addUp_71 : decode cX0_addUp 71 = .ok (.iload 4, 2) := by decide +kernel
theorem dX0_addUp_73 : decode cX0_addUp 73 = .ok (.iconst (-1), 1) := by decide +kernel
theorem dX0_addUp_74 : decode cX0_addUp 74 = .ok (.if_icmp .eq 9, 3) := by decide +kernel
theorem dX0_addUp_77 : decode cX0_addUp 77 = .ok (.iload 4, 2) := by decide +kernel
theorem dX0_addUp_79 : decode cX0_addUp 79 = .ok (.iload_n 2, 1) := by decide +kernel
theorem dX0_addUp_80 : decode cX0_addUp 80 = .ok (.if_icmp .le 30, 3) := by decide +kernel
theorem dX0_addUp_83 : decode cX0_addUp 83 = .ok (.aload_n 0, 1) := by decide +kernel
theorem dX0_addUp_84 : decode cX0_addUp 84 = .ok (.getfield 18, 3) := by decide +kernel
theorem dX0_addUp_87 : decode cX0_addUp 87 = .ok (.iload 5, 2) := by decide +kernel
theorem dX0_addUp_89 : decode cX0_addUp 89 = .ok (.iconst 1, 1) := by decide +kernel
theorem dX0_addUp_90 : decode cX0_addUp 90 = .ok (.invokestatic 106, 3) := by decide +kernel
theorem dX0_addUp_93 : decode cX0_addUp 93 = .ok (.aload_n 0, 1) := by decide +kernel
theorem dX0_addUp_94 : decode cX0_addUp 94 = .ok (.getfield 24, 3) := by decide +kernel
theorem dX0_addUp_97 : decode cX0_addUp 97 = .ok (.iload 5, 2) := by decide +kernel
theorem dX0_addUp_99 : decode cX0_addUp 99 = .ok (.aload_n 0, 1) := by decide +kernel
theorem dX0_addUp_100 : decode cX0_addUp 100 = .ok (.getfield 15, 3) := by decide +kernel
theorem dX0_addUp_103 : decode cX0_addUp 103 = .ok (.iload_n 2, 1) := by decide +kernel
theorem dX0_addUp_104 : decode cX0_addUp 104 = .ok (.invokestatic 40, 3) := by decide +kernel
theorem dX0_addUp_107 : decode cX0_addUp 107 = .ok (.invokestatic 106, 3) := by decide +kernel
theorem dX0_addUp_110 : decode cX0_addUp 110 = .ok (.iload 4, 2) := by decide +kernel
theorem dX0_addUp_112 : decode cX0_addUp 112 = .ok (.iconst (-1), 1) := by decide +kernel
theorem dX0_addUp_113 : decode cX0_addUp 113 = .ok (.if_icmp .ne 25, 3) := by decide +kernel
theorem dX0_addUp_116 : decode cX0_addUp 116 = .ok (.aload_n 0, 1) := by decide +kernel
theorem dX0_addUp_117 : decode cX0_addUp 117 = .ok (.getfield 21, 3) := by decide +kernel
theorem dX0_addUp_120 : decode cX0_addUp 120 = .ok (.iload 5, 2) := by decide +kernel
theorem dX0_addUp_122 : decode cX0_addUp 122 = .ok (.iconst 1, 1) := by decide +kernel
theorem dX0_addUp_123 : decode cX0_addUp 123 = .ok (.invokestatic 106, 3) := by decide +kernel
theorem dX0_addUp_126 : decode cX0_addUp 126 = .ok (.aload_n 0, 1) := by decide +kernel
theorem dX0_addUp_127 : decode cX0_addUp 127 = .ok (.getfield 27, 3) := by decide +kernel
theorem dX0_addUp_130 : decode cX0_addUp 130 = .ok (.iload_n 3, 1) := by decide +kernel
theorem dX0_addUp_131 : decode cX0_addUp 131 = .ok (.invokestatic 109, 3) := by decide +kernel
theorem dX0_addUp_134 : decode cX0_addUp 134 = .ok (.iconst 1, 1) := by decide +kernel
theorem dX0_addUp_135 : decode cX0_addUp 135 = .ok (.invokestatic 106, 3) := by decide +kernel
theorem dX0_addUp_138 : decode cX0_addUp 138 = .ok (.iinc 2 1, 3) := by decide +kernel
theorem dX0_addUp_141 : decode cX0_addUp 141 = .ok (.goto (-107), 3) := by decide +kernel
theorem dX0_addUp_144 : decode cX0_addUp 144 = .ok (.return_, 1) := by decide +kernel
theorem dX0_dayCost_0 : decode cX0_dayCost 0 = .ok (.aload_n 0, 1) := by decide +kernel
theorem dX0_dayCost_1 : decode cX0_dayCost 1 = .ok (.getfield 24, 3) := by decide +kernel
theorem dX0_dayCost_4 : decode cX0_dayCost 4 = .ok (.iload_n 1, 1) := by decide +kernel
theorem dX0_dayCost_5 : decode cX0_dayCost 5 = .ok (.iload_n 2, 1) := by decide +kernel
theorem dX0_dayCost_6 : decode cX0_dayCost 6 = .ok (.invokestatic 102, 3) := by decide +kernel
theorem dX0_dayCost_9 : decode cX0_dayCost 9 = .ok (.invokestatic 40, 3) := by decide +kernel
theorem dX0_dayCost_12 : decode cX0_dayCost 12 = .ok (.aload_n 0, 1) := by decide +kernel
theorem dX0_dayCost_13 : decode cX0_dayCost 13 = .ok (.getfield 33, 3) := by decide +kernel
theorem dX0_dayCost_16 : decode cX0_dayCost 16 = .ok (.invokestatic 112, 3) := by decide +kernel
theorem dX0_dayCost_19 : decode cX0_dayCost 19 = .ok (.ireturn, 1) := by decide +kernel
theorem dX0_weekDaysCost_0 : decode cX0_weekDaysCost 0 = .ok (.iconst 0, 1) := by decide +kernel
theorem dX0_weekDaysCost_1 : decode cX0_weekDaysCost 1 = .ok (.istore_n 3, 1) := by decide +kernel
theorem dX0_weekDaysCost_2 : decode cX0_weekDaysCost 2 = .ok (.iconst 0, 1) := by decide +kernel
theorem dX0_weekDaysCost_3 : decode cX0_weekDaysCost 3 = .ok (.istore 4, 2) := by decide +kernel
theorem dX0_weekDaysCost_5 : decode cX0_weekDaysCost 5 = .ok (.iload 4, 2) := by decide +kernel
theorem dX0_weekDaysCost_7 : decode cX0_weekDaysCost 7 = .ok (.bipush 7, 2) := by decide +kernel
theorem dX0_weekDaysCost_9 : decode cX0_weekDaysCost 9 = .ok (.if_icmp .ge 24, 3) := by decide +kernel
theorem dX0_weekDaysCost_12 : decode cX0_weekDaysCost 12 = .ok (.iload_n 3, 1) := by decide +kernel
theorem dX0_weekDaysCost_13 : decode cX0_weekDaysCost 13 = .ok (.aload_n 0, 1) := by decide +kernel
theorem dX0_weekDaysCost_14 : decode cX0_weekDaysCost 14 = .ok (.iload_n 1, 1) := by decide +kernel
theorem dX0_weekDaysCost_15 : decode cX0_weekDaysCost 15 = .ok (.iload_n 2, 1) := by decide +kernel
theorem dX0_weekDaysCost_16 : decode cX0_weekDaysCost 16 = .ok (.bipush 7, 2) := by decide +kernel
theorem dX0_weekDaysCost_18 : decode cX0_weekDaysCost 18 = .ok (.imul, 1) := by decide +kernel
theorem dX0_weekDaysCost_19 : decode cX0_weekDaysCost 19 = .ok (.iload 4, 2) := by decide +kernel
theorem dX0_weekDaysCost_21 : decode cX0_weekDaysCost 21 = .ok (.iadd, 1) := by decide +kernel
theorem dX0_weekDaysCost_22 : decode cX0_weekDaysCost 22 = .ok (.invokevirtual 115, 3) := by decide +kernel
theorem dX0_weekDaysCost_25 : decode cX0_weekDaysCost 25 = .ok (.iadd, 1) := by decide +kernel
theorem dX0_weekDaysCost_26 : decode cX0_weekDaysCost 26 = .ok (.istore_n 3, 1) := by decide +kernel
theorem dX0_weekDaysCost_27 : decode cX0_weekDaysCost 27 = .ok (.iinc 4 1, 3) := by decide +kernel
theorem dX0_weekDaysCost_30 : decode cX0_weekDaysCost 30 = .ok (.goto (-25), 3) := by decide +kernel
theorem dX0_weekDaysCost_33 : decode cX0_weekDaysCost 33 = .ok (.iload_n 3, 1) := by decide +kernel
theorem dX0_weekDaysCost_34 : decode cX0_weekDaysCost 34 = .ok (.ireturn, 1) := by decide +kernel
theorem dX0_weekCost_0 : decode cX0_weekCost 0 = .ok (.aload_n 0, 1) := by decide +kernel
theorem dX0_weekCost_1 : decode cX0_weekCost 1 = .ok (.iload_n 1, 1) := by decide +kernel
theorem dX0_weekCost_2 : decode cX0_weekCost 2 = .ok (.iload_n 2, 1) := by decide +kernel
theorem dX0_weekCost_3 : decode cX0_weekCost 3 = .ok (.invokevirtual 118, 3) := by decide +kernel
theorem dX0_weekCost_6 : decode cX0_weekCost 6 = .ok (.aload_n 0, 1) := by decide +kernel
theorem dX0_weekCost_7 : decode cX0_weekCost 7 = .ok (.getfield 37, 3) := by decide +kernel
theorem dX0_weekCost_10 : decode cX0_weekCost 10 = .ok (.invokestatic 112, 3) := by decide +kernel
theorem dX0_weekCost_13 : decode cX0_weekCost 13 = .ok (.ireturn, 1) := by decide +kernel
theorem dX0_weekSum_0 : decode cX0_weekSum 0 = .ok (.iconst 0, 1) := by decide +kernel
theorem dX0_weekSum_1 : decode cX0_weekSum 1 = .ok (.istore_n 3, 1) := by decide +kernel
theorem dX0_weekSum_2 : decode cX0_weekSum 2 = .ok (.iconst 0, 1) := by decide +kernel
theorem dX0_weekSum_3 : decode cX0_weekSum 3 = .ok (.istore 4, 2) := by decide +kernel
theorem dX0_weekSum_5 : decode cX0_weekSum 5 = .ok (.iload 4, 2) := by decide +kernel
theorem dX0_weekSum_7 : decode cX0_weekSum 7 = .ok (.bipush 7, 2) := by decide +kernel
theorem dX0_weekSum_9 : decode cX0_weekSum 9 = .ok (.if_icmp .ge 27, 3) := by decide +kernel
theorem dX0_weekSum_12 : decode cX0_weekSum 12 = .ok (.iload_n 3, 1) := by decide +kernel
theorem dX0_weekSum_13 : decode cX0_weekSum 13 = .ok (.aload_n 0, 1) := by decide +kernel
theorem dX0_weekSum_14 : decode cX0_weekSum 14 = .ok (.iload_n 1, 1) := by decide +kernel
theorem dX0_weekSum_15 : decode cX0_weekSum 15 = .ok (.iload_n 2, 1) := by decide +kernel
theorem dX0_weekSum_16 : decode cX0_weekSum 16 = .ok (.bipush 7, 2) := by decide +kernel
theorem dX0_weekSum_18 : decode cX0_weekSum 18 = .ok (.imul, 1) := by decide +kernel
theorem dX0_weekSum_19 : decode cX0_weekSum 19 = .ok (.iload 4, 2) := by decide +kernel
theorem dX0_weekSum_21 : decode cX0_weekSum 21 = .ok (.iadd, 1) := by decide +kernel
theorem dX0_weekSum_22 : decode cX0_weekSum 22 = .ok (.invokestatic 102, 3) := by decide +kernel
theorem dX0_weekSum_25 : decode cX0_weekSum 25 = .ok (.invokestatic 40, 3) := by decide +kernel
theorem dX0_weekSum_28 : decode cX0_weekSum 28 = .ok (.iadd, 1) := by decide +kernel
theorem dX0_weekSum_29 : decode cX0_weekSum 29 = .ok (.istore_n 3, 1) := by decide +kernel
theorem dX0_weekSum_30 : decode cX0_weekSum 30 = .ok (.iinc 4 1, 3) := by decide +kernel
theorem dX0_weekSum_33 : decode cX0_weekSum 33 = .ok (.goto (-28), 3) := by decide +kernel
theorem dX0_weekSum_36 : decode cX0_weekSum 36 = .ok (.iload_n 3, 1) := by decide +kernel
theorem dX0_weekSum_37 : decode cX0_weekSum 37 = .ok (.ireturn, 1) := by decide +kernel
theorem dX1_at_0 : decode cX1_at 0 = .ok (.iload_n 1, 1) := by decide +kernel
theorem dX1_at_1 : decode cX1_at 1 = .ok (.ifCond .lt 15, 3) := by decide +kernel
theorem dX1_at_4 : decode cX1_at 4 = .ok (.iload_n 1, 1) := by decide +kernel
theorem dX1_at_5 : decode cX1_at 5 = .ok (.aload_n 0, 1) := by decide +kernel
theorem dX1_at_6 : decode cX1_at 6 = .ok (.arraylength, 1) := by decide +kernel
theorem dX1_at_7 : decode cX1_at 7 = .ok (.if_icmp .ge 9, 3) := by decide +kernel
theorem dX1_at_10 : decode cX1_at 10 = .ok (.aload_n 0, 1) := by decide +kernel
theorem dX1_at_11 : decode cX1_at 11 = .ok (.iload_n 1, 1) := by decide +kernel
theorem dX1_at_12 : decode cX1_at 12 = .ok (.iaload, 1) := by decide +kernel
theorem dX1_at_13 : decode cX1_at 13 = .ok (.goto 4, 3) := by decide +kernel
theorem dX1_at_16 : decode cX1_at 16 = .ok (.iconst 0, 1) := by decide +kernel
theorem dX1_at_17 : decode cX1_at 17 = .ok (.ireturn, 1) := by decide +kernel
theorem dX1_put_0 : decode cX1_put 0 = .ok (.iload_n 1, 1) := by decide +kernel
theorem dX1_put_1 : decode cX1_put 1 = .ok (.ifCond .lt 13, 3) := by decide +kernel
theorem dX1_put_4 : decode cX1_put 4 = .ok (.iload_n 1, 1) := by decide +kernel
theorem dX1_put_5 : decode cX1_put 5 = .ok (.aload_n 0, 1) := by decide +kernel
theorem dX1_put_6 : decode cX1_put 6 = .ok (.arraylength, 1) := by decide +kernel
theorem dX1_put_7 : decode cX1_put 7 = .ok (.if_icmp .ge 7, 3) := by decide +kernel
theorem dX1_put_10 : decode cX1_put 10 = .ok (.aload_n 0, 1) := by decide +kernel
theorem dX1_put_11 : decode cX1_put 11 = .ok (.iload_n 1, 1) := by decide +kernel
theorem dX1_put_12 : decode cX1_put 12 = .ok (.iload_n 2, 1) := by decide +kernel
theorem dX1_put_13 : decode cX1_put 13 = .ok (.iastore, 1) := by decide +kernel
theorem dX1_put_14 : decode cX1_put 14 = .ok (.return_, 1) := by decide +kernel
theorem dX1_raise_0 : decode cX1_raise 0 = .ok (.aload_n 0, 1) := by decide +kernel
theorem dX1_raise_1 : decode cX1_raise 1 = .ok (.iload_n 1, 1) := by decide +kernel
theorem dX1_raise_2 : decode cX1_raise 2 = .ok (.aload_n 0, 1) := by decide +kernel
theorem dX1_raise_3 : decode cX1_raise 3 = .ok (.iload_n 1, 1) := by decide +kernel
theorem dX1_raise_4 : decode cX1_raise 4 = .ok (.invokestatic 7, 3) := by decide +kernel
theorem dX1_raise_7 : decode cX1_raise 7 = .ok (.iload_n 2, 1) := by decide +kernel
theorem dX1_raise_8 : decode cX1_raise 8 = .ok (.iadd, 1) := by decide +kernel
theorem dX1_raise_9 : decode cX1_raise 9 = .ok (.invokestatic 13, 3) := by decide +kernel
theorem dX1_raise_12 : decode cX1_raise 12 = .ok (.return_, 1) := by decide +kernel
theorem dX1_fill_0 : decode cX1_fill 0 = .ok (.iconst 0, 1) := by decide +kernel
theorem dX1_fill_1 : decode cX1_fill 1 = .ok (.istore_n 2, 1) := by decide +kernel
theorem dX1_fill_2 : decode cX1_fill 2 = .ok (.iload_n 2, 1) := by decide +kernel
theorem dX1_fill_3 : decode cX1_fill 3 = .ok (.aload_n 0, 1) := by decide +kernel
theorem dX1_fill_4 : decode cX1_fill 4 = .ok (.arraylength, 1) := by decide +kernel
theorem dX1_fill_5 : decode cX1_fill 5 = .ok (.if_icmp .ge 13, 3) := by decide +kernel
theorem dX1_fill_8 : decode cX1_fill 8 = .ok (.aload_n 0, 1) := by decide +kernel
theorem dX1_fill_9 : decode cX1_fill 9 = .ok (.iload_n 2, 1) := by decide +kernel
theorem dX1_fill_10 : decode cX1_fill 10 = .ok (.iload_n 1, 1) := by decide +kernel
theorem dX1_fill_11 : decode cX1_fill 11 = .ok (.iastore, 1) := by decide +kernel
theorem dX1_fill_12 : decode cX1_fill 12 = .ok (.iinc 2 1, 3) := by decide +kernel
theorem dX1_fill_15 : decode cX1_fill 15 = .ok (.goto (-13), 3) := by decide +kernel
theorem dX1_fill_18 : decode cX1_fill 18 = .ok (.return_, 1) := by decide +kernel
theorem dX1_copy_0 : decode cX1_copy 0 = .ok (.iconst 0, 1) := by decide +kernel
theorem dX1_copy_1 : decode cX1_copy 1 = .ok (.istore_n 2, 1) := by decide +kernel
theorem dX1_copy_2 : decode cX1_copy 2 = .ok (.iload_n 2, 1) := by decide +kernel
theorem dX1_copy_3 : decode cX1_copy 3 = .ok (.aload_n 0, 1) := by decide +kernel
theorem dX1_copy_4 : decode cX1_copy 4 = .ok (.arraylength, 1) := by decide +kernel
theorem dX1_copy_5 : decode cX1_copy 5 = .ok (.if_icmp .ge 21, 3) := by decide +kernel
theorem dX1_copy_8 : decode cX1_copy 8 = .ok (.iload_n 2, 1) := by decide +kernel
theorem dX1_copy_9 : decode cX1_copy 9 = .ok (.aload_n 1, 1) := by decide +kernel
theorem dX1_copy_10 : decode cX1_copy 10 = .ok (.arraylength, 1) := by decide +kernel
theorem dX1_copy_11 : decode cX1_copy 11 = .ok (.if_icmp .ge 15, 3) := by decide +kernel
theorem dX1_copy_14 : decode cX1_copy 14 = .ok (.aload_n 1, 1) := by decide +kernel
theorem dX1_copy_15 : decode cX1_copy 15 = .ok (.iload_n 2, 1) := by decide +kernel
theorem dX1_copy_16 : decode cX1_copy 16 = .ok (.aload_n 0, 1) := by decide +kernel
theorem dX1_copy_17 : decode cX1_copy 17 = .ok (.iload_n 2, 1) := by decide +kernel
theorem dX1_copy_18 : decode cX1_copy 18 = .ok (.iaload, 1) := by decide +kernel
theorem dX1_copy_19 : decode cX1_copy 19 = .ok (.iastore, 1) := by decide +kernel
theorem dX1_copy_20 : decode cX1_copy 20 = .ok (.iinc 2 1, 3) := by decide +kernel
theorem dX1_copy_23 : decode cX1_copy 23 = .ok (.goto (-21), 3) := by decide +kernel
theorem dX1_copy_26 : decode cX1_copy 26 = .ok (.return_, 1) := by decide +kernel
theorem dX1_sum_0 : decode cX1_sum 0 = .ok (.iconst 0, 1) := by decide +kernel
theorem dX1_sum_1 : decode cX1_sum 1 = .ok (.istore_n 1, 1) := by decide +kernel
theorem dX1_sum_2 : decode cX1_sum 2 = .ok (.aload_n 0, 1) := by decide +kernel
theorem dX1_sum_3 : decode cX1_sum 3 = .ok (.astore_n 2, 1) := by decide +kernel
theorem dX1_sum_4 : decode cX1_sum 4 = .ok (.aload_n 2, 1) := by decide +kernel
theorem dX1_sum_5 : decode cX1_sum 5 = .ok (.arraylength, 1) := by decide +kernel
theorem dX1_sum_6 : decode cX1_sum 6 = .ok (.istore_n 3, 1) := by decide +kernel
theorem dX1_sum_7 : decode cX1_sum 7 = .ok (.iconst 0, 1) := by decide +kernel
theorem dX1_sum_8 : decode cX1_sum 8 = .ok (.istore 4, 2) := by decide +kernel
theorem dX1_sum_10 : decode cX1_sum 10 = .ok (.iload 4, 2) := by decide +kernel
theorem dX1_sum_12 : decode cX1_sum 12 = .ok (.iload_n 3, 1) := by decide +kernel
theorem dX1_sum_13 : decode cX1_sum 13 = .ok (.if_icmp .ge 20, 3) := by decide +kernel
theorem dX1_sum_16 : decode cX1_sum 16 = .ok (.aload_n 2, 1) := by decide +kernel
theorem dX1_sum_17 : decode cX1_sum 17 = .ok (.iload 4, 2) := by decide +kernel
theorem dX1_sum_19 : decode cX1_sum 19 = .ok (.iaload, 1) := by decide +kernel
theorem dX1_sum_20 : decode cX1_sum 20 = .ok (.istore 5, 2) := by decide +kernel
theorem dX1_sum_22 : decode cX1_sum 22 = .ok (.iload_n 1, 1) := by decide +kernel
theorem dX1_sum_23 : decode cX1_sum 23 = .ok (.iload 5, 2) := by decide +kernel
theorem dX1_sum_25 : decode cX1_sum 25 = .ok (.iadd, 1) := by decide +kernel
theorem dX1_sum_26 : decode cX1_sum 26 = .ok (.istore_n 1, 1) := by decide +kernel
theorem dX1_sum_27 : decode cX1_sum 27 = .ok (.iinc 4 1, 3) := by decide +kernel
theorem dX1_sum_30 : decode cX1_sum 30 = .ok (.goto (-20), 3) := by decide +kernel
theorem dX1_sum_33 : decode cX1_sum 33 = .ok (.iload_n 1, 1) := by decide +kernel
theorem dX1_sum_34 : decode cX1_sum 34 = .ok (.ireturn, 1) := by decide +kernel
theorem dX2_init_0 : decode cX2_init 0 = .ok (.aload_n 0, 1) := by decide +kernel
theorem dX2_init_1 : decode cX2_init 1 = .ok (.invokespecial 3, 3) := by decide +kernel
theorem dX2_init_4 : decode cX2_init 4 = .ok (.aload_n 0, 1) := by decide +kernel
theorem dX2_init_5 : decode cX2_init 5 = .ok (.bipush 6, 2) := by decide +kernel
theorem dX2_init_7 : decode cX2_init 7 = .ok (.anewarray 9, 3) := by decide +kernel
theorem dX2_init_10 : decode cX2_init 10 = .ok (.putfield 11, 3) := by decide +kernel
theorem dX2_init_13 : decode cX2_init 13 = .ok (.iconst 0, 1) := by decide +kernel
theorem dX2_init_14 : decode cX2_init 14 = .ok (.istore_n 1, 1) := by decide +kernel
theorem dX2_init_15 : decode cX2_init 15 = .ok (.iload_n 1, 1) := by decide +kernel
theorem dX2_init_16 : decode cX2_init 16 = .ok (.aload_n 0, 1) := by decide +kernel
theorem dX2_init_17 : decode cX2_init 17 = .ok (.getfield 11, 3) := by decide +kernel
theorem dX2_init_20 : decode cX2_init 20 = .ok (.arraylength, 1) := by decide +kernel
theorem dX2_init_21 : decode cX2_init 21 = .ok (.if_icmp .ge 22, 3) := by decide +kernel
theorem dX2_init_24 : decode cX2_init 24 = .ok (.aload_n 0, 1) := by decide +kernel
theorem dX2_init_25 : decode cX2_init 25 = .ok (.getfield 11, 3) := by decide +kernel
theorem dX2_init_28 : decode cX2_init 28 = .ok (.iload_n 1, 1) := by decide +kernel
theorem dX2_init_29 : decode cX2_init 29 = .ok (.new 9, 3) := by decide +kernel
theorem dX2_init_32 : decode cX2_init 32 = .ok (.dup, 1) := by decide +kernel
theorem dX2_init_33 : decode cX2_init 33 = .ok (.invokespecial 17, 3) := by decide +kernel
theorem dX2_init_36 : decode cX2_init 36 = .ok (.aastore, 1) := by decide +kernel
theorem dX2_init_37 : decode cX2_init 37 = .ok (.iinc 1 1, 3) := by decide +kernel
theorem dX2_init_40 : decode cX2_init 40 = .ok (.goto (-25), 3) := by decide +kernel
theorem dX2_init_43 : decode cX2_init 43 = .ok (.aload_n 0, 1) := by decide +kernel
theorem dX2_init_44 : decode cX2_init 44 = .ok (.iconst 0, 1) := by decide +kernel
theorem dX2_init_45 : decode cX2_init 45 = .ok (.putfield 18, 3) := by decide +kernel
theorem dX2_init_48 : decode cX2_init 48 = .ok (.aload_n 0, 1) := by decide +kernel
theorem dX2_init_49 : decode cX2_init 49 = .ok (.iconst 0, 1) := by decide +kernel
theorem dX2_init_50 : decode cX2_init 50 = .ok (.putfield 22, 3) := by decide +kernel
theorem dX2_init_53 : decode cX2_init 53 = .ok (.return_, 1) := by decide +kernel
theorem dX2_slot_0 : decode cX2_slot 0 = .ok (.iload_n 1, 1) := by decide +kernel
theorem dX2_slot_1 : decode cX2_slot 1 = .ok (.ifCond .lt 21, 3) := by decide +kernel
theorem dX2_slot_4 : decode cX2_slot 4 = .ok (.iload_n 1, 1) := by decide +kernel
theorem dX2_slot_5 : decode cX2_slot 5 = .ok (.aload_n 0, 1) := by decide +kernel
theorem dX2_slot_6 : decode cX2_slot 6 = .ok (.getfield 11, 3) := by decide +kernel
theorem dX2_slot_9 : decode cX2_slot 9 = .ok (.arraylength, 1) := by decide +kernel
theorem dX2_slot_10 : decode cX2_slot 10 = .ok (.if_icmp .ge 12, 3) := by decide +kernel
theorem dX2_slot_13 : decode cX2_slot 13 = .ok (.aload_n 0, 1) := by decide +kernel
theorem dX2_slot_14 : decode cX2_slot 14 = .ok (.getfield 11, 3) := by decide +kernel
theorem dX2_slot_17 : decode cX2_slot 17 = .ok (.iload_n 1, 1) := by decide +kernel
theorem dX2_slot_18 : decode cX2_slot 18 = .ok (.aaload, 1) := by decide +kernel
theorem dX2_slot_19 : decode cX2_slot 19 = .ok (.goto 4, 3) := by decide +kernel
theorem dX2_slot_22 : decode cX2_slot 22 = .ok (.aconst_null, 1) := by decide +kernel
theorem dX2_slot_23 : decode cX2_slot 23 = .ok (.areturn, 1) := by decide +kernel
theorem dX2_push_0 : decode cX2_push 0 = .ok (.aload_n 0, 1) := by decide +kernel
theorem dX2_push_1 : decode cX2_push 1 = .ok (.aload_n 0, 1) := by decide +kernel
theorem dX2_push_2 : decode cX2_push 2 = .ok (.getfield 18, 3) := by decide +kernel
theorem dX2_push_5 : decode cX2_push 5 = .ok (.invokevirtual 25, 3) := by decide +kernel
theorem dX2_push_8 : decode cX2_push 8 = .ok (.astore_n 2, 1) := by decide +kernel
theorem dX2_push_9 : decode cX2_push 9 = .ok (.aload_n 2, 1) := by decide +kernel
theorem dX2_push_10 : decode cX2_push 10 = .ok (.ifnull 8, 3) := by decide +kernel
theorem dX2_push_13 : decode cX2_push 13 = .ok (.aload_n 2, 1) := by decide +kernel
theorem dX2_push_14 : decode cX2_push 14 = .ok (.aload_n 1, 1) := by decide +kernel
theorem dX2_push_15 : decode cX2_push 15 = .ok (.invokevirtual 29, 3) := by decide +kernel
theorem dX2_push_18 : decode cX2_push 18 = .ok (.aload_n 0, 1) := by decide +kernel
theorem dX2_push_19 : decode cX2_push 19 = .ok (.aload_n 0, 1) := by decide +kernel
theorem dX2_push_20 : decode cX2_push 20 = .ok (.getfield 18, 3) := by decide +kernel
theorem dX2_push_23 : decode cX2_push 23 = .ok (.iconst 1, 1) := by decide +kernel
theorem dX2_push_24 : decode cX2_push 24 = .ok (.iadd, 1) := by decide +kernel
theorem dX2_push_25 : decode cX2_push 25 = .ok (.bipush 6, 2) := by decide +kernel
theorem dX2_push_27 : decode cX2_push 27 = .ok (.if_icmp .ge 12, 3) := by decide +kernel
theorem dX2_push_30 : decode cX2_push 30 = .ok (.aload_n 0, 1) := by decide +kernel
theorem dX2_push_31 : decode cX2_push 31 = .ok (.getfield 18, 3) := by decide +kernel
theorem dX2_push_34 : decode cX2_push 34 = .ok (.iconst 1, 1) := by decide +kernel
theorem dX2_push_35 : decode cX2_push 35 = .ok (.iadd, 1) := by decide +kernel
theorem dX2_push_36 : decode cX2_push 36 = .ok (.goto 4, 3) := by decide +kernel
theorem dX2_push_39 : decode cX2_push 39 = .ok (.iconst 0, 1) := by decide +kernel
theorem dX2_push_40 : decode cX2_push 40 = .ok (.putfield 18, 3) := by decide +kernel
theorem dX2_push_43 : decode cX2_push 43 = .ok (.aload_n 0, 1) := by decide +kernel
theorem dX2_push_44 : decode cX2_push 44 = .ok (.aload_n 0, 1) := by decide +kernel
theorem dX2_push_45 : decode cX2_push 45 = .ok (.getfield 22, 3) := by decide +kernel
theorem dX2_push_48 : decode cX2_push 48 = .ok (.iconst 1, 1) := by decide +kernel
theorem dX2_push_49 : decode cX2_push 49 = .ok (.iadd, 1) := by decide +kernel
theorem dX2_push_50 : decode cX2_push 50 = .ok (.bipush 6, 2) := by decide +kernel
theorem dX2_push_52 : decode cX2_push 52 = .ok (.invokestatic 33, 3) := by decide +kernel
theorem dX2_push_55 : decode cX2_push 55 = .ok (.putfield 22, 3) := by decide +kernel
theorem dX2_push_58 : decode cX2_push 58 = .ok (.return_, 1) := by decide +kernel
theorem dX2_popInto_0 : decode cX2_popInto 0 = .ok (.aload_n 0, 1) := by decide +kernel
theorem dX2_popInto_1 : decode cX2_popInto 1 = .ok (.aload_n 0, 1) := by decide +kernel
theorem dX2_popInto_2 : decode cX2_popInto 2 = .ok (.getfield 18, 3) := by decide +kernel
theorem dX2_popInto_5 : decode cX2_popInto 5 = .ok (.ifCond .le 12, 3) := by decide +kernel
theorem dX2_popInto_8 : decode cX2_popInto 8 = .ok (.aload_n 0, 1) := by decide +kernel
theorem dX2_popInto_9 : decode cX2_popInto 9 = .ok (.getfield 18, 3) := by decide +kernel
theorem dX2_popInto_12 : decode cX2_popInto 12 = .ok (.iconst 1, 1) := by decide +kernel
theorem dX2_popInto_13 : decode cX2_popInto 13 = .ok (.isub, 1) := by decide +kernel
theorem dX2_popInto_14 : decode cX2_popInto 14 = .ok (.goto 4, 3) := by decide +kernel
theorem dX2_popInto_17 : decode cX2_popInto 17 = .ok (.iconst 5, 1) := by decide +kernel
theorem dX2_popInto_18 : decode cX2_popInto 18 = .ok (.putfield 18, 3) := by decide +kernel
theorem dX2_popInto_21 : decode cX2_popInto 21 = .ok (.aload_n 0, 1) := by decide +kernel
theorem dX2_popInto_22 : decode cX2_popInto 22 = .ok (.dup, 1) := by decide +kernel
theorem dX2_popInto_23 : decode cX2_popInto 23 = .ok (.getfield 22, 3) := by decide +kernel
theorem dX2_popInto_26 : decode cX2_popInto 26 = .ok (.iconst 1, 1) := by decide +kernel
theorem dX2_popInto_27 : decode cX2_popInto 27 = .ok (.isub, 1) := by decide +kernel
theorem dX2_popInto_28 : decode cX2_popInto 28 = .ok (.putfield 22, 3) := by decide +kernel
theorem dX2_popInto_31 : decode cX2_popInto 31 = .ok (.aload_n 0, 1) := by decide +kernel
theorem dX2_popInto_32 : decode cX2_popInto 32 = .ok (.aload_n 0, 1) := by decide +kernel
theorem dX2_popInto_33 : decode cX2_popInto 33 = .ok (.getfield 18, 3) := by decide +kernel
theorem dX2_popInto_36 : decode cX2_popInto 36 = .ok (.invokevirtual 25, 3) := by decide +kernel
theorem dX2_popInto_39 : decode cX2_popInto 39 = .ok (.astore_n 2, 1) := by decide +kernel
theorem dX2_popInto_40 : decode cX2_popInto 40 = .ok (.aload_n 2, 1) := by decide +kernel
theorem dX2_popInto_41 : decode cX2_popInto 41 = .ok (.ifnull 8, 3) := by decide +kernel
theorem dX2_popInto_44 : decode cX2_popInto 44 = .ok (.aload_n 1, 1) := by decide +kernel
theorem dX2_popInto_45 : decode cX2_popInto 45 = .ok (.aload_n 2, 1) := by decide +kernel
theorem dX2_popInto_46 : decode cX2_popInto 46 = .ok (.invokevirtual 29, 3) := by decide +kernel
theorem dX2_popInto_49 : decode cX2_popInto 49 = .ok (.return_, 1) := by decide +kernel
theorem dX3_init_0 : decode cX3_init 0 = .ok (.aload_n 0, 1) := by decide +kernel
theorem dX3_init_1 : decode cX3_init 1 = .ok (.invokespecial 3, 3) := by decide +kernel
theorem dX3_init_4 : decode cX3_init 4 = .ok (.aload_n 0, 1) := by decide +kernel
theorem dX3_init_5 : decode cX3_init 5 = .ok (.new 9, 3) := by decide +kernel
theorem dX3_init_8 : decode cX3_init 8 = .ok (.dup, 1) := by decide +kernel
theorem dX3_init_9 : decode cX3_init 9 = .ok (.invokespecial 11, 3) := by decide +kernel
theorem dX3_init_12 : decode cX3_init 12 = .ok (.putfield 12, 3) := by decide +kernel
theorem dX3_init_15 : decode cX3_init 15 = .ok (.aload_n 0, 1) := by decide +kernel
theorem dX3_init_16 : decode cX3_init 16 = .ok (.bipush 6, 2) := by decide +kernel
theorem dX3_init_18 : decode cX3_init 18 = .ok (.newarray .int, 2) := by decide +kernel
theorem dX3_init_20 : decode cX3_init 20 = .ok (.putfield 18, 3) := by decide +kernel
theorem dX3_init_23 : decode cX3_init 23 = .ok (.aload_n 0, 1) := by decide +kernel
theorem dX3_init_24 : decode cX3_init 24 = .ok (.bipush 16, 2) := by decide +kernel
theorem dX3_init_26 : decode cX3_init 26 = .ok (.newarray .int, 2) := by decide +kernel
theorem dX3_init_28 : decode cX3_init 28 = .ok (.putfield 22, 3) := by decide +kernel
theorem dX3_init_31 : decode cX3_init 31 = .ok (.aload_n 0, 1) := by decide +kernel
theorem dX3_init_32 : decode cX3_init 32 = .ok (.bipush 16, 2) := by decide +kernel
theorem dX3_init_34 : decode cX3_init 34 = .ok (.newarray .int, 2) := by decide +kernel
theorem dX3_init_36 : decode cX3_init 36 = .ok (.putfield 25, 3) := by decide +kernel
theorem dX3_init_39 : decode cX3_init 39 = .ok (.aload_n 0, 1) := by decide +kernel
theorem dX3_init_40 : decode cX3_init 40 = .ok (.bipush 16, 2) := by decide +kernel
theorem dX3_init_42 : decode cX3_init 42 = .ok (.newarray .int, 2) := by decide +kernel
theorem dX3_init_44 : decode cX3_init 44 = .ok (.putfield 28, 3) := by decide +kernel
theorem dX3_init_47 : decode cX3_init 47 = .ok (.aload_n 0, 1) := by decide +kernel
theorem dX3_init_48 : decode cX3_init 48 = .ok (.bipush 32, 2) := by decide +kernel
theorem dX3_init_50 : decode cX3_init 50 = .ok (.newarray .int, 2) := by decide +kernel
theorem dX3_init_52 : decode cX3_init 52 = .ok (.putfield 31, 3) := by decide +kernel
theorem dX3_init_55 : decode cX3_init 55 = .ok (.aload_n 0, 1) := by decide +kernel
theorem dX3_init_56 : decode cX3_init 56 = .ok (.bipush 32, 2) := by decide +kernel
theorem dX3_init_58 : decode cX3_init 58 = .ok (.newarray .int, 2) := by decide +kernel
theorem dX3_init_60 : decode cX3_init 60 = .ok (.putfield 34, 3) := by decide +kernel
theorem dX3_init_63 : decode cX3_init 63 = .ok (.aload_n 0, 1) := by decide +kernel
theorem dX3_init_64 : decode cX3_init 64 = .ok (.iconst 0, 1) := by decide +kernel
theorem dX3_init_65 : decode cX3_init 65 = .ok (.putfield 37, 3) := by decide +kernel
theorem dX3_init_68 : decode cX3_init 68 = .ok (.aload_n 0, 1) := by decide +kernel
theorem dX3_init_69 : decode cX3_init 69 = .ok (.iconst 0, 1) := by decide +kernel
theorem dX3_init_70 : decode cX3_init 70 = .ok (.putfield 41, 3) := by decide +kernel
theorem dX3_init_73 : decode cX3_init 73 = .ok (.aload_n 0, 1) := by decide +kernel
theorem dX3_init_74 : decode cX3_init 74 = .ok (.iconst 0, 1) := by decide +kernel
theorem dX3_init_75 : decode cX3_init 75 = .ok (.putfield 44, 3) := by decide +kernel
theorem dX3_init_78 : decode cX3_init 78 = .ok (.getstatic 47, 3) := by decide +kernel
theorem dX3_init_81 : decode cX3_init 81 = .ok (.aload_n 0, 1) := by decide +kernel
theorem dX3_init_82 : decode cX3_init 82 = .ok (.getfield 18, 3) := by decide +kernel
theorem dX3_init_85 : decode cX3_init 85 = .ok (.invokestatic 50, 3) := by decide +kernel
theorem dX3_init_88 : decode cX3_init 88 = .ok (.aload_n 0, 1) := by decide +kernel
theorem dX3_init_89 : decode cX3_init 89 = .ok (.getfield 31, 3) := by decide +kernel
theorem dX3_init_92 : decode cX3_init 92 = .ok (.iconst (-1), 1) := by decide +kernel
theorem dX3_init_93 : decode cX3_init 93 = .ok (.invokestatic 56, 3) := by decide +kernel
theorem dX3_init_96 : decode cX3_init 96 = .ok (.aload_n 0, 1) := by decide +kernel
theorem dX3_init_97 : decode cX3_init 97 = .ok (.getfield 34, 3) := by decide +kernel
theorem dX3_init_100 : decode cX3_init 100 = .ok (.iconst (-1), 1) := by decide +kernel
theorem dX3_init_101 : decode cX3_init 101 = .ok (.invokestatic 56, 3) := by decide +kernel
theorem dX3_init_104 : decode cX3_init 104 = .ok (.return_, 1) := by decide +kernel
theorem dX3_copyFrom_0 : decode cX3_copyFrom 0 = .ok (.aload_n 0, 1) := by decide +kernel
theorem dX3_copyFrom_1 : decode cX3_copyFrom 1 = .ok (.getfield 12, 3) := by decide +kernel
theorem dX3_copyFrom_4 : decode cX3_copyFrom 4 = .ok (.aload_n 1, 1) := by decide +kernel
theorem dX3_copyFrom_5 : decode cX3_copyFrom 5 = .ok (.getfield 12, 3) := by decide +kernel
theorem dX3_copyFrom_8 : decode cX3_copyFrom 8 = .ok (.invokevirtual 60, 3) := by decide +kernel
theorem dX3_copyFrom_11 : decode cX3_copyFrom 11 = .ok (.aload_n 1, 1) := by decide +kernel
theorem dX3_copyFrom_12 : decode cX3_copyFrom 12 = .ok (.getfield 18, 3) := by decide +kernel
theorem dX3_copyFrom_15 : decode cX3_copyFrom 15 = .ok (.aload_n 0, 1) := by decide +kernel
theorem dX3_copyFrom_16 : decode cX3_copyFrom 16 = .ok (.getfield 18, 3) := by decide +kernel
theorem dX3_copyFrom_19 : decode cX3_copyFrom 19 = .ok (.invokestatic 50, 3) := by decide +kernel
theorem dX3_copyFrom_22 : decode cX3_copyFrom 22 = .ok (.aload_n 1, 1) := by decide +kernel
theorem dX3_copyFrom_23 : decode cX3_copyFrom 23 = .ok (.getfield 22, 3) := by decide +kernel
theorem dX3_copyFrom_26 : decode cX3_copyFrom 26 = .ok (.aload_n 0, 1) := by decide +kernel
theorem dX3_copyFrom_27 : decode cX3_copyFrom 27 = .ok (.getfield 22, 3) := by decide +kernel
theorem dX3_copyFrom_30 : decode cX3_copyFrom 30 = .ok (.invokestatic 50, 3) := by decide +kernel
theorem dX3_copyFrom_33 : decode cX3_copyFrom 33 = .ok (.aload_n 1, 1) := by decide +kernel
theorem dX3_copyFrom_34 : decode cX3_copyFrom 34 = .ok (.getfield 25, 3) := by decide +kernel
theorem dX3_copyFrom_37 : decode cX3_copyFrom 37 = .ok (.aload_n 0, 1) := by decide +kernel
theorem dX3_copyFrom_38 : decode cX3_copyFrom 38 = .ok (.getfield 25, 3) := by decide +kernel
theorem dX3_copyFrom_41 : decode cX3_copyFrom 41 = .ok (.invokestatic 50, 3) := by decide +kernel
theorem dX3_copyFrom_44 : decode cX3_copyFrom 44 = .ok (.aload_n 1, 1) := by decide +kernel
theorem dX3_copyFrom_45 : decode cX3_copyFrom 45 = .ok (.getfield 28, 3) := by decide +kernel
theorem dX3_copyFrom_48 : decode cX3_copyFrom 48 = .ok (.aload_n 0, 1) := by decide +kernel
theorem dX3_copyFrom_49 : decode cX3_copyFrom 49 = .ok (.getfield 28, 3) := by decide +kernel
theorem dX3_copyFrom_52 : decode cX3_copyFrom 52 = .ok (.invokestatic 50, 3) := by decide +kernel
theorem dX3_copyFrom_55 : decode cX3_copyFrom 55 = .ok (.aload_n 1, 1) := by decide +kernel
theorem dX3_copyFrom_56 : decode cX3_copyFrom 56 = .ok (.getfield 31, 3) := by decide +kernel
theorem dX3_copyFrom_59 : decode cX3_copyFrom 59 = .ok (.aload_n 0, 1) := by decide +kernel
theorem dX3_copyFrom_60 : decode cX3_copyFrom 60 = .ok (.getfield 31, 3) := by decide +kernel
theorem dX3_copyFrom_63 : decode cX3_copyFrom 63 = .ok (.invokestatic 50, 3) := by decide +kernel
theorem dX3_copyFrom_66 : decode cX3_copyFrom 66 = .ok (.aload_n 1, 1) := by decide +kernel
theorem dX3_copyFrom_67 : decode cX3_copyFrom 67 = .ok (.getfield 34, 3) := by decide +kernel
theorem dX3_copyFrom_70 : decode cX3_copyFrom 70 = .ok (.aload_n 0, 1) := by decide +kernel
theorem dX3_copyFrom_71 : decode cX3_copyFrom 71 = .ok (.getfield 34, 3) := by decide +kernel
theorem dX3_copyFrom_74 : decode cX3_copyFrom 74 = .ok (.invokestatic 50, 3) := by decide +kernel
theorem dX3_copyFrom_77 : decode cX3_copyFrom 77 = .ok (.aload_n 0, 1) := by decide +kernel
theorem dX3_copyFrom_78 : decode cX3_copyFrom 78 = .ok (.aload_n 1, 1) := by decide +kernel
theorem dX3_copyFrom_79 : decode cX3_copyFrom 79 = .ok (.getfield 37, 3) := by decide +kernel
theorem dX3_copyFrom_82 : decode cX3_copyFrom 82 = .ok (.putfield 37, 3) := by decide +kernel
theorem dX3_copyFrom_85 : decode cX3_copyFrom 85 = .ok (.aload_n 0, 1) := by decide +kernel
theorem dX3_copyFrom_86 : decode cX3_copyFrom 86 = .ok (.aload_n 1, 1) := by decide +kernel
theorem dX3_copyFrom_87 : decode cX3_copyFrom 87 = .ok (.getfield 41, 3) := by decide +kernel
theorem dX3_copyFrom_90 : decode cX3_copyFrom 90 = .ok (.putfield 41, 3) := by decide +kernel
theorem dX3_copyFrom_93 : decode cX3_copyFrom 93 = .ok (.aload_n 0, 1) := by decide +kernel
theorem dX3_copyFrom_94 : decode cX3_copyFrom 94 = .ok (.aload_n 1, 1) := by decide +kernel
theorem dX3_copyFrom_95 : decode cX3_copyFrom 95 = .ok (.getfield 44, 3) := by decide +kernel
theorem dX3_copyFrom_98 : decode cX3_copyFrom 98 = .ok (.putfield 44, 3) := by decide +kernel
theorem dX3_copyFrom_101 : decode cX3_copyFrom 101 = .ok (.return_, 1) := by decide +kernel
theorem dX3_charge_0 : decode cX3_charge 0 = .ok (.iload_n 1, 1) := by decide +kernel
theorem dX3_charge_1 : decode cX3_charge 1 = .ok (.iload_n 2, 1) := by decide +kernel
theorem dX3_charge_2 : decode cX3_charge 2 = .ok (.invokestatic 64, 3) := by decide +kernel
theorem dX3_charge_5 : decode cX3_charge 5 = .ok (.istore 4, 2) := by decide +kernel
theorem dX3_charge_7 : decode cX3_charge 7 = .ok (.iload_n 3, 1) := by decide +kernel
theorem dX3_charge_8 : decode cX3_charge 8 = .ok (.aload_n 0, 1) := by decide +kernel
theorem dX3_charge_9 : decode cX3_charge 9 = .ok (.getfield 22, 3) := by decide +kernel
theorem dX3_charge_12 : decode cX3_charge 12 = .ok (.iload 4, 2) := by decide +kernel
theorem dX3_charge_14 : decode cX3_charge 14 = .ok (.invokestatic 68, 3) := by decide +kernel
theorem dX3_charge_17 : decode cX3_charge 17 = .ok (.isub, 1) := by decide +kernel
theorem dX3_charge_18 : decode cX3_charge 18 = .ok (.istore 5, 2) := by decide +kernel
theorem dX3_charge_20 : decode cX3_charge 20 = .ok (.aload_n 0, 1) := by decide +kernel
theorem dX3_charge_21 : decode cX3_charge 21 = .ok (.getfield 22, 3) := by decide +kernel
theorem dX3_charge_24 : decode cX3_charge 24 = .ok (.iload 4, 2) := by decide +kernel
theorem dX3_charge_26 : decode cX3_charge 26 = .ok (.iload_n 3, 1) := by decide +kernel
theorem dX3_charge_27 : decode cX3_charge 27 = .ok (.invokestatic 72, 3) := by decide +kernel
theorem dX3_charge_30 : decode cX3_charge 30 = .ok (.aload_n 0, 1) := by decide +kernel
theorem dX3_charge_31 : decode cX3_charge 31 = .ok (.getfield 28, 3) := by decide +kernel
theorem dX3_charge_34 : decode cX3_charge 34 = .ok (.iload 4, 2) := by decide +kernel
theorem dX3_charge_36 : decode cX3_charge 36 = .ok (.iconst 1, 1) := by decide +kernel
theorem dX3_charge_37 : decode cX3_charge 37 = .ok (.invokestatic 76, 3) := by decide +kernel
theorem dX3_charge_40 : decode cX3_charge 40 = .ok (.iload 5, 2) := by decide +kernel
theorem dX3_charge_42 : decode cX3_charge 42 = .ok (.ifCond .ge 24, 3) := by decide +kernel
theorem dX3_charge_45 : decode cX3_charge 45 = .ok (.aload_n 0, 1) := by decide +kernel
theorem dX3_charge_46 : decode cX3_charge 46 = .ok (.dup, 1) := by decide +kernel
theorem dX3_charge_47 : decode cX3_charge 47 = .ok (.getfield 37, 3) := by decide +kernel
theorem dX3_charge_50 : decode cX3_charge 50 = .ok (.iconst 1, 1) := by decide +kernel
theorem dX3_charge_51 : decode cX3_charge 51 = .ok (.iadd, 1) := by decide +kernel
theorem dX3_charge_52 : decode cX3_charge 52 = .ok (.putfield 37, 3) := by decide +kernel
theorem dX3_charge_55 : decode cX3_charge 55 = .ok (.aload_n 0, 1) := by decide +kernel
theorem dX3_charge_56 : decode cX3_charge 56 = .ok (.dup, 1) := by decide +kernel
theorem dX3_charge_57 : decode cX3_charge 57 = .ok (.getfield 41, 3) := by decide +kernel
theorem dX3_charge_60 : decode cX3_charge 60 = .ok (.iload 5, 2) := by decide +kernel
theorem dX3_charge_62 : decode cX3_charge 62 = .ok (.isub, 1) := by decide +kernel
theorem dX3_charge_63 : decode cX3_charge 63 = .ok (.putfield 41, 3) := by decide +kernel
theorem dX3_charge_66 : decode cX3_charge 66 = .ok (.aload_n 0, 1) := by decide +kernel
theorem dX3_charge_67 : decode cX3_charge 67 = .ok (.getfield 31, 3) := by decide +kernel
theorem dX3_charge_70 : decode cX3_charge 70 = .ok (.iload_n 1, 1) := by decide +kernel
theorem dX3_charge_71 : decode cX3_charge 71 = .ok (.iload_n 2, 1) := by decide +kernel
theorem dX3_charge_72 : decode cX3_charge 72 = .ok (.invokestatic 79, 3) := by decide +kernel
theorem dX3_charge_75 : decode cX3_charge 75 = .ok (.aload_n 0, 1) := by decide +kernel
theorem dX3_charge_76 : decode cX3_charge 76 = .ok (.getfield 34, 3) := by decide +kernel
theorem dX3_charge_79 : decode cX3_charge 79 = .ok (.iload_n 1, 1) := by decide +kernel
theorem dX3_charge_80 : decode cX3_charge 80 = .ok (.iload 5, 2) := by decide +kernel
theorem dX3_charge_82 : decode cX3_charge 82 = .ok (.ldc 82, 2) := by decide +kernel
theorem dX3_charge_84 : decode cX3_charge 84 = .ok (.iadd, 1) := by decide +kernel
theorem dX3_charge_85 : decode cX3_charge 85 = .ok (.invokestatic 79, 3) := by decide +kernel
theorem dX3_charge_88 : decode cX3_charge 88 = .ok (.iload 5, 2) := by decide +kernel
theorem dX3_charge_90 : decode cX3_charge 90 = .ok (.ireturn, 1) := by decide +kernel
theorem dX3_enter_0 : decode cX3_enter 0 = .ok (.iload_n 1, 1) := by decide +kernel
theorem dX3_enter_1 : decode cX3_enter 1 = .ok (.bipush 8, 2) := by decide +kernel
theorem dX3_enter_3 : decode cX3_enter 3 = .ok (.imul, 1) := by decide +kernel
theorem dX3_enter_4 : decode cX3_enter 4 = .ok (.istore_n 3, 1) := by decide +kernel
theorem dX3_enter_5 : decode cX3_enter 5 = .ok (.bipush 7, 2) := by decide +kernel
theorem dX3_enter_7 : decode cX3_enter 7 = .ok (.istore 4, 2) := by decide +kernel
theorem dX3_enter_9 : decode cX3_enter 9 = .ok (.iload 4, 2) := by decide +kernel
theorem dX3_enter_11 : decode cX3_enter 11 = .ok (.ifCond .le 27, 3) := by decide +kernel
theorem dX3_enter_14 : decode cX3_enter 14 = .ok (.aload_n 0, 1) := by decide +kernel
theorem dX3_enter_15 : decode cX3_enter 15 = .ok (.iload_n 3, 1) := by decide +kernel
theorem dX3_enter_16 : decode cX3_enter 16 = .ok (.iload 4, 2) := by decide +kernel
theorem dX3_enter_18 : decode cX3_enter 18 = .ok (.iadd, 1) := by decide +kernel
theorem dX3_enter_19 : decode cX3_enter 19 = .ok (.aload_n 0, 1) := by decide +kernel
theorem dX3_enter_20 : decode cX3_enter 20 = .ok (.iload_n 3, 1) := by decide +kernel
theorem dX3_enter_21 : decode cX3_enter 21 = .ok (.iload 4, 2) := by decide +kernel
theorem dX3_enter_23 : decode cX3_enter 23 = .ok (.iadd, 1) := by decide +kernel
theorem dX3_enter_24 : decode cX3_enter 24 = .ok (.iconst 1, 1) := by decide +kernel
theorem dX3_enter_25 : decode cX3_enter 25 = .ok (.isub, 1) := by decide +kernel
theorem dX3_enter_26 : decode cX3_enter 26 = .ok (.invokestatic 68, 3) := by decide +kernel
theorem dX3_enter_29 : decode cX3_enter 29 = .ok (.invokestatic 72, 3) := by decide +kernel
theorem dX3_enter_32 : decode cX3_enter 32 = .ok (.iinc 4 (-1), 3) := by decide +kernel
theorem dX3_enter_35 : decode cX3_enter 35 = .ok (.goto (-26), 3) := by decide +kernel
theorem dX3_enter_38 : decode cX3_enter 38 = .ok (.aload_n 0, 1) := by decide +kernel
theorem dX3_enter_39 : decode cX3_enter 39 = .ok (.iload_n 3, 1) := by decide +kernel
theorem dX3_enter_40 : decode cX3_enter 40 = .ok (.iload_n 2, 1) := by decide +kernel
theorem dX3_enter_41 : decode cX3_enter 41 = .ok (.invokestatic 72, 3) := by decide +kernel
theorem dX3_enter_44 : decode cX3_enter 44 = .ok (.return_, 1) := by decide +kernel
theorem dX3_ledgerNumber_0 : decode cX3_ledgerNumber 0 = .ok (.iload_n 3, 1) := by decide +kernel
theorem dX3_ledgerNumber_1 : decode cX3_ledgerNumber 1 = .ok (.ifCond .ne 10, 3) := by decide +kernel
theorem dX3_ledgerNumber_4 : decode cX3_ledgerNumber 4 = .ok (.aload_n 0, 1) := by decide +kernel
theorem dX3_ledgerNumber_5 : decode cX3_ledgerNumber 5 = .ok (.getfield 31, 3) := by decide +kernel
theorem dX3_ledgerNumber_8 : decode cX3_ledgerNumber 8 = .ok (.goto 7, 3) := by decide +kernel
theorem dX3_ledgerNumber_11 : decode cX3_ledgerNumber 11 = .ok (.aload_n 0, 1) := by decide +kernel
theorem dX3_ledgerNumber_12 : decode cX3_ledgerNumber 12 = .ok (.getfield 34, 3) := by decide +kernel
theorem dX3_ledgerNumber_15 : decode cX3_ledgerNumber 15 = .ok (.iload_n 1, 1) := by decide +kernel
theorem dX3_ledgerNumber_16 : decode cX3_ledgerNumber 16 = .ok (.bipush 8, 2) := by decide +kernel
theorem dX3_ledgerNumber_18 : decode cX3_ledgerNumber 18 = .ok (.imul, 1) := by decide +kernel
theorem dX3_ledgerNumber_19 : decode cX3_ledgerNumber 19 = .ok (.iload_n 2, 1) := by decide +kernel
theorem dX3_ledgerNumber_20 : decode cX3_ledgerNumber 20 = .ok (.iadd, 1) := by decide +kernel
theorem dX3_ledgerNumber_21 : decode cX3_ledgerNumber 21 = .ok (.invokestatic 68, 3) := by decide +kernel
