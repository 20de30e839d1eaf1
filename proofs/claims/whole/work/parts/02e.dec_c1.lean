/-! decode rows, printed by program -/
theorem dX7_isWalletDay_11 : decode cX7_isWalletDay 11 = .ok (.invokestatic 130, 3) := by decide +kernel
theorem dX7_isWalletDay_14 : decode cX7_isWalletDay 14 = .ok (.ifCond .eq 7, 3) := by decide +kernel
theorem dX7_isWalletDay_17 : decode cX7_isWalletDay 17 = .ok (.iconst 1, 1) := by decide +kernel
theorem dX7_isWalletDay_18 : decode cX7_isWalletDay 18 = .ok (.goto 4, 3) := by decide +kernel
theorem dX7_isWalletDay_21 : decode cX7_isWalletDay 21 = .ok (.iconst 0, 1) := by decide +kernel
theorem dX7_isWalletDay_22 : decode cX7_isWalletDay 22 = .ok (.ireturn, 1) := by decide +kernel
theorem dX7_isMinuteStation_0 : decode cX7_isMinuteStation 0 = .ok (.iload_n 0, 1) := by decide +kernel
theorem dX7_isMinuteStation_1 : decode cX7_isMinuteStation 1 = .ok (.sipush 1440, 3) := by decide +kernel
theorem dX7_isMinuteStation_4 : decode cX7_isMinuteStation 4 = .ok (.invokestatic 130, 3) := by decide +kernel
theorem dX7_isMinuteStation_7 : decode cX7_isMinuteStation 7 = .ok (.ifCond .eq 16, 3) := by decide +kernel
theorem dX7_isMinuteStation_10 : decode cX7_isMinuteStation 10 = .ok (.iload_n 1, 1) := by decide +kernel
theorem dX7_isMinuteStation_11 : decode cX7_isMinuteStation 11 = .ok (.bipush 10, 2) := by decide +kernel
theorem dX7_isMinuteStation_13 : decode cX7_isMinuteStation 13 = .ok (.invokestatic 130, 3) := by decide +kernel
theorem dX7_isMinuteStation_16 : decode cX7_isMinuteStation 16 = .ok (.ifCond .eq 7, 3) := by decide +kernel
theorem dX7_isMinuteStation_19 : decode cX7_isMinuteStation 19 = .ok (.iconst 1, 1) := by decide +kernel
theorem dX7_isMinuteStation_20 : decode cX7_isMinuteStation 20 = .ok (.goto 4, 3) := by decide +kernel
theorem dX7_isMinuteStation_23 : decode cX7_isMinuteStation 23 = .ok (.iconst 0, 1) := by decide +kernel
theorem dX7_isMinuteStation_24 : decode cX7_isMinuteStation 24 = .ok (.ireturn, 1) := by decide +kernel
theorem dX7_isPlace_0 : decode cX7_isPlace 0 = .ok (.iload_n 1, 1) := by decide +kernel
theorem dX7_isPlace_1 : decode cX7_isPlace 1 = .ok (.aload_n 0, 1) := by decide +kernel
theorem dX7_isPlace_2 : decode cX7_isPlace 2 = .ok (.getfield 10, 3) := by decide +kernel
theorem dX7_isPlace_5 : decode cX7_isPlace 5 = .ok (.getfield 55, 3) := by decide +kernel
theorem dX7_isPlace_8 : decode cX7_isPlace 8 = .ok (.getfield 79, 3) := by decide +kernel
theorem dX7_isPlace_11 : decode cX7_isPlace 11 = .ok (.invokestatic 130, 3) := by decide +kernel
theorem dX7_isPlace_14 : decode cX7_isPlace 14 = .ok (.ireturn, 1) := by decide +kernel
theorem dX7_readRides_0 : decode cX7_readRides 0 = .ok (.aload_n 0, 1) := by decide +kernel
theorem dX7_readRides_1 : decode cX7_readRides 1 = .ok (.getfield 19, 3) := by decide +kernel
theorem dX7_readRides_4 : decode cX7_readRides 4 = .ok (.aload_n 0, 1) := by decide +kernel
theorem dX7_readRides_5 : decode cX7_readRides 5 = .ok (.getfield 10, 3) := by decide +kernel
theorem dX7_readRides_8 : decode cX7_readRides 8 = .ok (.getfield 55, 3) := by decide +kernel
theorem dX7_readRides_11 : decode cX7_readRides 11 = .ok (.aload_n 0, 1) := by decide +kernel
theorem dX7_readRides_12 : decode cX7_readRides 12 = .ok (.getfield 10, 3) := by decide +kernel
theorem dX7_readRides_15 : decode cX7_readRides 15 = .ok (.getfield 58, 3) := by decide +kernel
theorem dX7_readRides_18 : decode cX7_readRides 18 = .ok (.invokevirtual 61, 3) := by decide +kernel
theorem dX7_readRides_21 : decode cX7_readRides 21 = .ok (.return_, 1) := by decide +kernel
theorem dX7_refusal_0 : decode cX7_refusal 0 = .ok (.aload_n 0, 1) := by decide +kernel
theorem dX7_refusal_1 : decode cX7_refusal 1 = .ok (.iload_n 1, 1) := by decide +kernel
theorem dX7_refusal_2 : decode cX7_refusal 2 = .ok (.invokevirtual 104, 3) := by decide +kernel
theorem dX7_refusal_5 : decode cX7_refusal 5 = .ok (.ifCond .eq 18, 3) := by decide +kernel
theorem dX7_refusal_8 : decode cX7_refusal 8 = .ok (.aload_n 0, 1) := by decide +kernel
theorem dX7_refusal_9 : decode cX7_refusal 9 = .ok (.getfield 19, 3) := by decide +kernel
theorem dX7_refusal_12 : decode cX7_refusal 12 = .ok (.getfield 256, 3) := by decide +kernel
theorem dX7_refusal_15 : decode cX7_refusal 15 = .ok (.iload_n 1, 1) := by decide +kernel
theorem dX7_refusal_16 : decode cX7_refusal 16 = .ok (.invokestatic 148, 3) := by decide +kernel
theorem dX7_refusal_19 : decode cX7_refusal 19 = .ok (.iconst (-1), 1) := by decide +kernel
theorem dX7_refusal_20 : decode cX7_refusal 20 = .ok (.if_icmp .eq 5, 3) := by decide +kernel
theorem dX7_refusal_23 : decode cX7_refusal 23 = .ok (.iconst 1, 1) := by decide +kernel
theorem dX7_refusal_24 : decode cX7_refusal 24 = .ok (.ireturn, 1) := by decide +kernel
theorem dX7_refusal_25 : decode cX7_refusal 25 = .ok (.aload_n 0, 1) := by decide +kernel
theorem dX7_refusal_26 : decode cX7_refusal 26 = .ok (.getfield 10, 3) := by decide +kernel
theorem dX7_refusal_29 : decode cX7_refusal 29 = .ok (.getfield 55, 3) := by decide +kernel
theorem dX7_refusal_32 : decode cX7_refusal 32 = .ok (.iload_n 1, 1) := by decide +kernel
theorem dX7_refusal_33 : decode cX7_refusal 33 = .ok (.invokevirtual 259, 3) := by decide +kernel
theorem dX7_refusal_36 : decode cX7_refusal 36 = .ok (.istore 4, 2) := by decide +kernel
theorem dX7_refusal_38 : decode cX7_refusal 38 = .ok (.iload 4, 2) := by decide +kernel
theorem dX7_refusal_40 : decode cX7_refusal 40 = .ok (.invokestatic 262, 3) := by decide +kernel
theorem dX7_refusal_43 : decode cX7_refusal 43 = .ok (.ifCond .eq 15, 3) := by decide +kernel
theorem dX7_refusal_46 : decode cX7_refusal 46 = .ok (.iload_n 2, 1) := by decide +kernel
theorem dX7_refusal_47 : decode cX7_refusal 47 = .ok (.iload 4, 2) := by decide +kernel
theorem dX7_refusal_49 : decode cX7_refusal 49 = .ok (.invokestatic 265, 3) := by decide +kernel
theorem dX7_refusal_52 : decode cX7_refusal 52 = .ok (.if_icmp .ge 17, 3) := by decide +kernel
theorem dX7_refusal_55 : decode cX7_refusal 55 = .ok (.goto 12, 3) := by decide +kernel
theorem dX7_refusal_58 : decode cX7_refusal 58 = .ok (.iload_n 2, 1) := by decide +kernel
theorem dX7_refusal_59 : decode cX7_refusal 59 = .ok (.iload 4, 2) := by decide +kernel
theorem dX7_refusal_61 : decode cX7_refusal 61 = .ok (.invokestatic 265, 3) := by decide +kernel
theorem dX7_refusal_64 : decode cX7_refusal 64 = .ok (.if_icmp .le 5, 3) := by decide +kernel
theorem dX7_refusal_67 : decode cX7_refusal 67 = .ok (.iconst 2, 1) := by decide +kernel
theorem dX7_refusal_68 : decode cX7_refusal 68 = .ok (.ireturn, 1) := by decide +kernel
theorem dX7_refusal_69 : decode cX7_refusal 69 = .ok (.aload_n 0, 1) := by decide +kernel
theorem dX7_refusal_70 : decode cX7_refusal 70 = .ok (.getfield 10, 3) := by decide +kernel
theorem dX7_refusal_73 : decode cX7_refusal 73 = .ok (.getfield 268, 3) := by decide +kernel
theorem dX7_refusal_76 : decode cX7_refusal 76 = .ok (.iload 4, 2) := by decide +kernel
theorem dX7_refusal_78 : decode cX7_refusal 78 = .ok (.invokestatic 271, 3) := by decide +kernel
theorem dX7_refusal_81 : decode cX7_refusal 81 = .ok (.iload 4, 2) := by decide +kernel
theorem dX7_refusal_83 : decode cX7_refusal 83 = .ok (.invokestatic 274, 3) := by decide +kernel
theorem dX7_refusal_86 : decode cX7_refusal 86 = .ok (.invokestatic 277, 3) := by decide +kernel
theorem dX7_refusal_89 : decode cX7_refusal 89 = .ok (.invokestatic 148, 3) := by decide +kernel
theorem dX7_refusal_92 : decode cX7_refusal 92 = .ok (.iconst 2, 1) := by decide +kernel
theorem dX7_refusal_93 : decode cX7_refusal 93 = .ok (.if_icmp .lt 5, 3) := by decide +kernel
theorem dX7_refusal_96 : decode cX7_refusal 96 = .ok (.iconst 3, 1) := by decide +kernel
theorem dX7_refusal_97 : decode cX7_refusal 97 = .ok (.ireturn, 1) := by decide +kernel
theorem dX7_refusal_98 : decode cX7_refusal 98 = .ok (.aload_n 0, 1) := by decide +kernel
theorem dX7_refusal_99 : decode cX7_refusal 99 = .ok (.getfield 10, 3) := by decide +kernel
theorem dX7_refusal_102 : decode cX7_refusal 102 = .ok (.getfield 55, 3) := by decide +kernel
theorem dX7_refusal_105 : decode cX7_refusal 105 = .ok (.getfield 79, 3) := by decide +kernel
theorem dX7_refusal_108 : decode cX7_refusal 108 = .ok (.bipush 60, 2) := by decide +kernel
theorem dX7_refusal_110 : decode cX7_refusal 110 = .ok (.if_icmp .lt 5, 3) := by decide +kernel
theorem dX7_refusal_113 : decode cX7_refusal 113 = .ok (.iconst 4, 1) := by decide +kernel
theorem dX7_refusal_114 : decode cX7_refusal 114 = .ok (.ireturn, 1) := by decide +kernel
theorem dX7_refusal_115 : decode cX7_refusal 115 = .ok (.aload_n 0, 1) := by decide +kernel
theorem dX7_refusal_116 : decode cX7_refusal 116 = .ok (.iload_n 1, 1) := by decide +kernel
theorem dX7_refusal_117 : decode cX7_refusal 117 = .ok (.iload 4, 2) := by decide +kernel
theorem dX7_refusal_119 : decode cX7_refusal 119 = .ok (.iload_n 2, 1) := by decide +kernel
theorem dX7_refusal_120 : decode cX7_refusal 120 = .ok (.iload_n 3, 1) := by decide +kernel
theorem dX7_refusal_121 : decode cX7_refusal 121 = .ok (.invokestatic 280, 3) := by decide +kernel
theorem dX7_refusal_124 : decode cX7_refusal 124 = .ok (.invokevirtual 283, 3) := by decide +kernel
theorem dX7_refusal_127 : decode cX7_refusal 127 = .ok (.ifCond .eq 7, 3) := by decide +kernel
theorem dX7_refusal_130 : decode cX7_refusal 130 = .ok (.iconst 0, 1) := by decide +kernel
theorem dX7_refusal_131 : decode cX7_refusal 131 = .ok (.goto 4, 3) := by decide +kernel
theorem dX7_refusal_134 : decode cX7_refusal 134 = .ok (.iconst 5, 1) := by decide +kernel
theorem dX7_refusal_135 : decode cX7_refusal 135 = .ok (.ireturn, 1) := by decide +kernel
theorem dX7_wouldRideWith_0 : decode cX7_wouldRideWith 0 = .ok (.aload_n 0, 1) := by decide +kernel
theorem dX7_wouldRideWith_1 : decode cX7_wouldRideWith 1 = .ok (.iload_n 2, 1) := by decide +kernel
theorem dX7_wouldRideWith_2 : decode cX7_wouldRideWith 2 = .ok (.invokevirtual 286, 3) := by decide +kernel
theorem dX7_wouldRideWith_5 : decode cX7_wouldRideWith 5 = .ok (.istore_n 3, 1) := by decide +kernel
theorem dX7_wouldRideWith_6 : decode cX7_wouldRideWith 6 = .ok (.iload_n 3, 1) := by decide +kernel
theorem dX7_wouldRideWith_7 : decode cX7_wouldRideWith 7 = .ok (.iload_n 1, 1) := by decide +kernel
theorem dX7_wouldRideWith_8 : decode cX7_wouldRideWith 8 = .ok (.if_icmp .gt 9, 3) := by decide +kernel
theorem dX7_wouldRideWith_11 : decode cX7_wouldRideWith 11 = .ok (.iload_n 1, 1) := by decide +kernel
theorem dX7_wouldRideWith_12 : decode cX7_wouldRideWith 12 = .ok (.iconst 1, 1) := by decide +kernel
theorem dX7_wouldRideWith_13 : decode cX7_wouldRideWith 13 = .ok (.iadd, 1) := by decide +kernel
theorem dX7_wouldRideWith_14 : decode cX7_wouldRideWith 14 = .ok (.goto 4, 3) := by decide +kernel
theorem dX7_wouldRideWith_17 : decode cX7_wouldRideWith 17 = .ok (.iload_n 1, 1) := by decide +kernel
theorem dX7_wouldRideWith_18 : decode cX7_wouldRideWith 18 = .ok (.istore 4, 2) := by decide +kernel
theorem dX7_wouldRideWith_20 : decode cX7_wouldRideWith 20 = .ok (.aload_n 0, 1) := by decide +kernel
theorem dX7_wouldRideWith_21 : decode cX7_wouldRideWith 21 = .ok (.getfield 37, 3) := by decide +kernel
theorem dX7_wouldRideWith_24 : decode cX7_wouldRideWith 24 = .ok (.getfield 256, 3) := by decide +kernel
theorem dX7_wouldRideWith_27 : decode cX7_wouldRideWith 27 = .ok (.iload_n 3, 1) := by decide +kernel
theorem dX7_wouldRideWith_28 : decode cX7_wouldRideWith 28 = .ok (.invokestatic 148, 3) := by decide +kernel
theorem dX7_wouldRideWith_31 : decode cX7_wouldRideWith 31 = .ok (.iload 4, 2) := by decide +kernel
theorem dX7_wouldRideWith_33 : decode cX7_wouldRideWith 33 = .ok (.if_icmp .ne 7, 3) := by decide +kernel
theorem dX7_wouldRideWith_36 : decode cX7_wouldRideWith 36 = .ok (.iconst 1, 1) := by decide +kernel
theorem dX7_wouldRideWith_37 : decode cX7_wouldRideWith 37 = .ok (.goto 4, 3) := by decide +kernel
theorem dX7_wouldRideWith_40 : decode cX7_wouldRideWith 40 = .ok (.iconst 0, 1) := by decide +kernel
theorem dX7_wouldRideWith_41 : decode cX7_wouldRideWith 41 = .ok (.ireturn, 1) := by decide +kernel
theorem dX7_fillIn_0 : decode cX7_fillIn 0 = .ok (.aload_n 0, 1) := by decide +kernel
theorem dX7_fillIn_1 : decode cX7_fillIn 1 = .ok (.getfield 10, 3) := by decide +kernel
theorem dX7_fillIn_4 : decode cX7_fillIn 4 = .ok (.getfield 55, 3) := by decide +kernel
theorem dX7_fillIn_7 : decode cX7_fillIn 7 = .ok (.iload_n 1, 1) := by decide +kernel
theorem dX7_fillIn_8 : decode cX7_fillIn 8 = .ok (.invokevirtual 259, 3) := by decide +kernel
theorem dX7_fillIn_11 : decode cX7_fillIn 11 = .ok (.istore 4, 2) := by decide +kernel
theorem dX7_fillIn_13 : decode cX7_fillIn 13 = .ok (.aload_n 0, 1) := by decide +kernel
theorem dX7_fillIn_14 : decode cX7_fillIn 14 = .ok (.getfield 10, 3) := by decide +kernel
theorem dX7_fillIn_17 : decode cX7_fillIn 17 = .ok (.getfield 268, 3) := by decide +kernel
theorem dX7_fillIn_20 : decode cX7_fillIn 20 = .ok (.iload 4, 2) := by decide +kernel
theorem dX7_fillIn_22 : decode cX7_fillIn 22 = .ok (.invokestatic 271, 3) := by decide +kernel
theorem dX7_fillIn_25 : decode cX7_fillIn 25 = .ok (.iload 4, 2) := by decide +kernel
theorem dX7_fillIn_27 : decode cX7_fillIn 27 = .ok (.invokestatic 274, 3) := by decide +kernel
theorem dX7_fillIn_30 : decode cX7_fillIn 30 = .ok (.invokestatic 277, 3) := by decide +kernel
theorem dX7_fillIn_33 : decode cX7_fillIn 33 = .ok (.iconst 1, 1) := by decide +kernel
theorem dX7_fillIn_34 : decode cX7_fillIn 34 = .ok (.invokestatic 289, 3) := by decide +kernel
theorem dX7_fillIn_37 : decode cX7_fillIn 37 = .ok (.aload_n 0, 1) := by decide +kernel
theorem dX7_fillIn_38 : decode cX7_fillIn 38 = .ok (.getfield 10, 3) := by decide +kernel
theorem dX7_fillIn_41 : decode cX7_fillIn 41 = .ok (.getfield 55, 3) := by decide +kernel
theorem dX7_fillIn_44 : decode cX7_fillIn 44 = .ok (.iload 4, 2) := by decide +kernel
theorem dX7_fillIn_46 : decode cX7_fillIn 46 = .ok (.iload_n 2, 1) := by decide +kernel
theorem dX7_fillIn_47 : decode cX7_fillIn 47 = .ok (.iload_n 3, 1) := by decide +kernel
theorem dX7_fillIn_48 : decode cX7_fillIn 48 = .ok (.invokestatic 280, 3) := by decide +kernel
theorem dX7_fillIn_51 : decode cX7_fillIn 51 = .ok (.invokevirtual 97, 3) := by decide +kernel
theorem dX7_fillIn_54 : decode cX7_fillIn 54 = .ok (.pop, 1) := by decide +kernel
theorem dX7_fillIn_55 : decode cX7_fillIn 55 = .ok (.aload_n 0, 1) := by decide +kernel
theorem dX7_fillIn_56 : decode cX7_fillIn 56 = .ok (.invokevirtual 101, 3) := by decide +kernel
theorem dX7_fillIn_59 : decode cX7_fillIn 59 = .ok (.return_, 1) := by decide +kernel
theorem dX7_tryTap_0 : decode cX7_tryTap 0 = .ok (.aload_n 0, 1) := by decide +kernel
theorem dX7_tryTap_1 : decode cX7_tryTap 1 = .ok (.getfield 33, 3) := by decide +kernel
theorem dX7_tryTap_4 : decode cX7_tryTap 4 = .ok (.aload_n 0, 1) := by decide +kernel
theorem dX7_tryTap_5 : decode cX7_tryTap 5 = .ok (.getfield 10, 3) := by decide +kernel
theorem dX7_tryTap_8 : decode cX7_tryTap 8 = .ok (.getfield 55, 3) := by decide +kernel
theorem dX7_tryTap_11 : decode cX7_tryTap 11 = .ok (.invokevirtual 292, 3) := by decide +kernel
theorem dX7_tryTap_14 : decode cX7_tryTap 14 = .ok (.aload_n 0, 1) := by decide +kernel
theorem dX7_tryTap_15 : decode cX7_tryTap 15 = .ok (.getfield 33, 3) := by decide +kernel
theorem dX7_tryTap_18 : decode cX7_tryTap 18 = .ok (.iload_n 1, 1) := by decide +kernel
theorem dX7_tryTap_19 : decode cX7_tryTap 19 = .ok (.invokevirtual 97, 3) := by decide +kernel
theorem dX7_tryTap_22 : decode cX7_tryTap 22 = .ok (.istore_n 2, 1) := by decide +kernel
theorem dX7_tryTap_23 : decode cX7_tryTap 23 = .ok (.aload_n 0, 1) := by decide +kernel
theorem dX7_tryTap_24 : decode cX7_tryTap 24 = .ok (.getfield 37, 3) := by decide +kernel
theorem dX7_tryTap_27 : decode cX7_tryTap 27 = .ok (.aload_n 0, 1) := by decide +kernel
theorem dX7_tryTap_28 : decode cX7_tryTap 28 = .ok (.getfield 33, 3) := by decide +kernel
theorem dX7_tryTap_31 : decode cX7_tryTap 31 = .ok (.aload_n 0, 1) := by decide +kernel
theorem dX7_tryTap_32 : decode cX7_tryTap 32 = .ok (.getfield 10, 3) := by decide +kernel
theorem dX7_tryTap_35 : decode cX7_tryTap 35 = .ok (.getfield 58, 3) := by decide +kernel
theorem dX7_tryTap_38 : decode cX7_tryTap 38 = .ok (.invokevirtual 61, 3) := by decide +kernel
theorem dX7_tryTap_41 : decode cX7_tryTap 41 = .ok (.iload_n 2, 1) := by decide +kernel
theorem dX7_tryTap_42 : decode cX7_tryTap 42 = .ok (.ireturn, 1) := by decide +kernel
theorem dX7_raisedChange_0 : decode cX7_raisedChange 0 = .ok (.aload_n 0, 1) := by decide +kernel
theorem dX7_raisedChange_1 : decode cX7_raisedChange 1 = .ok (.iload_n 1, 1) := by decide +kernel
theorem dX7_raisedChange_2 : decode cX7_raisedChange 2 = .ok (.invokevirtual 286, 3) := by decide +kernel
theorem dX7_raisedChange_5 : decode cX7_raisedChange 5 = .ok (.pop, 1) := by decide +kernel
theorem dX7_raisedChange_6 : decode cX7_raisedChange 6 = .ok (.iload_n 1, 1) := by decide +kernel
theorem dX7_raisedChange_7 : decode cX7_raisedChange 7 = .ok (.invokestatic 271, 3) := by decide +kernel
theorem dX7_raisedChange_10 : decode cX7_raisedChange 10 = .ok (.istore_n 2, 1) := by decide +kernel
theorem dX7_raisedChange_11 : decode cX7_raisedChange 11 = .ok (.iload_n 1, 1) := by decide +kernel
theorem dX7_raisedChange_12 : decode cX7_raisedChange 12 = .ok (.invokestatic 274, 3) := by decide +kernel
theorem dX7_raisedChange_15 : decode cX7_raisedChange 15 = .ok (.istore_n 3, 1) := by decide +kernel
theorem dX7_raisedChange_16 : decode cX7_raisedChange 16 = .ok (.aload_n 0, 1) := by decide +kernel
theorem dX7_raisedChange_17 : decode cX7_raisedChange 17 = .ok (.getfield 37, 3) := by decide +kernel
theorem dX7_raisedChange_20 : decode cX7_raisedChange 20 = .ok (.iload_n 2, 1) := by decide +kernel
theorem dX7_raisedChange_21 : decode cX7_raisedChange 21 = .ok (.iload_n 3, 1) := by decide +kernel
theorem dX7_raisedChange_22 : decode cX7_raisedChange 22 = .ok (.invokevirtual 135, 3) := by decide +kernel
theorem dX7_raisedChange_25 : decode cX7_raisedChange 25 = .ok (.aload_n 0, 1) := by decide +kernel
theorem dX7_raisedChange_26 : decode cX7_raisedChange 26 = .ok (.getfield 19, 3) := by decide +kernel
theorem dX7_raisedChange_29 : decode cX7_raisedChange 29 = .ok (.iload_n 2, 1) := by decide +kernel
theorem dX7_raisedChange_30 : decode cX7_raisedChange 30 = .ok (.iload_n 3, 1) := by decide +kernel
theorem dX7_raisedChange_31 : decode cX7_raisedChange 31 = .ok (.invokevirtual 135, 3) := by decide +kernel
theorem dX7_raisedChange_34 : decode cX7_raisedChange 34 = .ok (.isub, 1) := by decide +kernel
theorem dX7_raisedChange_35 : decode cX7_raisedChange 35 = .ok (.ldc 142, 2) := by decide +kernel
theorem dX7_raisedChange_37 : decode cX7_raisedChange 37 = .ok (.iadd, 1) := by decide +kernel
theorem dX7_raisedChange_38 : decode cX7_raisedChange 38 = .ok (.ireturn, 1) := by decide +kernel
theorem dX7_weekCell_0 : decode cX7_weekCell 0 = .ok (.iload_n 0, 1) := by decide +kernel
theorem dX7_weekCell_1 : decode cX7_weekCell 1 = .ok (.iconst 4, 1) := by decide +kernel
theorem dX7_weekCell_2 : decode cX7_weekCell 2 = .ok (.imul, 1) := by decide +kernel
theorem dX7_weekCell_3 : decode cX7_weekCell 3 = .ok (.iload_n 1, 1) := by decide +kernel
theorem dX7_weekCell_4 : decode cX7_weekCell 4 = .ok (.iadd, 1) := by decide +kernel
theorem dX7_weekCell_5 : decode cX7_weekCell 5 = .ok (.ireturn, 1) := by decide +kernel
theorem dX7_dayCell_0 : decode cX7_dayCell 0 = .ok (.iload_n 0, 1) := by decide +kernel
theorem dX7_dayCell_1 : decode cX7_dayCell 1 = .ok (.bipush 28, 2) := by decide +kernel
theorem dX7_dayCell_3 : decode cX7_dayCell 3 = .ok (.imul, 1) := by decide +kernel
theorem dX7_dayCell_4 : decode cX7_dayCell 4 = .ok (.iload_n 1, 1) := by decide +kernel
theorem dX7_dayCell_5 : decode cX7_dayCell 5 = .ok (.iadd, 1) := by decide +kernel
theorem dX7_dayCell_6 : decode cX7_dayCell 6 = .ok (.ireturn, 1) := by decide +kernel
theorem dX7_tapProperty_0 : decode cX7_tapProperty 0 = .ok (.aload_n 0, 1) := by decide +kernel
theorem dX7_tapProperty_1 : decode cX7_tapProperty 1 = .ok (.getfield 10, 3) := by decide +kernel
theorem dX7_tapProperty_4 : decode cX7_tapProperty 4 = .ok (.getfield 55, 3) := by decide +kernel
theorem dX7_tapProperty_7 : decode cX7_tapProperty 7 = .ok (.iload_n 1, 1) := by decide +kernel
theorem dX7_tapProperty_8 : decode cX7_tapProperty 8 = .ok (.invokevirtual 259, 3) := by decide +kernel
theorem dX7_tapProperty_11 : decode cX7_tapProperty 11 = .ok (.istore_n 3, 1) := by decide +kernel
theorem dX7_tapProperty_12 : decode cX7_tapProperty 12 = .ok (.iload_n 2, 1) := by decide +kernel
theorem dX7_tapProperty_13 : decode cX7_tapProperty 13 = .ok (.tableswitch 100 0 6 #[43, 48, 53, 58, 63, 76, 88], 43) := by decide +kernel
theorem dX7_tapProperty_56 : decode cX7_tapProperty 56 = .ok (.iload_n 3, 1) := by decide +kernel
theorem dX7_tapProperty_57 : decode cX7_tapProperty 57 = .ok (.invokestatic 271, 3) := by decide +kernel
theorem dX7_tapProperty_60 : decode cX7_tapProperty 60 = .ok (.ireturn, 1) := by decide +kernel
theorem dX7_tapProperty_61 : decode cX7_tapProperty 61 = .ok (.iload_n 3, 1) := by decide +kernel
theorem dX7_tapProperty_62 : decode cX7_tapProperty 62 = .ok (.invokestatic 296, 3) := by decide +kernel
theorem dX7_tapProperty_65 : decode cX7_tapProperty 65 = .ok (.ireturn, 1) := by decide +kernel
theorem dX7_tapProperty_66 : decode cX7_tapProperty 66 = .ok (.iload_n 3, 1) := by decide +kernel
theorem dX7_tapProperty_67 : decode cX7_tapProperty 67 = .ok (.invokestatic 265, 3) := by decide +kernel
theorem dX7_tapProperty_70 : decode cX7_tapProperty 70 = .ok (.ireturn, 1) := by decide +kernel
theorem dX7_tapProperty_71 : decode cX7_tapProperty 71 = .ok (.iload_n 3, 1) := by decide +kernel
theorem dX7_tapProperty_72 : decode cX7_tapProperty 72 = .ok (.invokestatic 299, 3) := by decide +kernel
theorem dX7_tapProperty_75 : decode cX7_tapProperty 75 = .ok (.ireturn, 1) := by decide +kernel
theorem dX7_tapProperty_76 : decode cX7_tapProperty 76 = .ok (.iload_n 3, 1) := by decide +kernel
theorem dX7_tapProperty_77 : decode cX7_tapProperty 77 = .ok (.invokestatic 262, 3) := by decide +kernel
theorem dX7_tapProperty_80 : decode cX7_tapProperty 80 = .ok (.ifCond .eq 7, 3) := by decide +kernel
theorem dX7_tapProperty_83 : decode cX7_tapProperty 83 = .ok (.iconst 1, 1) := by decide +kernel
theorem dX7_tapProperty_84 : decode cX7_tapProperty 84 = .ok (.goto 4, 3) := by decide +kernel
theorem dX7_tapProperty_87 : decode cX7_tapProperty 87 = .ok (.iconst 0, 1) := by decide +kernel
theorem dX7_tapProperty_88 : decode cX7_tapProperty 88 = .ok (.ireturn, 1) := by decide +kernel
theorem dX7_tapProperty_89 : decode cX7_tapProperty 89 = .ok (.aload_n 0, 1) := by decide +kernel
theorem dX7_tapProperty_90 : decode cX7_tapProperty 90 = .ok (.getfield 19, 3) := by decide +kernel
theorem dX7_tapProperty_93 : decode cX7_tapProperty 93 = .ok (.getfield 256, 3) := by decide +kernel
theorem dX7_tapProperty_96 : decode cX7_tapProperty 96 = .ok (.iload_n 1, 1) := by decide +kernel
theorem dX7_tapProperty_97 : decode cX7_tapProperty 97 = .ok (.invokestatic 148, 3) := by decide +kernel
theorem dX7_tapProperty_100 : decode cX7_tapProperty 100 = .ok (.ireturn, 1) := by decide +kernel
theorem dX7_tapProperty_101 : decode cX7_tapProperty 101 = .ok (.aload_n 0, 1) := by decide +kernel
theorem dX7_tapProperty_102 : decode cX7_tapProperty 102 = .ok (.getfield 19, 3) := by decide +kernel
theorem dX7_tapProperty_105 : decode cX7_tapProperty 105 = .ok (.getfield 302, 3) := by decide +kernel
theorem dX7_tapProperty_108 : decode cX7_tapProperty 108 = .ok (.iload_n 1, 1) := by decide +kernel
theorem dX7_tapProperty_109 : decode cX7_tapProperty 109 = .ok (.invokestatic 148, 3) := by decide +kernel
theorem dX7_tapProperty_112 : decode cX7_tapProperty 112 = .ok (.ireturn, 1) := by decide +kernel
theorem dX7_tapProperty_113 : decode cX7_tapProperty 113 = .ok (.iload_n 3, 1) := by decide +kernel
theorem dX7_tapProperty_114 : decode cX7_tapProperty 114 = .ok (.invokestatic 305, 3) := by decide +kernel
theorem dX7_tapProperty_117 : decode cX7_tapProperty 117 = .ok (.ifCond .eq 7, 3) := by decide +kernel
theorem dX7_tapProperty_120 : decode cX7_tapProperty 120 = .ok (.iconst 1, 1) := by decide +kernel
theorem dX7_tapProperty_121 : decode cX7_tapProperty 121 = .ok (.goto 4, 3) := by decide +kernel
theorem dX7_tapProperty_124 : decode cX7_tapProperty 124 = .ok (.iconst 0, 1) := by decide +kernel
theorem dX7_tapProperty_125 : decode cX7_tapProperty 125 = .ok (.ireturn, 1) := by decide +kernel
theorem dX7_dayNumber_0 : decode cX7_dayNumber 0 = .ok (.iload_n 3, 1) := by decide +kernel
theorem dX7_dayNumber_1 : decode cX7_dayNumber 1 = .ok (.tableswitch 75 0 2 #[27, 43, 59], 27) := by decide +kernel
theorem dX7_dayNumber_28 : decode cX7_dayNumber 28 = .ok (.aload_n 0, 1) := by decide +kernel
theorem dX7_dayNumber_29 : decode cX7_dayNumber 29 = .ok (.getfield 19, 3) := by decide +kernel
theorem dX7_dayNumber_32 : decode cX7_dayNumber 32 = .ok (.getfield 308, 3) := by decide +kernel
theorem dX7_dayNumber_35 : decode cX7_dayNumber 35 = .ok (.iload_n 1, 1) := by decide +kernel
theorem dX7_dayNumber_36 : decode cX7_dayNumber 36 = .ok (.iload_n 2, 1) := by decide +kernel
theorem dX7_dayNumber_37 : decode cX7_dayNumber 37 = .ok (.invokestatic 311, 3) := by decide +kernel
theorem dX7_dayNumber_40 : decode cX7_dayNumber 40 = .ok (.invokestatic 148, 3) := by decide +kernel
theorem dX7_dayNumber_43 : decode cX7_dayNumber 43 = .ok (.ireturn, 1) := by decide +kernel
theorem dX7_dayNumber_44 : decode cX7_dayNumber 44 = .ok (.aload_n 0, 1) := by decide +kernel
theorem dX7_dayNumber_45 : decode cX7_dayNumber 45 = .ok (.getfield 19, 3) := by decide +kernel
theorem dX7_dayNumber_48 : decode cX7_dayNumber 48 = .ok (.getfield 314, 3) := by decide +kernel
theorem dX7_dayNumber_51 : decode cX7_dayNumber 51 = .ok (.iload_n 1, 1) := by decide +kernel
theorem dX7_dayNumber_52 : decode cX7_dayNumber 52 = .ok (.iload_n 2, 1) := by decide +kernel
theorem dX7_dayNumber_53 : decode cX7_dayNumber 53 = .ok (.invokestatic 311, 3) := by decide +kernel
theorem dX7_dayNumber_56 : decode cX7_dayNumber 56 = .ok (.invokestatic 148, 3) := by decide +kernel
theorem dX7_dayNumber_59 : decode cX7_dayNumber 59 = .ok (.ireturn, 1) := by decide +kernel
theorem dX7_dayNumber_60 : decode cX7_dayNumber 60 = .ok (.aload_n 0, 1) := by decide +kernel
theorem dX7_dayNumber_61 : decode cX7_dayNumber 61 = .ok (.getfield 19, 3) := by decide +kernel
theorem dX7_dayNumber_64 : decode cX7_dayNumber 64 = .ok (.getfield 217, 3) := by decide +kernel
theorem dX7_dayNumber_67 : decode cX7_dayNumber 67 = .ok (.iload_n 1, 1) := by decide +kernel
theorem dX7_dayNumber_68 : decode cX7_dayNumber 68 = .ok (.iload_n 2, 1) := by decide +kernel
theorem dX7_dayNumber_69 : decode cX7_dayNumber 69 = .ok (.invokestatic 311, 3) := by decide +kernel
theorem dX7_dayNumber_72 : decode cX7_dayNumber 72 = .ok (.invokestatic 148, 3) := by decide +kernel
theorem dX7_dayNumber_75 : decode cX7_dayNumber 75 = .ok (.ireturn, 1) := by decide +kernel
theorem dX7_dayNumber_76 : decode cX7_dayNumber 76 = .ok (.aload_n 0, 1) := by decide +kernel
theorem dX7_dayNumber_77 : decode cX7_dayNumber 77 = .ok (.getfield 19, 3) := by decide +kernel
theorem dX7_dayNumber_80 : decode cX7_dayNumber 80 = .ok (.iload_n 1, 1) := by decide +kernel
theorem dX7_dayNumber_81 : decode cX7_dayNumber 81 = .ok (.iload_n 2, 1) := by decide +kernel
theorem dX7_dayNumber_82 : decode cX7_dayNumber 82 = .ok (.invokevirtual 317, 3) := by decide +kernel
theorem dX7_dayNumber_85 : decode cX7_dayNumber 85 = .ok (.ireturn, 1) := by decide +kernel
theorem dX7_weekNumber_0 : decode cX7_weekNumber 0 = .ok (.iload_n 3, 1) := by decide +kernel
theorem dX7_weekNumber_1 : decode cX7_weekNumber 1 = .ok (.tableswitch 117 0 5 #[39, 52, 65, 75, 85, 101], 39) := by decide +kernel
theorem dX7_weekNumber_40 : decode cX7_weekNumber 40 = .ok (.aload_n 0, 1) := by decide +kernel
theorem dX7_weekNumber_41 : decode cX7_weekNumber 41 = .ok (.getfield 19, 3) := by decide +kernel
theorem dX7_weekNumber_44 : decode cX7_weekNumber 44 = .ok (.getfield 308, 3) := by decide +kernel
theorem dX7_weekNumber_47 : decode cX7_weekNumber 47 = .ok (.iload_n 1, 1) := by decide +kernel
theorem dX7_weekNumber_48 : decode cX7_weekNumber 48 = .ok (.iload_n 2, 1) := by decide +kernel
theorem dX7_weekNumber_49 : decode cX7_weekNumber 49 = .ok (.invokestatic 320, 3) := by decide +kernel
theorem dX7_weekNumber_52 : decode cX7_weekNumber 52 = .ok (.ireturn, 1) := by decide +kernel
theorem dX7_weekNumber_53 : decode cX7_weekNumber 53 = .ok (.aload_n 0, 1) := by decide +kernel
theorem dX7_weekNumber_54 : decode cX7_weekNumber 54 = .ok (.getfield 19, 3) := by decide +kernel
theorem dX7_weekNumber_57 : decode cX7_weekNumber 57 = .ok (.getfield 217, 3) := by decide +kernel
theorem dX7_weekNumber_60 : decode cX7_weekNumber 60 = .ok (.iload_n 1, 1) := by decide +kernel
theorem dX7_weekNumber_61 : decode cX7_weekNumber 61 = .ok (.iload_n 2, 1) := by decide +kernel
theorem dX7_weekNumber_62 : decode cX7_weekNumber 62 = .ok (.invokestatic 320, 3) := by decide +kernel
theorem dX7_weekNumber_65 : decode cX7_weekNumber 65 = .ok (.ireturn, 1) := by decide +kernel
theorem dX7_weekNumber_66 : decode cX7_weekNumber 66 = .ok (.aload_n 0, 1) := by decide +kernel
theorem dX7_weekNumber_67 : decode cX7_weekNumber 67 = .ok (.getfield 19, 3) := by decide +kernel
theorem dX7_weekNumber_70 : decode cX7_weekNumber 70 = .ok (.iload_n 1, 1) := by decide +kernel
theorem dX7_weekNumber_71 : decode cX7_weekNumber 71 = .ok (.iload_n 2, 1) := by decide +kernel
theorem dX7_weekNumber_72 : decode cX7_weekNumber 72 = .ok (.invokevirtual 324, 3) := by decide +kernel
theorem dX7_weekNumber_75 : decode cX7_weekNumber 75 = .ok (.ireturn, 1) := by decide +kernel
theorem dX7_weekNumber_76 : decode cX7_weekNumber 76 = .ok (.aload_n 0, 1) := by decide +kernel
theorem dX7_weekNumber_77 : decode cX7_weekNumber 77 = .ok (.getfield 19, 3) := by decide +kernel
theorem dX7_weekNumber_80 : decode cX7_weekNumber 80 = .ok (.iload_n 1, 1) := by decide +kernel
theorem dX7_weekNumber_81 : decode cX7_weekNumber 81 = .ok (.iload_n 2, 1) := by decide +kernel
theorem dX7_weekNumber_82 : decode cX7_weekNumber 82 = .ok (.invokevirtual 135, 3) := by decide +kernel
theorem dX7_weekNumber_85 : decode cX7_weekNumber 85 = .ok (.ireturn, 1) := by decide +kernel
theorem dX7_weekNumber_86 : decode cX7_weekNumber 86 = .ok (.aload_n 0, 1) := by decide +kernel
theorem dX7_weekNumber_87 : decode cX7_weekNumber 87 = .ok (.getfield 10, 3) := by decide +kernel
theorem dX7_weekNumber_90 : decode cX7_weekNumber 90 = .ok (.getfield 327, 3) := by decide +kernel
theorem dX7_weekNumber_93 : decode cX7_weekNumber 93 = .ok (.iload_n 1, 1) := by decide +kernel
theorem dX7_weekNumber_94 : decode cX7_weekNumber 94 = .ok (.iload_n 2, 1) := by decide +kernel
theorem dX7_weekNumber_95 : decode cX7_weekNumber 95 = .ok (.invokestatic 277, 3) := by decide +kernel
theorem dX7_weekNumber_98 : decode cX7_weekNumber 98 = .ok (.invokestatic 148, 3) := by decide +kernel
theorem dX7_weekNumber_101 : decode cX7_weekNumber 101 = .ok (.ireturn, 1) := by decide +kernel
theorem dX7_weekNumber_102 : decode cX7_weekNumber 102 = .ok (.aload_n 0, 1) := by decide +kernel
theorem dX7_weekNumber_103 : decode cX7_weekNumber 103 = .ok (.getfield 10, 3) := by decide +kernel
theorem dX7_weekNumber_106 : decode cX7_weekNumber 106 = .ok (.getfield 268, 3) := by decide +kernel
theorem dX7_weekNumber_109 : decode cX7_weekNumber 109 = .ok (.iload_n 1, 1) := by decide +kernel
theorem dX7_weekNumber_110 : decode cX7_weekNumber 110 = .ok (.iload_n 2, 1) := by decide +kernel
theorem dX7_weekNumber_111 : decode cX7_weekNumber 111 = .ok (.invokestatic 277, 3) := by decide +kernel
theorem dX7_weekNumber_114 : decode cX7_weekNumber 114 = .ok (.invokestatic 148, 3) := by decide +kernel
theorem dX7_weekNumber_117 : decode cX7_weekNumber 117 = .ok (.ireturn, 1) := by decide +kernel
theorem dX7_weekNumber_118 : decode cX7_weekNumber 118 = .ok (.aload_n 0, 1) := by decide +kernel
theorem dX7_weekNumber_119 : decode cX7_weekNumber 119 = .ok (.getfield 10, 3) := by decide +kernel
theorem dX7_weekNumber_122 : decode cX7_weekNumber 122 = .ok (.getfield 330, 3) := by decide +kernel
theorem dX7_weekNumber_125 : decode cX7_weekNumber 125 = .ok (.iload_n 1, 1) := by decide +kernel
theorem dX7_weekNumber_126 : decode cX7_weekNumber 126 = .ok (.iload_n 2, 1) := by decide +kernel
theorem dX7_weekNumber_127 : decode cX7_weekNumber 127 = .ok (.invokestatic 277, 3) := by decide +kernel
theorem dX7_weekNumber_130 : decode cX7_weekNumber 130 = .ok (.invokestatic 148, 3) := by decide +kernel
theorem dX7_weekNumber_133 : decode cX7_weekNumber 133 = .ok (.ireturn, 1) := by decide +kernel
theorem dX7_countNumber_0 : decode cX7_countNumber 0 = .ok (.iload_n 1, 1) := by decide +kernel
theorem dX7_countNumber_1 : decode cX7_countNumber 1 = .ok (.tableswitch 129 0 8 #[51, 62, 73, 84, 89, 100, 108, 116, 124], 51) := by decide +kernel
theorem dX7_countNumber_52 : decode cX7_countNumber 52 = .ok (.aload_n 0, 1) := by decide +kernel
theorem dX7_countNumber_53 : decode cX7_countNumber 53 = .ok (.getfield 10, 3) := by decide +kernel
theorem dX7_countNumber_56 : decode cX7_countNumber 56 = .ok (.getfield 55, 3) := by decide +kernel
theorem dX7_countNumber_59 : decode cX7_countNumber 59 = .ok (.getfield 79, 3) := by decide +kernel
theorem dX7_countNumber_62 : decode cX7_countNumber 62 = .ok (.ireturn, 1) := by decide +kernel
theorem dX7_countNumber_63 : decode cX7_countNumber 63 = .ok (.aload_n 0, 1) := by decide +kernel
theorem dX7_countNumber_64 : decode cX7_countNumber 64 = .ok (.getfield 19, 3) := by decide +kernel
theorem dX7_countNumber_67 : decode cX7_countNumber 67 = .ok (.getfield 308, 3) := by decide +kernel
theorem dX7_countNumber_70 : decode cX7_countNumber 70 = .ok (.invokestatic 220, 3) := by decide +kernel
theorem dX7_countNumber_73 : decode cX7_countNumber 73 = .ok (.ireturn, 1) := by decide +kernel
theorem dX7_countNumber_74 : decode cX7_countNumber 74 = .ok (.aload_n 0, 1) := by decide +kernel
theorem dX7_countNumber_75 : decode cX7_countNumber 75 = .ok (.getfield 19, 3) := by decide +kernel
theorem dX7_countNumber_78 : decode cX7_countNumber 78 = .ok (.getfield 314, 3) := by decide +kernel
theorem dX7_countNumber_81 : decode cX7_countNumber 81 = .ok (.invokestatic 220, 3) := by decide +kernel
theorem dX7_countNumber_84 : decode cX7_countNumber 84 = .ok (.ireturn, 1) := by decide +kernel
theorem dX7_countNumber_85 : decode cX7_countNumber 85 = .ok (.aload_n 0, 1) := by decide +kernel
theorem dX7_countNumber_86 : decode cX7_countNumber 86 = .ok (.invokevirtual 224, 3) := by decide +kernel
theorem dX7_countNumber_89 : decode cX7_countNumber 89 = .ok (.ireturn, 1) := by decide +kernel
theorem dX7_countNumber_90 : decode cX7_countNumber 90 = .ok (.aload_n 0, 1) := by decide +kernel
theorem dX7_countNumber_91 : decode cX7_countNumber 91 = .ok (.getfield 10, 3) := by decide +kernel
theorem dX7_countNumber_94 : decode cX7_countNumber 94 = .ok (.getfield 327, 3) := by decide +kernel
theorem dX7_countNumber_97 : decode cX7_countNumber 97 = .ok (.invokestatic 220, 3) := by decide +kernel
theorem dX7_countNumber_100 : decode cX7_countNumber 100 = .ok (.ireturn, 1) := by decide +kernel
theorem dX7_countNumber_101 : decode cX7_countNumber 101 = .ok (.aload_n 0, 1) := by decide +kernel
theorem dX7_countNumber_102 : decode cX7_countNumber 102 = .ok (.getfield 10, 3) := by decide +kernel
theorem dX7_countNumber_105 : decode cX7_countNumber 105 = .ok (.getfield 333, 3) := by decide +kernel
theorem dX7_countNumber_108 : decode cX7_countNumber 108 = .ok (.ireturn, 1) := by decide +kernel
theorem dX7_countNumber_109 : decode cX7_countNumber 109 = .ok (.aload_n 0, 1) := by decide +kernel
theorem dX7_countNumber_110 : decode cX7_countNumber 110 = .ok (.getfield 10, 3) := by decide +kernel
theorem dX7_countNumber_113 : decode cX7_countNumber 113 = .ok (.getfield 336, 3) := by decide +kernel
theorem dX7_countNumber_116 : decode cX7_countNumber 116 = .ok (.ireturn, 1) := by decide +kernel
theorem dX7_countNumber_117 : decode cX7_countNumber 117 = .ok (.aload_n 0, 1) := by decide +kernel
theorem dX7_countNumber_118 : decode cX7_countNumber 118 = .ok (.getfield 10, 3) := by decide +kernel
theorem dX7_countNumber_121 : decode cX7_countNumber 121 = .ok (.getfield 127, 3) := by decide +kernel
theorem dX7_countNumber_124 : decode cX7_countNumber 124 = .ok (.ireturn, 1) := by decide +kernel
theorem dX7_countNumber_125 : decode cX7_countNumber 125 = .ok (.aload_n 0, 1) := by decide +kernel
theorem dX7_countNumber_126 : decode cX7_countNumber 126 = .ok (.invokevirtual 339, 3) := by decide +kernel
theorem dX7_countNumber_129 : decode cX7_countNumber 129 = .ok (.ireturn, 1) := by decide +kernel
theorem dX7_countNumber_130 : decode cX7_countNumber 130 = .ok (.aload_n 0, 1) := by decide +kernel
theorem dX7_countNumber_131 : decode cX7_countNumber 131 = .ok (.getfield 26, 3) := by decide +kernel
theorem dX7_countNumber_134 : decode cX7_countNumber 134 = .ok (.getfield 181, 3) := by decide +kernel
theorem dX7_countNumber_137 : decode cX7_countNumber 137 = .ok (.ireturn, 1) := by decide +kernel
theorem dX7_costOfAll_0 : decode cX7_costOfAll 0 = .ok (.iconst 0, 1) := by decide +kernel
theorem dX7_costOfAll_1 : decode cX7_costOfAll 1 = .ok (.istore_n 1, 1) := by decide +kernel
theorem dX7_costOfAll_2 : decode cX7_costOfAll 2 = .ok (.iconst 0, 1) := by decide +kernel
theorem dX7_costOfAll_3 : decode cX7_costOfAll 3 = .ok (.istore_n 2, 1) := by decide +kernel
theorem dX7_costOfAll_4 : decode cX7_costOfAll 4 = .ok (.iload_n 2, 1) := by decide +kernel
theorem dX7_costOfAll_5 : decode cX7_costOfAll 5 = .ok (.iconst 4, 1) := by decide +kernel
theorem dX7_costOfAll_6 : decode cX7_costOfAll 6 = .ok (.if_icmp .ge 34, 3) := by decide +kernel
theorem dX7_costOfAll_9 : decode cX7_costOfAll 9 = .ok (.iconst 0, 1) := by decide +kernel
theorem dX7_costOfAll_10 : decode cX7_costOfAll 10 = .ok (.istore_n 3, 1) := by decide +kernel
theorem dX7_costOfAll_11 : decode cX7_costOfAll 11 = .ok (.iload_n 3, 1) := by decide +kernel
theorem dX7_costOfAll_12 : decode cX7_costOfAll 12 = .ok (.iconst 4, 1) := by decide +kernel
theorem dX7_costOfAll_13 : decode cX7_costOfAll 13 = .ok (.if_icmp .ge 21, 3) := by decide +kernel
theorem dX7_costOfAll_16 : decode cX7_costOfAll 16 = .ok (.iload_n 1, 1) := by decide +kernel
theorem dX7_costOfAll_17 : decode cX7_costOfAll 17 = .ok (.aload_n 0, 1) := by decide +kernel
theorem dX7_costOfAll_18 : decode cX7_costOfAll 18 = .ok (.getfield 19, 3) := by decide +kernel
theorem dX7_costOfAll_21 : decode cX7_costOfAll 21 = .ok (.iload_n 2, 1) := by decide +kernel
theorem dX7_costOfAll_22 : decode cX7_costOfAll 22 = .ok (.iload_n 3, 1) := by decide +kernel
theorem dX7_costOfAll_23 : decode cX7_costOfAll 23 = .ok (.invokevirtual 135, 3) := by decide +kernel
theorem dX7_costOfAll_26 : decode cX7_costOfAll 26 = .ok (.iadd, 1) := by decide +kernel
theorem dX7_costOfAll_27 : decode cX7_costOfAll 27 = .ok (.istore_n 1, 1) := by decide +kernel
theorem dX7_costOfAll_28 : decode cX7_costOfAll 28 = .ok (.iinc 3 1, 3) := by decide +kernel
theorem dX7_costOfAll_31 : decode cX7_costOfAll 31 = .ok (.goto (-20), 3) := by decide +kernel
theorem dX7_costOfAll_34 : decode cX7_costOfAll 34 = .ok (.iinc 2 1, 3) := by decide +kernel
theorem dX7_costOfAll_37 : decode cX7_costOfAll 37 = .ok (.goto (-33), 3) := by decide +kernel
theorem dX7_costOfAll_40 : decode cX7_costOfAll 40 = .ok (.iload_n 1, 1) := by decide +kernel
theorem dX7_costOfAll_41 : decode cX7_costOfAll 41 = .ok (.ireturn, 1) := by decide +kernel
theorem dX7_weeksToSettleAnew_0 : decode cX7_weeksToSettleAnew 0 = .ok (.iconst 0, 1) := by decide +kernel
theorem dX7_weeksToSettleAnew_1 : decode cX7_weeksToSettleAnew 1 = .ok (.istore_n 1, 1) := by decide +kernel
theorem dX7_weeksToSettleAnew_2 : decode cX7_weeksToSettleAnew 2 = .ok (.iconst 0, 1) := by decide +kernel
theorem dX7_weeksToSettleAnew_3 : decode cX7_weeksToSettleAnew 3 = .ok (.istore_n 2, 1) := by decide +kernel
theorem dX7_weeksToSettleAnew_4 : decode cX7_weeksToSettleAnew 4 = .ok (.iload_n 2, 1) := by decide +kernel
theorem dX7_weeksToSettleAnew_5 : decode cX7_weeksToSettleAnew 5 = .ok (.iconst 4, 1) := by decide +kernel
theorem dX7_weeksToSettleAnew_6 : decode cX7_weeksToSettleAnew 6 = .ok (.if_icmp .ge 83, 3) := by decide +kernel
theorem dX7_weeksToSettleAnew_9 : decode cX7_weeksToSettleAnew 9 = .ok (.iconst 0, 1) := by decide +kernel
theorem dX7_weeksToSettleAnew_10 : decode cX7_weeksToSettleAnew 10 = .ok (.istore_n 3, 1) := by decide +kernel
theorem dX7_weeksToSettleAnew_11 : decode cX7_weeksToSettleAnew 11 = .ok (.iload_n 3, 1) := by decide +kernel
theorem dX7_weeksToSettleAnew_12 : decode cX7_weeksToSettleAnew 12 = .ok (.iconst 4, 1) := by decide +kernel
theorem dX7_weeksToSettleAnew_13 : decode cX7_weeksToSettleAnew 13 = .ok (.if_icmp .ge 70, 3) := by decide +kernel
theorem dX7_weeksToSettleAnew_16 : decode cX7_weeksToSettleAnew 16 = .ok (.iload_n 2, 1) := by decide +kernel
theorem dX7_weeksToSettleAnew_17 : decode cX7_weeksToSettleAnew 17 = .ok (.iload_n 3, 1) := by decide +kernel
theorem dX7_weeksToSettleAnew_18 : decode cX7_weeksToSettleAnew 18 = .ok (.invokestatic 277, 3) := by decide +kernel
theorem dX7_weeksToSettleAnew_21 : decode cX7_weeksToSettleAnew 21 = .ok (.istore 4, 2) := by decide +kernel
theorem dX7_weeksToSettleAnew_23 : decode cX7_weeksToSettleAnew 23 = .ok (.aload_n 0, 1) := by decide +kernel
theorem dX7_weeksToSettleAnew_24 : decode cX7_weeksToSettleAnew 24 = .ok (.getfield 10, 3) := by decide +kernel
theorem dX7_weeksToSettleAnew_27 : decode cX7_weeksToSettleAnew 27 = .ok (.getfield 330, 3) := by decide +kernel
theorem dX7_weeksToSettleAnew_30 : decode cX7_weeksToSettleAnew 30 = .ok (.iload 4, 2) := by decide +kernel
theorem dX7_weeksToSettleAnew_32 : decode cX7_weeksToSettleAnew 32 = .ok (.invokestatic 148, 3) := by decide +kernel
theorem dX7_weeksToSettleAnew_35 : decode cX7_weeksToSettleAnew 35 = .ok (.ifCond .le 7, 3) := by decide +kernel
theorem dX7_weeksToSettleAnew_38 : decode cX7_weeksToSettleAnew 38 = .ok (.iconst 1, 1) := by decide +kernel
theorem dX7_weeksToSettleAnew_39 : decode cX7_weeksToSettleAnew 39 = .ok (.goto 4, 3) := by decide +kernel
theorem dX7_weeksToSettleAnew_42 : decode cX7_weeksToSettleAnew 42 = .ok (.iconst 0, 1) := by decide +kernel
theorem dX7_weeksToSettleAnew_43 : decode cX7_weeksToSettleAnew 43 = .ok (.istore 5, 2) := by decide +kernel
theorem dX7_weeksToSettleAnew_45 : decode cX7_weeksToSettleAnew 45 = .ok (.iload 5, 2) := by decide +kernel
theorem dX7_weeksToSettleAnew_47 : decode cX7_weeksToSettleAnew 47 = .ok (.ifCond .eq 30, 3) := by decide +kernel
theorem dX7_weeksToSettleAnew_50 : decode cX7_weeksToSettleAnew 50 = .ok (.aload_n 0, 1) := by decide +kernel
theorem dX7_weeksToSettleAnew_51 : decode cX7_weeksToSettleAnew 51 = .ok (.getfield 10, 3) := by decide +kernel
theorem dX7_weeksToSettleAnew_54 : decode cX7_weeksToSettleAnew 54 = .ok (.getfield 327, 3) := by decide +kernel
theorem dX7_weeksToSettleAnew_57 : decode cX7_weeksToSettleAnew 57 = .ok (.iload 4, 2) := by decide +kernel
theorem dX7_weeksToSettleAnew_59 : decode cX7_weeksToSettleAnew 59 = .ok (.invokestatic 148, 3) := by decide +kernel
theorem dX7_weeksToSettleAnew_62 : decode cX7_weeksToSettleAnew 62 = .ok (.aload_n 0, 1) := by decide +kernel
theorem dX7_weeksToSettleAnew_63 : decode cX7_weeksToSettleAnew 63 = .ok (.getfield 19, 3) := by decide +kernel
theorem dX7_weeksToSettleAnew_66 : decode cX7_weeksToSettleAnew 66 = .ok (.iload_n 2, 1) := by decide +kernel
theorem dX7_weeksToSettleAnew_67 : decode cX7_weeksToSettleAnew 67 = .ok (.iload_n 3, 1) := by decide +kernel
theorem dX7_weeksToSettleAnew_68 : decode cX7_weeksToSettleAnew 68 = .ok (.invokevirtual 135, 3) := by decide +kernel
theorem dX7_weeksToSettleAnew_71 : decode cX7_weeksToSettleAnew 71 = .ok (.if_icmp .eq 6, 3) := by decide +kernel
theorem dX7_weeksToSettleAnew_74 : decode cX7_weeksToSettleAnew 74 = .ok (.iinc 1 1, 3) := by decide +kernel
theorem dX7_weeksToSettleAnew_77 : decode cX7_weeksToSettleAnew 77 = .ok (.iinc 3 1, 3) := by decide +kernel
theorem dX7_weeksToSettleAnew_80 : decode cX7_weeksToSettleAnew 80 = .ok (.goto (-69), 3) := by decide +kernel
theorem dX7_weeksToSettleAnew_83 : decode cX7_weeksToSettleAnew 83 = .ok (.iinc 2 1, 3) := by decide +kernel
theorem dX7_weeksToSettleAnew_86 : decode cX7_weeksToSettleAnew 86 = .ok (.goto (-82), 3) := by decide +kernel
theorem dX7_weeksToSettleAnew_89 : decode cX7_weeksToSettleAnew 89 = .ok (.iload_n 1, 1) := by decide +kernel
theorem dX7_weeksToSettleAnew_90 : decode cX7_weeksToSettleAnew 90 = .ok (.ireturn, 1) := by decide +kernel
theorem dX7_mixed_0 : decode cX7_mixed 0 = .ok (.ldc2_w 342, 3) := by decide +kernel
theorem dX7_mixed_3 : decode cX7_mixed 3 = .ok (.lload_n 0, 1) := by decide +kernel
theorem dX7_mixed_4 : decode cX7_mixed 4 = .ok (.lmul, 1) := by decide +kernel
theorem dX7_mixed_5 : decode cX7_mixed 5 = .ok (.lload_n 2, 1) := by decide +kernel
theorem dX7_mixed_6 : decode cX7_mixed 6 = .ok (.ladd, 1) := by decide +kernel
theorem dX7_mixed_7 : decode cX7_mixed 7 = .ok (.lreturn, 1) := by decide +kernel
theorem dX7_mixedWallet_0 : decode cX7_mixedWallet 0 = .ok (.lload_n 1, 1) := by decide +kernel
theorem dX7_mixedWallet_1 : decode cX7_mixedWallet 1 = .ok (.lstore 4, 2) := by decide +kernel
theorem dX7_mixedWallet_3 : decode cX7_mixedWallet 3 = .ok (.getstatic 344, 3) := by decide +kernel
theorem dX7_mixedWallet_6 : decode cX7_mixedWallet 6 = .ok (.astore 6, 2) := by decide +kernel
theorem dX7_mixedWallet_8 : decode cX7_mixedWallet 8 = .ok (.aload 6, 2) := by decide +kernel
theorem dX7_mixedWallet_10 : decode cX7_mixedWallet 10 = .ok (.arraylength, 1) := by decide +kernel
theorem dX7_mixedWallet_11 : decode cX7_mixedWallet 11 = .ok (.istore 7, 2) := by decide +kernel
theorem dX7_mixedWallet_13 : decode cX7_mixedWallet 13 = .ok (.iconst 0, 1) := by decide +kernel
theorem dX7_mixedWallet_14 : decode cX7_mixedWallet 14 = .ok (.istore 8, 2) := by decide +kernel
theorem dX7_mixedWallet_16 : decode cX7_mixedWallet 16 = .ok (.iload 8, 2) := by decide +kernel
theorem dX7_mixedWallet_18 : decode cX7_mixedWallet 18 = .ok (.iload 7, 2) := by decide +kernel
theorem dX7_mixedWallet_20 : decode cX7_mixedWallet 20 = .ok (.if_icmp .ge 48, 3) := by decide +kernel
theorem dX7_mixedWallet_23 : decode cX7_mixedWallet 23 = .ok (.aload 6, 2) := by decide +kernel
theorem dX7_mixedWallet_25 : decode cX7_mixedWallet 25 = .ok (.iload 8, 2) := by decide +kernel
theorem dX7_mixedWallet_27 : decode cX7_mixedWallet 27 = .ok (.iaload, 1) := by decide +kernel
theorem dX7_mixedWallet_28 : decode cX7_mixedWallet 28 = .ok (.istore 9, 2) := by decide +kernel
theorem dX7_mixedWallet_30 : decode cX7_mixedWallet 30 = .ok (.iconst 0, 1) := by decide +kernel
theorem dX7_mixedWallet_31 : decode cX7_mixedWallet 31 = .ok (.istore 10, 2) := by decide +kernel
theorem dX7_mixedWallet_33 : decode cX7_mixedWallet 33 = .ok (.iload 10, 2) := by decide +kernel
theorem dX7_mixedWallet_35 : decode cX7_mixedWallet 35 = .ok (.iconst 4, 1) := by decide +kernel
theorem dX7_mixedWallet_36 : decode cX7_mixedWallet 36 = .ok (.if_icmp .ge 26, 3) := by decide +kernel
theorem dX7_mixedWallet_39 : decode cX7_mixedWallet 39 = .ok (.lload 4, 2) := by decide +kernel
theorem dX7_mixedWallet_41 : decode cX7_mixedWallet 41 = .ok (.aload_n 0, 1) := by decide +kernel
theorem dX7_mixedWallet_42 : decode cX7_mixedWallet 42 = .ok (.iload_n 3, 1) := by decide +kernel
theorem dX7_mixedWallet_43 : decode cX7_mixedWallet 43 = .ok (.iload 9, 2) := by decide +kernel
theorem dX7_mixedWallet_45 : decode cX7_mixedWallet 45 = .ok (.iload 10, 2) := by decide +kernel
theorem dX7_mixedWallet_47 : decode cX7_mixedWallet 47 = .ok (.invokevirtual 192, 3) := by decide +kernel
theorem dX7_mixedWallet_50 : decode cX7_mixedWallet 50 = .ok (.i2l, 1) := by decide +kernel
theorem dX7_mixedWallet_51 : decode cX7_mixedWallet 51 = .ok (.invokestatic 230, 3) := by decide +kernel
theorem dX7_mixedWallet_54 : decode cX7_mixedWallet 54 = .ok (.lstore 4, 2) := by decide +kernel
theorem dX7_mixedWallet_56 : decode cX7_mixedWallet 56 = .ok (.iinc 10 1, 3) := by decide +kernel
theorem dX7_mixedWallet_59 : decode cX7_mixedWallet 59 = .ok (.goto (-26), 3) := by decide +kernel
theorem dX7_mixedWallet_62 : decode cX7_mixedWallet 62 = .ok (.iinc 8 1, 3) := by decide +kernel
theorem dX7_mixedWallet_65 : decode cX7_mixedWallet 65 = .ok (.goto (-49), 3) := by decide +kernel
theorem dX7_mixedWallet_68 : decode cX7_mixedWallet 68 = .ok (.iconst 0, 1) := by decide +kernel
theorem dX7_mixedWallet_69 : decode cX7_mixedWallet 69 = .ok (.istore 6, 2) := by decide +kernel
theorem dX7_mixedWallet_71 : decode cX7_mixedWallet 71 = .ok (.iload 6, 2) := by decide +kernel
theorem dX7_mixedWallet_73 : decode cX7_mixedWallet 73 = .ok (.iconst 4, 1) := by decide +kernel
theorem dX7_mixedWallet_74 : decode cX7_mixedWallet 74 = .ok (.if_icmp .ge 42, 3) := by decide +kernel
theorem dX7_mixedWallet_77 : decode cX7_mixedWallet 77 = .ok (.iconst 0, 1) := by decide +kernel
theorem dX7_mixedWallet_78 : decode cX7_mixedWallet 78 = .ok (.istore 7, 2) := by decide +kernel
theorem dX7_mixedWallet_80 : decode cX7_mixedWallet 80 = .ok (.iload 7, 2) := by decide +kernel
theorem dX7_mixedWallet_82 : decode cX7_mixedWallet 82 = .ok (.bipush 7, 2) := by decide +kernel
theorem dX7_mixedWallet_84 : decode cX7_mixedWallet 84 = .ok (.if_icmp .ge 26, 3) := by decide +kernel
theorem dX7_mixedWallet_87 : decode cX7_mixedWallet 87 = .ok (.lload 4, 2) := by decide +kernel
theorem dX7_mixedWallet_89 : decode cX7_mixedWallet 89 = .ok (.aload_n 0, 1) := by decide +kernel
theorem dX7_mixedWallet_90 : decode cX7_mixedWallet 90 = .ok (.iload_n 3, 1) := by decide +kernel
theorem dX7_mixedWallet_91 : decode cX7_mixedWallet 91 = .ok (.iload 6, 2) := by decide +kernel
theorem dX7_mixedWallet_93 : decode cX7_mixedWallet 93 = .ok (.iload 7, 2) := by decide +kernel
theorem dX7_mixedWallet_95 : decode cX7_mixedWallet 95 = .ok (.invokevirtual 195, 3) := by decide +kernel
theorem dX7_mixedWallet_98 : decode cX7_mixedWallet 98 = .ok (.i2l, 1) := by decide +kernel
theorem dX7_mixedWallet_99 : decode cX7_mixedWallet 99 = .ok (.invokestatic 230, 3) := by decide +kernel
theorem dX7_mixedWallet_102 : decode cX7_mixedWallet 102 = .ok (.lstore 4, 2) := by decide +kernel
theorem dX7_mixedWallet_104 : decode cX7_mixedWallet 104 = .ok (.iinc 7 1, 3) := by decide +kernel
theorem dX7_mixedWallet_107 : decode cX7_mixedWallet 107 = .ok (.goto (-27), 3) := by decide +kernel
theorem dX7_mixedWallet_110 : decode cX7_mixedWallet 110 = .ok (.iinc 6 1, 3) := by decide +kernel
theorem dX7_mixedWallet_113 : decode cX7_mixedWallet 113 = .ok (.goto (-42), 3) := by decide +kernel
theorem dX7_mixedWallet_116 : decode cX7_mixedWallet 116 = .ok (.iconst 0, 1) := by decide +kernel
theorem dX7_mixedWallet_117 : decode cX7_mixedWallet 117 = .ok (.istore 6, 2) := by decide +kernel
theorem dX7_mixedWallet_119 : decode cX7_mixedWallet 119 = .ok (.iload 6, 2) := by decide +kernel
theorem dX7_mixedWallet_121 : decode cX7_mixedWallet 121 = .ok (.bipush 8, 2) := by decide +kernel
theorem dX7_mixedWallet_123 : decode cX7_mixedWallet 123 = .ok (.if_icmp .ge 44, 3) := by decide +kernel
theorem dX7_mixedWallet_126 : decode cX7_mixedWallet 126 = .ok (.iconst 0, 1) := by decide +kernel
theorem dX7_mixedWallet_127 : decode cX7_mixedWallet 127 = .ok (.istore 7, 2) := by decide +kernel
theorem dX7_mixedWallet_129 : decode cX7_mixedWallet 129 = .ok (.iload 7, 2) := by decide +kernel
theorem dX7_mixedWallet_131 : decode cX7_mixedWallet 131 = .ok (.iconst 2, 1) := by decide +kernel
theorem dX7_mixedWallet_132 : decode cX7_mixedWallet 132 = .ok (.if_icmp .ge 29, 3) := by decide +kernel
theorem dX7_mixedWallet_135 : decode cX7_mixedWallet 135 = .ok (.lload 4, 2) := by decide +kernel
theorem dX7_mixedWallet_137 : decode cX7_mixedWallet 137 = .ok (.aload_n 0, 1) := by decide +kernel
theorem dX7_mixedWallet_138 : decode cX7_mixedWallet 138 = .ok (.getfield 10, 3) := by decide +kernel
theorem dX7_mixedWallet_141 : decode cX7_mixedWallet 141 = .ok (.iload_n 3, 1) := by decide +kernel
theorem dX7_mixedWallet_142 : decode cX7_mixedWallet 142 = .ok (.iload 6, 2) := by decide +kernel
theorem dX7_mixedWallet_144 : decode cX7_mixedWallet 144 = .ok (.iload 7, 2) := by decide +kernel
theorem dX7_mixedWallet_146 : decode cX7_mixedWallet 146 = .ok (.invokevirtual 203, 3) := by decide +kernel
theorem dX7_mixedWallet_149 : decode cX7_mixedWallet 149 = .ok (.i2l, 1) := by decide +kernel
theorem dX7_mixedWallet_150 : decode cX7_mixedWallet 150 = .ok (.invokestatic 230, 3) := by decide +kernel
theorem dX7_mixedWallet_153 : decode cX7_mixedWallet 153 = .ok (.lstore 4, 2) := by decide +kernel
theorem dX7_mixedWallet_155 : decode cX7_mixedWallet 155 = .ok (.iinc 7 1, 3) := by decide +kernel
theorem dX7_mixedWallet_158 : decode cX7_mixedWallet 158 = .ok (.goto (-29), 3) := by decide +kernel
theorem dX7_mixedWallet_161 : decode cX7_mixedWallet 161 = .ok (.iinc 6 1, 3) := by decide +kernel
theorem dX7_mixedWallet_164 : decode cX7_mixedWallet 164 = .ok (.goto (-45), 3) := by decide +kernel
theorem dX7_mixedWallet_167 : decode cX7_mixedWallet 167 = .ok (.lload 4, 2) := by decide +kernel
theorem dX7_mixedWallet_169 : decode cX7_mixedWallet 169 = .ok (.lreturn, 1) := by decide +kernel
theorem dX7_bitsOfShare_0 : decode cX7_bitsOfShare 0 = .ok (.dload_n 0, 1) := by decide +kernel
theorem dX7_bitsOfShare_1 : decode cX7_bitsOfShare 1 = .ok (.dconst 0, 1) := by decide +kernel
theorem dX7_bitsOfShare_2 : decode cX7_bitsOfShare 2 = .ok (.dcmp .l, 1) := by decide +kernel
theorem dX7_bitsOfShare_3 : decode cX7_bitsOfShare 3 = .ok (.ifCond .gt 5, 3) := by decide +kernel
theorem dX7_bitsOfShare_6 : decode cX7_bitsOfShare 6 = .ok (.lconst 0, 1) := by decide +kernel
theorem dX7_bitsOfShare_7 : decode cX7_bitsOfShare 7 = .ok (.lreturn, 1) := by decide +kernel
theorem dX7_bitsOfShare_8 : decode cX7_bitsOfShare 8 = .ok (.dload_n 0, 1) := by decide +kernel
theorem dX7_bitsOfShare_9 : decode cX7_bitsOfShare 9 = .ok (.dstore_n 2, 1) := by decide +kernel
theorem dX7_bitsOfShare_10 : decode cX7_bitsOfShare 10 = .ok (.ldc2_w 347, 3) := by decide +kernel
theorem dX7_bitsOfShare_13 : decode cX7_bitsOfShare 13 = .ok (.lstore 4, 2) := by decide +kernel
theorem dX7_bitsOfShare_15 : decode cX7_bitsOfShare 15 = .ok (.iconst 0, 1) := by decide +kernel
theorem dX7_bitsOfShare_16 : decode cX7_bitsOfShare 16 = .ok (.istore 6, 2) := by decide +kernel
theorem dX7_bitsOfShare_18 : decode cX7_bitsOfShare 18 = .ok (.iload 6, 2) := by decide +kernel
theorem dX7_bitsOfShare_20 : decode cX7_bitsOfShare 20 = .ok (.bipush 64, 2) := by decide +kernel
theorem dX7_bitsOfShare_22 : decode cX7_bitsOfShare 22 = .ok (.if_icmp .ge 27, 3) := by decide +kernel
theorem dX7_bitsOfShare_25 : decode cX7_bitsOfShare 25 = .ok (.dload_n 2, 1) := by decide +kernel
theorem dX7_bitsOfShare_26 : decode cX7_bitsOfShare 26 = .ok (.dconst 1, 1) := by decide +kernel
theorem dX7_bitsOfShare_27 : decode cX7_bitsOfShare 27 = .ok (.dcmp .g, 1) := by decide +kernel
theorem dX7_bitsOfShare_28 : decode cX7_bitsOfShare 28 = .ok (.ifCond .ge 21, 3) := by decide +kernel
theorem dX7_bitsOfShare_31 : decode cX7_bitsOfShare 31 = .ok (.dload_n 2, 1) := by decide +kernel
theorem dX7_bitsOfShare_32 : decode cX7_bitsOfShare 32 = .ok (.ldc2_w 349, 3) := by decide +kernel
theorem dX7_bitsOfShare_35 : decode cX7_bitsOfShare 35 = .ok (.dmul, 1) := by decide +kernel
theorem dX7_bitsOfShare_36 : decode cX7_bitsOfShare 36 = .ok (.dstore_n 2, 1) := by decide +kernel
theorem dX7_bitsOfShare_37 : decode cX7_bitsOfShare 37 = .ok (.lload 4, 2) := by decide +kernel
theorem dX7_bitsOfShare_39 : decode cX7_bitsOfShare 39 = .ok (.lconst 1, 1) := by decide +kernel
theorem dX7_bitsOfShare_40 : decode cX7_bitsOfShare 40 = .ok (.lsub, 1) := by decide +kernel
theorem dX7_bitsOfShare_41 : decode cX7_bitsOfShare 41 = .ok (.lstore 4, 2) := by decide +kernel
theorem dX7_bitsOfShare_43 : decode cX7_bitsOfShare 43 = .ok (.iinc 6 1, 3) := by decide +kernel
theorem dX7_bitsOfShare_46 : decode cX7_bitsOfShare 46 = .ok (.goto (-28), 3) := by decide +kernel
theorem dX7_bitsOfShare_49 : decode cX7_bitsOfShare 49 = .ok (.dload_n 2, 1) := by decide +kernel
theorem dX7_bitsOfShare_50 : decode cX7_bitsOfShare 50 = .ok (.dconst 1, 1) := by decide +kernel
theorem dX7_bitsOfShare_51 : decode cX7_bitsOfShare 51 = .ok (.dsub, 1) := by decide +kernel
theorem dX7_bitsOfShare_52 : decode cX7_bitsOfShare 52 = .ok (.ldc2_w 351, 3) := by decide +kernel
theorem dX7_bitsOfShare_55 : decode cX7_bitsOfShare 55 = .ok (.dmul, 1) := by decide +kernel
theorem dX7_bitsOfShare_56 : decode cX7_bitsOfShare 56 = .ok (.d2l, 1) := by decide +kernel
theorem dX7_bitsOfShare_57 : decode cX7_bitsOfShare 57 = .ok (.lstore 6, 2) := by decide +kernel
theorem dX7_bitsOfShare_59 : decode cX7_bitsOfShare 59 = .ok (.lload 4, 2) := by decide +kernel
theorem dX7_bitsOfShare_61 : decode cX7_bitsOfShare 61 = .ok (.bipush 52, 2) := by decide +kernel
theorem dX7_bitsOfShare_63 : decode cX7_bitsOfShare 63 = .ok (.lshl, 1) := by decide +kernel
theorem dX7_bitsOfShare_64 : decode cX7_bitsOfShare 64 = .ok (.lload 6, 2) := by decide +kernel
theorem dX7_bitsOfShare_66 : decode cX7_bitsOfShare 66 = .ok (.ladd, 1) := by decide +kernel
theorem dX7_bitsOfShare_67 : decode cX7_bitsOfShare 67 = .ok (.lreturn, 1) := by decide +kernel
