/-! decode rows, printed by program -/
theorem dX4_make_0 : decode cX4_make 0 = .ok (.iload_n 1, 1) := by decide +kernel
theorem dX4_make_1 : decode cX4_make 1 = .ok (.bipush 19, 2) := by decide +kernel
theorem dX4_make_3 : decode cX4_make 3 = .ok (.ishl, 1) := by decide +kernel
theorem dX4_make_4 : decode cX4_make 4 = .ok (.iload_n 2, 1) := by decide +kernel
theorem dX4_make_5 : decode cX4_make 5 = .ok (.bipush 8, 2) := by decide +kernel
theorem dX4_make_7 : decode cX4_make 7 = .ok (.ishl, 1) := by decide +kernel
theorem dX4_make_8 : decode cX4_make 8 = .ok (.ior, 1) := by decide +kernel
theorem dX4_make_9 : decode cX4_make 9 = .ok (.iload_n 0, 1) := by decide +kernel
theorem dX4_make_10 : decode cX4_make 10 = .ok (.bipush 6, 2) := by decide +kernel
theorem dX4_make_12 : decode cX4_make 12 = .ok (.ishl, 1) := by decide +kernel
theorem dX4_make_13 : decode cX4_make 13 = .ok (.ior, 1) := by decide +kernel
theorem dX4_make_14 : decode cX4_make 14 = .ok (.iload_n 3, 1) := by decide +kernel
theorem dX4_make_15 : decode cX4_make 15 = .ok (.iconst 2, 1) := by decide +kernel
theorem dX4_make_16 : decode cX4_make 16 = .ok (.ishl, 1) := by decide +kernel
theorem dX4_make_17 : decode cX4_make 17 = .ok (.ior, 1) := by decide +kernel
theorem dX4_make_18 : decode cX4_make 18 = .ok (.iload 4, 2) := by decide +kernel
theorem dX4_make_20 : decode cX4_make 20 = .ok (.ifCond .eq 7, 3) := by decide +kernel
theorem dX4_make_23 : decode cX4_make 23 = .ok (.iconst 2, 1) := by decide +kernel
theorem dX4_make_24 : decode cX4_make 24 = .ok (.goto 4, 3) := by decide +kernel
theorem dX4_make_27 : decode cX4_make 27 = .ok (.iconst 0, 1) := by decide +kernel
theorem dX4_make_28 : decode cX4_make 28 = .ok (.ior, 1) := by decide +kernel
theorem dX4_make_29 : decode cX4_make 29 = .ok (.ireturn, 1) := by decide +kernel
theorem dX4_missingOf_0 : decode cX4_missingOf 0 = .ok (.iload_n 0, 1) := by decide +kernel
theorem dX4_missingOf_1 : decode cX4_missingOf 1 = .ok (.invokestatic 11, 3) := by decide +kernel
theorem dX4_missingOf_4 : decode cX4_missingOf 4 = .ok (.iload_n 0, 1) := by decide +kernel
theorem dX4_missingOf_5 : decode cX4_missingOf 5 = .ok (.invokestatic 15, 3) := by decide +kernel
theorem dX4_missingOf_8 : decode cX4_missingOf 8 = .ok (.iload_n 1, 1) := by decide +kernel
theorem dX4_missingOf_9 : decode cX4_missingOf 9 = .ok (.iload_n 2, 1) := by decide +kernel
theorem dX4_missingOf_10 : decode cX4_missingOf 10 = .ok (.iload_n 0, 1) := by decide +kernel
theorem dX4_missingOf_11 : decode cX4_missingOf 11 = .ok (.invokestatic 18, 3) := by decide +kernel
theorem dX4_missingOf_14 : decode cX4_missingOf 14 = .ok (.ifCond .ne 7, 3) := by decide +kernel
theorem dX4_missingOf_17 : decode cX4_missingOf 17 = .ok (.iconst 1, 1) := by decide +kernel
theorem dX4_missingOf_18 : decode cX4_missingOf 18 = .ok (.goto 4, 3) := by decide +kernel
theorem dX4_missingOf_21 : decode cX4_missingOf 21 = .ok (.iconst 0, 1) := by decide +kernel
theorem dX4_missingOf_22 : decode cX4_missingOf 22 = .ok (.invokestatic 22, 3) := by decide +kernel
theorem dX4_missingOf_25 : decode cX4_missingOf 25 = .ok (.iconst 1, 1) := by decide +kernel
theorem dX4_missingOf_26 : decode cX4_missingOf 26 = .ok (.ior, 1) := by decide +kernel
theorem dX4_missingOf_27 : decode cX4_missingOf 27 = .ok (.ireturn, 1) := by decide +kernel
theorem dX4_timeOf_0 : decode cX4_timeOf 0 = .ok (.iload_n 0, 1) := by decide +kernel
theorem dX4_timeOf_1 : decode cX4_timeOf 1 = .ok (.bipush 8, 2) := by decide +kernel
theorem dX4_timeOf_3 : decode cX4_timeOf 3 = .ok (.ishr, 1) := by decide +kernel
theorem dX4_timeOf_4 : decode cX4_timeOf 4 = .ok (.ireturn, 1) := by decide +kernel
theorem dX4_dayOf_0 : decode cX4_dayOf 0 = .ok (.iload_n 0, 1) := by decide +kernel
theorem dX4_dayOf_1 : decode cX4_dayOf 1 = .ok (.bipush 19, 2) := by decide +kernel
theorem dX4_dayOf_3 : decode cX4_dayOf 3 = .ok (.ishr, 1) := by decide +kernel
theorem dX4_dayOf_4 : decode cX4_dayOf 4 = .ok (.bipush 31, 2) := by decide +kernel
theorem dX4_dayOf_6 : decode cX4_dayOf 6 = .ok (.iand, 1) := by decide +kernel
theorem dX4_dayOf_7 : decode cX4_dayOf 7 = .ok (.ireturn, 1) := by decide +kernel
theorem dX4_weekOf_0 : decode cX4_weekOf 0 = .ok (.iload_n 0, 1) := by decide +kernel
theorem dX4_weekOf_1 : decode cX4_weekOf 1 = .ok (.invokestatic 15, 3) := by decide +kernel
theorem dX4_weekOf_4 : decode cX4_weekOf 4 = .ok (.bipush 7, 2) := by decide +kernel
theorem dX4_weekOf_6 : decode cX4_weekOf 6 = .ok (.idiv, 1) := by decide +kernel
theorem dX4_weekOf_7 : decode cX4_weekOf 7 = .ok (.ireturn, 1) := by decide +kernel
theorem dX4_minuteOf_0 : decode cX4_minuteOf 0 = .ok (.iload_n 0, 1) := by decide +kernel
theorem dX4_minuteOf_1 : decode cX4_minuteOf 1 = .ok (.bipush 8, 2) := by decide +kernel
theorem dX4_minuteOf_3 : decode cX4_minuteOf 3 = .ok (.ishr, 1) := by decide +kernel
theorem dX4_minuteOf_4 : decode cX4_minuteOf 4 = .ok (.sipush 2047, 3) := by decide +kernel
theorem dX4_minuteOf_7 : decode cX4_minuteOf 7 = .ok (.iand, 1) := by decide +kernel
theorem dX4_minuteOf_8 : decode cX4_minuteOf 8 = .ok (.ireturn, 1) := by decide +kernel
theorem dX4_walletOf_0 : decode cX4_walletOf 0 = .ok (.iload_n 0, 1) := by decide +kernel
theorem dX4_walletOf_1 : decode cX4_walletOf 1 = .ok (.bipush 6, 2) := by decide +kernel
theorem dX4_walletOf_3 : decode cX4_walletOf 3 = .ok (.ishr, 1) := by decide +kernel
theorem dX4_walletOf_4 : decode cX4_walletOf 4 = .ok (.iconst 3, 1) := by decide +kernel
theorem dX4_walletOf_5 : decode cX4_walletOf 5 = .ok (.iand, 1) := by decide +kernel
theorem dX4_walletOf_6 : decode cX4_walletOf 6 = .ok (.ireturn, 1) := by decide +kernel
theorem dX4_stationOf_0 : decode cX4_stationOf 0 = .ok (.iload_n 0, 1) := by decide +kernel
theorem dX4_stationOf_1 : decode cX4_stationOf 1 = .ok (.iconst 2, 1) := by decide +kernel
theorem dX4_stationOf_2 : decode cX4_stationOf 2 = .ok (.ishr, 1) := by decide +kernel
theorem dX4_stationOf_3 : decode cX4_stationOf 3 = .ok (.bipush 15, 2) := by decide +kernel
theorem dX4_stationOf_5 : decode cX4_stationOf 5 = .ok (.iand, 1) := by decide +kernel
theorem dX4_stationOf_6 : decode cX4_stationOf 6 = .ok (.ireturn, 1) := by decide +kernel
theorem dX4_zoneOf_0 : decode cX4_zoneOf 0 = .ok (.iload_n 0, 1) := by decide +kernel
theorem dX4_zoneOf_1 : decode cX4_zoneOf 1 = .ok (.invokestatic 26, 3) := by decide +kernel
theorem dX4_zoneOf_4 : decode cX4_zoneOf 4 = .ok (.iconst 2, 1) := by decide +kernel
theorem dX4_zoneOf_5 : decode cX4_zoneOf 5 = .ok (.idiv, 1) := by decide +kernel
theorem dX4_zoneOf_6 : decode cX4_zoneOf 6 = .ok (.ireturn, 1) := by decide +kernel
theorem dX4_isIn_0 : decode cX4_isIn 0 = .ok (.iload_n 0, 1) := by decide +kernel
theorem dX4_isIn_1 : decode cX4_isIn 1 = .ok (.iconst 2, 1) := by decide +kernel
theorem dX4_isIn_2 : decode cX4_isIn 2 = .ok (.iand, 1) := by decide +kernel
theorem dX4_isIn_3 : decode cX4_isIn 3 = .ok (.ifCond .eq 7, 3) := by decide +kernel
theorem dX4_isIn_6 : decode cX4_isIn 6 = .ok (.iconst 1, 1) := by decide +kernel
theorem dX4_isIn_7 : decode cX4_isIn 7 = .ok (.goto 4, 3) := by decide +kernel
theorem dX4_isIn_10 : decode cX4_isIn 10 = .ok (.iconst 0, 1) := by decide +kernel
theorem dX4_isIn_11 : decode cX4_isIn 11 = .ok (.ireturn, 1) := by decide +kernel
theorem dX4_isClaimed_0 : decode cX4_isClaimed 0 = .ok (.iload_n 0, 1) := by decide +kernel
theorem dX4_isClaimed_1 : decode cX4_isClaimed 1 = .ok (.iconst 1, 1) := by decide +kernel
theorem dX4_isClaimed_2 : decode cX4_isClaimed 2 = .ok (.iand, 1) := by decide +kernel
theorem dX4_isClaimed_3 : decode cX4_isClaimed 3 = .ok (.ifCond .eq 7, 3) := by decide +kernel
theorem dX4_isClaimed_6 : decode cX4_isClaimed 6 = .ok (.iconst 1, 1) := by decide +kernel
theorem dX4_isClaimed_7 : decode cX4_isClaimed 7 = .ok (.goto 4, 3) := by decide +kernel
theorem dX4_isClaimed_10 : decode cX4_isClaimed 10 = .ok (.iconst 0, 1) := by decide +kernel
theorem dX4_isClaimed_11 : decode cX4_isClaimed 11 = .ok (.ireturn, 1) := by decide +kernel
theorem dX5_init_0 : decode cX5_init 0 = .ok (.aload_n 0, 1) := by decide +kernel
theorem dX5_init_1 : decode cX5_init 1 = .ok (.invokespecial 3, 3) := by decide +kernel
theorem dX5_init_4 : decode cX5_init 4 = .ok (.aload_n 0, 1) := by decide +kernel
theorem dX5_init_5 : decode cX5_init 5 = .ok (.bipush 61, 2) := by decide +kernel
theorem dX5_init_7 : decode cX5_init 7 = .ok (.newarray .int, 2) := by decide +kernel
theorem dX5_init_9 : decode cX5_init 9 = .ok (.putfield 9, 3) := by decide +kernel
theorem dX5_init_12 : decode cX5_init 12 = .ok (.aload_n 0, 1) := by decide +kernel
theorem dX5_init_13 : decode cX5_init 13 = .ok (.iconst 0, 1) := by decide +kernel
theorem dX5_init_14 : decode cX5_init 14 = .ok (.putfield 15, 3) := by decide +kernel
theorem dX5_init_17 : decode cX5_init 17 = .ok (.return_, 1) := by decide +kernel
theorem dX5_tapAt_0 : decode cX5_tapAt 0 = .ok (.aload_n 0, 1) := by decide +kernel
theorem dX5_tapAt_1 : decode cX5_tapAt 1 = .ok (.getfield 9, 3) := by decide +kernel
theorem dX5_tapAt_4 : decode cX5_tapAt 4 = .ok (.iload_n 1, 1) := by decide +kernel
theorem dX5_tapAt_5 : decode cX5_tapAt 5 = .ok (.invokestatic 19, 3) := by decide +kernel
theorem dX5_tapAt_8 : decode cX5_tapAt 8 = .ok (.ireturn, 1) := by decide +kernel
theorem dX5_insert_0 : decode cX5_insert 0 = .ok (.aload_n 0, 1) := by decide +kernel
theorem dX5_insert_1 : decode cX5_insert 1 = .ok (.getfield 15, 3) := by decide +kernel
theorem dX5_insert_4 : decode cX5_insert 4 = .ok (.aload_n 0, 1) := by decide +kernel
theorem dX5_insert_5 : decode cX5_insert 5 = .ok (.getfield 9, 3) := by decide +kernel
theorem dX5_insert_8 : decode cX5_insert 8 = .ok (.arraylength, 1) := by decide +kernel
theorem dX5_insert_9 : decode cX5_insert 9 = .ok (.if_icmp .lt 5, 3) := by decide +kernel
theorem dX5_insert_12 : decode cX5_insert 12 = .ok (.iconst (-1), 1) := by decide +kernel
theorem dX5_insert_13 : decode cX5_insert 13 = .ok (.ireturn, 1) := by decide +kernel
theorem dX5_insert_14 : decode cX5_insert 14 = .ok (.aload_n 0, 1) := by decide +kernel
theorem dX5_insert_15 : decode cX5_insert 15 = .ok (.getfield 15, 3) := by decide +kernel
theorem dX5_insert_18 : decode cX5_insert 18 = .ok (.istore_n 2, 1) := by decide +kernel
theorem dX5_insert_19 : decode cX5_insert 19 = .ok (.iload_n 2, 1) := by decide +kernel
theorem dX5_insert_20 : decode cX5_insert 20 = .ok (.ifCond .le 41, 3) := by decide +kernel
theorem dX5_insert_23 : decode cX5_insert 23 = .ok (.aload_n 0, 1) := by decide +kernel
theorem dX5_insert_24 : decode cX5_insert 24 = .ok (.iload_n 2, 1) := by decide +kernel
theorem dX5_insert_25 : decode cX5_insert 25 = .ok (.iconst 1, 1) := by decide +kernel
theorem dX5_insert_26 : decode cX5_insert 26 = .ok (.isub, 1) := by decide +kernel
theorem dX5_insert_27 : decode cX5_insert 27 = .ok (.invokevirtual 25, 3) := by decide +kernel
theorem dX5_insert_30 : decode cX5_insert 30 = .ok (.invokestatic 29, 3) := by decide +kernel
theorem dX5_insert_33 : decode cX5_insert 33 = .ok (.iload_n 1, 1) := by decide +kernel
theorem dX5_insert_34 : decode cX5_insert 34 = .ok (.invokestatic 29, 3) := by decide +kernel
theorem dX5_insert_37 : decode cX5_insert 37 = .ok (.if_icmp .le 24, 3) := by decide +kernel
theorem dX5_insert_40 : decode cX5_insert 40 = .ok (.aload_n 0, 1) := by decide +kernel
theorem dX5_insert_41 : decode cX5_insert 41 = .ok (.getfield 9, 3) := by decide +kernel
theorem dX5_insert_44 : decode cX5_insert 44 = .ok (.iload_n 2, 1) := by decide +kernel
theorem dX5_insert_45 : decode cX5_insert 45 = .ok (.aload_n 0, 1) := by decide +kernel
theorem dX5_insert_46 : decode cX5_insert 46 = .ok (.iload_n 2, 1) := by decide +kernel
theorem dX5_insert_47 : decode cX5_insert 47 = .ok (.iconst 1, 1) := by decide +kernel
theorem dX5_insert_48 : decode cX5_insert 48 = .ok (.isub, 1) := by decide +kernel
theorem dX5_insert_49 : decode cX5_insert 49 = .ok (.invokevirtual 25, 3) := by decide +kernel
theorem dX5_insert_52 : decode cX5_insert 52 = .ok (.invokestatic 34, 3) := by decide +kernel
theorem dX5_insert_55 : decode cX5_insert 55 = .ok (.iinc 2 (-1), 3) := by decide +kernel
theorem dX5_insert_58 : decode cX5_insert 58 = .ok (.goto (-39), 3) := by decide +kernel
theorem dX5_insert_61 : decode cX5_insert 61 = .ok (.aload_n 0, 1) := by decide +kernel
theorem dX5_insert_62 : decode cX5_insert 62 = .ok (.getfield 9, 3) := by decide +kernel
theorem dX5_insert_65 : decode cX5_insert 65 = .ok (.iload_n 2, 1) := by decide +kernel
theorem dX5_insert_66 : decode cX5_insert 66 = .ok (.iload_n 1, 1) := by decide +kernel
theorem dX5_insert_67 : decode cX5_insert 67 = .ok (.invokestatic 34, 3) := by decide +kernel
theorem dX5_insert_70 : decode cX5_insert 70 = .ok (.aload_n 0, 1) := by decide +kernel
theorem dX5_insert_71 : decode cX5_insert 71 = .ok (.dup, 1) := by decide +kernel
theorem dX5_insert_72 : decode cX5_insert 72 = .ok (.getfield 15, 3) := by decide +kernel
theorem dX5_insert_75 : decode cX5_insert 75 = .ok (.iconst 1, 1) := by decide +kernel
theorem dX5_insert_76 : decode cX5_insert 76 = .ok (.iadd, 1) := by decide +kernel
theorem dX5_insert_77 : decode cX5_insert 77 = .ok (.putfield 15, 3) := by decide +kernel
theorem dX5_insert_80 : decode cX5_insert 80 = .ok (.iload_n 2, 1) := by decide +kernel
theorem dX5_insert_81 : decode cX5_insert 81 = .ok (.ireturn, 1) := by decide +kernel
theorem dX5_takeAway_0 : decode cX5_takeAway 0 = .ok (.iload_n 1, 1) := by decide +kernel
theorem dX5_takeAway_1 : decode cX5_takeAway 1 = .ok (.istore_n 2, 1) := by decide +kernel
theorem dX5_takeAway_2 : decode cX5_takeAway 2 = .ok (.iload_n 2, 1) := by decide +kernel
theorem dX5_takeAway_3 : decode cX5_takeAway 3 = .ok (.iconst 1, 1) := by decide +kernel
theorem dX5_takeAway_4 : decode cX5_takeAway 4 = .ok (.iadd, 1) := by decide +kernel
theorem dX5_takeAway_5 : decode cX5_takeAway 5 = .ok (.aload_n 0, 1) := by decide +kernel
theorem dX5_takeAway_6 : decode cX5_takeAway 6 = .ok (.getfield 15, 3) := by decide +kernel
theorem dX5_takeAway_9 : decode cX5_takeAway 9 = .ok (.if_icmp .ge 24, 3) := by decide +kernel
theorem dX5_takeAway_12 : decode cX5_takeAway 12 = .ok (.aload_n 0, 1) := by decide +kernel
theorem dX5_takeAway_13 : decode cX5_takeAway 13 = .ok (.getfield 9, 3) := by decide +kernel
theorem dX5_takeAway_16 : decode cX5_takeAway 16 = .ok (.iload_n 2, 1) := by decide +kernel
theorem dX5_takeAway_17 : decode cX5_takeAway 17 = .ok (.aload_n 0, 1) := by decide +kernel
theorem dX5_takeAway_18 : decode cX5_takeAway 18 = .ok (.iload_n 2, 1) := by decide +kernel
theorem dX5_takeAway_19 : decode cX5_takeAway 19 = .ok (.iconst 1, 1) := by decide +kernel
theorem dX5_takeAway_20 : decode cX5_takeAway 20 = .ok (.iadd, 1) := by decide +kernel
theorem dX5_takeAway_21 : decode cX5_takeAway 21 = .ok (.invokevirtual 25, 3) := by decide +kernel
theorem dX5_takeAway_24 : decode cX5_takeAway 24 = .ok (.invokestatic 34, 3) := by decide +kernel
theorem dX5_takeAway_27 : decode cX5_takeAway 27 = .ok (.iinc 2 1, 3) := by decide +kernel
theorem dX5_takeAway_30 : decode cX5_takeAway 30 = .ok (.goto (-28), 3) := by decide +kernel
theorem dX5_takeAway_33 : decode cX5_takeAway 33 = .ok (.aload_n 0, 1) := by decide +kernel
theorem dX5_takeAway_34 : decode cX5_takeAway 34 = .ok (.dup, 1) := by decide +kernel
theorem dX5_takeAway_35 : decode cX5_takeAway 35 = .ok (.getfield 15, 3) := by decide +kernel
theorem dX5_takeAway_38 : decode cX5_takeAway 38 = .ok (.iconst 1, 1) := by decide +kernel
theorem dX5_takeAway_39 : decode cX5_takeAway 39 = .ok (.isub, 1) := by decide +kernel
theorem dX5_takeAway_40 : decode cX5_takeAway 40 = .ok (.putfield 15, 3) := by decide +kernel
theorem dX5_takeAway_43 : decode cX5_takeAway 43 = .ok (.return_, 1) := by decide +kernel
theorem dX5_copyFrom_0 : decode cX5_copyFrom 0 = .ok (.aload_n 1, 1) := by decide +kernel
theorem dX5_copyFrom_1 : decode cX5_copyFrom 1 = .ok (.getfield 9, 3) := by decide +kernel
theorem dX5_copyFrom_4 : decode cX5_copyFrom 4 = .ok (.aload_n 0, 1) := by decide +kernel
theorem dX5_copyFrom_5 : decode cX5_copyFrom 5 = .ok (.getfield 9, 3) := by decide +kernel
theorem dX5_copyFrom_8 : decode cX5_copyFrom 8 = .ok (.invokestatic 38, 3) := by decide +kernel
theorem dX5_copyFrom_11 : decode cX5_copyFrom 11 = .ok (.aload_n 0, 1) := by decide +kernel
theorem dX5_copyFrom_12 : decode cX5_copyFrom 12 = .ok (.aload_n 1, 1) := by decide +kernel
theorem dX5_copyFrom_13 : decode cX5_copyFrom 13 = .ok (.getfield 15, 3) := by decide +kernel
theorem dX5_copyFrom_16 : decode cX5_copyFrom 16 = .ok (.putfield 15, 3) := by decide +kernel
theorem dX5_copyFrom_19 : decode cX5_copyFrom 19 = .ok (.return_, 1) := by decide +kernel
theorem dX6_init_0 : decode cX6_init 0 = .ok (.aload_n 0, 1) := by decide +kernel
theorem dX6_init_1 : decode cX6_init 1 = .ok (.invokespecial 3, 3) := by decide +kernel
theorem dX6_init_4 : decode cX6_init 4 = .ok (.aload_n 0, 1) := by decide +kernel
theorem dX6_init_5 : decode cX6_init 5 = .ok (.bipush 10, 2) := by decide +kernel
theorem dX6_init_7 : decode cX6_init 7 = .ok (.newarray .int, 2) := by decide +kernel
theorem dX6_init_9 : decode cX6_init 9 = .ok (.putfield 11, 3) := by decide +kernel
theorem dX6_init_12 : decode cX6_init 12 = .ok (.aload_n 0, 1) := by decide +kernel
theorem dX6_init_13 : decode cX6_init 13 = .ok (.iconst 0, 1) := by decide +kernel
theorem dX6_init_14 : decode cX6_init 14 = .ok (.putfield 15, 3) := by decide +kernel
theorem dX6_init_17 : decode cX6_init 17 = .ok (.aload_n 0, 1) := by decide +kernel
theorem dX6_init_18 : decode cX6_init 18 = .ok (.iconst 0, 1) := by decide +kernel
theorem dX6_init_19 : decode cX6_init 19 = .ok (.putfield 19, 3) := by decide +kernel
theorem dX6_init_22 : decode cX6_init 22 = .ok (.aload_n 0, 1) := by decide +kernel
theorem dX6_init_23 : decode cX6_init 23 = .ok (.iconst 0, 1) := by decide +kernel
theorem dX6_init_24 : decode cX6_init 24 = .ok (.putfield 22, 3) := by decide +kernel
theorem dX6_init_27 : decode cX6_init 27 = .ok (.aload_n 0, 1) := by decide +kernel
theorem dX6_init_28 : decode cX6_init 28 = .ok (.iconst 0, 1) := by decide +kernel
theorem dX6_init_29 : decode cX6_init 29 = .ok (.putfield 25, 3) := by decide +kernel
theorem dX6_init_32 : decode cX6_init 32 = .ok (.aload_n 0, 1) := by decide +kernel
theorem dX6_init_33 : decode cX6_init 33 = .ok (.iconst 0, 1) := by decide +kernel
theorem dX6_init_34 : decode cX6_init 34 = .ok (.putfield 28, 3) := by decide +kernel
theorem dX6_init_37 : decode cX6_init 37 = .ok (.aload_n 0, 1) := by decide +kernel
theorem dX6_init_38 : decode cX6_init 38 = .ok (.iconst 0, 1) := by decide +kernel
theorem dX6_init_39 : decode cX6_init 39 = .ok (.putfield 31, 3) := by decide +kernel
theorem dX6_init_42 : decode cX6_init 42 = .ok (.aload_n 0, 1) := by decide +kernel
theorem dX6_init_43 : decode cX6_init 43 = .ok (.iconst 0, 1) := by decide +kernel
theorem dX6_init_44 : decode cX6_init 44 = .ok (.putfield 34, 3) := by decide +kernel
theorem dX6_init_47 : decode cX6_init 47 = .ok (.return_, 1) := by decide +kernel
