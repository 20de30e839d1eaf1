/-! decode rows, printed by program -/
theorem dX4_make_0 : decode cX4_make 0 = .ok (.iload_n 1, 1) := by decide +kernel
theorem dX4_make_1 : decode cX4_make 1 = .ok (.bipush 19, 2) := by decide +kernel
theorem dX4_make_3 : decode cX4_make 3 = .ok (.ishl, 1) := by decide +kernel
theorem dX4_make_4 : decode cX4_make 4 = .ok (.iload_n 2, 1) := by decide +kernel
theorem dX4_make_5 : decode cX4_make 5 = .ok (.bipush 8, 2) := by decide +kernel
theorem dX4_make_7 : decode cX4_make 7 = .ok (.ishl, 1) := by decide +kernel
theorem dX4_make_8 : decode cX4_make 8 = .ok (.ior, 1) := by decide +kernel
theorem dX4_make_9 : decode cX4_make 9 = .ok (.iload_n 0, 1) := by decide +kernel
theorem dX4_make_10 : decode cX4_make 10 = .ok (.bipush 6, 2) := by decide +kernel
theorem dX4_make_12 : decode cX4_make 12 = .ok (.ishl, 1) := by decide +kernel
theorem dX4_make_13 : decode cX4_make 13 = .ok (.ior, 1) := by decide +kernel
theorem dX4_make_14 : decode cX4_make 14 = .ok (.iload_n 3, 1) := by decide +kernel
theorem dX4_make_15 : decode cX4_make 15 = .ok (.iconst 2, 1) := by decide +kernel
theorem dX4_make_16 : decode cX4_make 16 = .ok (.ishl, 1) := by decide +kernel
theorem dX4_make_17 : decode cX4_make 17 = .ok (.ior, 1) := by decide +kernel
theorem dX4_make_18 : decode cX4_make 18 = .ok (.iload 4, 2) := by decide +kernel
theorem dX4_make_20 : decode cX4_make 20 = .ok (.ifCond .eq 7, 3) := by decide +kernel
theorem dX4_make_23 : decode cX4_make 23 = .ok (.iconst 2, 1) := by decide +kernel
theorem dX4_make_24 : decode cX4_make 24 = .ok (.goto 4, 3) := by decide +kernel
theorem dX4_make_27 : decode cX4_make 27 = .ok (.iconst 0, 1) := by decide +kernel
theorem dX4_make_28 : decode cX4_make 28 = .ok (.ior, 1) := by decide +kernel
theorem dX4_make_29 : decode cX4_make 29 = .ok (.ireturn, 1) := by decide +kernel
theorem dX4_missingOf_0 : decode cX4_missingOf 0 = .ok (.iload_n 0, 1) := by decide +kernel
theorem dX4_missingOf_1 : decode cX4_missingOf 1 = .ok (.invokestatic 11, 3) := by decide +kernel
theorem dX4_missingOf_4 : decode cX4_missingOf 4 = .ok (.iload_n 0, 1) := by decide +kernel
theorem dX4_missingOf_5 : decode cX4_missingOf 5 = .ok (.invokestatic 15, 3) := by decide +kernel
theorem dX4_missingOf_8 : decode cX4_missingOf 8 = .ok (.iload_n 1, 1) := by decide +kernel
theorem dX4_missingOf_9 : decode cX4_missingOf 9 = .ok (.iload_n 2, 1) := by decide +kernel
theorem dX4_missingOf_10 : decode cX4_missingOf 10 = .ok (.iload_n 0, 1) := by decide +kernel
theorem dX4_missingOf_11 : decode cX4_missingOf 11 = .ok (.invokestatic 18, 3) := by decide +kernel
theorem dX4_missingOf_14 : decode cX4_missingOf 14 = .ok (.ifCond .ne 7, 3) := by decide +kernel
theorem dX4_missingOf_17 : decode cX4_missingOf 17 = .ok (.iconst 1, 1) := by decide +kernel
theorem dX4_missingOf_18 : decode cX4_missingOf 18 = .ok (.goto 4, 3) := by decide +kernel
theorem dX4_missingOf_21 : decode cX4_missingOf 21 = .ok (.iconst 0, 1) := by decide +kernel
theorem dX4_missingOf_22 : decode cX4_missingOf 22 = .ok (.invokestatic 22, 3) := by decide +kernel
theorem dX4_missingOf_25 : decode cX4_missingOf 25 = .ok (.iconst 1, 1) := by decide +kernel
theorem dX4_missingOf_26 : decode cX4_missingOf 26 = .ok (.ior, 1) := by decide +kernel
theorem dX4_missingOf_27 : decode cX4_missingOf 27 = .ok (.ireturn, 1) := by decide +kernel
theorem dX4_timeOf_0 : decode cX4_timeOf 0 = .ok (.iload_n 0, 1) := by decide +kernel
theorem dX4_timeOf_1 : decode cX4_timeOf 1 = .ok (.bipush 8, 2) := by decide +kernel
theorem dX4_timeOf_3 : decode cX4_timeOf 3 = .ok (.ishr, 1) := by decide +kernel
theorem dX4_timeOf_4 : decode cX4_timeOf 4 = .ok (.ireturn, 1) := by decide +kernel
theorem dX4_dayOf_0 : decode cX4_dayOf 0 = .ok (.iload_n 0, 1) := by decide +kernel
theorem dX4_dayOf_1 : decode cX4_dayOf 1 = .ok (.bipush 19, 2) := by decide +kernel
theorem dX4_dayOf_3 : decode cX4_dayOf 3 = .ok (.ishr, 1) := by decide +kernel
theorem dX4_dayOf_4 : decode cX4_dayOf 4 = .ok (.bipush 31, 2) := by decide +kernel
theorem dX4_dayOf_6 : decode cX4_dayOf 6 = .ok (.iand, 1) := by decide +kernel
theorem dX4_dayOf_7 : decode cX4_dayOf 7 = .ok (.ireturn, 1) := by decide +kernel
theorem dX4_weekOf_0 : decode cX4_weekOf 0 = .ok (.iload_n 0, 1) := by decide +kernel
theorem dX4_weekOf_1 : decode cX4_weekOf 1 = .ok (.invokestatic 15, 3) := by decide +kernel
theorem dX4_weekOf_4 : decode cX4_weekOf 4 = .ok (.bipush 7, 2) := by decide +kernel
theorem dX4_weekOf_6 : decode cX4_weekOf 6 = .ok (.idiv, 1) := by decide +kernel
theorem dX4_weekOf_7 : decode cX4_weekOf 7 = .ok (.ireturn, 1) := by decide +kernel
theorem dX4_minuteOf_0 : decode cX4_minuteOf 0 = .ok (.iload_n 0, 1) := by decide +kernel
theorem dX4_minuteOf_1 : decode cX4_minuteOf 1 = .ok (.bipush 8, 2) := by decide +kernel
theorem dX4_minuteOf_3 : decode cX4_minuteOf 3 = .ok (.ishr, 1) := by decide +kernel
theorem dX4_minuteOf_4 : decode cX4_minuteOf 4 = .ok (.sipush 2047, 3) := by decide +kernel
theorem dX4_minuteOf_7 : decode cX4_minuteOf 7 = .ok (.iand, 1) := by decide +kernel
theorem dX4_minuteOf_8 : decode cX4_minuteOf 8 = .ok (.ireturn, 1) := by decide +kernel
theorem dX4_walletOf_0 : decode cX4_walletOf 0 = .ok (.iload_n 0, 1) := by decide +kernel
theorem dX4_walletOf_1 : decode cX4_walletOf 1 = .ok (.bipush 6, 2) := by decide +kernel
theorem dX4_walletOf_3 : decode cX4_walletOf 3 = .ok (.ishr, 1) := by decide +kernel
theorem dX4_walletOf_4 : decode cX4_walletOf 4 = .ok (.iconst 3, 1) := by decide +kernel
theorem dX4_walletOf_5 : decode cX4_walletOf 5 = .ok (.iand, 1) := by decide +kernel
theorem dX4_walletOf_6 : decode cX4_walletOf 6 = .ok (.ireturn, 1) := by decide +kernel
theorem dX4_stationOf_0 : decode cX4_stationOf 0 = .ok (.iload_n 0, 1) := by decide +kernel
theorem dX4_stationOf_1 : decode cX4_stationOf 1 = .ok (.iconst 2, 1) := by decide +kernel
theorem dX4_stationOf_2 : decode cX4_stationOf 2 = .ok (.ishr, 1) := by decide +kernel
theorem dX4_stationOf_3 : decode cX4_stationOf 3 = .ok (.bipush 15, 2) := by decide +kernel
theorem dX4_stationOf_5 : decode cX4_stationOf 5 = .ok (.iand, 1) := by decide +kernel
theorem dX4_stationOf_6 : decode cX4_stationOf 6 = .ok (.ireturn, 1) := by decide +kernel
theorem dX4_zoneOf_0 : decode cX4_zoneOf 0 = .ok (.iload_n 0, 1) := by decide +kernel
theorem dX4_zoneOf_1 : decode cX4_zoneOf 1 = .ok (.invokestatic 26, 3) := by decide +kernel
theorem dX4_zoneOf_4 : decode cX4_zoneOf 4 = .ok (.iconst 2, 1) := by decide +kernel
theorem dX4_zoneOf_5 : decode cX4_zoneOf 5 = .ok (.idiv, 1) := by decide +kernel
theorem dX4_zoneOf_6 : decode cX4_zoneOf 6 = .ok (.ireturn, 1) := by decide +kernel
theorem dX4_isIn_0 : decode cX4_isIn 0 = .ok (.iload_n 0, 1) := by decide +kernel
theorem dX4_isIn_1 : decode cX4_isIn 1 = .ok (.iconst 2, 1) := by decide +kernel
theorem dX4_isIn_2 : decode cX4_isIn 2 = .ok (.iand, 1) := by decide +kernel
theorem dX4_isIn_3 : decode cX4_isIn 3 = .ok (.ifCond .eq 7, 3) := by decide +kernel
theorem dX4_isIn_6 : decode cX4_isIn 6 = .ok (.iconst 1, 1) := by decide +kernel
theorem dX4_isIn_7 : decode cX4_isIn 7 = .ok (.goto 4, 3) := by decide +kernel
theorem dX4_isIn_10 : decode cX4_isIn 10 = .ok (.iconst 0, 1) := by decide +kernel
theorem dX4_isIn_11 : decode cX4_isIn 11 = .ok (.ireturn, 1) := by decide +kernel
theorem dX4_isClaimed_0 : decode cX4_isClaimed 0 = .ok (.iload_n 0, 1) := by decide +kernel
theorem dX4_isClaimed_1 : decode cX4_isClaimed 1 = .ok (.iconst 1, 1) := by decide +kernel
theorem dX4_isClaimed_2 : decode cX4_isClaimed 2 = .ok (.iand, 1) := by decide +kernel
theorem dX4_isClaimed_3 : decode cX4_isClaimed 3 = .ok (.ifCond .eq 7, 3) := by decide +kernel
theorem dX4_isClaimed_6 : decode cX4_isClaimed 6 = .ok (.iconst 1, 1) := by decide +kernel
theorem dX4_isClaimed_7 : decode cX4_isClaimed 7 = .ok (.goto 4, 3) := by decide +kernel
theorem dX4_isClaimed_10 : decode cX4_isClaimed 10 = .ok (.iconst 0, 1) := by decide +kernel
theorem dX4_isClaimed_11 : decode cX4_isClaimed 11 = .ok (.ireturn, 1) := by decide +kernel
theorem dX5_init_0 : decode cX5_init 0 = .ok (.aload_n 0, 1) := by decide +kernel
theorem dX5_init_1 : decode cX5_init 1 = .ok (.invokespecial 3, 3) := by decide +kernel
theorem dX5_init_4 : decode cX5_init 4 = .ok (.aload_n 0, 1) := by decide +kernel
theorem dX5_init_5 : decode cX5_init 5 = .ok (.bipush 61, 2) := by decide +kernel
theorem dX5_init_7 : decode cX5_init 7 = .ok (.newarray .int, 2) := by decide +kernel
theorem dX5_init_9 : decode cX5_init 9 = .ok (.putfield 9, 3) := by decide +kernel
theorem dX5_init_12 : decode cX5_init 12 = .ok (.aload_n 0, 1) := by decide +kernel
theorem dX5_init_13 : decode cX5_init 13 = .ok (.iconst 0, 1) := by decide +kernel
theorem dX5_init_14 : decode cX5_init 14 = .ok (.putfield 15, 3) := by decide +kernel
theorem dX5_init_17 : decode cX5_init 17 = .ok (.return_, 1) := by decide +kernel
theorem dX5_tapAt_0 : decode cX5_tapAt 0 = .ok (.aload_n 0, 1) := by decide +kernel
theorem dX5_tapAt_1 : decode cX5_tapAt 1 = .ok (.getfield 9, 3) := by decide +kernel
theorem dX5_tapAt_4 : decode cX5_tapAt 4 = .ok (.iload_n 1, 1) := by decide +kernel
theorem dX5_tapAt_5 : decode cX5_tapAt 5 = .ok (.invokestatic 19, 3) := by decide +kernel
theorem dX5_tapAt_8 : decode cX5_tapAt 8 = .ok (.ireturn, 1) := by decide +kernel
theorem dX5_insert_0 : decode cX5_insert 0 = .ok (.aload_n 0, 1) := by decide +kernel
theorem dX5_insert_1 : decode cX5_insert 1 = .ok (.getfield 15, 3) := by decide +kernel
theorem dX5_insert_4 : decode cX5_insert 4 = .ok (.aload_n 0, 1) := by decide +kernel
theorem dX5_insert_5 : decode cX5_insert 5 = .ok (.getfield 9, 3) := by decide +kernel
theorem dX5_insert_8 : decode cX5_insert 8 = .ok (.arraylength, 1) := by decide +kernel
theorem dX5_insert_9 : decode cX5_insert 9 = .ok (.if_icmp .lt 5, 3) := by decide +kernel
theorem dX5_insert_12 : decode cX5_insert 12 = .ok (.iconst (-1), 1) := by decide +kernel
theorem dX5_insert_13 : decode cX5_insert 13 = .ok (.ireturn, 1) := by decide +kernel
theorem dX5_insert_14 : decode cX5_insert 14 = .ok (.aload_n 0, 1) := by decide +kernel
theorem dX5_insert_15 : decode cX5_insert 15 = .ok (.getfield 15, 3) := by decide +kernel
theorem dX5_insert_18 : decode cX5_insert 18 = .ok (.istore_n 2, 1) := by decide +kernel
theorem dX5_insert_19 : decode cX5_insert 19 = .ok (.iload_n 2, 1) := by decide +kernel
theorem dX5_insert_20 : decode cX5_insert 20 = .ok (.ifCond .le 41, 3) := by decide +kernel
theorem dX5_insert_23 : decode cX5_insert 23 = .ok (.aload_n 0, 1) := by decide +kernel
theorem dX5_insert_24 : decode cX5_insert 24 = .ok (.iload_n 2, 1) := by decide +kernel
theorem dX5_insert_25 : decode cX5_insert 25 = .ok (.iconst 1, 1) := by decide +kernel
theorem dX5_insert_26 : decode cX5_insert 26 = .ok (.isub, 1) := by decide +kernel
theorem dX5_insert_27 : decode cX5_insert 27 = .ok (.invokevirtual 25, 3) := by decide +kernel
theorem dX5_insert_30 : decode cX5_insert 30 = .ok (.invokestatic 29, 3) := by decide +kernel
theorem dX5_insert_33 : decode cX5_insert 33 = .ok (.iload_n 1, 1) := by decide +kernel
theorem dX5_insert_34 : decode cX5_insert 34 = .ok (.invokestatic 29, 3) := by decide +kernel
theorem dX5_insert_37 : decode cX5_insert 37 = .ok (.if_icmp .le 24, 3) := by decide +kernel
theorem dX5_insert_40 : decode cX5_insert 40 = .ok (.aload_n 0, 1) := by decide +kernel
theorem dX5_insert_41 : decode cX5_insert 41 = .ok (.getfield 9, 3) := by decide +kernel
theorem dX5_insert_44 : decode cX5_insert 44 = .ok (.iload_n 2, 1) := by decide +kernel
theorem dX5_insert_45 : decode cX5_insert 45 = .ok (.aload_n 0, 1) := by decide +kernel
theorem dX5_insert_46 : decode cX5_insert 46 = .ok (.iload_n 2, 1) := by decide +kernel
theorem dX5_insert_47 : decode cX5_insert 47 = .ok (.iconst 1, 1) := by decide +kernel
theorem dX5_insert_48 : decode cX5_insert 48 = .ok (.isub, 1) := by decide +kernel
theorem dX5_insert_49 : decode cX5_insert 49 = .ok (.invokevirtual 25, 3) := by decide +kernel
theorem dX5_insert_52 : decode cX5_insert 52 = .ok (.invokestatic 34, 3) := by decide +kernel
theorem dX5_insert_55 : decode cX5_insert 55 = .ok (.iinc 2 (-1), 3) := by decide +kernel
theorem dX5_insert_58 : decode cX5_insert 58 = .ok (.goto (-39), 3) := by decide +kernel
theorem dX5_insert_61 : decode cX5_insert 61 = .ok (.aload_n 0, 1) := by decide +kernel
theorem dX5_insert_62 : decode cX5_insert 62 = .ok (.getfield 9, 3) := by decide +kernel
theorem dX5_insert_65 : decode cX5_insert 65 = .ok (.iload_n 2, 1) := by decide +kernel
theorem dX5_insert_66 : decode cX5_insert 66 = .ok (.iload_n 1, 1) := by decide +kernel
theorem dX5_insert_67 : decode cX5_insert 67 = .ok (.invokestatic 34, 3) := by decide +kernel
theorem dX5_insert_70 : decode cX5_insert 70 = .ok (.aload_n 0, 1) := by decide +kernel
theorem dX5_insert_71 : decode cX5_insert 71 = .ok (.dup, 1) := by decide +kernel
theorem dX5_insert_72 : decode cX5_insert 72 = .ok (.getfield 15, 3) := by decide +kernel
theorem dX5_insert_75 : decode cX5_insert 75 = .ok (.iconst 1, 1) := by decide +kernel
theorem dX5_insert_76 : decode cX5_insert 76 = .ok (.iadd, 1) := by decide +kernel
theorem dX5_insert_77 : decode cX5_insert 77 = .ok (.putfield 15, 3) := by decide +kernel
theorem dX5_insert_80 : decode cX5_insert 80 = .ok (.iload_n 2, 1) := by decide +kernel
theorem dX5_insert_81 : decode cX5_insert 81 = .ok (.ireturn, 1) := by decide +kernel
theorem dX5_takeAway_0 : decode cX5_takeAway 0 = .ok (.iload_n 1, 1) := by decide +kernel
theorem dX5_takeAway_1 : decode cX5_takeAway 1 = .ok (.istore_n 2, 1) := by decide +kernel
theorem dX5_takeAway_2 : decode cX5_takeAway 2 = .ok (.iload_n 2, 1) := by decide +kernel
theorem dX5_takeAway_3 : decode cX5_takeAway 3 = .ok (.iconst 1, 1) := by decide +kernel
theorem dX5_takeAway_4 : decode cX5_takeAway 4 = .ok (.iadd, 1) := by decide +kernel
theorem dX5_takeAway_5 : decode cX5_takeAway 5 = .ok (.aload_n 0, 1) := by decide +kernel
theorem dX5_takeAway_6 : decode cX5_takeAway 6 = .ok (.getfield 15, 3) := by decide +kernel
theorem dX5_takeAway_9 : decode cX5_takeAway 9 = .ok (.if_icmp .ge 24, 3) := by decide +kernel
theorem dX5_takeAway_12 : decode cX5_takeAway 12 = .ok (.aload_n 0, 1) := by decide +kernel
theorem dX5_takeAway_13 : decode cX5_takeAway 13 = .ok (.getfield 9, 3) := by decide +kernel
theorem dX5_takeAway_16 : decode cX5_takeAway 16 = .ok (.iload_n 2, 1) := by decide +kernel
theorem dX5_takeAway_17 : decode cX5_takeAway 17 = .ok (.aload_n 0, 1) := by decide +kernel
theorem dX5_takeAway_18 : decode cX5_takeAway 18 = .ok (.iload_n 2, 1) := by decide +kernel
theorem dX5_takeAway_19 : decode cX5_takeAway 19 = .ok (.iconst 1, 1) := by decide +kernel
theorem dX5_takeAway_20 : decode cX5_takeAway 20 = .ok (.iadd, 1) := by decide +kernel
theorem dX5_takeAway_21 : decode cX5_takeAway 21 = .ok (.invokevirtual 25, 3) := by decide +kernel
theorem dX5_takeAway_24 : decode cX5_takeAway 24 = .ok (.invokestatic 34, 3) := by decide +kernel
theorem dX5_takeAway_27 : decode cX5_takeAway 27 = .ok (.iinc 2 1, 3) := by decide +kernel
theorem dX5_takeAway_30 : decode cX5_takeAway 30 = .ok (.goto (-28), 3) := by decide +kernel
theorem dX5_takeAway_33 : decode cX5_takeAway 33 = .ok (.aload_n 0, 1) := by decide +kernel
theorem dX5_takeAway_34 : decode cX5_takeAway 34 = .ok (.dup, 1) := by decide +kernel
theorem dX5_takeAway_35 : decode cX5_takeAway 35 = .ok (.getfield 15, 3) := by decide +kernel
theorem dX5_takeAway_38 : decode cX5_takeAway 38 = .ok (.iconst 1, 1) := by decide +kernel
theorem dX5_takeAway_39 : decode cX5_takeAway 39 = .ok (.isub, 1) := by decide +kernel
theorem dX5_takeAway_40 : decode cX5_takeAway 40 = .ok (.putfield 15, 3) := by decide +kernel
theorem dX5_takeAway_43 : decode cX5_takeAway 43 = .ok (.return_, 1) := by decide +kernel
theorem dX5_copyFrom_0 : decode cX5_copyFrom 0 = .ok (.aload_n 1, 1) := by decide +kernel
theorem dX5_copyFrom_1 : decode cX5_copyFrom 1 = .ok (.getfield 9, 3) := by decide +kernel
theorem dX5_copyFrom_4 : decode cX5_copyFrom 4 = .ok (.aload_n 0, 1) := by decide +kernel
theorem dX5_copyFrom_5 : decode cX5_copyFrom 5 = .ok (.getfield 9, 3) := by decide +kernel
theorem dX5_copyFrom_8 : decode cX5_copyFrom 8 = .ok (.invokestatic 38, 3) := by decide +kernel
theorem dX5_copyFrom_11 : decode cX5_copyFrom 11 = .ok (.aload_n 0, 1) := by decide +kernel
theorem dX5_copyFrom_12 : decode cX5_copyFrom 12 = .ok (.aload_n 1, 1) := by decide +kernel
theorem dX5_copyFrom_13 : decode cX5_copyFrom 13 = .ok (.getfield 15, 3) := by decide +kernel
theorem dX5_copyFrom_16 : decode cX5_copyFrom 16 = .ok (.putfield 15, 3) := by decide +kernel
theorem dX5_copyFrom_19 : decode cX5_copyFrom 19 = .ok (.return_, 1) := by decide +kernel
theorem dX6_init_0 : decode cX6_init 0 = .ok (.aload_n 0, 1) := by decide +kernel
theorem dX6_init_1 : decode cX6_init 1 = .ok (.invokespecial 3, 3) := by decide +kernel
theorem dX6_init_4 : decode cX6_init 4 = .ok (.aload_n 0, 1) := by decide +kernel
theorem dX6_init_5 : decode cX6_init 5 = .ok (.bipush 10, 2) := by decide +kernel
theorem dX6_init_7 : decode cX6_init 7 = .ok (.newarray .int, 2) := by decide +kernel
theorem dX6_init_9 : decode cX6_init 9 = .ok (.putfield 11, 3) := by decide +kernel
theorem dX6_init_12 : decode cX6_init 12 = .ok (.aload_n 0, 1) := by decide +kernel
theorem dX6_init_13 : decode cX6_init 13 = .ok (.iconst 0, 1) := by decide +kernel
theorem dX6_init_14 : decode cX6_init 14 = .ok (.putfield 15, 3) := by decide +kernel
theorem dX6_init_17 : decode cX6_init 17 = .ok (.aload_n 0, 1) := by decide +kernel
theorem dX6_init_18 : decode cX6_init 18 = .ok (.iconst 0, 1) := by decide +kernel
theorem dX6_init_19 : decode cX6_init 19 = .ok (.putfield 19, 3) := by decide +kernel
theorem dX6_init_22 : decode cX6_init 22 = .ok (.aload_n 0, 1) := by decide +kernel
theorem dX6_init_23 : decode cX6_init 23 = .ok (.iconst 0, 1) := by decide +kernel
theorem dX6_init_24 : decode cX6_init 24 = .ok (.putfield 22, 3) := by decide +kernel
theorem dX6_init_27 : decode cX6_init 27 = .ok (.aload_n 0, 1) := by decide +kernel
theorem dX6_init_28 : decode cX6_init 28 = .ok (.iconst 0, 1) := by decide +kernel
theorem dX6_init_29 : decode cX6_init 29 = .ok (.putfield 25, 3) := by decide +kernel
theorem dX6_init_32 : decode cX6_init 32 = .ok (.aload_n 0, 1) := by decide +kernel
theorem dX6_init_33 : decode cX6_init 33 = .ok (.iconst 0, 1) := by decide +kernel
theorem dX6_init_34 : decode cX6_init 34 = .ok (.putfield 28, 3) := by decide +kernel
theorem dX6_init_37 : decode cX6_init 37 = .ok (.aload_n 0, 1) := by decide +kernel
theorem dX6_init_38 : decode cX6_init 38 = .ok (.iconst 0, 1) := by decide +kernel
theorem dX6_init_39 : decode cX6_init 39 = .ok (.putfield 31, 3) := by decide +kernel
theorem dX6_init_42 : decode cX6_init 42 = .ok (.aload_n 0, 1) := by decide +kernel
theorem dX6_init_43 : decode cX6_init 43 = .ok (.iconst 0, 1) := by decide +kernel
theorem dX6_init_44 : decode cX6_init 44 = .ok (.putfield 34, 3) := by decide +kernel
theorem dX6_init_47 : decode cX6_init 47 = .ok (.return_, 1) := by decide +kernel
theorem dX6_readUpTo_0 : decode cX6_readUpTo 0 = .ok (.aload_n 0, 1) := by decide +kernel
theorem dX6_readUpTo_1 : decode cX6_readUpTo 1 = .ok (.iconst 0, 1) := by decide +kernel
theorem dX6_readUpTo_2 : decode cX6_readUpTo 2 = .ok (.putfield 15, 3) := by decide +kernel
theorem dX6_readUpTo_5 : decode cX6_readUpTo 5 = .ok (.aload_n 0, 1) := by decide +kernel
theorem dX6_readUpTo_6 : decode cX6_readUpTo 6 = .ok (.iconst 0, 1) := by decide +kernel
theorem dX6_readUpTo_7 : decode cX6_readUpTo 7 = .ok (.putfield 19, 3) := by decide +kernel
theorem dX6_readUpTo_10 : decode cX6_readUpTo 10 = .ok (.iconst 0, 1) := by decide +kernel
theorem dX6_readUpTo_11 : decode cX6_readUpTo 11 = .ok (.istore_n 3, 1) := by decide +kernel
theorem dX6_readUpTo_12 : decode cX6_readUpTo 12 = .ok (.iload_n 3, 1) := by decide +kernel
theorem dX6_readUpTo_13 : decode cX6_readUpTo 13 = .ok (.iload_n 2, 1) := by decide +kernel
theorem dX6_readUpTo_14 : decode cX6_readUpTo 14 = .ok (.if_icmp .ge 23, 3) := by decide +kernel
theorem dX6_readUpTo_17 : decode cX6_readUpTo 17 = .ok (.aload_n 0, 1) := by decide +kernel
theorem dX6_readUpTo_18 : decode cX6_readUpTo 18 = .ok (.aload_n 1, 1) := by decide +kernel
theorem dX6_readUpTo_19 : decode cX6_readUpTo 19 = .ok (.iload_n 3, 1) := by decide +kernel
theorem dX6_readUpTo_20 : decode cX6_readUpTo 20 = .ok (.invokestatic 38, 3) := by decide +kernel
theorem dX6_readUpTo_23 : decode cX6_readUpTo 23 = .ok (.invokevirtual 44, 3) := by decide +kernel
theorem dX6_readUpTo_26 : decode cX6_readUpTo 26 = .ok (.ifCond .ne 5, 3) := by decide +kernel
theorem dX6_readUpTo_29 : decode cX6_readUpTo 29 = .ok (.iload_n 3, 1) := by decide +kernel
theorem dX6_readUpTo_30 : decode cX6_readUpTo 30 = .ok (.ireturn, 1) := by decide +kernel
theorem dX6_readUpTo_31 : decode cX6_readUpTo 31 = .ok (.iinc 3 1, 3) := by decide +kernel
theorem dX6_readUpTo_34 : decode cX6_readUpTo 34 = .ok (.goto (-22), 3) := by decide +kernel
theorem dX6_readUpTo_37 : decode cX6_readUpTo 37 = .ok (.iload_n 2, 1) := by decide +kernel
theorem dX6_readUpTo_38 : decode cX6_readUpTo 38 = .ok (.ireturn, 1) := by decide +kernel
theorem dX6_isWhole_0 : decode cX6_isWhole 0 = .ok (.aload_n 0, 1) := by decide +kernel
theorem dX6_isWhole_1 : decode cX6_isWhole 1 = .ok (.getfield 19, 3) := by decide +kernel
theorem dX6_isWhole_4 : decode cX6_isWhole 4 = .ok (.bipush 7, 2) := by decide +kernel
theorem dX6_isWhole_6 : decode cX6_isWhole 6 = .ok (.if_icmp .ne 7, 3) := by decide +kernel
theorem dX6_isWhole_9 : decode cX6_isWhole 9 = .ok (.iconst 1, 1) := by decide +kernel
theorem dX6_isWhole_10 : decode cX6_isWhole 10 = .ok (.goto 4, 3) := by decide +kernel
theorem dX6_isWhole_13 : decode cX6_isWhole 13 = .ok (.iconst 0, 1) := by decide +kernel
theorem dX6_isWhole_14 : decode cX6_isWhole 14 = .ok (.ireturn, 1) := by decide +kernel
theorem dX6_takes_0 : decode cX6_takes 0 = .ok (.aload_n 0, 1) := by decide +kernel
theorem dX6_takes_1 : decode cX6_takes 1 = .ok (.getfield 19, 3) := by decide +kernel
theorem dX6_takes_4 : decode cX6_takes 4 = .ok (.tableswitch 192 0 6 #[44, 66, 83, 90, 121, 128, 183], 44) := by decide +kernel
theorem dX6_takes_48 : decode cX6_takes 48 = .ok (.aload_n 0, 1) := by decide +kernel
theorem dX6_takes_49 : decode cX6_takes 49 = .ok (.iload_n 1, 1) := by decide +kernel
theorem dX6_takes_50 : decode cX6_takes 50 = .ok (.bipush 48, 2) := by decide +kernel
theorem dX6_takes_52 : decode cX6_takes 52 = .ok (.isub, 1) := by decide +kernel
theorem dX6_takes_53 : decode cX6_takes 53 = .ok (.putfield 25, 3) := by decide +kernel
theorem dX6_takes_56 : decode cX6_takes 56 = .ok (.aload_n 0, 1) := by decide +kernel
theorem dX6_takes_57 : decode cX6_takes 57 = .ok (.aload_n 0, 1) := by decide +kernel
theorem dX6_takes_58 : decode cX6_takes 58 = .ok (.getfield 25, 3) := by decide +kernel
theorem dX6_takes_61 : decode cX6_takes 61 = .ok (.iconst 4, 1) := by decide +kernel
theorem dX6_takes_62 : decode cX6_takes 62 = .ok (.invokestatic 48, 3) := by decide +kernel
theorem dX6_takes_65 : decode cX6_takes 65 = .ok (.iconst 1, 1) := by decide +kernel
theorem dX6_takes_66 : decode cX6_takes 66 = .ok (.invokevirtual 52, 3) := by decide +kernel
theorem dX6_takes_69 : decode cX6_takes 69 = .ok (.ireturn, 1) := by decide +kernel
theorem dX6_takes_70 : decode cX6_takes 70 = .ok (.aload_n 0, 1) := by decide +kernel
theorem dX6_takes_71 : decode cX6_takes 71 = .ok (.iload_n 1, 1) := by decide +kernel
theorem dX6_takes_72 : decode cX6_takes 72 = .ok (.bipush 100, 2) := by decide +kernel
theorem dX6_takes_74 : decode cX6_takes 74 = .ok (.if_icmp .ne 7, 3) := by decide +kernel
theorem dX6_takes_77 : decode cX6_takes 77 = .ok (.iconst 1, 1) := by decide +kernel
theorem dX6_takes_78 : decode cX6_takes 78 = .ok (.goto 4, 3) := by decide +kernel
theorem dX6_takes_81 : decode cX6_takes 81 = .ok (.iconst 0, 1) := by decide +kernel
theorem dX6_takes_82 : decode cX6_takes 82 = .ok (.iconst 2, 1) := by decide +kernel
theorem dX6_takes_83 : decode cX6_takes 83 = .ok (.invokevirtual 52, 3) := by decide +kernel
theorem dX6_takes_86 : decode cX6_takes 86 = .ok (.ireturn, 1) := by decide +kernel
theorem dX6_takes_87 : decode cX6_takes 87 = .ok (.aload_n 0, 1) := by decide +kernel
theorem dX6_takes_88 : decode cX6_takes 88 = .ok (.iload_n 1, 1) := by decide +kernel
theorem dX6_takes_89 : decode cX6_takes 89 = .ok (.iconst 3, 1) := by decide +kernel
theorem dX6_takes_90 : decode cX6_takes 90 = .ok (.invokevirtual 56, 3) := by decide +kernel
theorem dX6_takes_93 : decode cX6_takes 93 = .ok (.ireturn, 1) := by decide +kernel
theorem dX6_takes_94 : decode cX6_takes 94 = .ok (.aload_n 0, 1) := by decide +kernel
theorem dX6_takes_95 : decode cX6_takes 95 = .ok (.aload_n 0, 1) := by decide +kernel
theorem dX6_takes_96 : decode cX6_takes 96 = .ok (.getfield 22, 3) := by decide +kernel
theorem dX6_takes_99 : decode cX6_takes 99 = .ok (.putfield 28, 3) := by decide +kernel
theorem dX6_takes_102 : decode cX6_takes 102 = .ok (.iload_n 1, 1) := by decide +kernel
theorem dX6_takes_103 : decode cX6_takes 103 = .ok (.bipush 58, 2) := by decide +kernel
theorem dX6_takes_105 : decode cX6_takes 105 = .ok (.if_icmp .ne 12, 3) := by decide +kernel
theorem dX6_takes_108 : decode cX6_takes 108 = .ok (.aload_n 0, 1) := by decide +kernel
theorem dX6_takes_109 : decode cX6_takes 109 = .ok (.iconst 1, 1) := by decide +kernel
theorem dX6_takes_110 : decode cX6_takes 110 = .ok (.iconst 4, 1) := by decide +kernel
theorem dX6_takes_111 : decode cX6_takes 111 = .ok (.invokevirtual 52, 3) := by decide +kernel
theorem dX6_takes_114 : decode cX6_takes 114 = .ok (.goto 10, 3) := by decide +kernel
theorem dX6_takes_117 : decode cX6_takes 117 = .ok (.aload_n 0, 1) := by decide +kernel
theorem dX6_takes_118 : decode cX6_takes 118 = .ok (.iload_n 1, 1) := by decide +kernel
theorem dX6_takes_119 : decode cX6_takes 119 = .ok (.bipush 28, 2) := by decide +kernel
theorem dX6_takes_121 : decode cX6_takes 121 = .ok (.invokevirtual 59, 3) := by decide +kernel
theorem dX6_takes_124 : decode cX6_takes 124 = .ok (.ireturn, 1) := by decide +kernel
theorem dX6_takes_125 : decode cX6_takes 125 = .ok (.aload_n 0, 1) := by decide +kernel
theorem dX6_takes_126 : decode cX6_takes 126 = .ok (.iload_n 1, 1) := by decide +kernel
theorem dX6_takes_127 : decode cX6_takes 127 = .ok (.iconst 5, 1) := by decide +kernel
theorem dX6_takes_128 : decode cX6_takes 128 = .ok (.invokevirtual 56, 3) := by decide +kernel
theorem dX6_takes_131 : decode cX6_takes 131 = .ok (.ireturn, 1) := by decide +kernel
theorem dX6_takes_132 : decode cX6_takes 132 = .ok (.aload_n 0, 1) := by decide +kernel
theorem dX6_takes_133 : decode cX6_takes 133 = .ok (.aload_n 0, 1) := by decide +kernel
theorem dX6_takes_134 : decode cX6_takes 134 = .ok (.getfield 22, 3) := by decide +kernel
theorem dX6_takes_137 : decode cX6_takes 137 = .ok (.putfield 31, 3) := by decide +kernel
theorem dX6_takes_140 : decode cX6_takes 140 = .ok (.aload_n 0, 1) := by decide +kernel
theorem dX6_takes_141 : decode cX6_takes 141 = .ok (.iload_n 1, 1) := by decide +kernel
theorem dX6_takes_142 : decode cX6_takes 142 = .ok (.bipush 43, 2) := by decide +kernel
theorem dX6_takes_144 : decode cX6_takes 144 = .ok (.if_icmp .ne 7, 3) := by decide +kernel
theorem dX6_takes_147 : decode cX6_takes 147 = .ok (.iconst 1, 1) := by decide +kernel
theorem dX6_takes_148 : decode cX6_takes 148 = .ok (.goto 4, 3) := by decide +kernel
theorem dX6_takes_151 : decode cX6_takes 151 = .ok (.iconst 0, 1) := by decide +kernel
theorem dX6_takes_152 : decode cX6_takes 152 = .ok (.putfield 34, 3) := by decide +kernel
theorem dX6_takes_155 : decode cX6_takes 155 = .ok (.aload_n 0, 1) := by decide +kernel
theorem dX6_takes_156 : decode cX6_takes 156 = .ok (.getfield 34, 3) := by decide +kernel
theorem dX6_takes_159 : decode cX6_takes 159 = .ok (.ifCond .ne 9, 3) := by decide +kernel
theorem dX6_takes_162 : decode cX6_takes 162 = .ok (.iload_n 1, 1) := by decide +kernel
theorem dX6_takes_163 : decode cX6_takes 163 = .ok (.bipush 45, 2) := by decide +kernel
theorem dX6_takes_165 : decode cX6_takes 165 = .ok (.if_icmp .ne 13, 3) := by decide +kernel
theorem dX6_takes_168 : decode cX6_takes 168 = .ok (.aload_n 0, 1) := by decide +kernel
theorem dX6_takes_169 : decode cX6_takes 169 = .ok (.iconst 1, 1) := by decide +kernel
theorem dX6_takes_170 : decode cX6_takes 170 = .ok (.bipush 6, 2) := by decide +kernel
theorem dX6_takes_172 : decode cX6_takes 172 = .ok (.invokevirtual 52, 3) := by decide +kernel
theorem dX6_takes_175 : decode cX6_takes 175 = .ok (.goto 11, 3) := by decide +kernel
theorem dX6_takes_178 : decode cX6_takes 178 = .ok (.aload_n 0, 1) := by decide +kernel
theorem dX6_takes_179 : decode cX6_takes 179 = .ok (.iload_n 1, 1) := by decide +kernel
theorem dX6_takes_180 : decode cX6_takes 180 = .ok (.sipush 1440, 3) := by decide +kernel
theorem dX6_takes_183 : decode cX6_takes 183 = .ok (.invokevirtual 59, 3) := by decide +kernel
theorem dX6_takes_186 : decode cX6_takes 186 = .ok (.ireturn, 1) := by decide +kernel
theorem dX6_takes_187 : decode cX6_takes 187 = .ok (.aload_n 0, 1) := by decide +kernel
theorem dX6_takes_188 : decode cX6_takes 188 = .ok (.iload_n 1, 1) := by decide +kernel
theorem dX6_takes_189 : decode cX6_takes 189 = .ok (.bipush 48, 2) := by decide +kernel
theorem dX6_takes_191 : decode cX6_takes 191 = .ok (.isub, 1) := by decide +kernel
theorem dX6_takes_192 : decode cX6_takes 192 = .ok (.invokevirtual 62, 3) := by decide +kernel
theorem dX6_takes_195 : decode cX6_takes 195 = .ok (.ireturn, 1) := by decide +kernel
theorem dX6_takes_196 : decode cX6_takes 196 = .ok (.aload_n 0, 1) := by decide +kernel
theorem dX6_takes_197 : decode cX6_takes 197 = .ok (.iload_n 1, 1) := by decide +kernel
theorem dX6_takes_198 : decode cX6_takes 198 = .ok (.bipush 59, 2) := by decide +kernel
theorem dX6_takes_200 : decode cX6_takes 200 = .ok (.if_icmp .ne 7, 3) := by decide +kernel
theorem dX6_takes_203 : decode cX6_takes 203 = .ok (.iconst 1, 1) := by decide +kernel
theorem dX6_takes_204 : decode cX6_takes 204 = .ok (.goto 4, 3) := by decide +kernel
theorem dX6_takes_207 : decode cX6_takes 207 = .ok (.iconst 0, 1) := by decide +kernel
theorem dX6_takes_208 : decode cX6_takes 208 = .ok (.iconst 0, 1) := by decide +kernel
theorem dX6_takes_209 : decode cX6_takes 209 = .ok (.invokevirtual 52, 3) := by decide +kernel
theorem dX6_takes_212 : decode cX6_takes 212 = .ok (.ireturn, 1) := by decide +kernel
theorem dX6_goesOn_0 : decode cX6_goesOn 0 = .ok (.iload_n 1, 1) := by decide +kernel
theorem dX6_goesOn_1 : decode cX6_goesOn 1 = .ok (.ifCond .eq 8, 3) := by decide +kernel
theorem dX6_goesOn_4 : decode cX6_goesOn 4 = .ok (.aload_n 0, 1) := by decide +kernel
theorem dX6_goesOn_5 : decode cX6_goesOn 5 = .ok (.iload_n 2, 1) := by decide +kernel
theorem dX6_goesOn_6 : decode cX6_goesOn 6 = .ok (.putfield 19, 3) := by decide +kernel
theorem dX6_goesOn_9 : decode cX6_goesOn 9 = .ok (.iload_n 1, 1) := by decide +kernel
theorem dX6_goesOn_10 : decode cX6_goesOn 10 = .ok (.ireturn, 1) := by decide +kernel
theorem dX6_startsNumber_0 : decode cX6_startsNumber 0 = .ok (.aload_n 0, 1) := by decide +kernel
theorem dX6_startsNumber_1 : decode cX6_startsNumber 1 = .ok (.iload_n 1, 1) := by decide +kernel
theorem dX6_startsNumber_2 : decode cX6_startsNumber 2 = .ok (.bipush 48, 2) := by decide +kernel
theorem dX6_startsNumber_4 : decode cX6_startsNumber 4 = .ok (.isub, 1) := by decide +kernel
theorem dX6_startsNumber_5 : decode cX6_startsNumber 5 = .ok (.putfield 22, 3) := by decide +kernel
theorem dX6_startsNumber_8 : decode cX6_startsNumber 8 = .ok (.aload_n 0, 1) := by decide +kernel
theorem dX6_startsNumber_9 : decode cX6_startsNumber 9 = .ok (.aload_n 0, 1) := by decide +kernel
theorem dX6_startsNumber_10 : decode cX6_startsNumber 10 = .ok (.getfield 22, 3) := by decide +kernel
theorem dX6_startsNumber_13 : decode cX6_startsNumber 13 = .ok (.bipush 10, 2) := by decide +kernel
theorem dX6_startsNumber_15 : decode cX6_startsNumber 15 = .ok (.invokestatic 48, 3) := by decide +kernel
theorem dX6_startsNumber_18 : decode cX6_startsNumber 18 = .ok (.iload_n 2, 1) := by decide +kernel
theorem dX6_startsNumber_19 : decode cX6_startsNumber 19 = .ok (.invokevirtual 52, 3) := by decide +kernel
theorem dX6_startsNumber_22 : decode cX6_startsNumber 22 = .ok (.ireturn, 1) := by decide +kernel
theorem dX6_lengthensNumber_0 : decode cX6_lengthensNumber 0 = .ok (.iload_n 1, 1) := by decide +kernel
theorem dX6_lengthensNumber_1 : decode cX6_lengthensNumber 1 = .ok (.bipush 48, 2) := by decide +kernel
theorem dX6_lengthensNumber_3 : decode cX6_lengthensNumber 3 = .ok (.isub, 1) := by decide +kernel
theorem dX6_lengthensNumber_4 : decode cX6_lengthensNumber 4 = .ok (.istore_n 3, 1) := by decide +kernel
theorem dX6_lengthensNumber_5 : decode cX6_lengthensNumber 5 = .ok (.iload_n 3, 1) := by decide +kernel
theorem dX6_lengthensNumber_6 : decode cX6_lengthensNumber 6 = .ok (.bipush 10, 2) := by decide +kernel
theorem dX6_lengthensNumber_8 : decode cX6_lengthensNumber 8 = .ok (.invokestatic 48, 3) := by decide +kernel
theorem dX6_lengthensNumber_11 : decode cX6_lengthensNumber 11 = .ok (.ifCond .eq 26, 3) := by decide +kernel
theorem dX6_lengthensNumber_14 : decode cX6_lengthensNumber 14 = .ok (.aload_n 0, 1) := by decide +kernel
theorem dX6_lengthensNumber_15 : decode cX6_lengthensNumber 15 = .ok (.getfield 22, 3) := by decide +kernel
theorem dX6_lengthensNumber_18 : decode cX6_lengthensNumber 18 = .ok (.ifCond .eq 19, 3) := by decide +kernel
theorem dX6_lengthensNumber_21 : decode cX6_lengthensNumber 21 = .ok (.aload_n 0, 1) := by decide +kernel
theorem dX6_lengthensNumber_22 : decode cX6_lengthensNumber 22 = .ok (.getfield 22, 3) := by decide +kernel
theorem dX6_lengthensNumber_25 : decode cX6_lengthensNumber 25 = .ok (.bipush 10, 2) := by decide +kernel
theorem dX6_lengthensNumber_27 : decode cX6_lengthensNumber 27 = .ok (.imul, 1) := by decide +kernel
theorem dX6_lengthensNumber_28 : decode cX6_lengthensNumber 28 = .ok (.iload_n 3, 1) := by decide +kernel
theorem dX6_lengthensNumber_29 : decode cX6_lengthensNumber 29 = .ok (.iadd, 1) := by decide +kernel
theorem dX6_lengthensNumber_30 : decode cX6_lengthensNumber 30 = .ok (.iload_n 2, 1) := by decide +kernel
theorem dX6_lengthensNumber_31 : decode cX6_lengthensNumber 31 = .ok (.invokestatic 48, 3) := by decide +kernel
theorem dX6_lengthensNumber_34 : decode cX6_lengthensNumber 34 = .ok (.ifCond .ne 5, 3) := by decide +kernel
theorem dX6_lengthensNumber_37 : decode cX6_lengthensNumber 37 = .ok (.iconst 0, 1) := by decide +kernel
theorem dX6_lengthensNumber_38 : decode cX6_lengthensNumber 38 = .ok (.ireturn, 1) := by decide +kernel
theorem dX6_lengthensNumber_39 : decode cX6_lengthensNumber 39 = .ok (.aload_n 0, 1) := by decide +kernel
theorem dX6_lengthensNumber_40 : decode cX6_lengthensNumber 40 = .ok (.aload_n 0, 1) := by decide +kernel
theorem dX6_lengthensNumber_41 : decode cX6_lengthensNumber 41 = .ok (.getfield 22, 3) := by decide +kernel
theorem dX6_lengthensNumber_44 : decode cX6_lengthensNumber 44 = .ok (.bipush 10, 2) := by decide +kernel
theorem dX6_lengthensNumber_46 : decode cX6_lengthensNumber 46 = .ok (.imul, 1) := by decide +kernel
theorem dX6_lengthensNumber_47 : decode cX6_lengthensNumber 47 = .ok (.iload_n 3, 1) := by decide +kernel
theorem dX6_lengthensNumber_48 : decode cX6_lengthensNumber 48 = .ok (.iadd, 1) := by decide +kernel
theorem dX6_lengthensNumber_49 : decode cX6_lengthensNumber 49 = .ok (.putfield 22, 3) := by decide +kernel
theorem dX6_lengthensNumber_52 : decode cX6_lengthensNumber 52 = .ok (.iconst 1, 1) := by decide +kernel
theorem dX6_lengthensNumber_53 : decode cX6_lengthensNumber 53 = .ok (.ireturn, 1) := by decide +kernel
theorem dX6_endsTap_0 : decode cX6_endsTap 0 = .ok (.iload_n 1, 1) := by decide +kernel
theorem dX6_endsTap_1 : decode cX6_endsTap 1 = .ok (.bipush 10, 2) := by decide +kernel
theorem dX6_endsTap_3 : decode cX6_endsTap 3 = .ok (.invokestatic 48, 3) := by decide +kernel
theorem dX6_endsTap_6 : decode cX6_endsTap 6 = .ok (.ifCond .ne 5, 3) := by decide +kernel
theorem dX6_endsTap_9 : decode cX6_endsTap 9 = .ok (.iconst 0, 1) := by decide +kernel
theorem dX6_endsTap_10 : decode cX6_endsTap 10 = .ok (.ireturn, 1) := by decide +kernel
theorem dX6_endsTap_11 : decode cX6_endsTap 11 = .ok (.aload_n 0, 1) := by decide +kernel
theorem dX6_endsTap_12 : decode cX6_endsTap 12 = .ok (.getfield 11, 3) := by decide +kernel
theorem dX6_endsTap_15 : decode cX6_endsTap 15 = .ok (.aload_n 0, 1) := by decide +kernel
theorem dX6_endsTap_16 : decode cX6_endsTap 16 = .ok (.getfield 15, 3) := by decide +kernel
theorem dX6_endsTap_19 : decode cX6_endsTap 19 = .ok (.aload_n 0, 1) := by decide +kernel
theorem dX6_endsTap_20 : decode cX6_endsTap 20 = .ok (.getfield 25, 3) := by decide +kernel
theorem dX6_endsTap_23 : decode cX6_endsTap 23 = .ok (.aload_n 0, 1) := by decide +kernel
theorem dX6_endsTap_24 : decode cX6_endsTap 24 = .ok (.getfield 28, 3) := by decide +kernel
theorem dX6_endsTap_27 : decode cX6_endsTap 27 = .ok (.aload_n 0, 1) := by decide +kernel
theorem dX6_endsTap_28 : decode cX6_endsTap 28 = .ok (.getfield 31, 3) := by decide +kernel
theorem dX6_endsTap_31 : decode cX6_endsTap 31 = .ok (.iload_n 1, 1) := by decide +kernel
theorem dX6_endsTap_32 : decode cX6_endsTap 32 = .ok (.aload_n 0, 1) := by decide +kernel
theorem dX6_endsTap_33 : decode cX6_endsTap 33 = .ok (.getfield 34, 3) := by decide +kernel
theorem dX6_endsTap_36 : decode cX6_endsTap 36 = .ok (.invokestatic 65, 3) := by decide +kernel
theorem dX6_endsTap_39 : decode cX6_endsTap 39 = .ok (.invokestatic 71, 3) := by decide +kernel
theorem dX6_endsTap_42 : decode cX6_endsTap 42 = .ok (.aload_n 0, 1) := by decide +kernel
theorem dX6_endsTap_43 : decode cX6_endsTap 43 = .ok (.dup, 1) := by decide +kernel
theorem dX6_endsTap_44 : decode cX6_endsTap 44 = .ok (.getfield 15, 3) := by decide +kernel
theorem dX6_endsTap_47 : decode cX6_endsTap 47 = .ok (.iconst 1, 1) := by decide +kernel
theorem dX6_endsTap_48 : decode cX6_endsTap 48 = .ok (.iadd, 1) := by decide +kernel
theorem dX6_endsTap_49 : decode cX6_endsTap 49 = .ok (.putfield 15, 3) := by decide +kernel
theorem dX6_endsTap_52 : decode cX6_endsTap 52 = .ok (.aload_n 0, 1) := by decide +kernel
theorem dX6_endsTap_53 : decode cX6_endsTap 53 = .ok (.bipush 7, 2) := by decide +kernel
theorem dX6_endsTap_55 : decode cX6_endsTap 55 = .ok (.putfield 19, 3) := by decide +kernel
theorem dX6_endsTap_58 : decode cX6_endsTap 58 = .ok (.iconst 1, 1) := by decide +kernel
theorem dX6_endsTap_59 : decode cX6_endsTap 59 = .ok (.ireturn, 1) := by decide +kernel
