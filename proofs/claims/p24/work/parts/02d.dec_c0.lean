/-! decode rows, printed by program -/
theorem dX7_init_0 : decode cX7_init 0 = .ok (.aload_n 0, 1) := by decide +kernel
theorem dX7_init_1 : decode cX7_init 1 = .ok (.invokespecial 1, 3) := by decide +kernel
theorem dX7_init_4 : decode cX7_init 4 = .ok (.aload_n 0, 1) := by decide +kernel
theorem dX7_init_5 : decode cX7_init 5 = .ok (.new 7, 3) := by decide +kernel
theorem dX7_init_8 : decode cX7_init 8 = .ok (.dup, 1) := by decide +kernel
theorem dX7_init_9 : decode cX7_init 9 = .ok (.invokespecial 9, 3) := by decide +kernel
theorem dX7_init_12 : decode cX7_init 12 = .ok (.putfield 10, 3) := by decide +kernel
theorem dX7_init_15 : decode cX7_init 15 = .ok (.aload_n 0, 1) := by decide +kernel
theorem dX7_init_16 : decode cX7_init 16 = .ok (.new 16, 3) := by decide +kernel
theorem dX7_init_19 : decode cX7_init 19 = .ok (.dup, 1) := by decide +kernel
theorem dX7_init_20 : decode cX7_init 20 = .ok (.invokespecial 18, 3) := by decide +kernel
theorem dX7_init_23 : decode cX7_init 23 = .ok (.putfield 19, 3) := by decide +kernel
theorem dX7_init_26 : decode cX7_init 26 = .ok (.aload_n 0, 1) := by decide +kernel
theorem dX7_init_27 : decode cX7_init 27 = .ok (.new 23, 3) := by decide +kernel
theorem dX7_init_30 : decode cX7_init 30 = .ok (.dup, 1) := by decide +kernel
theorem dX7_init_31 : decode cX7_init 31 = .ok (.invokespecial 25, 3) := by decide +kernel
theorem dX7_init_34 : decode cX7_init 34 = .ok (.putfield 26, 3) := by decide +kernel
theorem dX7_init_37 : decode cX7_init 37 = .ok (.aload_n 0, 1) := by decide +kernel
theorem dX7_init_38 : decode cX7_init 38 = .ok (.new 30, 3) := by decide +kernel
theorem dX7_init_41 : decode cX7_init 41 = .ok (.dup, 1) := by decide +kernel
theorem dX7_init_42 : decode cX7_init 42 = .ok (.invokespecial 32, 3) := by decide +kernel
theorem dX7_init_45 : decode cX7_init 45 = .ok (.putfield 33, 3) := by decide +kernel
theorem dX7_init_48 : decode cX7_init 48 = .ok (.aload_n 0, 1) := by decide +kernel
theorem dX7_init_49 : decode cX7_init 49 = .ok (.new 16, 3) := by decide +kernel
theorem dX7_init_52 : decode cX7_init 52 = .ok (.dup, 1) := by decide +kernel
theorem dX7_init_53 : decode cX7_init 53 = .ok (.invokespecial 18, 3) := by decide +kernel
theorem dX7_init_56 : decode cX7_init 56 = .ok (.putfield 37, 3) := by decide +kernel
theorem dX7_init_59 : decode cX7_init 59 = .ok (.aload_n 0, 1) := by decide +kernel
theorem dX7_init_60 : decode cX7_init 60 = .ok (.bipush 60, 2) := by decide +kernel
theorem dX7_init_62 : decode cX7_init 62 = .ok (.newarray .int, 2) := by decide +kernel
theorem dX7_init_64 : decode cX7_init 64 = .ok (.putfield 40, 3) := by decide +kernel
theorem dX7_init_67 : decode cX7_init 67 = .ok (.aload_n 0, 1) := by decide +kernel
theorem dX7_init_68 : decode cX7_init 68 = .ok (.iconst 0, 1) := by decide +kernel
theorem dX7_init_69 : decode cX7_init 69 = .ok (.putfield 44, 3) := by decide +kernel
theorem dX7_init_72 : decode cX7_init 72 = .ok (.aload_n 0, 1) := by decide +kernel
theorem dX7_init_73 : decode cX7_init 73 = .ok (.new 48, 3) := by decide +kernel
theorem dX7_init_76 : decode cX7_init 76 = .ok (.dup, 1) := by decide +kernel
theorem dX7_init_77 : decode cX7_init 77 = .ok (.invokespecial 50, 3) := by decide +kernel
theorem dX7_init_80 : decode cX7_init 80 = .ok (.putfield 51, 3) := by decide +kernel
theorem dX7_init_83 : decode cX7_init 83 = .ok (.aload_n 0, 1) := by decide +kernel
theorem dX7_init_84 : decode cX7_init 84 = .ok (.getfield 19, 3) := by decide +kernel
theorem dX7_init_87 : decode cX7_init 87 = .ok (.aload_n 0, 1) := by decide +kernel
theorem dX7_init_88 : decode cX7_init 88 = .ok (.getfield 10, 3) := by decide +kernel
theorem dX7_init_91 : decode cX7_init 91 = .ok (.getfield 55, 3) := by decide +kernel
theorem dX7_init_94 : decode cX7_init 94 = .ok (.aload_n 0, 1) := by decide +kernel
theorem dX7_init_95 : decode cX7_init 95 = .ok (.getfield 10, 3) := by decide +kernel
theorem dX7_init_98 : decode cX7_init 98 = .ok (.getfield 58, 3) := by decide +kernel
theorem dX7_init_101 : decode cX7_init 101 = .ok (.invokevirtual 61, 3) := by decide +kernel
theorem dX7_init_104 : decode cX7_init 104 = .ok (.return_, 1) := by decide +kernel
theorem dX7_tap_0 : decode cX7_tap 0 = .ok (.iload_n 1, 1) := by decide +kernel
theorem dX7_tap_1 : decode cX7_tap 1 = .ok (.iload_n 2, 1) := by decide +kernel
theorem dX7_tap_2 : decode cX7_tap 2 = .ok (.invokestatic 65, 3) := by decide +kernel
theorem dX7_tap_5 : decode cX7_tap 5 = .ok (.ifCond .eq 12, 3) := by decide +kernel
theorem dX7_tap_8 : decode cX7_tap 8 = .ok (.iload_n 3, 1) := by decide +kernel
theorem dX7_tap_9 : decode cX7_tap 9 = .ok (.iload 4, 2) := by decide +kernel
theorem dX7_tap_11 : decode cX7_tap 11 = .ok (.invokestatic 69, 3) := by decide +kernel
theorem dX7_tap_14 : decode cX7_tap 14 = .ok (.ifCond .ne 13, 3) := by decide +kernel
theorem dX7_tap_17 : decode cX7_tap 17 = .ok (.new 72, 3) := by decide +kernel
theorem dX7_tap_20 : decode cX7_tap 20 = .ok (.dup, 1) := by decide +kernel
theorem dX7_tap_21 : decode cX7_tap 21 = .ok (.ldc 74, 2) := by decide +kernel
theorem dX7_tap_23 : decode cX7_tap 23 = .ok (.invokespecial 76, 3) := by decide +kernel
theorem dX7_tap_26 : decode cX7_tap 26 = .ok (.athrow, 1) := by decide +kernel
theorem dX7_tap_27 : decode cX7_tap 27 = .ok (.aload_n 0, 1) := by decide +kernel
theorem dX7_tap_28 : decode cX7_tap 28 = .ok (.getfield 10, 3) := by decide +kernel
theorem dX7_tap_31 : decode cX7_tap 31 = .ok (.getfield 55, 3) := by decide +kernel
theorem dX7_tap_34 : decode cX7_tap 34 = .ok (.getfield 79, 3) := by decide +kernel
theorem dX7_tap_37 : decode cX7_tap 37 = .ok (.bipush 60, 2) := by decide +kernel
theorem dX7_tap_39 : decode cX7_tap 39 = .ok (.if_icmp .lt 13, 3) := by decide +kernel
theorem dX7_tap_42 : decode cX7_tap 42 = .ok (.new 82, 3) := by decide +kernel
theorem dX7_tap_45 : decode cX7_tap 45 = .ok (.dup, 1) := by decide +kernel
theorem dX7_tap_46 : decode cX7_tap 46 = .ok (.ldc 84, 2) := by decide +kernel
theorem dX7_tap_48 : decode cX7_tap 48 = .ok (.invokespecial 86, 3) := by decide +kernel
theorem dX7_tap_51 : decode cX7_tap 51 = .ok (.athrow, 1) := by decide +kernel
theorem dX7_tap_52 : decode cX7_tap 52 = .ok (.aload_n 0, 1) := by decide +kernel
theorem dX7_tap_53 : decode cX7_tap 53 = .ok (.getfield 26, 3) := by decide +kernel
theorem dX7_tap_56 : decode cX7_tap 56 = .ok (.aload_n 0, 1) := by decide +kernel
theorem dX7_tap_57 : decode cX7_tap 57 = .ok (.getfield 10, 3) := by decide +kernel
theorem dX7_tap_60 : decode cX7_tap 60 = .ok (.invokevirtual 87, 3) := by decide +kernel
theorem dX7_tap_63 : decode cX7_tap 63 = .ok (.aload_n 0, 1) := by decide +kernel
theorem dX7_tap_64 : decode cX7_tap 64 = .ok (.getfield 10, 3) := by decide +kernel
theorem dX7_tap_67 : decode cX7_tap 67 = .ok (.getfield 55, 3) := by decide +kernel
theorem dX7_tap_70 : decode cX7_tap 70 = .ok (.iload_n 1, 1) := by decide +kernel
theorem dX7_tap_71 : decode cX7_tap 71 = .ok (.iload_n 2, 1) := by decide +kernel
theorem dX7_tap_72 : decode cX7_tap 72 = .ok (.iload_n 3, 1) := by decide +kernel
theorem dX7_tap_73 : decode cX7_tap 73 = .ok (.iload 4, 2) := by decide +kernel
theorem dX7_tap_75 : decode cX7_tap 75 = .ok (.iload 5, 2) := by decide +kernel
theorem dX7_tap_77 : decode cX7_tap 77 = .ok (.invokestatic 91, 3) := by decide +kernel
theorem dX7_tap_80 : decode cX7_tap 80 = .ok (.invokevirtual 97, 3) := by decide +kernel
theorem dX7_tap_83 : decode cX7_tap 83 = .ok (.istore 6, 2) := by decide +kernel
theorem dX7_tap_85 : decode cX7_tap 85 = .ok (.aload_n 0, 1) := by decide +kernel
theorem dX7_tap_86 : decode cX7_tap 86 = .ok (.invokevirtual 101, 3) := by decide +kernel
theorem dX7_tap_89 : decode cX7_tap 89 = .ok (.iload 6, 2) := by decide +kernel
theorem dX7_tap_91 : decode cX7_tap 91 = .ok (.ireturn, 1) := by decide +kernel
theorem dX7_remove_0 : decode cX7_remove 0 = .ok (.aload_n 0, 1) := by decide +kernel
theorem dX7_remove_1 : decode cX7_remove 1 = .ok (.iload_n 1, 1) := by decide +kernel
theorem dX7_remove_2 : decode cX7_remove 2 = .ok (.invokevirtual 104, 3) := by decide +kernel
theorem dX7_remove_5 : decode cX7_remove 5 = .ok (.ifCond .ne 13, 3) := by decide +kernel
theorem dX7_remove_8 : decode cX7_remove 8 = .ok (.new 108, 3) := by decide +kernel
theorem dX7_remove_11 : decode cX7_remove 11 = .ok (.dup, 1) := by decide +kernel
theorem dX7_remove_12 : decode cX7_remove 12 = .ok (.ldc 110, 2) := by decide +kernel
theorem dX7_remove_14 : decode cX7_remove 14 = .ok (.invokespecial 112, 3) := by decide +kernel
theorem dX7_remove_17 : decode cX7_remove 17 = .ok (.athrow, 1) := by decide +kernel
theorem dX7_remove_18 : decode cX7_remove 18 = .ok (.aload_n 0, 1) := by decide +kernel
theorem dX7_remove_19 : decode cX7_remove 19 = .ok (.getfield 26, 3) := by decide +kernel
theorem dX7_remove_22 : decode cX7_remove 22 = .ok (.aload_n 0, 1) := by decide +kernel
theorem dX7_remove_23 : decode cX7_remove 23 = .ok (.getfield 10, 3) := by decide +kernel
theorem dX7_remove_26 : decode cX7_remove 26 = .ok (.invokevirtual 87, 3) := by decide +kernel
theorem dX7_remove_29 : decode cX7_remove 29 = .ok (.aload_n 0, 1) := by decide +kernel
theorem dX7_remove_30 : decode cX7_remove 30 = .ok (.getfield 10, 3) := by decide +kernel
theorem dX7_remove_33 : decode cX7_remove 33 = .ok (.getfield 55, 3) := by decide +kernel
theorem dX7_remove_36 : decode cX7_remove 36 = .ok (.iload_n 1, 1) := by decide +kernel
theorem dX7_remove_37 : decode cX7_remove 37 = .ok (.invokevirtual 113, 3) := by decide +kernel
theorem dX7_remove_40 : decode cX7_remove 40 = .ok (.aload_n 0, 1) := by decide +kernel
theorem dX7_remove_41 : decode cX7_remove 41 = .ok (.invokevirtual 101, 3) := by decide +kernel
theorem dX7_remove_44 : decode cX7_remove 44 = .ok (.aload_n 0, 1) := by decide +kernel
theorem dX7_remove_45 : decode cX7_remove 45 = .ok (.getfield 10, 3) := by decide +kernel
theorem dX7_remove_48 : decode cX7_remove 48 = .ok (.getfield 55, 3) := by decide +kernel
theorem dX7_remove_51 : decode cX7_remove 51 = .ok (.getfield 79, 3) := by decide +kernel
theorem dX7_remove_54 : decode cX7_remove 54 = .ok (.ireturn, 1) := by decide +kernel
theorem dX7_claim_0 : decode cX7_claim 0 = .ok (.iload_n 2, 1) := by decide +kernel
theorem dX7_claim_1 : decode cX7_claim 1 = .ok (.iload_n 3, 1) := by decide +kernel
theorem dX7_claim_2 : decode cX7_claim 2 = .ok (.invokestatic 69, 3) := by decide +kernel
theorem dX7_claim_5 : decode cX7_claim 5 = .ok (.ifCond .ne 13, 3) := by decide +kernel
theorem dX7_claim_8 : decode cX7_claim 8 = .ok (.new 72, 3) := by decide +kernel
theorem dX7_claim_11 : decode cX7_claim 11 = .ok (.dup, 1) := by decide +kernel
theorem dX7_claim_12 : decode cX7_claim 12 = .ok (.ldc 117, 2) := by decide +kernel
theorem dX7_claim_14 : decode cX7_claim 14 = .ok (.invokespecial 76, 3) := by decide +kernel
theorem dX7_claim_17 : decode cX7_claim 17 = .ok (.athrow, 1) := by decide +kernel
theorem dX7_claim_18 : decode cX7_claim 18 = .ok (.aload_n 0, 1) := by decide +kernel
theorem dX7_claim_19 : decode cX7_claim 19 = .ok (.iload_n 1, 1) := by decide +kernel
theorem dX7_claim_20 : decode cX7_claim 20 = .ok (.iload_n 2, 1) := by decide +kernel
theorem dX7_claim_21 : decode cX7_claim 21 = .ok (.iload_n 3, 1) := by decide +kernel
theorem dX7_claim_22 : decode cX7_claim 22 = .ok (.invokevirtual 119, 3) := by decide +kernel
theorem dX7_claim_25 : decode cX7_claim 25 = .ok (.istore 4, 2) := by decide +kernel
theorem dX7_claim_27 : decode cX7_claim 27 = .ok (.aload_n 0, 1) := by decide +kernel
theorem dX7_claim_28 : decode cX7_claim 28 = .ok (.getfield 26, 3) := by decide +kernel
theorem dX7_claim_31 : decode cX7_claim 31 = .ok (.aload_n 0, 1) := by decide +kernel
theorem dX7_claim_32 : decode cX7_claim 32 = .ok (.getfield 10, 3) := by decide +kernel
theorem dX7_claim_35 : decode cX7_claim 35 = .ok (.invokevirtual 87, 3) := by decide +kernel
theorem dX7_claim_38 : decode cX7_claim 38 = .ok (.iload 4, 2) := by decide +kernel
theorem dX7_claim_40 : decode cX7_claim 40 = .ok (.ifCond .ne 13, 3) := by decide +kernel
theorem dX7_claim_43 : decode cX7_claim 43 = .ok (.aload_n 0, 1) := by decide +kernel
theorem dX7_claim_44 : decode cX7_claim 44 = .ok (.iload_n 1, 1) := by decide +kernel
theorem dX7_claim_45 : decode cX7_claim 45 = .ok (.iload_n 2, 1) := by decide +kernel
theorem dX7_claim_46 : decode cX7_claim 46 = .ok (.iload_n 3, 1) := by decide +kernel
theorem dX7_claim_47 : decode cX7_claim 47 = .ok (.invokevirtual 123, 3) := by decide +kernel
theorem dX7_claim_50 : decode cX7_claim 50 = .ok (.goto 16, 3) := by decide +kernel
theorem dX7_claim_53 : decode cX7_claim 53 = .ok (.aload_n 0, 1) := by decide +kernel
theorem dX7_claim_54 : decode cX7_claim 54 = .ok (.getfield 10, 3) := by decide +kernel
theorem dX7_claim_57 : decode cX7_claim 57 = .ok (.dup, 1) := by decide +kernel
theorem dX7_claim_58 : decode cX7_claim 58 = .ok (.getfield 127, 3) := by decide +kernel
theorem dX7_claim_61 : decode cX7_claim 61 = .ok (.iconst 1, 1) := by decide +kernel
theorem dX7_claim_62 : decode cX7_claim 62 = .ok (.iadd, 1) := by decide +kernel
theorem dX7_claim_63 : decode cX7_claim 63 = .ok (.putfield 127, 3) := by decide +kernel
theorem dX7_claim_66 : decode cX7_claim 66 = .ok (.iload 4, 2) := by decide +kernel
theorem dX7_claim_68 : decode cX7_claim 68 = .ok (.ireturn, 1) := by decide +kernel
theorem dX7_settle_0 : decode cX7_settle 0 = .ok (.iload_n 1, 1) := by decide +kernel
theorem dX7_settle_1 : decode cX7_settle 1 = .ok (.iconst 4, 1) := by decide +kernel
theorem dX7_settle_2 : decode cX7_settle 2 = .ok (.invokestatic 130, 3) := by decide +kernel
theorem dX7_settle_5 : decode cX7_settle 5 = .ok (.ifCond .ne 13, 3) := by decide +kernel
theorem dX7_settle_8 : decode cX7_settle 8 = .ok (.new 72, 3) := by decide +kernel
theorem dX7_settle_11 : decode cX7_settle 11 = .ok (.dup, 1) := by decide +kernel
theorem dX7_settle_12 : decode cX7_settle 12 = .ok (.ldc 133, 2) := by decide +kernel
theorem dX7_settle_14 : decode cX7_settle 14 = .ok (.invokespecial 76, 3) := by decide +kernel
theorem dX7_settle_17 : decode cX7_settle 17 = .ok (.athrow, 1) := by decide +kernel
theorem dX7_settle_18 : decode cX7_settle 18 = .ok (.aload_n 0, 1) := by decide +kernel
theorem dX7_settle_19 : decode cX7_settle 19 = .ok (.getfield 26, 3) := by decide +kernel
theorem dX7_settle_22 : decode cX7_settle 22 = .ok (.aload_n 0, 1) := by decide +kernel
theorem dX7_settle_23 : decode cX7_settle 23 = .ok (.getfield 10, 3) := by decide +kernel
theorem dX7_settle_26 : decode cX7_settle 26 = .ok (.invokevirtual 87, 3) := by decide +kernel
theorem dX7_settle_29 : decode cX7_settle 29 = .ok (.iconst 0, 1) := by decide +kernel
theorem dX7_settle_30 : decode cX7_settle 30 = .ok (.istore_n 2, 1) := by decide +kernel
theorem dX7_settle_31 : decode cX7_settle 31 = .ok (.iconst 0, 1) := by decide +kernel
theorem dX7_settle_32 : decode cX7_settle 32 = .ok (.istore_n 3, 1) := by decide +kernel
theorem dX7_settle_33 : decode cX7_settle 33 = .ok (.iload_n 3, 1) := by decide +kernel
theorem dX7_settle_34 : decode cX7_settle 34 = .ok (.iconst 4, 1) := by decide +kernel
theorem dX7_settle_35 : decode cX7_settle 35 = .ok (.if_icmp .ge 30, 3) := by decide +kernel
theorem dX7_settle_38 : decode cX7_settle 38 = .ok (.iload_n 2, 1) := by decide +kernel
theorem dX7_settle_39 : decode cX7_settle 39 = .ok (.aload_n 0, 1) := by decide +kernel
theorem dX7_settle_40 : decode cX7_settle 40 = .ok (.getfield 10, 3) := by decide +kernel
theorem dX7_settle_43 : decode cX7_settle 43 = .ok (.iload_n 3, 1) := by decide +kernel
theorem dX7_settle_44 : decode cX7_settle 44 = .ok (.iload_n 1, 1) := by decide +kernel
theorem dX7_settle_45 : decode cX7_settle 45 = .ok (.aload_n 0, 1) := by decide +kernel
theorem dX7_settle_46 : decode cX7_settle 46 = .ok (.getfield 19, 3) := by decide +kernel
theorem dX7_settle_49 : decode cX7_settle 49 = .ok (.iload_n 3, 1) := by decide +kernel
theorem dX7_settle_50 : decode cX7_settle 50 = .ok (.iload_n 1, 1) := by decide +kernel
theorem dX7_settle_51 : decode cX7_settle 51 = .ok (.invokevirtual 135, 3) := by decide +kernel
theorem dX7_settle_54 : decode cX7_settle 54 = .ok (.invokevirtual 139, 3) := by decide +kernel
theorem dX7_settle_57 : decode cX7_settle 57 = .ok (.iadd, 1) := by decide +kernel
theorem dX7_settle_58 : decode cX7_settle 58 = .ok (.istore_n 2, 1) := by decide +kernel
theorem dX7_settle_59 : decode cX7_settle 59 = .ok (.iinc 3 1, 3) := by decide +kernel
theorem dX7_settle_62 : decode cX7_settle 62 = .ok (.goto (-29), 3) := by decide +kernel
theorem dX7_settle_65 : decode cX7_settle 65 = .ok (.iload_n 2, 1) := by decide +kernel
theorem dX7_settle_66 : decode cX7_settle 66 = .ok (.ldc 142, 2) := by decide +kernel
theorem dX7_settle_68 : decode cX7_settle 68 = .ok (.iadd, 1) := by decide +kernel
theorem dX7_settle_69 : decode cX7_settle 69 = .ok (.ireturn, 1) := by decide +kernel
theorem dX7_set_0 : decode cX7_set 0 = .ok (.iload_n 1, 1) := by decide +kernel
theorem dX7_set_1 : decode cX7_set 1 = .ok (.bipush 6, 2) := by decide +kernel
theorem dX7_set_3 : decode cX7_set 3 = .ok (.invokestatic 130, 3) := by decide +kernel
theorem dX7_set_6 : decode cX7_set 6 = .ok (.ifCond .ne 13, 3) := by decide +kernel
theorem dX7_set_9 : decode cX7_set 9 = .ok (.new 108, 3) := by decide +kernel
theorem dX7_set_12 : decode cX7_set 12 = .ok (.dup, 1) := by decide +kernel
theorem dX7_set_13 : decode cX7_set 13 = .ok (.ldc 143, 2) := by decide +kernel
theorem dX7_set_15 : decode cX7_set 15 = .ok (.invokespecial 112, 3) := by decide +kernel
theorem dX7_set_18 : decode cX7_set 18 = .ok (.athrow, 1) := by decide +kernel
theorem dX7_set_19 : decode cX7_set 19 = .ok (.iload_n 2, 1) := by decide +kernel
theorem dX7_set_20 : decode cX7_set 20 = .ok (.getstatic 145, 3) := by decide +kernel
theorem dX7_set_23 : decode cX7_set 23 = .ok (.iload_n 1, 1) := by decide +kernel
theorem dX7_set_24 : decode cX7_set 24 = .ok (.invokestatic 148, 3) := by decide +kernel
theorem dX7_set_27 : decode cX7_set 27 = .ok (.if_icmp .lt 14, 3) := by decide +kernel
theorem dX7_set_30 : decode cX7_set 30 = .ok (.iload_n 2, 1) := by decide +kernel
theorem dX7_set_31 : decode cX7_set 31 = .ok (.getstatic 154, 3) := by decide +kernel
theorem dX7_set_34 : decode cX7_set 34 = .ok (.iload_n 1, 1) := by decide +kernel
theorem dX7_set_35 : decode cX7_set 35 = .ok (.invokestatic 148, 3) := by decide +kernel
theorem dX7_set_38 : decode cX7_set 38 = .ok (.if_icmp .le 13, 3) := by decide +kernel
theorem dX7_set_41 : decode cX7_set 41 = .ok (.new 72, 3) := by decide +kernel
theorem dX7_set_44 : decode cX7_set 44 = .ok (.dup, 1) := by decide +kernel
theorem dX7_set_45 : decode cX7_set 45 = .ok (.ldc 157, 2) := by decide +kernel
theorem dX7_set_47 : decode cX7_set 47 = .ok (.invokespecial 76, 3) := by decide +kernel
theorem dX7_set_50 : decode cX7_set 50 = .ok (.athrow, 1) := by decide +kernel
theorem dX7_set_51 : decode cX7_set 51 = .ok (.aload_n 0, 1) := by decide +kernel
theorem dX7_set_52 : decode cX7_set 52 = .ok (.getfield 26, 3) := by decide +kernel
theorem dX7_set_55 : decode cX7_set 55 = .ok (.aload_n 0, 1) := by decide +kernel
theorem dX7_set_56 : decode cX7_set 56 = .ok (.getfield 10, 3) := by decide +kernel
theorem dX7_set_59 : decode cX7_set 59 = .ok (.invokevirtual 87, 3) := by decide +kernel
theorem dX7_set_62 : decode cX7_set 62 = .ok (.aload_n 0, 1) := by decide +kernel
theorem dX7_set_63 : decode cX7_set 63 = .ok (.getfield 10, 3) := by decide +kernel
theorem dX7_set_66 : decode cX7_set 66 = .ok (.getfield 58, 3) := by decide +kernel
theorem dX7_set_69 : decode cX7_set 69 = .ok (.iload_n 1, 1) := by decide +kernel
theorem dX7_set_70 : decode cX7_set 70 = .ok (.invokestatic 148, 3) := by decide +kernel
theorem dX7_set_73 : decode cX7_set 73 = .ok (.istore_n 3, 1) := by decide +kernel
theorem dX7_set_74 : decode cX7_set 74 = .ok (.aload_n 0, 1) := by decide +kernel
theorem dX7_set_75 : decode cX7_set 75 = .ok (.getfield 10, 3) := by decide +kernel
theorem dX7_set_78 : decode cX7_set 78 = .ok (.getfield 58, 3) := by decide +kernel
theorem dX7_set_81 : decode cX7_set 81 = .ok (.iload_n 1, 1) := by decide +kernel
theorem dX7_set_82 : decode cX7_set 82 = .ok (.iload_n 2, 1) := by decide +kernel
theorem dX7_set_83 : decode cX7_set 83 = .ok (.invokestatic 159, 3) := by decide +kernel
theorem dX7_set_86 : decode cX7_set 86 = .ok (.aload_n 0, 1) := by decide +kernel
theorem dX7_set_87 : decode cX7_set 87 = .ok (.invokevirtual 101, 3) := by decide +kernel
theorem dX7_set_90 : decode cX7_set 90 = .ok (.iload_n 3, 1) := by decide +kernel
theorem dX7_set_91 : decode cX7_set 91 = .ok (.ireturn, 1) := by decide +kernel
theorem dX7_undo_0 : decode cX7_undo 0 = .ok (.aload_n 0, 1) := by decide +kernel
theorem dX7_undo_1 : decode cX7_undo 1 = .ok (.getfield 26, 3) := by decide +kernel
theorem dX7_undo_4 : decode cX7_undo 4 = .ok (.getfield 181, 3) := by decide +kernel
theorem dX7_undo_7 : decode cX7_undo 7 = .ok (.ifCond .gt 13, 3) := by decide +kernel
theorem dX7_undo_10 : decode cX7_undo 10 = .ok (.new 82, 3) := by decide +kernel
theorem dX7_undo_13 : decode cX7_undo 13 = .ok (.dup, 1) := by decide +kernel
theorem dX7_undo_14 : decode cX7_undo 14 = .ok (.ldc 182, 2) := by decide +kernel
theorem dX7_undo_16 : decode cX7_undo 16 = .ok (.invokespecial 86, 3) := by decide +kernel
theorem dX7_undo_19 : decode cX7_undo 19 = .ok (.athrow, 1) := by decide +kernel
theorem dX7_undo_20 : decode cX7_undo 20 = .ok (.aload_n 0, 1) := by decide +kernel
theorem dX7_undo_21 : decode cX7_undo 21 = .ok (.getfield 26, 3) := by decide +kernel
theorem dX7_undo_24 : decode cX7_undo 24 = .ok (.aload_n 0, 1) := by decide +kernel
theorem dX7_undo_25 : decode cX7_undo 25 = .ok (.getfield 10, 3) := by decide +kernel
theorem dX7_undo_28 : decode cX7_undo 28 = .ok (.invokevirtual 184, 3) := by decide +kernel
theorem dX7_undo_31 : decode cX7_undo 31 = .ok (.aload_n 0, 1) := by decide +kernel
theorem dX7_undo_32 : decode cX7_undo 32 = .ok (.invokevirtual 101, 3) := by decide +kernel
theorem dX7_undo_35 : decode cX7_undo 35 = .ok (.aload_n 0, 1) := by decide +kernel
theorem dX7_undo_36 : decode cX7_undo 36 = .ok (.getfield 26, 3) := by decide +kernel
theorem dX7_undo_39 : decode cX7_undo 39 = .ok (.getfield 181, 3) := by decide +kernel
theorem dX7_undo_42 : decode cX7_undo 42 = .ok (.ireturn, 1) := by decide +kernel
theorem dX7_tapOf_0 : decode cX7_tapOf 0 = .ok (.aload_n 0, 1) := by decide +kernel
theorem dX7_tapOf_1 : decode cX7_tapOf 1 = .ok (.iload_n 1, 1) := by decide +kernel
theorem dX7_tapOf_2 : decode cX7_tapOf 2 = .ok (.invokevirtual 104, 3) := by decide +kernel
theorem dX7_tapOf_5 : decode cX7_tapOf 5 = .ok (.ifCond .ne 13, 3) := by decide +kernel
theorem dX7_tapOf_8 : decode cX7_tapOf 8 = .ok (.new 108, 3) := by decide +kernel
theorem dX7_tapOf_11 : decode cX7_tapOf 11 = .ok (.dup, 1) := by decide +kernel
theorem dX7_tapOf_12 : decode cX7_tapOf 12 = .ok (.ldc 110, 2) := by decide +kernel
theorem dX7_tapOf_14 : decode cX7_tapOf 14 = .ok (.invokespecial 112, 3) := by decide +kernel
theorem dX7_tapOf_17 : decode cX7_tapOf 17 = .ok (.athrow, 1) := by decide +kernel
theorem dX7_tapOf_18 : decode cX7_tapOf 18 = .ok (.iload_n 2, 1) := by decide +kernel
theorem dX7_tapOf_19 : decode cX7_tapOf 19 = .ok (.bipush 8, 2) := by decide +kernel
theorem dX7_tapOf_21 : decode cX7_tapOf 21 = .ok (.invokestatic 130, 3) := by decide +kernel
theorem dX7_tapOf_24 : decode cX7_tapOf 24 = .ok (.ifCond .ne 13, 3) := by decide +kernel
theorem dX7_tapOf_27 : decode cX7_tapOf 27 = .ok (.new 72, 3) := by decide +kernel
theorem dX7_tapOf_30 : decode cX7_tapOf 30 = .ok (.dup, 1) := by decide +kernel
theorem dX7_tapOf_31 : decode cX7_tapOf 31 = .ok (.ldc 187, 2) := by decide +kernel
theorem dX7_tapOf_33 : decode cX7_tapOf 33 = .ok (.invokespecial 76, 3) := by decide +kernel
theorem dX7_tapOf_36 : decode cX7_tapOf 36 = .ok (.athrow, 1) := by decide +kernel
theorem dX7_tapOf_37 : decode cX7_tapOf 37 = .ok (.aload_n 0, 1) := by decide +kernel
theorem dX7_tapOf_38 : decode cX7_tapOf 38 = .ok (.iload_n 1, 1) := by decide +kernel
theorem dX7_tapOf_39 : decode cX7_tapOf 39 = .ok (.iload_n 2, 1) := by decide +kernel
theorem dX7_tapOf_40 : decode cX7_tapOf 40 = .ok (.invokevirtual 189, 3) := by decide +kernel
theorem dX7_tapOf_43 : decode cX7_tapOf 43 = .ok (.ireturn, 1) := by decide +kernel
theorem dX7_day_0 : decode cX7_day 0 = .ok (.iload_n 1, 1) := by decide +kernel
theorem dX7_day_1 : decode cX7_day 1 = .ok (.iload_n 2, 1) := by decide +kernel
theorem dX7_day_2 : decode cX7_day 2 = .ok (.invokestatic 65, 3) := by decide +kernel
theorem dX7_day_5 : decode cX7_day 5 = .ok (.ifCond .eq 11, 3) := by decide +kernel
theorem dX7_day_8 : decode cX7_day 8 = .ok (.iload_n 3, 1) := by decide +kernel
theorem dX7_day_9 : decode cX7_day 9 = .ok (.iconst 4, 1) := by decide +kernel
theorem dX7_day_10 : decode cX7_day 10 = .ok (.invokestatic 130, 3) := by decide +kernel
theorem dX7_day_13 : decode cX7_day 13 = .ok (.ifCond .ne 13, 3) := by decide +kernel
theorem dX7_day_16 : decode cX7_day 16 = .ok (.new 72, 3) := by decide +kernel
theorem dX7_day_19 : decode cX7_day 19 = .ok (.dup, 1) := by decide +kernel
theorem dX7_day_20 : decode cX7_day 20 = .ok (.ldc 74, 2) := by decide +kernel
theorem dX7_day_22 : decode cX7_day 22 = .ok (.invokespecial 76, 3) := by decide +kernel
theorem dX7_day_25 : decode cX7_day 25 = .ok (.athrow, 1) := by decide +kernel
theorem dX7_day_26 : decode cX7_day 26 = .ok (.aload_n 0, 1) := by decide +kernel
theorem dX7_day_27 : decode cX7_day 27 = .ok (.iload_n 1, 1) := by decide +kernel
theorem dX7_day_28 : decode cX7_day 28 = .ok (.iload_n 2, 1) := by decide +kernel
theorem dX7_day_29 : decode cX7_day 29 = .ok (.iload_n 3, 1) := by decide +kernel
theorem dX7_day_30 : decode cX7_day 30 = .ok (.invokevirtual 192, 3) := by decide +kernel
theorem dX7_day_33 : decode cX7_day 33 = .ok (.ireturn, 1) := by decide +kernel
theorem dX7_week_0 : decode cX7_week 0 = .ok (.iload_n 1, 1) := by decide +kernel
theorem dX7_week_1 : decode cX7_week 1 = .ok (.iconst 4, 1) := by decide +kernel
theorem dX7_week_2 : decode cX7_week 2 = .ok (.invokestatic 130, 3) := by decide +kernel
theorem dX7_week_5 : decode cX7_week 5 = .ok (.ifCond .eq 20, 3) := by decide +kernel
theorem dX7_week_8 : decode cX7_week 8 = .ok (.iload_n 2, 1) := by decide +kernel
theorem dX7_week_9 : decode cX7_week 9 = .ok (.iconst 4, 1) := by decide +kernel
theorem dX7_week_10 : decode cX7_week 10 = .ok (.invokestatic 130, 3) := by decide +kernel
theorem dX7_week_13 : decode cX7_week 13 = .ok (.ifCond .eq 12, 3) := by decide +kernel
theorem dX7_week_16 : decode cX7_week 16 = .ok (.iload_n 3, 1) := by decide +kernel
theorem dX7_week_17 : decode cX7_week 17 = .ok (.bipush 7, 2) := by decide +kernel
theorem dX7_week_19 : decode cX7_week 19 = .ok (.invokestatic 130, 3) := by decide +kernel
theorem dX7_week_22 : decode cX7_week 22 = .ok (.ifCond .ne 13, 3) := by decide +kernel
theorem dX7_week_25 : decode cX7_week 25 = .ok (.new 72, 3) := by decide +kernel
theorem dX7_week_28 : decode cX7_week 28 = .ok (.dup, 1) := by decide +kernel
theorem dX7_week_29 : decode cX7_week 29 = .ok (.ldc 74, 2) := by decide +kernel
theorem dX7_week_31 : decode cX7_week 31 = .ok (.invokespecial 76, 3) := by decide +kernel
theorem dX7_week_34 : decode cX7_week 34 = .ok (.athrow, 1) := by decide +kernel
theorem dX7_week_35 : decode cX7_week 35 = .ok (.aload_n 0, 1) := by decide +kernel
theorem dX7_week_36 : decode cX7_week 36 = .ok (.iload_n 1, 1) := by decide +kernel
theorem dX7_week_37 : decode cX7_week 37 = .ok (.iload_n 2, 1) := by decide +kernel
theorem dX7_week_38 : decode cX7_week 38 = .ok (.iload_n 3, 1) := by decide +kernel
theorem dX7_week_39 : decode cX7_week 39 = .ok (.invokevirtual 195, 3) := by decide +kernel
theorem dX7_week_42 : decode cX7_week 42 = .ok (.ireturn, 1) := by decide +kernel
theorem dX7_count_0 : decode cX7_count 0 = .ok (.iload_n 1, 1) := by decide +kernel
theorem dX7_count_1 : decode cX7_count 1 = .ok (.bipush 10, 2) := by decide +kernel
theorem dX7_count_3 : decode cX7_count 3 = .ok (.invokestatic 130, 3) := by decide +kernel
theorem dX7_count_6 : decode cX7_count 6 = .ok (.ifCond .ne 13, 3) := by decide +kernel
theorem dX7_count_9 : decode cX7_count 9 = .ok (.new 72, 3) := by decide +kernel
theorem dX7_count_12 : decode cX7_count 12 = .ok (.dup, 1) := by decide +kernel
theorem dX7_count_13 : decode cX7_count 13 = .ok (.ldc 198, 2) := by decide +kernel
theorem dX7_count_15 : decode cX7_count 15 = .ok (.invokespecial 76, 3) := by decide +kernel
theorem dX7_count_18 : decode cX7_count 18 = .ok (.athrow, 1) := by decide +kernel
theorem dX7_count_19 : decode cX7_count 19 = .ok (.aload_n 0, 1) := by decide +kernel
theorem dX7_count_20 : decode cX7_count 20 = .ok (.iload_n 1, 1) := by decide +kernel
theorem dX7_count_21 : decode cX7_count 21 = .ok (.invokevirtual 200, 3) := by decide +kernel
theorem dX7_count_24 : decode cX7_count 24 = .ok (.ireturn, 1) := by decide +kernel
theorem dX7_ledger_0 : decode cX7_ledger 0 = .ok (.iload_n 1, 1) := by decide +kernel
theorem dX7_ledger_1 : decode cX7_ledger 1 = .ok (.iconst 4, 1) := by decide +kernel
theorem dX7_ledger_2 : decode cX7_ledger 2 = .ok (.invokestatic 130, 3) := by decide +kernel
theorem dX7_ledger_5 : decode cX7_ledger 5 = .ok (.ifCond .eq 20, 3) := by decide +kernel
theorem dX7_ledger_8 : decode cX7_ledger 8 = .ok (.iload_n 2, 1) := by decide +kernel
theorem dX7_ledger_9 : decode cX7_ledger 9 = .ok (.bipush 8, 2) := by decide +kernel
theorem dX7_ledger_11 : decode cX7_ledger 11 = .ok (.invokestatic 130, 3) := by decide +kernel
theorem dX7_ledger_14 : decode cX7_ledger 14 = .ok (.ifCond .eq 11, 3) := by decide +kernel
theorem dX7_ledger_17 : decode cX7_ledger 17 = .ok (.iload_n 3, 1) := by decide +kernel
theorem dX7_ledger_18 : decode cX7_ledger 18 = .ok (.iconst 2, 1) := by decide +kernel
theorem dX7_ledger_19 : decode cX7_ledger 19 = .ok (.invokestatic 130, 3) := by decide +kernel
theorem dX7_ledger_22 : decode cX7_ledger 22 = .ok (.ifCond .ne 13, 3) := by decide +kernel
theorem dX7_ledger_25 : decode cX7_ledger 25 = .ok (.new 72, 3) := by decide +kernel
theorem dX7_ledger_28 : decode cX7_ledger 28 = .ok (.dup, 1) := by decide +kernel
theorem dX7_ledger_29 : decode cX7_ledger 29 = .ok (.ldc 74, 2) := by decide +kernel
theorem dX7_ledger_31 : decode cX7_ledger 31 = .ok (.invokespecial 76, 3) := by decide +kernel
theorem dX7_ledger_34 : decode cX7_ledger 34 = .ok (.athrow, 1) := by decide +kernel
theorem dX7_ledger_35 : decode cX7_ledger 35 = .ok (.aload_n 0, 1) := by decide +kernel
theorem dX7_ledger_36 : decode cX7_ledger 36 = .ok (.getfield 10, 3) := by decide +kernel
theorem dX7_ledger_39 : decode cX7_ledger 39 = .ok (.iload_n 1, 1) := by decide +kernel
theorem dX7_ledger_40 : decode cX7_ledger 40 = .ok (.iload_n 2, 1) := by decide +kernel
theorem dX7_ledger_41 : decode cX7_ledger 41 = .ok (.iload_n 3, 1) := by decide +kernel
theorem dX7_ledger_42 : decode cX7_ledger 42 = .ok (.invokevirtual 203, 3) := by decide +kernel
theorem dX7_ledger_45 : decode cX7_ledger 45 = .ok (.ireturn, 1) := by decide +kernel
theorem dX7_leaky_0 : decode cX7_leaky 0 = .ok (.iconst 0, 1) := by decide +kernel
theorem dX7_leaky_1 : decode cX7_leaky 1 = .ok (.istore_n 1, 1) := by decide +kernel
theorem dX7_leaky_2 : decode cX7_leaky 2 = .ok (.iconst (-1), 1) := by decide +kernel
theorem dX7_leaky_3 : decode cX7_leaky 3 = .ok (.istore_n 2, 1) := by decide +kernel
theorem dX7_leaky_4 : decode cX7_leaky 4 = .ok (.iconst 0, 1) := by decide +kernel
theorem dX7_leaky_5 : decode cX7_leaky 5 = .ok (.istore_n 3, 1) := by decide +kernel
theorem dX7_leaky_6 : decode cX7_leaky 6 = .ok (.iload_n 3, 1) := by decide +kernel
theorem dX7_leaky_7 : decode cX7_leaky 7 = .ok (.bipush 10, 2) := by decide +kernel
theorem dX7_leaky_9 : decode cX7_leaky 9 = .ok (.if_icmp .ge 33, 3) := by decide +kernel
theorem dX7_leaky_12 : decode cX7_leaky 12 = .ok (.aload_n 0, 1) := by decide +kernel
theorem dX7_leaky_13 : decode cX7_leaky 13 = .ok (.getfield 19, 3) := by decide +kernel
theorem dX7_leaky_16 : decode cX7_leaky 16 = .ok (.getfield 209, 3) := by decide +kernel
theorem dX7_leaky_19 : decode cX7_leaky 19 = .ok (.iload_n 3, 1) := by decide +kernel
theorem dX7_leaky_20 : decode cX7_leaky 20 = .ok (.invokestatic 148, 3) := by decide +kernel
theorem dX7_leaky_23 : decode cX7_leaky 23 = .ok (.istore 4, 2) := by decide +kernel
theorem dX7_leaky_25 : decode cX7_leaky 25 = .ok (.iload 4, 2) := by decide +kernel
theorem dX7_leaky_27 : decode cX7_leaky 27 = .ok (.iload_n 1, 1) := by decide +kernel
theorem dX7_leaky_28 : decode cX7_leaky 28 = .ok (.if_icmp .le 8, 3) := by decide +kernel
theorem dX7_leaky_31 : decode cX7_leaky 31 = .ok (.iload 4, 2) := by decide +kernel
theorem dX7_leaky_33 : decode cX7_leaky 33 = .ok (.istore_n 1, 1) := by decide +kernel
theorem dX7_leaky_34 : decode cX7_leaky 34 = .ok (.iload_n 3, 1) := by decide +kernel
theorem dX7_leaky_35 : decode cX7_leaky 35 = .ok (.istore_n 2, 1) := by decide +kernel
theorem dX7_leaky_36 : decode cX7_leaky 36 = .ok (.iinc 3 1, 3) := by decide +kernel
theorem dX7_leaky_39 : decode cX7_leaky 39 = .ok (.goto (-33), 3) := by decide +kernel
theorem dX7_leaky_42 : decode cX7_leaky 42 = .ok (.iload_n 2, 1) := by decide +kernel
theorem dX7_leaky_43 : decode cX7_leaky 43 = .ok (.ireturn, 1) := by decide +kernel
theorem dX7_capShare_0 : decode cX7_capShare 0 = .ok (.aload_n 0, 1) := by decide +kernel
theorem dX7_capShare_1 : decode cX7_capShare 1 = .ok (.getfield 19, 3) := by decide +kernel
theorem dX7_capShare_4 : decode cX7_capShare 4 = .ok (.getfield 217, 3) := by decide +kernel
theorem dX7_capShare_7 : decode cX7_capShare 7 = .ok (.invokestatic 220, 3) := by decide +kernel
theorem dX7_capShare_10 : decode cX7_capShare 10 = .ok (.istore_n 1, 1) := by decide +kernel
theorem dX7_capShare_11 : decode cX7_capShare 11 = .ok (.iload_n 1, 1) := by decide +kernel
theorem dX7_capShare_12 : decode cX7_capShare 12 = .ok (.ifCond .le 14, 3) := by decide +kernel
theorem dX7_capShare_15 : decode cX7_capShare 15 = .ok (.aload_n 0, 1) := by decide +kernel
theorem dX7_capShare_16 : decode cX7_capShare 16 = .ok (.invokevirtual 224, 3) := by decide +kernel
theorem dX7_capShare_19 : decode cX7_capShare 19 = .ok (.i2d, 1) := by decide +kernel
theorem dX7_capShare_20 : decode cX7_capShare 20 = .ok (.iload_n 1, 1) := by decide +kernel
theorem dX7_capShare_21 : decode cX7_capShare 21 = .ok (.i2d, 1) := by decide +kernel
theorem dX7_capShare_22 : decode cX7_capShare 22 = .ok (.ddiv, 1) := by decide +kernel
theorem dX7_capShare_23 : decode cX7_capShare 23 = .ok (.goto 4, 3) := by decide +kernel
theorem dX7_capShare_26 : decode cX7_capShare 26 = .ok (.dconst 1, 1) := by decide +kernel
theorem dX7_capShare_27 : decode cX7_capShare 27 = .ok (.dreturn, 1) := by decide +kernel
theorem dX7_isBelow_0 : decode cX7_isBelow 0 = .ok (.iload_n 0, 1) := by decide +kernel
theorem dX7_isBelow_1 : decode cX7_isBelow 1 = .ok (.ifCond .lt 12, 3) := by decide +kernel
theorem dX7_isBelow_4 : decode cX7_isBelow 4 = .ok (.iload_n 0, 1) := by decide +kernel
theorem dX7_isBelow_5 : decode cX7_isBelow 5 = .ok (.iload_n 1, 1) := by decide +kernel
theorem dX7_isBelow_6 : decode cX7_isBelow 6 = .ok (.if_icmp .ge 7, 3) := by decide +kernel
theorem dX7_isBelow_9 : decode cX7_isBelow 9 = .ok (.iconst 1, 1) := by decide +kernel
theorem dX7_isBelow_10 : decode cX7_isBelow 10 = .ok (.goto 4, 3) := by decide +kernel
theorem dX7_isBelow_13 : decode cX7_isBelow 13 = .ok (.iconst 0, 1) := by decide +kernel
theorem dX7_isBelow_14 : decode cX7_isBelow 14 = .ok (.ireturn, 1) := by decide +kernel
theorem dX7_isWalletDay_0 : decode cX7_isWalletDay 0 = .ok (.iload_n 0, 1) := by decide +kernel
theorem dX7_isWalletDay_1 : decode cX7_isWalletDay 1 = .ok (.iconst 4, 1) := by decide +kernel
theorem dX7_isWalletDay_2 : decode cX7_isWalletDay 2 = .ok (.invokestatic 130, 3) := by decide +kernel
theorem dX7_isWalletDay_5 : decode cX7_isWalletDay 5 = .ok (.ifCond .eq 16, 3) := by decide +kernel
theorem dX7_isWalletDay_8 : decode cX7_isWalletDay 8 = .ok (.iload_n 1, 1) := by decide +kernel
theorem dX7_isWalletDay_9 : decode cX7_isWalletDay 9 = .ok (.bipush 28, 2) := by decide +kernel
theorem dX7_isWalletDay_11 : decode cX7_isWalletDay 11 = .ok (.invokestatic 130, 3) := by decide +kernel
theorem dX7_isWalletDay_14 : decode cX7_isWalletDay 14 = .ok (.ifCond .eq 7, 3) := by decide +kernel
theorem dX7_isWalletDay_17 : decode cX7_isWalletDay 17 = .ok (.iconst 1, 1) := by decide +kernel
theorem dX7_isWalletDay_18 : decode cX7_isWalletDay 18 = .ok (.goto 4, 3) := by decide +kernel
theorem dX7_isWalletDay_21 : decode cX7_isWalletDay 21 = .ok (.iconst 0, 1) := by decide +kernel
theorem dX7_isWalletDay_22 : decode cX7_isWalletDay 22 = .ok (.ireturn, 1) := by decide +kernel
theorem dX7_isMinuteStation_0 : decode cX7_isMinuteStation 0 = .ok (.iload_n 0, 1) := by decide +kernel
theorem dX7_isMinuteStation_1 : decode cX7_isMinuteStation 1 = .ok (.sipush 1440, 3) := by decide +kernel
theorem dX7_isMinuteStation_4 : decode cX7_isMinuteStation 4 = .ok (.invokestatic 130, 3) := by decide +kernel
theorem dX7_isMinuteStation_7 : decode cX7_isMinuteStation 7 = .ok (.ifCond .eq 16, 3) := by decide +kernel
theorem dX7_isMinuteStation_10 : decode cX7_isMinuteStation 10 = .ok (.iload_n 1, 1) := by decide +kernel
theorem dX7_isMinuteStation_11 : decode cX7_isMinuteStation 11 = .ok (.bipush 10, 2) := by decide +kernel
theorem dX7_isMinuteStation_13 : decode cX7_isMinuteStation 13 = .ok (.invokestatic 130, 3) := by decide +kernel
theorem dX7_isMinuteStation_16 : decode cX7_isMinuteStation 16 = .ok (.ifCond .eq 7, 3) := by decide +kernel
theorem dX7_isMinuteStation_19 : decode cX7_isMinuteStation 19 = .ok (.iconst 1, 1) := by decide +kernel
theorem dX7_isMinuteStation_20 : decode cX7_isMinuteStation 20 = .ok (.goto 4, 3) := by decide +kernel
theorem dX7_isMinuteStation_23 : decode cX7_isMinuteStation 23 = .ok (.iconst 0, 1) := by decide +kernel
theorem dX7_isMinuteStation_24 : decode cX7_isMinuteStation 24 = .ok (.ireturn, 1) := by decide +kernel
theorem dX7_isPlace_0 : decode cX7_isPlace 0 = .ok (.iload_n 1, 1) := by decide +kernel
theorem dX7_isPlace_1 : decode cX7_isPlace 1 = .ok (.aload_n 0, 1) := by decide +kernel
theorem dX7_isPlace_2 : decode cX7_isPlace 2 = .ok (.getfield 10, 3) := by decide +kernel
theorem dX7_isPlace_5 : decode cX7_isPlace 5 = .ok (.getfield 55, 3) := by decide +kernel
theorem dX7_isPlace_8 : decode cX7_isPlace 8 = .ok (.getfield 79, 3) := by decide +kernel
theorem dX7_isPlace_11 : decode cX7_isPlace 11 = .ok (.invokestatic 130, 3) := by decide +kernel
theorem dX7_isPlace_14 : decode cX7_isPlace 14 = .ok (.ireturn, 1) := by decide +kernel
theorem dX7_readRides_0 : decode cX7_readRides 0 = .ok (.aload_n 0, 1) := by decide +kernel
theorem dX7_readRides_1 : decode cX7_readRides 1 = .ok (.getfield 19, 3) := by decide +kernel
theorem dX7_readRides_4 : decode cX7_readRides 4 = .ok (.aload_n 0, 1) := by decide +kernel
theorem dX7_readRides_5 : decode cX7_readRides 5 = .ok (.getfield 10, 3) := by decide +kernel
theorem dX7_readRides_8 : decode cX7_readRides 8 = .ok (.getfield 55, 3) := by decide +kernel
theorem dX7_readRides_11 : decode cX7_readRides 11 = .ok (.aload_n 0, 1) := by decide +kernel
theorem dX7_readRides_12 : decode cX7_readRides 12 = .ok (.getfield 10, 3) := by decide +kernel
theorem dX7_readRides_15 : decode cX7_readRides 15 = .ok (.getfield 58, 3) := by decide +kernel
theorem dX7_readRides_18 : decode cX7_readRides 18 = .ok (.invokevirtual 61, 3) := by decide +kernel
theorem dX7_readRides_21 : decode cX7_readRides 21 = .ok (.return_, 1) := by decide +kernel
theorem dX7_refusal_0 : decode cX7_refusal 0 = .ok (.aload_n 0, 1) := by decide +kernel
theorem dX7_refusal_1 : decode cX7_refusal 1 = .ok (.iload_n 1, 1) := by decide +kernel
theorem dX7_refusal_2 : decode cX7_refusal 2 = .ok (.invokevirtual 104, 3) := by decide +kernel
theorem dX7_refusal_5 : decode cX7_refusal 5 = .ok (.ifCond .eq 18, 3) := by decide +kernel
theorem dX7_refusal_8 : decode cX7_refusal 8 = .ok (.aload_n 0, 1) := by decide +kernel
theorem dX7_refusal_9 : decode cX7_refusal 9 = .ok (.getfield 19, 3) := by decide +kernel
theorem dX7_refusal_12 : decode cX7_refusal 12 = .ok (.getfield 256, 3) := by decide +kernel
theorem dX7_refusal_15 : decode cX7_refusal 15 = .ok (.iload_n 1, 1) := by decide +kernel
theorem dX7_refusal_16 : decode cX7_refusal 16 = .ok (.invokestatic 148, 3) := by decide +kernel
theorem dX7_refusal_19 : decode cX7_refusal 19 = .ok (.iconst (-1), 1) := by decide +kernel
theorem dX7_refusal_20 : decode cX7_refusal 20 = .ok (.if_icmp .eq 5, 3) := by decide +kernel
theorem dX7_refusal_23 : decode cX7_refusal 23 = .ok (.iconst 1, 1) := by decide +kernel
theorem dX7_refusal_24 : decode cX7_refusal 24 = .ok (.ireturn, 1) := by decide +kernel
theorem dX7_refusal_25 : decode cX7_refusal 25 = .ok (.aload_n 0, 1) := by decide +kernel
theorem dX7_refusal_26 : decode cX7_refusal 26 = .ok (.getfield 10, 3) := by decide +kernel
theorem dX7_refusal_29 : decode cX7_refusal 29 = .ok (.getfield 55, 3) := by decide +kernel
theorem dX7_refusal_32 : decode cX7_refusal 32 = .ok (.iload_n 1, 1) := by decide +kernel
theorem dX7_refusal_33 : decode cX7_refusal 33 = .ok (.invokevirtual 259, 3) := by decide +kernel
theorem dX7_refusal_36 : decode cX7_refusal 36 = .ok (.istore 4, 2) := by decide +kernel
theorem dX7_refusal_38 : decode cX7_refusal 38 = .ok (.iload 4, 2) := by decide +kernel
theorem dX7_refusal_40 : decode cX7_refusal 40 = .ok (.invokestatic 262, 3) := by decide +kernel
theorem dX7_refusal_43 : decode cX7_refusal 43 = .ok (.ifCond .eq 15, 3) := by decide +kernel
theorem dX7_refusal_46 : decode cX7_refusal 46 = .ok (.iload_n 2, 1) := by decide +kernel
theorem dX7_refusal_47 : decode cX7_refusal 47 = .ok (.iload 4, 2) := by decide +kernel
theorem dX7_refusal_49 : decode cX7_refusal 49 = .ok (.invokestatic 265, 3) := by decide +kernel
theorem dX7_refusal_52 : decode cX7_refusal 52 = .ok (.if_icmp .ge 17, 3) := by decide +kernel
theorem dX7_refusal_55 : decode cX7_refusal 55 = .ok (.goto 12, 3) := by decide +kernel
theorem dX7_refusal_58 : decode cX7_refusal 58 = .ok (.iload_n 2, 1) := by decide +kernel
theorem dX7_refusal_59 : decode cX7_refusal 59 = .ok (.iload 4, 2) := by decide +kernel
theorem dX7_refusal_61 : decode cX7_refusal 61 = .ok (.invokestatic 265, 3) := by decide +kernel
theorem dX7_refusal_64 : decode cX7_refusal 64 = .ok (.if_icmp .le 5, 3) := by decide +kernel
theorem dX7_refusal_67 : decode cX7_refusal 67 = .ok (.iconst 2, 1) := by decide +kernel
theorem dX7_refusal_68 : decode cX7_refusal 68 = .ok (.ireturn, 1) := by decide +kernel
theorem dX7_refusal_69 : decode cX7_refusal 69 = .ok (.aload_n 0, 1) := by decide +kernel
theorem dX7_refusal_70 : decode cX7_refusal 70 = .ok (.getfield 10, 3) := by decide +kernel
theorem dX7_refusal_73 : decode cX7_refusal 73 = .ok (.getfield 268, 3) := by decide +kernel
theorem dX7_refusal_76 : decode cX7_refusal 76 = .ok (.iload 4, 2) := by decide +kernel
theorem dX7_refusal_78 : decode cX7_refusal 78 = .ok (.invokestatic 271, 3) := by decide +kernel
theorem dX7_refusal_81 : decode cX7_refusal 81 = .ok (.iload 4, 2) := by decide +kernel
theorem dX7_refusal_83 : decode cX7_refusal 83 = .ok (.invokestatic 274, 3) := by decide +kernel
theorem dX7_refusal_86 : decode cX7_refusal 86 = .ok (.invokestatic 277, 3) := by decide +kernel
theorem dX7_refusal_89 : decode cX7_refusal 89 = .ok (.invokestatic 148, 3) := by decide +kernel
theorem dX7_refusal_92 : decode cX7_refusal 92 = .ok (.iconst 2, 1) := by decide +kernel
theorem dX7_refusal_93 : decode cX7_refusal 93 = .ok (.if_icmp .lt 5, 3) := by decide +kernel
theorem dX7_refusal_96 : decode cX7_refusal 96 = .ok (.iconst 3, 1) := by decide +kernel
theorem dX7_refusal_97 : decode cX7_refusal 97 = .ok (.ireturn, 1) := by decide +kernel
theorem dX7_refusal_98 : decode cX7_refusal 98 = .ok (.aload_n 0, 1) := by decide +kernel
theorem dX7_refusal_99 : decode cX7_refusal 99 = .ok (.getfield 10, 3) := by decide +kernel
theorem dX7_refusal_102 : decode cX7_refusal 102 = .ok (.getfield 55, 3) := by decide +kernel
theorem dX7_refusal_105 : decode cX7_refusal 105 = .ok (.getfield 79, 3) := by decide +kernel
theorem dX7_refusal_108 : decode cX7_refusal 108 = .ok (.bipush 60, 2) := by decide +kernel
theorem dX7_refusal_110 : decode cX7_refusal 110 = .ok (.if_icmp .lt 5, 3) := by decide +kernel
theorem dX7_refusal_113 : decode cX7_refusal 113 = .ok (.iconst 4, 1) := by decide +kernel
theorem dX7_refusal_114 : decode cX7_refusal 114 = .ok (.ireturn, 1) := by decide +kernel
theorem dX7_refusal_115 : decode cX7_refusal 115 = .ok (.aload_n 0, 1) := by decide +kernel
theorem dX7_refusal_116 : decode cX7_refusal 116 = .ok (.iload_n 1, 1) := by decide +kernel
theorem dX7_refusal_117 : decode cX7_refusal 117 = .ok (.iload 4, 2) := by decide +kernel
theorem dX7_refusal_119 : decode cX7_refusal 119 = .ok (.iload_n 2, 1) := by decide +kernel
theorem dX7_refusal_120 : decode cX7_refusal 120 = .ok (.iload_n 3, 1) := by decide +kernel
theorem dX7_refusal_121 : decode cX7_refusal 121 = .ok (.invokestatic 280, 3) := by decide +kernel
theorem dX7_refusal_124 : decode cX7_refusal 124 = .ok (.invokevirtual 283, 3) := by decide +kernel
theorem dX7_refusal_127 : decode cX7_refusal 127 = .ok (.ifCond .eq 7, 3) := by decide +kernel
theorem dX7_refusal_130 : decode cX7_refusal 130 = .ok (.iconst 0, 1) := by decide +kernel
theorem dX7_refusal_131 : decode cX7_refusal 131 = .ok (.goto 4, 3) := by decide +kernel
theorem dX7_refusal_134 : decode cX7_refusal 134 = .ok (.iconst 5, 1) := by decide +kernel
theorem dX7_refusal_135 : decode cX7_refusal 135 = .ok (.ireturn, 1) := by decide +kernel
theorem dX7_wouldRideWith_0 : decode cX7_wouldRideWith 0 = .ok (.aload_n 0, 1) := by decide +kernel
theorem dX7_wouldRideWith_1 : decode cX7_wouldRideWith 1 = .ok (.iload_n 2, 1) := by decide +kernel
theorem dX7_wouldRideWith_2 : decode cX7_wouldRideWith 2 = .ok (.invokevirtual 286, 3) := by decide +kernel
theorem dX7_wouldRideWith_5 : decode cX7_wouldRideWith 5 = .ok (.istore_n 3, 1) := by decide +kernel
theorem dX7_wouldRideWith_6 : decode cX7_wouldRideWith 6 = .ok (.iload_n 3, 1) := by decide +kernel
theorem dX7_wouldRideWith_7 : decode cX7_wouldRideWith 7 = .ok (.iload_n 1, 1) := by decide +kernel
theorem dX7_wouldRideWith_8 : decode cX7_wouldRideWith 8 = .ok (.if_icmp .gt 9, 3) := by decide +kernel
theorem dX7_wouldRideWith_11 : decode cX7_wouldRideWith 11 = .ok (.iload_n 1, 1) := by decide +kernel
theorem dX7_wouldRideWith_12 : decode cX7_wouldRideWith 12 = .ok (.iconst 1, 1) := by decide +kernel
theorem dX7_wouldRideWith_13 : decode cX7_wouldRideWith 13 = .ok (.iadd, 1) := by decide +kernel
theorem dX7_wouldRideWith_14 : decode cX7_wouldRideWith 14 = .ok (.goto 4, 3) := by decide +kernel
theorem dX7_wouldRideWith_17 : decode cX7_wouldRideWith 17 = .ok (.iload_n 1, 1) := by decide +kernel
theorem dX7_wouldRideWith_18 : decode cX7_wouldRideWith 18 = .ok (.istore 4, 2) := by decide +kernel
theorem dX7_wouldRideWith_20 : decode cX7_wouldRideWith 20 = .ok (.aload_n 0, 1) := by decide +kernel
theorem dX7_wouldRideWith_21 : decode cX7_wouldRideWith 21 = .ok (.getfield 37, 3) := by decide +kernel
theorem dX7_wouldRideWith_24 : decode cX7_wouldRideWith 24 = .ok (.getfield 256, 3) := by decide +kernel
theorem dX7_wouldRideWith_27 : decode cX7_wouldRideWith 27 = .ok (.iload_n 3, 1) := by decide +kernel
theorem dX7_wouldRideWith_28 : decode cX7_wouldRideWith 28 = .ok (.invokestatic 148, 3) := by decide +kernel
theorem dX7_wouldRideWith_31 : decode cX7_wouldRideWith 31 = .ok (.iload 4, 2) := by decide +kernel
theorem dX7_wouldRideWith_33 : decode cX7_wouldRideWith 33 = .ok (.if_icmp .ne 7, 3) := by decide +kernel
theorem dX7_wouldRideWith_36 : decode cX7_wouldRideWith 36 = .ok (.iconst 1, 1) := by decide +kernel
theorem dX7_wouldRideWith_37 : decode cX7_wouldRideWith 37 = .ok (.goto 4, 3) := by decide +kernel
theorem dX7_wouldRideWith_40 : decode cX7_wouldRideWith 40 = .ok (.iconst 0, 1) := by decide +kernel
theorem dX7_wouldRideWith_41 : decode cX7_wouldRideWith 41 = .ok (.ireturn, 1) := by decide +kernel
theorem dX7_fillIn_0 : decode cX7_fillIn 0 = .ok (.aload_n 0, 1) := by decide +kernel
theorem dX7_fillIn_1 : decode cX7_fillIn 1 = .ok (.getfield 10, 3) := by decide +kernel
theorem dX7_fillIn_4 : decode cX7_fillIn 4 = .ok (.getfield 55, 3) := by decide +kernel
theorem dX7_fillIn_7 : decode cX7_fillIn 7 = .ok (.iload_n 1, 1) := by decide +kernel
theorem dX7_fillIn_8 : decode cX7_fillIn 8 = .ok (.invokevirtual 259, 3) := by decide +kernel
theorem dX7_fillIn_11 : decode cX7_fillIn 11 = .ok (.istore 4, 2) := by decide +kernel
theorem dX7_fillIn_13 : decode cX7_fillIn 13 = .ok (.aload_n 0, 1) := by decide +kernel
theorem dX7_fillIn_14 : decode cX7_fillIn 14 = .ok (.getfield 10, 3) := by decide +kernel
theorem dX7_fillIn_17 : decode cX7_fillIn 17 = .ok (.getfield 268, 3) := by decide +kernel
theorem dX7_fillIn_20 : decode cX7_fillIn 20 = .ok (.iload 4, 2) := by decide +kernel
theorem dX7_fillIn_22 : decode cX7_fillIn 22 = .ok (.invokestatic 271, 3) := by decide +kernel
theorem dX7_fillIn_25 : decode cX7_fillIn 25 = .ok (.iload 4, 2) := by decide +kernel
theorem dX7_fillIn_27 : decode cX7_fillIn 27 = .ok (.invokestatic 274, 3) := by decide +kernel
theorem dX7_fillIn_30 : decode cX7_fillIn 30 = .ok (.invokestatic 277, 3) := by decide +kernel
theorem dX7_fillIn_33 : decode cX7_fillIn 33 = .ok (.iconst 1, 1) := by decide +kernel
theorem dX7_fillIn_34 : decode cX7_fillIn 34 = .ok (.invokestatic 289, 3) := by decide +kernel
theorem dX7_fillIn_37 : decode cX7_fillIn 37 = .ok (.aload_n 0, 1) := by decide +kernel
theorem dX7_fillIn_38 : decode cX7_fillIn 38 = .ok (.getfield 10, 3) := by decide +kernel
theorem dX7_fillIn_41 : decode cX7_fillIn 41 = .ok (.getfield 55, 3) := by decide +kernel
theorem dX7_fillIn_44 : decode cX7_fillIn 44 = .ok (.iload 4, 2) := by decide +kernel
theorem dX7_fillIn_46 : decode cX7_fillIn 46 = .ok (.iload_n 2, 1) := by decide +kernel
theorem dX7_fillIn_47 : decode cX7_fillIn 47 = .ok (.iload_n 3, 1) := by decide +kernel
theorem dX7_fillIn_48 : decode cX7_fillIn 48 = .ok (.invokestatic 280, 3) := by decide +kernel
theorem dX7_fillIn_51 : decode cX7_fillIn 51 = .ok (.invokevirtual 97, 3) := by decide +kernel
theorem dX7_fillIn_54 : decode cX7_fillIn 54 = .ok (.pop, 1) := by decide +kernel
theorem dX7_fillIn_55 : decode cX7_fillIn 55 = .ok (.aload_n 0, 1) := by decide +kernel
theorem dX7_fillIn_56 : decode cX7_fillIn 56 = .ok (.invokevirtual 101, 3) := by decide +kernel
theorem dX7_fillIn_59 : decode cX7_fillIn 59 = .ok (.return_, 1) := by decide +kernel
theorem dX7_tryTap_0 : decode cX7_tryTap 0 = .ok (.aload_n 0, 1) := by decide +kernel
theorem dX7_tryTap_1 : decode cX7_tryTap 1 = .ok (.getfield 33, 3) := by decide +kernel
theorem dX7_tryTap_4 : decode cX7_tryTap 4 = .ok (.aload_n 0, 1) := by decide +kernel
theorem dX7_tryTap_5 : decode cX7_tryTap 5 = .ok (.getfield 10, 3) := by decide +kernel
theorem dX7_tryTap_8 : decode cX7_tryTap 8 = .ok (.getfield 55, 3) := by decide +kernel
theorem dX7_tryTap_11 : decode cX7_tryTap 11 = .ok (.invokevirtual 292, 3) := by decide +kernel
theorem dX7_tryTap_14 : decode cX7_tryTap 14 = .ok (.aload_n 0, 1) := by decide +kernel
theorem dX7_tryTap_15 : decode cX7_tryTap 15 = .ok (.getfield 33, 3) := by decide +kernel
theorem dX7_tryTap_18 : decode cX7_tryTap 18 = .ok (.iload_n 1, 1) := by decide +kernel
theorem dX7_tryTap_19 : decode cX7_tryTap 19 = .ok (.invokevirtual 97, 3) := by decide +kernel
theorem dX7_tryTap_22 : decode cX7_tryTap 22 = .ok (.istore_n 2, 1) := by decide +kernel
theorem dX7_tryTap_23 : decode cX7_tryTap 23 = .ok (.aload_n 0, 1) := by decide +kernel
theorem dX7_tryTap_24 : decode cX7_tryTap 24 = .ok (.getfield 37, 3) := by decide +kernel
theorem dX7_tryTap_27 : decode cX7_tryTap 27 = .ok (.aload_n 0, 1) := by decide +kernel
theorem dX7_tryTap_28 : decode cX7_tryTap 28 = .ok (.getfield 33, 3) := by decide +kernel
theorem dX7_tryTap_31 : decode cX7_tryTap 31 = .ok (.aload_n 0, 1) := by decide +kernel
theorem dX7_tryTap_32 : decode cX7_tryTap 32 = .ok (.getfield 10, 3) := by decide +kernel
theorem dX7_tryTap_35 : decode cX7_tryTap 35 = .ok (.getfield 58, 3) := by decide +kernel
theorem dX7_tryTap_38 : decode cX7_tryTap 38 = .ok (.invokevirtual 61, 3) := by decide +kernel
theorem dX7_tryTap_41 : decode cX7_tryTap 41 = .ok (.iload_n 2, 1) := by decide +kernel
theorem dX7_tryTap_42 : decode cX7_tryTap 42 = .ok (.ireturn, 1) := by decide +kernel
theorem dX7_weekCell_0 : decode cX7_weekCell 0 = .ok (.iload_n 0, 1) := by decide +kernel
theorem dX7_weekCell_1 : decode cX7_weekCell 1 = .ok (.iconst 4, 1) := by decide +kernel
theorem dX7_weekCell_2 : decode cX7_weekCell 2 = .ok (.imul, 1) := by decide +kernel
theorem dX7_weekCell_3 : decode cX7_weekCell 3 = .ok (.iload_n 1, 1) := by decide +kernel
theorem dX7_weekCell_4 : decode cX7_weekCell 4 = .ok (.iadd, 1) := by decide +kernel
theorem dX7_weekCell_5 : decode cX7_weekCell 5 = .ok (.ireturn, 1) := by decide +kernel
theorem dX7_dayCell_0 : decode cX7_dayCell 0 = .ok (.iload_n 0, 1) := by decide +kernel
theorem dX7_dayCell_1 : decode cX7_dayCell 1 = .ok (.bipush 28, 2) := by decide +kernel
theorem dX7_dayCell_3 : decode cX7_dayCell 3 = .ok (.imul, 1) := by decide +kernel
theorem dX7_dayCell_4 : decode cX7_dayCell 4 = .ok (.iload_n 1, 1) := by decide +kernel
theorem dX7_dayCell_5 : decode cX7_dayCell 5 = .ok (.iadd, 1) := by decide +kernel
theorem dX7_dayCell_6 : decode cX7_dayCell 6 = .ok (.ireturn, 1) := by decide +kernel
theorem dX7_tapProperty_0 : decode cX7_tapProperty 0 = .ok (.aload_n 0, 1) := by decide +kernel
theorem dX7_tapProperty_1 : decode cX7_tapProperty 1 = .ok (.getfield 10, 3) := by decide +kernel
theorem dX7_tapProperty_4 : decode cX7_tapProperty 4 = .ok (.getfield 55, 3) := by decide +kernel
theorem dX7_tapProperty_7 : decode cX7_tapProperty 7 = .ok (.iload_n 1, 1) := by decide +kernel
theorem dX7_tapProperty_8 : decode cX7_tapProperty 8 = .ok (.invokevirtual 259, 3) := by decide +kernel
theorem dX7_tapProperty_11 : decode cX7_tapProperty 11 = .ok (.istore_n 3, 1) := by decide +kernel
theorem dX7_tapProperty_12 : decode cX7_tapProperty 12 = .ok (.iload_n 2, 1) := by decide +kernel
theorem dX7_tapProperty_13 : decode cX7_tapProperty 13 = .ok (.tableswitch 100 0 6 #[43, 48, 53, 58, 63, 76, 88], 43) := by decide +kernel
theorem dX7_tapProperty_56 : decode cX7_tapProperty 56 = .ok (.iload_n 3, 1) := by decide +kernel
theorem dX7_tapProperty_57 : decode cX7_tapProperty 57 = .ok (.invokestatic 271, 3) := by decide +kernel
theorem dX7_tapProperty_60 : decode cX7_tapProperty 60 = .ok (.ireturn, 1) := by decide +kernel
theorem dX7_tapProperty_61 : decode cX7_tapProperty 61 = .ok (.iload_n 3, 1) := by decide +kernel
theorem dX7_tapProperty_62 : decode cX7_tapProperty 62 = .ok (.invokestatic 296, 3) := by decide +kernel
theorem dX7_tapProperty_65 : decode cX7_tapProperty 65 = .ok (.ireturn, 1) := by decide +kernel
theorem dX7_tapProperty_66 : decode cX7_tapProperty 66 = .ok (.iload_n 3, 1) := by decide +kernel
theorem dX7_tapProperty_67 : decode cX7_tapProperty 67 = .ok (.invokestatic 265, 3) := by decide +kernel
theorem dX7_tapProperty_70 : decode cX7_tapProperty 70 = .ok (.ireturn, 1) := by decide +kernel
theorem dX7_tapProperty_71 : decode cX7_tapProperty 71 = .ok (.iload_n 3, 1) := by decide +kernel
theorem dX7_tapProperty_72 : decode cX7_tapProperty 72 = .ok (.invokestatic 299, 3) := by decide +kernel
theorem dX7_tapProperty_75 : decode cX7_tapProperty 75 = .ok (.ireturn, 1) := by decide +kernel
theorem dX7_tapProperty_76 : decode cX7_tapProperty 76 = .ok (.iload_n 3, 1) := by decide +kernel
theorem dX7_tapProperty_77 : decode cX7_tapProperty 77 = .ok (.invokestatic 262, 3) := by decide +kernel
theorem dX7_tapProperty_80 : decode cX7_tapProperty 80 = .ok (.ifCond .eq 7, 3) := by decide +kernel
theorem dX7_tapProperty_83 : decode cX7_tapProperty 83 = .ok (.iconst 1, 1) := by decide +kernel
theorem dX7_tapProperty_84 : decode cX7_tapProperty 84 = .ok (.goto 4, 3) := by decide +kernel
theorem dX7_tapProperty_87 : decode cX7_tapProperty 87 = .ok (.iconst 0, 1) := by decide +kernel
theorem dX7_tapProperty_88 : decode cX7_tapProperty 88 = .ok (.ireturn, 1) := by decide +kernel
theorem dX7_tapProperty_89 : decode cX7_tapProperty 89 = .ok (.aload_n 0, 1) := by decide +kernel
theorem dX7_tapProperty_90 : decode cX7_tapProperty 90 = .ok (.getfield 19, 3) := by decide +kernel
theorem dX7_tapProperty_93 : decode cX7_tapProperty 93 = .ok (.getfield 256, 3) := by decide +kernel
theorem dX7_tapProperty_96 : decode cX7_tapProperty 96 = .ok (.iload_n 1, 1) := by decide +kernel
theorem dX7_tapProperty_97 : decode cX7_tapProperty 97 = .ok (.invokestatic 148, 3) := by decide +kernel
theorem dX7_tapProperty_100 : decode cX7_tapProperty 100 = .ok (.ireturn, 1) := by decide +kernel
theorem dX7_tapProperty_101 : decode cX7_tapProperty 101 = .ok (.aload_n 0, 1) := by decide +kernel
theorem dX7_tapProperty_102 : decode cX7_tapProperty 102 = .ok (.getfield 19, 3) := by decide +kernel
theorem dX7_tapProperty_105 : decode cX7_tapProperty 105 = .ok (.getfield 302, 3) := by decide +kernel
theorem dX7_tapProperty_108 : decode cX7_tapProperty 108 = .ok (.iload_n 1, 1) := by decide +kernel
theorem dX7_tapProperty_109 : decode cX7_tapProperty 109 = .ok (.invokestatic 148, 3) := by decide +kernel
theorem dX7_tapProperty_112 : decode cX7_tapProperty 112 = .ok (.ireturn, 1) := by decide +kernel
theorem dX7_tapProperty_113 : decode cX7_tapProperty 113 = .ok (.iload_n 3, 1) := by decide +kernel
theorem dX7_tapProperty_114 : decode cX7_tapProperty 114 = .ok (.invokestatic 305, 3) := by decide +kernel
theorem dX7_tapProperty_117 : decode cX7_tapProperty 117 = .ok (.ifCond .eq 7, 3) := by decide +kernel
theorem dX7_tapProperty_120 : decode cX7_tapProperty 120 = .ok (.iconst 1, 1) := by decide +kernel
theorem dX7_tapProperty_121 : decode cX7_tapProperty 121 = .ok (.goto 4, 3) := by decide +kernel
theorem dX7_tapProperty_124 : decode cX7_tapProperty 124 = .ok (.iconst 0, 1) := by decide +kernel
theorem dX7_tapProperty_125 : decode cX7_tapProperty 125 = .ok (.ireturn, 1) := by decide +kernel
theorem dX7_dayNumber_0 : decode cX7_dayNumber 0 = .ok (.iload_n 3, 1) := by decide +kernel
theorem dX7_dayNumber_1 : decode cX7_dayNumber 1 = .ok (.tableswitch 75 0 2 #[27, 43, 59], 27) := by decide +kernel
theorem dX7_dayNumber_28 : decode cX7_dayNumber 28 = .ok (.aload_n 0, 1) := by decide +kernel
theorem dX7_dayNumber_29 : decode cX7_dayNumber 29 = .ok (.getfield 19, 3) := by decide +kernel
theorem dX7_dayNumber_32 : decode cX7_dayNumber 32 = .ok (.getfield 308, 3) := by decide +kernel
theorem dX7_dayNumber_35 : decode cX7_dayNumber 35 = .ok (.iload_n 1, 1) := by decide +kernel
theorem dX7_dayNumber_36 : decode cX7_dayNumber 36 = .ok (.iload_n 2, 1) := by decide +kernel
theorem dX7_dayNumber_37 : decode cX7_dayNumber 37 = .ok (.invokestatic 311, 3) := by decide +kernel
theorem dX7_dayNumber_40 : decode cX7_dayNumber 40 = .ok (.invokestatic 148, 3) := by decide +kernel
theorem dX7_dayNumber_43 : decode cX7_dayNumber 43 = .ok (.ireturn, 1) := by decide +kernel
theorem dX7_dayNumber_44 : decode cX7_dayNumber 44 = .ok (.aload_n 0, 1) := by decide +kernel
theorem dX7_dayNumber_45 : decode cX7_dayNumber 45 = .ok (.getfield 19, 3) := by decide +kernel
theorem dX7_dayNumber_48 : decode cX7_dayNumber 48 = .ok (.getfield 314, 3) := by decide +kernel
theorem dX7_dayNumber_51 : decode cX7_dayNumber 51 = .ok (.iload_n 1, 1) := by decide +kernel
theorem dX7_dayNumber_52 : decode cX7_dayNumber 52 = .ok (.iload_n 2, 1) := by decide +kernel
theorem dX7_dayNumber_53 : decode cX7_dayNumber 53 = .ok (.invokestatic 311, 3) := by decide +kernel
theorem dX7_dayNumber_56 : decode cX7_dayNumber 56 = .ok (.invokestatic 148, 3) := by decide +kernel
theorem dX7_dayNumber_59 : decode cX7_dayNumber 59 = .ok (.ireturn, 1) := by decide +kernel
theorem dX7_dayNumber_60 : decode cX7_dayNumber 60 = .ok (.aload_n 0, 1) := by decide +kernel
theorem dX7_dayNumber_61 : decode cX7_dayNumber 61 = .ok (.getfield 19, 3) := by decide +kernel
theorem dX7_dayNumber_64 : decode cX7_dayNumber 64 = .ok (.getfield 217, 3) := by decide +kernel
theorem dX7_dayNumber_67 : decode cX7_dayNumber 67 = .ok (.iload_n 1, 1) := by decide +kernel
theorem dX7_dayNumber_68 : decode cX7_dayNumber 68 = .ok (.iload_n 2, 1) := by decide +kernel
theorem dX7_dayNumber_69 : decode cX7_dayNumber 69 = .ok (.invokestatic 311, 3) := by decide +kernel
theorem dX7_dayNumber_72 : decode cX7_dayNumber 72 = .ok (.invokestatic 148, 3) := by decide +kernel
theorem dX7_dayNumber_75 : decode cX7_dayNumber 75 = .ok (.ireturn, 1) := by decide +kernel
theorem dX7_dayNumber_76 : decode cX7_dayNumber 76 = .ok (.aload_n 0, 1) := by decide +kernel
theorem dX7_dayNumber_77 : decode cX7_dayNumber 77 = .ok (.getfield 19, 3) := by decide +kernel
theorem dX7_dayNumber_80 : decode cX7_dayNumber 80 = .ok (.iload_n 1, 1) := by decide +kernel
theorem dX7_dayNumber_81 : decode cX7_dayNumber 81 = .ok (.iload_n 2, 1) := by decide +kernel
theorem dX7_dayNumber_82 : decode cX7_dayNumber 82 = .ok (.invokevirtual 317, 3) := by decide +kernel
theorem dX7_dayNumber_85 : decode cX7_dayNumber 85 = .ok (.ireturn, 1) := by decide +kernel
theorem dX7_weekNumber_0 : decode cX7_weekNumber 0 = .ok (.iload_n 3, 1) := by decide +kernel
theorem dX7_weekNumber_1 : decode cX7_weekNumber 1 = .ok (.tableswitch 117 0 5 #[39, 52, 65, 75, 85, 101], 39) := by decide +kernel
theorem dX7_weekNumber_40 : decode cX7_weekNumber 40 = .ok (.aload_n 0, 1) := by decide +kernel
theorem dX7_weekNumber_41 : decode cX7_weekNumber 41 = .ok (.getfield 19, 3) := by decide +kernel
theorem dX7_weekNumber_44 : decode cX7_weekNumber 44 = .ok (.getfield 308, 3) := by decide +kernel
theorem dX7_weekNumber_47 : decode cX7_weekNumber 47 = .ok (.iload_n 1, 1) := by decide +kernel
theorem dX7_weekNumber_48 : decode cX7_weekNumber 48 = .ok (.iload_n 2, 1) := by decide +kernel
theorem dX7_weekNumber_49 : decode cX7_weekNumber 49 = .ok (.invokestatic 320, 3) := by decide +kernel
theorem dX7_weekNumber_52 : decode cX7_weekNumber 52 = .ok (.ireturn, 1) := by decide +kernel
theorem dX7_weekNumber_53 : decode cX7_weekNumber 53 = .ok (.aload_n 0, 1) := by decide +kernel
theorem dX7_weekNumber_54 : decode cX7_weekNumber 54 = .ok (.getfield 19, 3) := by decide +kernel
theorem dX7_weekNumber_57 : decode cX7_weekNumber 57 = .ok (.getfield 217, 3) := by decide +kernel
theorem dX7_weekNumber_60 : decode cX7_weekNumber 60 = .ok (.iload_n 1, 1) := by decide +kernel
theorem dX7_weekNumber_61 : decode cX7_weekNumber 61 = .ok (.iload_n 2, 1) := by decide +kernel
theorem dX7_weekNumber_62 : decode cX7_weekNumber 62 = .ok (.invokestatic 320, 3) := by decide +kernel
theorem dX7_weekNumber_65 : decode cX7_weekNumber 65 = .ok (.ireturn, 1) := by decide +kernel
