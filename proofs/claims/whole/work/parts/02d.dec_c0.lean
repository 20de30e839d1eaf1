/-! decode rows, printed by program -/
theorem dX7_init_0 : decode cX7_init 0 = .ok (.aload_n 0, 1) := by decide +kernel
theorem dX7_init_1 : decode cX7_init 1 = .ok (.invokespecial 1, 3) := by decide +kernel
theorem dX7_init_4 : decode cX7_init 4 = .ok (.aload_n 0, 1) := by decide +kernel
theorem dX7_init_5 : decode cX7_init 5 = .ok (.new 7, 3) := by decide +kernel
theorem dX7_init_8 : decode cX7_init 8 = .ok (.dup, 1) := by decide +kernel
theorem dX7_init_9 : decode cX7_init 9 = .ok (.invokespecial 9, 3) := by decide +kernel
theorem dX7_init_12 : decode cX7_init 12 = .ok (.putfield 10, 3) := by decide +kernel
theorem dX7_init_15 : decode cX7_init 15 = .ok (.aload_n 0, 1) := by decide +kernel
theorem dX7_init_16 : decode cX7_init 16 = .ok (.new 16, 3) := by decide +kernel
theorem dX7_init_19 : decode cX7_init 19 = .ok (.dup, 1) := by decide +kernel
theorem dX7_init_20 : decode cX7_init 20 = .ok (.invokespecial 18, 3) := by decide +kernel
theorem dX7_init_23 : decode cX7_init 23 = .ok (.putfield 19, 3) := by decide +kernel
theorem dX7_init_26 : decode cX7_init 26 = .ok (.aload_n 0, 1) := by decide +kernel
theorem dX7_init_27 : decode cX7_init 27 = .ok (.new 23, 3) := by decide +kernel
theorem dX7_init_30 : decode cX7_init 30 = .ok (.dup, 1) := by decide +kernel
theorem dX7_init_31 : decode cX7_init 31 = .ok (.invokespecial 25, 3) := by decide +kernel
theorem dX7_init_34 : decode cX7_init 34 = .ok (.putfield 26, 3) := by decide +kernel
theorem dX7_init_37 : decode cX7_init 37 = .ok (.aload_n 0, 1) := by decide +kernel
theorem dX7_init_38 : decode cX7_init 38 = .ok (.new 30, 3) := by decide +kernel
theorem dX7_init_41 : decode cX7_init 41 = .ok (.dup, 1) := by decide +kernel
theorem dX7_init_42 : decode cX7_init 42 = .ok (.invokespecial 32, 3) := by decide +kernel
theorem dX7_init_45 : decode cX7_init 45 = .ok (.putfield 33, 3) := by decide +kernel
theorem dX7_init_48 : decode cX7_init 48 = .ok (.aload_n 0, 1) := by decide +kernel
theorem dX7_init_49 : decode cX7_init 49 = .ok (.new 16, 3) := by decide +kernel
theorem dX7_init_52 : decode cX7_init 52 = .ok (.dup, 1) := by decide +kernel
theorem dX7_init_53 : decode cX7_init 53 = .ok (.invokespecial 18, 3) := by decide +kernel
theorem dX7_init_56 : decode cX7_init 56 = .ok (.putfield 37, 3) := by decide +kernel
theorem dX7_init_59 : decode cX7_init 59 = .ok (.aload_n 0, 1) := by decide +kernel
theorem dX7_init_60 : decode cX7_init 60 = .ok (.bipush 60, 2) := by decide +kernel
theorem dX7_init_62 : decode cX7_init 62 = .ok (.newarray .int, 2) := by decide +kernel
theorem dX7_init_64 : decode cX7_init 64 = .ok (.putfield 40, 3) := by decide +kernel
theorem dX7_init_67 : decode cX7_init 67 = .ok (.aload_n 0, 1) := by decide +kernel
theorem dX7_init_68 : decode cX7_init 68 = .ok (.iconst 0, 1) := by decide +kernel
theorem dX7_init_69 : decode cX7_init 69 = .ok (.putfield 44, 3) := by decide +kernel
theorem dX7_init_72 : decode cX7_init 72 = .ok (.aload_n 0, 1) := by decide +kernel
theorem dX7_init_73 : decode cX7_init 73 = .ok (.new 48, 3) := by decide +kernel
theorem dX7_init_76 : decode cX7_init 76 = .ok (.dup, 1) := by decide +kernel
theorem dX7_init_77 : decode cX7_init 77 = .ok (.invokespecial 50, 3) := by decide +kernel
theorem dX7_init_80 : decode cX7_init 80 = .ok (.putfield 51, 3) := by decide +kernel
theorem dX7_init_83 : decode cX7_init 83 = .ok (.aload_n 0, 1) := by decide +kernel
theorem dX7_init_84 : decode cX7_init 84 = .ok (.getfield 19, 3) := by decide +kernel
theorem dX7_init_87 : decode cX7_init 87 = .ok (.aload_n 0, 1) := by decide +kernel
theorem dX7_init_88 : decode cX7_init 88 = .ok (.getfield 10, 3) := by decide +kernel
theorem dX7_init_91 : decode cX7_init 91 = .ok (.getfield 55, 3) := by decide +kernel
theorem dX7_init_94 : decode cX7_init 94 = .ok (.aload_n 0, 1) := by decide +kernel
theorem dX7_init_95 : decode cX7_init 95 = .ok (.getfield 10, 3) := by decide +kernel
theorem dX7_init_98 : decode cX7_init 98 = .ok (.getfield 58, 3) := by decide +kernel
theorem dX7_init_101 : decode cX7_init 101 = .ok (.invokevirtual 61, 3) := by decide +kernel
theorem dX7_init_104 : decode cX7_init 104 = .ok (.return_, 1) := by decide +kernel
theorem dX7_tap_0 : decode cX7_tap 0 = .ok (.iload_n 1, 1) := by decide +kernel
theorem dX7_tap_1 : decode cX7_tap 1 = .ok (.iload_n 2, 1) := by decide +kernel
theorem dX7_tap_2 : decode cX7_tap 2 = .ok (.invokestatic 65, 3) := by decide +kernel
theorem dX7_tap_5 : decode cX7_tap 5 = .ok (.ifCond .eq 12, 3) := by decide +kernel
theorem dX7_tap_8 : decode cX7_tap 8 = .ok (.iload_n 3, 1) := by decide +kernel
theorem dX7_tap_9 : decode cX7_tap 9 = .ok (.iload 4, 2) := by decide +kernel
theorem dX7_tap_11 : decode cX7_tap 11 = .ok (.invokestatic 69, 3) := by decide +kernel
theorem dX7_tap_14 : decode cX7_tap 14 = .ok (.ifCond .ne 13, 3) := by decide +kernel
theorem dX7_tap_17 : decode cX7_tap 17 = .ok (.new 72, 3) := by decide +kernel
theorem dX7_tap_20 : decode cX7_tap 20 = .ok (.dup, 1) := by decide +kernel
theorem dX7_tap_21 : decode cX7_tap 21 = .ok (.ldc 74, 2) := by decide +kernel
theorem dX7_tap_23 : decode cX7_tap 23 = .ok (.invokespecial 76, 3) := by decide +kernel
theorem dX7_tap_26 : decode cX7_tap 26 = .ok (.athrow, 1) := by decide +kernel
theorem dX7_tap_27 : decode cX7_tap 27 = .ok (.aload_n 0, 1) := by decide +kernel
theorem dX7_tap_28 : decode cX7_tap 28 = .ok (.getfield 10, 3) := by decide +kernel
theorem dX7_tap_31 : decode cX7_tap 31 = .ok (.getfield 55, 3) := by decide +kernel
theorem dX7_tap_34 : decode cX7_tap 34 = .ok (.getfield 79, 3) := by decide +kernel
theorem dX7_tap_37 : decode cX7_tap 37 = .ok (.bipush 60, 2) := by decide +kernel
theorem dX7_tap_39 : decode cX7_tap 39 = .ok (.if_icmp .lt 13, 3) := by decide +kernel
theorem dX7_tap_42 : decode cX7_tap 42 = .ok (.new 82, 3) := by decide +kernel
theorem dX7_tap_45 : decode cX7_tap 45 = .ok (.dup, 1) := by decide +kernel
theorem dX7_tap_46 : decode cX7_tap 46 = .ok (.ldc 84, 2) := by decide +kernel
theorem dX7_tap_48 : decode cX7_tap 48 = .ok (.invokespecial 86, 3) := by decide +kernel
theorem dX7_tap_51 : decode cX7_tap 51 = .ok (.athrow, 1) := by decide +kernel
theorem dX7_tap_52 : decode cX7_tap 52 = .ok (.aload_n 0, 1) := by decide +kernel
theorem dX7_tap_53 : decode cX7_tap 53 = .ok (.getfield 26, 3) := by decide +kernel
theorem dX7_tap_56 : decode cX7_tap 56 = .ok (.aload_n 0, 1) := by decide +kernel
theorem dX7_tap_57 : decode cX7_tap 57 = .ok (.getfield 10, 3) := by decide +kernel
theorem dX7_tap_60 : decode cX7_tap 60 = .ok (.invokevirtual 87, 3) := by decide +kernel
theorem dX7_tap_63 : decode cX7_tap 63 = .ok (.aload_n 0, 1) := by decide +kernel
theorem dX7_tap_64 : decode cX7_tap 64 = .ok (.getfield 10, 3) := by decide +kernel
theorem dX7_tap_67 : decode cX7_tap 67 = .ok (.getfield 55, 3) := by decide +kernel
theorem dX7_tap_70 : decode cX7_tap 70 = .ok (.iload_n 1, 1) := by decide +kernel
theorem dX7_tap_71 : decode cX7_tap 71 = .ok (.iload_n 2, 1) := by decide +kernel
theorem dX7_tap_72 : decode cX7_tap 72 = .ok (.iload_n 3, 1) := by decide +kernel
theorem dX7_tap_73 : decode cX7_tap 73 = .ok (.iload 4, 2) := by decide +kernel
theorem dX7_tap_75 : decode cX7_tap 75 = .ok (.iload 5, 2) := by decide +kernel
theorem dX7_tap_77 : decode cX7_tap 77 = .ok (.invokestatic 91, 3) := by decide +kernel
theorem dX7_tap_80 : decode cX7_tap 80 = .ok (.invokevirtual 97, 3) := by decide +kernel
theorem dX7_tap_83 : decode cX7_tap 83 = .ok (.istore 6, 2) := by decide +kernel
theorem dX7_tap_85 : decode cX7_tap 85 = .ok (.aload_n 0, 1) := by decide +kernel
theorem dX7_tap_86 : decode cX7_tap 86 = .ok (.invokevirtual 101, 3) := by decide +kernel
theorem dX7_tap_89 : decode cX7_tap 89 = .ok (.iload 6, 2) := by decide +kernel
theorem dX7_tap_91 : decode cX7_tap 91 = .ok (.ireturn, 1) := by decide +kernel
theorem dX7_remove_0 : decode cX7_remove 0 = .ok (.aload_n 0, 1) := by decide +kernel
theorem dX7_remove_1 : decode cX7_remove 1 = .ok (.iload_n 1, 1) := by decide +kernel
theorem dX7_remove_2 : decode cX7_remove 2 = .ok (.invokevirtual 104, 3) := by decide +kernel
theorem dX7_remove_5 : decode cX7_remove 5 = .ok (.ifCond .ne 13, 3) := by decide +kernel
theorem dX7_remove_8 : decode cX7_remove 8 = .ok (.new 108, 3) := by decide +kernel
theorem dX7_remove_11 : decode cX7_remove 11 = .ok (.dup, 1) := by decide +kernel
theorem dX7_remove_12 : decode cX7_remove 12 = .ok (.ldc 110, 2) := by decide +kernel
theorem dX7_remove_14 : decode cX7_remove 14 = .ok (.invokespecial 112, 3) := by decide +kernel
theorem dX7_remove_17 : decode cX7_remove 17 = .ok (.athrow, 1) := by decide +kernel
theorem dX7_remove_18 : decode cX7_remove 18 = .ok (.aload_n 0, 1) := by decide +kernel
theorem dX7_remove_19 : decode cX7_remove 19 = .ok (.getfield 26, 3) := by decide +kernel
theorem dX7_remove_22 : decode cX7_remove 22 = .ok (.aload_n 0, 1) := by decide +kernel
theorem dX7_remove_23 : decode cX7_remove 23 = .ok (.getfield 10, 3) := by decide +kernel
theorem dX7_remove_26 : decode cX7_remove 26 = .ok (.invokevirtual 87, 3) := by decide +kernel
theorem dX7_remove_29 : decode cX7_remove 29 = .ok (.aload_n 0, 1) := by decide +kernel
theorem dX7_remove_30 : decode cX7_remove 30 = .ok (.getfield 10, 3) := by decide +kernel
theorem dX7_remove_33 : decode cX7_remove 33 = .ok (.getfield 55, 3) := by decide +kernel
theorem dX7_remove_36 : decode cX7_remove 36 = .ok (.iload_n 1, 1) := by decide +kernel
theorem dX7_remove_37 : decode cX7_remove 37 = .ok (.invokevirtual 113, 3) := by decide +kernel
theorem dX7_remove_40 : decode cX7_remove 40 = .ok (.aload_n 0, 1) := by decide +kernel
theorem dX7_remove_41 : decode cX7_remove 41 = .ok (.invokevirtual 101, 3) := by decide +kernel
theorem dX7_remove_44 : decode cX7_remove 44 = .ok (.aload_n 0, 1) := by decide +kernel
theorem dX7_remove_45 : decode cX7_remove 45 = .ok (.getfield 10, 3) := by decide +kernel
theorem dX7_remove_48 : decode cX7_remove 48 = .ok (.getfield 55, 3) := by decide +kernel
theorem dX7_remove_51 : decode cX7_remove 51 = .ok (.getfield 79, 3) := by decide +kernel
theorem dX7_remove_54 : decode cX7_remove 54 = .ok (.ireturn, 1) := by decide +kernel
theorem dX7_claim_0 : decode cX7_claim 0 = .ok (.iload_n 2, 1) := by decide +kernel
theorem dX7_claim_1 : decode cX7_claim 1 = .ok (.iload_n 3, 1) := by decide +kernel
theorem dX7_claim_2 : decode cX7_claim 2 = .ok (.invokestatic 69, 3) := by decide +kernel
theorem dX7_claim_5 : decode cX7_claim 5 = .ok (.ifCond .ne 13, 3) := by decide +kernel
theorem dX7_claim_8 : decode cX7_claim 8 = .ok (.new 72, 3) := by decide +kernel
theorem dX7_claim_11 : decode cX7_claim 11 = .ok (.dup, 1) := by decide +kernel
theorem dX7_claim_12 : decode cX7_claim 12 = .ok (.ldc 117, 2) := by decide +kernel
theorem dX7_claim_14 : decode cX7_claim 14 = .ok (.invokespecial 76, 3) := by decide +kernel
theorem dX7_claim_17 : decode cX7_claim 17 = .ok (.athrow, 1) := by decide +kernel
theorem dX7_claim_18 : decode cX7_claim 18 = .ok (.aload_n 0, 1) := by decide +kernel
theorem dX7_claim_19 : decode cX7_claim 19 = .ok (.iload_n 1, 1) := by decide +kernel
theorem dX7_claim_20 : decode cX7_claim 20 = .ok (.iload_n 2, 1) := by decide +kernel
theorem dX7_claim_21 : decode cX7_claim 21 = .ok (.iload_n 3, 1) := by decide +kernel
theorem dX7_claim_22 : decode cX7_claim 22 = .ok (.invokevirtual 119, 3) := by decide +kernel
theorem dX7_claim_25 : decode cX7_claim 25 = .ok (.istore 4, 2) := by decide +kernel
theorem dX7_claim_27 : decode cX7_claim 27 = .ok (.aload_n 0, 1) := by decide +kernel
theorem dX7_claim_28 : decode cX7_claim 28 = .ok (.getfield 26, 3) := by decide +kernel
theorem dX7_claim_31 : decode cX7_claim 31 = .ok (.aload_n 0, 1) := by decide +kernel
theorem dX7_claim_32 : decode cX7_claim 32 = .ok (.getfield 10, 3) := by decide +kernel
theorem dX7_claim_35 : decode cX7_claim 35 = .ok (.invokevirtual 87, 3) := by decide +kernel
theorem dX7_claim_38 : decode cX7_claim 38 = .ok (.iload 4, 2) := by decide +kernel
theorem dX7_claim_40 : decode cX7_claim 40 = .ok (.ifCond .ne 13, 3) := by decide +kernel
theorem dX7_claim_43 : decode cX7_claim 43 = .ok (.aload_n 0, 1) := by decide +kernel
theorem dX7_claim_44 : decode cX7_claim 44 = .ok (.iload_n 1, 1) := by decide +kernel
theorem dX7_claim_45 : decode cX7_claim 45 = .ok (.iload_n 2, 1) := by decide +kernel
theorem dX7_claim_46 : decode cX7_claim 46 = .ok (.iload_n 3, 1) := by decide +kernel
theorem dX7_claim_47 : decode cX7_claim 47 = .ok (.invokevirtual 123, 3) := by decide +kernel
theorem dX7_claim_50 : decode cX7_claim 50 = .ok (.goto 16, 3) := by decide +kernel
theorem dX7_claim_53 : decode cX7_claim 53 = .ok (.aload_n 0, 1) := by decide +kernel
theorem dX7_claim_54 : decode cX7_claim 54 = .ok (.getfield 10, 3) := by decide +kernel
theorem dX7_claim_57 : decode cX7_claim 57 = .ok (.dup, 1) := by decide +kernel
theorem dX7_claim_58 : decode cX7_claim 58 = .ok (.getfield 127, 3) := by decide +kernel
theorem dX7_claim_61 : decode cX7_claim 61 = .ok (.iconst 1, 1) := by decide +kernel
theorem dX7_claim_62 : decode cX7_claim 62 = .ok (.iadd, 1) := by decide +kernel
theorem dX7_claim_63 : decode cX7_claim 63 = .ok (.putfield 127, 3) := by decide +kernel
theorem dX7_claim_66 : decode cX7_claim 66 = .ok (.iload 4, 2) := by decide +kernel
theorem dX7_claim_68 : decode cX7_claim 68 = .ok (.ireturn, 1) := by decide +kernel
theorem dX7_settle_0 : decode cX7_settle 0 = .ok (.iload_n 1, 1) := by decide +kernel
theorem dX7_settle_1 : decode cX7_settle 1 = .ok (.iconst 4, 1) := by decide +kernel
theorem dX7_settle_2 : decode cX7_settle 2 = .ok (.invokestatic 130, 3) := by decide +kernel
theorem dX7_settle_5 : decode cX7_settle 5 = .ok (.ifCond .ne 13, 3) := by decide +kernel
theorem dX7_settle_8 : decode cX7_settle 8 = .ok (.new 72, 3) := by decide +kernel
theorem dX7_settle_11 : decode cX7_settle 11 = .ok (.dup, 1) := by decide +kernel
theorem dX7_settle_12 : decode cX7_settle 12 = .ok (.ldc 133, 2) := by decide +kernel
theorem dX7_settle_14 : decode cX7_settle 14 = .ok (.invokespecial 76, 3) := by decide +kernel
theorem dX7_settle_17 : decode cX7_settle 17 = .ok (.athrow, 1) := by decide +kernel
theorem dX7_settle_18 : decode cX7_settle 18 = .ok (.aload_n 0, 1) := by decide +kernel
theorem dX7_settle_19 : decode cX7_settle 19 = .ok (.getfield 26, 3) := by decide +kernel
theorem dX7_settle_22 : decode cX7_settle 22 = .ok (.aload_n 0, 1) := by decide +kernel
theorem dX7_settle_23 : decode cX7_settle 23 = .ok (.getfield 10, 3) := by decide +kernel
theorem dX7_settle_26 : decode cX7_settle 26 = .ok (.invokevirtual 87, 3) := by decide +kernel
theorem dX7_settle_29 : decode cX7_settle 29 = .ok (.iconst 0, 1) := by decide +kernel
theorem dX7_settle_30 : decode cX7_settle 30 = .ok (.istore_n 2, 1) := by decide +kernel
theorem dX7_settle_31 : decode cX7_settle 31 = .ok (.iconst 0, 1) := by decide +kernel
theorem dX7_settle_32 : decode cX7_settle 32 = .ok (.istore_n 3, 1) := by decide +kernel
theorem dX7_settle_33 : decode cX7_settle 33 = .ok (.iload_n 3, 1) := by decide +kernel
theorem dX7_settle_34 : decode cX7_settle 34 = .ok (.iconst 4, 1) := by decide +kernel
theorem dX7_settle_35 : decode cX7_settle 35 = .ok (.if_icmp .ge 30, 3) := by decide +kernel
theorem dX7_settle_38 : decode cX7_settle 38 = .ok (.iload_n 2, 1) := by decide +kernel
theorem dX7_settle_39 : decode cX7_settle 39 = .ok (.aload_n 0, 1) := by decide +kernel
theorem dX7_settle_40 : decode cX7_settle 40 = .ok (.getfield 10, 3) := by decide +kernel
theorem dX7_settle_43 : decode cX7_settle 43 = .ok (.iload_n 3, 1) := by decide +kernel
theorem dX7_settle_44 : decode cX7_settle 44 = .ok (.iload_n 1, 1) := by decide +kernel
theorem dX7_settle_45 : decode cX7_settle 45 = .ok (.aload_n 0, 1) := by decide +kernel
theorem dX7_settle_46 : decode cX7_settle 46 = .ok (.getfield 19, 3) := by decide +kernel
theorem dX7_settle_49 : decode cX7_settle 49 = .ok (.iload_n 3, 1) := by decide +kernel
theorem dX7_settle_50 : decode cX7_settle 50 = .ok (.iload_n 1, 1) := by decide +kernel
theorem dX7_settle_51 : decode cX7_settle 51 = .ok (.invokevirtual 135, 3) := by decide +kernel
theorem dX7_settle_54 : decode cX7_settle 54 = .ok (.invokevirtual 139, 3) := by decide +kernel
theorem dX7_settle_57 : decode cX7_settle 57 = .ok (.iadd, 1) := by decide +kernel
theorem dX7_settle_58 : decode cX7_settle 58 = .ok (.istore_n 2, 1) := by decide +kernel
theorem dX7_settle_59 : decode cX7_settle 59 = .ok (.iinc 3 1, 3) := by decide +kernel
theorem dX7_settle_62 : decode cX7_settle 62 = .ok (.goto (-29), 3) := by decide +kernel
theorem dX7_settle_65 : decode cX7_settle 65 = .ok (.iload_n 2, 1) := by decide +kernel
theorem dX7_settle_66 : decode cX7_settle 66 = .ok (.ldc 142, 2) := by decide +kernel
theorem dX7_settle_68 : decode cX7_settle 68 = .ok (.iadd, 1) := by decide +kernel
theorem dX7_settle_69 : decode cX7_settle 69 = .ok (.ireturn, 1) := by decide +kernel
theorem dX7_set_0 : decode cX7_set 0 = .ok (.iload_n 1, 1) := by decide +kernel
theorem dX7_set_1 : decode cX7_set 1 = .ok (.bipush 6, 2) := by decide +kernel
theorem dX7_set_3 : decode cX7_set 3 = .ok (.invokestatic 130, 3) := by decide +kernel
theorem dX7_set_6 : decode cX7_set 6 = .ok (.ifCond .ne 13, 3) := by decide +kernel
theorem dX7_set_9 : decode cX7_set 9 = .ok (.new 108, 3) := by decide +kernel
theorem dX7_set_12 : decode cX7_set 12 = .ok (.dup, 1) := by decide +kernel
theorem dX7_set_13 : decode cX7_set 13 = .ok (.ldc 143, 2) := by decide +kernel
theorem dX7_set_15 : decode cX7_set 15 = .ok (.invokespecial 112, 3) := by decide +kernel
theorem dX7_set_18 : decode cX7_set 18 = .ok (.athrow, 1) := by decide +kernel
theorem dX7_set_19 : decode cX7_set 19 = .ok (.iload_n 2, 1) := by decide +kernel
theorem dX7_set_20 : decode cX7_set 20 = .ok (.getstatic 145, 3) := by decide +kernel
theorem dX7_set_23 : decode cX7_set 23 = .ok (.iload_n 1, 1) := by decide +kernel
theorem dX7_set_24 : decode cX7_set 24 = .ok (.invokestatic 148, 3) := by decide +kernel
theorem dX7_set_27 : decode cX7_set 27 = .ok (.if_icmp .lt 14, 3) := by decide +kernel
theorem dX7_set_30 : decode cX7_set 30 = .ok (.iload_n 2, 1) := by decide +kernel
theorem dX7_set_31 : decode cX7_set 31 = .ok (.getstatic 154, 3) := by decide +kernel
theorem dX7_set_34 : decode cX7_set 34 = .ok (.iload_n 1, 1) := by decide +kernel
theorem dX7_set_35 : decode cX7_set 35 = .ok (.invokestatic 148, 3) := by decide +kernel
theorem dX7_set_38 : decode cX7_set 38 = .ok (.if_icmp .le 13, 3) := by decide +kernel
theorem dX7_set_41 : decode cX7_set 41 = .ok (.new 72, 3) := by decide +kernel
theorem dX7_set_44 : decode cX7_set 44 = .ok (.dup, 1) := by decide +kernel
theorem dX7_set_45 : decode cX7_set 45 = .ok (.ldc 157, 2) := by decide +kernel
theorem dX7_set_47 : decode cX7_set 47 = .ok (.invokespecial 76, 3) := by decide +kernel
theorem dX7_set_50 : decode cX7_set 50 = .ok (.athrow, 1) := by decide +kernel
theorem dX7_set_51 : decode cX7_set 51 = .ok (.aload_n 0, 1) := by decide +kernel
theorem dX7_set_52 : decode cX7_set 52 = .ok (.getfield 26, 3) := by decide +kernel
theorem dX7_set_55 : decode cX7_set 55 = .ok (.aload_n 0, 1) := by decide +kernel
theorem dX7_set_56 : decode cX7_set 56 = .ok (.getfield 10, 3) := by decide +kernel
theorem dX7_set_59 : decode cX7_set 59 = .ok (.invokevirtual 87, 3) := by decide +kernel
theorem dX7_set_62 : decode cX7_set 62 = .ok (.aload_n 0, 1) := by decide +kernel
theorem dX7_set_63 : decode cX7_set 63 = .ok (.getfield 10, 3) := by decide +kernel
theorem dX7_set_66 : decode cX7_set 66 = .ok (.getfield 58, 3) := by decide +kernel
theorem dX7_set_69 : decode cX7_set 69 = .ok (.iload_n 1, 1) := by decide +kernel
theorem dX7_set_70 : decode cX7_set 70 = .ok (.invokestatic 148, 3) := by decide +kernel
theorem dX7_set_73 : decode cX7_set 73 = .ok (.istore_n 3, 1) := by decide +kernel
theorem dX7_set_74 : decode cX7_set 74 = .ok (.aload_n 0, 1) := by decide +kernel
theorem dX7_set_75 : decode cX7_set 75 = .ok (.getfield 10, 3) := by decide +kernel
theorem dX7_set_78 : decode cX7_set 78 = .ok (.getfield 58, 3) := by decide +kernel
theorem dX7_set_81 : decode cX7_set 81 = .ok (.iload_n 1, 1) := by decide +kernel
theorem dX7_set_82 : decode cX7_set 82 = .ok (.iload_n 2, 1) := by decide +kernel
theorem dX7_set_83 : decode cX7_set 83 = .ok (.invokestatic 159, 3) := by decide +kernel
theorem dX7_set_86 : decode cX7_set 86 = .ok (.aload_n 0, 1) := by decide +kernel
theorem dX7_set_87 : decode cX7_set 87 = .ok (.invokevirtual 101, 3) := by decide +kernel
theorem dX7_set_90 : decode cX7_set 90 = .ok (.iload_n 3, 1) := by decide +kernel
theorem dX7_set_91 : decode cX7_set 91 = .ok (.ireturn, 1) := by decide +kernel
theorem dX7_append_0 : decode cX7_append 0 = .ok (.iload_n 1, 1) := by decide +kernel
theorem dX7_append_1 : decode cX7_append 1 = .ok (.bipush 33, 2) := by decide +kernel
theorem dX7_append_3 : decode cX7_append 3 = .ok (.if_icmp .lt 9, 3) := by decide +kernel
theorem dX7_append_6 : decode cX7_append 6 = .ok (.iload_n 1, 1) := by decide +kernel
theorem dX7_append_7 : decode cX7_append 7 = .ok (.bipush 126, 2) := by decide +kernel
theorem dX7_append_9 : decode cX7_append 9 = .ok (.if_icmp .le 13, 3) := by decide +kernel
theorem dX7_append_12 : decode cX7_append 12 = .ok (.new 72, 3) := by decide +kernel
theorem dX7_append_15 : decode cX7_append 15 = .ok (.dup, 1) := by decide +kernel
theorem dX7_append_16 : decode cX7_append 16 = .ok (.ldc 163, 2) := by decide +kernel
theorem dX7_append_18 : decode cX7_append 18 = .ok (.invokespecial 76, 3) := by decide +kernel
theorem dX7_append_21 : decode cX7_append 21 = .ok (.athrow, 1) := by decide +kernel
theorem dX7_append_22 : decode cX7_append 22 = .ok (.aload_n 0, 1) := by decide +kernel
theorem dX7_append_23 : decode cX7_append 23 = .ok (.getfield 44, 3) := by decide +kernel
theorem dX7_append_26 : decode cX7_append 26 = .ok (.bipush 60, 2) := by decide +kernel
theorem dX7_append_28 : decode cX7_append 28 = .ok (.if_icmp .lt 13, 3) := by decide +kernel
theorem dX7_append_31 : decode cX7_append 31 = .ok (.new 82, 3) := by decide +kernel
theorem dX7_append_34 : decode cX7_append 34 = .ok (.dup, 1) := by decide +kernel
theorem dX7_append_35 : decode cX7_append 35 = .ok (.ldc 165, 2) := by decide +kernel
theorem dX7_append_37 : decode cX7_append 37 = .ok (.invokespecial 86, 3) := by decide +kernel
theorem dX7_append_40 : decode cX7_append 40 = .ok (.athrow, 1) := by decide +kernel
theorem dX7_append_41 : decode cX7_append 41 = .ok (.aload_n 0, 1) := by decide +kernel
theorem dX7_append_42 : decode cX7_append 42 = .ok (.getfield 40, 3) := by decide +kernel
theorem dX7_append_45 : decode cX7_append 45 = .ok (.aload_n 0, 1) := by decide +kernel
theorem dX7_append_46 : decode cX7_append 46 = .ok (.getfield 44, 3) := by decide +kernel
theorem dX7_append_49 : decode cX7_append 49 = .ok (.iload_n 1, 1) := by decide +kernel
theorem dX7_append_50 : decode cX7_append 50 = .ok (.invokestatic 159, 3) := by decide +kernel
theorem dX7_append_53 : decode cX7_append 53 = .ok (.aload_n 0, 1) := by decide +kernel
theorem dX7_append_54 : decode cX7_append 54 = .ok (.dup, 1) := by decide +kernel
theorem dX7_append_55 : decode cX7_append 55 = .ok (.getfield 44, 3) := by decide +kernel
theorem dX7_append_58 : decode cX7_append 58 = .ok (.iconst 1, 1) := by decide +kernel
theorem dX7_append_59 : decode cX7_append 59 = .ok (.iadd, 1) := by decide +kernel
theorem dX7_append_60 : decode cX7_append 60 = .ok (.putfield 44, 3) := by decide +kernel
theorem dX7_append_63 : decode cX7_append 63 = .ok (.aload_n 0, 1) := by decide +kernel
theorem dX7_append_64 : decode cX7_append 64 = .ok (.getfield 44, 3) := by decide +kernel
theorem dX7_append_67 : decode cX7_append 67 = .ok (.ireturn, 1) := by decide +kernel
theorem dX7_clearBuffer_0 : decode cX7_clearBuffer 0 = .ok (.aload_n 0, 1) := by decide +kernel
theorem dX7_clearBuffer_1 : decode cX7_clearBuffer 1 = .ok (.getfield 44, 3) := by decide +kernel
theorem dX7_clearBuffer_4 : decode cX7_clearBuffer 4 = .ok (.istore_n 1, 1) := by decide +kernel
theorem dX7_clearBuffer_5 : decode cX7_clearBuffer 5 = .ok (.aload_n 0, 1) := by decide +kernel
theorem dX7_clearBuffer_6 : decode cX7_clearBuffer 6 = .ok (.iconst 0, 1) := by decide +kernel
theorem dX7_clearBuffer_7 : decode cX7_clearBuffer 7 = .ok (.putfield 44, 3) := by decide +kernel
theorem dX7_clearBuffer_10 : decode cX7_clearBuffer 10 = .ok (.iload_n 1, 1) := by decide +kernel
theorem dX7_clearBuffer_11 : decode cX7_clearBuffer 11 = .ok (.ireturn, 1) := by decide +kernel
theorem dX7_firstError_0 : decode cX7_firstError 0 = .ok (.aload_n 0, 1) := by decide +kernel
theorem dX7_firstError_1 : decode cX7_firstError 1 = .ok (.getfield 51, 3) := by decide +kernel
theorem dX7_firstError_4 : decode cX7_firstError 4 = .ok (.aload_n 0, 1) := by decide +kernel
theorem dX7_firstError_5 : decode cX7_firstError 5 = .ok (.getfield 40, 3) := by decide +kernel
theorem dX7_firstError_8 : decode cX7_firstError 8 = .ok (.aload_n 0, 1) := by decide +kernel
theorem dX7_firstError_9 : decode cX7_firstError 9 = .ok (.getfield 44, 3) := by decide +kernel
theorem dX7_firstError_12 : decode cX7_firstError 12 = .ok (.invokevirtual 167, 3) := by decide +kernel
theorem dX7_firstError_15 : decode cX7_firstError 15 = .ok (.ireturn, 1) := by decide +kernel
theorem dX7_load_0 : decode cX7_load 0 = .ok (.aload_n 0, 1) := by decide +kernel
theorem dX7_load_1 : decode cX7_load 1 = .ok (.getfield 51, 3) := by decide +kernel
theorem dX7_load_4 : decode cX7_load 4 = .ok (.aload_n 0, 1) := by decide +kernel
theorem dX7_load_5 : decode cX7_load 5 = .ok (.getfield 40, 3) := by decide +kernel
theorem dX7_load_8 : decode cX7_load 8 = .ok (.aload_n 0, 1) := by decide +kernel
theorem dX7_load_9 : decode cX7_load 9 = .ok (.getfield 44, 3) := by decide +kernel
theorem dX7_load_12 : decode cX7_load 12 = .ok (.invokevirtual 167, 3) := by decide +kernel
theorem dX7_load_15 : decode cX7_load 15 = .ok (.aload_n 0, 1) := by decide +kernel
theorem dX7_load_16 : decode cX7_load 16 = .ok (.getfield 44, 3) := by decide +kernel
theorem dX7_load_19 : decode cX7_load 19 = .ok (.if_icmp .lt 13, 3) := by decide +kernel
theorem dX7_load_22 : decode cX7_load 22 = .ok (.aload_n 0, 1) := by decide +kernel
theorem dX7_load_23 : decode cX7_load 23 = .ok (.getfield 51, 3) := by decide +kernel
theorem dX7_load_26 : decode cX7_load 26 = .ok (.invokevirtual 170, 3) := by decide +kernel
theorem dX7_load_29 : decode cX7_load 29 = .ok (.ifCond .ne 13, 3) := by decide +kernel
theorem dX7_load_32 : decode cX7_load 32 = .ok (.new 72, 3) := by decide +kernel
theorem dX7_load_35 : decode cX7_load 35 = .ok (.dup, 1) := by decide +kernel
theorem dX7_load_36 : decode cX7_load 36 = .ok (.ldc 174, 2) := by decide +kernel
theorem dX7_load_38 : decode cX7_load 38 = .ok (.invokespecial 76, 3) := by decide +kernel
theorem dX7_load_41 : decode cX7_load 41 = .ok (.athrow, 1) := by decide +kernel
theorem dX7_load_42 : decode cX7_load 42 = .ok (.aload_n 0, 1) := by decide +kernel
theorem dX7_load_43 : decode cX7_load 43 = .ok (.getfield 26, 3) := by decide +kernel
theorem dX7_load_46 : decode cX7_load 46 = .ok (.aload_n 0, 1) := by decide +kernel
theorem dX7_load_47 : decode cX7_load 47 = .ok (.getfield 10, 3) := by decide +kernel
theorem dX7_load_50 : decode cX7_load 50 = .ok (.invokevirtual 87, 3) := by decide +kernel
theorem dX7_load_53 : decode cX7_load 53 = .ok (.iconst 0, 1) := by decide +kernel
theorem dX7_load_54 : decode cX7_load 54 = .ok (.istore_n 1, 1) := by decide +kernel
theorem dX7_load_55 : decode cX7_load 55 = .ok (.iload_n 1, 1) := by decide +kernel
theorem dX7_load_56 : decode cX7_load 56 = .ok (.aload_n 0, 1) := by decide +kernel
theorem dX7_load_57 : decode cX7_load 57 = .ok (.getfield 51, 3) := by decide +kernel
theorem dX7_load_60 : decode cX7_load 60 = .ok (.getfield 176, 3) := by decide +kernel
theorem dX7_load_63 : decode cX7_load 63 = .ok (.if_icmp .ge 46, 3) := by decide +kernel
theorem dX7_load_66 : decode cX7_load 66 = .ok (.aload_n 0, 1) := by decide +kernel
theorem dX7_load_67 : decode cX7_load 67 = .ok (.getfield 10, 3) := by decide +kernel
theorem dX7_load_70 : decode cX7_load 70 = .ok (.getfield 55, 3) := by decide +kernel
theorem dX7_load_73 : decode cX7_load 73 = .ok (.getfield 79, 3) := by decide +kernel
theorem dX7_load_76 : decode cX7_load 76 = .ok (.bipush 60, 2) := by decide +kernel
theorem dX7_load_78 : decode cX7_load 78 = .ok (.if_icmp .ge 31, 3) := by decide +kernel
theorem dX7_load_81 : decode cX7_load 81 = .ok (.aload_n 0, 1) := by decide +kernel
theorem dX7_load_82 : decode cX7_load 82 = .ok (.getfield 10, 3) := by decide +kernel
theorem dX7_load_85 : decode cX7_load 85 = .ok (.getfield 55, 3) := by decide +kernel
theorem dX7_load_88 : decode cX7_load 88 = .ok (.aload_n 0, 1) := by decide +kernel
theorem dX7_load_89 : decode cX7_load 89 = .ok (.getfield 51, 3) := by decide +kernel
theorem dX7_load_92 : decode cX7_load 92 = .ok (.getfield 179, 3) := by decide +kernel
theorem dX7_load_95 : decode cX7_load 95 = .ok (.iload_n 1, 1) := by decide +kernel
theorem dX7_load_96 : decode cX7_load 96 = .ok (.invokestatic 148, 3) := by decide +kernel
theorem dX7_load_99 : decode cX7_load 99 = .ok (.invokevirtual 97, 3) := by decide +kernel
theorem dX7_load_102 : decode cX7_load 102 = .ok (.pop, 1) := by decide +kernel
theorem dX7_load_103 : decode cX7_load 103 = .ok (.iinc 1 1, 3) := by decide +kernel
theorem dX7_load_106 : decode cX7_load 106 = .ok (.goto (-51), 3) := by decide +kernel
theorem dX7_load_109 : decode cX7_load 109 = .ok (.aload_n 0, 1) := by decide +kernel
theorem dX7_load_110 : decode cX7_load 110 = .ok (.invokevirtual 101, 3) := by decide +kernel
theorem dX7_load_113 : decode cX7_load 113 = .ok (.aload_n 0, 1) := by decide +kernel
theorem dX7_load_114 : decode cX7_load 114 = .ok (.iconst 0, 1) := by decide +kernel
theorem dX7_load_115 : decode cX7_load 115 = .ok (.putfield 44, 3) := by decide +kernel
theorem dX7_load_118 : decode cX7_load 118 = .ok (.iload_n 1, 1) := by decide +kernel
theorem dX7_load_119 : decode cX7_load 119 = .ok (.ireturn, 1) := by decide +kernel
theorem dX7_undo_0 : decode cX7_undo 0 = .ok (.aload_n 0, 1) := by decide +kernel
theorem dX7_undo_1 : decode cX7_undo 1 = .ok (.getfield 26, 3) := by decide +kernel
theorem dX7_undo_4 : decode cX7_undo 4 = .ok (.getfield 181, 3) := by decide +kernel
theorem dX7_undo_7 : decode cX7_undo 7 = .ok (.ifCond .gt 13, 3) := by decide +kernel
theorem dX7_undo_10 : decode cX7_undo 10 = .ok (.new 82, 3) := by decide +kernel
theorem dX7_undo_13 : decode cX7_undo 13 = .ok (.dup, 1) := by decide +kernel
theorem dX7_undo_14 : decode cX7_undo 14 = .ok (.ldc 182, 2) := by decide +kernel
theorem dX7_undo_16 : decode cX7_undo 16 = .ok (.invokespecial 86, 3) := by decide +kernel
theorem dX7_undo_19 : decode cX7_undo 19 = .ok (.athrow, 1) := by decide +kernel
theorem dX7_undo_20 : decode cX7_undo 20 = .ok (.aload_n 0, 1) := by decide +kernel
theorem dX7_undo_21 : decode cX7_undo 21 = .ok (.getfield 26, 3) := by decide +kernel
theorem dX7_undo_24 : decode cX7_undo 24 = .ok (.aload_n 0, 1) := by decide +kernel
theorem dX7_undo_25 : decode cX7_undo 25 = .ok (.getfield 10, 3) := by decide +kernel
theorem dX7_undo_28 : decode cX7_undo 28 = .ok (.invokevirtual 184, 3) := by decide +kernel
theorem dX7_undo_31 : decode cX7_undo 31 = .ok (.aload_n 0, 1) := by decide +kernel
theorem dX7_undo_32 : decode cX7_undo 32 = .ok (.invokevirtual 101, 3) := by decide +kernel
theorem dX7_undo_35 : decode cX7_undo 35 = .ok (.aload_n 0, 1) := by decide +kernel
theorem dX7_undo_36 : decode cX7_undo 36 = .ok (.getfield 26, 3) := by decide +kernel
theorem dX7_undo_39 : decode cX7_undo 39 = .ok (.getfield 181, 3) := by decide +kernel
theorem dX7_undo_42 : decode cX7_undo 42 = .ok (.ireturn, 1) := by decide +kernel
theorem dX7_tapOf_0 : decode cX7_tapOf 0 = .ok (.aload_n 0, 1) := by decide +kernel
theorem dX7_tapOf_1 : decode cX7_tapOf 1 = .ok (.iload_n 1, 1) := by decide +kernel
theorem dX7_tapOf_2 : decode cX7_tapOf 2 = .ok (.invokevirtual 104, 3) := by decide +kernel
theorem dX7_tapOf_5 : decode cX7_tapOf 5 = .ok (.ifCond .ne 13, 3) := by decide +kernel
theorem dX7_tapOf_8 : decode cX7_tapOf 8 = .ok (.new 108, 3) := by decide +kernel
theorem dX7_tapOf_11 : decode cX7_tapOf 11 = .ok (.dup, 1) := by decide +kernel
theorem dX7_tapOf_12 : decode cX7_tapOf 12 = .ok (.ldc 110, 2) := by decide +kernel
theorem dX7_tapOf_14 : decode cX7_tapOf 14 = .ok (.invokespecial 112, 3) := by decide +kernel
theorem dX7_tapOf_17 : decode cX7_tapOf 17 = .ok (.athrow, 1) := by decide +kernel
theorem dX7_tapOf_18 : decode cX7_tapOf 18 = .ok (.iload_n 2, 1) := by decide +kernel
theorem dX7_tapOf_19 : decode cX7_tapOf 19 = .ok (.bipush 8, 2) := by decide +kernel
theorem dX7_tapOf_21 : decode cX7_tapOf 21 = .ok (.invokestatic 130, 3) := by decide +kernel
theorem dX7_tapOf_24 : decode cX7_tapOf 24 = .ok (.ifCond .ne 13, 3) := by decide +kernel
theorem dX7_tapOf_27 : decode cX7_tapOf 27 = .ok (.new 72, 3) := by decide +kernel
theorem dX7_tapOf_30 : decode cX7_tapOf 30 = .ok (.dup, 1) := by decide +kernel
theorem dX7_tapOf_31 : decode cX7_tapOf 31 = .ok (.ldc 187, 2) := by decide +kernel
theorem dX7_tapOf_33 : decode cX7_tapOf 33 = .ok (.invokespecial 76, 3) := by decide +kernel
theorem dX7_tapOf_36 : decode cX7_tapOf 36 = .ok (.athrow, 1) := by decide +kernel
theorem dX7_tapOf_37 : decode cX7_tapOf 37 = .ok (.aload_n 0, 1) := by decide +kernel
theorem dX7_tapOf_38 : decode cX7_tapOf 38 = .ok (.iload_n 1, 1) := by decide +kernel
theorem dX7_tapOf_39 : decode cX7_tapOf 39 = .ok (.iload_n 2, 1) := by decide +kernel
theorem dX7_tapOf_40 : decode cX7_tapOf 40 = .ok (.invokevirtual 189, 3) := by decide +kernel
theorem dX7_tapOf_43 : decode cX7_tapOf 43 = .ok (.ireturn, 1) := by decide +kernel
theorem dX7_day_0 : decode cX7_day 0 = .ok (.iload_n 1, 1) := by decide +kernel
theorem dX7_day_1 : decode cX7_day 1 = .ok (.iload_n 2, 1) := by decide +kernel
theorem dX7_day_2 : decode cX7_day 2 = .ok (.invokestatic 65, 3) := by decide +kernel
theorem dX7_day_5 : decode cX7_day 5 = .ok (.ifCond .eq 11, 3) := by decide +kernel
theorem dX7_day_8 : decode cX7_day 8 = .ok (.iload_n 3, 1) := by decide +kernel
theorem dX7_day_9 : decode cX7_day 9 = .ok (.iconst 4, 1) := by decide +kernel
theorem dX7_day_10 : decode cX7_day 10 = .ok (.invokestatic 130, 3) := by decide +kernel
theorem dX7_day_13 : decode cX7_day 13 = .ok (.ifCond .ne 13, 3) := by decide +kernel
theorem dX7_day_16 : decode cX7_day 16 = .ok (.new 72, 3) := by decide +kernel
theorem dX7_day_19 : decode cX7_day 19 = .ok (.dup, 1) := by decide +kernel
theorem dX7_day_20 : decode cX7_day 20 = .ok (.ldc 74, 2) := by decide +kernel
theorem dX7_day_22 : decode cX7_day 22 = .ok (.invokespecial 76, 3) := by decide +kernel
theorem dX7_day_25 : decode cX7_day 25 = .ok (.athrow, 1) := by decide +kernel
theorem dX7_day_26 : decode cX7_day 26 = .ok (.aload_n 0, 1) := by decide +kernel
theorem dX7_day_27 : decode cX7_day 27 = .ok (.iload_n 1, 1) := by decide +kernel
theorem dX7_day_28 : decode cX7_day 28 = .ok (.iload_n 2, 1) := by decide +kernel
theorem dX7_day_29 : decode cX7_day 29 = .ok (.iload_n 3, 1) := by decide +kernel
theorem dX7_day_30 : decode cX7_day 30 = .ok (.invokevirtual 192, 3) := by decide +kernel
theorem dX7_day_33 : decode cX7_day 33 = .ok (.ireturn, 1) := by decide +kernel
theorem dX7_week_0 : decode cX7_week 0 = .ok (.iload_n 1, 1) := by decide +kernel
theorem dX7_week_1 : decode cX7_week 1 = .ok (.iconst 4, 1) := by decide +kernel
theorem dX7_week_2 : decode cX7_week 2 = .ok (.invokestatic 130, 3) := by decide +kernel
theorem dX7_week_5 : decode cX7_week 5 = .ok (.ifCond .eq 20, 3) := by decide +kernel
theorem dX7_week_8 : decode cX7_week 8 = .ok (.iload_n 2, 1) := by decide +kernel
theorem dX7_week_9 : decode cX7_week 9 = .ok (.iconst 4, 1) := by decide +kernel
theorem dX7_week_10 : decode cX7_week 10 = .ok (.invokestatic 130, 3) := by decide +kernel
theorem dX7_week_13 : decode cX7_week 13 = .ok (.ifCond .eq 12, 3) := by decide +kernel
theorem dX7_week_16 : decode cX7_week 16 = .ok (.iload_n 3, 1) := by decide +kernel
theorem dX7_week_17 : decode cX7_week 17 = .ok (.bipush 7, 2) := by decide +kernel
theorem dX7_week_19 : decode cX7_week 19 = .ok (.invokestatic 130, 3) := by decide +kernel
theorem dX7_week_22 : decode cX7_week 22 = .ok (.ifCond .ne 13, 3) := by decide +kernel
theorem dX7_week_25 : decode cX7_week 25 = .ok (.new 72, 3) := by decide +kernel
theorem dX7_week_28 : decode cX7_week 28 = .ok (.dup, 1) := by decide +kernel
theorem dX7_week_29 : decode cX7_week 29 = .ok (.ldc 74, 2) := by decide +kernel
theorem dX7_week_31 : decode cX7_week 31 = .ok (.invokespecial 76, 3) := by decide +kernel
theorem dX7_week_34 : decode cX7_week 34 = .ok (.athrow, 1) := by decide +kernel
theorem dX7_week_35 : decode cX7_week 35 = .ok (.aload_n 0, 1) := by decide +kernel
theorem dX7_week_36 : decode cX7_week 36 = .ok (.iload_n 1, 1) := by decide +kernel
theorem dX7_week_37 : decode cX7_week 37 = .ok (.iload_n 2, 1) := by decide +kernel
theorem dX7_week_38 : decode cX7_week 38 = .ok (.iload_n 3, 1) := by decide +kernel
theorem dX7_week_39 : decode cX7_week 39 = .ok (.invokevirtual 195, 3) := by decide +kernel
theorem dX7_week_42 : decode cX7_week 42 = .ok (.ireturn, 1) := by decide +kernel
theorem dX7_count_0 : decode cX7_count 0 = .ok (.iload_n 1, 1) := by decide +kernel
theorem dX7_count_1 : decode cX7_count 1 = .ok (.bipush 10, 2) := by decide +kernel
theorem dX7_count_3 : decode cX7_count 3 = .ok (.invokestatic 130, 3) := by decide +kernel
theorem dX7_count_6 : decode cX7_count 6 = .ok (.ifCond .ne 13, 3) := by decide +kernel
theorem dX7_count_9 : decode cX7_count 9 = .ok (.new 72, 3) := by decide +kernel
theorem dX7_count_12 : decode cX7_count 12 = .ok (.dup, 1) := by decide +kernel
theorem dX7_count_13 : decode cX7_count 13 = .ok (.ldc 198, 2) := by decide +kernel
theorem dX7_count_15 : decode cX7_count 15 = .ok (.invokespecial 76, 3) := by decide +kernel
theorem dX7_count_18 : decode cX7_count 18 = .ok (.athrow, 1) := by decide +kernel
theorem dX7_count_19 : decode cX7_count 19 = .ok (.aload_n 0, 1) := by decide +kernel
theorem dX7_count_20 : decode cX7_count 20 = .ok (.iload_n 1, 1) := by decide +kernel
theorem dX7_count_21 : decode cX7_count 21 = .ok (.invokevirtual 200, 3) := by decide +kernel
theorem dX7_count_24 : decode cX7_count 24 = .ok (.ireturn, 1) := by decide +kernel
theorem dX7_ledger_0 : decode cX7_ledger 0 = .ok (.iload_n 1, 1) := by decide +kernel
theorem dX7_ledger_1 : decode cX7_ledger 1 = .ok (.iconst 4, 1) := by decide +kernel
theorem dX7_ledger_2 : decode cX7_ledger 2 = .ok (.invokestatic 130, 3) := by decide +kernel
theorem dX7_ledger_5 : decode cX7_ledger 5 = .ok (.ifCond .eq 20, 3) := by decide +kernel
theorem dX7_ledger_8 : decode cX7_ledger 8 = .ok (.iload_n 2, 1) := by decide +kernel
theorem dX7_ledger_9 : decode cX7_ledger 9 = .ok (.bipush 8, 2) := by decide +kernel
theorem dX7_ledger_11 : decode cX7_ledger 11 = .ok (.invokestatic 130, 3) := by decide +kernel
theorem dX7_ledger_14 : decode cX7_ledger 14 = .ok (.ifCond .eq 11, 3) := by decide +kernel
theorem dX7_ledger_17 : decode cX7_ledger 17 = .ok (.iload_n 3, 1) := by decide +kernel
theorem dX7_ledger_18 : decode cX7_ledger 18 = .ok (.iconst 2, 1) := by decide +kernel
theorem dX7_ledger_19 : decode cX7_ledger 19 = .ok (.invokestatic 130, 3) := by decide +kernel
theorem dX7_ledger_22 : decode cX7_ledger 22 = .ok (.ifCond .ne 13, 3) := by decide +kernel
theorem dX7_ledger_25 : decode cX7_ledger 25 = .ok (.new 72, 3) := by decide +kernel
theorem dX7_ledger_28 : decode cX7_ledger 28 = .ok (.dup, 1) := by decide +kernel
theorem dX7_ledger_29 : decode cX7_ledger 29 = .ok (.ldc 74, 2) := by decide +kernel
theorem dX7_ledger_31 : decode cX7_ledger 31 = .ok (.invokespecial 76, 3) := by decide +kernel
theorem dX7_ledger_34 : decode cX7_ledger 34 = .ok (.athrow, 1) := by decide +kernel
theorem dX7_ledger_35 : decode cX7_ledger 35 = .ok (.aload_n 0, 1) := by decide +kernel
theorem dX7_ledger_36 : decode cX7_ledger 36 = .ok (.getfield 10, 3) := by decide +kernel
theorem dX7_ledger_39 : decode cX7_ledger 39 = .ok (.iload_n 1, 1) := by decide +kernel
theorem dX7_ledger_40 : decode cX7_ledger 40 = .ok (.iload_n 2, 1) := by decide +kernel
theorem dX7_ledger_41 : decode cX7_ledger 41 = .ok (.iload_n 3, 1) := by decide +kernel
theorem dX7_ledger_42 : decode cX7_ledger 42 = .ok (.invokevirtual 203, 3) := by decide +kernel
theorem dX7_ledger_45 : decode cX7_ledger 45 = .ok (.ireturn, 1) := by decide +kernel
theorem dX7_ifTapped_0 : decode cX7_ifTapped 0 = .ok (.iload_n 1, 1) := by decide +kernel
theorem dX7_ifTapped_1 : decode cX7_ifTapped 1 = .ok (.iload_n 2, 1) := by decide +kernel
theorem dX7_ifTapped_2 : decode cX7_ifTapped 2 = .ok (.invokestatic 65, 3) := by decide +kernel
theorem dX7_ifTapped_5 : decode cX7_ifTapped 5 = .ok (.ifCond .eq 12, 3) := by decide +kernel
theorem dX7_ifTapped_8 : decode cX7_ifTapped 8 = .ok (.iload_n 3, 1) := by decide +kernel
theorem dX7_ifTapped_9 : decode cX7_ifTapped 9 = .ok (.iload 4, 2) := by decide +kernel
theorem dX7_ifTapped_11 : decode cX7_ifTapped 11 = .ok (.invokestatic 69, 3) := by decide +kernel
theorem dX7_ifTapped_14 : decode cX7_ifTapped 14 = .ok (.ifCond .ne 13, 3) := by decide +kernel
theorem dX7_ifTapped_17 : decode cX7_ifTapped 17 = .ok (.new 72, 3) := by decide +kernel
theorem dX7_ifTapped_20 : decode cX7_ifTapped 20 = .ok (.dup, 1) := by decide +kernel
theorem dX7_ifTapped_21 : decode cX7_ifTapped 21 = .ok (.ldc 74, 2) := by decide +kernel
theorem dX7_ifTapped_23 : decode cX7_ifTapped 23 = .ok (.invokespecial 76, 3) := by decide +kernel
theorem dX7_ifTapped_26 : decode cX7_ifTapped 26 = .ok (.athrow, 1) := by decide +kernel
theorem dX7_ifTapped_27 : decode cX7_ifTapped 27 = .ok (.aload_n 0, 1) := by decide +kernel
theorem dX7_ifTapped_28 : decode cX7_ifTapped 28 = .ok (.iload_n 1, 1) := by decide +kernel
theorem dX7_ifTapped_29 : decode cX7_ifTapped 29 = .ok (.iload_n 2, 1) := by decide +kernel
theorem dX7_ifTapped_30 : decode cX7_ifTapped 30 = .ok (.iload_n 3, 1) := by decide +kernel
theorem dX7_ifTapped_31 : decode cX7_ifTapped 31 = .ok (.iload 4, 2) := by decide +kernel
theorem dX7_ifTapped_33 : decode cX7_ifTapped 33 = .ok (.iload 5, 2) := by decide +kernel
theorem dX7_ifTapped_35 : decode cX7_ifTapped 35 = .ok (.invokestatic 91, 3) := by decide +kernel
theorem dX7_ifTapped_38 : decode cX7_ifTapped 38 = .ok (.invokevirtual 206, 3) := by decide +kernel
theorem dX7_ifTapped_41 : decode cX7_ifTapped 41 = .ok (.ireturn, 1) := by decide +kernel
theorem dX7_whyNot_0 : decode cX7_whyNot 0 = .ok (.iload_n 2, 1) := by decide +kernel
theorem dX7_whyNot_1 : decode cX7_whyNot 1 = .ok (.iload_n 3, 1) := by decide +kernel
theorem dX7_whyNot_2 : decode cX7_whyNot 2 = .ok (.invokestatic 69, 3) := by decide +kernel
theorem dX7_whyNot_5 : decode cX7_whyNot 5 = .ok (.ifCond .ne 13, 3) := by decide +kernel
theorem dX7_whyNot_8 : decode cX7_whyNot 8 = .ok (.new 72, 3) := by decide +kernel
theorem dX7_whyNot_11 : decode cX7_whyNot 11 = .ok (.dup, 1) := by decide +kernel
theorem dX7_whyNot_12 : decode cX7_whyNot 12 = .ok (.ldc 117, 2) := by decide +kernel
theorem dX7_whyNot_14 : decode cX7_whyNot 14 = .ok (.invokespecial 76, 3) := by decide +kernel
theorem dX7_whyNot_17 : decode cX7_whyNot 17 = .ok (.athrow, 1) := by decide +kernel
theorem dX7_whyNot_18 : decode cX7_whyNot 18 = .ok (.aload_n 0, 1) := by decide +kernel
theorem dX7_whyNot_19 : decode cX7_whyNot 19 = .ok (.iload_n 1, 1) := by decide +kernel
theorem dX7_whyNot_20 : decode cX7_whyNot 20 = .ok (.iload_n 2, 1) := by decide +kernel
theorem dX7_whyNot_21 : decode cX7_whyNot 21 = .ok (.iload_n 3, 1) := by decide +kernel
theorem dX7_whyNot_22 : decode cX7_whyNot 22 = .ok (.invokevirtual 119, 3) := by decide +kernel
theorem dX7_whyNot_25 : decode cX7_whyNot 25 = .ok (.ireturn, 1) := by decide +kernel
theorem dX7_leaky_0 : decode cX7_leaky 0 = .ok (.iconst 0, 1) := by decide +kernel
theorem dX7_leaky_1 : decode cX7_leaky 1 = .ok (.istore_n 1, 1) := by decide +kernel
theorem dX7_leaky_2 : decode cX7_leaky 2 = .ok (.iconst (-1), 1) := by decide +kernel
theorem dX7_leaky_3 : decode cX7_leaky 3 = .ok (.istore_n 2, 1) := by decide +kernel
theorem dX7_leaky_4 : decode cX7_leaky 4 = .ok (.iconst 0, 1) := by decide +kernel
theorem dX7_leaky_5 : decode cX7_leaky 5 = .ok (.istore_n 3, 1) := by decide +kernel
theorem dX7_leaky_6 : decode cX7_leaky 6 = .ok (.iload_n 3, 1) := by decide +kernel
theorem dX7_leaky_7 : decode cX7_leaky 7 = .ok (.bipush 10, 2) := by decide +kernel
theorem dX7_leaky_9 : decode cX7_leaky 9 = .ok (.if_icmp .ge 33, 3) := by decide +kernel
theorem dX7_leaky_12 : decode cX7_leaky 12 = .ok (.aload_n 0, 1) := by decide +kernel
theorem dX7_leaky_13 : decode cX7_leaky 13 = .ok (.getfield 19, 3) := by decide +kernel
theorem dX7_leaky_16 : decode cX7_leaky 16 = .ok (.getfield 209, 3) := by decide +kernel
theorem dX7_leaky_19 : decode cX7_leaky 19 = .ok (.iload_n 3, 1) := by decide +kernel
theorem dX7_leaky_20 : decode cX7_leaky 20 = .ok (.invokestatic 148, 3) := by decide +kernel
theorem dX7_leaky_23 : decode cX7_leaky 23 = .ok (.istore 4, 2) := by decide +kernel
theorem dX7_leaky_25 : decode cX7_leaky 25 = .ok (.iload 4, 2) := by decide +kernel
theorem dX7_leaky_27 : decode cX7_leaky 27 = .ok (.iload_n 1, 1) := by decide +kernel
theorem dX7_leaky_28 : decode cX7_leaky 28 = .ok (.if_icmp .le 8, 3) := by decide +kernel
theorem dX7_leaky_31 : decode cX7_leaky 31 = .ok (.iload 4, 2) := by decide +kernel
theorem dX7_leaky_33 : decode cX7_leaky 33 = .ok (.istore_n 1, 1) := by decide +kernel
theorem dX7_leaky_34 : decode cX7_leaky 34 = .ok (.iload_n 3, 1) := by decide +kernel
theorem dX7_leaky_35 : decode cX7_leaky 35 = .ok (.istore_n 2, 1) := by decide +kernel
theorem dX7_leaky_36 : decode cX7_leaky 36 = .ok (.iinc 3 1, 3) := by decide +kernel
theorem dX7_leaky_39 : decode cX7_leaky 39 = .ok (.goto (-33), 3) := by decide +kernel
theorem dX7_leaky_42 : decode cX7_leaky 42 = .ok (.iload_n 2, 1) := by decide +kernel
theorem dX7_leaky_43 : decode cX7_leaky 43 = .ok (.ireturn, 1) := by decide +kernel
theorem dX7_leastCap_0 : decode cX7_leastCap 0 = .ok (.iconst 0, 1) := by decide +kernel
theorem dX7_leastCap_1 : decode cX7_leastCap 1 = .ok (.istore_n 1, 1) := by decide +kernel
theorem dX7_leastCap_2 : decode cX7_leastCap 2 = .ok (.iconst 0, 1) := by decide +kernel
theorem dX7_leastCap_3 : decode cX7_leastCap 3 = .ok (.istore_n 2, 1) := by decide +kernel
theorem dX7_leastCap_4 : decode cX7_leastCap 4 = .ok (.iload_n 2, 1) := by decide +kernel
theorem dX7_leastCap_5 : decode cX7_leastCap 5 = .ok (.iconst 4, 1) := by decide +kernel
theorem dX7_leastCap_6 : decode cX7_leastCap 6 = .ok (.if_icmp .ge 36, 3) := by decide +kernel
theorem dX7_leastCap_9 : decode cX7_leastCap 9 = .ok (.iconst 0, 1) := by decide +kernel
theorem dX7_leastCap_10 : decode cX7_leastCap 10 = .ok (.istore_n 3, 1) := by decide +kernel
theorem dX7_leastCap_11 : decode cX7_leastCap 11 = .ok (.iload_n 3, 1) := by decide +kernel
theorem dX7_leastCap_12 : decode cX7_leastCap 12 = .ok (.iconst 4, 1) := by decide +kernel
theorem dX7_leastCap_13 : decode cX7_leastCap 13 = .ok (.if_icmp .ge 23, 3) := by decide +kernel
theorem dX7_leastCap_16 : decode cX7_leastCap 16 = .ok (.iload_n 1, 1) := by decide +kernel
theorem dX7_leastCap_17 : decode cX7_leastCap 17 = .ok (.aload_n 0, 1) := by decide +kernel
theorem dX7_leastCap_18 : decode cX7_leastCap 18 = .ok (.getfield 19, 3) := by decide +kernel
theorem dX7_leastCap_21 : decode cX7_leastCap 21 = .ok (.iload_n 2, 1) := by decide +kernel
theorem dX7_leastCap_22 : decode cX7_leastCap 22 = .ok (.iload_n 3, 1) := by decide +kernel
theorem dX7_leastCap_23 : decode cX7_leastCap 23 = .ok (.invokevirtual 135, 3) := by decide +kernel
theorem dX7_leastCap_26 : decode cX7_leastCap 26 = .ok (.invokestatic 212, 3) := by decide +kernel
theorem dX7_leastCap_29 : decode cX7_leastCap 29 = .ok (.istore_n 1, 1) := by decide +kernel
theorem dX7_leastCap_30 : decode cX7_leastCap 30 = .ok (.iinc 3 1, 3) := by decide +kernel
theorem dX7_leastCap_33 : decode cX7_leastCap 33 = .ok (.goto (-22), 3) := by decide +kernel
theorem dX7_leastCap_36 : decode cX7_leastCap 36 = .ok (.iinc 2 1, 3) := by decide +kernel
theorem dX7_leastCap_39 : decode cX7_leastCap 39 = .ok (.goto (-35), 3) := by decide +kernel
theorem dX7_leastCap_42 : decode cX7_leastCap 42 = .ok (.iload_n 1, 1) := by decide +kernel
theorem dX7_leastCap_43 : decode cX7_leastCap 43 = .ok (.ireturn, 1) := by decide +kernel
theorem dX7_capShare_0 : decode cX7_capShare 0 = .ok (.aload_n 0, 1) := by decide +kernel
theorem dX7_capShare_1 : decode cX7_capShare 1 = .ok (.getfield 19, 3) := by decide +kernel
theorem dX7_capShare_4 : decode cX7_capShare 4 = .ok (.getfield 217, 3) := by decide +kernel
theorem dX7_capShare_7 : decode cX7_capShare 7 = .ok (.invokestatic 220, 3) := by decide +kernel
theorem dX7_capShare_10 : decode cX7_capShare 10 = .ok (.istore_n 1, 1) := by decide +kernel
theorem dX7_capShare_11 : decode cX7_capShare 11 = .ok (.iload_n 1, 1) := by decide +kernel
theorem dX7_capShare_12 : decode cX7_capShare 12 = .ok (.ifCond .le 14, 3) := by decide +kernel
theorem dX7_capShare_15 : decode cX7_capShare 15 = .ok (.aload_n 0, 1) := by decide +kernel
theorem dX7_capShare_16 : decode cX7_capShare 16 = .ok (.invokevirtual 224, 3) := by decide +kernel
theorem dX7_capShare_19 : decode cX7_capShare 19 = .ok (.i2d, 1) := by decide +kernel
theorem dX7_capShare_20 : decode cX7_capShare 20 = .ok (.iload_n 1, 1) := by decide +kernel
theorem dX7_capShare_21 : decode cX7_capShare 21 = .ok (.i2d, 1) := by decide +kernel
theorem dX7_capShare_22 : decode cX7_capShare 22 = .ok (.ddiv, 1) := by decide +kernel
theorem dX7_capShare_23 : decode cX7_capShare 23 = .ok (.goto 4, 3) := by decide +kernel
theorem dX7_capShare_26 : decode cX7_capShare 26 = .ok (.dconst 1, 1) := by decide +kernel
theorem dX7_capShare_27 : decode cX7_capShare 27 = .ok (.dreturn, 1) := by decide +kernel
theorem dX7_digest_0 : decode cX7_digest 0 = .ok (.ldc2_w 228, 3) := by decide +kernel
theorem dX7_digest_3 : decode cX7_digest 3 = .ok (.lstore_n 1, 1) := by decide +kernel
theorem dX7_digest_4 : decode cX7_digest 4 = .ok (.iconst 0, 1) := by decide +kernel
theorem dX7_digest_5 : decode cX7_digest 5 = .ok (.istore_n 3, 1) := by decide +kernel
theorem dX7_digest_6 : decode cX7_digest 6 = .ok (.iload_n 3, 1) := by decide +kernel
theorem dX7_digest_7 : decode cX7_digest 7 = .ok (.bipush 10, 2) := by decide +kernel
theorem dX7_digest_9 : decode cX7_digest 9 = .ok (.if_icmp .ge 20, 3) := by decide +kernel
theorem dX7_digest_12 : decode cX7_digest 12 = .ok (.lload_n 1, 1) := by decide +kernel
theorem dX7_digest_13 : decode cX7_digest 13 = .ok (.aload_n 0, 1) := by decide +kernel
theorem dX7_digest_14 : decode cX7_digest 14 = .ok (.iload_n 3, 1) := by decide +kernel
theorem dX7_digest_15 : decode cX7_digest 15 = .ok (.invokevirtual 200, 3) := by decide +kernel
theorem dX7_digest_18 : decode cX7_digest 18 = .ok (.i2l, 1) := by decide +kernel
theorem dX7_digest_19 : decode cX7_digest 19 = .ok (.invokestatic 230, 3) := by decide +kernel
theorem dX7_digest_22 : decode cX7_digest 22 = .ok (.lstore_n 1, 1) := by decide +kernel
theorem dX7_digest_23 : decode cX7_digest 23 = .ok (.iinc 3 1, 3) := by decide +kernel
theorem dX7_digest_26 : decode cX7_digest 26 = .ok (.goto (-20), 3) := by decide +kernel
theorem dX7_digest_29 : decode cX7_digest 29 = .ok (.lload_n 1, 1) := by decide +kernel
theorem dX7_digest_30 : decode cX7_digest 30 = .ok (.aload_n 0, 1) := by decide +kernel
theorem dX7_digest_31 : decode cX7_digest 31 = .ok (.getfield 10, 3) := by decide +kernel
theorem dX7_digest_34 : decode cX7_digest 34 = .ok (.getfield 58, 3) := by decide +kernel
theorem dX7_digest_37 : decode cX7_digest 37 = .ok (.bipush 6, 2) := by decide +kernel
theorem dX7_digest_39 : decode cX7_digest 39 = .ok (.invokestatic 234, 3) := by decide +kernel
theorem dX7_digest_42 : decode cX7_digest 42 = .ok (.lstore_n 1, 1) := by decide +kernel
theorem dX7_digest_43 : decode cX7_digest 43 = .ok (.iconst 0, 1) := by decide +kernel
theorem dX7_digest_44 : decode cX7_digest 44 = .ok (.istore_n 3, 1) := by decide +kernel
theorem dX7_digest_45 : decode cX7_digest 45 = .ok (.iload_n 3, 1) := by decide +kernel
theorem dX7_digest_46 : decode cX7_digest 46 = .ok (.aload_n 0, 1) := by decide +kernel
theorem dX7_digest_47 : decode cX7_digest 47 = .ok (.getfield 10, 3) := by decide +kernel
theorem dX7_digest_50 : decode cX7_digest 50 = .ok (.getfield 55, 3) := by decide +kernel
theorem dX7_digest_53 : decode cX7_digest 53 = .ok (.getfield 79, 3) := by decide +kernel
theorem dX7_digest_56 : decode cX7_digest 56 = .ok (.if_icmp .ge 38, 3) := by decide +kernel
theorem dX7_digest_59 : decode cX7_digest 59 = .ok (.iconst 0, 1) := by decide +kernel
theorem dX7_digest_60 : decode cX7_digest 60 = .ok (.istore 4, 2) := by decide +kernel
theorem dX7_digest_62 : decode cX7_digest 62 = .ok (.iload 4, 2) := by decide +kernel
theorem dX7_digest_64 : decode cX7_digest 64 = .ok (.bipush 8, 2) := by decide +kernel
theorem dX7_digest_66 : decode cX7_digest 66 = .ok (.if_icmp .ge 22, 3) := by decide +kernel
theorem dX7_digest_69 : decode cX7_digest 69 = .ok (.lload_n 1, 1) := by decide +kernel
theorem dX7_digest_70 : decode cX7_digest 70 = .ok (.aload_n 0, 1) := by decide +kernel
theorem dX7_digest_71 : decode cX7_digest 71 = .ok (.iload_n 3, 1) := by decide +kernel
theorem dX7_digest_72 : decode cX7_digest 72 = .ok (.iload 4, 2) := by decide +kernel
theorem dX7_digest_74 : decode cX7_digest 74 = .ok (.invokevirtual 189, 3) := by decide +kernel
theorem dX7_digest_77 : decode cX7_digest 77 = .ok (.i2l, 1) := by decide +kernel
theorem dX7_digest_78 : decode cX7_digest 78 = .ok (.invokestatic 230, 3) := by decide +kernel
theorem dX7_digest_81 : decode cX7_digest 81 = .ok (.lstore_n 1, 1) := by decide +kernel
theorem dX7_digest_82 : decode cX7_digest 82 = .ok (.iinc 4 1, 3) := by decide +kernel
theorem dX7_digest_85 : decode cX7_digest 85 = .ok (.goto (-23), 3) := by decide +kernel
theorem dX7_digest_88 : decode cX7_digest 88 = .ok (.iinc 3 1, 3) := by decide +kernel
theorem dX7_digest_91 : decode cX7_digest 91 = .ok (.goto (-46), 3) := by decide +kernel
theorem dX7_digest_94 : decode cX7_digest 94 = .ok (.iconst 0, 1) := by decide +kernel
theorem dX7_digest_95 : decode cX7_digest 95 = .ok (.istore_n 3, 1) := by decide +kernel
theorem dX7_digest_96 : decode cX7_digest 96 = .ok (.iload_n 3, 1) := by decide +kernel
theorem dX7_digest_97 : decode cX7_digest 97 = .ok (.iconst 4, 1) := by decide +kernel
theorem dX7_digest_98 : decode cX7_digest 98 = .ok (.if_icmp .ge 16, 3) := by decide +kernel
theorem dX7_digest_101 : decode cX7_digest 101 = .ok (.aload_n 0, 1) := by decide +kernel
theorem dX7_digest_102 : decode cX7_digest 102 = .ok (.lload_n 1, 1) := by decide +kernel
theorem dX7_digest_103 : decode cX7_digest 103 = .ok (.iload_n 3, 1) := by decide +kernel
theorem dX7_digest_104 : decode cX7_digest 104 = .ok (.invokevirtual 238, 3) := by decide +kernel
theorem dX7_digest_107 : decode cX7_digest 107 = .ok (.lstore_n 1, 1) := by decide +kernel
theorem dX7_digest_108 : decode cX7_digest 108 = .ok (.iinc 3 1, 3) := by decide +kernel
theorem dX7_digest_111 : decode cX7_digest 111 = .ok (.goto (-15), 3) := by decide +kernel
theorem dX7_digest_114 : decode cX7_digest 114 = .ok (.iconst 0, 1) := by decide +kernel
theorem dX7_digest_115 : decode cX7_digest 115 = .ok (.istore_n 3, 1) := by decide +kernel
theorem dX7_digest_116 : decode cX7_digest 116 = .ok (.iload_n 3, 1) := by decide +kernel
theorem dX7_digest_117 : decode cX7_digest 117 = .ok (.iconst 4, 1) := by decide +kernel
theorem dX7_digest_118 : decode cX7_digest 118 = .ok (.if_icmp .ge 30, 3) := by decide +kernel
theorem dX7_digest_121 : decode cX7_digest 121 = .ok (.lload_n 1, 1) := by decide +kernel
theorem dX7_digest_122 : decode cX7_digest 122 = .ok (.aload_n 0, 1) := by decide +kernel
theorem dX7_digest_123 : decode cX7_digest 123 = .ok (.iload_n 3, 1) := by decide +kernel
theorem dX7_digest_124 : decode cX7_digest 124 = .ok (.bipush 6, 2) := by decide +kernel
theorem dX7_digest_126 : decode cX7_digest 126 = .ok (.sipush 500, 3) := by decide +kernel
theorem dX7_digest_129 : decode cX7_digest 129 = .ok (.iconst 4, 1) := by decide +kernel
theorem dX7_digest_130 : decode cX7_digest 130 = .ok (.iconst 1, 1) := by decide +kernel
theorem dX7_digest_131 : decode cX7_digest 131 = .ok (.invokestatic 91, 3) := by decide +kernel
theorem dX7_digest_134 : decode cX7_digest 134 = .ok (.invokevirtual 206, 3) := by decide +kernel
theorem dX7_digest_137 : decode cX7_digest 137 = .ok (.i2l, 1) := by decide +kernel
theorem dX7_digest_138 : decode cX7_digest 138 = .ok (.invokestatic 230, 3) := by decide +kernel
theorem dX7_digest_141 : decode cX7_digest 141 = .ok (.lstore_n 1, 1) := by decide +kernel
theorem dX7_digest_142 : decode cX7_digest 142 = .ok (.iinc 3 1, 3) := by decide +kernel
theorem dX7_digest_145 : decode cX7_digest 145 = .ok (.goto (-29), 3) := by decide +kernel
theorem dX7_digest_148 : decode cX7_digest 148 = .ok (.lload_n 1, 1) := by decide +kernel
theorem dX7_digest_149 : decode cX7_digest 149 = .ok (.aload_n 0, 1) := by decide +kernel
theorem dX7_digest_150 : decode cX7_digest 150 = .ok (.invokevirtual 242, 3) := by decide +kernel
theorem dX7_digest_153 : decode cX7_digest 153 = .ok (.i2l, 1) := by decide +kernel
theorem dX7_digest_154 : decode cX7_digest 154 = .ok (.invokestatic 230, 3) := by decide +kernel
theorem dX7_digest_157 : decode cX7_digest 157 = .ok (.lstore_n 1, 1) := by decide +kernel
theorem dX7_digest_158 : decode cX7_digest 158 = .ok (.lload_n 1, 1) := by decide +kernel
theorem dX7_digest_159 : decode cX7_digest 159 = .ok (.aload_n 0, 1) := by decide +kernel
theorem dX7_digest_160 : decode cX7_digest 160 = .ok (.invokevirtual 245, 3) := by decide +kernel
theorem dX7_digest_163 : decode cX7_digest 163 = .ok (.i2l, 1) := by decide +kernel
theorem dX7_digest_164 : decode cX7_digest 164 = .ok (.invokestatic 230, 3) := by decide +kernel
theorem dX7_digest_167 : decode cX7_digest 167 = .ok (.lstore_n 1, 1) := by decide +kernel
theorem dX7_digest_168 : decode cX7_digest 168 = .ok (.lload_n 1, 1) := by decide +kernel
theorem dX7_digest_169 : decode cX7_digest 169 = .ok (.aload_n 0, 1) := by decide +kernel
theorem dX7_digest_170 : decode cX7_digest 170 = .ok (.invokevirtual 248, 3) := by decide +kernel
theorem dX7_digest_173 : decode cX7_digest 173 = .ok (.invokestatic 252, 3) := by decide +kernel
theorem dX7_digest_176 : decode cX7_digest 176 = .ok (.invokestatic 230, 3) := by decide +kernel
theorem dX7_digest_179 : decode cX7_digest 179 = .ok (.lstore_n 1, 1) := by decide +kernel
theorem dX7_digest_180 : decode cX7_digest 180 = .ok (.lload_n 1, 1) := by decide +kernel
theorem dX7_digest_181 : decode cX7_digest 181 = .ok (.aload_n 0, 1) := by decide +kernel
theorem dX7_digest_182 : decode cX7_digest 182 = .ok (.getfield 44, 3) := by decide +kernel
theorem dX7_digest_185 : decode cX7_digest 185 = .ok (.i2l, 1) := by decide +kernel
theorem dX7_digest_186 : decode cX7_digest 186 = .ok (.invokestatic 230, 3) := by decide +kernel
theorem dX7_digest_189 : decode cX7_digest 189 = .ok (.lstore_n 1, 1) := by decide +kernel
theorem dX7_digest_190 : decode cX7_digest 190 = .ok (.lload_n 1, 1) := by decide +kernel
theorem dX7_digest_191 : decode cX7_digest 191 = .ok (.aload_n 0, 1) := by decide +kernel
theorem dX7_digest_192 : decode cX7_digest 192 = .ok (.getfield 40, 3) := by decide +kernel
theorem dX7_digest_195 : decode cX7_digest 195 = .ok (.aload_n 0, 1) := by decide +kernel
theorem dX7_digest_196 : decode cX7_digest 196 = .ok (.getfield 44, 3) := by decide +kernel
theorem dX7_digest_199 : decode cX7_digest 199 = .ok (.invokestatic 234, 3) := by decide +kernel
theorem dX7_digest_202 : decode cX7_digest 202 = .ok (.lreturn, 1) := by decide +kernel
theorem dX7_isBelow_0 : decode cX7_isBelow 0 = .ok (.iload_n 0, 1) := by decide +kernel
theorem dX7_isBelow_1 : decode cX7_isBelow 1 = .ok (.ifCond .lt 12, 3) := by decide +kernel
theorem dX7_isBelow_4 : decode cX7_isBelow 4 = .ok (.iload_n 0, 1) := by decide +kernel
theorem dX7_isBelow_5 : decode cX7_isBelow 5 = .ok (.iload_n 1, 1) := by decide +kernel
theorem dX7_isBelow_6 : decode cX7_isBelow 6 = .ok (.if_icmp .ge 7, 3) := by decide +kernel
theorem dX7_isBelow_9 : decode cX7_isBelow 9 = .ok (.iconst 1, 1) := by decide +kernel
theorem dX7_isBelow_10 : decode cX7_isBelow 10 = .ok (.goto 4, 3) := by decide +kernel
theorem dX7_isBelow_13 : decode cX7_isBelow 13 = .ok (.iconst 0, 1) := by decide +kernel
theorem dX7_isBelow_14 : decode cX7_isBelow 14 = .ok (.ireturn, 1) := by decide +kernel
theorem dX7_isWalletDay_0 : decode cX7_isWalletDay 0 = .ok (.iload_n 0, 1) := by decide +kernel
theorem dX7_isWalletDay_1 : decode cX7_isWalletDay 1 = .ok (.iconst 4, 1) := by decide +kernel
theorem dX7_isWalletDay_2 : decode cX7_isWalletDay 2 = .ok (.invokestatic 130, 3) := by decide +kernel
theorem dX7_isWalletDay_5 : decode cX7_isWalletDay 5 = .ok (.ifCond .eq 16, 3) := by decide +kernel
theorem dX7_isWalletDay_8 : decode cX7_isWalletDay 8 = .ok (.iload_n 1, 1) := by decide +kernel
theorem dX7_isWalletDay_9 : decode cX7_isWalletDay 9 = .ok (.bipush 28, 2) := by decide +kernel
