/-! decode rows, printed by program -/
theorem dX3_enter_26 : decode cX3_enter 26 = .ok (.invokestatic 68, 3) := by decide +kernel
theorem dX3_enter_29 : decode cX3_enter 29 = .ok (.invokestatic 72, 3) := by decide +kernel
theorem dX3_enter_32 : decode cX3_enter 32 = .ok (.iinc 4 (-1), 3) := by decide +kernel
theorem dX3_enter_35 : decode cX3_enter 35 = .ok (.goto (-26), 3) := by decide +kernel
theorem dX3_enter_38 : decode cX3_enter 38 = .ok (.aload_n 0, 1) := by decide +kernel
theorem dX3_enter_39 : decode cX3_enter 39 = .ok (.iload_n 3, 1) := by decide +kernel
theorem dX3_enter_40 : decode cX3_enter 40 = .ok (.iload_n 2, 1) := by decide +kernel
theorem dX3_enter_41 : decode cX3_enter 41 = .ok (.invokestatic 72, 3) := by decide +kernel
theorem dX3_enter_44 : decode cX3_enter 44 = .ok (.return_, 1) := by decide +kernel
theorem dX3_ledgerNumber_0 : decode cX3_ledgerNumber 0 = .ok (.iload_n 3, 1) := by decide +kernel
theorem dX3_ledgerNumber_1 : decode cX3_ledgerNumber 1 = .ok (.ifCond .ne 10, 3) := by decide +kernel
theorem dX3_ledgerNumber_4 : decode cX3_ledgerNumber 4 = .ok (.aload_n 0, 1) := by decide +kernel
theorem dX3_ledgerNumber_5 : decode cX3_ledgerNumber 5 = .ok (.getfield 31, 3) := by decide +kernel
theorem dX3_ledgerNumber_8 : decode cX3_ledgerNumber 8 = .ok (.goto 7, 3) := by decide +kernel
theorem dX3_ledgerNumber_11 : decode cX3_ledgerNumber 11 = .ok (.aload_n 0, 1) := by decide +kernel
theorem dX3_ledgerNumber_12 : decode cX3_ledgerNumber 12 = .ok (.getfield 34, 3) := by decide +kernel
theorem dX3_ledgerNumber_15 : decode cX3_ledgerNumber 15 = .ok (.iload_n 1, 1) := by decide +kernel
theorem dX3_ledgerNumber_16 : decode cX3_ledgerNumber 16 = .ok (.bipush 8, 2) := by decide +kernel
theorem dX3_ledgerNumber_18 : decode cX3_ledgerNumber 18 = .ok (.imul, 1) := by decide +kernel
theorem dX3_ledgerNumber_19 : decode cX3_ledgerNumber 19 = .ok (.iload_n 2, 1) := by decide +kernel
theorem dX3_ledgerNumber_20 : decode cX3_ledgerNumber 20 = .ok (.iadd, 1) := by decide +kernel
theorem dX3_ledgerNumber_21 : decode cX3_ledgerNumber 21 = .ok (.invokestatic 68, 3) := by decide +kernel
theorem dX3_ledgerNumber_24 : decode cX3_ledgerNumber 24 = .ok (.ireturn, 1) := by decide +kernel
theorem dJxe99ae_isNaN_b9ae7_0 : decode cJxe99ae_isNaN_b9ae7 0 = .ok (.dload_n 0, 1) := by decide +kernel
theorem dJxe99ae_isNaN_b9ae7_1 : decode cJxe99ae_isNaN_b9ae7 1 = .ok (.dload_n 0, 1) := by decide +kernel
theorem dJxe99ae_isNaN_b9ae7_2 : decode cJxe99ae_isNaN_b9ae7 2 = .ok (.dcmp .l, 1) := by decide +kernel
theorem dJxe99ae_isNaN_b9ae7_3 : decode cJxe99ae_isNaN_b9ae7 3 = .ok (.ifCond .eq 7, 3) := by decide +kernel
theorem dJxe99ae_isNaN_b9ae7_6 : decode cJxe99ae_isNaN_b9ae7 6 = .ok (.iconst 1, 1) := by decide +kernel
theorem dJxe99ae_isNaN_b9ae7_7 : decode cJxe99ae_isNaN_b9ae7 7 = .ok (.goto 4, 3) := by decide +kernel
theorem dJxe99ae_isNaN_b9ae7_10 : decode cJxe99ae_isNaN_b9ae7 10 = .ok (.iconst 0, 1) := by decide +kernel
theorem dJxe99ae_isNaN_b9ae7_11 : decode cJxe99ae_isNaN_b9ae7 11 = .ok (.ireturn, 1) := by decide +kernel
theorem dJxe99ae_doubleToLongBits_ccdee_0 : decode cJxe99ae_doubleToLongBits_ccdee 0 = .ok (.dload_n 0, 1) := by decide +kernel
theorem dJxe99ae_doubleToLongBits_ccdee_1 : decode cJxe99ae_doubleToLongBits_ccdee 1 = .ok (.invokestatic 122, 3) := by decide +kernel
theorem dJxe99ae_doubleToLongBits_ccdee_4 : decode cJxe99ae_doubleToLongBits_ccdee 4 = .ok (.ifCond .ne 8, 3) := by decide +kernel
theorem dJxe99ae_doubleToLongBits_ccdee_7 : decode cJxe99ae_doubleToLongBits_ccdee 7 = .ok (.dload_n 0, 1) := by decide +kernel
theorem dJxe99ae_doubleToLongBits_ccdee_8 : decode cJxe99ae_doubleToLongBits_ccdee 8 = .ok (.invokestatic 134, 3) := by decide +kernel
theorem dJxe99ae_doubleToLongBits_ccdee_11 : decode cJxe99ae_doubleToLongBits_ccdee 11 = .ok (.lreturn, 1) := by decide +kernel
theorem dJxe99ae_doubleToLongBits_ccdee_12 : decode cJxe99ae_doubleToLongBits_ccdee 12 = .ok (.ldc2_w 137, 3) := by decide +kernel
theorem dJxe99ae_doubleToLongBits_ccdee_15 : decode cJxe99ae_doubleToLongBits_ccdee 15 = .ok (.lreturn, 1) := by decide +kernel
