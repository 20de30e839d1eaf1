/-! decode rows, printed by program -/
theorem dX3_ledgerNumber_24 : decode cX3_ledgerNumber 24 = .ok (.ireturn, 1) := by decide +kernel
