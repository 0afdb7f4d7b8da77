theorem dX9_writes_0 : decode cX9_writes 0 = .ok (.iload_n 0, 1) := by decide +kernel
theorem dX9_writes_1 : decode cX9_writes 1 = .ok (.ifCond .lt 12, 3) := by decide +kernel
theorem dX9_writes_4 : decode cX9_writes 4 = .ok (.iload_n 0, 1) := by decide +kernel
theorem dX9_writes_5 : decode cX9_writes 5 = .ok (.iconst 4, 1) := by decide +kernel
theorem dX9_writes_6 : decode cX9_writes 6 = .ok (.if_icmp .gt 7, 3) := by decide +kernel
theorem dX9_writes_9 : decode cX9_writes 9 = .ok (.iconst 1, 1) := by decide +kernel
theorem dX9_writes_10 : decode cX9_writes 10 = .ok (.goto 4, 3) := by decide +kernel
theorem dX9_writes_13 : decode cX9_writes 13 = .ok (.iconst 0, 1) := by decide +kernel
theorem dX9_writes_14 : decode cX9_writes 14 = .ok (.ireturn, 1) := by decide +kernel
