theorem dX9_isIn_0 : decode cX9_isIn 0 = .ok (.iload_n 0, 1) := by decide +kernel
theorem dX9_isIn_1 : decode cX9_isIn 1 = .ok (.iload_n 1, 1) := by decide +kernel
theorem dX9_isIn_2 : decode cX9_isIn 2 = .ok (.ishr, 1) := by decide +kernel
theorem dX9_isIn_3 : decode cX9_isIn 3 = .ok (.iconst 1, 1) := by decide +kernel
theorem dX9_isIn_4 : decode cX9_isIn 4 = .ok (.iand, 1) := by decide +kernel
theorem dX9_isIn_5 : decode cX9_isIn 5 = .ok (.ifCond .eq 7, 3) := by decide +kernel
theorem dX9_isIn_8 : decode cX9_isIn 8 = .ok (.iconst 1, 1) := by decide +kernel
theorem dX9_isIn_9 : decode cX9_isIn 9 = .ok (.goto 4, 3) := by decide +kernel
theorem dX9_isIn_12 : decode cX9_isIn 12 = .ok (.iconst 0, 1) := by decide +kernel
theorem dX9_isIn_13 : decode cX9_isIn 13 = .ok (.ireturn, 1) := by decide +kernel
theorem dX9_everyone_0 : decode cX9_everyone 0 = .ok (.iconst 1, 1) := by decide +kernel
theorem dX9_everyone_1 : decode cX9_everyone 1 = .ok (.iload_n 0, 1) := by decide +kernel
theorem dX9_everyone_2 : decode cX9_everyone 2 = .ok (.ishl, 1) := by decide +kernel
theorem dX9_everyone_3 : decode cX9_everyone 3 = .ok (.iconst 1, 1) := by decide +kernel
theorem dX9_everyone_4 : decode cX9_everyone 4 = .ok (.isub, 1) := by decide +kernel
theorem dX9_everyone_5 : decode cX9_everyone 5 = .ok (.ireturn, 1) := by decide +kernel
