theorem dX9_isOpen_0 : decode cX9_isOpen 0 = .ok (.aload_n 0, 1) := by decide +kernel
theorem dX9_isOpen_1 : decode cX9_isOpen 1 = .ok (.getfield 31, 3) := by decide +kernel
theorem dX9_isOpen_4 : decode cX9_isOpen 4 = .ok (.iload_n 1, 1) := by decide +kernel
theorem dX9_isOpen_5 : decode cX9_isOpen 5 = .ok (.bipush 64, 2) := by decide +kernel
theorem dX9_isOpen_7 : decode cX9_isOpen 7 = .ok (.idiv, 1) := by decide +kernel
theorem dX9_isOpen_8 : decode cX9_isOpen 8 = .ok (.laload, 1) := by decide +kernel
theorem dX9_isOpen_9 : decode cX9_isOpen 9 = .ok (.iload_n 1, 1) := by decide +kernel
theorem dX9_isOpen_10 : decode cX9_isOpen 10 = .ok (.bipush 64, 2) := by decide +kernel
theorem dX9_isOpen_12 : decode cX9_isOpen 12 = .ok (.irem, 1) := by decide +kernel
theorem dX9_isOpen_13 : decode cX9_isOpen 13 = .ok (.lshr, 1) := by decide +kernel
theorem dX9_isOpen_14 : decode cX9_isOpen 14 = .ok (.lconst 1, 1) := by decide +kernel
theorem dX9_isOpen_15 : decode cX9_isOpen 15 = .ok (.land, 1) := by decide +kernel
theorem dX9_isOpen_16 : decode cX9_isOpen 16 = .ok (.lconst 0, 1) := by decide +kernel
theorem dX9_isOpen_17 : decode cX9_isOpen 17 = .ok (.lcmp, 1) := by decide +kernel
theorem dX9_isOpen_18 : decode cX9_isOpen 18 = .ok (.ifCond .eq 7, 3) := by decide +kernel
theorem dX9_isOpen_21 : decode cX9_isOpen 21 = .ok (.iconst 1, 1) := by decide +kernel
theorem dX9_isOpen_22 : decode cX9_isOpen 22 = .ok (.goto 4, 3) := by decide +kernel
theorem dX9_isOpen_25 : decode cX9_isOpen 25 = .ok (.iconst 0, 1) := by decide +kernel
theorem dX9_isOpen_26 : decode cX9_isOpen 26 = .ok (.ireturn, 1) := by decide +kernel
