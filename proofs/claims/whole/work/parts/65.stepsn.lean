theorem dX7_back_0 : decode cX7_back 0 = .ok (.aload_n 0, 1) := by decide +kernel
theorem dX7_back_1 : decode cX7_back 1 = .ok (.getfield 20, 3) := by decide +kernel
theorem dX7_back_4 : decode cX7_back 4 = .ok (.iconst 1, 1) := by decide +kernel
theorem dX7_back_5 : decode cX7_back 5 = .ok (.if_icmp .lt 12, 3) := by decide +kernel
theorem dX7_back_8 : decode cX7_back 8 = .ok (.aload_n 0, 1) := by decide +kernel
theorem dX7_back_9 : decode cX7_back 9 = .ok (.getfield 24, 3) := by decide +kernel
theorem dX7_back_12 : decode cX7_back 12 = .ok (.bipush 40, 2) := by decide +kernel
theorem dX7_back_14 : decode cX7_back 14 = .ok (.if_icmp .lt 5, 3) := by decide +kernel
theorem dX7_back_17 : decode cX7_back 17 = .ok (.aload_n 1, 1) := by decide +kernel
theorem dX7_back_18 : decode cX7_back 18 = .ok (.areturn, 1) := by decide +kernel
theorem dX7_back_19 : decode cX7_back 19 = .ok (.aload_n 0, 1) := by decide +kernel
theorem dX7_back_20 : decode cX7_back 20 = .ok (.dup, 1) := by decide +kernel
theorem dX7_back_21 : decode cX7_back 21 = .ok (.getfield 20, 3) := by decide +kernel
theorem dX7_back_24 : decode cX7_back 24 = .ok (.iconst 1, 1) := by decide +kernel
theorem dX7_back_25 : decode cX7_back 25 = .ok (.isub, 1) := by decide +kernel
theorem dX7_back_26 : decode cX7_back 26 = .ok (.putfield 20, 3) := by decide +kernel
theorem dX7_back_29 : decode cX7_back 29 = .ok (.aload_n 0, 1) := by decide +kernel
theorem dX7_back_30 : decode cX7_back 30 = .ok (.getfield 17, 3) := by decide +kernel
theorem dX7_back_33 : decode cX7_back 33 = .ok (.aload_n 0, 1) := by decide +kernel
theorem dX7_back_34 : decode cX7_back 34 = .ok (.getfield 24, 3) := by decide +kernel
theorem dX7_back_37 : decode cX7_back 37 = .ok (.aload_n 1, 1) := by decide +kernel
theorem dX7_back_38 : decode cX7_back 38 = .ok (.aastore, 1) := by decide +kernel
theorem dX7_back_39 : decode cX7_back 39 = .ok (.aload_n 0, 1) := by decide +kernel
theorem dX7_back_40 : decode cX7_back 40 = .ok (.dup, 1) := by decide +kernel
theorem dX7_back_41 : decode cX7_back 41 = .ok (.getfield 24, 3) := by decide +kernel
theorem dX7_back_44 : decode cX7_back 44 = .ok (.iconst 1, 1) := by decide +kernel
theorem dX7_back_45 : decode cX7_back 45 = .ok (.iadd, 1) := by decide +kernel
theorem dX7_back_46 : decode cX7_back 46 = .ok (.putfield 24, 3) := by decide +kernel
theorem dX7_back_49 : decode cX7_back 49 = .ok (.aload_n 0, 1) := by decide +kernel
theorem dX7_back_50 : decode cX7_back 50 = .ok (.getfield 11, 3) := by decide +kernel
theorem dX7_back_53 : decode cX7_back 53 = .ok (.aload_n 0, 1) := by decide +kernel
theorem dX7_back_54 : decode cX7_back 54 = .ok (.getfield 20, 3) := by decide +kernel
theorem dX7_back_57 : decode cX7_back 57 = .ok (.aaload, 1) := by decide +kernel
theorem dX7_back_58 : decode cX7_back 58 = .ok (.areturn, 1) := by decide +kernel
theorem dX7_again_0 : decode cX7_again 0 = .ok (.aload_n 0, 1) := by decide +kernel
theorem dX7_again_1 : decode cX7_again 1 = .ok (.getfield 24, 3) := by decide +kernel
theorem dX7_again_4 : decode cX7_again 4 = .ok (.iconst 1, 1) := by decide +kernel
theorem dX7_again_5 : decode cX7_again 5 = .ok (.if_icmp .lt 12, 3) := by decide +kernel
theorem dX7_again_8 : decode cX7_again 8 = .ok (.aload_n 0, 1) := by decide +kernel
theorem dX7_again_9 : decode cX7_again 9 = .ok (.getfield 20, 3) := by decide +kernel
theorem dX7_again_12 : decode cX7_again 12 = .ok (.bipush 40, 2) := by decide +kernel
theorem dX7_again_14 : decode cX7_again 14 = .ok (.if_icmp .lt 5, 3) := by decide +kernel
theorem dX7_again_17 : decode cX7_again 17 = .ok (.aload_n 1, 1) := by decide +kernel
theorem dX7_again_18 : decode cX7_again 18 = .ok (.areturn, 1) := by decide +kernel
theorem dX7_again_19 : decode cX7_again 19 = .ok (.aload_n 0, 1) := by decide +kernel
theorem dX7_again_20 : decode cX7_again 20 = .ok (.dup, 1) := by decide +kernel
theorem dX7_again_21 : decode cX7_again 21 = .ok (.getfield 24, 3) := by decide +kernel
theorem dX7_again_24 : decode cX7_again 24 = .ok (.iconst 1, 1) := by decide +kernel
theorem dX7_again_25 : decode cX7_again 25 = .ok (.isub, 1) := by decide +kernel
theorem dX7_again_26 : decode cX7_again 26 = .ok (.putfield 24, 3) := by decide +kernel
theorem dX7_again_29 : decode cX7_again 29 = .ok (.aload_n 0, 1) := by decide +kernel
theorem dX7_again_30 : decode cX7_again 30 = .ok (.getfield 11, 3) := by decide +kernel
theorem dX7_again_33 : decode cX7_again 33 = .ok (.aload_n 0, 1) := by decide +kernel
theorem dX7_again_34 : decode cX7_again 34 = .ok (.getfield 20, 3) := by decide +kernel
theorem dX7_again_37 : decode cX7_again 37 = .ok (.aload_n 1, 1) := by decide +kernel
theorem dX7_again_38 : decode cX7_again 38 = .ok (.aastore, 1) := by decide +kernel
theorem dX7_again_39 : decode cX7_again 39 = .ok (.aload_n 0, 1) := by decide +kernel
theorem dX7_again_40 : decode cX7_again 40 = .ok (.dup, 1) := by decide +kernel
theorem dX7_again_41 : decode cX7_again 41 = .ok (.getfield 20, 3) := by decide +kernel
theorem dX7_again_44 : decode cX7_again 44 = .ok (.iconst 1, 1) := by decide +kernel
theorem dX7_again_45 : decode cX7_again 45 = .ok (.iadd, 1) := by decide +kernel
theorem dX7_again_46 : decode cX7_again 46 = .ok (.putfield 20, 3) := by decide +kernel
theorem dX7_again_49 : decode cX7_again 49 = .ok (.aload_n 0, 1) := by decide +kernel
theorem dX7_again_50 : decode cX7_again 50 = .ok (.getfield 17, 3) := by decide +kernel
theorem dX7_again_53 : decode cX7_again 53 = .ok (.aload_n 0, 1) := by decide +kernel
theorem dX7_again_54 : decode cX7_again 54 = .ok (.getfield 24, 3) := by decide +kernel
theorem dX7_again_57 : decode cX7_again 57 = .ok (.aaload, 1) := by decide +kernel
theorem dX7_again_58 : decode cX7_again 58 = .ok (.areturn, 1) := by decide +kernel
