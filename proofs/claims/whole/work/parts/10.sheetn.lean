def mX6_has : MI := (yX6_has, cX6_has, 3, (some .boolean))
def mX6_line : MI := (yX6_line, cX6_line, 2, (some ((.array .int))))
def mX6_placeOf : MI := (yX6_placeOf, cX6_placeOf, 5, (some .int))
def mX6_at : MI := (yX6_at, cX6_at, 3, (some ((.object "SheetBranches$Content"))))
def mX6_put : MI := (yX6_put, cX6_put, 4, none)
theorem dX6_has_0 : decode cX6_has 0 = .ok (.iload_n 1, 1) := by decide +kernel
theorem dX6_has_1 : decode cX6_has 1 = .ok (.iconst 1, 1) := by decide +kernel
theorem dX6_has_2 : decode cX6_has 2 = .ok (.if_icmp .lt 30, 3) := by decide +kernel
theorem dX6_has_5 : decode cX6_has 5 = .ok (.iload_n 1, 1) := by decide +kernel
theorem dX6_has_6 : decode cX6_has 6 = .ok (.aload_n 0, 1) := by decide +kernel
theorem dX6_has_7 : decode cX6_has 7 = .ok (.getfield 9, 3) := by decide +kernel
theorem dX6_has_10 : decode cX6_has 10 = .ok (.arraylength, 1) := by decide +kernel
theorem dX6_has_11 : decode cX6_has 11 = .ok (.if_icmp .gt 21, 3) := by decide +kernel
theorem dX6_has_14 : decode cX6_has 14 = .ok (.iload_n 2, 1) := by decide +kernel
theorem dX6_has_15 : decode cX6_has 15 = .ok (.iconst 1, 1) := by decide +kernel
theorem dX6_has_16 : decode cX6_has 16 = .ok (.if_icmp .lt 16, 3) := by decide +kernel
theorem dX6_has_19 : decode cX6_has 19 = .ok (.iload_n 2, 1) := by decide +kernel
theorem dX6_has_20 : decode cX6_has 20 = .ok (.aload_n 0, 1) := by decide +kernel
theorem dX6_has_21 : decode cX6_has 21 = .ok (.getfield 15, 3) := by decide +kernel
theorem dX6_has_24 : decode cX6_has 24 = .ok (.arraylength, 1) := by decide +kernel
theorem dX6_has_25 : decode cX6_has 25 = .ok (.if_icmp .gt 7, 3) := by decide +kernel
theorem dX6_has_28 : decode cX6_has 28 = .ok (.iconst 1, 1) := by decide +kernel
theorem dX6_has_29 : decode cX6_has 29 = .ok (.goto 4, 3) := by decide +kernel
theorem dX6_has_32 : decode cX6_has 32 = .ok (.iconst 0, 1) := by decide +kernel
theorem dX6_has_33 : decode cX6_has 33 = .ok (.ireturn, 1) := by decide +kernel
set_option maxRecDepth 20000 in
theorem fl_X6_9 : FL RX6 9 6 0 true := ⟨RX6, TX6, cl_6, by decide, (gtb_in (List.mem_of_getElem? (i := 333) (by decide +kernel)) (by decide +kernel)), rfl⟩
set_option maxRecDepth 20000 in
theorem fl_X6_15 : FL RX6 15 6 1 true := ⟨RX6, TX6, cl_6, by decide, (gtb_in (List.mem_of_getElem? (i := 336) (by decide +kernel)) (by decide +kernel)), rfl⟩
theorem dX6_line_0 : decode cX6_line 0 = .ok (.iload_n 1, 1) := by decide +kernel
theorem dX6_line_1 : decode cX6_line 1 = .ok (.ifCond .ne 10, 3) := by decide +kernel
theorem dX6_line_4 : decode cX6_line 4 = .ok (.aload_n 0, 1) := by decide +kernel
theorem dX6_line_5 : decode cX6_line 5 = .ok (.getfield 9, 3) := by decide +kernel
theorem dX6_line_8 : decode cX6_line 8 = .ok (.goto 7, 3) := by decide +kernel
theorem dX6_line_11 : decode cX6_line 11 = .ok (.aload_n 0, 1) := by decide +kernel
theorem dX6_line_12 : decode cX6_line 12 = .ok (.getfield 15, 3) := by decide +kernel
theorem dX6_line_15 : decode cX6_line 15 = .ok (.areturn, 1) := by decide +kernel
theorem dX6_placeOf_0 : decode cX6_placeOf 0 = .ok (.iload_n 1, 1) := by decide +kernel
theorem dX6_placeOf_1 : decode cX6_placeOf 1 = .ok (.ifCond .ne 10, 3) := by decide +kernel
theorem dX6_placeOf_4 : decode cX6_placeOf 4 = .ok (.aload_n 0, 1) := by decide +kernel
theorem dX6_placeOf_5 : decode cX6_placeOf 5 = .ok (.getfield 9, 3) := by decide +kernel
theorem dX6_placeOf_8 : decode cX6_placeOf 8 = .ok (.goto 7, 3) := by decide +kernel
theorem dX6_placeOf_11 : decode cX6_placeOf 11 = .ok (.aload_n 0, 1) := by decide +kernel
theorem dX6_placeOf_12 : decode cX6_placeOf 12 = .ok (.getfield 15, 3) := by decide +kernel
theorem dX6_placeOf_15 : decode cX6_placeOf 15 = .ok (.astore_n 3, 1) := by decide +kernel
theorem dX6_placeOf_16 : decode cX6_placeOf 16 = .ok (.iconst 0, 1) := by decide +kernel
theorem dX6_placeOf_17 : decode cX6_placeOf 17 = .ok (.istore 4, 2) := by decide +kernel
theorem dX6_placeOf_19 : decode cX6_placeOf 19 = .ok (.iload 4, 2) := by decide +kernel
theorem dX6_placeOf_21 : decode cX6_placeOf 21 = .ok (.aload_n 3, 1) := by decide +kernel
theorem dX6_placeOf_22 : decode cX6_placeOf 22 = .ok (.arraylength, 1) := by decide +kernel
theorem dX6_placeOf_23 : decode cX6_placeOf 23 = .ok (.if_icmp .ge 22, 3) := by decide +kernel
theorem dX6_placeOf_26 : decode cX6_placeOf 26 = .ok (.aload_n 3, 1) := by decide +kernel
theorem dX6_placeOf_27 : decode cX6_placeOf 27 = .ok (.iload 4, 2) := by decide +kernel
theorem dX6_placeOf_29 : decode cX6_placeOf 29 = .ok (.iaload, 1) := by decide +kernel
theorem dX6_placeOf_30 : decode cX6_placeOf 30 = .ok (.iload_n 2, 1) := by decide +kernel
theorem dX6_placeOf_31 : decode cX6_placeOf 31 = .ok (.if_icmp .ne 8, 3) := by decide +kernel
theorem dX6_placeOf_34 : decode cX6_placeOf 34 = .ok (.iload 4, 2) := by decide +kernel
theorem dX6_placeOf_36 : decode cX6_placeOf 36 = .ok (.iconst 1, 1) := by decide +kernel
theorem dX6_placeOf_37 : decode cX6_placeOf 37 = .ok (.iadd, 1) := by decide +kernel
theorem dX6_placeOf_38 : decode cX6_placeOf 38 = .ok (.ireturn, 1) := by decide +kernel
theorem dX6_placeOf_39 : decode cX6_placeOf 39 = .ok (.iinc 4 1, 3) := by decide +kernel
theorem dX6_placeOf_42 : decode cX6_placeOf 42 = .ok (.goto (-23), 3) := by decide +kernel
theorem dX6_placeOf_45 : decode cX6_placeOf 45 = .ok (.iconst 0, 1) := by decide +kernel
theorem dX6_placeOf_46 : decode cX6_placeOf 46 = .ok (.ireturn, 1) := by decide +kernel
theorem dX6_at_0 : decode cX6_at 0 = .ok (.aload_n 0, 1) := by decide +kernel
theorem dX6_at_1 : decode cX6_at 1 = .ok (.iload_n 1, 1) := by decide +kernel
theorem dX6_at_2 : decode cX6_at 2 = .ok (.iload_n 2, 1) := by decide +kernel
theorem dX6_at_3 : decode cX6_at 3 = .ok (.invokevirtual 24, 3) := by decide +kernel
theorem dX6_at_6 : decode cX6_at 6 = .ok (.ifCond .eq 24, 3) := by decide +kernel
theorem dX6_at_9 : decode cX6_at 9 = .ok (.aload_n 0, 1) := by decide +kernel
theorem dX6_at_10 : decode cX6_at 10 = .ok (.getfield 20, 3) := by decide +kernel
theorem dX6_at_13 : decode cX6_at 13 = .ok (.iload_n 1, 1) := by decide +kernel
theorem dX6_at_14 : decode cX6_at 14 = .ok (.iconst 1, 1) := by decide +kernel
theorem dX6_at_15 : decode cX6_at 15 = .ok (.isub, 1) := by decide +kernel
theorem dX6_at_16 : decode cX6_at 16 = .ok (.aload_n 0, 1) := by decide +kernel
theorem dX6_at_17 : decode cX6_at 17 = .ok (.getfield 15, 3) := by decide +kernel
theorem dX6_at_20 : decode cX6_at 20 = .ok (.arraylength, 1) := by decide +kernel
theorem dX6_at_21 : decode cX6_at 21 = .ok (.imul, 1) := by decide +kernel
theorem dX6_at_22 : decode cX6_at 22 = .ok (.iload_n 2, 1) := by decide +kernel
theorem dX6_at_23 : decode cX6_at 23 = .ok (.iadd, 1) := by decide +kernel
theorem dX6_at_24 : decode cX6_at 24 = .ok (.iconst 1, 1) := by decide +kernel
theorem dX6_at_25 : decode cX6_at 25 = .ok (.isub, 1) := by decide +kernel
theorem dX6_at_26 : decode cX6_at 26 = .ok (.aaload, 1) := by decide +kernel
theorem dX6_at_27 : decode cX6_at 27 = .ok (.goto 4, 3) := by decide +kernel
theorem dX6_at_30 : decode cX6_at 30 = .ok (.aconst_null, 1) := by decide +kernel
theorem dX6_at_31 : decode cX6_at 31 = .ok (.areturn, 1) := by decide +kernel
set_option maxRecDepth 20000 in
theorem vl_X6_24 : VL RX6 24 6 mX6_has 2 := ⟨⟨(gtb_in (List.mem_of_getElem? (i := 510) (by decide +kernel)) (by decide +kernel)), (gtb_in (List.mem_of_getElem? (i := 820) (by decide +kernel)) (by decide +kernel)), (gtb_in (List.mem_of_getElem? (i := 508) (by decide +kernel)) (by decide +kernel)), (gtb_in (List.mem_of_getElem? (i := 509) (by decide +kernel)) (by decide +kernel)), (gtb_in (List.mem_of_getElem? (i := 10) (by decide +kernel)) (by decide +kernel))⟩, ⟨_, _, rfl⟩, by decide, ⟨by decide, by decide, by decide +kernel⟩, by decide⟩
set_option maxRecDepth 20000 in
theorem fl_X6_20 : FL RX6 20 6 2 true := ⟨RX6, TX6, cl_6, by decide, (gtb_in (List.mem_of_getElem? (i := 340) (by decide +kernel)) (by decide +kernel)), rfl⟩
theorem dX6_put_0 : decode cX6_put 0 = .ok (.aload_n 0, 1) := by decide +kernel
theorem dX6_put_1 : decode cX6_put 1 = .ok (.iload_n 1, 1) := by decide +kernel
theorem dX6_put_2 : decode cX6_put 2 = .ok (.iload_n 2, 1) := by decide +kernel
theorem dX6_put_3 : decode cX6_put 3 = .ok (.invokevirtual 24, 3) := by decide +kernel
theorem dX6_put_6 : decode cX6_put 6 = .ok (.ifCond .eq 22, 3) := by decide +kernel
theorem dX6_put_9 : decode cX6_put 9 = .ok (.aload_n 0, 1) := by decide +kernel
theorem dX6_put_10 : decode cX6_put 10 = .ok (.getfield 20, 3) := by decide +kernel
theorem dX6_put_13 : decode cX6_put 13 = .ok (.iload_n 1, 1) := by decide +kernel
theorem dX6_put_14 : decode cX6_put 14 = .ok (.iconst 1, 1) := by decide +kernel
theorem dX6_put_15 : decode cX6_put 15 = .ok (.isub, 1) := by decide +kernel
theorem dX6_put_16 : decode cX6_put 16 = .ok (.aload_n 0, 1) := by decide +kernel
theorem dX6_put_17 : decode cX6_put 17 = .ok (.getfield 15, 3) := by decide +kernel
theorem dX6_put_20 : decode cX6_put 20 = .ok (.arraylength, 1) := by decide +kernel
theorem dX6_put_21 : decode cX6_put 21 = .ok (.imul, 1) := by decide +kernel
theorem dX6_put_22 : decode cX6_put 22 = .ok (.iload_n 2, 1) := by decide +kernel
theorem dX6_put_23 : decode cX6_put 23 = .ok (.iadd, 1) := by decide +kernel
theorem dX6_put_24 : decode cX6_put 24 = .ok (.iconst 1, 1) := by decide +kernel
theorem dX6_put_25 : decode cX6_put 25 = .ok (.isub, 1) := by decide +kernel
theorem dX6_put_26 : decode cX6_put 26 = .ok (.aload_n 3, 1) := by decide +kernel
theorem dX6_put_27 : decode cX6_put 27 = .ok (.aastore, 1) := by decide +kernel
theorem dX6_put_28 : decode cX6_put 28 = .ok (.return_, 1) := by decide +kernel
