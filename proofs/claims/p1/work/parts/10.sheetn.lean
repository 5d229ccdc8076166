def mX6_has : MI := (yX6_has, cX6_has, 3, (some .boolean))
theorem qc_X6_has : Cond.code mX6_has.1 mX6_has.2.1 mX6_has.2.2.1 mX6_has.2.2.2 ∈ gtb := (gtb_in (List.mem_of_getElem? (i := 510) (by decide +kernel)) (by decide +kernel))
theorem qi_X6_has : Cond.instanceMethod mX6_has.1 ∈ gtb := (gtb_in (List.mem_of_getElem? (i := 508) (by decide +kernel)) (by decide +kernel))
theorem qs_X6_has : Cond.selects mX6_has.1.cls mX6_has.1 mX6_has.1 ∈ gtb := (gtb_in (List.mem_of_getElem? (i := 509) (by decide +kernel)) (by decide +kernel))
theorem qd_X6_has : dsc mX6_has.1 2 := ⟨by decide +kernel, by decide +kernel, by decide +kernel⟩
def mX6_line : MI := (yX6_line, cX6_line, 2, (some ((.array .int))))
theorem qc_X6_line : Cond.code mX6_line.1 mX6_line.2.1 mX6_line.2.2.1 mX6_line.2.2.2 ∈ gtb := (gtb_in (List.mem_of_getElem? (i := 1309) (by decide +kernel)) (by decide +kernel))
theorem qi_X6_line : Cond.instanceMethod mX6_line.1 ∈ gtb := (gtb_in (List.mem_of_getElem? (i := 1307) (by decide +kernel)) (by decide +kernel))
theorem qs_X6_line : Cond.selects mX6_line.1.cls mX6_line.1 mX6_line.1 ∈ gtb := (gtb_in (List.mem_of_getElem? (i := 1308) (by decide +kernel)) (by decide +kernel))
theorem qd_X6_line : dsc mX6_line.1 1 := ⟨by decide +kernel, by decide +kernel, by decide +kernel⟩
def mX6_placeOf : MI := (yX6_placeOf, cX6_placeOf, 5, (some .int))
theorem qc_X6_placeOf : Cond.code mX6_placeOf.1 mX6_placeOf.2.1 mX6_placeOf.2.2.1 mX6_placeOf.2.2.2 ∈ gtb := (gtb_in (List.mem_of_getElem? (i := 471) (by decide +kernel)) (by decide +kernel))
theorem qi_X6_placeOf : Cond.instanceMethod mX6_placeOf.1 ∈ gtb := (gtb_in (List.mem_of_getElem? (i := 469) (by decide +kernel)) (by decide +kernel))
theorem qs_X6_placeOf : Cond.selects mX6_placeOf.1.cls mX6_placeOf.1 mX6_placeOf.1 ∈ gtb := (gtb_in (List.mem_of_getElem? (i := 470) (by decide +kernel)) (by decide +kernel))
theorem qd_X6_placeOf : dsc mX6_placeOf.1 2 := ⟨by decide +kernel, by decide +kernel, by decide +kernel⟩
def mX6_at : MI := (yX6_at, cX6_at, 3, (some ((.object "SheetBranches$Content"))))
theorem qc_X6_at : Cond.code mX6_at.1 mX6_at.2.1 mX6_at.2.2.1 mX6_at.2.2.2 ∈ gtb := (gtb_in (List.mem_of_getElem? (i := 819) (by decide +kernel)) (by decide +kernel))
theorem qi_X6_at : Cond.instanceMethod mX6_at.1 ∈ gtb := (gtb_in (List.mem_of_getElem? (i := 817) (by decide +kernel)) (by decide +kernel))
theorem qs_X6_at : Cond.selects mX6_at.1.cls mX6_at.1 mX6_at.1 ∈ gtb := (gtb_in (List.mem_of_getElem? (i := 818) (by decide +kernel)) (by decide +kernel))
theorem qd_X6_at : dsc mX6_at.1 2 := ⟨by decide +kernel, by decide +kernel, by decide +kernel⟩
def mX6_put : MI := (yX6_put, cX6_put, 4, none)
theorem qc_X6_put : Cond.code mX6_put.1 mX6_put.2.1 mX6_put.2.2.1 mX6_put.2.2.2 ∈ gtb := (gtb_in (List.mem_of_getElem? (i := 1279) (by decide +kernel)) (by decide +kernel))
theorem qi_X6_put : Cond.instanceMethod mX6_put.1 ∈ gtb := (gtb_in (List.mem_of_getElem? (i := 1277) (by decide +kernel)) (by decide +kernel))
theorem qs_X6_put : Cond.selects mX6_put.1.cls mX6_put.1 mX6_put.1 ∈ gtb := (gtb_in (List.mem_of_getElem? (i := 1278) (by decide +kernel)) (by decide +kernel))
theorem qd_X6_put : dsc mX6_put.1 3 := ⟨by decide +kernel, by decide +kernel, by decide +kernel⟩
def mX6_knows : MI := (yX6_knows, cX6_knows, 3, (some .boolean))
theorem qc_X6_knows : Cond.code mX6_knows.1 mX6_knows.2.1 mX6_knows.2.2.1 mX6_knows.2.2.2 ∈ gtb := (gtb_in (List.mem_of_getElem? (i := 867) (by decide +kernel)) (by decide +kernel))
theorem qi_X6_knows : Cond.instanceMethod mX6_knows.1 ∈ gtb := (gtb_in (List.mem_of_getElem? (i := 865) (by decide +kernel)) (by decide +kernel))
theorem qs_X6_knows : Cond.selects mX6_knows.1.cls mX6_knows.1 mX6_knows.1 ∈ gtb := (gtb_in (List.mem_of_getElem? (i := 866) (by decide +kernel)) (by decide +kernel))
theorem qd_X6_knows : dsc mX6_knows.1 2 := ⟨by decide +kernel, by decide +kernel, by decide +kernel⟩
def mX6_of : MI := (yX6_of, cX6_of, 3, (some ((.object "SheetBranches$Content"))))
theorem qc_X6_of : Cond.code mX6_of.1 mX6_of.2.1 mX6_of.2.2.1 mX6_of.2.2.2 ∈ gtb := (gtb_in (List.mem_of_getElem? (i := 1513) (by decide +kernel)) (by decide +kernel))
theorem qi_X6_of : Cond.instanceMethod mX6_of.1 ∈ gtb := (gtb_in (List.mem_of_getElem? (i := 1511) (by decide +kernel)) (by decide +kernel))
theorem qs_X6_of : Cond.selects mX6_of.1.cls mX6_of.1 mX6_of.1 ∈ gtb := (gtb_in (List.mem_of_getElem? (i := 1512) (by decide +kernel)) (by decide +kernel))
theorem qd_X6_of : dsc mX6_of.1 2 := ⟨by decide +kernel, by decide +kernel, by decide +kernel⟩
def mX6_init : MI := (yX6_init, cX6_init, 3, none)
theorem qc_X6_init : Cond.code mX6_init.1 mX6_init.2.1 mX6_init.2.2.1 mX6_init.2.2.2 ∈ gtb := (gtb_in (List.mem_of_getElem? (i := 329) (by decide +kernel)) (by decide +kernel))
theorem qi_X6_init : Cond.instanceMethod mX6_init.1 ∈ gtb := (gtb_in (List.mem_of_getElem? (i := 328) (by decide +kernel)) (by decide +kernel))
theorem qd_X6_init : dsc mX6_init.1 2 := ⟨by decide +kernel, by decide +kernel, by decide +kernel⟩
def mX6_twin : MI := (yX6_twin, cX6_twin, 3, (some ((.object "SheetBranches$Sheet"))))
theorem qc_X6_twin : Cond.code mX6_twin.1 mX6_twin.2.1 mX6_twin.2.2.1 mX6_twin.2.2.2 ∈ gtb := (gtb_in (List.mem_of_getElem? (i := 366) (by decide +kernel)) (by decide +kernel))
theorem qi_X6_twin : Cond.instanceMethod mX6_twin.1 ∈ gtb := (gtb_in (List.mem_of_getElem? (i := 364) (by decide +kernel)) (by decide +kernel))
theorem qs_X6_twin : Cond.selects mX6_twin.1.cls mX6_twin.1 mX6_twin.1 ∈ gtb := (gtb_in (List.mem_of_getElem? (i := 365) (by decide +kernel)) (by decide +kernel))
theorem qd_X6_twin : dsc mX6_twin.1 0 := ⟨by decide +kernel, by decide +kernel, by decide +kernel⟩
def mX6_shapedAlong : MI := (yX6_shapedAlong, cX6_shapedAlong, 7, (some ((.object "SheetBranches$Sheet"))))
theorem qc_X6_shapedAlong : Cond.code mX6_shapedAlong.1 mX6_shapedAlong.2.1 mX6_shapedAlong.2.2.1 mX6_shapedAlong.2.2.2 ∈ gtb := (gtb_in (List.mem_of_getElem? (i := 1338) (by decide +kernel)) (by decide +kernel))
theorem qi_X6_shapedAlong : Cond.instanceMethod mX6_shapedAlong.1 ∈ gtb := (gtb_in (List.mem_of_getElem? (i := 1336) (by decide +kernel)) (by decide +kernel))
theorem qs_X6_shapedAlong : Cond.selects mX6_shapedAlong.1.cls mX6_shapedAlong.1 mX6_shapedAlong.1 ∈ gtb := (gtb_in (List.mem_of_getElem? (i := 1337) (by decide +kernel)) (by decide +kernel))
theorem qd_X6_shapedAlong : dsc mX6_shapedAlong.1 2 := ⟨by decide +kernel, by decide +kernel, by decide +kernel⟩
def mX6_valueAt : MI := (yX6_valueAt, cX6_valueAt, 5, (some ((.object "SheetBranches$Value"))))
theorem qc_X6_valueAt : Cond.code mX6_valueAt.1 mX6_valueAt.2.1 mX6_valueAt.2.2.1 mX6_valueAt.2.2.2 ∈ gtb := (gtb_in (List.mem_of_getElem? (i := 618) (by decide +kernel)) (by decide +kernel))
theorem qi_X6_valueAt : Cond.instanceMethod mX6_valueAt.1 ∈ gtb := (gtb_in (List.mem_of_getElem? (i := 616) (by decide +kernel)) (by decide +kernel))
theorem qs_X6_valueAt : Cond.selects mX6_valueAt.1.cls mX6_valueAt.1 mX6_valueAt.1 ∈ gtb := (gtb_in (List.mem_of_getElem? (i := 617) (by decide +kernel)) (by decide +kernel))
theorem qd_X6_valueAt : dsc mX6_valueAt.1 2 := ⟨by decide +kernel, by decide +kernel, by decide +kernel⟩
def mX6_versionsLookedAt : MI := (yX6_versionsLookedAt, cX6_versionsLookedAt, 6, (some .long))
theorem qc_X6_versionsLookedAt : Cond.code mX6_versionsLookedAt.1 mX6_versionsLookedAt.2.1 mX6_versionsLookedAt.2.2.1 mX6_versionsLookedAt.2.2.2 ∈ gtb := (gtb_in (List.mem_of_getElem? (i := 518) (by decide +kernel)) (by decide +kernel))
theorem qi_X6_versionsLookedAt : Cond.instanceMethod mX6_versionsLookedAt.1 ∈ gtb := (gtb_in (List.mem_of_getElem? (i := 516) (by decide +kernel)) (by decide +kernel))
theorem qs_X6_versionsLookedAt : Cond.selects mX6_versionsLookedAt.1.cls mX6_versionsLookedAt.1 mX6_versionsLookedAt.1 ∈ gtb := (gtb_in (List.mem_of_getElem? (i := 517) (by decide +kernel)) (by decide +kernel))
theorem qd_X6_versionsLookedAt : dsc mX6_versionsLookedAt.1 0 := ⟨by decide +kernel, by decide +kernel, by decide +kernel⟩
def mX6_isLike : MI := (yX6_isLike, cX6_isLike, 3, (some .boolean))
theorem qc_X6_isLike : Cond.code mX6_isLike.1 mX6_isLike.2.1 mX6_isLike.2.2.1 mX6_isLike.2.2.2 ∈ gtb := (gtb_in (List.mem_of_getElem? (i := 929) (by decide +kernel)) (by decide +kernel))
theorem qi_X6_isLike : Cond.instanceMethod mX6_isLike.1 ∈ gtb := (gtb_in (List.mem_of_getElem? (i := 927) (by decide +kernel)) (by decide +kernel))
theorem qs_X6_isLike : Cond.selects mX6_isLike.1.cls mX6_isLike.1 mX6_isLike.1 ∈ gtb := (gtb_in (List.mem_of_getElem? (i := 928) (by decide +kernel)) (by decide +kernel))
theorem qd_X6_isLike : dsc mX6_isLike.1 1 := ⟨by decide +kernel, by decide +kernel, by decide +kernel⟩
def mX1_alike : MI := (yX1_alike, cX1_alike, 3, (some .boolean))
theorem qc_X1_alike : Cond.code mX1_alike.1 mX1_alike.2.1 mX1_alike.2.2.1 mX1_alike.2.2.2 ∈ gtb := (gtb_in (List.mem_of_getElem? (i := 932) (by decide +kernel)) (by decide +kernel))
theorem qt_X1_alike : Cond.static mX1_alike.1 ∈ gtb := (gtb_in (List.mem_of_getElem? (i := 931) (by decide +kernel)) (by decide +kernel))
theorem qd_X1_alike : dsc mX1_alike.1 2 := ⟨by decide +kernel, by decide +kernel, by decide +kernel⟩
theorem dX6_has_0 : decode cX6_has 0 = .ok (.iload_n 1, 1) := by decide +kernel
theorem dX6_has_1 : decode cX6_has 1 = .ok (.iconst 1, 1) := by decide +kernel
theorem dX6_has_2 : decode cX6_has 2 = .ok (.if_icmp .lt 30, 3) := by decide +kernel
theorem dX6_has_5 : decode cX6_has 5 = .ok (.iload_n 1, 1) := by decide +kernel
theorem dX6_has_6 : decode cX6_has 6 = .ok (.aload_n 0, 1) := by decide +kernel
theorem dX6_has_7 : decode cX6_has 7 = .ok (.getfield 9, 3) := by decide +kernel
theorem dX6_has_10 : decode cX6_has 10 = .ok (.arraylength, 1) := by decide +kernel
theorem dX6_has_11 : decode cX6_has 11 = .ok (.if_icmp .gt 21, 3) := by decide +kernel
theorem dX6_has_14 : decode cX6_has 14 = .ok (.iload_n 2, 1) := by decide +kernel
theorem dX6_has_15 : decode cX6_has 15 = .ok (.iconst 1, 1) := by decide +kernel
theorem dX6_has_16 : decode cX6_has 16 = .ok (.if_icmp .lt 16, 3) := by decide +kernel
theorem dX6_has_19 : decode cX6_has 19 = .ok (.iload_n 2, 1) := by decide +kernel
theorem dX6_has_20 : decode cX6_has 20 = .ok (.aload_n 0, 1) := by decide +kernel
theorem dX6_has_21 : decode cX6_has 21 = .ok (.getfield 15, 3) := by decide +kernel
theorem dX6_has_24 : decode cX6_has 24 = .ok (.arraylength, 1) := by decide +kernel
theorem dX6_has_25 : decode cX6_has 25 = .ok (.if_icmp .gt 7, 3) := by decide +kernel
theorem dX6_has_28 : decode cX6_has 28 = .ok (.iconst 1, 1) := by decide +kernel
theorem dX6_has_29 : decode cX6_has 29 = .ok (.goto 4, 3) := by decide +kernel
theorem dX6_has_32 : decode cX6_has 32 = .ok (.iconst 0, 1) := by decide +kernel
theorem dX6_has_33 : decode cX6_has 33 = .ok (.ireturn, 1) := by decide +kernel
set_option maxRecDepth 20000 in
theorem fl_X6_9 : FL RX6 9 6 0 true := ⟨RX6, TX6, cl_6, by decide, (gtb_in (List.mem_of_getElem? (i := 333) (by decide +kernel)) (by decide +kernel)), rfl⟩
set_option maxRecDepth 20000 in
theorem fl_X6_15 : FL RX6 15 6 1 true := ⟨RX6, TX6, cl_6, by decide, (gtb_in (List.mem_of_getElem? (i := 336) (by decide +kernel)) (by decide +kernel)), rfl⟩
theorem dX6_line_0 : decode cX6_line 0 = .ok (.iload_n 1, 1) := by decide +kernel
theorem dX6_line_1 : decode cX6_line 1 = .ok (.ifCond .ne 10, 3) := by decide +kernel
theorem dX6_line_4 : decode cX6_line 4 = .ok (.aload_n 0, 1) := by decide +kernel
theorem dX6_line_5 : decode cX6_line 5 = .ok (.getfield 9, 3) := by decide +kernel
theorem dX6_line_8 : decode cX6_line 8 = .ok (.goto 7, 3) := by decide +kernel
theorem dX6_line_11 : decode cX6_line 11 = .ok (.aload_n 0, 1) := by decide +kernel
theorem dX6_line_12 : decode cX6_line 12 = .ok (.getfield 15, 3) := by decide +kernel
theorem dX6_line_15 : decode cX6_line 15 = .ok (.areturn, 1) := by decide +kernel
theorem dX6_placeOf_0 : decode cX6_placeOf 0 = .ok (.iload_n 1, 1) := by decide +kernel
theorem dX6_placeOf_1 : decode cX6_placeOf 1 = .ok (.ifCond .ne 10, 3) := by decide +kernel
theorem dX6_placeOf_4 : decode cX6_placeOf 4 = .ok (.aload_n 0, 1) := by decide +kernel
theorem dX6_placeOf_5 : decode cX6_placeOf 5 = .ok (.getfield 9, 3) := by decide +kernel
theorem dX6_placeOf_8 : decode cX6_placeOf 8 = .ok (.goto 7, 3) := by decide +kernel
theorem dX6_placeOf_11 : decode cX6_placeOf 11 = .ok (.aload_n 0, 1) := by decide +kernel
theorem dX6_placeOf_12 : decode cX6_placeOf 12 = .ok (.getfield 15, 3) := by decide +kernel
theorem dX6_placeOf_15 : decode cX6_placeOf 15 = .ok (.astore_n 3, 1) := by decide +kernel
theorem dX6_placeOf_16 : decode cX6_placeOf 16 = .ok (.iconst 0, 1) := by decide +kernel
theorem dX6_placeOf_17 : decode cX6_placeOf 17 = .ok (.istore 4, 2) := by decide +kernel
theorem dX6_placeOf_19 : decode cX6_placeOf 19 = .ok (.iload 4, 2) := by decide +kernel
theorem dX6_placeOf_21 : decode cX6_placeOf 21 = .ok (.aload_n 3, 1) := by decide +kernel
theorem dX6_placeOf_22 : decode cX6_placeOf 22 = .ok (.arraylength, 1) := by decide +kernel
theorem dX6_placeOf_23 : decode cX6_placeOf 23 = .ok (.if_icmp .ge 22, 3) := by decide +kernel
theorem dX6_placeOf_26 : decode cX6_placeOf 26 = .ok (.aload_n 3, 1) := by decide +kernel
theorem dX6_placeOf_27 : decode cX6_placeOf 27 = .ok (.iload 4, 2) := by decide +kernel
theorem dX6_placeOf_29 : decode cX6_placeOf 29 = .ok (.iaload, 1) := by decide +kernel
theorem dX6_placeOf_30 : decode cX6_placeOf 30 = .ok (.iload_n 2, 1) := by decide +kernel
theorem dX6_placeOf_31 : decode cX6_placeOf 31 = .ok (.if_icmp .ne 8, 3) := by decide +kernel
theorem dX6_placeOf_34 : decode cX6_placeOf 34 = .ok (.iload 4, 2) := by decide +kernel
theorem dX6_placeOf_36 : decode cX6_placeOf 36 = .ok (.iconst 1, 1) := by decide +kernel
theorem dX6_placeOf_37 : decode cX6_placeOf 37 = .ok (.iadd, 1) := by decide +kernel
theorem dX6_placeOf_38 : decode cX6_placeOf 38 = .ok (.ireturn, 1) := by decide +kernel
theorem dX6_placeOf_39 : decode cX6_placeOf 39 = .ok (.iinc 4 1, 3) := by decide +kernel
theorem dX6_placeOf_42 : decode cX6_placeOf 42 = .ok (.goto (-23), 3) := by decide +kernel
theorem dX6_placeOf_45 : decode cX6_placeOf 45 = .ok (.iconst 0, 1) := by decide +kernel
theorem dX6_placeOf_46 : decode cX6_placeOf 46 = .ok (.ireturn, 1) := by decide +kernel
theorem dX6_at_0 : decode cX6_at 0 = .ok (.aload_n 0, 1) := by decide +kernel
theorem dX6_at_1 : decode cX6_at 1 = .ok (.iload_n 1, 1) := by decide +kernel
theorem dX6_at_2 : decode cX6_at 2 = .ok (.iload_n 2, 1) := by decide +kernel
theorem dX6_at_3 : decode cX6_at 3 = .ok (.invokevirtual 24, 3) := by decide +kernel
theorem dX6_at_6 : decode cX6_at 6 = .ok (.ifCond .eq 24, 3) := by decide +kernel
theorem dX6_at_9 : decode cX6_at 9 = .ok (.aload_n 0, 1) := by decide +kernel
theorem dX6_at_10 : decode cX6_at 10 = .ok (.getfield 20, 3) := by decide +kernel
theorem dX6_at_13 : decode cX6_at 13 = .ok (.iload_n 1, 1) := by decide +kernel
theorem dX6_at_14 : decode cX6_at 14 = .ok (.iconst 1, 1) := by decide +kernel
theorem dX6_at_15 : decode cX6_at 15 = .ok (.isub, 1) := by decide +kernel
theorem dX6_at_16 : decode cX6_at 16 = .ok (.aload_n 0, 1) := by decide +kernel
theorem dX6_at_17 : decode cX6_at 17 = .ok (.getfield 15, 3) := by decide +kernel
theorem dX6_at_20 : decode cX6_at 20 = .ok (.arraylength, 1) := by decide +kernel
theorem dX6_at_21 : decode cX6_at 21 = .ok (.imul, 1) := by decide +kernel
theorem dX6_at_22 : decode cX6_at 22 = .ok (.iload_n 2, 1) := by decide +kernel
theorem dX6_at_23 : decode cX6_at 23 = .ok (.iadd, 1) := by decide +kernel
theorem dX6_at_24 : decode cX6_at 24 = .ok (.iconst 1, 1) := by decide +kernel
theorem dX6_at_25 : decode cX6_at 25 = .ok (.isub, 1) := by decide +kernel
theorem dX6_at_26 : decode cX6_at 26 = .ok (.aaload, 1) := by decide +kernel
theorem dX6_at_27 : decode cX6_at 27 = .ok (.goto 4, 3) := by decide +kernel
theorem dX6_at_30 : decode cX6_at 30 = .ok (.aconst_null, 1) := by decide +kernel
theorem dX6_at_31 : decode cX6_at 31 = .ok (.areturn, 1) := by decide +kernel
set_option maxRecDepth 20000 in
theorem vl_X6_24 : VL RX6 24 6 mX6_has 2 := ⟨⟨qc_X6_has, (gtb_in (List.mem_of_getElem? (i := 820) (by decide +kernel)) (by decide +kernel)), qi_X6_has, qs_X6_has, zw_6⟩, ⟨_, _, rfl⟩, by decide, qd_X6_has, by decide⟩
set_option maxRecDepth 20000 in
theorem fl_X6_20 : FL RX6 20 6 2 true := ⟨RX6, TX6, cl_6, by decide, (gtb_in (List.mem_of_getElem? (i := 340) (by decide +kernel)) (by decide +kernel)), rfl⟩
theorem dX6_put_0 : decode cX6_put 0 = .ok (.aload_n 0, 1) := by decide +kernel
theorem dX6_put_1 : decode cX6_put 1 = .ok (.iload_n 1, 1) := by decide +kernel
theorem dX6_put_2 : decode cX6_put 2 = .ok (.iload_n 2, 1) := by decide +kernel
theorem dX6_put_3 : decode cX6_put 3 = .ok (.invokevirtual 24, 3) := by decide +kernel
theorem dX6_put_6 : decode cX6_put 6 = .ok (.ifCond .eq 22, 3) := by decide +kernel
theorem dX6_put_9 : decode cX6_put 9 = .ok (.aload_n 0, 1) := by decide +kernel
theorem dX6_put_10 : decode cX6_put 10 = .ok (.getfield 20, 3) := by decide +kernel
theorem dX6_put_13 : decode cX6_put 13 = .ok (.iload_n 1, 1) := by decide +kernel
theorem dX6_put_14 : decode cX6_put 14 = .ok (.iconst 1, 1) := by decide +kernel
theorem dX6_put_15 : decode cX6_put 15 = .ok (.isub, 1) := by decide +kernel
theorem dX6_put_16 : decode cX6_put 16 = .ok (.aload_n 0, 1) := by decide +kernel
theorem dX6_put_17 : decode cX6_put 17 = .ok (.getfield 15, 3) := by decide +kernel
theorem dX6_put_20 : decode cX6_put 20 = .ok (.arraylength, 1) := by decide +kernel
theorem dX6_put_21 : decode cX6_put 21 = .ok (.imul, 1) := by decide +kernel
theorem dX6_put_22 : decode cX6_put 22 = .ok (.iload_n 2, 1) := by decide +kernel
theorem dX6_put_23 : decode cX6_put 23 = .ok (.iadd, 1) := by decide +kernel
theorem dX6_put_24 : decode cX6_put 24 = .ok (.iconst 1, 1) := by decide +kernel
theorem dX6_put_25 : decode cX6_put 25 = .ok (.isub, 1) := by decide +kernel
theorem dX6_put_26 : decode cX6_put 26 = .ok (.aload_n 3, 1) := by decide +kernel
theorem dX6_put_27 : decode cX6_put 27 = .ok (.aastore, 1) := by decide +kernel
theorem dX6_put_28 : decode cX6_put 28 = .ok (.return_, 1) := by decide +kernel
theorem dX6_knows_0 : decode cX6_knows 0 = .ok (.aload_n 0, 1) := by decide +kernel
theorem dX6_knows_1 : decode cX6_knows 1 = .ok (.iconst 0, 1) := by decide +kernel
theorem dX6_knows_2 : decode cX6_knows 2 = .ok (.iload_n 1, 1) := by decide +kernel
theorem dX6_knows_3 : decode cX6_knows 3 = .ok (.invokevirtual 28, 3) := by decide +kernel
theorem dX6_knows_6 : decode cX6_knows 6 = .ok (.ifCond .le 16, 3) := by decide +kernel
theorem dX6_knows_9 : decode cX6_knows 9 = .ok (.aload_n 0, 1) := by decide +kernel
theorem dX6_knows_10 : decode cX6_knows 10 = .ok (.iconst 1, 1) := by decide +kernel
theorem dX6_knows_11 : decode cX6_knows 11 = .ok (.iload_n 2, 1) := by decide +kernel
theorem dX6_knows_12 : decode cX6_knows 12 = .ok (.invokevirtual 28, 3) := by decide +kernel
theorem dX6_knows_15 : decode cX6_knows 15 = .ok (.ifCond .le 7, 3) := by decide +kernel
theorem dX6_knows_18 : decode cX6_knows 18 = .ok (.iconst 1, 1) := by decide +kernel
theorem dX6_knows_19 : decode cX6_knows 19 = .ok (.goto 4, 3) := by decide +kernel
theorem dX6_knows_22 : decode cX6_knows 22 = .ok (.iconst 0, 1) := by decide +kernel
theorem dX6_knows_23 : decode cX6_knows 23 = .ok (.ireturn, 1) := by decide +kernel
set_option maxRecDepth 20000 in
theorem vl_X6_28 : VL RX6 28 6 mX6_placeOf 2 := ⟨⟨qc_X6_placeOf, (gtb_in (List.mem_of_getElem? (i := 868) (by decide +kernel)) (by decide +kernel)), qi_X6_placeOf, qs_X6_placeOf, zw_6⟩, ⟨_, _, rfl⟩, by decide, qd_X6_placeOf, by decide⟩
theorem dX6_of_0 : decode cX6_of 0 = .ok (.aload_n 0, 1) := by decide +kernel
theorem dX6_of_1 : decode cX6_of 1 = .ok (.aload_n 0, 1) := by decide +kernel
theorem dX6_of_2 : decode cX6_of 2 = .ok (.iconst 0, 1) := by decide +kernel
theorem dX6_of_3 : decode cX6_of 3 = .ok (.iload_n 1, 1) := by decide +kernel
theorem dX6_of_4 : decode cX6_of 4 = .ok (.invokevirtual 28, 3) := by decide +kernel
theorem dX6_of_7 : decode cX6_of 7 = .ok (.aload_n 0, 1) := by decide +kernel
theorem dX6_of_8 : decode cX6_of 8 = .ok (.iconst 1, 1) := by decide +kernel
theorem dX6_of_9 : decode cX6_of 9 = .ok (.iload_n 2, 1) := by decide +kernel
theorem dX6_of_10 : decode cX6_of 10 = .ok (.invokevirtual 28, 3) := by decide +kernel
theorem dX6_of_13 : decode cX6_of 13 = .ok (.invokevirtual 32, 3) := by decide +kernel
theorem dX6_of_16 : decode cX6_of 16 = .ok (.areturn, 1) := by decide +kernel
set_option maxRecDepth 20000 in
theorem vl_X6_32 : VL RX6 32 6 mX6_at 2 := ⟨⟨qc_X6_at, (gtb_in (List.mem_of_getElem? (i := 1340) (by decide +kernel)) (by decide +kernel)), qi_X6_at, qs_X6_at, zw_6⟩, ⟨_, _, rfl⟩, by decide, qd_X6_at, by decide⟩
theorem dX6_init_0 : decode cX6_init 0 = .ok (.aload_n 0, 1) := by decide +kernel
theorem dX6_init_1 : decode cX6_init 1 = .ok (.invokespecial 3, 3) := by decide +kernel
theorem dX6_init_4 : decode cX6_init 4 = .ok (.aload_n 0, 1) := by decide +kernel
theorem dX6_init_5 : decode cX6_init 5 = .ok (.aload_n 1, 1) := by decide +kernel
theorem dX6_init_6 : decode cX6_init 6 = .ok (.putfield 9, 3) := by decide +kernel
theorem dX6_init_9 : decode cX6_init 9 = .ok (.aload_n 0, 1) := by decide +kernel
theorem dX6_init_10 : decode cX6_init 10 = .ok (.aload_n 2, 1) := by decide +kernel
theorem dX6_init_11 : decode cX6_init 11 = .ok (.putfield 15, 3) := by decide +kernel
theorem dX6_init_14 : decode cX6_init 14 = .ok (.aload_n 0, 1) := by decide +kernel
theorem dX6_init_15 : decode cX6_init 15 = .ok (.aload_n 1, 1) := by decide +kernel
theorem dX6_init_16 : decode cX6_init 16 = .ok (.arraylength, 1) := by decide +kernel
theorem dX6_init_17 : decode cX6_init 17 = .ok (.aload_n 2, 1) := by decide +kernel
theorem dX6_init_18 : decode cX6_init 18 = .ok (.arraylength, 1) := by decide +kernel
theorem dX6_init_19 : decode cX6_init 19 = .ok (.imul, 1) := by decide +kernel
theorem dX6_init_20 : decode cX6_init 20 = .ok (.anewarray 18, 3) := by decide +kernel
theorem dX6_init_23 : decode cX6_init 23 = .ok (.putfield 20, 3) := by decide +kernel
theorem dX6_init_26 : decode cX6_init 26 = .ok (.return_, 1) := by decide +kernel
set_option maxRecDepth 20000 in
theorem ol_X6_3 : Cond.methodLink RX6 3 objectInit ∈ gtb := (gtb_in (List.mem_of_getElem? (i := 330) (by decide +kernel)) (by decide +kernel))
set_option maxRecDepth 20000 in
theorem nl_X6_18 : Cond.classLink RX6 18 RX1 ∈ gtb := (gtb_in (List.mem_of_getElem? (i := 331) (by decide +kernel)) (by decide +kernel))
theorem dX6_twin_0 : decode cX6_twin 0 = .ok (.new 10, 3) := by decide +kernel
theorem dX6_twin_3 : decode cX6_twin 3 = .ok (.dup, 1) := by decide +kernel
theorem dX6_twin_4 : decode cX6_twin 4 = .ok (.aload_n 0, 1) := by decide +kernel
theorem dX6_twin_5 : decode cX6_twin 5 = .ok (.getfield 9, 3) := by decide +kernel
theorem dX6_twin_8 : decode cX6_twin 8 = .ok (.aload_n 0, 1) := by decide +kernel
theorem dX6_twin_9 : decode cX6_twin 9 = .ok (.getfield 15, 3) := by decide +kernel
theorem dX6_twin_12 : decode cX6_twin 12 = .ok (.invokespecial 40, 3) := by decide +kernel
theorem dX6_twin_15 : decode cX6_twin 15 = .ok (.astore_n 1, 1) := by decide +kernel
theorem dX6_twin_16 : decode cX6_twin 16 = .ok (.iconst 0, 1) := by decide +kernel
theorem dX6_twin_17 : decode cX6_twin 17 = .ok (.istore_n 2, 1) := by decide +kernel
theorem dX6_twin_18 : decode cX6_twin 18 = .ok (.iload_n 2, 1) := by decide +kernel
theorem dX6_twin_19 : decode cX6_twin 19 = .ok (.aload_n 0, 1) := by decide +kernel
theorem dX6_twin_20 : decode cX6_twin 20 = .ok (.getfield 20, 3) := by decide +kernel
theorem dX6_twin_23 : decode cX6_twin 23 = .ok (.arraylength, 1) := by decide +kernel
theorem dX6_twin_24 : decode cX6_twin 24 = .ok (.if_icmp .ge 21, 3) := by decide +kernel
theorem dX6_twin_27 : decode cX6_twin 27 = .ok (.aload_n 1, 1) := by decide +kernel
theorem dX6_twin_28 : decode cX6_twin 28 = .ok (.getfield 20, 3) := by decide +kernel
theorem dX6_twin_31 : decode cX6_twin 31 = .ok (.iload_n 2, 1) := by decide +kernel
theorem dX6_twin_32 : decode cX6_twin 32 = .ok (.aload_n 0, 1) := by decide +kernel
theorem dX6_twin_33 : decode cX6_twin 33 = .ok (.getfield 20, 3) := by decide +kernel
theorem dX6_twin_36 : decode cX6_twin 36 = .ok (.iload_n 2, 1) := by decide +kernel
theorem dX6_twin_37 : decode cX6_twin 37 = .ok (.aaload, 1) := by decide +kernel
theorem dX6_twin_38 : decode cX6_twin 38 = .ok (.aastore, 1) := by decide +kernel
theorem dX6_twin_39 : decode cX6_twin 39 = .ok (.iinc 2 1, 3) := by decide +kernel
theorem dX6_twin_42 : decode cX6_twin 42 = .ok (.goto (-24), 3) := by decide +kernel
theorem dX6_twin_45 : decode cX6_twin 45 = .ok (.aload_n 1, 1) := by decide +kernel
theorem dX6_twin_46 : decode cX6_twin 46 = .ok (.areturn, 1) := by decide +kernel
set_option maxRecDepth 20000 in
theorem nl_X6_10 : Cond.classLink RX6 10 RX6 ∈ gtb := (gtb_in (List.mem_of_getElem? (i := 367) (by decide +kernel)) (by decide +kernel))
set_option maxRecDepth 20000 in
theorem il_X6_40 : IL RX6 40 mX6_init 2 := ⟨⟨qc_X6_init, (gtb_in (List.mem_of_getElem? (i := 368) (by decide +kernel)) (by decide +kernel)), qi_X6_init, zw_6⟩, rfl, rfl, qd_X6_init, by decide⟩
theorem dX6_shapedAlong_0 : decode cX6_shapedAlong 0 = .ok (.new 10, 3) := by decide +kernel
theorem dX6_shapedAlong_3 : decode cX6_shapedAlong 3 = .ok (.dup, 1) := by decide +kernel
theorem dX6_shapedAlong_4 : decode cX6_shapedAlong 4 = .ok (.iload_n 1, 1) := by decide +kernel
theorem dX6_shapedAlong_5 : decode cX6_shapedAlong 5 = .ok (.ifCond .ne 7, 3) := by decide +kernel
theorem dX6_shapedAlong_8 : decode cX6_shapedAlong 8 = .ok (.aload_n 2, 1) := by decide +kernel
theorem dX6_shapedAlong_9 : decode cX6_shapedAlong 9 = .ok (.goto 7, 3) := by decide +kernel
theorem dX6_shapedAlong_12 : decode cX6_shapedAlong 12 = .ok (.aload_n 0, 1) := by decide +kernel
theorem dX6_shapedAlong_13 : decode cX6_shapedAlong 13 = .ok (.getfield 9, 3) := by decide +kernel
theorem dX6_shapedAlong_16 : decode cX6_shapedAlong 16 = .ok (.iload_n 1, 1) := by decide +kernel
theorem dX6_shapedAlong_17 : decode cX6_shapedAlong 17 = .ok (.ifCond .ne 10, 3) := by decide +kernel
theorem dX6_shapedAlong_20 : decode cX6_shapedAlong 20 = .ok (.aload_n 0, 1) := by decide +kernel
theorem dX6_shapedAlong_21 : decode cX6_shapedAlong 21 = .ok (.getfield 15, 3) := by decide +kernel
theorem dX6_shapedAlong_24 : decode cX6_shapedAlong 24 = .ok (.goto 4, 3) := by decide +kernel
theorem dX6_shapedAlong_27 : decode cX6_shapedAlong 27 = .ok (.aload_n 2, 1) := by decide +kernel
theorem dX6_shapedAlong_28 : decode cX6_shapedAlong 28 = .ok (.invokespecial 40, 3) := by decide +kernel
theorem dX6_shapedAlong_31 : decode cX6_shapedAlong 31 = .ok (.astore_n 3, 1) := by decide +kernel
theorem dX6_shapedAlong_32 : decode cX6_shapedAlong 32 = .ok (.iconst 0, 1) := by decide +kernel
theorem dX6_shapedAlong_33 : decode cX6_shapedAlong 33 = .ok (.istore 4, 2) := by decide +kernel
theorem dX6_shapedAlong_35 : decode cX6_shapedAlong 35 = .ok (.iload 4, 2) := by decide +kernel
theorem dX6_shapedAlong_37 : decode cX6_shapedAlong 37 = .ok (.aload_n 2, 1) := by decide +kernel
theorem dX6_shapedAlong_38 : decode cX6_shapedAlong 38 = .ok (.arraylength, 1) := by decide +kernel
theorem dX6_shapedAlong_39 : decode cX6_shapedAlong 39 = .ok (.if_icmp .ge 85, 3) := by decide +kernel
theorem dX6_shapedAlong_42 : decode cX6_shapedAlong 42 = .ok (.aload_n 0, 1) := by decide +kernel
theorem dX6_shapedAlong_43 : decode cX6_shapedAlong 43 = .ok (.iload_n 1, 1) := by decide +kernel
theorem dX6_shapedAlong_44 : decode cX6_shapedAlong 44 = .ok (.aload_n 2, 1) := by decide +kernel
theorem dX6_shapedAlong_45 : decode cX6_shapedAlong 45 = .ok (.iload 4, 2) := by decide +kernel
theorem dX6_shapedAlong_47 : decode cX6_shapedAlong 47 = .ok (.iaload, 1) := by decide +kernel
theorem dX6_shapedAlong_48 : decode cX6_shapedAlong 48 = .ok (.invokevirtual 28, 3) := by decide +kernel
theorem dX6_shapedAlong_51 : decode cX6_shapedAlong 51 = .ok (.istore 5, 2) := by decide +kernel
theorem dX6_shapedAlong_53 : decode cX6_shapedAlong 53 = .ok (.iconst 1, 1) := by decide +kernel
theorem dX6_shapedAlong_54 : decode cX6_shapedAlong 54 = .ok (.istore 6, 2) := by decide +kernel
theorem dX6_shapedAlong_56 : decode cX6_shapedAlong 56 = .ok (.iload 6, 2) := by decide +kernel
theorem dX6_shapedAlong_58 : decode cX6_shapedAlong 58 = .ok (.aload_n 0, 1) := by decide +kernel
theorem dX6_shapedAlong_59 : decode cX6_shapedAlong 59 = .ok (.iconst 1, 1) := by decide +kernel
theorem dX6_shapedAlong_60 : decode cX6_shapedAlong 60 = .ok (.iload_n 1, 1) := by decide +kernel
theorem dX6_shapedAlong_61 : decode cX6_shapedAlong 61 = .ok (.isub, 1) := by decide +kernel
theorem dX6_shapedAlong_62 : decode cX6_shapedAlong 62 = .ok (.invokevirtual 36, 3) := by decide +kernel
theorem dX6_shapedAlong_65 : decode cX6_shapedAlong 65 = .ok (.arraylength, 1) := by decide +kernel
theorem dX6_shapedAlong_66 : decode cX6_shapedAlong 66 = .ok (.if_icmp .gt 52, 3) := by decide +kernel
theorem dX6_shapedAlong_69 : decode cX6_shapedAlong 69 = .ok (.iload_n 1, 1) := by decide +kernel
theorem dX6_shapedAlong_70 : decode cX6_shapedAlong 70 = .ok (.ifCond .ne 24, 3) := by decide +kernel
theorem dX6_shapedAlong_73 : decode cX6_shapedAlong 73 = .ok (.aload_n 3, 1) := by decide +kernel
theorem dX6_shapedAlong_74 : decode cX6_shapedAlong 74 = .ok (.iload 4, 2) := by decide +kernel
theorem dX6_shapedAlong_76 : decode cX6_shapedAlong 76 = .ok (.iconst 1, 1) := by decide +kernel
theorem dX6_shapedAlong_77 : decode cX6_shapedAlong 77 = .ok (.iadd, 1) := by decide +kernel
theorem dX6_shapedAlong_78 : decode cX6_shapedAlong 78 = .ok (.iload 6, 2) := by decide +kernel
theorem dX6_shapedAlong_80 : decode cX6_shapedAlong 80 = .ok (.aload_n 0, 1) := by decide +kernel
theorem dX6_shapedAlong_81 : decode cX6_shapedAlong 81 = .ok (.iload 5, 2) := by decide +kernel
theorem dX6_shapedAlong_83 : decode cX6_shapedAlong 83 = .ok (.iload 6, 2) := by decide +kernel
theorem dX6_shapedAlong_85 : decode cX6_shapedAlong 85 = .ok (.invokevirtual 32, 3) := by decide +kernel
theorem dX6_shapedAlong_88 : decode cX6_shapedAlong 88 = .ok (.invokevirtual 43, 3) := by decide +kernel
theorem dX6_shapedAlong_91 : decode cX6_shapedAlong 91 = .ok (.goto 21, 3) := by decide +kernel
theorem dX6_shapedAlong_94 : decode cX6_shapedAlong 94 = .ok (.aload_n 3, 1) := by decide +kernel
theorem dX6_shapedAlong_95 : decode cX6_shapedAlong 95 = .ok (.iload 6, 2) := by decide +kernel
theorem dX6_shapedAlong_97 : decode cX6_shapedAlong 97 = .ok (.iload 4, 2) := by decide +kernel
theorem dX6_shapedAlong_99 : decode cX6_shapedAlong 99 = .ok (.iconst 1, 1) := by decide +kernel
theorem dX6_shapedAlong_100 : decode cX6_shapedAlong 100 = .ok (.iadd, 1) := by decide +kernel
theorem dX6_shapedAlong_101 : decode cX6_shapedAlong 101 = .ok (.aload_n 0, 1) := by decide +kernel
theorem dX6_shapedAlong_102 : decode cX6_shapedAlong 102 = .ok (.iload 6, 2) := by decide +kernel
theorem dX6_shapedAlong_104 : decode cX6_shapedAlong 104 = .ok (.iload 5, 2) := by decide +kernel
theorem dX6_shapedAlong_106 : decode cX6_shapedAlong 106 = .ok (.invokevirtual 32, 3) := by decide +kernel
theorem dX6_shapedAlong_109 : decode cX6_shapedAlong 109 = .ok (.invokevirtual 43, 3) := by decide +kernel
theorem dX6_shapedAlong_112 : decode cX6_shapedAlong 112 = .ok (.iinc 6 1, 3) := by decide +kernel
theorem dX6_shapedAlong_115 : decode cX6_shapedAlong 115 = .ok (.goto (-59), 3) := by decide +kernel
theorem dX6_shapedAlong_118 : decode cX6_shapedAlong 118 = .ok (.iinc 4 1, 3) := by decide +kernel
theorem dX6_shapedAlong_121 : decode cX6_shapedAlong 121 = .ok (.goto (-86), 3) := by decide +kernel
theorem dX6_shapedAlong_124 : decode cX6_shapedAlong 124 = .ok (.aload_n 3, 1) := by decide +kernel
theorem dX6_shapedAlong_125 : decode cX6_shapedAlong 125 = .ok (.areturn, 1) := by decide +kernel
set_option maxRecDepth 20000 in
theorem vl_X6_36 : VL RX6 36 6 mX6_line 1 := ⟨⟨qc_X6_line, (gtb_in (List.mem_of_getElem? (i := 1339) (by decide +kernel)) (by decide +kernel)), qi_X6_line, qs_X6_line, zw_6⟩, ⟨_, _, rfl⟩, by decide, qd_X6_line, by decide⟩
set_option maxRecDepth 20000 in
theorem vl_X6_43 : VL RX6 43 6 mX6_put 3 := ⟨⟨qc_X6_put, (gtb_in (List.mem_of_getElem? (i := 1341) (by decide +kernel)) (by decide +kernel)), qi_X6_put, qs_X6_put, zw_6⟩, ⟨_, _, rfl⟩, by decide, qd_X6_put, by decide⟩
theorem dX6_valueAt_0 : decode cX6_valueAt 0 = .ok (.iload_n 1, 1) := by decide +kernel
theorem dX6_valueAt_1 : decode cX6_valueAt 1 = .ok (.iconst 1, 1) := by decide +kernel
theorem dX6_valueAt_2 : decode cX6_valueAt 2 = .ok (.if_icmp .lt 26, 3) := by decide +kernel
theorem dX6_valueAt_5 : decode cX6_valueAt 5 = .ok (.iload_n 1, 1) := by decide +kernel
theorem dX6_valueAt_6 : decode cX6_valueAt 6 = .ok (.aload_n 0, 1) := by decide +kernel
theorem dX6_valueAt_7 : decode cX6_valueAt 7 = .ok (.getfield 9, 3) := by decide +kernel
theorem dX6_valueAt_10 : decode cX6_valueAt 10 = .ok (.arraylength, 1) := by decide +kernel
theorem dX6_valueAt_11 : decode cX6_valueAt 11 = .ok (.if_icmp .gt 17, 3) := by decide +kernel
theorem dX6_valueAt_14 : decode cX6_valueAt 14 = .ok (.iload_n 2, 1) := by decide +kernel
theorem dX6_valueAt_15 : decode cX6_valueAt 15 = .ok (.iconst 1, 1) := by decide +kernel
theorem dX6_valueAt_16 : decode cX6_valueAt 16 = .ok (.if_icmp .lt 12, 3) := by decide +kernel
theorem dX6_valueAt_19 : decode cX6_valueAt 19 = .ok (.iload_n 2, 1) := by decide +kernel
theorem dX6_valueAt_20 : decode cX6_valueAt 20 = .ok (.aload_n 0, 1) := by decide +kernel
theorem dX6_valueAt_21 : decode cX6_valueAt 21 = .ok (.getfield 15, 3) := by decide +kernel
theorem dX6_valueAt_24 : decode cX6_valueAt 24 = .ok (.arraylength, 1) := by decide +kernel
theorem dX6_valueAt_25 : decode cX6_valueAt 25 = .ok (.if_icmp .le 5, 3) := by decide +kernel
theorem dX6_valueAt_28 : decode cX6_valueAt 28 = .ok (.aconst_null, 1) := by decide +kernel
theorem dX6_valueAt_29 : decode cX6_valueAt 29 = .ok (.areturn, 1) := by decide +kernel
theorem dX6_valueAt_30 : decode cX6_valueAt 30 = .ok (.iload_n 1, 1) := by decide +kernel
theorem dX6_valueAt_31 : decode cX6_valueAt 31 = .ok (.iconst 1, 1) := by decide +kernel
theorem dX6_valueAt_32 : decode cX6_valueAt 32 = .ok (.isub, 1) := by decide +kernel
theorem dX6_valueAt_33 : decode cX6_valueAt 33 = .ok (.aload_n 0, 1) := by decide +kernel
theorem dX6_valueAt_34 : decode cX6_valueAt 34 = .ok (.getfield 15, 3) := by decide +kernel
theorem dX6_valueAt_37 : decode cX6_valueAt 37 = .ok (.arraylength, 1) := by decide +kernel
theorem dX6_valueAt_38 : decode cX6_valueAt 38 = .ok (.imul, 1) := by decide +kernel
theorem dX6_valueAt_39 : decode cX6_valueAt 39 = .ok (.iload_n 2, 1) := by decide +kernel
theorem dX6_valueAt_40 : decode cX6_valueAt 40 = .ok (.iadd, 1) := by decide +kernel
theorem dX6_valueAt_41 : decode cX6_valueAt 41 = .ok (.iconst 1, 1) := by decide +kernel
theorem dX6_valueAt_42 : decode cX6_valueAt 42 = .ok (.isub, 1) := by decide +kernel
theorem dX6_valueAt_43 : decode cX6_valueAt 43 = .ok (.istore_n 3, 1) := by decide +kernel
theorem dX6_valueAt_44 : decode cX6_valueAt 44 = .ok (.aload_n 0, 1) := by decide +kernel
theorem dX6_valueAt_45 : decode cX6_valueAt 45 = .ok (.getfield 20, 3) := by decide +kernel
theorem dX6_valueAt_48 : decode cX6_valueAt 48 = .ok (.iload_n 3, 1) := by decide +kernel
theorem dX6_valueAt_49 : decode cX6_valueAt 49 = .ok (.aaload, 1) := by decide +kernel
theorem dX6_valueAt_50 : decode cX6_valueAt 50 = .ok (.astore 4, 2) := by decide +kernel
theorem dX6_valueAt_52 : decode cX6_valueAt 52 = .ok (.aload 4, 2) := by decide +kernel
theorem dX6_valueAt_54 : decode cX6_valueAt 54 = .ok (.ifnull 12, 3) := by decide +kernel
theorem dX6_valueAt_57 : decode cX6_valueAt 57 = .ok (.aload 4, 2) := by decide +kernel
theorem dX6_valueAt_59 : decode cX6_valueAt 59 = .ok (.getfield 65, 3) := by decide +kernel
theorem dX6_valueAt_62 : decode cX6_valueAt 62 = .ok (.iconst 5, 1) := by decide +kernel
theorem dX6_valueAt_63 : decode cX6_valueAt 63 = .ok (.if_icmp .eq 18, 3) := by decide +kernel
theorem dX6_valueAt_66 : decode cX6_valueAt 66 = .ok (.aload 4, 2) := by decide +kernel
theorem dX6_valueAt_68 : decode cX6_valueAt 68 = .ok (.ifnull 11, 3) := by decide +kernel
theorem dX6_valueAt_71 : decode cX6_valueAt 71 = .ok (.aload 4, 2) := by decide +kernel
theorem dX6_valueAt_73 : decode cX6_valueAt 73 = .ok (.getfield 68, 3) := by decide +kernel
theorem dX6_valueAt_76 : decode cX6_valueAt 76 = .ok (.goto 4, 3) := by decide +kernel
theorem dX6_valueAt_79 : decode cX6_valueAt 79 = .ok (.aconst_null, 1) := by decide +kernel
theorem dX6_valueAt_80 : decode cX6_valueAt 80 = .ok (.areturn, 1) := by decide +kernel
theorem dX6_valueAt_81 : decode cX6_valueAt 81 = .ok (.aload_n 0, 1) := by decide +kernel
theorem dX6_valueAt_82 : decode cX6_valueAt 82 = .ok (.getfield 72, 3) := by decide +kernel
theorem dX6_valueAt_85 : decode cX6_valueAt 85 = .ok (.ifnull 21, 3) := by decide +kernel
theorem dX6_valueAt_88 : decode cX6_valueAt 88 = .ok (.iload_n 3, 1) := by decide +kernel
theorem dX6_valueAt_89 : decode cX6_valueAt 89 = .ok (.aload_n 0, 1) := by decide +kernel
theorem dX6_valueAt_90 : decode cX6_valueAt 90 = .ok (.getfield 72, 3) := by decide +kernel
theorem dX6_valueAt_93 : decode cX6_valueAt 93 = .ok (.arraylength, 1) := by decide +kernel
theorem dX6_valueAt_94 : decode cX6_valueAt 94 = .ok (.if_icmp .ge 12, 3) := by decide +kernel
theorem dX6_valueAt_97 : decode cX6_valueAt 97 = .ok (.aload_n 0, 1) := by decide +kernel
theorem dX6_valueAt_98 : decode cX6_valueAt 98 = .ok (.getfield 72, 3) := by decide +kernel
theorem dX6_valueAt_101 : decode cX6_valueAt 101 = .ok (.iload_n 3, 1) := by decide +kernel
theorem dX6_valueAt_102 : decode cX6_valueAt 102 = .ok (.aaload, 1) := by decide +kernel
theorem dX6_valueAt_103 : decode cX6_valueAt 103 = .ok (.goto 4, 3) := by decide +kernel
theorem dX6_valueAt_106 : decode cX6_valueAt 106 = .ok (.aconst_null, 1) := by decide +kernel
theorem dX6_valueAt_107 : decode cX6_valueAt 107 = .ok (.areturn, 1) := by decide +kernel
set_option maxRecDepth 20000 in
theorem fl_X6_65 : FL RX6 65 1 0 true := ⟨RX1, TX1, cl_1, by decide, (gtb_in (List.mem_of_getElem? (i := 1218) (by decide +kernel)) (by decide +kernel)), rfl⟩
set_option maxRecDepth 20000 in
theorem fl_X6_68 : FL RX6 68 1 1 true := ⟨RX1, TX1, cl_1, by decide, (gtb_in (List.mem_of_getElem? (i := 1222) (by decide +kernel)) (by decide +kernel)), rfl⟩
set_option maxRecDepth 20000 in
theorem fl_X6_72 : FL RX6 72 6 3 false := ⟨RX6, TX6, cl_6, by decide, (gtb_in (List.mem_of_getElem? (i := 344) (by decide +kernel)) (by decide +kernel)), rfl⟩
theorem dX6_versionsLookedAt_0 : decode cX6_versionsLookedAt 0 = .ok (.lconst 0, 1) := by decide +kernel
theorem dX6_versionsLookedAt_1 : decode cX6_versionsLookedAt 1 = .ok (.lstore_n 1, 1) := by decide +kernel
theorem dX6_versionsLookedAt_2 : decode cX6_versionsLookedAt 2 = .ok (.iconst 0, 1) := by decide +kernel
theorem dX6_versionsLookedAt_3 : decode cX6_versionsLookedAt 3 = .ok (.istore_n 3, 1) := by decide +kernel
theorem dX6_versionsLookedAt_4 : decode cX6_versionsLookedAt 4 = .ok (.iload_n 3, 1) := by decide +kernel
theorem dX6_versionsLookedAt_5 : decode cX6_versionsLookedAt 5 = .ok (.aload_n 0, 1) := by decide +kernel
theorem dX6_versionsLookedAt_6 : decode cX6_versionsLookedAt 6 = .ok (.getfield 20, 3) := by decide +kernel
theorem dX6_versionsLookedAt_9 : decode cX6_versionsLookedAt 9 = .ok (.arraylength, 1) := by decide +kernel
theorem dX6_versionsLookedAt_10 : decode cX6_versionsLookedAt 10 = .ok (.if_icmp .ge 69, 3) := by decide +kernel
theorem dX6_versionsLookedAt_13 : decode cX6_versionsLookedAt 13 = .ok (.iconst 0, 1) := by decide +kernel
theorem dX6_versionsLookedAt_14 : decode cX6_versionsLookedAt 14 = .ok (.istore 4, 2) := by decide +kernel
theorem dX6_versionsLookedAt_16 : decode cX6_versionsLookedAt 16 = .ok (.iload 4, 2) := by decide +kernel
theorem dX6_versionsLookedAt_18 : decode cX6_versionsLookedAt 18 = .ok (.aload_n 0, 1) := by decide +kernel
theorem dX6_versionsLookedAt_19 : decode cX6_versionsLookedAt 19 = .ok (.getfield 20, 3) := by decide +kernel
theorem dX6_versionsLookedAt_22 : decode cX6_versionsLookedAt 22 = .ok (.iload_n 3, 1) := by decide +kernel
theorem dX6_versionsLookedAt_23 : decode cX6_versionsLookedAt 23 = .ok (.aaload, 1) := by decide +kernel
theorem dX6_versionsLookedAt_24 : decode cX6_versionsLookedAt 24 = .ok (.invokestatic 51, 3) := by decide +kernel
theorem dX6_versionsLookedAt_27 : decode cX6_versionsLookedAt 27 = .ok (.if_icmp .ge 46, 3) := by decide +kernel
theorem dX6_versionsLookedAt_30 : decode cX6_versionsLookedAt 30 = .ok (.aload_n 0, 1) := by decide +kernel
theorem dX6_versionsLookedAt_31 : decode cX6_versionsLookedAt 31 = .ok (.getfield 20, 3) := by decide +kernel
theorem dX6_versionsLookedAt_34 : decode cX6_versionsLookedAt 34 = .ok (.iload_n 3, 1) := by decide +kernel
theorem dX6_versionsLookedAt_35 : decode cX6_versionsLookedAt 35 = .ok (.aaload, 1) := by decide +kernel
theorem dX6_versionsLookedAt_36 : decode cX6_versionsLookedAt 36 = .ok (.getfield 55, 3) := by decide +kernel
theorem dX6_versionsLookedAt_39 : decode cX6_versionsLookedAt 39 = .ok (.iload 4, 2) := by decide +kernel
theorem dX6_versionsLookedAt_41 : decode cX6_versionsLookedAt 41 = .ok (.aaload, 1) := by decide +kernel
theorem dX6_versionsLookedAt_42 : decode cX6_versionsLookedAt 42 = .ok (.astore 5, 2) := by decide +kernel
theorem dX6_versionsLookedAt_44 : decode cX6_versionsLookedAt 44 = .ok (.lload_n 1, 1) := by decide +kernel
theorem dX6_versionsLookedAt_45 : decode cX6_versionsLookedAt 45 = .ok (.aload 5, 2) := by decide +kernel
theorem dX6_versionsLookedAt_47 : decode cX6_versionsLookedAt 47 = .ok (.getfield 59, 3) := by decide +kernel
theorem dX6_versionsLookedAt_50 : decode cX6_versionsLookedAt 50 = .ok (.iconst (-1), 1) := by decide +kernel
theorem dX6_versionsLookedAt_51 : decode cX6_versionsLookedAt 51 = .ok (.if_icmp .eq 13, 3) := by decide +kernel
theorem dX6_versionsLookedAt_54 : decode cX6_versionsLookedAt 54 = .ok (.lconst 1, 1) := by decide +kernel
theorem dX6_versionsLookedAt_55 : decode cX6_versionsLookedAt 55 = .ok (.aload 5, 2) := by decide +kernel
theorem dX6_versionsLookedAt_57 : decode cX6_versionsLookedAt 57 = .ok (.getfield 59, 3) := by decide +kernel
theorem dX6_versionsLookedAt_60 : decode cX6_versionsLookedAt 60 = .ok (.lshl, 1) := by decide +kernel
theorem dX6_versionsLookedAt_61 : decode cX6_versionsLookedAt 61 = .ok (.goto 4, 3) := by decide +kernel
theorem dX6_versionsLookedAt_64 : decode cX6_versionsLookedAt 64 = .ok (.lconst 0, 1) := by decide +kernel
theorem dX6_versionsLookedAt_65 : decode cX6_versionsLookedAt 65 = .ok (.lor, 1) := by decide +kernel
theorem dX6_versionsLookedAt_66 : decode cX6_versionsLookedAt 66 = .ok (.lstore_n 1, 1) := by decide +kernel
theorem dX6_versionsLookedAt_67 : decode cX6_versionsLookedAt 67 = .ok (.iinc 4 1, 3) := by decide +kernel
theorem dX6_versionsLookedAt_70 : decode cX6_versionsLookedAt 70 = .ok (.goto (-54), 3) := by decide +kernel
theorem dX6_versionsLookedAt_73 : decode cX6_versionsLookedAt 73 = .ok (.iinc 3 1, 3) := by decide +kernel
theorem dX6_versionsLookedAt_76 : decode cX6_versionsLookedAt 76 = .ok (.goto (-72), 3) := by decide +kernel
theorem dX6_versionsLookedAt_79 : decode cX6_versionsLookedAt 79 = .ok (.lload_n 1, 1) := by decide +kernel
theorem dX6_versionsLookedAt_80 : decode cX6_versionsLookedAt 80 = .ok (.lreturn, 1) := by decide +kernel
def mX11_partsOf : MI := (yX11_partsOf, cX11_partsOf, 1, (some .int))
theorem qc_X11_partsOf : Cond.code mX11_partsOf.1 mX11_partsOf.2.1 mX11_partsOf.2.2.1 mX11_partsOf.2.2.2 ∈ gtb := (gtb_in (List.mem_of_getElem? (i := 521) (by decide +kernel)) (by decide +kernel))
theorem qt_X11_partsOf : Cond.static mX11_partsOf.1 ∈ gtb := (gtb_in (List.mem_of_getElem? (i := 520) (by decide +kernel)) (by decide +kernel))
theorem qd_X11_partsOf : dsc mX11_partsOf.1 1 := ⟨by decide +kernel, by decide +kernel, by decide +kernel⟩
set_option maxRecDepth 20000 in
theorem snl_X6_51 : SNL RX6 51 "SheetBranches" mX11_partsOf 1 := ⟨⟨qc_X11_partsOf, (List.mem_of_getElem? (i := 519) (by decide +kernel)), qt_X11_partsOf, zw_11⟩, qd_X11_partsOf, by decide⟩
set_option maxRecDepth 20000 in
theorem fl_X6_55 : FL RX6 55 1 2 true := ⟨RX1, TX1, cl_1, by decide, (gtb_in (List.mem_of_getElem? (i := 1226) (by decide +kernel)) (by decide +kernel)), rfl⟩
set_option maxRecDepth 20000 in
theorem fl_X6_59 : FL RX6 59 4 8 false := ⟨RX4, TX4, cl_4, by decide, (gtb_in (List.mem_of_getElem? (i := 1099) (by decide +kernel)) (by decide +kernel)), rfl⟩
theorem dX6_isLike_0 : decode cX6_isLike 0 = .ok (.aload_n 0, 1) := by decide +kernel
theorem dX6_isLike_1 : decode cX6_isLike 1 = .ok (.getfield 9, 3) := by decide +kernel
theorem dX6_isLike_4 : decode cX6_isLike 4 = .ok (.arraylength, 1) := by decide +kernel
theorem dX6_isLike_5 : decode cX6_isLike 5 = .ok (.aload_n 1, 1) := by decide +kernel
theorem dX6_isLike_6 : decode cX6_isLike 6 = .ok (.getfield 9, 3) := by decide +kernel
theorem dX6_isLike_9 : decode cX6_isLike 9 = .ok (.arraylength, 1) := by decide +kernel
theorem dX6_isLike_10 : decode cX6_isLike 10 = .ok (.if_icmp .ne 16, 3) := by decide +kernel
theorem dX6_isLike_13 : decode cX6_isLike 13 = .ok (.aload_n 0, 1) := by decide +kernel
theorem dX6_isLike_14 : decode cX6_isLike 14 = .ok (.getfield 15, 3) := by decide +kernel
theorem dX6_isLike_17 : decode cX6_isLike 17 = .ok (.arraylength, 1) := by decide +kernel
theorem dX6_isLike_18 : decode cX6_isLike 18 = .ok (.aload_n 1, 1) := by decide +kernel
theorem dX6_isLike_19 : decode cX6_isLike 19 = .ok (.getfield 15, 3) := by decide +kernel
theorem dX6_isLike_22 : decode cX6_isLike 22 = .ok (.arraylength, 1) := by decide +kernel
theorem dX6_isLike_23 : decode cX6_isLike 23 = .ok (.if_icmp .eq 5, 3) := by decide +kernel
theorem dX6_isLike_26 : decode cX6_isLike 26 = .ok (.iconst 0, 1) := by decide +kernel
theorem dX6_isLike_27 : decode cX6_isLike 27 = .ok (.ireturn, 1) := by decide +kernel
theorem dX6_isLike_28 : decode cX6_isLike 28 = .ok (.iconst 0, 1) := by decide +kernel
theorem dX6_isLike_29 : decode cX6_isLike 29 = .ok (.istore_n 2, 1) := by decide +kernel
theorem dX6_isLike_30 : decode cX6_isLike 30 = .ok (.iload_n 2, 1) := by decide +kernel
theorem dX6_isLike_31 : decode cX6_isLike 31 = .ok (.aload_n 0, 1) := by decide +kernel
theorem dX6_isLike_32 : decode cX6_isLike 32 = .ok (.getfield 9, 3) := by decide +kernel
theorem dX6_isLike_35 : decode cX6_isLike 35 = .ok (.arraylength, 1) := by decide +kernel
theorem dX6_isLike_36 : decode cX6_isLike 36 = .ok (.if_icmp .ge 26, 3) := by decide +kernel
theorem dX6_isLike_39 : decode cX6_isLike 39 = .ok (.aload_n 0, 1) := by decide +kernel
theorem dX6_isLike_40 : decode cX6_isLike 40 = .ok (.getfield 9, 3) := by decide +kernel
theorem dX6_isLike_43 : decode cX6_isLike 43 = .ok (.iload_n 2, 1) := by decide +kernel
theorem dX6_isLike_44 : decode cX6_isLike 44 = .ok (.iaload, 1) := by decide +kernel
theorem dX6_isLike_45 : decode cX6_isLike 45 = .ok (.aload_n 1, 1) := by decide +kernel
theorem dX6_isLike_46 : decode cX6_isLike 46 = .ok (.getfield 9, 3) := by decide +kernel
theorem dX6_isLike_49 : decode cX6_isLike 49 = .ok (.iload_n 2, 1) := by decide +kernel
theorem dX6_isLike_50 : decode cX6_isLike 50 = .ok (.iaload, 1) := by decide +kernel
theorem dX6_isLike_51 : decode cX6_isLike 51 = .ok (.if_icmp .eq 5, 3) := by decide +kernel
theorem dX6_isLike_54 : decode cX6_isLike 54 = .ok (.iconst 0, 1) := by decide +kernel
theorem dX6_isLike_55 : decode cX6_isLike 55 = .ok (.ireturn, 1) := by decide +kernel
theorem dX6_isLike_56 : decode cX6_isLike 56 = .ok (.iinc 2 1, 3) := by decide +kernel
theorem dX6_isLike_59 : decode cX6_isLike 59 = .ok (.goto (-29), 3) := by decide +kernel
theorem dX6_isLike_62 : decode cX6_isLike 62 = .ok (.iconst 0, 1) := by decide +kernel
theorem dX6_isLike_63 : decode cX6_isLike 63 = .ok (.istore_n 2, 1) := by decide +kernel
theorem dX6_isLike_64 : decode cX6_isLike 64 = .ok (.iload_n 2, 1) := by decide +kernel
theorem dX6_isLike_65 : decode cX6_isLike 65 = .ok (.aload_n 0, 1) := by decide +kernel
theorem dX6_isLike_66 : decode cX6_isLike 66 = .ok (.getfield 15, 3) := by decide +kernel
theorem dX6_isLike_69 : decode cX6_isLike 69 = .ok (.arraylength, 1) := by decide +kernel
theorem dX6_isLike_70 : decode cX6_isLike 70 = .ok (.if_icmp .ge 26, 3) := by decide +kernel
theorem dX6_isLike_73 : decode cX6_isLike 73 = .ok (.aload_n 0, 1) := by decide +kernel
theorem dX6_isLike_74 : decode cX6_isLike 74 = .ok (.getfield 15, 3) := by decide +kernel
theorem dX6_isLike_77 : decode cX6_isLike 77 = .ok (.iload_n 2, 1) := by decide +kernel
theorem dX6_isLike_78 : decode cX6_isLike 78 = .ok (.iaload, 1) := by decide +kernel
theorem dX6_isLike_79 : decode cX6_isLike 79 = .ok (.aload_n 1, 1) := by decide +kernel
theorem dX6_isLike_80 : decode cX6_isLike 80 = .ok (.getfield 15, 3) := by decide +kernel
theorem dX6_isLike_83 : decode cX6_isLike 83 = .ok (.iload_n 2, 1) := by decide +kernel
theorem dX6_isLike_84 : decode cX6_isLike 84 = .ok (.iaload, 1) := by decide +kernel
theorem dX6_isLike_85 : decode cX6_isLike 85 = .ok (.if_icmp .eq 5, 3) := by decide +kernel
theorem dX6_isLike_88 : decode cX6_isLike 88 = .ok (.iconst 0, 1) := by decide +kernel
theorem dX6_isLike_89 : decode cX6_isLike 89 = .ok (.ireturn, 1) := by decide +kernel
theorem dX6_isLike_90 : decode cX6_isLike 90 = .ok (.iinc 2 1, 3) := by decide +kernel
theorem dX6_isLike_93 : decode cX6_isLike 93 = .ok (.goto (-29), 3) := by decide +kernel
theorem dX6_isLike_96 : decode cX6_isLike 96 = .ok (.iconst 0, 1) := by decide +kernel
theorem dX6_isLike_97 : decode cX6_isLike 97 = .ok (.istore_n 2, 1) := by decide +kernel
theorem dX6_isLike_98 : decode cX6_isLike 98 = .ok (.iload_n 2, 1) := by decide +kernel
theorem dX6_isLike_99 : decode cX6_isLike 99 = .ok (.aload_n 0, 1) := by decide +kernel
theorem dX6_isLike_100 : decode cX6_isLike 100 = .ok (.getfield 20, 3) := by decide +kernel
theorem dX6_isLike_103 : decode cX6_isLike 103 = .ok (.arraylength, 1) := by decide +kernel
theorem dX6_isLike_104 : decode cX6_isLike 104 = .ok (.if_icmp .ge 29, 3) := by decide +kernel
theorem dX6_isLike_107 : decode cX6_isLike 107 = .ok (.aload_n 0, 1) := by decide +kernel
theorem dX6_isLike_108 : decode cX6_isLike 108 = .ok (.getfield 20, 3) := by decide +kernel
theorem dX6_isLike_111 : decode cX6_isLike 111 = .ok (.iload_n 2, 1) := by decide +kernel
theorem dX6_isLike_112 : decode cX6_isLike 112 = .ok (.aaload, 1) := by decide +kernel
theorem dX6_isLike_113 : decode cX6_isLike 113 = .ok (.aload_n 1, 1) := by decide +kernel
theorem dX6_isLike_114 : decode cX6_isLike 114 = .ok (.getfield 20, 3) := by decide +kernel
theorem dX6_isLike_117 : decode cX6_isLike 117 = .ok (.iload_n 2, 1) := by decide +kernel
theorem dX6_isLike_118 : decode cX6_isLike 118 = .ok (.aaload, 1) := by decide +kernel
theorem dX6_isLike_119 : decode cX6_isLike 119 = .ok (.invokestatic 47, 3) := by decide +kernel
theorem dX6_isLike_122 : decode cX6_isLike 122 = .ok (.ifCond .ne 5, 3) := by decide +kernel
theorem dX6_isLike_125 : decode cX6_isLike 125 = .ok (.iconst 0, 1) := by decide +kernel
theorem dX6_isLike_126 : decode cX6_isLike 126 = .ok (.ireturn, 1) := by decide +kernel
theorem dX6_isLike_127 : decode cX6_isLike 127 = .ok (.iinc 2 1, 3) := by decide +kernel
theorem dX6_isLike_130 : decode cX6_isLike 130 = .ok (.goto (-32), 3) := by decide +kernel
theorem dX6_isLike_133 : decode cX6_isLike 133 = .ok (.iconst 1, 1) := by decide +kernel
theorem dX6_isLike_134 : decode cX6_isLike 134 = .ok (.ireturn, 1) := by decide +kernel
set_option maxRecDepth 20000 in
theorem sl_X6_47 : SL RX6 47 mX1_alike 2 := ⟨⟨qc_X1_alike, (gtb_in (List.mem_of_getElem? (i := 930) (by decide +kernel)) (by decide +kernel)), qt_X1_alike, zw_1⟩, qd_X1_alike, by decide⟩
theorem dX1_alike_0 : decode cX1_alike 0 = .ok (.aload_n 0, 1) := by decide +kernel
theorem dX1_alike_1 : decode cX1_alike 1 = .ok (.ifnull 12, 3) := by decide +kernel
theorem dX1_alike_4 : decode cX1_alike 4 = .ok (.aload_n 1, 1) := by decide +kernel
theorem dX1_alike_5 : decode cX1_alike 5 = .ok (.ifnull 8, 3) := by decide +kernel
theorem dX1_alike_8 : decode cX1_alike 8 = .ok (.aload_n 0, 1) := by decide +kernel
theorem dX1_alike_9 : decode cX1_alike 9 = .ok (.aload_n 1, 1) := by decide +kernel
theorem dX1_alike_10 : decode cX1_alike 10 = .ok (.if_acmp .ne 14, 3) := by decide +kernel
theorem dX1_alike_13 : decode cX1_alike 13 = .ok (.aload_n 0, 1) := by decide +kernel
theorem dX1_alike_14 : decode cX1_alike 14 = .ok (.aload_n 1, 1) := by decide +kernel
theorem dX1_alike_15 : decode cX1_alike 15 = .ok (.if_acmp .ne 7, 3) := by decide +kernel
theorem dX1_alike_18 : decode cX1_alike 18 = .ok (.iconst 1, 1) := by decide +kernel
theorem dX1_alike_19 : decode cX1_alike 19 = .ok (.goto 4, 3) := by decide +kernel
theorem dX1_alike_22 : decode cX1_alike 22 = .ok (.iconst 0, 1) := by decide +kernel
theorem dX1_alike_23 : decode cX1_alike 23 = .ok (.ireturn, 1) := by decide +kernel
theorem dX1_alike_24 : decode cX1_alike 24 = .ok (.aload_n 0, 1) := by decide +kernel
theorem dX1_alike_25 : decode cX1_alike 25 = .ok (.getfield 7, 3) := by decide +kernel
theorem dX1_alike_28 : decode cX1_alike 28 = .ok (.aload_n 1, 1) := by decide +kernel
theorem dX1_alike_29 : decode cX1_alike 29 = .ok (.getfield 7, 3) := by decide +kernel
theorem dX1_alike_32 : decode cX1_alike 32 = .ok (.if_icmp .ne 16, 3) := by decide +kernel
theorem dX1_alike_35 : decode cX1_alike 35 = .ok (.aload_n 0, 1) := by decide +kernel
theorem dX1_alike_36 : decode cX1_alike 36 = .ok (.getfield 17, 3) := by decide +kernel
theorem dX1_alike_39 : decode cX1_alike 39 = .ok (.arraylength, 1) := by decide +kernel
theorem dX1_alike_40 : decode cX1_alike 40 = .ok (.aload_n 1, 1) := by decide +kernel
theorem dX1_alike_41 : decode cX1_alike 41 = .ok (.getfield 17, 3) := by decide +kernel
theorem dX1_alike_44 : decode cX1_alike 44 = .ok (.arraylength, 1) := by decide +kernel
theorem dX1_alike_45 : decode cX1_alike 45 = .ok (.if_icmp .eq 5, 3) := by decide +kernel
theorem dX1_alike_48 : decode cX1_alike 48 = .ok (.iconst 0, 1) := by decide +kernel
theorem dX1_alike_49 : decode cX1_alike 49 = .ok (.ireturn, 1) := by decide +kernel
theorem dX1_alike_50 : decode cX1_alike 50 = .ok (.iconst 0, 1) := by decide +kernel
theorem dX1_alike_51 : decode cX1_alike 51 = .ok (.istore_n 2, 1) := by decide +kernel
theorem dX1_alike_52 : decode cX1_alike 52 = .ok (.iload_n 2, 1) := by decide +kernel
theorem dX1_alike_53 : decode cX1_alike 53 = .ok (.aload_n 0, 1) := by decide +kernel
theorem dX1_alike_54 : decode cX1_alike 54 = .ok (.getfield 17, 3) := by decide +kernel
theorem dX1_alike_57 : decode cX1_alike 57 = .ok (.arraylength, 1) := by decide +kernel
theorem dX1_alike_58 : decode cX1_alike 58 = .ok (.if_icmp .ge 29, 3) := by decide +kernel
theorem dX1_alike_61 : decode cX1_alike 61 = .ok (.aload_n 0, 1) := by decide +kernel
theorem dX1_alike_62 : decode cX1_alike 62 = .ok (.getfield 17, 3) := by decide +kernel
theorem dX1_alike_65 : decode cX1_alike 65 = .ok (.iload_n 2, 1) := by decide +kernel
theorem dX1_alike_66 : decode cX1_alike 66 = .ok (.aaload, 1) := by decide +kernel
theorem dX1_alike_67 : decode cX1_alike 67 = .ok (.aload_n 1, 1) := by decide +kernel
theorem dX1_alike_68 : decode cX1_alike 68 = .ok (.getfield 17, 3) := by decide +kernel
theorem dX1_alike_71 : decode cX1_alike 71 = .ok (.iload_n 2, 1) := by decide +kernel
theorem dX1_alike_72 : decode cX1_alike 72 = .ok (.aaload, 1) := by decide +kernel
theorem dX1_alike_73 : decode cX1_alike 73 = .ok (.invokevirtual 21, 3) := by decide +kernel
theorem dX1_alike_76 : decode cX1_alike 76 = .ok (.ifCond .ne 5, 3) := by decide +kernel
theorem dX1_alike_79 : decode cX1_alike 79 = .ok (.iconst 0, 1) := by decide +kernel
theorem dX1_alike_80 : decode cX1_alike 80 = .ok (.ireturn, 1) := by decide +kernel
theorem dX1_alike_81 : decode cX1_alike 81 = .ok (.iinc 2 1, 3) := by decide +kernel
theorem dX1_alike_84 : decode cX1_alike 84 = .ok (.goto (-32), 3) := by decide +kernel
theorem dX1_alike_87 : decode cX1_alike 87 = .ok (.aload_n 0, 1) := by decide +kernel
theorem dX1_alike_88 : decode cX1_alike 88 = .ok (.getfield 13, 3) := by decide +kernel
theorem dX1_alike_91 : decode cX1_alike 91 = .ok (.ifnull 24, 3) := by decide +kernel
theorem dX1_alike_94 : decode cX1_alike 94 = .ok (.aload_n 1, 1) := by decide +kernel
theorem dX1_alike_95 : decode cX1_alike 95 = .ok (.getfield 13, 3) := by decide +kernel
theorem dX1_alike_98 : decode cX1_alike 98 = .ok (.ifnull 17, 3) := by decide +kernel
theorem dX1_alike_101 : decode cX1_alike 101 = .ok (.aload_n 0, 1) := by decide +kernel
theorem dX1_alike_102 : decode cX1_alike 102 = .ok (.getfield 13, 3) := by decide +kernel
theorem dX1_alike_105 : decode cX1_alike 105 = .ok (.aload_n 1, 1) := by decide +kernel
theorem dX1_alike_106 : decode cX1_alike 106 = .ok (.getfield 13, 3) := by decide +kernel
theorem dX1_alike_109 : decode cX1_alike 109 = .ok (.invokevirtual 27, 3) := by decide +kernel
theorem dX1_alike_112 : decode cX1_alike 112 = .ok (.ifCond .ne 7, 3) := by decide +kernel
theorem dX1_alike_115 : decode cX1_alike 115 = .ok (.iconst 1, 1) := by decide +kernel
theorem dX1_alike_116 : decode cX1_alike 116 = .ok (.goto 4, 3) := by decide +kernel
theorem dX1_alike_119 : decode cX1_alike 119 = .ok (.iconst 0, 1) := by decide +kernel
theorem dX1_alike_120 : decode cX1_alike 120 = .ok (.ireturn, 1) := by decide +kernel
set_option maxRecDepth 20000 in
theorem fl_X1_7 : FL RX1 7 1 0 true := ⟨RX1, TX1, cl_1, by decide, (gtb_in (List.mem_of_getElem? (i := 1216) (by decide +kernel)) (by decide +kernel)), rfl⟩
set_option maxRecDepth 20000 in
theorem fl_X1_17 : FL RX1 17 1 2 true := ⟨RX1, TX1, cl_1, by decide, (gtb_in (List.mem_of_getElem? (i := 1223) (by decide +kernel)) (by decide +kernel)), rfl⟩
def mX4_isLike : MI := (yX4_isLike, cX4_isLike, 2, (some .boolean))
theorem qc_X4_isLike : Cond.code mX4_isLike.1 mX4_isLike.2.1 mX4_isLike.2.2.1 mX4_isLike.2.2.2 ∈ gtb := (gtb_in (List.mem_of_getElem? (i := 936) (by decide +kernel)) (by decide +kernel))
theorem qi_X4_isLike : Cond.instanceMethod mX4_isLike.1 ∈ gtb := (gtb_in (List.mem_of_getElem? (i := 934) (by decide +kernel)) (by decide +kernel))
theorem qs_X4_isLike : Cond.selects mX4_isLike.1.cls mX4_isLike.1 mX4_isLike.1 ∈ gtb := (gtb_in (List.mem_of_getElem? (i := 935) (by decide +kernel)) (by decide +kernel))
theorem qd_X4_isLike : dsc mX4_isLike.1 1 := ⟨by decide +kernel, by decide +kernel, by decide +kernel⟩
set_option maxRecDepth 20000 in
theorem vl_X1_21 : VL RX1 21 4 mX4_isLike 1 := ⟨⟨qc_X4_isLike, (gtb_in (List.mem_of_getElem? (i := 933) (by decide +kernel)) (by decide +kernel)), qi_X4_isLike, qs_X4_isLike, zw_4⟩, ⟨_, _, rfl⟩, by decide, qd_X4_isLike, by decide⟩
set_option maxRecDepth 20000 in
theorem fl_X1_13 : FL RX1 13 1 1 true := ⟨RX1, TX1, cl_1, by decide, (gtb_in (List.mem_of_getElem? (i := 1220) (by decide +kernel)) (by decide +kernel)), rfl⟩
def mX8_compared : MI := (yX8_compared, cX8_compared, 3, (some .int))
theorem qc_X8_compared : Cond.code mX8_compared.1 mX8_compared.2.1 mX8_compared.2.2.1 mX8_compared.2.2.2 ∈ gtb := (gtb_in (List.mem_of_getElem? (i := 648) (by decide +kernel)) (by decide +kernel))
theorem qi_X8_compared : Cond.instanceMethod mX8_compared.1 ∈ gtb := (gtb_in (List.mem_of_getElem? (i := 646) (by decide +kernel)) (by decide +kernel))
theorem qs_X8_compared : Cond.selects mX8_compared.1.cls mX8_compared.1 mX8_compared.1 ∈ gtb := (gtb_in (List.mem_of_getElem? (i := 647) (by decide +kernel)) (by decide +kernel))
theorem qd_X8_compared : dsc mX8_compared.1 1 := ⟨by decide +kernel, by decide +kernel, by decide +kernel⟩
set_option maxRecDepth 20000 in
theorem vl_X1_27 : VL RX1 27 8 mX8_compared 1 := ⟨⟨qc_X8_compared, (gtb_in (List.mem_of_getElem? (i := 938) (by decide +kernel)) (by decide +kernel)), qi_X8_compared, qs_X8_compared, zw_8⟩, ⟨_, _, rfl⟩, by decide, qd_X8_compared, by decide⟩
