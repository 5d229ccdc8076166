def mX12_setLine : MI := (yX12_setLine, cX12_setLine, 5, none)
theorem qc_X12_setLine : Cond.code mX12_setLine.1 mX12_setLine.2.1 mX12_setLine.2.2.1 mX12_setLine.2.2.2 ∈ gtb := (gtb_in (List.mem_of_getElem? (i := 2548) (by decide +kernel)) (by decide +kernel))
theorem qi_X12_setLine : Cond.instanceMethod mX12_setLine.1 ∈ gtb := (gtb_in (List.mem_of_getElem? (i := 2547) (by decide +kernel)) (by decide +kernel))
theorem qs_X12_setLine : Cond.selects mX12_setLine.1.cls mX12_setLine.1 mX12_setLine.1 ∈ gtb := (gtb_sel (q := (⟨"SheetBranchesModel", "setLine", "(IIII)V"⟩, 105)) (List.mem_of_getElem? (i := 206) (by decide +kernel)) (by decide +kernel))
theorem qd_X12_setLine : dsc mX12_setLine.1 4 := ⟨by decide +kernel, by decide +kernel, by decide +kernel⟩
def mX12_setLines : MI := (yX12_setLines, cX12_setLines, 4, none)
theorem qc_X12_setLines : Cond.code mX12_setLines.1 mX12_setLines.2.1 mX12_setLines.2.2.1 mX12_setLines.2.2.2 ∈ gtb := (gtb_in (List.mem_of_getElem? (i := 2540) (by decide +kernel)) (by decide +kernel))
theorem qi_X12_setLines : Cond.instanceMethod mX12_setLines.1 ∈ gtb := (gtb_in (List.mem_of_getElem? (i := 2539) (by decide +kernel)) (by decide +kernel))
theorem qs_X12_setLines : Cond.selects mX12_setLines.1.cls mX12_setLines.1 mX12_setLines.1 ∈ gtb := (gtb_sel (q := (⟨"SheetBranchesModel", "setLines", "(III)V"⟩, 105)) (List.mem_of_getElem? (i := 204) (by decide +kernel)) (by decide +kernel))
theorem qd_X12_setLines : dsc mX12_setLines.1 3 := ⟨by decide +kernel, by decide +kernel, by decide +kernel⟩
def mX12_onLine : MI := (yX12_onLine, cX12_onLine, 3, (some .int))
theorem qc_X12_onLine : Cond.code mX12_onLine.1 mX12_onLine.2.1 mX12_onLine.2.2.1 mX12_onLine.2.2.2 ∈ gtb := (gtb_in (List.mem_of_getElem? (i := 2554) (by decide +kernel)) (by decide +kernel))
theorem qt_X12_onLine : Cond.static mX12_onLine.1 ∈ gtb := (gtb_in (List.mem_of_getElem? (i := 2553) (by decide +kernel)) (by decide +kernel))
theorem qd_X12_onLine : dsc mX12_onLine.1 3 := ⟨by decide +kernel, by decide +kernel, by decide +kernel⟩
def mX12_longOf : MI := (yX12_longOf, cX12_longOf, 1, (some .int))
theorem qc_X12_longOf : Cond.code mX12_longOf.1 mX12_longOf.2.1 mX12_longOf.2.2.1 mX12_longOf.2.2.2 ∈ gtb := (gtb_in (List.mem_of_getElem? (i := 2551) (by decide +kernel)) (by decide +kernel))
theorem qt_X12_longOf : Cond.static mX12_longOf.1 ∈ gtb := (gtb_in (List.mem_of_getElem? (i := 2550) (by decide +kernel)) (by decide +kernel))
theorem qd_X12_longOf : dsc mX12_longOf.1 1 := ⟨by decide +kernel, by decide +kernel, by decide +kernel⟩
def mX12_comeLine : MI := (yX12_comeLine, cX12_comeLine, 6, none)
theorem qc_X12_comeLine : Cond.code mX12_comeLine.1 mX12_comeLine.2.1 mX12_comeLine.2.2.1 mX12_comeLine.2.2.2 ∈ gtb := (gtb_in (List.mem_of_getElem? (i := 2544) (by decide +kernel)) (by decide +kernel))
theorem qi_X12_comeLine : Cond.instanceMethod mX12_comeLine.1 ∈ gtb := (gtb_in (List.mem_of_getElem? (i := 2543) (by decide +kernel)) (by decide +kernel))
theorem qs_X12_comeLine : Cond.selects mX12_comeLine.1.cls mX12_comeLine.1 mX12_comeLine.1 ∈ gtb := (gtb_sel (q := (⟨"SheetBranchesModel", "comeLine", "(IIII)V"⟩, 105)) (List.mem_of_getElem? (i := 205) (by decide +kernel)) (by decide +kernel))
theorem qd_X12_comeLine : dsc mX12_comeLine.1 4 := ⟨by decide +kernel, by decide +kernel, by decide +kernel⟩
def mX12_emptyLine : MI := (yX12_emptyLine, cX12_emptyLine, 4, none)
theorem qc_X12_emptyLine : Cond.code mX12_emptyLine.1 mX12_emptyLine.2.1 mX12_emptyLine.2.2.1 mX12_emptyLine.2.2.2 ∈ gtb := (gtb_in (List.mem_of_getElem? (i := 2558) (by decide +kernel)) (by decide +kernel))
theorem qi_X12_emptyLine : Cond.instanceMethod mX12_emptyLine.1 ∈ gtb := (gtb_in (List.mem_of_getElem? (i := 2557) (by decide +kernel)) (by decide +kernel))
theorem qs_X12_emptyLine : Cond.selects mX12_emptyLine.1.cls mX12_emptyLine.1 mX12_emptyLine.1 ∈ gtb := (gtb_sel (q := (⟨"SheetBranchesModel", "emptyLine", "(II)V"⟩, 105)) (List.mem_of_getElem? (i := 207) (by decide +kernel)) (by decide +kernel))
theorem qd_X12_emptyLine : dsc mX12_emptyLine.1 2 := ⟨by decide +kernel, by decide +kernel, by decide +kernel⟩
def mX12_insert : MI := (yX12_insert, cX12_insert, 6, (some .int))
theorem qc_X12_insert : Cond.code mX12_insert.1 mX12_insert.2.1 mX12_insert.2.2.1 mX12_insert.2.2.2 ∈ gtb := (gtb_in (List.mem_of_getElem? (i := 2536) (by decide +kernel)) (by decide +kernel))
theorem qi_X12_insert : Cond.instanceMethod mX12_insert.1 ∈ gtb := (gtb_in (List.mem_of_getElem? (i := 2534) (by decide +kernel)) (by decide +kernel))
theorem qs_X12_insert : Cond.selects mX12_insert.1.cls mX12_insert.1 mX12_insert.1 ∈ gtb := (gtb_in (List.mem_of_getElem? (i := 2535) (by decide +kernel)) (by decide +kernel))
theorem qd_X12_insert : dsc mX12_insert.1 2 := ⟨by decide +kernel, by decide +kernel, by decide +kernel⟩
def mX12_remove : MI := (yX12_remove, cX12_remove, 5, (some .int))
theorem qc_X12_remove : Cond.code mX12_remove.1 mX12_remove.2.1 mX12_remove.2.2.1 mX12_remove.2.2.2 ∈ gtb := (gtb_in (List.mem_of_getElem? (i := 2562) (by decide +kernel)) (by decide +kernel))
theorem qi_X12_remove : Cond.instanceMethod mX12_remove.1 ∈ gtb := (gtb_in (List.mem_of_getElem? (i := 2560) (by decide +kernel)) (by decide +kernel))
theorem qs_X12_remove : Cond.selects mX12_remove.1.cls mX12_remove.1 mX12_remove.1 ∈ gtb := (gtb_in (List.mem_of_getElem? (i := 2561) (by decide +kernel)) (by decide +kernel))
theorem qd_X12_remove : dsc mX12_remove.1 2 := ⟨by decide +kernel, by decide +kernel, by decide +kernel⟩
def mX12_move : MI := (yX12_move, cX12_move, 8, (some .int))
theorem qc_X12_move : Cond.code mX12_move.1 mX12_move.2.1 mX12_move.2.2.1 mX12_move.2.2.2 ∈ gtb := (gtb_in (List.mem_of_getElem? (i := 2570) (by decide +kernel)) (by decide +kernel))
theorem qi_X12_move : Cond.instanceMethod mX12_move.1 ∈ gtb := (gtb_in (List.mem_of_getElem? (i := 2568) (by decide +kernel)) (by decide +kernel))
theorem qs_X12_move : Cond.selects mX12_move.1.cls mX12_move.1 mX12_move.1 ∈ gtb := (gtb_in (List.mem_of_getElem? (i := 2569) (by decide +kernel)) (by decide +kernel))
theorem qd_X12_move : dsc mX12_move.1 3 := ⟨by decide +kernel, by decide +kernel, by decide +kernel⟩
theorem dX12_setLine_0 : decode cX12_setLine 0 = .ok (.iload_n 2, 1) := by decide +kernel
theorem dX12_setLine_1 : decode cX12_setLine 1 = .ok (.ifCond .ne 19, 3) := by decide +kernel
theorem dX12_setLine_4 : decode cX12_setLine 4 = .ok (.aload_n 0, 1) := by decide +kernel
theorem dX12_setLine_5 : decode cX12_setLine 5 = .ok (.getfield 16, 3) := by decide +kernel
theorem dX12_setLine_8 : decode cX12_setLine 8 = .ok (.bipush 32, 2) := by decide +kernel
theorem dX12_setLine_10 : decode cX12_setLine 10 = .ok (.iload_n 1, 1) := by decide +kernel
theorem dX12_setLine_11 : decode cX12_setLine 11 = .ok (.imul, 1) := by decide +kernel
theorem dX12_setLine_12 : decode cX12_setLine 12 = .ok (.iload_n 3, 1) := by decide +kernel
theorem dX12_setLine_13 : decode cX12_setLine 13 = .ok (.iadd, 1) := by decide +kernel
theorem dX12_setLine_14 : decode cX12_setLine 14 = .ok (.iload 4, 2) := by decide +kernel
theorem dX12_setLine_16 : decode cX12_setLine 16 = .ok (.iastore, 1) := by decide +kernel
theorem dX12_setLine_17 : decode cX12_setLine 17 = .ok (.goto 16, 3) := by decide +kernel
theorem dX12_setLine_20 : decode cX12_setLine 20 = .ok (.aload_n 0, 1) := by decide +kernel
theorem dX12_setLine_21 : decode cX12_setLine 21 = .ok (.getfield 19, 3) := by decide +kernel
theorem dX12_setLine_24 : decode cX12_setLine 24 = .ok (.bipush 10, 2) := by decide +kernel
theorem dX12_setLine_26 : decode cX12_setLine 26 = .ok (.iload_n 1, 1) := by decide +kernel
theorem dX12_setLine_27 : decode cX12_setLine 27 = .ok (.imul, 1) := by decide +kernel
theorem dX12_setLine_28 : decode cX12_setLine 28 = .ok (.iload_n 3, 1) := by decide +kernel
theorem dX12_setLine_29 : decode cX12_setLine 29 = .ok (.iadd, 1) := by decide +kernel
theorem dX12_setLine_30 : decode cX12_setLine 30 = .ok (.iload 4, 2) := by decide +kernel
theorem dX12_setLine_32 : decode cX12_setLine 32 = .ok (.iastore, 1) := by decide +kernel
theorem dX12_setLine_33 : decode cX12_setLine 33 = .ok (.return_, 1) := by decide +kernel
theorem dX12_setLines_0 : decode cX12_setLines 0 = .ok (.iload_n 2, 1) := by decide +kernel
theorem dX12_setLines_1 : decode cX12_setLines 1 = .ok (.ifCond .ne 13, 3) := by decide +kernel
theorem dX12_setLines_4 : decode cX12_setLines 4 = .ok (.aload_n 0, 1) := by decide +kernel
theorem dX12_setLines_5 : decode cX12_setLines 5 = .ok (.getfield 7, 3) := by decide +kernel
theorem dX12_setLines_8 : decode cX12_setLines 8 = .ok (.iload_n 1, 1) := by decide +kernel
theorem dX12_setLines_9 : decode cX12_setLines 9 = .ok (.iload_n 3, 1) := by decide +kernel
theorem dX12_setLines_10 : decode cX12_setLines 10 = .ok (.iastore, 1) := by decide +kernel
theorem dX12_setLines_11 : decode cX12_setLines 11 = .ok (.goto 10, 3) := by decide +kernel
theorem dX12_setLines_14 : decode cX12_setLines 14 = .ok (.aload_n 0, 1) := by decide +kernel
theorem dX12_setLines_15 : decode cX12_setLines 15 = .ok (.getfield 13, 3) := by decide +kernel
theorem dX12_setLines_18 : decode cX12_setLines 18 = .ok (.iload_n 1, 1) := by decide +kernel
theorem dX12_setLines_19 : decode cX12_setLines 19 = .ok (.iload_n 3, 1) := by decide +kernel
theorem dX12_setLines_20 : decode cX12_setLines 20 = .ok (.iastore, 1) := by decide +kernel
theorem dX12_setLines_21 : decode cX12_setLines 21 = .ok (.return_, 1) := by decide +kernel
theorem dX12_onLine_0 : decode cX12_onLine 0 = .ok (.iload_n 0, 1) := by decide +kernel
theorem dX12_onLine_1 : decode cX12_onLine 1 = .ok (.ifCond .ne 12, 3) := by decide +kernel
theorem dX12_onLine_4 : decode cX12_onLine 4 = .ok (.bipush 10, 2) := by decide +kernel
theorem dX12_onLine_6 : decode cX12_onLine 6 = .ok (.iload_n 1, 1) := by decide +kernel
theorem dX12_onLine_7 : decode cX12_onLine 7 = .ok (.imul, 1) := by decide +kernel
theorem dX12_onLine_8 : decode cX12_onLine 8 = .ok (.iload_n 2, 1) := by decide +kernel
theorem dX12_onLine_9 : decode cX12_onLine 9 = .ok (.iadd, 1) := by decide +kernel
theorem dX12_onLine_10 : decode cX12_onLine 10 = .ok (.goto 9, 3) := by decide +kernel
theorem dX12_onLine_13 : decode cX12_onLine 13 = .ok (.bipush 10, 2) := by decide +kernel
theorem dX12_onLine_15 : decode cX12_onLine 15 = .ok (.iload_n 2, 1) := by decide +kernel
theorem dX12_onLine_16 : decode cX12_onLine 16 = .ok (.imul, 1) := by decide +kernel
theorem dX12_onLine_17 : decode cX12_onLine 17 = .ok (.iload_n 1, 1) := by decide +kernel
theorem dX12_onLine_18 : decode cX12_onLine 18 = .ok (.iadd, 1) := by decide +kernel
theorem dX12_onLine_19 : decode cX12_onLine 19 = .ok (.ireturn, 1) := by decide +kernel
theorem dX12_longOf_0 : decode cX12_longOf 0 = .ok (.iload_n 0, 1) := by decide +kernel
theorem dX12_longOf_1 : decode cX12_longOf 1 = .ok (.ifCond .ne 8, 3) := by decide +kernel
theorem dX12_longOf_4 : decode cX12_longOf 4 = .ok (.bipush 10, 2) := by decide +kernel
theorem dX12_longOf_6 : decode cX12_longOf 6 = .ok (.goto 5, 3) := by decide +kernel
theorem dX12_longOf_9 : decode cX12_longOf 9 = .ok (.bipush 32, 2) := by decide +kernel
theorem dX12_longOf_11 : decode cX12_longOf 11 = .ok (.ireturn, 1) := by decide +kernel
theorem dX12_comeLine_0 : decode cX12_comeLine 0 = .ok (.aload_n 0, 1) := by decide +kernel
theorem dX12_comeLine_1 : decode cX12_comeLine 1 = .ok (.bipush 40, 2) := by decide +kernel
theorem dX12_comeLine_3 : decode cX12_comeLine 3 = .ok (.iload_n 1, 1) := by decide +kernel
theorem dX12_comeLine_4 : decode cX12_comeLine 4 = .ok (.iload 4, 2) := by decide +kernel
theorem dX12_comeLine_6 : decode cX12_comeLine 6 = .ok (.aload_n 0, 1) := by decide +kernel
theorem dX12_comeLine_7 : decode cX12_comeLine 7 = .ok (.iload_n 3, 1) := by decide +kernel
theorem dX12_comeLine_8 : decode cX12_comeLine 8 = .ok (.iload_n 1, 1) := by decide +kernel
theorem dX12_comeLine_9 : decode cX12_comeLine 9 = .ok (.iload_n 2, 1) := by decide +kernel
theorem dX12_comeLine_10 : decode cX12_comeLine 10 = .ok (.invokevirtual 213, 3) := by decide +kernel
theorem dX12_comeLine_13 : decode cX12_comeLine 13 = .ok (.invokevirtual 818, 3) := by decide +kernel
theorem dX12_comeLine_16 : decode cX12_comeLine 16 = .ok (.iconst 0, 1) := by decide +kernel
theorem dX12_comeLine_17 : decode cX12_comeLine 17 = .ok (.istore 5, 2) := by decide +kernel
theorem dX12_comeLine_19 : decode cX12_comeLine 19 = .ok (.iload 5, 2) := by decide +kernel
theorem dX12_comeLine_21 : decode cX12_comeLine 21 = .ok (.iload_n 1, 1) := by decide +kernel
theorem dX12_comeLine_22 : decode cX12_comeLine 22 = .ok (.invokestatic 822, 3) := by decide +kernel
theorem dX12_comeLine_25 : decode cX12_comeLine 25 = .ok (.if_icmp .ge 44, 3) := by decide +kernel
theorem dX12_comeLine_28 : decode cX12_comeLine 28 = .ok (.aload_n 0, 1) := by decide +kernel
theorem dX12_comeLine_29 : decode cX12_comeLine 29 = .ok (.getfield 23, 3) := by decide +kernel
theorem dX12_comeLine_32 : decode cX12_comeLine 32 = .ok (.sipush 12800, 3) := by decide +kernel
theorem dX12_comeLine_35 : decode cX12_comeLine 35 = .ok (.iload_n 1, 1) := by decide +kernel
theorem dX12_comeLine_36 : decode cX12_comeLine 36 = .ok (.iload 4, 2) := by decide +kernel
theorem dX12_comeLine_38 : decode cX12_comeLine 38 = .ok (.iload 5, 2) := by decide +kernel
theorem dX12_comeLine_40 : decode cX12_comeLine 40 = .ok (.invokestatic 825, 3) := by decide +kernel
theorem dX12_comeLine_43 : decode cX12_comeLine 43 = .ok (.iadd, 1) := by decide +kernel
theorem dX12_comeLine_44 : decode cX12_comeLine 44 = .ok (.aload_n 0, 1) := by decide +kernel
theorem dX12_comeLine_45 : decode cX12_comeLine 45 = .ok (.getfield 23, 3) := by decide +kernel
theorem dX12_comeLine_48 : decode cX12_comeLine 48 = .ok (.sipush 320, 3) := by decide +kernel
theorem dX12_comeLine_51 : decode cX12_comeLine 51 = .ok (.iload_n 3, 1) := by decide +kernel
theorem dX12_comeLine_52 : decode cX12_comeLine 52 = .ok (.imul, 1) := by decide +kernel
theorem dX12_comeLine_53 : decode cX12_comeLine 53 = .ok (.iload_n 1, 1) := by decide +kernel
theorem dX12_comeLine_54 : decode cX12_comeLine 54 = .ok (.iload_n 2, 1) := by decide +kernel
theorem dX12_comeLine_55 : decode cX12_comeLine 55 = .ok (.iload 5, 2) := by decide +kernel
theorem dX12_comeLine_57 : decode cX12_comeLine 57 = .ok (.invokestatic 825, 3) := by decide +kernel
theorem dX12_comeLine_60 : decode cX12_comeLine 60 = .ok (.iadd, 1) := by decide +kernel
theorem dX12_comeLine_61 : decode cX12_comeLine 61 = .ok (.iaload, 1) := by decide +kernel
theorem dX12_comeLine_62 : decode cX12_comeLine 62 = .ok (.iastore, 1) := by decide +kernel
theorem dX12_comeLine_63 : decode cX12_comeLine 63 = .ok (.iinc 5 1, 3) := by decide +kernel
theorem dX12_comeLine_66 : decode cX12_comeLine 66 = .ok (.goto (-47), 3) := by decide +kernel
theorem dX12_comeLine_69 : decode cX12_comeLine 69 = .ok (.return_, 1) := by decide +kernel
set_option maxRecDepth 20000 in
theorem vl_X12_818 : VL RX12 818 12 mX12_setLine 4 := ⟨⟨qc_X12_setLine, (gtb_in (List.mem_of_getElem? (i := 2545) (by decide +kernel)) (by decide +kernel)), qi_X12_setLine, qs_X12_setLine, zw_12⟩, ⟨_, _, rfl⟩, by decide, qd_X12_setLine, by decide⟩
set_option maxRecDepth 20000 in
theorem sl_X12_822 : SL RX12 822 mX12_longOf 1 := ⟨⟨qc_X12_longOf, (gtb_in (List.mem_of_getElem? (i := 2549) (by decide +kernel)) (by decide +kernel)), qt_X12_longOf, zw_12⟩, qd_X12_longOf, by decide⟩
set_option maxRecDepth 20000 in
theorem sl_X12_825 : SL RX12 825 mX12_onLine 3 := ⟨⟨qc_X12_onLine, (gtb_in (List.mem_of_getElem? (i := 2552) (by decide +kernel)) (by decide +kernel)), qt_X12_onLine, zw_12⟩, qd_X12_onLine, by decide⟩
theorem dX12_emptyLine_0 : decode cX12_emptyLine 0 = .ok (.iconst 0, 1) := by decide +kernel
theorem dX12_emptyLine_1 : decode cX12_emptyLine 1 = .ok (.istore_n 3, 1) := by decide +kernel
theorem dX12_emptyLine_2 : decode cX12_emptyLine 2 = .ok (.iload_n 3, 1) := by decide +kernel
theorem dX12_emptyLine_3 : decode cX12_emptyLine 3 = .ok (.iload_n 1, 1) := by decide +kernel
theorem dX12_emptyLine_4 : decode cX12_emptyLine 4 = .ok (.invokestatic 822, 3) := by decide +kernel
theorem dX12_emptyLine_7 : decode cX12_emptyLine 7 = .ok (.if_icmp .ge 25, 3) := by decide +kernel
theorem dX12_emptyLine_10 : decode cX12_emptyLine 10 = .ok (.aload_n 0, 1) := by decide +kernel
theorem dX12_emptyLine_11 : decode cX12_emptyLine 11 = .ok (.getfield 23, 3) := by decide +kernel
theorem dX12_emptyLine_14 : decode cX12_emptyLine 14 = .ok (.sipush 12800, 3) := by decide +kernel
theorem dX12_emptyLine_17 : decode cX12_emptyLine 17 = .ok (.iload_n 1, 1) := by decide +kernel
theorem dX12_emptyLine_18 : decode cX12_emptyLine 18 = .ok (.iload_n 2, 1) := by decide +kernel
theorem dX12_emptyLine_19 : decode cX12_emptyLine 19 = .ok (.iload_n 3, 1) := by decide +kernel
theorem dX12_emptyLine_20 : decode cX12_emptyLine 20 = .ok (.invokestatic 825, 3) := by decide +kernel
theorem dX12_emptyLine_23 : decode cX12_emptyLine 23 = .ok (.iadd, 1) := by decide +kernel
theorem dX12_emptyLine_24 : decode cX12_emptyLine 24 = .ok (.iconst 0, 1) := by decide +kernel
theorem dX12_emptyLine_25 : decode cX12_emptyLine 25 = .ok (.iastore, 1) := by decide +kernel
theorem dX12_emptyLine_26 : decode cX12_emptyLine 26 = .ok (.iinc 3 1, 3) := by decide +kernel
theorem dX12_emptyLine_29 : decode cX12_emptyLine 29 = .ok (.goto (-27), 3) := by decide +kernel
theorem dX12_emptyLine_32 : decode cX12_emptyLine 32 = .ok (.return_, 1) := by decide +kernel
theorem dX12_insert_0 : decode cX12_insert 0 = .ok (.aload_n 0, 1) := by decide +kernel
theorem dX12_insert_1 : decode cX12_insert 1 = .ok (.iconst 0, 1) := by decide +kernel
theorem dX12_insert_2 : decode cX12_insert 2 = .ok (.putfield 202, 3) := by decide +kernel
theorem dX12_insert_5 : decode cX12_insert 5 = .ok (.iload_n 1, 1) := by decide +kernel
theorem dX12_insert_6 : decode cX12_insert 6 = .ok (.iconst 0, 1) := by decide +kernel
theorem dX12_insert_7 : decode cX12_insert 7 = .ok (.iconst 1, 1) := by decide +kernel
theorem dX12_insert_8 : decode cX12_insert 8 = .ok (.invokestatic 220, 3) := by decide +kernel
theorem dX12_insert_11 : decode cX12_insert 11 = .ok (.ifCond .ne 9, 3) := by decide +kernel
theorem dX12_insert_14 : decode cX12_insert 14 = .ok (.aload_n 0, 1) := by decide +kernel
theorem dX12_insert_15 : decode cX12_insert 15 = .ok (.iconst 1, 1) := by decide +kernel
theorem dX12_insert_16 : decode cX12_insert 16 = .ok (.invokevirtual 237, 3) := by decide +kernel
theorem dX12_insert_19 : decode cX12_insert 19 = .ok (.ireturn, 1) := by decide +kernel
theorem dX12_insert_20 : decode cX12_insert 20 = .ok (.aload_n 0, 1) := by decide +kernel
theorem dX12_insert_21 : decode cX12_insert 21 = .ok (.bipush 40, 2) := by decide +kernel
theorem dX12_insert_23 : decode cX12_insert 23 = .ok (.iload_n 1, 1) := by decide +kernel
theorem dX12_insert_24 : decode cX12_insert 24 = .ok (.invokevirtual 209, 3) := by decide +kernel
theorem dX12_insert_27 : decode cX12_insert 27 = .ok (.istore_n 3, 1) := by decide +kernel
theorem dX12_insert_28 : decode cX12_insert 28 = .ok (.iload_n 2, 1) := by decide +kernel
theorem dX12_insert_29 : decode cX12_insert 29 = .ok (.iconst 1, 1) := by decide +kernel
theorem dX12_insert_30 : decode cX12_insert 30 = .ok (.iload_n 3, 1) := by decide +kernel
theorem dX12_insert_31 : decode cX12_insert 31 = .ok (.iconst 1, 1) := by decide +kernel
theorem dX12_insert_32 : decode cX12_insert 32 = .ok (.iadd, 1) := by decide +kernel
theorem dX12_insert_33 : decode cX12_insert 33 = .ok (.invokestatic 220, 3) := by decide +kernel
theorem dX12_insert_36 : decode cX12_insert 36 = .ok (.ifCond .ne 9, 3) := by decide +kernel
theorem dX12_insert_39 : decode cX12_insert 39 = .ok (.aload_n 0, 1) := by decide +kernel
theorem dX12_insert_40 : decode cX12_insert 40 = .ok (.iconst 2, 1) := by decide +kernel
theorem dX12_insert_41 : decode cX12_insert 41 = .ok (.invokevirtual 237, 3) := by decide +kernel
theorem dX12_insert_44 : decode cX12_insert 44 = .ok (.ireturn, 1) := by decide +kernel
theorem dX12_insert_45 : decode cX12_insert 45 = .ok (.iload_n 3, 1) := by decide +kernel
theorem dX12_insert_46 : decode cX12_insert 46 = .ok (.iload_n 1, 1) := by decide +kernel
theorem dX12_insert_47 : decode cX12_insert 47 = .ok (.ifCond .ne 8, 3) := by decide +kernel
theorem dX12_insert_50 : decode cX12_insert 50 = .ok (.bipush 32, 2) := by decide +kernel
theorem dX12_insert_52 : decode cX12_insert 52 = .ok (.goto 5, 3) := by decide +kernel
theorem dX12_insert_55 : decode cX12_insert 55 = .ok (.bipush 10, 2) := by decide +kernel
theorem dX12_insert_57 : decode cX12_insert 57 = .ok (.if_icmp .ne 9, 3) := by decide +kernel
theorem dX12_insert_60 : decode cX12_insert 60 = .ok (.aload_n 0, 1) := by decide +kernel
theorem dX12_insert_61 : decode cX12_insert 61 = .ok (.iconst 3, 1) := by decide +kernel
theorem dX12_insert_62 : decode cX12_insert 62 = .ok (.invokevirtual 237, 3) := by decide +kernel
theorem dX12_insert_65 : decode cX12_insert 65 = .ok (.ireturn, 1) := by decide +kernel
theorem dX12_insert_66 : decode cX12_insert 66 = .ok (.aload_n 0, 1) := by decide +kernel
theorem dX12_insert_67 : decode cX12_insert 67 = .ok (.invokevirtual 340, 3) := by decide +kernel
theorem dX12_insert_70 : decode cX12_insert 70 = .ok (.istore 4, 2) := by decide +kernel
theorem dX12_insert_72 : decode cX12_insert 72 = .ok (.aload_n 0, 1) := by decide +kernel
theorem dX12_insert_73 : decode cX12_insert 73 = .ok (.bipush 40, 2) := by decide +kernel
theorem dX12_insert_75 : decode cX12_insert 75 = .ok (.iload_n 1, 1) := by decide +kernel
theorem dX12_insert_76 : decode cX12_insert 76 = .ok (.iload_n 3, 1) := by decide +kernel
theorem dX12_insert_77 : decode cX12_insert 77 = .ok (.iconst 1, 1) := by decide +kernel
theorem dX12_insert_78 : decode cX12_insert 78 = .ok (.iadd, 1) := by decide +kernel
theorem dX12_insert_79 : decode cX12_insert 79 = .ok (.invokevirtual 828, 3) := by decide +kernel
theorem dX12_insert_82 : decode cX12_insert 82 = .ok (.iload_n 2, 1) := by decide +kernel
theorem dX12_insert_83 : decode cX12_insert 83 = .ok (.istore 5, 2) := by decide +kernel
theorem dX12_insert_85 : decode cX12_insert 85 = .ok (.iload 5, 2) := by decide +kernel
theorem dX12_insert_87 : decode cX12_insert 87 = .ok (.iload_n 3, 1) := by decide +kernel
theorem dX12_insert_88 : decode cX12_insert 88 = .ok (.if_icmp .gt 22, 3) := by decide +kernel
theorem dX12_insert_91 : decode cX12_insert 91 = .ok (.aload_n 0, 1) := by decide +kernel
theorem dX12_insert_92 : decode cX12_insert 92 = .ok (.iload_n 1, 1) := by decide +kernel
theorem dX12_insert_93 : decode cX12_insert 93 = .ok (.iload 5, 2) := by decide +kernel
theorem dX12_insert_95 : decode cX12_insert 95 = .ok (.iconst 1, 1) := by decide +kernel
theorem dX12_insert_96 : decode cX12_insert 96 = .ok (.isub, 1) := by decide +kernel
theorem dX12_insert_97 : decode cX12_insert 97 = .ok (.iload 4, 2) := by decide +kernel
theorem dX12_insert_99 : decode cX12_insert 99 = .ok (.iload 5, 2) := by decide +kernel
theorem dX12_insert_101 : decode cX12_insert 101 = .ok (.invokevirtual 831, 3) := by decide +kernel
theorem dX12_insert_104 : decode cX12_insert 104 = .ok (.iinc 5 1, 3) := by decide +kernel
theorem dX12_insert_107 : decode cX12_insert 107 = .ok (.goto (-22), 3) := by decide +kernel
theorem dX12_insert_110 : decode cX12_insert 110 = .ok (.aload_n 0, 1) := by decide +kernel
theorem dX12_insert_111 : decode cX12_insert 111 = .ok (.iload_n 1, 1) := by decide +kernel
theorem dX12_insert_112 : decode cX12_insert 112 = .ok (.iload_n 2, 1) := by decide +kernel
theorem dX12_insert_113 : decode cX12_insert 113 = .ok (.iconst 1, 1) := by decide +kernel
theorem dX12_insert_114 : decode cX12_insert 114 = .ok (.isub, 1) := by decide +kernel
theorem dX12_insert_115 : decode cX12_insert 115 = .ok (.invokevirtual 834, 3) := by decide +kernel
theorem dX12_insert_118 : decode cX12_insert 118 = .ok (.aload_n 0, 1) := by decide +kernel
theorem dX12_insert_119 : decode cX12_insert 119 = .ok (.bipush 40, 2) := by decide +kernel
theorem dX12_insert_121 : decode cX12_insert 121 = .ok (.iload_n 1, 1) := by decide +kernel
theorem dX12_insert_122 : decode cX12_insert 122 = .ok (.iload_n 2, 1) := by decide +kernel
theorem dX12_insert_123 : decode cX12_insert 123 = .ok (.iconst 1, 1) := by decide +kernel
theorem dX12_insert_124 : decode cX12_insert 124 = .ok (.isub, 1) := by decide +kernel
theorem dX12_insert_125 : decode cX12_insert 125 = .ok (.iload_n 1, 1) := by decide +kernel
theorem dX12_insert_126 : decode cX12_insert 126 = .ok (.ifCond .ne 10, 3) := by decide +kernel
theorem dX12_insert_129 : decode cX12_insert 129 = .ok (.aload_n 0, 1) := by decide +kernel
theorem dX12_insert_130 : decode cX12_insert 130 = .ok (.getfield 26, 3) := by decide +kernel
theorem dX12_insert_133 : decode cX12_insert 133 = .ok (.goto 7, 3) := by decide +kernel
theorem dX12_insert_136 : decode cX12_insert 136 = .ok (.aload_n 0, 1) := by decide +kernel
theorem dX12_insert_137 : decode cX12_insert 137 = .ok (.getfield 30, 3) := by decide +kernel
theorem dX12_insert_140 : decode cX12_insert 140 = .ok (.invokevirtual 818, 3) := by decide +kernel
theorem dX12_insert_143 : decode cX12_insert 143 = .ok (.iload_n 1, 1) := by decide +kernel
theorem dX12_insert_144 : decode cX12_insert 144 = .ok (.ifCond .ne 16, 3) := by decide +kernel
theorem dX12_insert_147 : decode cX12_insert 147 = .ok (.aload_n 0, 1) := by decide +kernel
theorem dX12_insert_148 : decode cX12_insert 148 = .ok (.dup, 1) := by decide +kernel
theorem dX12_insert_149 : decode cX12_insert 149 = .ok (.getfield 26, 3) := by decide +kernel
theorem dX12_insert_152 : decode cX12_insert 152 = .ok (.iconst 1, 1) := by decide +kernel
theorem dX12_insert_153 : decode cX12_insert 153 = .ok (.iadd, 1) := by decide +kernel
theorem dX12_insert_154 : decode cX12_insert 154 = .ok (.putfield 26, 3) := by decide +kernel
theorem dX12_insert_157 : decode cX12_insert 157 = .ok (.goto 13, 3) := by decide +kernel
theorem dX12_insert_160 : decode cX12_insert 160 = .ok (.aload_n 0, 1) := by decide +kernel
theorem dX12_insert_161 : decode cX12_insert 161 = .ok (.dup, 1) := by decide +kernel
theorem dX12_insert_162 : decode cX12_insert 162 = .ok (.getfield 30, 3) := by decide +kernel
theorem dX12_insert_165 : decode cX12_insert 165 = .ok (.iconst 1, 1) := by decide +kernel
theorem dX12_insert_166 : decode cX12_insert 166 = .ok (.iadd, 1) := by decide +kernel
theorem dX12_insert_167 : decode cX12_insert 167 = .ok (.putfield 30, 3) := by decide +kernel
theorem dX12_insert_170 : decode cX12_insert 170 = .ok (.iload_n 3, 1) := by decide +kernel
theorem dX12_insert_171 : decode cX12_insert 171 = .ok (.iconst 1, 1) := by decide +kernel
theorem dX12_insert_172 : decode cX12_insert 172 = .ok (.iadd, 1) := by decide +kernel
theorem dX12_insert_173 : decode cX12_insert 173 = .ok (.ireturn, 1) := by decide +kernel
set_option maxRecDepth 20000 in
theorem vl_X12_828 : VL RX12 828 12 mX12_setLines 3 := ⟨⟨qc_X12_setLines, (gtb_in (List.mem_of_getElem? (i := 2537) (by decide +kernel)) (by decide +kernel)), qi_X12_setLines, qs_X12_setLines, zw_12⟩, ⟨_, _, rfl⟩, by decide, qd_X12_setLines, by decide⟩
set_option maxRecDepth 20000 in
theorem vl_X12_831 : VL RX12 831 12 mX12_comeLine 4 := ⟨⟨qc_X12_comeLine, (gtb_in (List.mem_of_getElem? (i := 2541) (by decide +kernel)) (by decide +kernel)), qi_X12_comeLine, qs_X12_comeLine, zw_12⟩, ⟨_, _, rfl⟩, by decide, qd_X12_comeLine, by decide⟩
set_option maxRecDepth 20000 in
theorem vl_X12_834 : VL RX12 834 12 mX12_emptyLine 2 := ⟨⟨qc_X12_emptyLine, (gtb_in (List.mem_of_getElem? (i := 2555) (by decide +kernel)) (by decide +kernel)), qi_X12_emptyLine, qs_X12_emptyLine, zw_12⟩, ⟨_, _, rfl⟩, by decide, qd_X12_emptyLine, by decide⟩
set_option maxRecDepth 20000 in
theorem fl_X12_26 : FL RX12 26 12 6 false := ⟨RX12, TX12, cl_12, by decide, (gtb_in (List.mem_of_getElem? (i := 1651) (by decide +kernel)) (by decide +kernel)), rfl⟩
set_option maxRecDepth 20000 in
theorem fl_X12_30 : FL RX12 30 12 7 false := ⟨RX12, TX12, cl_12, by decide, (gtb_in (List.mem_of_getElem? (i := 1652) (by decide +kernel)) (by decide +kernel)), rfl⟩
theorem dX12_goLine_0 : decode cX12_goLine 0 = .ok (.aload_n 0, 1) := by decide +kernel
theorem dX12_goLine_1 : decode cX12_goLine 1 = .ok (.bipush 40, 2) := by decide +kernel
theorem dX12_goLine_3 : decode cX12_goLine 3 = .ok (.iload_n 1, 1) := by decide +kernel
theorem dX12_goLine_4 : decode cX12_goLine 4 = .ok (.invokevirtual 209, 3) := by decide +kernel
theorem dX12_goLine_7 : decode cX12_goLine 7 = .ok (.istore 4, 2) := by decide +kernel
theorem dX12_goLine_9 : decode cX12_goLine 9 = .ok (.iload_n 2, 1) := by decide +kernel
theorem dX12_goLine_10 : decode cX12_goLine 10 = .ok (.istore 5, 2) := by decide +kernel
theorem dX12_goLine_12 : decode cX12_goLine 12 = .ok (.iload 5, 2) := by decide +kernel
theorem dX12_goLine_14 : decode cX12_goLine 14 = .ok (.iload 4, 2) := by decide +kernel
theorem dX12_goLine_16 : decode cX12_goLine 16 = .ok (.if_icmp .ge 21, 3) := by decide +kernel
theorem dX12_goLine_19 : decode cX12_goLine 19 = .ok (.aload_n 0, 1) := by decide +kernel
theorem dX12_goLine_20 : decode cX12_goLine 20 = .ok (.iload_n 1, 1) := by decide +kernel
theorem dX12_goLine_21 : decode cX12_goLine 21 = .ok (.iload 5, 2) := by decide +kernel
theorem dX12_goLine_23 : decode cX12_goLine 23 = .ok (.iload_n 3, 1) := by decide +kernel
theorem dX12_goLine_24 : decode cX12_goLine 24 = .ok (.iload 5, 2) := by decide +kernel
theorem dX12_goLine_26 : decode cX12_goLine 26 = .ok (.iconst 1, 1) := by decide +kernel
theorem dX12_goLine_27 : decode cX12_goLine 27 = .ok (.isub, 1) := by decide +kernel
theorem dX12_goLine_28 : decode cX12_goLine 28 = .ok (.invokevirtual 831, 3) := by decide +kernel
theorem dX12_goLine_31 : decode cX12_goLine 31 = .ok (.iinc 5 1, 3) := by decide +kernel
theorem dX12_goLine_34 : decode cX12_goLine 34 = .ok (.goto (-22), 3) := by decide +kernel
theorem dX12_goLine_37 : decode cX12_goLine 37 = .ok (.aload_n 0, 1) := by decide +kernel
theorem dX12_goLine_38 : decode cX12_goLine 38 = .ok (.iload_n 1, 1) := by decide +kernel
theorem dX12_goLine_39 : decode cX12_goLine 39 = .ok (.iload 4, 2) := by decide +kernel
theorem dX12_goLine_41 : decode cX12_goLine 41 = .ok (.iconst 1, 1) := by decide +kernel
theorem dX12_goLine_42 : decode cX12_goLine 42 = .ok (.isub, 1) := by decide +kernel
theorem dX12_goLine_43 : decode cX12_goLine 43 = .ok (.invokevirtual 834, 3) := by decide +kernel
theorem dX12_goLine_46 : decode cX12_goLine 46 = .ok (.aload_n 0, 1) := by decide +kernel
theorem dX12_goLine_47 : decode cX12_goLine 47 = .ok (.bipush 40, 2) := by decide +kernel
theorem dX12_goLine_49 : decode cX12_goLine 49 = .ok (.iload_n 1, 1) := by decide +kernel
theorem dX12_goLine_50 : decode cX12_goLine 50 = .ok (.iload 4, 2) := by decide +kernel
theorem dX12_goLine_52 : decode cX12_goLine 52 = .ok (.iconst 1, 1) := by decide +kernel
theorem dX12_goLine_53 : decode cX12_goLine 53 = .ok (.isub, 1) := by decide +kernel
theorem dX12_goLine_54 : decode cX12_goLine 54 = .ok (.invokevirtual 828, 3) := by decide +kernel
theorem dX12_goLine_57 : decode cX12_goLine 57 = .ok (.return_, 1) := by decide +kernel
theorem dX12_remove_0 : decode cX12_remove 0 = .ok (.aload_n 0, 1) := by decide +kernel
theorem dX12_remove_1 : decode cX12_remove 1 = .ok (.iconst 0, 1) := by decide +kernel
theorem dX12_remove_2 : decode cX12_remove 2 = .ok (.putfield 202, 3) := by decide +kernel
theorem dX12_remove_5 : decode cX12_remove 5 = .ok (.iload_n 1, 1) := by decide +kernel
theorem dX12_remove_6 : decode cX12_remove 6 = .ok (.iconst 0, 1) := by decide +kernel
theorem dX12_remove_7 : decode cX12_remove 7 = .ok (.iconst 1, 1) := by decide +kernel
theorem dX12_remove_8 : decode cX12_remove 8 = .ok (.invokestatic 220, 3) := by decide +kernel
theorem dX12_remove_11 : decode cX12_remove 11 = .ok (.ifCond .ne 9, 3) := by decide +kernel
theorem dX12_remove_14 : decode cX12_remove 14 = .ok (.aload_n 0, 1) := by decide +kernel
theorem dX12_remove_15 : decode cX12_remove 15 = .ok (.iconst 1, 1) := by decide +kernel
theorem dX12_remove_16 : decode cX12_remove 16 = .ok (.invokevirtual 237, 3) := by decide +kernel
theorem dX12_remove_19 : decode cX12_remove 19 = .ok (.ireturn, 1) := by decide +kernel
theorem dX12_remove_20 : decode cX12_remove 20 = .ok (.aload_n 0, 1) := by decide +kernel
theorem dX12_remove_21 : decode cX12_remove 21 = .ok (.bipush 40, 2) := by decide +kernel
theorem dX12_remove_23 : decode cX12_remove 23 = .ok (.iload_n 1, 1) := by decide +kernel
theorem dX12_remove_24 : decode cX12_remove 24 = .ok (.invokevirtual 209, 3) := by decide +kernel
theorem dX12_remove_27 : decode cX12_remove 27 = .ok (.istore_n 3, 1) := by decide +kernel
theorem dX12_remove_28 : decode cX12_remove 28 = .ok (.iload_n 2, 1) := by decide +kernel
theorem dX12_remove_29 : decode cX12_remove 29 = .ok (.iconst 1, 1) := by decide +kernel
theorem dX12_remove_30 : decode cX12_remove 30 = .ok (.iload_n 3, 1) := by decide +kernel
theorem dX12_remove_31 : decode cX12_remove 31 = .ok (.invokestatic 220, 3) := by decide +kernel
theorem dX12_remove_34 : decode cX12_remove 34 = .ok (.ifCond .ne 9, 3) := by decide +kernel
theorem dX12_remove_37 : decode cX12_remove 37 = .ok (.aload_n 0, 1) := by decide +kernel
theorem dX12_remove_38 : decode cX12_remove 38 = .ok (.iconst 2, 1) := by decide +kernel
theorem dX12_remove_39 : decode cX12_remove 39 = .ok (.invokevirtual 237, 3) := by decide +kernel
theorem dX12_remove_42 : decode cX12_remove 42 = .ok (.ireturn, 1) := by decide +kernel
theorem dX12_remove_43 : decode cX12_remove 43 = .ok (.iload_n 3, 1) := by decide +kernel
theorem dX12_remove_44 : decode cX12_remove 44 = .ok (.iconst 1, 1) := by decide +kernel
theorem dX12_remove_45 : decode cX12_remove 45 = .ok (.if_icmp .ne 9, 3) := by decide +kernel
theorem dX12_remove_48 : decode cX12_remove 48 = .ok (.aload_n 0, 1) := by decide +kernel
theorem dX12_remove_49 : decode cX12_remove 49 = .ok (.iconst 3, 1) := by decide +kernel
theorem dX12_remove_50 : decode cX12_remove 50 = .ok (.invokevirtual 237, 3) := by decide +kernel
theorem dX12_remove_53 : decode cX12_remove 53 = .ok (.ireturn, 1) := by decide +kernel
theorem dX12_remove_54 : decode cX12_remove 54 = .ok (.aload_n 0, 1) := by decide +kernel
theorem dX12_remove_55 : decode cX12_remove 55 = .ok (.invokevirtual 340, 3) := by decide +kernel
theorem dX12_remove_58 : decode cX12_remove 58 = .ok (.istore 4, 2) := by decide +kernel
theorem dX12_remove_60 : decode cX12_remove 60 = .ok (.aload_n 0, 1) := by decide +kernel
theorem dX12_remove_61 : decode cX12_remove 61 = .ok (.iload_n 1, 1) := by decide +kernel
theorem dX12_remove_62 : decode cX12_remove 62 = .ok (.iload_n 2, 1) := by decide +kernel
theorem dX12_remove_63 : decode cX12_remove 63 = .ok (.iload 4, 2) := by decide +kernel
theorem dX12_remove_65 : decode cX12_remove 65 = .ok (.invokevirtual 837, 3) := by decide +kernel
theorem dX12_remove_68 : decode cX12_remove 68 = .ok (.iload_n 3, 1) := by decide +kernel
theorem dX12_remove_69 : decode cX12_remove 69 = .ok (.iconst 1, 1) := by decide +kernel
theorem dX12_remove_70 : decode cX12_remove 70 = .ok (.isub, 1) := by decide +kernel
theorem dX12_remove_71 : decode cX12_remove 71 = .ok (.ireturn, 1) := by decide +kernel
theorem dX12_move_0 : decode cX12_move 0 = .ok (.aload_n 0, 1) := by decide +kernel
theorem dX12_move_1 : decode cX12_move 1 = .ok (.iconst 0, 1) := by decide +kernel
theorem dX12_move_2 : decode cX12_move 2 = .ok (.putfield 202, 3) := by decide +kernel
theorem dX12_move_5 : decode cX12_move 5 = .ok (.iload_n 1, 1) := by decide +kernel
theorem dX12_move_6 : decode cX12_move 6 = .ok (.iconst 0, 1) := by decide +kernel
theorem dX12_move_7 : decode cX12_move 7 = .ok (.iconst 1, 1) := by decide +kernel
theorem dX12_move_8 : decode cX12_move 8 = .ok (.invokestatic 220, 3) := by decide +kernel
theorem dX12_move_11 : decode cX12_move 11 = .ok (.ifCond .ne 9, 3) := by decide +kernel
theorem dX12_move_14 : decode cX12_move 14 = .ok (.aload_n 0, 1) := by decide +kernel
theorem dX12_move_15 : decode cX12_move 15 = .ok (.iconst 1, 1) := by decide +kernel
theorem dX12_move_16 : decode cX12_move 16 = .ok (.invokevirtual 237, 3) := by decide +kernel
theorem dX12_move_19 : decode cX12_move 19 = .ok (.ireturn, 1) := by decide +kernel
theorem dX12_move_20 : decode cX12_move 20 = .ok (.aload_n 0, 1) := by decide +kernel
theorem dX12_move_21 : decode cX12_move 21 = .ok (.bipush 40, 2) := by decide +kernel
theorem dX12_move_23 : decode cX12_move 23 = .ok (.iload_n 1, 1) := by decide +kernel
theorem dX12_move_24 : decode cX12_move 24 = .ok (.invokevirtual 209, 3) := by decide +kernel
theorem dX12_move_27 : decode cX12_move 27 = .ok (.istore 4, 2) := by decide +kernel
theorem dX12_move_29 : decode cX12_move 29 = .ok (.iload_n 2, 1) := by decide +kernel
theorem dX12_move_30 : decode cX12_move 30 = .ok (.iconst 1, 1) := by decide +kernel
theorem dX12_move_31 : decode cX12_move 31 = .ok (.iload 4, 2) := by decide +kernel
theorem dX12_move_33 : decode cX12_move 33 = .ok (.invokestatic 220, 3) := by decide +kernel
theorem dX12_move_36 : decode cX12_move 36 = .ok (.ifCond .eq 13, 3) := by decide +kernel
theorem dX12_move_39 : decode cX12_move 39 = .ok (.iload_n 3, 1) := by decide +kernel
theorem dX12_move_40 : decode cX12_move 40 = .ok (.iconst 1, 1) := by decide +kernel
theorem dX12_move_41 : decode cX12_move 41 = .ok (.iload 4, 2) := by decide +kernel
theorem dX12_move_43 : decode cX12_move 43 = .ok (.invokestatic 220, 3) := by decide +kernel
theorem dX12_move_46 : decode cX12_move 46 = .ok (.ifCond .ne 9, 3) := by decide +kernel
theorem dX12_move_49 : decode cX12_move 49 = .ok (.aload_n 0, 1) := by decide +kernel
theorem dX12_move_50 : decode cX12_move 50 = .ok (.iconst 2, 1) := by decide +kernel
theorem dX12_move_51 : decode cX12_move 51 = .ok (.invokevirtual 237, 3) := by decide +kernel
theorem dX12_move_54 : decode cX12_move 54 = .ok (.ireturn, 1) := by decide +kernel
theorem dX12_move_55 : decode cX12_move 55 = .ok (.aload_n 0, 1) := by decide +kernel
theorem dX12_move_56 : decode cX12_move 56 = .ok (.invokevirtual 340, 3) := by decide +kernel
theorem dX12_move_59 : decode cX12_move 59 = .ok (.istore 5, 2) := by decide +kernel
theorem dX12_move_61 : decode cX12_move 61 = .ok (.iload_n 3, 1) := by decide +kernel
theorem dX12_move_62 : decode cX12_move 62 = .ok (.iload_n 2, 1) := by decide +kernel
theorem dX12_move_63 : decode cX12_move 63 = .ok (.if_icmp .le 7, 3) := by decide +kernel
theorem dX12_move_66 : decode cX12_move 66 = .ok (.iconst 1, 1) := by decide +kernel
theorem dX12_move_67 : decode cX12_move 67 = .ok (.goto 4, 3) := by decide +kernel
theorem dX12_move_70 : decode cX12_move 70 = .ok (.iconst (-1), 1) := by decide +kernel
theorem dX12_move_71 : decode cX12_move 71 = .ok (.istore 6, 2) := by decide +kernel
theorem dX12_move_73 : decode cX12_move 73 = .ok (.iload_n 2, 1) := by decide +kernel
theorem dX12_move_74 : decode cX12_move 74 = .ok (.istore 7, 2) := by decide +kernel
theorem dX12_move_76 : decode cX12_move 76 = .ok (.iload 7, 2) := by decide +kernel
theorem dX12_move_78 : decode cX12_move 78 = .ok (.iload_n 3, 1) := by decide +kernel
theorem dX12_move_79 : decode cX12_move 79 = .ok (.if_icmp .eq 31, 3) := by decide +kernel
theorem dX12_move_82 : decode cX12_move 82 = .ok (.aload_n 0, 1) := by decide +kernel
theorem dX12_move_83 : decode cX12_move 83 = .ok (.iload_n 1, 1) := by decide +kernel
theorem dX12_move_84 : decode cX12_move 84 = .ok (.iload 7, 2) := by decide +kernel
theorem dX12_move_86 : decode cX12_move 86 = .ok (.iload 6, 2) := by decide +kernel
theorem dX12_move_88 : decode cX12_move 88 = .ok (.iadd, 1) := by decide +kernel
theorem dX12_move_89 : decode cX12_move 89 = .ok (.iconst 1, 1) := by decide +kernel
theorem dX12_move_90 : decode cX12_move 90 = .ok (.isub, 1) := by decide +kernel
theorem dX12_move_91 : decode cX12_move 91 = .ok (.iload 5, 2) := by decide +kernel
theorem dX12_move_93 : decode cX12_move 93 = .ok (.iload 7, 2) := by decide +kernel
theorem dX12_move_95 : decode cX12_move 95 = .ok (.iconst 1, 1) := by decide +kernel
theorem dX12_move_96 : decode cX12_move 96 = .ok (.isub, 1) := by decide +kernel
theorem dX12_move_97 : decode cX12_move 97 = .ok (.invokevirtual 831, 3) := by decide +kernel
theorem dX12_move_100 : decode cX12_move 100 = .ok (.iload 7, 2) := by decide +kernel
theorem dX12_move_102 : decode cX12_move 102 = .ok (.iload 6, 2) := by decide +kernel
theorem dX12_move_104 : decode cX12_move 104 = .ok (.iadd, 1) := by decide +kernel
theorem dX12_move_105 : decode cX12_move 105 = .ok (.istore 7, 2) := by decide +kernel
theorem dX12_move_107 : decode cX12_move 107 = .ok (.goto (-31), 3) := by decide +kernel
theorem dX12_move_110 : decode cX12_move 110 = .ok (.aload_n 0, 1) := by decide +kernel
theorem dX12_move_111 : decode cX12_move 111 = .ok (.iload_n 1, 1) := by decide +kernel
theorem dX12_move_112 : decode cX12_move 112 = .ok (.iload_n 2, 1) := by decide +kernel
theorem dX12_move_113 : decode cX12_move 113 = .ok (.iconst 1, 1) := by decide +kernel
theorem dX12_move_114 : decode cX12_move 114 = .ok (.isub, 1) := by decide +kernel
theorem dX12_move_115 : decode cX12_move 115 = .ok (.iload 5, 2) := by decide +kernel
theorem dX12_move_117 : decode cX12_move 117 = .ok (.iload_n 3, 1) := by decide +kernel
theorem dX12_move_118 : decode cX12_move 118 = .ok (.iconst 1, 1) := by decide +kernel
theorem dX12_move_119 : decode cX12_move 119 = .ok (.isub, 1) := by decide +kernel
theorem dX12_move_120 : decode cX12_move 120 = .ok (.invokevirtual 831, 3) := by decide +kernel
theorem dX12_move_123 : decode cX12_move 123 = .ok (.iload_n 2, 1) := by decide +kernel
theorem dX12_move_124 : decode cX12_move 124 = .ok (.iload_n 3, 1) := by decide +kernel
theorem dX12_move_125 : decode cX12_move 125 = .ok (.if_icmp .ne 7, 3) := by decide +kernel
theorem dX12_move_128 : decode cX12_move 128 = .ok (.iconst 0, 1) := by decide +kernel
theorem dX12_move_129 : decode cX12_move 129 = .ok (.goto 11, 3) := by decide +kernel
theorem dX12_move_132 : decode cX12_move 132 = .ok (.iload_n 3, 1) := by decide +kernel
theorem dX12_move_133 : decode cX12_move 133 = .ok (.iload_n 2, 1) := by decide +kernel
theorem dX12_move_134 : decode cX12_move 134 = .ok (.isub, 1) := by decide +kernel
theorem dX12_move_135 : decode cX12_move 135 = .ok (.iload 6, 2) := by decide +kernel
theorem dX12_move_137 : decode cX12_move 137 = .ok (.imul, 1) := by decide +kernel
theorem dX12_move_138 : decode cX12_move 138 = .ok (.iconst 1, 1) := by decide +kernel
theorem dX12_move_139 : decode cX12_move 139 = .ok (.iadd, 1) := by decide +kernel
theorem dX12_move_140 : decode cX12_move 140 = .ok (.ireturn, 1) := by decide +kernel
