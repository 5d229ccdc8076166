def mX12_end : MI := (yX12_end, cX12_end, 3, (some .boolean))
theorem qc_X12_end : Cond.code mX12_end.1 mX12_end.2.1 mX12_end.2.2.1 mX12_end.2.2.2 ∈ gtb := (gtb_in (List.mem_of_getElem? (i := 1989) (by decide +kernel)) (by decide +kernel))
theorem qi_X12_end : Cond.instanceMethod mX12_end.1 ∈ gtb := (gtb_in (List.mem_of_getElem? (i := 1987) (by decide +kernel)) (by decide +kernel))
theorem qs_X12_end : Cond.selects mX12_end.1.cls mX12_end.1 mX12_end.1 ∈ gtb := (gtb_in (List.mem_of_getElem? (i := 1988) (by decide +kernel)) (by decide +kernel))
theorem qd_X12_end : dsc mX12_end.1 1 := ⟨by decide +kernel, by decide +kernel, by decide +kernel⟩
def mX12_fault : MI := (yX12_fault, cX12_fault, 2, (some .int))
theorem qc_X12_fault : Cond.code mX12_fault.1 mX12_fault.2.1 mX12_fault.2.2.1 mX12_fault.2.2.2 ∈ gtb := (gtb_in (List.mem_of_getElem? (i := 2212) (by decide +kernel)) (by decide +kernel))
theorem qi_X12_fault : Cond.instanceMethod mX12_fault.1 ∈ gtb := (gtb_in (List.mem_of_getElem? (i := 2210) (by decide +kernel)) (by decide +kernel))
theorem qs_X12_fault : Cond.selects mX12_fault.1.cls mX12_fault.1 mX12_fault.1 ∈ gtb := (gtb_in (List.mem_of_getElem? (i := 2211) (by decide +kernel)) (by decide +kernel))
theorem qd_X12_fault : dsc mX12_fault.1 1 := ⟨by decide +kernel, by decide +kernel, by decide +kernel⟩
def mX12_undo : MI := (yX12_undo, cX12_undo, 1, (some .int))
theorem qc_X12_undo : Cond.code mX12_undo.1 mX12_undo.2.1 mX12_undo.2.2.1 mX12_undo.2.2.2 ∈ gtb := (gtb_in (List.mem_of_getElem? (i := 1969) (by decide +kernel)) (by decide +kernel))
theorem qi_X12_undo : Cond.instanceMethod mX12_undo.1 ∈ gtb := (gtb_in (List.mem_of_getElem? (i := 1967) (by decide +kernel)) (by decide +kernel))
theorem qs_X12_undo : Cond.selects mX12_undo.1.cls mX12_undo.1 mX12_undo.1 ∈ gtb := (gtb_in (List.mem_of_getElem? (i := 1968) (by decide +kernel)) (by decide +kernel))
theorem qd_X12_undo : dsc mX12_undo.1 0 := ⟨by decide +kernel, by decide +kernel, by decide +kernel⟩
def mX12_redo : MI := (yX12_redo, cX12_redo, 1, (some .int))
theorem qc_X12_redo : Cond.code mX12_redo.1 mX12_redo.2.1 mX12_redo.2.2.1 mX12_redo.2.2.2 ∈ gtb := (gtb_in (List.mem_of_getElem? (i := 1981) (by decide +kernel)) (by decide +kernel))
theorem qi_X12_redo : Cond.instanceMethod mX12_redo.1 ∈ gtb := (gtb_in (List.mem_of_getElem? (i := 1979) (by decide +kernel)) (by decide +kernel))
theorem qs_X12_redo : Cond.selects mX12_redo.1.cls mX12_redo.1 mX12_redo.1 ∈ gtb := (gtb_in (List.mem_of_getElem? (i := 1980) (by decide +kernel)) (by decide +kernel))
theorem qd_X12_redo : dsc mX12_redo.1 0 := ⟨by decide +kernel, by decide +kernel, by decide +kernel⟩
def mX12_branch : MI := (yX12_branch, cX12_branch, 2, (some .int))
theorem qc_X12_branch : Cond.code mX12_branch.1 mX12_branch.2.1 mX12_branch.2.2.1 mX12_branch.2.2.2 ∈ gtb := (gtb_in (List.mem_of_getElem? (i := 2613) (by decide +kernel)) (by decide +kernel))
theorem qi_X12_branch : Cond.instanceMethod mX12_branch.1 ∈ gtb := (gtb_in (List.mem_of_getElem? (i := 2611) (by decide +kernel)) (by decide +kernel))
theorem qs_X12_branch : Cond.selects mX12_branch.1.cls mX12_branch.1 mX12_branch.1 ∈ gtb := (gtb_in (List.mem_of_getElem? (i := 2612) (by decide +kernel)) (by decide +kernel))
theorem qd_X12_branch : dsc mX12_branch.1 1 := ⟨by decide +kernel, by decide +kernel, by decide +kernel⟩
def mX12_pick : MI := (yX12_pick, cX12_pick, 3, (some .int))
theorem qc_X12_pick : Cond.code mX12_pick.1 mX12_pick.2.1 mX12_pick.2.2.1 mX12_pick.2.2.2 ∈ gtb := (gtb_in (List.mem_of_getElem? (i := 2719) (by decide +kernel)) (by decide +kernel))
theorem qi_X12_pick : Cond.instanceMethod mX12_pick.1 ∈ gtb := (gtb_in (List.mem_of_getElem? (i := 2717) (by decide +kernel)) (by decide +kernel))
theorem qs_X12_pick : Cond.selects mX12_pick.1.cls mX12_pick.1 mX12_pick.1 ∈ gtb := (gtb_in (List.mem_of_getElem? (i := 2718) (by decide +kernel)) (by decide +kernel))
theorem qd_X12_pick : dsc mX12_pick.1 1 := ⟨by decide +kernel, by decide +kernel, by decide +kernel⟩
def mX12_bars : MI := (yX12_bars, cX12_bars, 2, (some .int))
theorem qc_X12_bars : Cond.code mX12_bars.1 mX12_bars.2.1 mX12_bars.2.2.1 mX12_bars.2.2.2 ∈ gtb := (gtb_in (List.mem_of_getElem? (i := 2665) (by decide +kernel)) (by decide +kernel))
theorem qi_X12_bars : Cond.instanceMethod mX12_bars.1 ∈ gtb := (gtb_in (List.mem_of_getElem? (i := 2664) (by decide +kernel)) (by decide +kernel))
theorem qs_X12_bars : Cond.selects mX12_bars.1.cls mX12_bars.1 mX12_bars.1 ∈ gtb := (gtb_sel (q := (⟨"SheetBranchesModel", "bars", "(I)I"⟩, 105)) (List.mem_of_getElem? (i := 223) (by decide +kernel)) (by decide +kernel))
theorem qd_X12_bars : dsc mX12_bars.1 1 := ⟨by decide +kernel, by decide +kernel, by decide +kernel⟩
def mX12_unsettled : MI := (yX12_unsettled, cX12_unsettled, 3, (some .int))
theorem qc_X12_unsettled : Cond.code mX12_unsettled.1 mX12_unsettled.2.1 mX12_unsettled.2.2.1 mX12_unsettled.2.2.2 ∈ gtb := (gtb_in (List.mem_of_getElem? (i := 2605) (by decide +kernel)) (by decide +kernel))
theorem qi_X12_unsettled : Cond.instanceMethod mX12_unsettled.1 ∈ gtb := (gtb_in (List.mem_of_getElem? (i := 2604) (by decide +kernel)) (by decide +kernel))
theorem qs_X12_unsettled : Cond.selects mX12_unsettled.1.cls mX12_unsettled.1 mX12_unsettled.1 ∈ gtb := (gtb_sel (q := (⟨"SheetBranchesModel", "unsettled", "()I"⟩, 105)) (List.mem_of_getElem? (i := 213) (by decide +kernel)) (by decide +kernel))
theorem qd_X12_unsettled : dsc mX12_unsettled.1 0 := ⟨by decide +kernel, by decide +kernel, by decide +kernel⟩
def mX12_conflict : MI := (yX12_conflict, cX12_conflict, 3, (some .int))
theorem qc_X12_conflict : Cond.code mX12_conflict.1 mX12_conflict.2.1 mX12_conflict.2.2.1 mX12_conflict.2.2.2 ∈ gtb := (gtb_in (List.mem_of_getElem? (i := 2723) (by decide +kernel)) (by decide +kernel))
theorem qi_X12_conflict : Cond.instanceMethod mX12_conflict.1 ∈ gtb := (gtb_in (List.mem_of_getElem? (i := 2721) (by decide +kernel)) (by decide +kernel))
theorem qs_X12_conflict : Cond.selects mX12_conflict.1.cls mX12_conflict.1 mX12_conflict.1 ∈ gtb := (gtb_in (List.mem_of_getElem? (i := 2722) (by decide +kernel)) (by decide +kernel))
theorem qd_X12_conflict : dsc mX12_conflict.1 2 := ⟨by decide +kernel, by decide +kernel, by decide +kernel⟩
def mX12_choose : MI := (yX12_choose, cX12_choose, 9, (some .int))
theorem qc_X12_choose : Cond.code mX12_choose.1 mX12_choose.2.1 mX12_choose.2.2.1 mX12_choose.2.2.2 ∈ gtb := (gtb_in (List.mem_of_getElem? (i := 2727) (by decide +kernel)) (by decide +kernel))
theorem qi_X12_choose : Cond.instanceMethod mX12_choose.1 ∈ gtb := (gtb_in (List.mem_of_getElem? (i := 2725) (by decide +kernel)) (by decide +kernel))
theorem qs_X12_choose : Cond.selects mX12_choose.1.cls mX12_choose.1 mX12_choose.1 ∈ gtb := (gtb_in (List.mem_of_getElem? (i := 2726) (by decide +kernel)) (by decide +kernel))
theorem qd_X12_choose : dsc mX12_choose.1 2 := ⟨by decide +kernel, by decide +kernel, by decide +kernel⟩
def mX12_difference : MI := (yX12_difference, cX12_difference, 3, (some .int))
theorem qc_X12_difference : Cond.code mX12_difference.1 mX12_difference.2.1 mX12_difference.2.2.1 mX12_difference.2.2.2 ∈ gtb := (gtb_in (List.mem_of_getElem? (i := 2743) (by decide +kernel)) (by decide +kernel))
theorem qi_X12_difference : Cond.instanceMethod mX12_difference.1 ∈ gtb := (gtb_in (List.mem_of_getElem? (i := 2741) (by decide +kernel)) (by decide +kernel))
theorem qs_X12_difference : Cond.selects mX12_difference.1.cls mX12_difference.1 mX12_difference.1 ∈ gtb := (gtb_in (List.mem_of_getElem? (i := 2742) (by decide +kernel)) (by decide +kernel))
theorem qd_X12_difference : dsc mX12_difference.1 2 := ⟨by decide +kernel, by decide +kernel, by decide +kernel⟩
def mX12_drop : MI := (yX12_drop, cX12_drop, 1, (some .int))
theorem qc_X12_drop : Cond.code mX12_drop.1 mX12_drop.2.1 mX12_drop.2.2.1 mX12_drop.2.2.2 ∈ gtb := (gtb_in (List.mem_of_getElem? (i := 2649) (by decide +kernel)) (by decide +kernel))
theorem qi_X12_drop : Cond.instanceMethod mX12_drop.1 ∈ gtb := (gtb_in (List.mem_of_getElem? (i := 2647) (by decide +kernel)) (by decide +kernel))
theorem qs_X12_drop : Cond.selects mX12_drop.1.cls mX12_drop.1 mX12_drop.1 ∈ gtb := (gtb_in (List.mem_of_getElem? (i := 2648) (by decide +kernel)) (by decide +kernel))
theorem qd_X12_drop : dsc mX12_drop.1 0 := ⟨by decide +kernel, by decide +kernel, by decide +kernel⟩
def mX12_become : MI := (yX12_become, cX12_become, 2, none)
theorem qc_X12_become : Cond.code mX12_become.1 mX12_become.2.1 mX12_become.2.2.1 mX12_become.2.2.2 ∈ gtb := (gtb_in (List.mem_of_getElem? (i := 2641) (by decide +kernel)) (by decide +kernel))
theorem qi_X12_become : Cond.instanceMethod mX12_become.1 ∈ gtb := (gtb_in (List.mem_of_getElem? (i := 2640) (by decide +kernel)) (by decide +kernel))
theorem qs_X12_become : Cond.selects mX12_become.1.cls mX12_become.1 mX12_become.1 ∈ gtb := (gtb_sel (q := (⟨"SheetBranchesModel", "become", "(I)V"⟩, 105)) (List.mem_of_getElem? (i := 220) (by decide +kernel)) (by decide +kernel))
theorem qd_X12_become : dsc mX12_become.1 1 := ⟨by decide +kernel, by decide +kernel, by decide +kernel⟩
theorem dX12_end_0 : decode cX12_end 0 = .ok (.aload_n 0, 1) := by decide +kernel
theorem dX12_end_1 : decode cX12_end 1 = .ok (.iconst 0, 1) := by decide +kernel
theorem dX12_end_2 : decode cX12_end 2 = .ok (.putfield 202, 3) := by decide +kernel
theorem dX12_end_5 : decode cX12_end 5 = .ok (.iload_n 1, 1) := by decide +kernel
theorem dX12_end_6 : decode cX12_end 6 = .ok (.iconst 0, 1) := by decide +kernel
theorem dX12_end_7 : decode cX12_end 7 = .ok (.aload_n 0, 1) := by decide +kernel
theorem dX12_end_8 : decode cX12_end 8 = .ok (.getfield 258, 3) := by decide +kernel
theorem dX12_end_11 : decode cX12_end 11 = .ok (.invokestatic 220, 3) := by decide +kernel
theorem dX12_end_14 : decode cX12_end 14 = .ok (.istore_n 2, 1) := by decide +kernel
theorem dX12_end_15 : decode cX12_end 15 = .ok (.iload_n 2, 1) := by decide +kernel
theorem dX12_end_16 : decode cX12_end 16 = .ok (.ifCond .eq 8, 3) := by decide +kernel
theorem dX12_end_19 : decode cX12_end 19 = .ok (.aload_n 0, 1) := by decide +kernel
theorem dX12_end_20 : decode cX12_end 20 = .ok (.iload_n 1, 1) := by decide +kernel
theorem dX12_end_21 : decode cX12_end 21 = .ok (.putfield 258, 3) := by decide +kernel
theorem dX12_end_24 : decode cX12_end 24 = .ok (.iload_n 2, 1) := by decide +kernel
theorem dX12_end_25 : decode cX12_end 25 = .ok (.ireturn, 1) := by decide +kernel
set_option maxRecDepth 20000 in
theorem fl_X12_258 : FL RX12 258 12 40 false := ⟨RX12, TX12, cl_12, by decide, (gtb_in (List.mem_of_getElem? (i := 1685) (by decide +kernel)) (by decide +kernel)), rfl⟩
theorem dX12_fault_0 : decode cX12_fault 0 = .ok (.aload_n 0, 1) := by decide +kernel
theorem dX12_fault_1 : decode cX12_fault 1 = .ok (.iconst 0, 1) := by decide +kernel
theorem dX12_fault_2 : decode cX12_fault 2 = .ok (.putfield 202, 3) := by decide +kernel
theorem dX12_fault_5 : decode cX12_fault 5 = .ok (.iload_n 1, 1) := by decide +kernel
theorem dX12_fault_6 : decode cX12_fault 6 = .ok (.ifCond .ne 10, 3) := by decide +kernel
theorem dX12_fault_9 : decode cX12_fault 9 = .ok (.aload_n 0, 1) := by decide +kernel
theorem dX12_fault_10 : decode cX12_fault 10 = .ok (.getfield 277, 3) := by decide +kernel
theorem dX12_fault_13 : decode cX12_fault 13 = .ok (.goto 16, 3) := by decide +kernel
theorem dX12_fault_16 : decode cX12_fault 16 = .ok (.iload_n 1, 1) := by decide +kernel
theorem dX12_fault_17 : decode cX12_fault 17 = .ok (.iconst 1, 1) := by decide +kernel
theorem dX12_fault_18 : decode cX12_fault 18 = .ok (.if_icmp .ne 10, 3) := by decide +kernel
theorem dX12_fault_21 : decode cX12_fault 21 = .ok (.aload_n 0, 1) := by decide +kernel
theorem dX12_fault_22 : decode cX12_fault 22 = .ok (.getfield 280, 3) := by decide +kernel
theorem dX12_fault_25 : decode cX12_fault 25 = .ok (.goto 4, 3) := by decide +kernel
theorem dX12_fault_28 : decode cX12_fault 28 = .ok (.iconst (-1), 1) := by decide +kernel
theorem dX12_fault_29 : decode cX12_fault 29 = .ok (.ireturn, 1) := by decide +kernel
set_option maxRecDepth 20000 in
theorem fl_X12_277 : FL RX12 277 12 41 false := ⟨RX12, TX12, cl_12, by decide, (gtb_in (List.mem_of_getElem? (i := 1686) (by decide +kernel)) (by decide +kernel)), rfl⟩
set_option maxRecDepth 20000 in
theorem fl_X12_280 : FL RX12 280 12 42 false := ⟨RX12, TX12, cl_12, by decide, (gtb_in (List.mem_of_getElem? (i := 1687) (by decide +kernel)) (by decide +kernel)), rfl⟩
theorem dX12_undo_0 : decode cX12_undo 0 = .ok (.aload_n 0, 1) := by decide +kernel
theorem dX12_undo_1 : decode cX12_undo 1 = .ok (.iconst 0, 1) := by decide +kernel
theorem dX12_undo_2 : decode cX12_undo 2 = .ok (.putfield 202, 3) := by decide +kernel
theorem dX12_undo_5 : decode cX12_undo 5 = .ok (.aload_n 0, 1) := by decide +kernel
theorem dX12_undo_6 : decode cX12_undo 6 = .ok (.getfield 227, 3) := by decide +kernel
theorem dX12_undo_9 : decode cX12_undo 9 = .ok (.ifCond .ne 9, 3) := by decide +kernel
theorem dX12_undo_12 : decode cX12_undo 12 = .ok (.aload_n 0, 1) := by decide +kernel
theorem dX12_undo_13 : decode cX12_undo 13 = .ok (.iconst 1, 1) := by decide +kernel
theorem dX12_undo_14 : decode cX12_undo 14 = .ok (.invokevirtual 237, 3) := by decide +kernel
theorem dX12_undo_17 : decode cX12_undo 17 = .ok (.ireturn, 1) := by decide +kernel
theorem dX12_undo_18 : decode cX12_undo 18 = .ok (.aload_n 0, 1) := by decide +kernel
theorem dX12_undo_19 : decode cX12_undo 19 = .ok (.bipush 40, 2) := by decide +kernel
theorem dX12_undo_21 : decode cX12_undo 21 = .ok (.bipush 81, 2) := by decide +kernel
theorem dX12_undo_23 : decode cX12_undo 23 = .ok (.aload_n 0, 1) := by decide +kernel
theorem dX12_undo_24 : decode cX12_undo 24 = .ok (.getfield 230, 3) := by decide +kernel
theorem dX12_undo_27 : decode cX12_undo 27 = .ok (.iadd, 1) := by decide +kernel
theorem dX12_undo_28 : decode cX12_undo 28 = .ok (.invokevirtual 198, 3) := by decide +kernel
theorem dX12_undo_31 : decode cX12_undo 31 = .ok (.aload_n 0, 1) := by decide +kernel
theorem dX12_undo_32 : decode cX12_undo 32 = .ok (.dup, 1) := by decide +kernel
theorem dX12_undo_33 : decode cX12_undo 33 = .ok (.getfield 230, 3) := by decide +kernel
theorem dX12_undo_36 : decode cX12_undo 36 = .ok (.iconst 1, 1) := by decide +kernel
theorem dX12_undo_37 : decode cX12_undo 37 = .ok (.iadd, 1) := by decide +kernel
theorem dX12_undo_38 : decode cX12_undo 38 = .ok (.putfield 230, 3) := by decide +kernel
theorem dX12_undo_41 : decode cX12_undo 41 = .ok (.aload_n 0, 1) := by decide +kernel
theorem dX12_undo_42 : decode cX12_undo 42 = .ok (.dup, 1) := by decide +kernel
theorem dX12_undo_43 : decode cX12_undo 43 = .ok (.getfield 227, 3) := by decide +kernel
theorem dX12_undo_46 : decode cX12_undo 46 = .ok (.iconst 1, 1) := by decide +kernel
theorem dX12_undo_47 : decode cX12_undo 47 = .ok (.isub, 1) := by decide +kernel
theorem dX12_undo_48 : decode cX12_undo 48 = .ok (.putfield 227, 3) := by decide +kernel
theorem dX12_undo_51 : decode cX12_undo 51 = .ok (.aload_n 0, 1) := by decide +kernel
theorem dX12_undo_52 : decode cX12_undo 52 = .ok (.aload_n 0, 1) := by decide +kernel
theorem dX12_undo_53 : decode cX12_undo 53 = .ok (.aload_n 0, 1) := by decide +kernel
theorem dX12_undo_54 : decode cX12_undo 54 = .ok (.getfield 227, 3) := by decide +kernel
theorem dX12_undo_57 : decode cX12_undo 57 = .ok (.invokevirtual 233, 3) := by decide +kernel
theorem dX12_undo_60 : decode cX12_undo 60 = .ok (.bipush 40, 2) := by decide +kernel
theorem dX12_undo_62 : decode cX12_undo 62 = .ok (.invokevirtual 198, 3) := by decide +kernel
theorem dX12_undo_65 : decode cX12_undo 65 = .ok (.aload_n 0, 1) := by decide +kernel
theorem dX12_undo_66 : decode cX12_undo 66 = .ok (.getfield 227, 3) := by decide +kernel
theorem dX12_undo_69 : decode cX12_undo 69 = .ok (.ireturn, 1) := by decide +kernel
set_option maxRecDepth 20000 in
theorem vl_X12_237 : VL RX12 237 12 mX12_throwing 1 := ⟨⟨qc_X12_throwing, (gtb_in (List.mem_of_getElem? (i := 1970) (by decide +kernel)) (by decide +kernel)), qi_X12_throwing, qs_X12_throwing, zw_12⟩, ⟨_, _, rfl⟩, by decide, qd_X12_throwing, by decide⟩
theorem dX12_redo_0 : decode cX12_redo 0 = .ok (.aload_n 0, 1) := by decide +kernel
theorem dX12_redo_1 : decode cX12_redo 1 = .ok (.iconst 0, 1) := by decide +kernel
theorem dX12_redo_2 : decode cX12_redo 2 = .ok (.putfield 202, 3) := by decide +kernel
theorem dX12_redo_5 : decode cX12_redo 5 = .ok (.aload_n 0, 1) := by decide +kernel
theorem dX12_redo_6 : decode cX12_redo 6 = .ok (.getfield 230, 3) := by decide +kernel
theorem dX12_redo_9 : decode cX12_redo 9 = .ok (.ifCond .ne 9, 3) := by decide +kernel
theorem dX12_redo_12 : decode cX12_redo 12 = .ok (.aload_n 0, 1) := by decide +kernel
theorem dX12_redo_13 : decode cX12_redo 13 = .ok (.iconst 1, 1) := by decide +kernel
theorem dX12_redo_14 : decode cX12_redo 14 = .ok (.invokevirtual 237, 3) := by decide +kernel
theorem dX12_redo_17 : decode cX12_redo 17 = .ok (.ireturn, 1) := by decide +kernel
theorem dX12_redo_18 : decode cX12_redo 18 = .ok (.aload_n 0, 1) := by decide +kernel
theorem dX12_redo_19 : decode cX12_redo 19 = .ok (.dup, 1) := by decide +kernel
theorem dX12_redo_20 : decode cX12_redo 20 = .ok (.getfield 227, 3) := by decide +kernel
theorem dX12_redo_23 : decode cX12_redo 23 = .ok (.iconst 1, 1) := by decide +kernel
theorem dX12_redo_24 : decode cX12_redo 24 = .ok (.iadd, 1) := by decide +kernel
theorem dX12_redo_25 : decode cX12_redo 25 = .ok (.putfield 227, 3) := by decide +kernel
theorem dX12_redo_28 : decode cX12_redo 28 = .ok (.aload_n 0, 1) := by decide +kernel
theorem dX12_redo_29 : decode cX12_redo 29 = .ok (.bipush 40, 2) := by decide +kernel
theorem dX12_redo_31 : decode cX12_redo 31 = .ok (.aload_n 0, 1) := by decide +kernel
theorem dX12_redo_32 : decode cX12_redo 32 = .ok (.aload_n 0, 1) := by decide +kernel
theorem dX12_redo_33 : decode cX12_redo 33 = .ok (.getfield 227, 3) := by decide +kernel
theorem dX12_redo_36 : decode cX12_redo 36 = .ok (.iconst 1, 1) := by decide +kernel
theorem dX12_redo_37 : decode cX12_redo 37 = .ok (.isub, 1) := by decide +kernel
theorem dX12_redo_38 : decode cX12_redo 38 = .ok (.invokevirtual 233, 3) := by decide +kernel
theorem dX12_redo_41 : decode cX12_redo 41 = .ok (.invokevirtual 198, 3) := by decide +kernel
theorem dX12_redo_44 : decode cX12_redo 44 = .ok (.aload_n 0, 1) := by decide +kernel
theorem dX12_redo_45 : decode cX12_redo 45 = .ok (.dup, 1) := by decide +kernel
theorem dX12_redo_46 : decode cX12_redo 46 = .ok (.getfield 230, 3) := by decide +kernel
theorem dX12_redo_49 : decode cX12_redo 49 = .ok (.iconst 1, 1) := by decide +kernel
theorem dX12_redo_50 : decode cX12_redo 50 = .ok (.isub, 1) := by decide +kernel
theorem dX12_redo_51 : decode cX12_redo 51 = .ok (.putfield 230, 3) := by decide +kernel
theorem dX12_redo_54 : decode cX12_redo 54 = .ok (.aload_n 0, 1) := by decide +kernel
theorem dX12_redo_55 : decode cX12_redo 55 = .ok (.bipush 81, 2) := by decide +kernel
theorem dX12_redo_57 : decode cX12_redo 57 = .ok (.aload_n 0, 1) := by decide +kernel
theorem dX12_redo_58 : decode cX12_redo 58 = .ok (.getfield 230, 3) := by decide +kernel
theorem dX12_redo_61 : decode cX12_redo 61 = .ok (.iadd, 1) := by decide +kernel
theorem dX12_redo_62 : decode cX12_redo 62 = .ok (.bipush 40, 2) := by decide +kernel
theorem dX12_redo_64 : decode cX12_redo 64 = .ok (.invokevirtual 198, 3) := by decide +kernel
theorem dX12_redo_67 : decode cX12_redo 67 = .ok (.aload_n 0, 1) := by decide +kernel
theorem dX12_redo_68 : decode cX12_redo 68 = .ok (.getfield 230, 3) := by decide +kernel
theorem dX12_redo_71 : decode cX12_redo 71 = .ok (.ireturn, 1) := by decide +kernel
theorem dX12_branch_0 : decode cX12_branch 0 = .ok (.aload_n 0, 1) := by decide +kernel
theorem dX12_branch_1 : decode cX12_branch 1 = .ok (.iconst 0, 1) := by decide +kernel
theorem dX12_branch_2 : decode cX12_branch 2 = .ok (.putfield 202, 3) := by decide +kernel
theorem dX12_branch_5 : decode cX12_branch 5 = .ok (.iload_n 1, 1) := by decide +kernel
theorem dX12_branch_6 : decode cX12_branch 6 = .ok (.iconst 0, 1) := by decide +kernel
theorem dX12_branch_7 : decode cX12_branch 7 = .ok (.iconst 5, 1) := by decide +kernel
theorem dX12_branch_8 : decode cX12_branch 8 = .ok (.invokestatic 220, 3) := by decide +kernel
theorem dX12_branch_11 : decode cX12_branch 11 = .ok (.ifCond .ne 9, 3) := by decide +kernel
theorem dX12_branch_14 : decode cX12_branch 14 = .ok (.aload_n 0, 1) := by decide +kernel
theorem dX12_branch_15 : decode cX12_branch 15 = .ok (.iconst 1, 1) := by decide +kernel
theorem dX12_branch_16 : decode cX12_branch 16 = .ok (.invokevirtual 237, 3) := by decide +kernel
theorem dX12_branch_19 : decode cX12_branch 19 = .ok (.ireturn, 1) := by decide +kernel
theorem dX12_branch_20 : decode cX12_branch 20 = .ok (.aload_n 0, 1) := by decide +kernel
theorem dX12_branch_21 : decode cX12_branch 21 = .ok (.getfield 42, 3) := by decide +kernel
theorem dX12_branch_24 : decode cX12_branch 24 = .ok (.iload_n 1, 1) := by decide +kernel
theorem dX12_branch_25 : decode cX12_branch 25 = .ok (.iaload, 1) := by decide +kernel
theorem dX12_branch_26 : decode cX12_branch 26 = .ok (.ifCond .lt 9, 3) := by decide +kernel
theorem dX12_branch_29 : decode cX12_branch 29 = .ok (.aload_n 0, 1) := by decide +kernel
theorem dX12_branch_30 : decode cX12_branch 30 = .ok (.iconst 2, 1) := by decide +kernel
theorem dX12_branch_31 : decode cX12_branch 31 = .ok (.invokevirtual 237, 3) := by decide +kernel
theorem dX12_branch_34 : decode cX12_branch 34 = .ok (.ireturn, 1) := by decide +kernel
theorem dX12_branch_35 : decode cX12_branch 35 = .ok (.aload_n 0, 1) := by decide +kernel
theorem dX12_branch_36 : decode cX12_branch 36 = .ok (.getfield 42, 3) := by decide +kernel
theorem dX12_branch_39 : decode cX12_branch 39 = .ok (.iload_n 1, 1) := by decide +kernel
theorem dX12_branch_40 : decode cX12_branch 40 = .ok (.aload_n 0, 1) := by decide +kernel
theorem dX12_branch_41 : decode cX12_branch 41 = .ok (.invokevirtual 860, 3) := by decide +kernel
theorem dX12_branch_44 : decode cX12_branch 44 = .ok (.iastore, 1) := by decide +kernel
theorem dX12_branch_45 : decode cX12_branch 45 = .ok (.aload_n 0, 1) := by decide +kernel
theorem dX12_branch_46 : decode cX12_branch 46 = .ok (.invokevirtual 860, 3) := by decide +kernel
theorem dX12_branch_49 : decode cX12_branch 49 = .ok (.ireturn, 1) := by decide +kernel
set_option maxRecDepth 20000 in
theorem vl_X12_860 : VL RX12 860 12 mX12_head 0 := ⟨⟨qc_X12_head, (gtb_in (List.mem_of_getElem? (i := 2606) (by decide +kernel)) (by decide +kernel)), qi_X12_head, qs_X12_head, zw_12⟩, ⟨_, _, rfl⟩, by decide, qd_X12_head, by decide⟩
theorem dX12_pick_0 : decode cX12_pick 0 = .ok (.aload_n 0, 1) := by decide +kernel
theorem dX12_pick_1 : decode cX12_pick 1 = .ok (.iconst 0, 1) := by decide +kernel
theorem dX12_pick_2 : decode cX12_pick 2 = .ok (.putfield 202, 3) := by decide +kernel
theorem dX12_pick_5 : decode cX12_pick 5 = .ok (.iload_n 1, 1) := by decide +kernel
theorem dX12_pick_6 : decode cX12_pick 6 = .ok (.iconst 1, 1) := by decide +kernel
theorem dX12_pick_7 : decode cX12_pick 7 = .ok (.aload_n 0, 1) := by decide +kernel
theorem dX12_pick_8 : decode cX12_pick 8 = .ok (.getfield 33, 3) := by decide +kernel
theorem dX12_pick_11 : decode cX12_pick 11 = .ok (.iconst 1, 1) := by decide +kernel
theorem dX12_pick_12 : decode cX12_pick 12 = .ok (.isub, 1) := by decide +kernel
theorem dX12_pick_13 : decode cX12_pick 13 = .ok (.invokestatic 220, 3) := by decide +kernel
theorem dX12_pick_16 : decode cX12_pick 16 = .ok (.ifCond .ne 9, 3) := by decide +kernel
theorem dX12_pick_19 : decode cX12_pick 19 = .ok (.aload_n 0, 1) := by decide +kernel
theorem dX12_pick_20 : decode cX12_pick 20 = .ok (.iconst 1, 1) := by decide +kernel
theorem dX12_pick_21 : decode cX12_pick 21 = .ok (.invokevirtual 237, 3) := by decide +kernel
theorem dX12_pick_24 : decode cX12_pick 24 = .ok (.ireturn, 1) := by decide +kernel
theorem dX12_pick_25 : decode cX12_pick 25 = .ok (.aload_n 0, 1) := by decide +kernel
theorem dX12_pick_26 : decode cX12_pick 26 = .ok (.iconst 2, 1) := by decide +kernel
theorem dX12_pick_27 : decode cX12_pick 27 = .ok (.invokevirtual 930, 3) := by decide +kernel
theorem dX12_pick_30 : decode cX12_pick 30 = .ok (.ifCond .le 13, 3) := by decide +kernel
theorem dX12_pick_33 : decode cX12_pick 33 = .ok (.aload_n 0, 1) := by decide +kernel
theorem dX12_pick_34 : decode cX12_pick 34 = .ok (.aload_n 0, 1) := by decide +kernel
theorem dX12_pick_35 : decode cX12_pick 35 = .ok (.iconst 2, 1) := by decide +kernel
theorem dX12_pick_36 : decode cX12_pick 36 = .ok (.invokevirtual 930, 3) := by decide +kernel
theorem dX12_pick_39 : decode cX12_pick 39 = .ok (.invokevirtual 237, 3) := by decide +kernel
theorem dX12_pick_42 : decode cX12_pick 42 = .ok (.ireturn, 1) := by decide +kernel
theorem dX12_pick_43 : decode cX12_pick 43 = .ok (.aload_n 0, 1) := by decide +kernel
theorem dX12_pick_44 : decode cX12_pick 44 = .ok (.iload_n 1, 1) := by decide +kernel
theorem dX12_pick_45 : decode cX12_pick 45 = .ok (.aload_n 0, 1) := by decide +kernel
theorem dX12_pick_46 : decode cX12_pick 46 = .ok (.getfield 36, 3) := by decide +kernel
theorem dX12_pick_49 : decode cX12_pick 49 = .ok (.iload_n 1, 1) := by decide +kernel
theorem dX12_pick_50 : decode cX12_pick 50 = .ok (.iaload, 1) := by decide +kernel
theorem dX12_pick_51 : decode cX12_pick 51 = .ok (.invokevirtual 936, 3) := by decide +kernel
theorem dX12_pick_54 : decode cX12_pick 54 = .ok (.istore_n 2, 1) := by decide +kernel
theorem dX12_pick_55 : decode cX12_pick 55 = .ok (.iload_n 2, 1) := by decide +kernel
theorem dX12_pick_56 : decode cX12_pick 56 = .ok (.ifCond .ge 11, 3) := by decide +kernel
theorem dX12_pick_59 : decode cX12_pick 59 = .ok (.aload_n 0, 1) := by decide +kernel
theorem dX12_pick_60 : decode cX12_pick 60 = .ok (.iconst 3, 1) := by decide +kernel
theorem dX12_pick_61 : decode cX12_pick 61 = .ok (.invokevirtual 237, 3) := by decide +kernel
theorem dX12_pick_64 : decode cX12_pick 64 = .ok (.goto 4, 3) := by decide +kernel
theorem dX12_pick_67 : decode cX12_pick 67 = .ok (.iload_n 2, 1) := by decide +kernel
theorem dX12_pick_68 : decode cX12_pick 68 = .ok (.ireturn, 1) := by decide +kernel
set_option maxRecDepth 20000 in
theorem vl_X12_930 : VL RX12 930 12 mX12_bars 1 := ⟨⟨qc_X12_bars, (gtb_in (List.mem_of_getElem? (i := 2662) (by decide +kernel)) (by decide +kernel)), qi_X12_bars, qs_X12_bars, zw_12⟩, ⟨_, _, rfl⟩, by decide, qd_X12_bars, by decide⟩
set_option maxRecDepth 20000 in
theorem fl_X12_36 : FL RX12 36 12 9 true := ⟨RX12, TX12, cl_12, by decide, (gtb_in (List.mem_of_getElem? (i := 1654) (by decide +kernel)) (by decide +kernel)), rfl⟩
def mX12_together : MI := (yX12_together, cX12_together, 4, (some .int))
theorem qc_X12_together : Cond.code mX12_together.1 mX12_together.2.1 mX12_together.2.2.1 mX12_together.2.2.2 ∈ gtb := (gtb_in (List.mem_of_getElem? (i := 2670) (by decide +kernel)) (by decide +kernel))
theorem qi_X12_together : Cond.instanceMethod mX12_together.1 ∈ gtb := (gtb_in (List.mem_of_getElem? (i := 2669) (by decide +kernel)) (by decide +kernel))
theorem qs_X12_together : Cond.selects mX12_together.1.cls mX12_together.1 mX12_together.1 ∈ gtb := (gtb_sel (q := (⟨"SheetBranchesModel", "together", "(II)I"⟩, 105)) (List.mem_of_getElem? (i := 224) (by decide +kernel)) (by decide +kernel))
theorem qd_X12_together : dsc mX12_together.1 2 := ⟨by decide +kernel, by decide +kernel, by decide +kernel⟩
set_option maxRecDepth 20000 in
theorem vl_X12_936 : VL RX12 936 12 mX12_together 2 := ⟨⟨qc_X12_together, (gtb_in (List.mem_of_getElem? (i := 2667) (by decide +kernel)) (by decide +kernel)), qi_X12_together, qs_X12_together, zw_12⟩, ⟨_, _, rfl⟩, by decide, qd_X12_together, by decide⟩
theorem dX12_bars_0 : decode cX12_bars 0 = .ok (.aload_n 0, 1) := by decide +kernel
theorem dX12_bars_1 : decode cX12_bars 1 = .ok (.getfield 927, 3) := by decide +kernel
theorem dX12_bars_4 : decode cX12_bars 4 = .ok (.sipush 200, 3) := by decide +kernel
theorem dX12_bars_7 : decode cX12_bars 7 = .ok (.if_icmp .ne 5, 3) := by decide +kernel
theorem dX12_bars_10 : decode cX12_bars 10 = .ok (.iload_n 1, 1) := by decide +kernel
theorem dX12_bars_11 : decode cX12_bars 11 = .ok (.ireturn, 1) := by decide +kernel
theorem dX12_bars_12 : decode cX12_bars 12 = .ok (.aload_n 0, 1) := by decide +kernel
theorem dX12_bars_13 : decode cX12_bars 13 = .ok (.getfield 45, 3) := by decide +kernel
theorem dX12_bars_16 : decode cX12_bars 16 = .ok (.ifCond .ge 10, 3) := by decide +kernel
theorem dX12_bars_19 : decode cX12_bars 19 = .ok (.aload_n 0, 1) := by decide +kernel
theorem dX12_bars_20 : decode cX12_bars 20 = .ok (.invokevirtual 871, 3) := by decide +kernel
theorem dX12_bars_23 : decode cX12_bars 23 = .ok (.ifCond .le 9, 3) := by decide +kernel
theorem dX12_bars_26 : decode cX12_bars 26 = .ok (.iload_n 1, 1) := by decide +kernel
theorem dX12_bars_27 : decode cX12_bars 27 = .ok (.iconst 1, 1) := by decide +kernel
theorem dX12_bars_28 : decode cX12_bars 28 = .ok (.iadd, 1) := by decide +kernel
theorem dX12_bars_29 : decode cX12_bars 29 = .ok (.goto 4, 3) := by decide +kernel
theorem dX12_bars_32 : decode cX12_bars 32 = .ok (.iconst 0, 1) := by decide +kernel
theorem dX12_bars_33 : decode cX12_bars 33 = .ok (.ireturn, 1) := by decide +kernel
set_option maxRecDepth 20000 in
theorem fl_X12_927 : FL RX12 927 12 14 false := ⟨RX12, TX12, cl_12, by decide, (gtb_in (List.mem_of_getElem? (i := 1659) (by decide +kernel)) (by decide +kernel)), rfl⟩
set_option maxRecDepth 20000 in
theorem fl_X12_45 : FL RX12 45 12 13 false := ⟨RX12, TX12, cl_12, by decide, (gtb_in (List.mem_of_getElem? (i := 1658) (by decide +kernel)) (by decide +kernel)), rfl⟩
set_option maxRecDepth 20000 in
theorem vl_X12_871 : VL RX12 871 12 mX12_unsettled 0 := ⟨⟨qc_X12_unsettled, (gtb_in (List.mem_of_getElem? (i := 2602) (by decide +kernel)) (by decide +kernel)), qi_X12_unsettled, qs_X12_unsettled, zw_12⟩, ⟨_, _, rfl⟩, by decide, qd_X12_unsettled, by decide⟩
theorem dX12_unsettled_0 : decode cX12_unsettled 0 = .ok (.iconst 0, 1) := by decide +kernel
theorem dX12_unsettled_1 : decode cX12_unsettled 1 = .ok (.istore_n 1, 1) := by decide +kernel
theorem dX12_unsettled_2 : decode cX12_unsettled 2 = .ok (.iconst 0, 1) := by decide +kernel
theorem dX12_unsettled_3 : decode cX12_unsettled 3 = .ok (.istore_n 2, 1) := by decide +kernel
theorem dX12_unsettled_4 : decode cX12_unsettled 4 = .ok (.iload_n 2, 1) := by decide +kernel
theorem dX12_unsettled_5 : decode cX12_unsettled 5 = .ok (.aload_n 0, 1) := by decide +kernel
theorem dX12_unsettled_6 : decode cX12_unsettled 6 = .ok (.getfield 868, 3) := by decide +kernel
theorem dX12_unsettled_9 : decode cX12_unsettled 9 = .ok (.if_icmp .ge 26, 3) := by decide +kernel
theorem dX12_unsettled_12 : decode cX12_unsettled 12 = .ok (.iload_n 1, 1) := by decide +kernel
theorem dX12_unsettled_13 : decode cX12_unsettled 13 = .ok (.aload_n 0, 1) := by decide +kernel
theorem dX12_unsettled_14 : decode cX12_unsettled 14 = .ok (.getfield 183, 3) := by decide +kernel
theorem dX12_unsettled_17 : decode cX12_unsettled 17 = .ok (.iload_n 2, 1) := by decide +kernel
theorem dX12_unsettled_18 : decode cX12_unsettled 18 = .ok (.baload, 1) := by decide +kernel
theorem dX12_unsettled_19 : decode cX12_unsettled 19 = .ok (.ifCond .eq 7, 3) := by decide +kernel
theorem dX12_unsettled_22 : decode cX12_unsettled 22 = .ok (.iconst 0, 1) := by decide +kernel
theorem dX12_unsettled_23 : decode cX12_unsettled 23 = .ok (.goto 4, 3) := by decide +kernel
theorem dX12_unsettled_26 : decode cX12_unsettled 26 = .ok (.iconst 1, 1) := by decide +kernel
theorem dX12_unsettled_27 : decode cX12_unsettled 27 = .ok (.iadd, 1) := by decide +kernel
theorem dX12_unsettled_28 : decode cX12_unsettled 28 = .ok (.istore_n 1, 1) := by decide +kernel
theorem dX12_unsettled_29 : decode cX12_unsettled 29 = .ok (.iinc 2 1, 3) := by decide +kernel
theorem dX12_unsettled_32 : decode cX12_unsettled 32 = .ok (.goto (-28), 3) := by decide +kernel
theorem dX12_unsettled_35 : decode cX12_unsettled 35 = .ok (.iload_n 1, 1) := by decide +kernel
theorem dX12_unsettled_36 : decode cX12_unsettled 36 = .ok (.ireturn, 1) := by decide +kernel
set_option maxRecDepth 20000 in
theorem fl_X12_868 : FL RX12 868 12 98 false := ⟨RX12, TX12, cl_12, by decide, (gtb_in (List.mem_of_getElem? (i := 1743) (by decide +kernel)) (by decide +kernel)), rfl⟩
set_option maxRecDepth 20000 in
theorem fl_X12_183 : FL RX12 183 12 97 true := ⟨RX12, TX12, cl_12, by decide, (gtb_in (List.mem_of_getElem? (i := 1742) (by decide +kernel)) (by decide +kernel)), rfl⟩
theorem dX12_conflict_0 : decode cX12_conflict 0 = .ok (.aload_n 0, 1) := by decide +kernel
theorem dX12_conflict_1 : decode cX12_conflict 1 = .ok (.iconst 0, 1) := by decide +kernel
theorem dX12_conflict_2 : decode cX12_conflict 2 = .ok (.putfield 202, 3) := by decide +kernel
theorem dX12_conflict_5 : decode cX12_conflict 5 = .ok (.iload_n 1, 1) := by decide +kernel
theorem dX12_conflict_6 : decode cX12_conflict 6 = .ok (.iconst 0, 1) := by decide +kernel
theorem dX12_conflict_7 : decode cX12_conflict 7 = .ok (.aload_n 0, 1) := by decide +kernel
theorem dX12_conflict_8 : decode cX12_conflict 8 = .ok (.getfield 868, 3) := by decide +kernel
theorem dX12_conflict_11 : decode cX12_conflict 11 = .ok (.iconst 1, 1) := by decide +kernel
theorem dX12_conflict_12 : decode cX12_conflict 12 = .ok (.isub, 1) := by decide +kernel
theorem dX12_conflict_13 : decode cX12_conflict 13 = .ok (.invokestatic 220, 3) := by decide +kernel
theorem dX12_conflict_16 : decode cX12_conflict 16 = .ok (.ifCond .ne 5, 3) := by decide +kernel
theorem dX12_conflict_19 : decode cX12_conflict 19 = .ok (.iconst (-1), 1) := by decide +kernel
theorem dX12_conflict_20 : decode cX12_conflict 20 = .ok (.ireturn, 1) := by decide +kernel
theorem dX12_conflict_21 : decode cX12_conflict 21 = .ok (.iload_n 2, 1) := by decide +kernel
theorem dX12_conflict_22 : decode cX12_conflict 22 = .ok (.tableswitch 84 0 3 #[30, 37, 53, 69], 30) := by decide +kernel
theorem dX12_conflict_52 : decode cX12_conflict 52 = .ok (.aload_n 0, 1) := by decide +kernel
theorem dX12_conflict_53 : decode cX12_conflict 53 = .ok (.getfield 165, 3) := by decide +kernel
theorem dX12_conflict_56 : decode cX12_conflict 56 = .ok (.iload_n 1, 1) := by decide +kernel
theorem dX12_conflict_57 : decode cX12_conflict 57 = .ok (.iaload, 1) := by decide +kernel
theorem dX12_conflict_58 : decode cX12_conflict 58 = .ok (.ireturn, 1) := by decide +kernel
theorem dX12_conflict_59 : decode cX12_conflict 59 = .ok (.aload_n 0, 1) := by decide +kernel
theorem dX12_conflict_60 : decode cX12_conflict 60 = .ok (.bipush 40, 2) := by decide +kernel
theorem dX12_conflict_62 : decode cX12_conflict 62 = .ok (.iconst 0, 1) := by decide +kernel
theorem dX12_conflict_63 : decode cX12_conflict 63 = .ok (.aload_n 0, 1) := by decide +kernel
theorem dX12_conflict_64 : decode cX12_conflict 64 = .ok (.getfield 168, 3) := by decide +kernel
theorem dX12_conflict_67 : decode cX12_conflict 67 = .ok (.iload_n 1, 1) := by decide +kernel
theorem dX12_conflict_68 : decode cX12_conflict 68 = .ok (.iaload, 1) := by decide +kernel
theorem dX12_conflict_69 : decode cX12_conflict 69 = .ok (.invokevirtual 217, 3) := by decide +kernel
theorem dX12_conflict_72 : decode cX12_conflict 72 = .ok (.iconst 1, 1) := by decide +kernel
theorem dX12_conflict_73 : decode cX12_conflict 73 = .ok (.iadd, 1) := by decide +kernel
theorem dX12_conflict_74 : decode cX12_conflict 74 = .ok (.ireturn, 1) := by decide +kernel
theorem dX12_conflict_75 : decode cX12_conflict 75 = .ok (.aload_n 0, 1) := by decide +kernel
theorem dX12_conflict_76 : decode cX12_conflict 76 = .ok (.bipush 40, 2) := by decide +kernel
theorem dX12_conflict_78 : decode cX12_conflict 78 = .ok (.iconst 1, 1) := by decide +kernel
theorem dX12_conflict_79 : decode cX12_conflict 79 = .ok (.aload_n 0, 1) := by decide +kernel
theorem dX12_conflict_80 : decode cX12_conflict 80 = .ok (.getfield 171, 3) := by decide +kernel
theorem dX12_conflict_83 : decode cX12_conflict 83 = .ok (.iload_n 1, 1) := by decide +kernel
theorem dX12_conflict_84 : decode cX12_conflict 84 = .ok (.iaload, 1) := by decide +kernel
theorem dX12_conflict_85 : decode cX12_conflict 85 = .ok (.invokevirtual 217, 3) := by decide +kernel
theorem dX12_conflict_88 : decode cX12_conflict 88 = .ok (.iconst 1, 1) := by decide +kernel
theorem dX12_conflict_89 : decode cX12_conflict 89 = .ok (.iadd, 1) := by decide +kernel
theorem dX12_conflict_90 : decode cX12_conflict 90 = .ok (.ireturn, 1) := by decide +kernel
theorem dX12_conflict_91 : decode cX12_conflict 91 = .ok (.aload_n 0, 1) := by decide +kernel
theorem dX12_conflict_92 : decode cX12_conflict 92 = .ok (.getfield 183, 3) := by decide +kernel
theorem dX12_conflict_95 : decode cX12_conflict 95 = .ok (.iload_n 1, 1) := by decide +kernel
theorem dX12_conflict_96 : decode cX12_conflict 96 = .ok (.baload, 1) := by decide +kernel
theorem dX12_conflict_97 : decode cX12_conflict 97 = .ok (.ifCond .eq 7, 3) := by decide +kernel
theorem dX12_conflict_100 : decode cX12_conflict 100 = .ok (.iconst 1, 1) := by decide +kernel
theorem dX12_conflict_101 : decode cX12_conflict 101 = .ok (.goto 4, 3) := by decide +kernel
theorem dX12_conflict_104 : decode cX12_conflict 104 = .ok (.iconst 0, 1) := by decide +kernel
theorem dX12_conflict_105 : decode cX12_conflict 105 = .ok (.ireturn, 1) := by decide +kernel
theorem dX12_conflict_106 : decode cX12_conflict 106 = .ok (.iconst (-1), 1) := by decide +kernel
theorem dX12_conflict_107 : decode cX12_conflict 107 = .ok (.ireturn, 1) := by decide +kernel
set_option maxRecDepth 20000 in
theorem fl_X12_165 : FL RX12 165 12 91 true := ⟨RX12, TX12, cl_12, by decide, (gtb_in (List.mem_of_getElem? (i := 1736) (by decide +kernel)) (by decide +kernel)), rfl⟩
set_option maxRecDepth 20000 in
theorem fl_X12_168 : FL RX12 168 12 92 true := ⟨RX12, TX12, cl_12, by decide, (gtb_in (List.mem_of_getElem? (i := 1737) (by decide +kernel)) (by decide +kernel)), rfl⟩
set_option maxRecDepth 20000 in
theorem fl_X12_171 : FL RX12 171 12 93 true := ⟨RX12, TX12, cl_12, by decide, (gtb_in (List.mem_of_getElem? (i := 1738) (by decide +kernel)) (by decide +kernel)), rfl⟩
theorem dX12_choose_0 : decode cX12_choose 0 = .ok (.aload_n 0, 1) := by decide +kernel
theorem dX12_choose_1 : decode cX12_choose 1 = .ok (.iconst 0, 1) := by decide +kernel
theorem dX12_choose_2 : decode cX12_choose 2 = .ok (.putfield 202, 3) := by decide +kernel
theorem dX12_choose_5 : decode cX12_choose 5 = .ok (.iload_n 1, 1) := by decide +kernel
theorem dX12_choose_6 : decode cX12_choose 6 = .ok (.iconst 0, 1) := by decide +kernel
theorem dX12_choose_7 : decode cX12_choose 7 = .ok (.aload_n 0, 1) := by decide +kernel
theorem dX12_choose_8 : decode cX12_choose 8 = .ok (.getfield 868, 3) := by decide +kernel
theorem dX12_choose_11 : decode cX12_choose 11 = .ok (.iconst 1, 1) := by decide +kernel
theorem dX12_choose_12 : decode cX12_choose 12 = .ok (.isub, 1) := by decide +kernel
theorem dX12_choose_13 : decode cX12_choose 13 = .ok (.invokestatic 220, 3) := by decide +kernel
theorem dX12_choose_16 : decode cX12_choose 16 = .ok (.ifCond .ne 9, 3) := by decide +kernel
theorem dX12_choose_19 : decode cX12_choose 19 = .ok (.aload_n 0, 1) := by decide +kernel
theorem dX12_choose_20 : decode cX12_choose 20 = .ok (.iconst 1, 1) := by decide +kernel
theorem dX12_choose_21 : decode cX12_choose 21 = .ok (.invokevirtual 237, 3) := by decide +kernel
theorem dX12_choose_24 : decode cX12_choose 24 = .ok (.ireturn, 1) := by decide +kernel
theorem dX12_choose_25 : decode cX12_choose 25 = .ok (.aload_n 0, 1) := by decide +kernel
theorem dX12_choose_26 : decode cX12_choose 26 = .ok (.invokevirtual 340, 3) := by decide +kernel
theorem dX12_choose_29 : decode cX12_choose 29 = .ok (.istore_n 3, 1) := by decide +kernel
theorem dX12_choose_30 : decode cX12_choose 30 = .ok (.aload_n 0, 1) := by decide +kernel
theorem dX12_choose_31 : decode cX12_choose 31 = .ok (.getfield 183, 3) := by decide +kernel
theorem dX12_choose_34 : decode cX12_choose 34 = .ok (.iload_n 1, 1) := by decide +kernel
theorem dX12_choose_35 : decode cX12_choose 35 = .ok (.iconst 1, 1) := by decide +kernel
theorem dX12_choose_36 : decode cX12_choose 36 = .ok (.bastore, 1) := by decide +kernel
theorem dX12_choose_37 : decode cX12_choose 37 = .ok (.aload_n 0, 1) := by decide +kernel
theorem dX12_choose_38 : decode cX12_choose 38 = .ok (.getfield 165, 3) := by decide +kernel
theorem dX12_choose_41 : decode cX12_choose 41 = .ok (.iload_n 1, 1) := by decide +kernel
theorem dX12_choose_42 : decode cX12_choose 42 = .ok (.iaload, 1) := by decide +kernel
theorem dX12_choose_43 : decode cX12_choose 43 = .ok (.istore 4, 2) := by decide +kernel
theorem dX12_choose_45 : decode cX12_choose 45 = .ok (.aload_n 0, 1) := by decide +kernel
theorem dX12_choose_46 : decode cX12_choose 46 = .ok (.bipush 40, 2) := by decide +kernel
theorem dX12_choose_48 : decode cX12_choose 48 = .ok (.iconst 0, 1) := by decide +kernel
theorem dX12_choose_49 : decode cX12_choose 49 = .ok (.aload_n 0, 1) := by decide +kernel
theorem dX12_choose_50 : decode cX12_choose 50 = .ok (.getfield 168, 3) := by decide +kernel
theorem dX12_choose_53 : decode cX12_choose 53 = .ok (.iload_n 1, 1) := by decide +kernel
theorem dX12_choose_54 : decode cX12_choose 54 = .ok (.iaload, 1) := by decide +kernel
theorem dX12_choose_55 : decode cX12_choose 55 = .ok (.invokevirtual 217, 3) := by decide +kernel
theorem dX12_choose_58 : decode cX12_choose 58 = .ok (.istore 5, 2) := by decide +kernel
theorem dX12_choose_60 : decode cX12_choose 60 = .ok (.aload_n 0, 1) := by decide +kernel
theorem dX12_choose_61 : decode cX12_choose 61 = .ok (.bipush 40, 2) := by decide +kernel
theorem dX12_choose_63 : decode cX12_choose 63 = .ok (.iconst 1, 1) := by decide +kernel
theorem dX12_choose_64 : decode cX12_choose 64 = .ok (.aload_n 0, 1) := by decide +kernel
theorem dX12_choose_65 : decode cX12_choose 65 = .ok (.getfield 171, 3) := by decide +kernel
theorem dX12_choose_68 : decode cX12_choose 68 = .ok (.iload_n 1, 1) := by decide +kernel
theorem dX12_choose_69 : decode cX12_choose 69 = .ok (.iaload, 1) := by decide +kernel
theorem dX12_choose_70 : decode cX12_choose 70 = .ok (.invokevirtual 217, 3) := by decide +kernel
theorem dX12_choose_73 : decode cX12_choose 73 = .ok (.istore 6, 2) := by decide +kernel
theorem dX12_choose_75 : decode cX12_choose 75 = .ok (.iload 4, 2) := by decide +kernel
theorem dX12_choose_77 : decode cX12_choose 77 = .ok (.iconst 3, 1) := by decide +kernel
theorem dX12_choose_78 : decode cX12_choose 78 = .ok (.if_icmp .ne 47, 3) := by decide +kernel
theorem dX12_choose_81 : decode cX12_choose 81 = .ok (.iload 5, 2) := by decide +kernel
theorem dX12_choose_83 : decode cX12_choose 83 = .ok (.ifCond .lt 100, 3) := by decide +kernel
theorem dX12_choose_86 : decode cX12_choose 86 = .ok (.iload 6, 2) := by decide +kernel
theorem dX12_choose_88 : decode cX12_choose 88 = .ok (.ifCond .lt 95, 3) := by decide +kernel
theorem dX12_choose_91 : decode cX12_choose 91 = .ok (.aload_n 0, 1) := by decide +kernel
theorem dX12_choose_92 : decode cX12_choose 92 = .ok (.iload 5, 2) := by decide +kernel
theorem dX12_choose_94 : decode cX12_choose 94 = .ok (.iconst 1, 1) := by decide +kernel
theorem dX12_choose_95 : decode cX12_choose 95 = .ok (.iadd, 1) := by decide +kernel
theorem dX12_choose_96 : decode cX12_choose 96 = .ok (.iload 6, 2) := by decide +kernel
theorem dX12_choose_98 : decode cX12_choose 98 = .ok (.iconst 1, 1) := by decide +kernel
theorem dX12_choose_99 : decode cX12_choose 99 = .ok (.iadd, 1) := by decide +kernel
theorem dX12_choose_100 : decode cX12_choose 100 = .ok (.iload_n 2, 1) := by decide +kernel
theorem dX12_choose_101 : decode cX12_choose 101 = .ok (.ifCond .eq 12, 3) := by decide +kernel
theorem dX12_choose_104 : decode cX12_choose 104 = .ok (.aload_n 0, 1) := by decide +kernel
theorem dX12_choose_105 : decode cX12_choose 105 = .ok (.getfield 177, 3) := by decide +kernel
theorem dX12_choose_108 : decode cX12_choose 108 = .ok (.iload_n 1, 1) := by decide +kernel
theorem dX12_choose_109 : decode cX12_choose 109 = .ok (.iaload, 1) := by decide +kernel
theorem dX12_choose_110 : decode cX12_choose 110 = .ok (.goto 9, 3) := by decide +kernel
theorem dX12_choose_113 : decode cX12_choose 113 = .ok (.aload_n 0, 1) := by decide +kernel
theorem dX12_choose_114 : decode cX12_choose 114 = .ok (.getfield 174, 3) := by decide +kernel
theorem dX12_choose_117 : decode cX12_choose 117 = .ok (.iload_n 1, 1) := by decide +kernel
theorem dX12_choose_118 : decode cX12_choose 118 = .ok (.iaload, 1) := by decide +kernel
theorem dX12_choose_119 : decode cX12_choose 119 = .ok (.invokevirtual 343, 3) := by decide +kernel
theorem dX12_choose_122 : decode cX12_choose 122 = .ok (.goto 61, 3) := by decide +kernel
theorem dX12_choose_125 : decode cX12_choose 125 = .ok (.iload_n 2, 1) := by decide +kernel
theorem dX12_choose_126 : decode cX12_choose 126 = .ok (.aload_n 0, 1) := by decide +kernel
theorem dX12_choose_127 : decode cX12_choose 127 = .ok (.getfield 180, 3) := by decide +kernel
theorem dX12_choose_130 : decode cX12_choose 130 = .ok (.iload_n 1, 1) := by decide +kernel
theorem dX12_choose_131 : decode cX12_choose 131 = .ok (.baload, 1) := by decide +kernel
theorem dX12_choose_132 : decode cX12_choose 132 = .ok (.if_icmp .ne 51, 3) := by decide +kernel
theorem dX12_choose_135 : decode cX12_choose 135 = .ok (.iload 4, 2) := by decide +kernel
theorem dX12_choose_137 : decode cX12_choose 137 = .ok (.iconst 1, 1) := by decide +kernel
theorem dX12_choose_138 : decode cX12_choose 138 = .ok (.isub, 1) := by decide +kernel
theorem dX12_choose_139 : decode cX12_choose 139 = .ok (.istore 7, 2) := by decide +kernel
theorem dX12_choose_141 : decode cX12_choose 141 = .ok (.iload 7, 2) := by decide +kernel
theorem dX12_choose_143 : decode cX12_choose 143 = .ok (.ifCond .ne 8, 3) := by decide +kernel
theorem dX12_choose_146 : decode cX12_choose 146 = .ok (.iload 5, 2) := by decide +kernel
theorem dX12_choose_148 : decode cX12_choose 148 = .ok (.goto 5, 3) := by decide +kernel
theorem dX12_choose_151 : decode cX12_choose 151 = .ok (.iload 6, 2) := by decide +kernel
theorem dX12_choose_153 : decode cX12_choose 153 = .ok (.istore 8, 2) := by decide +kernel
theorem dX12_choose_155 : decode cX12_choose 155 = .ok (.iload 8, 2) := by decide +kernel
theorem dX12_choose_157 : decode cX12_choose 157 = .ok (.ifCond .lt 26, 3) := by decide +kernel
theorem dX12_choose_160 : decode cX12_choose 160 = .ok (.aload_n 0, 1) := by decide +kernel
theorem dX12_choose_161 : decode cX12_choose 161 = .ok (.bipush 40, 2) := by decide +kernel
theorem dX12_choose_163 : decode cX12_choose 163 = .ok (.iload 7, 2) := by decide +kernel
theorem dX12_choose_165 : decode cX12_choose 165 = .ok (.invokevirtual 209, 3) := by decide +kernel
theorem dX12_choose_168 : decode cX12_choose 168 = .ok (.iconst 1, 1) := by decide +kernel
theorem dX12_choose_169 : decode cX12_choose 169 = .ok (.if_icmp .le 14, 3) := by decide +kernel
theorem dX12_choose_172 : decode cX12_choose 172 = .ok (.aload_n 0, 1) := by decide +kernel
theorem dX12_choose_173 : decode cX12_choose 173 = .ok (.iload 7, 2) := by decide +kernel
theorem dX12_choose_175 : decode cX12_choose 175 = .ok (.iload 8, 2) := by decide +kernel
theorem dX12_choose_177 : decode cX12_choose 177 = .ok (.iconst 1, 1) := by decide +kernel
theorem dX12_choose_178 : decode cX12_choose 178 = .ok (.iadd, 1) := by decide +kernel
theorem dX12_choose_179 : decode cX12_choose 179 = .ok (.iload_n 3, 1) := by decide +kernel
theorem dX12_choose_180 : decode cX12_choose 180 = .ok (.invokevirtual 837, 3) := by decide +kernel
theorem dX12_choose_183 : decode cX12_choose 183 = .ok (.aload_n 0, 1) := by decide +kernel
theorem dX12_choose_184 : decode cX12_choose 184 = .ok (.invokevirtual 871, 3) := by decide +kernel
theorem dX12_choose_187 : decode cX12_choose 187 = .ok (.ireturn, 1) := by decide +kernel
set_option maxRecDepth 20000 in
theorem vl_X12_340 : VL RX12 340 12 mX12_step 0 := ⟨⟨qc_X12_step, (gtb_in (List.mem_of_getElem? (i := 2201) (by decide +kernel)) (by decide +kernel)), qi_X12_step, qs_X12_step, zw_12⟩, ⟨_, _, rfl⟩, by decide, qd_X12_step, by decide⟩
set_option maxRecDepth 20000 in
theorem fl_X12_177 : FL RX12 177 12 95 true := ⟨RX12, TX12, cl_12, by decide, (gtb_in (List.mem_of_getElem? (i := 1740) (by decide +kernel)) (by decide +kernel)), rfl⟩
set_option maxRecDepth 20000 in
theorem fl_X12_174 : FL RX12 174 12 94 true := ⟨RX12, TX12, cl_12, by decide, (gtb_in (List.mem_of_getElem? (i := 1739) (by decide +kernel)) (by decide +kernel)), rfl⟩
set_option maxRecDepth 20000 in
theorem vl_X12_343 : VL RX12 343 12 mX12_setCell 3 := ⟨⟨qc_X12_setCell, (gtb_in (List.mem_of_getElem? (i := 2205) (by decide +kernel)) (by decide +kernel)), qi_X12_setCell, qs_X12_setCell, zw_12⟩, ⟨_, _, rfl⟩, by decide, qd_X12_setCell, by decide⟩
set_option maxRecDepth 20000 in
theorem fl_X12_180 : FL RX12 180 12 96 true := ⟨RX12, TX12, cl_12, by decide, (gtb_in (List.mem_of_getElem? (i := 1741) (by decide +kernel)) (by decide +kernel)), rfl⟩
def mX12_goLine : MI := (yX12_goLine, cX12_goLine, 6, none)
theorem qc_X12_goLine : Cond.code mX12_goLine.1 mX12_goLine.2.1 mX12_goLine.2.2.1 mX12_goLine.2.2.2 ∈ gtb := (gtb_in (List.mem_of_getElem? (i := 2566) (by decide +kernel)) (by decide +kernel))
theorem qi_X12_goLine : Cond.instanceMethod mX12_goLine.1 ∈ gtb := (gtb_in (List.mem_of_getElem? (i := 2565) (by decide +kernel)) (by decide +kernel))
theorem qs_X12_goLine : Cond.selects mX12_goLine.1.cls mX12_goLine.1 mX12_goLine.1 ∈ gtb := (gtb_sel (q := (⟨"SheetBranchesModel", "goLine", "(III)V"⟩, 105)) (List.mem_of_getElem? (i := 208) (by decide +kernel)) (by decide +kernel))
theorem qd_X12_goLine : dsc mX12_goLine.1 3 := ⟨by decide +kernel, by decide +kernel, by decide +kernel⟩
set_option maxRecDepth 20000 in
theorem vl_X12_837 : VL RX12 837 12 mX12_goLine 3 := ⟨⟨qc_X12_goLine, (gtb_in (List.mem_of_getElem? (i := 2563) (by decide +kernel)) (by decide +kernel)), qi_X12_goLine, qs_X12_goLine, zw_12⟩, ⟨_, _, rfl⟩, by decide, qd_X12_goLine, by decide⟩
theorem dX12_difference_0 : decode cX12_difference 0 = .ok (.aload_n 0, 1) := by decide +kernel
theorem dX12_difference_1 : decode cX12_difference 1 = .ok (.iconst 0, 1) := by decide +kernel
theorem dX12_difference_2 : decode cX12_difference 2 = .ok (.putfield 202, 3) := by decide +kernel
theorem dX12_difference_5 : decode cX12_difference 5 = .ok (.iload_n 1, 1) := by decide +kernel
theorem dX12_difference_6 : decode cX12_difference 6 = .ok (.iconst 0, 1) := by decide +kernel
theorem dX12_difference_7 : decode cX12_difference 7 = .ok (.aload_n 0, 1) := by decide +kernel
theorem dX12_difference_8 : decode cX12_difference 8 = .ok (.getfield 939, 3) := by decide +kernel
theorem dX12_difference_11 : decode cX12_difference 11 = .ok (.iconst 1, 1) := by decide +kernel
theorem dX12_difference_12 : decode cX12_difference 12 = .ok (.isub, 1) := by decide +kernel
theorem dX12_difference_13 : decode cX12_difference 13 = .ok (.invokestatic 220, 3) := by decide +kernel
theorem dX12_difference_16 : decode cX12_difference 16 = .ok (.ifCond .ne 5, 3) := by decide +kernel
theorem dX12_difference_19 : decode cX12_difference 19 = .ok (.iconst (-1), 1) := by decide +kernel
theorem dX12_difference_20 : decode cX12_difference 20 = .ok (.ireturn, 1) := by decide +kernel
theorem dX12_difference_21 : decode cX12_difference 21 = .ok (.iload_n 2, 1) := by decide +kernel
theorem dX12_difference_22 : decode cX12_difference 22 = .ok (.ifCond .ne 12, 3) := by decide +kernel
theorem dX12_difference_25 : decode cX12_difference 25 = .ok (.aload_n 0, 1) := by decide +kernel
theorem dX12_difference_26 : decode cX12_difference 26 = .ok (.getfield 189, 3) := by decide +kernel
theorem dX12_difference_29 : decode cX12_difference 29 = .ok (.iload_n 1, 1) := by decide +kernel
theorem dX12_difference_30 : decode cX12_difference 30 = .ok (.iaload, 1) := by decide +kernel
theorem dX12_difference_31 : decode cX12_difference 31 = .ok (.goto 32, 3) := by decide +kernel
theorem dX12_difference_34 : decode cX12_difference 34 = .ok (.iload_n 2, 1) := by decide +kernel
theorem dX12_difference_35 : decode cX12_difference 35 = .ok (.iconst 1, 1) := by decide +kernel
theorem dX12_difference_36 : decode cX12_difference 36 = .ok (.if_icmp .ne 12, 3) := by decide +kernel
theorem dX12_difference_39 : decode cX12_difference 39 = .ok (.aload_n 0, 1) := by decide +kernel
theorem dX12_difference_40 : decode cX12_difference 40 = .ok (.getfield 192, 3) := by decide +kernel
theorem dX12_difference_43 : decode cX12_difference 43 = .ok (.iload_n 1, 1) := by decide +kernel
theorem dX12_difference_44 : decode cX12_difference 44 = .ok (.iaload, 1) := by decide +kernel
theorem dX12_difference_45 : decode cX12_difference 45 = .ok (.goto 18, 3) := by decide +kernel
theorem dX12_difference_48 : decode cX12_difference 48 = .ok (.iload_n 2, 1) := by decide +kernel
theorem dX12_difference_49 : decode cX12_difference 49 = .ok (.iconst 2, 1) := by decide +kernel
theorem dX12_difference_50 : decode cX12_difference 50 = .ok (.if_icmp .ne 12, 3) := by decide +kernel
theorem dX12_difference_53 : decode cX12_difference 53 = .ok (.aload_n 0, 1) := by decide +kernel
theorem dX12_difference_54 : decode cX12_difference 54 = .ok (.getfield 195, 3) := by decide +kernel
theorem dX12_difference_57 : decode cX12_difference 57 = .ok (.iload_n 1, 1) := by decide +kernel
theorem dX12_difference_58 : decode cX12_difference 58 = .ok (.iaload, 1) := by decide +kernel
theorem dX12_difference_59 : decode cX12_difference 59 = .ok (.goto 4, 3) := by decide +kernel
theorem dX12_difference_62 : decode cX12_difference 62 = .ok (.iconst (-1), 1) := by decide +kernel
theorem dX12_difference_63 : decode cX12_difference 63 = .ok (.ireturn, 1) := by decide +kernel
set_option maxRecDepth 20000 in
theorem fl_X12_939 : FL RX12 939 12 104 false := ⟨RX12, TX12, cl_12, by decide, (gtb_in (List.mem_of_getElem? (i := 1749) (by decide +kernel)) (by decide +kernel)), rfl⟩
set_option maxRecDepth 20000 in
theorem fl_X12_189 : FL RX12 189 12 101 true := ⟨RX12, TX12, cl_12, by decide, (gtb_in (List.mem_of_getElem? (i := 1746) (by decide +kernel)) (by decide +kernel)), rfl⟩
set_option maxRecDepth 20000 in
theorem fl_X12_192 : FL RX12 192 12 102 true := ⟨RX12, TX12, cl_12, by decide, (gtb_in (List.mem_of_getElem? (i := 1747) (by decide +kernel)) (by decide +kernel)), rfl⟩
set_option maxRecDepth 20000 in
theorem fl_X12_195 : FL RX12 195 12 103 true := ⟨RX12, TX12, cl_12, by decide, (gtb_in (List.mem_of_getElem? (i := 1748) (by decide +kernel)) (by decide +kernel)), rfl⟩
theorem dX12_drop_0 : decode cX12_drop 0 = .ok (.aload_n 0, 1) := by decide +kernel
theorem dX12_drop_1 : decode cX12_drop 1 = .ok (.iconst 0, 1) := by decide +kernel
theorem dX12_drop_2 : decode cX12_drop 2 = .ok (.putfield 202, 3) := by decide +kernel
theorem dX12_drop_5 : decode cX12_drop 5 = .ok (.aload_n 0, 1) := by decide +kernel
theorem dX12_drop_6 : decode cX12_drop 6 = .ok (.aload_n 0, 1) := by decide +kernel
theorem dX12_drop_7 : decode cX12_drop 7 = .ok (.invokevirtual 860, 3) := by decide +kernel
theorem dX12_drop_10 : decode cX12_drop 10 = .ok (.invokevirtual 880, 3) := by decide +kernel
theorem dX12_drop_13 : decode cX12_drop 13 = .ok (.aload_n 0, 1) := by decide +kernel
theorem dX12_drop_14 : decode cX12_drop 14 = .ok (.invokevirtual 860, 3) := by decide +kernel
theorem dX12_drop_17 : decode cX12_drop 17 = .ok (.ireturn, 1) := by decide +kernel
set_option maxRecDepth 20000 in
theorem vl_X12_880 : VL RX12 880 12 mX12_become 1 := ⟨⟨qc_X12_become, (gtb_in (List.mem_of_getElem? (i := 2638) (by decide +kernel)) (by decide +kernel)), qi_X12_become, qs_X12_become, zw_12⟩, ⟨_, _, rfl⟩, by decide, qd_X12_become, by decide⟩
theorem dX12_become_0 : decode cX12_become 0 = .ok (.aload_n 0, 1) := by decide +kernel
theorem dX12_become_1 : decode cX12_become 1 = .ok (.iload_n 1, 1) := by decide +kernel
theorem dX12_become_2 : decode cX12_become 2 = .ok (.bipush 40, 2) := by decide +kernel
theorem dX12_become_4 : decode cX12_become 4 = .ok (.invokevirtual 198, 3) := by decide +kernel
theorem dX12_become_7 : decode cX12_become 7 = .ok (.aload_n 0, 1) := by decide +kernel
theorem dX12_become_8 : decode cX12_become 8 = .ok (.iconst (-1), 1) := by decide +kernel
theorem dX12_become_9 : decode cX12_become 9 = .ok (.putfield 45, 3) := by decide +kernel
theorem dX12_become_12 : decode cX12_become 12 = .ok (.aload_n 0, 1) := by decide +kernel
theorem dX12_become_13 : decode cX12_become 13 = .ok (.iconst 0, 1) := by decide +kernel
theorem dX12_become_14 : decode cX12_become 14 = .ok (.putfield 868, 3) := by decide +kernel
theorem dX12_become_17 : decode cX12_become 17 = .ok (.aload_n 0, 1) := by decide +kernel
theorem dX12_become_18 : decode cX12_become 18 = .ok (.invokevirtual 874, 3) := by decide +kernel
theorem dX12_become_21 : decode cX12_become 21 = .ok (.return_, 1) := by decide +kernel
set_option maxRecDepth 20000 in
theorem vl_X12_874 : VL RX12 874 12 mX12_forgetSteps 0 := ⟨⟨qc_X12_forgetSteps, (gtb_in (List.mem_of_getElem? (i := 2642) (by decide +kernel)) (by decide +kernel)), qi_X12_forgetSteps, qs_X12_forgetSteps, zw_12⟩, ⟨_, _, rfl⟩, by decide, qd_X12_forgetSteps, by decide⟩
