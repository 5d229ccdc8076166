def mX12_goesThrough : MI := (yX12_goesThrough, cX12_goesThrough, 2, none)
theorem qc_X12_goesThrough : Cond.code mX12_goesThrough.1 mX12_goesThrough.2.1 mX12_goesThrough.2.2.1 mX12_goesThrough.2.2.2 ∈ gtb := (gtb_in (List.mem_of_getElem? (i := 2284) (by decide +kernel)) (by decide +kernel))
theorem qi_X12_goesThrough : Cond.instanceMethod mX12_goesThrough.1 ∈ gtb := (gtb_in (List.mem_of_getElem? (i := 2283) (by decide +kernel)) (by decide +kernel))
theorem qs_X12_goesThrough : Cond.selects mX12_goesThrough.1.cls mX12_goesThrough.1 mX12_goesThrough.1 ∈ gtb := (gtb_sel (q := (⟨"SheetBranchesModel", "goesThrough", "(I)V"⟩, 105)) (List.mem_of_getElem? (i := 153) (by decide +kernel)) (by decide +kernel))
theorem qd_X12_goesThrough : dsc mX12_goesThrough.1 1 := ⟨by decide +kernel, by decide +kernel, by decide +kernel⟩
def mX12_plainValue : MI := (yX12_plainValue, cX12_plainValue, 4, none)
theorem qc_X12_plainValue : Cond.code mX12_plainValue.1 mX12_plainValue.2.1 mX12_plainValue.2.2.1 mX12_plainValue.2.2.2 ∈ gtb := (gtb_in (List.mem_of_getElem? (i := 2288) (by decide +kernel)) (by decide +kernel))
theorem qi_X12_plainValue : Cond.instanceMethod mX12_plainValue.1 ∈ gtb := (gtb_in (List.mem_of_getElem? (i := 2287) (by decide +kernel)) (by decide +kernel))
theorem qs_X12_plainValue : Cond.selects mX12_plainValue.1.cls mX12_plainValue.1 mX12_plainValue.1 ∈ gtb := (gtb_sel (q := (⟨"SheetBranchesModel", "plainValue", "(II)V"⟩, 105)) (List.mem_of_getElem? (i := 154) (by decide +kernel)) (by decide +kernel))
theorem qd_X12_plainValue : dsc mX12_plainValue.1 2 := ⟨by decide +kernel, by decide +kernel, by decide +kernel⟩
def mX12_store : MI := (yX12_store, cX12_store, 4, none)
theorem qc_X12_store : Cond.code mX12_store.1 mX12_store.2.1 mX12_store.2.2.1 mX12_store.2.2.2 ∈ gtb := (gtb_in (List.mem_of_getElem? (i := 2296) (by decide +kernel)) (by decide +kernel))
theorem qi_X12_store : Cond.instanceMethod mX12_store.1 ∈ gtb := (gtb_in (List.mem_of_getElem? (i := 2295) (by decide +kernel)) (by decide +kernel))
theorem qs_X12_store : Cond.selects mX12_store.1.cls mX12_store.1 mX12_store.1 ∈ gtb := (gtb_sel (q := (⟨"SheetBranchesModel", "store", "(II)V"⟩, 105)) (List.mem_of_getElem? (i := 156) (by decide +kernel)) (by decide +kernel))
theorem qd_X12_store : dsc mX12_store.1 2 := ⟨by decide +kernel, by decide +kernel, by decide +kernel⟩
def mX12_close : MI := (yX12_close, cX12_close, 4, none)
theorem qc_X12_close : Cond.code mX12_close.1 mX12_close.2.1 mX12_close.2.2.1 mX12_close.2.2.2 ∈ gtb := (gtb_in (List.mem_of_getElem? (i := 2300) (by decide +kernel)) (by decide +kernel))
theorem qi_X12_close : Cond.instanceMethod mX12_close.1 ∈ gtb := (gtb_in (List.mem_of_getElem? (i := 2299) (by decide +kernel)) (by decide +kernel))
theorem qs_X12_close : Cond.selects mX12_close.1.cls mX12_close.1 mX12_close.1 ∈ gtb := (gtb_sel (q := (⟨"SheetBranchesModel", "close", "()V"⟩, 105)) (List.mem_of_getElem? (i := 157) (by decide +kernel)) (by decide +kernel))
theorem qd_X12_close : dsc mX12_close.1 0 := ⟨by decide +kernel, by decide +kernel, by decide +kernel⟩
def mX12_bit : MI := (yX12_bit, cX12_bit, 3, (some .boolean))
theorem qc_X12_bit : Cond.code mX12_bit.1 mX12_bit.2.1 mX12_bit.2.2.1 mX12_bit.2.2.2 ∈ gtb := (gtb_in (List.mem_of_getElem? (i := 2303) (by decide +kernel)) (by decide +kernel))
theorem qt_X12_bit : Cond.static mX12_bit.1 ∈ gtb := (gtb_in (List.mem_of_getElem? (i := 2302) (by decide +kernel)) (by decide +kernel))
theorem qd_X12_bit : dsc mX12_bit.1 3 := ⟨by decide +kernel, by decide +kernel, by decide +kernel⟩
def mX12_valuesOf : MI := (yX12_valuesOf, cX12_valuesOf, 4, none)
theorem qc_X12_valuesOf : Cond.code mX12_valuesOf.1 mX12_valuesOf.2.1 mX12_valuesOf.2.2.1 mX12_valuesOf.2.2.2 ∈ gtb := (gtb_in (List.mem_of_getElem? (i := 2235) (by decide +kernel)) (by decide +kernel))
theorem qi_X12_valuesOf : Cond.instanceMethod mX12_valuesOf.1 ∈ gtb := (gtb_in (List.mem_of_getElem? (i := 2234) (by decide +kernel)) (by decide +kernel))
theorem qs_X12_valuesOf : Cond.selects mX12_valuesOf.1.cls mX12_valuesOf.1 mX12_valuesOf.1 ∈ gtb := (gtb_sel (q := (⟨"SheetBranchesModel", "valuesOf", "(I)V"⟩, 105)) (List.mem_of_getElem? (i := 143) (by decide +kernel)) (by decide +kernel))
theorem qd_X12_valuesOf : dsc mX12_valuesOf.1 1 := ⟨by decide +kernel, by decide +kernel, by decide +kernel⟩
def mX12_needValues : MI := (yX12_needValues, cX12_needValues, 4, none)
theorem qc_X12_needValues : Cond.code mX12_needValues.1 mX12_needValues.2.1 mX12_needValues.2.2.1 mX12_needValues.2.2.2 ∈ gtb := (gtb_in (List.mem_of_getElem? (i := 2231) (by decide +kernel)) (by decide +kernel))
theorem qi_X12_needValues : Cond.instanceMethod mX12_needValues.1 ∈ gtb := (gtb_in (List.mem_of_getElem? (i := 2230) (by decide +kernel)) (by decide +kernel))
theorem qs_X12_needValues : Cond.selects mX12_needValues.1.cls mX12_needValues.1 mX12_needValues.1 ∈ gtb := (gtb_sel (q := (⟨"SheetBranchesModel", "needValues", "(I)V"⟩, 105)) (List.mem_of_getElem? (i := 142) (by decide +kernel)) (by decide +kernel))
theorem qd_X12_needValues : dsc mX12_needValues.1 1 := ⟨by decide +kernel, by decide +kernel, by decide +kernel⟩
def mX12_kind : MI := (yX12_kind, cX12_kind, 5, (some .int))
theorem qc_X12_kind : Cond.code mX12_kind.1 mX12_kind.2.1 mX12_kind.2.2.1 mX12_kind.2.2.2 ∈ gtb := (gtb_in (List.mem_of_getElem? (i := 2216) (by decide +kernel)) (by decide +kernel))
theorem qi_X12_kind : Cond.instanceMethod mX12_kind.1 ∈ gtb := (gtb_in (List.mem_of_getElem? (i := 2214) (by decide +kernel)) (by decide +kernel))
theorem qs_X12_kind : Cond.selects mX12_kind.1.cls mX12_kind.1 mX12_kind.1 ∈ gtb := (gtb_in (List.mem_of_getElem? (i := 2215) (by decide +kernel)) (by decide +kernel))
theorem qd_X12_kind : dsc mX12_kind.1 3 := ⟨by decide +kernel, by decide +kernel, by decide +kernel⟩
def mX12_value : MI := (yX12_value, cX12_value, 5, (some .long))
theorem qc_X12_value : Cond.code mX12_value.1 mX12_value.2.1 mX12_value.2.2.1 mX12_value.2.2.2 ∈ gtb := (gtb_in (List.mem_of_getElem? (i := 2454) (by decide +kernel)) (by decide +kernel))
theorem qi_X12_value : Cond.instanceMethod mX12_value.1 ∈ gtb := (gtb_in (List.mem_of_getElem? (i := 2452) (by decide +kernel)) (by decide +kernel))
theorem qs_X12_value : Cond.selects mX12_value.1.cls mX12_value.1 mX12_value.1 ∈ gtb := (gtb_in (List.mem_of_getElem? (i := 2453) (by decide +kernel)) (by decide +kernel))
theorem qd_X12_value : dsc mX12_value.1 3 := ⟨by decide +kernel, by decide +kernel, by decide +kernel⟩
def mX12_letter : MI := (yX12_letter, cX12_letter, 6, (some .int))
theorem qc_X12_letter : Cond.code mX12_letter.1 mX12_letter.2.1 mX12_letter.2.2.1 mX12_letter.2.2.2 ∈ gtb := (gtb_in (List.mem_of_getElem? (i := 2458) (by decide +kernel)) (by decide +kernel))
theorem qi_X12_letter : Cond.instanceMethod mX12_letter.1 ∈ gtb := (gtb_in (List.mem_of_getElem? (i := 2456) (by decide +kernel)) (by decide +kernel))
theorem qs_X12_letter : Cond.selects mX12_letter.1.cls mX12_letter.1 mX12_letter.1 ∈ gtb := (gtb_in (List.mem_of_getElem? (i := 2457) (by decide +kernel)) (by decide +kernel))
theorem qd_X12_letter : dsc mX12_letter.1 4 := ⟨by decide +kernel, by decide +kernel, by decide +kernel⟩
def mX12_written : MI := (yX12_written, cX12_written, 5, (some .int))
theorem qc_X12_written : Cond.code mX12_written.1 mX12_written.2.1 mX12_written.2.2.1 mX12_written.2.2.2 ∈ gtb := (gtb_in (List.mem_of_getElem? (i := 2462) (by decide +kernel)) (by decide +kernel))
theorem qi_X12_written : Cond.instanceMethod mX12_written.1 ∈ gtb := (gtb_in (List.mem_of_getElem? (i := 2460) (by decide +kernel)) (by decide +kernel))
theorem qs_X12_written : Cond.selects mX12_written.1.cls mX12_written.1 mX12_written.1 ∈ gtb := (gtb_in (List.mem_of_getElem? (i := 2461) (by decide +kernel)) (by decide +kernel))
theorem qd_X12_written : dsc mX12_written.1 4 := ⟨by decide +kernel, by decide +kernel, by decide +kernel⟩
def mX12_write : MI := (yX12_write, cX12_write, 4, none)
theorem qc_X12_write : Cond.code mX12_write.1 mX12_write.2.1 mX12_write.2.2.1 mX12_write.2.2.2 ∈ gtb := (gtb_in (List.mem_of_getElem? (i := 2470) (by decide +kernel)) (by decide +kernel))
theorem qi_X12_write : Cond.instanceMethod mX12_write.1 ∈ gtb := (gtb_in (List.mem_of_getElem? (i := 2469) (by decide +kernel)) (by decide +kernel))
theorem qs_X12_write : Cond.selects mX12_write.1.cls mX12_write.1 mX12_write.1 ∈ gtb := (gtb_sel (q := (⟨"SheetBranchesModel", "write", "(II)V"⟩, 105)) (List.mem_of_getElem? (i := 193) (by decide +kernel)) (by decide +kernel))
theorem qd_X12_write : dsc mX12_write.1 2 := ⟨by decide +kernel, by decide +kernel, by decide +kernel⟩
def mX12_isAhead : MI := (yX12_isAhead, cX12_isAhead, 7, (some .boolean))
theorem qc_X12_isAhead : Cond.code mX12_isAhead.1 mX12_isAhead.2.1 mX12_isAhead.2.2.1 mX12_isAhead.2.2.2 ∈ gtb := (gtb_in (List.mem_of_getElem? (i := 2594) (by decide +kernel)) (by decide +kernel))
theorem qi_X12_isAhead : Cond.instanceMethod mX12_isAhead.1 ∈ gtb := (gtb_in (List.mem_of_getElem? (i := 2593) (by decide +kernel)) (by decide +kernel))
theorem qs_X12_isAhead : Cond.selects mX12_isAhead.1.cls mX12_isAhead.1 mX12_isAhead.1 ∈ gtb := (gtb_sel (q := (⟨"SheetBranchesModel", "isAhead", "(IIZ)Z"⟩, 105)) (List.mem_of_getElem? (i := 212) (by decide +kernel)) (by decide +kernel))
theorem qd_X12_isAhead : dsc mX12_isAhead.1 3 := ⟨by decide +kernel, by decide +kernel, by decide +kernel⟩
def mX12_rank : MI := (yX12_rank, cX12_rank, 1, (some .int))
theorem qc_X12_rank : Cond.code mX12_rank.1 mX12_rank.2.1 mX12_rank.2.2.1 mX12_rank.2.2.2 ∈ gtb := (gtb_in (List.mem_of_getElem? (i := 2597) (by decide +kernel)) (by decide +kernel))
theorem qt_X12_rank : Cond.static mX12_rank.1 ∈ gtb := (gtb_in (List.mem_of_getElem? (i := 2596) (by decide +kernel)) (by decide +kernel))
theorem qd_X12_rank : dsc mX12_rank.1 1 := ⟨by decide +kernel, by decide +kernel, by decide +kernel⟩
def mX12_sort : MI := (yX12_sort, cX12_sort, 10, (some .int))
theorem qc_X12_sort : Cond.code mX12_sort.1 mX12_sort.2.1 mX12_sort.2.2.1 mX12_sort.2.2.2 ∈ gtb := (gtb_in (List.mem_of_getElem? (i := 2590) (by decide +kernel)) (by decide +kernel))
theorem qi_X12_sort : Cond.instanceMethod mX12_sort.1 ∈ gtb := (gtb_in (List.mem_of_getElem? (i := 2588) (by decide +kernel)) (by decide +kernel))
theorem qs_X12_sort : Cond.selects mX12_sort.1.cls mX12_sort.1 mX12_sort.1 ∈ gtb := (gtb_in (List.mem_of_getElem? (i := 2589) (by decide +kernel)) (by decide +kernel))
theorem qd_X12_sort : dsc mX12_sort.1 4 := ⟨by decide +kernel, by decide +kernel, by decide +kernel⟩
def mX12_copy : MI := (yX12_copy, cX12_copy, 13, (some .int))
theorem qc_X12_copy : Cond.code mX12_copy.1 mX12_copy.2.1 mX12_copy.2.2.1 mX12_copy.2.2.2 ∈ gtb := (gtb_in (List.mem_of_getElem? (i := 2574) (by decide +kernel)) (by decide +kernel))
theorem qi_X12_copy : Cond.instanceMethod mX12_copy.1 ∈ gtb := (gtb_in (List.mem_of_getElem? (i := 2572) (by decide +kernel)) (by decide +kernel))
theorem qs_X12_copy : Cond.selects mX12_copy.1.cls mX12_copy.1 mX12_copy.1 ∈ gtb := (gtb_in (List.mem_of_getElem? (i := 2573) (by decide +kernel)) (by decide +kernel))
theorem qd_X12_copy : dsc mX12_copy.1 6 := ⟨by decide +kernel, by decide +kernel, by decide +kernel⟩
def mX12_feed : MI := (yX12_feed, cX12_feed, 8, (some .int))
theorem qc_X12_feed : Cond.code mX12_feed.1 mX12_feed.2.1 mX12_feed.2.2.1 mX12_feed.2.2.2 ∈ gtb := (gtb_in (List.mem_of_getElem? (i := 1985) (by decide +kernel)) (by decide +kernel))
theorem qi_X12_feed : Cond.instanceMethod mX12_feed.1 ∈ gtb := (gtb_in (List.mem_of_getElem? (i := 1983) (by decide +kernel)) (by decide +kernel))
theorem qs_X12_feed : Cond.selects mX12_feed.1.cls mX12_feed.1 mX12_feed.1 ∈ gtb := (gtb_in (List.mem_of_getElem? (i := 1984) (by decide +kernel)) (by decide +kernel))
theorem qd_X12_feed : dsc mX12_feed.1 5 := ⟨by decide +kernel, by decide +kernel, by decide +kernel⟩
def mX12_enter : MI := (yX12_enter, cX12_enter, 6, (some .int))
theorem qc_X12_enter : Cond.code mX12_enter.1 mX12_enter.2.1 mX12_enter.2.2.1 mX12_enter.2.2.2 ∈ gtb := (gtb_in (List.mem_of_getElem? (i := 1996) (by decide +kernel)) (by decide +kernel))
theorem qi_X12_enter : Cond.instanceMethod mX12_enter.1 ∈ gtb := (gtb_in (List.mem_of_getElem? (i := 1994) (by decide +kernel)) (by decide +kernel))
theorem qs_X12_enter : Cond.selects mX12_enter.1.cls mX12_enter.1 mX12_enter.1 ∈ gtb := (gtb_in (List.mem_of_getElem? (i := 1995) (by decide +kernel)) (by decide +kernel))
theorem qd_X12_enter : dsc mX12_enter.1 2 := ⟨by decide +kernel, by decide +kernel, by decide +kernel⟩
def mX12_plainEntered : MI := (yX12_plainEntered, cX12_plainEntered, 5, (some .int))
theorem qc_X12_plainEntered : Cond.code mX12_plainEntered.1 mX12_plainEntered.2.1 mX12_plainEntered.2.2.1 mX12_plainEntered.2.2.2 ∈ gtb := (gtb_in (List.mem_of_getElem? (i := 2190) (by decide +kernel)) (by decide +kernel))
theorem qi_X12_plainEntered : Cond.instanceMethod mX12_plainEntered.1 ∈ gtb := (gtb_in (List.mem_of_getElem? (i := 2189) (by decide +kernel)) (by decide +kernel))
theorem qs_X12_plainEntered : Cond.selects mX12_plainEntered.1.cls mX12_plainEntered.1 mX12_plainEntered.1 ∈ gtb := (gtb_sel (q := (⟨"SheetBranchesModel", "plainEntered", "()I"⟩, 105)) (List.mem_of_getElem? (i := 135) (by decide +kernel)) (by decide +kernel))
theorem qd_X12_plainEntered : dsc mX12_plainEntered.1 0 := ⟨by decide +kernel, by decide +kernel, by decide +kernel⟩
def mX12_diff : MI := (yX12_diff, cX12_diff, 9, (some .int))
theorem qc_X12_diff : Cond.code mX12_diff.1 mX12_diff.2.1 mX12_diff.2.2.1 mX12_diff.2.2.2 ∈ gtb := (gtb_in (List.mem_of_getElem? (i := 2731) (by decide +kernel)) (by decide +kernel))
theorem qi_X12_diff : Cond.instanceMethod mX12_diff.1 ∈ gtb := (gtb_in (List.mem_of_getElem? (i := 2729) (by decide +kernel)) (by decide +kernel))
theorem qs_X12_diff : Cond.selects mX12_diff.1.cls mX12_diff.1 mX12_diff.1 ∈ gtb := (gtb_in (List.mem_of_getElem? (i := 2730) (by decide +kernel)) (by decide +kernel))
theorem qd_X12_diff : dsc mX12_diff.1 2 := ⟨by decide +kernel, by decide +kernel, by decide +kernel⟩
def mX12_linesAlone : MI := (yX12_linesAlone, cX12_linesAlone, 6, none)
theorem qc_X12_linesAlone : Cond.code mX12_linesAlone.1 mX12_linesAlone.2.1 mX12_linesAlone.2.2.1 mX12_linesAlone.2.2.2 ∈ gtb := (gtb_in (List.mem_of_getElem? (i := 2735) (by decide +kernel)) (by decide +kernel))
theorem qi_X12_linesAlone : Cond.instanceMethod mX12_linesAlone.1 ∈ gtb := (gtb_in (List.mem_of_getElem? (i := 2734) (by decide +kernel)) (by decide +kernel))
theorem qs_X12_linesAlone : Cond.selects mX12_linesAlone.1.cls mX12_linesAlone.1 mX12_linesAlone.1 ∈ gtb := (gtb_sel (q := (⟨"SheetBranchesModel", "linesAlone", "(IIII)V"⟩, 105)) (List.mem_of_getElem? (i := 236) (by decide +kernel)) (by decide +kernel))
theorem qd_X12_linesAlone : dsc mX12_linesAlone.1 4 := ⟨by decide +kernel, by decide +kernel, by decide +kernel⟩
def mX12_sameOrder : MI := (yX12_sameOrder, cX12_sameOrder, 9, (some .boolean))
theorem qc_X12_sameOrder : Cond.code mX12_sameOrder.1 mX12_sameOrder.2.1 mX12_sameOrder.2.2.1 mX12_sameOrder.2.2.2 ∈ gtb := (gtb_in (List.mem_of_getElem? (i := 2682) (by decide +kernel)) (by decide +kernel))
theorem qi_X12_sameOrder : Cond.instanceMethod mX12_sameOrder.1 ∈ gtb := (gtb_in (List.mem_of_getElem? (i := 2681) (by decide +kernel)) (by decide +kernel))
theorem qs_X12_sameOrder : Cond.selects mX12_sameOrder.1.cls mX12_sameOrder.1 mX12_sameOrder.1 ∈ gtb := (gtb_sel (q := (⟨"SheetBranchesModel", "sameOrder", "(IIII)Z"⟩, 105)) (List.mem_of_getElem? (i := 227) (by decide +kernel)) (by decide +kernel))
theorem qd_X12_sameOrder : dsc mX12_sameOrder.1 4 := ⟨by decide +kernel, by decide +kernel, by decide +kernel⟩
def mX12_init : MI := (yX12_init, cX12_init, 2, none)
theorem qc_X12_init : Cond.code mX12_init.1 mX12_init.2.1 mX12_init.2.2.1 mX12_init.2.2.2 ∈ gtb := (gtb_in (List.mem_of_getElem? (i := 1635) (by decide +kernel)) (by decide +kernel))
theorem qi_X12_init : Cond.instanceMethod mX12_init.1 ∈ gtb := (gtb_in (List.mem_of_getElem? (i := 1634) (by decide +kernel)) (by decide +kernel))
theorem qd_X12_init : dsc mX12_init.1 0 := ⟨by decide +kernel, by decide +kernel, by decide +kernel⟩
theorem dX12_goesThrough_0 : decode cX12_goesThrough 0 = .ok (.aload_n 0, 1) := by decide +kernel
theorem dX12_goesThrough_1 : decode cX12_goesThrough 1 = .ok (.getfield 147, 3) := by decide +kernel
theorem dX12_goesThrough_4 : decode cX12_goesThrough 4 = .ok (.iload_n 1, 1) := by decide +kernel
theorem dX12_goesThrough_5 : decode cX12_goesThrough 5 = .ok (.iconst 1, 1) := by decide +kernel
theorem dX12_goesThrough_6 : decode cX12_goesThrough 6 = .ok (.bastore, 1) := by decide +kernel
theorem dX12_goesThrough_7 : decode cX12_goesThrough 7 = .ok (.aload_n 0, 1) := by decide +kernel
theorem dX12_goesThrough_8 : decode cX12_goesThrough 8 = .ok (.getfield 150, 3) := by decide +kernel
theorem dX12_goesThrough_11 : decode cX12_goesThrough 11 = .ok (.iload_n 1, 1) := by decide +kernel
theorem dX12_goesThrough_12 : decode cX12_goesThrough 12 = .ok (.bipush 64, 2) := by decide +kernel
theorem dX12_goesThrough_14 : decode cX12_goesThrough 14 = .ok (.idiv, 1) := by decide +kernel
theorem dX12_goesThrough_15 : decode cX12_goesThrough 15 = .ok (.dup2, 1) := by decide +kernel
theorem dX12_goesThrough_16 : decode cX12_goesThrough 16 = .ok (.laload, 1) := by decide +kernel
theorem dX12_goesThrough_17 : decode cX12_goesThrough 17 = .ok (.lconst 1, 1) := by decide +kernel
theorem dX12_goesThrough_18 : decode cX12_goesThrough 18 = .ok (.iload_n 1, 1) := by decide +kernel
theorem dX12_goesThrough_19 : decode cX12_goesThrough 19 = .ok (.bipush 64, 2) := by decide +kernel
theorem dX12_goesThrough_21 : decode cX12_goesThrough 21 = .ok (.irem, 1) := by decide +kernel
theorem dX12_goesThrough_22 : decode cX12_goesThrough 22 = .ok (.lshl, 1) := by decide +kernel
theorem dX12_goesThrough_23 : decode cX12_goesThrough 23 = .ok (.lor, 1) := by decide +kernel
theorem dX12_goesThrough_24 : decode cX12_goesThrough 24 = .ok (.lastore, 1) := by decide +kernel
theorem dX12_goesThrough_25 : decode cX12_goesThrough 25 = .ok (.return_, 1) := by decide +kernel
set_option maxRecDepth 20000 in
theorem fl_X12_147 : FL RX12 147 12 84 true := ⟨RX12, TX12, cl_12, by decide, (gtb_in (List.mem_of_getElem? (i := 1729) (by decide +kernel)) (by decide +kernel)), rfl⟩
set_option maxRecDepth 20000 in
theorem fl_X12_150 : FL RX12 150 12 85 true := ⟨RX12, TX12, cl_12, by decide, (gtb_in (List.mem_of_getElem? (i := 1730) (by decide +kernel)) (by decide +kernel)), rfl⟩
theorem dX12_plainValue_0 : decode cX12_plainValue 0 = .ok (.iload_n 1, 1) := by decide +kernel
theorem dX12_plainValue_1 : decode cX12_plainValue 1 = .ok (.ldc 240, 2) := by decide +kernel
theorem dX12_plainValue_3 : decode cX12_plainValue 3 = .ok (.isub, 1) := by decide +kernel
theorem dX12_plainValue_4 : decode cX12_plainValue 4 = .ok (.istore_n 3, 1) := by decide +kernel
theorem dX12_plainValue_5 : decode cX12_plainValue 5 = .ok (.iload_n 1, 1) := by decide +kernel
theorem dX12_plainValue_6 : decode cX12_plainValue 6 = .ok (.ifCond .ne 20, 3) := by decide +kernel
theorem dX12_plainValue_9 : decode cX12_plainValue 9 = .ok (.aload_n 0, 1) := by decide +kernel
theorem dX12_plainValue_10 : decode cX12_plainValue 10 = .ok (.getfield 126, 3) := by decide +kernel
theorem dX12_plainValue_13 : decode cX12_plainValue 13 = .ok (.iconst 0, 1) := by decide +kernel
theorem dX12_plainValue_14 : decode cX12_plainValue 14 = .ok (.iconst 0, 1) := by decide +kernel
theorem dX12_plainValue_15 : decode cX12_plainValue 15 = .ok (.iastore, 1) := by decide +kernel
theorem dX12_plainValue_16 : decode cX12_plainValue 16 = .ok (.aload_n 0, 1) := by decide +kernel
theorem dX12_plainValue_17 : decode cX12_plainValue 17 = .ok (.getfield 129, 3) := by decide +kernel
theorem dX12_plainValue_20 : decode cX12_plainValue 20 = .ok (.iconst 0, 1) := by decide +kernel
theorem dX12_plainValue_21 : decode cX12_plainValue 21 = .ok (.lconst 0, 1) := by decide +kernel
theorem dX12_plainValue_22 : decode cX12_plainValue 22 = .ok (.lastore, 1) := by decide +kernel
theorem dX12_plainValue_23 : decode cX12_plainValue 23 = .ok (.goto 61, 3) := by decide +kernel
theorem dX12_plainValue_26 : decode cX12_plainValue 26 = .ok (.aload_n 0, 1) := by decide +kernel
theorem dX12_plainValue_27 : decode cX12_plainValue 27 = .ok (.getfield 53, 3) := by decide +kernel
theorem dX12_plainValue_30 : decode cX12_plainValue 30 = .ok (.iload_n 3, 1) := by decide +kernel
theorem dX12_plainValue_31 : decode cX12_plainValue 31 = .ok (.iaload, 1) := by decide +kernel
theorem dX12_plainValue_32 : decode cX12_plainValue 32 = .ok (.iconst 2, 1) := by decide +kernel
theorem dX12_plainValue_33 : decode cX12_plainValue 33 = .ok (.if_icmp .ne 27, 3) := by decide +kernel
theorem dX12_plainValue_36 : decode cX12_plainValue 36 = .ok (.aload_n 0, 1) := by decide +kernel
theorem dX12_plainValue_37 : decode cX12_plainValue 37 = .ok (.iconst 0, 1) := by decide +kernel
theorem dX12_plainValue_38 : decode cX12_plainValue 38 = .ok (.aload_n 0, 1) := by decide +kernel
theorem dX12_plainValue_39 : decode cX12_plainValue 39 = .ok (.getfield 49, 3) := by decide +kernel
theorem dX12_plainValue_42 : decode cX12_plainValue 42 = .ok (.aload_n 0, 1) := by decide +kernel
theorem dX12_plainValue_43 : decode cX12_plainValue 43 = .ok (.getfield 60, 3) := by decide +kernel
theorem dX12_plainValue_46 : decode cX12_plainValue 46 = .ok (.iload_n 3, 1) := by decide +kernel
theorem dX12_plainValue_47 : decode cX12_plainValue 47 = .ok (.iaload, 1) := by decide +kernel
theorem dX12_plainValue_48 : decode cX12_plainValue 48 = .ok (.aload_n 0, 1) := by decide +kernel
theorem dX12_plainValue_49 : decode cX12_plainValue 49 = .ok (.getfield 63, 3) := by decide +kernel
theorem dX12_plainValue_52 : decode cX12_plainValue 52 = .ok (.iload_n 3, 1) := by decide +kernel
theorem dX12_plainValue_53 : decode cX12_plainValue 53 = .ok (.iaload, 1) := by decide +kernel
theorem dX12_plainValue_54 : decode cX12_plainValue 54 = .ok (.invokevirtual 533, 3) := by decide +kernel
theorem dX12_plainValue_57 : decode cX12_plainValue 57 = .ok (.goto 27, 3) := by decide +kernel
theorem dX12_plainValue_60 : decode cX12_plainValue 60 = .ok (.aload_n 0, 1) := by decide +kernel
theorem dX12_plainValue_61 : decode cX12_plainValue 61 = .ok (.getfield 126, 3) := by decide +kernel
theorem dX12_plainValue_64 : decode cX12_plainValue 64 = .ok (.iconst 0, 1) := by decide +kernel
theorem dX12_plainValue_65 : decode cX12_plainValue 65 = .ok (.aload_n 0, 1) := by decide +kernel
theorem dX12_plainValue_66 : decode cX12_plainValue 66 = .ok (.getfield 53, 3) := by decide +kernel
theorem dX12_plainValue_69 : decode cX12_plainValue 69 = .ok (.iload_n 3, 1) := by decide +kernel
theorem dX12_plainValue_70 : decode cX12_plainValue 70 = .ok (.iaload, 1) := by decide +kernel
theorem dX12_plainValue_71 : decode cX12_plainValue 71 = .ok (.iastore, 1) := by decide +kernel
theorem dX12_plainValue_72 : decode cX12_plainValue 72 = .ok (.aload_n 0, 1) := by decide +kernel
theorem dX12_plainValue_73 : decode cX12_plainValue 73 = .ok (.getfield 129, 3) := by decide +kernel
theorem dX12_plainValue_76 : decode cX12_plainValue 76 = .ok (.iconst 0, 1) := by decide +kernel
theorem dX12_plainValue_77 : decode cX12_plainValue 77 = .ok (.aload_n 0, 1) := by decide +kernel
theorem dX12_plainValue_78 : decode cX12_plainValue 78 = .ok (.getfield 56, 3) := by decide +kernel
theorem dX12_plainValue_81 : decode cX12_plainValue 81 = .ok (.iload_n 3, 1) := by decide +kernel
theorem dX12_plainValue_82 : decode cX12_plainValue 82 = .ok (.laload, 1) := by decide +kernel
theorem dX12_plainValue_83 : decode cX12_plainValue 83 = .ok (.lastore, 1) := by decide +kernel
theorem dX12_plainValue_84 : decode cX12_plainValue 84 = .ok (.aload_n 0, 1) := by decide +kernel
theorem dX12_plainValue_85 : decode cX12_plainValue 85 = .ok (.iconst 0, 1) := by decide +kernel
theorem dX12_plainValue_86 : decode cX12_plainValue 86 = .ok (.iload_n 2, 1) := by decide +kernel
theorem dX12_plainValue_87 : decode cX12_plainValue 87 = .ok (.invokevirtual 705, 3) := by decide +kernel
theorem dX12_plainValue_90 : decode cX12_plainValue 90 = .ok (.return_, 1) := by decide +kernel
set_option maxRecDepth 20000 in
theorem fl_X12_126 : FL RX12 126 12 66 true := ⟨RX12, TX12, cl_12, by decide, (gtb_in (List.mem_of_getElem? (i := 1711) (by decide +kernel)) (by decide +kernel)), rfl⟩
set_option maxRecDepth 20000 in
theorem fl_X12_129 : FL RX12 129 12 67 true := ⟨RX12, TX12, cl_12, by decide, (gtb_in (List.mem_of_getElem? (i := 1712) (by decide +kernel)) (by decide +kernel)), rfl⟩
set_option maxRecDepth 20000 in
theorem fl_X12_49 : FL RX12 49 12 18 true := ⟨RX12, TX12, cl_12, by decide, (gtb_in (List.mem_of_getElem? (i := 1663) (by decide +kernel)) (by decide +kernel)), rfl⟩
def mX12_text : MI := (yX12_text, cX12_text, 6, none)
theorem qc_X12_text : Cond.code mX12_text.1 mX12_text.2.1 mX12_text.2.2.1 mX12_text.2.2.2 ∈ gtb := (gtb_in (List.mem_of_getElem? (i := 2292) (by decide +kernel)) (by decide +kernel))
theorem qi_X12_text : Cond.instanceMethod mX12_text.1 ∈ gtb := (gtb_in (List.mem_of_getElem? (i := 2291) (by decide +kernel)) (by decide +kernel))
theorem qs_X12_text : Cond.selects mX12_text.1.cls mX12_text.1 mX12_text.1 ∈ gtb := (gtb_sel (q := (⟨"SheetBranchesModel", "text", "(I[BII)V"⟩, 105)) (List.mem_of_getElem? (i := 155) (by decide +kernel)) (by decide +kernel))
theorem qd_X12_text : dsc mX12_text.1 4 := ⟨by decide +kernel, by decide +kernel, by decide +kernel⟩
set_option maxRecDepth 20000 in
theorem vl_X12_533 : VL RX12 533 12 mX12_text 4 := ⟨⟨qc_X12_text, (gtb_in (List.mem_of_getElem? (i := 2289) (by decide +kernel)) (by decide +kernel)), qi_X12_text, qs_X12_text, zw_12⟩, ⟨_, _, rfl⟩, by decide, qd_X12_text, by decide⟩
set_option maxRecDepth 20000 in
theorem vl_X12_705 : VL RX12 705 12 mX12_store 2 := ⟨⟨qc_X12_store, (gtb_in (List.mem_of_getElem? (i := 2293) (by decide +kernel)) (by decide +kernel)), qi_X12_store, qs_X12_store, zw_12⟩, ⟨_, _, rfl⟩, by decide, qd_X12_store, by decide⟩
theorem dX12_store_0 : decode cX12_store 0 = .ok (.aload_n 0, 1) := by decide +kernel
theorem dX12_store_1 : decode cX12_store 1 = .ok (.getfield 109, 3) := by decide +kernel
theorem dX12_store_4 : decode cX12_store 4 = .ok (.iload_n 2, 1) := by decide +kernel
theorem dX12_store_5 : decode cX12_store 5 = .ok (.aload_n 0, 1) := by decide +kernel
theorem dX12_store_6 : decode cX12_store 6 = .ok (.getfield 126, 3) := by decide +kernel
theorem dX12_store_9 : decode cX12_store 9 = .ok (.iload_n 1, 1) := by decide +kernel
theorem dX12_store_10 : decode cX12_store 10 = .ok (.iaload, 1) := by decide +kernel
theorem dX12_store_11 : decode cX12_store 11 = .ok (.iastore, 1) := by decide +kernel
theorem dX12_store_12 : decode cX12_store 12 = .ok (.aload_n 0, 1) := by decide +kernel
theorem dX12_store_13 : decode cX12_store 13 = .ok (.getfield 112, 3) := by decide +kernel
theorem dX12_store_16 : decode cX12_store 16 = .ok (.iload_n 2, 1) := by decide +kernel
theorem dX12_store_17 : decode cX12_store 17 = .ok (.aload_n 0, 1) := by decide +kernel
theorem dX12_store_18 : decode cX12_store 18 = .ok (.getfield 129, 3) := by decide +kernel
theorem dX12_store_21 : decode cX12_store 21 = .ok (.iload_n 1, 1) := by decide +kernel
theorem dX12_store_22 : decode cX12_store 22 = .ok (.laload, 1) := by decide +kernel
theorem dX12_store_23 : decode cX12_store 23 = .ok (.lastore, 1) := by decide +kernel
theorem dX12_store_24 : decode cX12_store 24 = .ok (.aload_n 0, 1) := by decide +kernel
theorem dX12_store_25 : decode cX12_store 25 = .ok (.getfield 115, 3) := by decide +kernel
theorem dX12_store_28 : decode cX12_store 28 = .ok (.iload_n 2, 1) := by decide +kernel
theorem dX12_store_29 : decode cX12_store 29 = .ok (.aload_n 0, 1) := by decide +kernel
theorem dX12_store_30 : decode cX12_store 30 = .ok (.getfield 126, 3) := by decide +kernel
theorem dX12_store_33 : decode cX12_store 33 = .ok (.iload_n 1, 1) := by decide +kernel
theorem dX12_store_34 : decode cX12_store 34 = .ok (.iaload, 1) := by decide +kernel
theorem dX12_store_35 : decode cX12_store 35 = .ok (.iconst 2, 1) := by decide +kernel
theorem dX12_store_36 : decode cX12_store 36 = .ok (.if_icmp .ne 12, 3) := by decide +kernel
theorem dX12_store_39 : decode cX12_store 39 = .ok (.aload_n 0, 1) := by decide +kernel
theorem dX12_store_40 : decode cX12_store 40 = .ok (.getfield 132, 3) := by decide +kernel
theorem dX12_store_43 : decode cX12_store 43 = .ok (.iload_n 1, 1) := by decide +kernel
theorem dX12_store_44 : decode cX12_store 44 = .ok (.iaload, 1) := by decide +kernel
theorem dX12_store_45 : decode cX12_store 45 = .ok (.goto 4, 3) := by decide +kernel
theorem dX12_store_48 : decode cX12_store 48 = .ok (.iconst 0, 1) := by decide +kernel
theorem dX12_store_49 : decode cX12_store 49 = .ok (.iastore, 1) := by decide +kernel
theorem dX12_store_50 : decode cX12_store 50 = .ok (.iconst 0, 1) := by decide +kernel
theorem dX12_store_51 : decode cX12_store 51 = .ok (.istore_n 3, 1) := by decide +kernel
theorem dX12_store_52 : decode cX12_store 52 = .ok (.iload_n 3, 1) := by decide +kernel
theorem dX12_store_53 : decode cX12_store 53 = .ok (.bipush 24, 2) := by decide +kernel
theorem dX12_store_55 : decode cX12_store 55 = .ok (.if_icmp .ge 31, 3) := by decide +kernel
theorem dX12_store_58 : decode cX12_store 58 = .ok (.aload_n 0, 1) := by decide +kernel
theorem dX12_store_59 : decode cX12_store 59 = .ok (.getfield 119, 3) := by decide +kernel
theorem dX12_store_62 : decode cX12_store 62 = .ok (.bipush 24, 2) := by decide +kernel
theorem dX12_store_64 : decode cX12_store 64 = .ok (.iload_n 2, 1) := by decide +kernel
theorem dX12_store_65 : decode cX12_store 65 = .ok (.imul, 1) := by decide +kernel
theorem dX12_store_66 : decode cX12_store 66 = .ok (.iload_n 3, 1) := by decide +kernel
theorem dX12_store_67 : decode cX12_store 67 = .ok (.iadd, 1) := by decide +kernel
theorem dX12_store_68 : decode cX12_store 68 = .ok (.aload_n 0, 1) := by decide +kernel
theorem dX12_store_69 : decode cX12_store 69 = .ok (.getfield 135, 3) := by decide +kernel
theorem dX12_store_72 : decode cX12_store 72 = .ok (.bipush 24, 2) := by decide +kernel
theorem dX12_store_74 : decode cX12_store 74 = .ok (.iload_n 1, 1) := by decide +kernel
theorem dX12_store_75 : decode cX12_store 75 = .ok (.imul, 1) := by decide +kernel
theorem dX12_store_76 : decode cX12_store 76 = .ok (.iload_n 3, 1) := by decide +kernel
theorem dX12_store_77 : decode cX12_store 77 = .ok (.iadd, 1) := by decide +kernel
theorem dX12_store_78 : decode cX12_store 78 = .ok (.baload, 1) := by decide +kernel
theorem dX12_store_79 : decode cX12_store 79 = .ok (.bastore, 1) := by decide +kernel
theorem dX12_store_80 : decode cX12_store 80 = .ok (.iinc 3 1, 3) := by decide +kernel
theorem dX12_store_83 : decode cX12_store 83 = .ok (.goto (-31), 3) := by decide +kernel
theorem dX12_store_86 : decode cX12_store 86 = .ok (.return_, 1) := by decide +kernel
set_option maxRecDepth 20000 in
theorem fl_X12_109 : FL RX12 109 12 60 true := ⟨RX12, TX12, cl_12, by decide, (gtb_in (List.mem_of_getElem? (i := 1705) (by decide +kernel)) (by decide +kernel)), rfl⟩
set_option maxRecDepth 20000 in
theorem fl_X12_112 : FL RX12 112 12 61 true := ⟨RX12, TX12, cl_12, by decide, (gtb_in (List.mem_of_getElem? (i := 1706) (by decide +kernel)) (by decide +kernel)), rfl⟩
set_option maxRecDepth 20000 in
theorem fl_X12_115 : FL RX12 115 12 62 true := ⟨RX12, TX12, cl_12, by decide, (gtb_in (List.mem_of_getElem? (i := 1707) (by decide +kernel)) (by decide +kernel)), rfl⟩
set_option maxRecDepth 20000 in
theorem fl_X12_132 : FL RX12 132 12 68 true := ⟨RX12, TX12, cl_12, by decide, (gtb_in (List.mem_of_getElem? (i := 1713) (by decide +kernel)) (by decide +kernel)), rfl⟩
set_option maxRecDepth 20000 in
theorem fl_X12_119 : FL RX12 119 12 63 true := ⟨RX12, TX12, cl_12, by decide, (gtb_in (List.mem_of_getElem? (i := 1708) (by decide +kernel)) (by decide +kernel)), rfl⟩
set_option maxRecDepth 20000 in
theorem fl_X12_135 : FL RX12 135 12 69 true := ⟨RX12, TX12, cl_12, by decide, (gtb_in (List.mem_of_getElem? (i := 1714) (by decide +kernel)) (by decide +kernel)), rfl⟩
theorem dX12_close_0 : decode cX12_close 0 = .ok (.iconst 0, 1) := by decide +kernel
theorem dX12_close_1 : decode cX12_close 1 = .ok (.istore_n 1, 1) := by decide +kernel
theorem dX12_close_2 : decode cX12_close 2 = .ok (.iload_n 1, 1) := by decide +kernel
theorem dX12_close_3 : decode cX12_close 3 = .ok (.sipush 1600, 3) := by decide +kernel
theorem dX12_close_6 : decode cX12_close 6 = .ok (.if_icmp .ge 21, 3) := by decide +kernel
theorem dX12_close_9 : decode cX12_close 9 = .ok (.aload_n 0, 1) := by decide +kernel
theorem dX12_close_10 : decode cX12_close 10 = .ok (.getfield 144, 3) := by decide +kernel
theorem dX12_close_13 : decode cX12_close 13 = .ok (.iload_n 1, 1) := by decide +kernel
theorem dX12_close_14 : decode cX12_close 14 = .ok (.aload_n 0, 1) := by decide +kernel
theorem dX12_close_15 : decode cX12_close 15 = .ok (.getfield 141, 3) := by decide +kernel
theorem dX12_close_18 : decode cX12_close 18 = .ok (.iload_n 1, 1) := by decide +kernel
theorem dX12_close_19 : decode cX12_close 19 = .ok (.laload, 1) := by decide +kernel
theorem dX12_close_20 : decode cX12_close 20 = .ok (.lastore, 1) := by decide +kernel
theorem dX12_close_21 : decode cX12_close 21 = .ok (.iinc 1 1, 3) := by decide +kernel
theorem dX12_close_24 : decode cX12_close 24 = .ok (.goto (-22), 3) := by decide +kernel
theorem dX12_close_27 : decode cX12_close 27 = .ok (.iconst 0, 1) := by decide +kernel
theorem dX12_close_28 : decode cX12_close 28 = .ok (.istore_n 1, 1) := by decide +kernel
theorem dX12_close_29 : decode cX12_close 29 = .ok (.iload_n 1, 1) := by decide +kernel
theorem dX12_close_30 : decode cX12_close 30 = .ok (.sipush 320, 3) := by decide +kernel
theorem dX12_close_33 : decode cX12_close 33 = .ok (.if_icmp .ge 72, 3) := by decide +kernel
theorem dX12_close_36 : decode cX12_close 36 = .ok (.iconst 0, 1) := by decide +kernel
theorem dX12_close_37 : decode cX12_close 37 = .ok (.istore_n 2, 1) := by decide +kernel
theorem dX12_close_38 : decode cX12_close 38 = .ok (.iload_n 2, 1) := by decide +kernel
theorem dX12_close_39 : decode cX12_close 39 = .ok (.sipush 320, 3) := by decide +kernel
theorem dX12_close_42 : decode cX12_close 42 = .ok (.if_icmp .ge 57, 3) := by decide +kernel
theorem dX12_close_45 : decode cX12_close 45 = .ok (.aload_n 0, 1) := by decide +kernel
theorem dX12_close_46 : decode cX12_close 46 = .ok (.getfield 144, 3) := by decide +kernel
theorem dX12_close_49 : decode cX12_close 49 = .ok (.iload_n 2, 1) := by decide +kernel
theorem dX12_close_50 : decode cX12_close 50 = .ok (.iload_n 1, 1) := by decide +kernel
theorem dX12_close_51 : decode cX12_close 51 = .ok (.invokestatic 701, 3) := by decide +kernel
theorem dX12_close_54 : decode cX12_close 54 = .ok (.ifCond .eq 39, 3) := by decide +kernel
theorem dX12_close_57 : decode cX12_close 57 = .ok (.iconst 0, 1) := by decide +kernel
theorem dX12_close_58 : decode cX12_close 58 = .ok (.istore_n 3, 1) := by decide +kernel
theorem dX12_close_59 : decode cX12_close 59 = .ok (.iload_n 3, 1) := by decide +kernel
theorem dX12_close_60 : decode cX12_close 60 = .ok (.iconst 5, 1) := by decide +kernel
theorem dX12_close_61 : decode cX12_close 61 = .ok (.if_icmp .ge 32, 3) := by decide +kernel
theorem dX12_close_64 : decode cX12_close 64 = .ok (.aload_n 0, 1) := by decide +kernel
theorem dX12_close_65 : decode cX12_close 65 = .ok (.getfield 144, 3) := by decide +kernel
theorem dX12_close_68 : decode cX12_close 68 = .ok (.iconst 5, 1) := by decide +kernel
theorem dX12_close_69 : decode cX12_close 69 = .ok (.iload_n 2, 1) := by decide +kernel
theorem dX12_close_70 : decode cX12_close 70 = .ok (.imul, 1) := by decide +kernel
theorem dX12_close_71 : decode cX12_close 71 = .ok (.iload_n 3, 1) := by decide +kernel
theorem dX12_close_72 : decode cX12_close 72 = .ok (.iadd, 1) := by decide +kernel
theorem dX12_close_73 : decode cX12_close 73 = .ok (.dup2, 1) := by decide +kernel
theorem dX12_close_74 : decode cX12_close 74 = .ok (.laload, 1) := by decide +kernel
theorem dX12_close_75 : decode cX12_close 75 = .ok (.aload_n 0, 1) := by decide +kernel
theorem dX12_close_76 : decode cX12_close 76 = .ok (.getfield 144, 3) := by decide +kernel
theorem dX12_close_79 : decode cX12_close 79 = .ok (.iconst 5, 1) := by decide +kernel
theorem dX12_close_80 : decode cX12_close 80 = .ok (.iload_n 1, 1) := by decide +kernel
theorem dX12_close_81 : decode cX12_close 81 = .ok (.imul, 1) := by decide +kernel
theorem dX12_close_82 : decode cX12_close 82 = .ok (.iload_n 3, 1) := by decide +kernel
theorem dX12_close_83 : decode cX12_close 83 = .ok (.iadd, 1) := by decide +kernel
theorem dX12_close_84 : decode cX12_close 84 = .ok (.laload, 1) := by decide +kernel
theorem dX12_close_85 : decode cX12_close 85 = .ok (.lor, 1) := by decide +kernel
theorem dX12_close_86 : decode cX12_close 86 = .ok (.lastore, 1) := by decide +kernel
theorem dX12_close_87 : decode cX12_close 87 = .ok (.iinc 3 1, 3) := by decide +kernel
theorem dX12_close_90 : decode cX12_close 90 = .ok (.goto (-31), 3) := by decide +kernel
theorem dX12_close_93 : decode cX12_close 93 = .ok (.iinc 2 1, 3) := by decide +kernel
theorem dX12_close_96 : decode cX12_close 96 = .ok (.goto (-58), 3) := by decide +kernel
theorem dX12_close_99 : decode cX12_close 99 = .ok (.iinc 1 1, 3) := by decide +kernel
theorem dX12_close_102 : decode cX12_close 102 = .ok (.goto (-73), 3) := by decide +kernel
theorem dX12_close_105 : decode cX12_close 105 = .ok (.return_, 1) := by decide +kernel
set_option maxRecDepth 20000 in
theorem fl_X12_144 : FL RX12 144 12 83 true := ⟨RX12, TX12, cl_12, by decide, (gtb_in (List.mem_of_getElem? (i := 1728) (by decide +kernel)) (by decide +kernel)), rfl⟩
set_option maxRecDepth 20000 in
theorem fl_X12_141 : FL RX12 141 12 82 true := ⟨RX12, TX12, cl_12, by decide, (gtb_in (List.mem_of_getElem? (i := 1727) (by decide +kernel)) (by decide +kernel)), rfl⟩
set_option maxRecDepth 20000 in
theorem sl_X12_701 : SL RX12 701 mX12_bit 3 := ⟨⟨qc_X12_bit, (gtb_in (List.mem_of_getElem? (i := 2301) (by decide +kernel)) (by decide +kernel)), qt_X12_bit, zw_12⟩, qd_X12_bit, by decide⟩
theorem dX12_bit_0 : decode cX12_bit 0 = .ok (.aload_n 0, 1) := by decide +kernel
theorem dX12_bit_1 : decode cX12_bit 1 = .ok (.iconst 5, 1) := by decide +kernel
theorem dX12_bit_2 : decode cX12_bit 2 = .ok (.iload_n 1, 1) := by decide +kernel
theorem dX12_bit_3 : decode cX12_bit 3 = .ok (.imul, 1) := by decide +kernel
theorem dX12_bit_4 : decode cX12_bit 4 = .ok (.iload_n 2, 1) := by decide +kernel
theorem dX12_bit_5 : decode cX12_bit 5 = .ok (.bipush 64, 2) := by decide +kernel
theorem dX12_bit_7 : decode cX12_bit 7 = .ok (.idiv, 1) := by decide +kernel
theorem dX12_bit_8 : decode cX12_bit 8 = .ok (.iadd, 1) := by decide +kernel
theorem dX12_bit_9 : decode cX12_bit 9 = .ok (.laload, 1) := by decide +kernel
theorem dX12_bit_10 : decode cX12_bit 10 = .ok (.iload_n 2, 1) := by decide +kernel
theorem dX12_bit_11 : decode cX12_bit 11 = .ok (.bipush 64, 2) := by decide +kernel
theorem dX12_bit_13 : decode cX12_bit 13 = .ok (.irem, 1) := by decide +kernel
theorem dX12_bit_14 : decode cX12_bit 14 = .ok (.lshr, 1) := by decide +kernel
theorem dX12_bit_15 : decode cX12_bit 15 = .ok (.lconst 1, 1) := by decide +kernel
theorem dX12_bit_16 : decode cX12_bit 16 = .ok (.land, 1) := by decide +kernel
theorem dX12_bit_17 : decode cX12_bit 17 = .ok (.lconst 1, 1) := by decide +kernel
theorem dX12_bit_18 : decode cX12_bit 18 = .ok (.lcmp, 1) := by decide +kernel
theorem dX12_bit_19 : decode cX12_bit 19 = .ok (.ifCond .ne 7, 3) := by decide +kernel
theorem dX12_bit_22 : decode cX12_bit 22 = .ok (.iconst 1, 1) := by decide +kernel
theorem dX12_bit_23 : decode cX12_bit 23 = .ok (.goto 4, 3) := by decide +kernel
theorem dX12_bit_26 : decode cX12_bit 26 = .ok (.iconst 0, 1) := by decide +kernel
theorem dX12_bit_27 : decode cX12_bit 27 = .ok (.ireturn, 1) := by decide +kernel
theorem dX12_valuesOf_0 : decode cX12_valuesOf 0 = .ok (.iconst 0, 1) := by decide +kernel
theorem dX12_valuesOf_1 : decode cX12_valuesOf 1 = .ok (.istore_n 2, 1) := by decide +kernel
theorem dX12_valuesOf_2 : decode cX12_valuesOf 2 = .ok (.iload_n 2, 1) := by decide +kernel
theorem dX12_valuesOf_3 : decode cX12_valuesOf 3 = .ok (.sipush 1600, 3) := by decide +kernel
theorem dX12_valuesOf_6 : decode cX12_valuesOf 6 = .ok (.if_icmp .ge 16, 3) := by decide +kernel
theorem dX12_valuesOf_9 : decode cX12_valuesOf 9 = .ok (.aload_n 0, 1) := by decide +kernel
theorem dX12_valuesOf_10 : decode cX12_valuesOf 10 = .ok (.getfield 141, 3) := by decide +kernel
theorem dX12_valuesOf_13 : decode cX12_valuesOf 13 = .ok (.iload_n 2, 1) := by decide +kernel
theorem dX12_valuesOf_14 : decode cX12_valuesOf 14 = .ok (.lconst 0, 1) := by decide +kernel
theorem dX12_valuesOf_15 : decode cX12_valuesOf 15 = .ok (.lastore, 1) := by decide +kernel
theorem dX12_valuesOf_16 : decode cX12_valuesOf 16 = .ok (.iinc 2 1, 3) := by decide +kernel
theorem dX12_valuesOf_19 : decode cX12_valuesOf 19 = .ok (.goto (-17), 3) := by decide +kernel
theorem dX12_valuesOf_22 : decode cX12_valuesOf 22 = .ok (.iconst 0, 1) := by decide +kernel
theorem dX12_valuesOf_23 : decode cX12_valuesOf 23 = .ok (.istore_n 2, 1) := by decide +kernel
theorem dX12_valuesOf_24 : decode cX12_valuesOf 24 = .ok (.iload_n 2, 1) := by decide +kernel
theorem dX12_valuesOf_25 : decode cX12_valuesOf 25 = .ok (.iconst 5, 1) := by decide +kernel
theorem dX12_valuesOf_26 : decode cX12_valuesOf 26 = .ok (.if_icmp .ge 16, 3) := by decide +kernel
theorem dX12_valuesOf_29 : decode cX12_valuesOf 29 = .ok (.aload_n 0, 1) := by decide +kernel
theorem dX12_valuesOf_30 : decode cX12_valuesOf 30 = .ok (.getfield 150, 3) := by decide +kernel
theorem dX12_valuesOf_33 : decode cX12_valuesOf 33 = .ok (.iload_n 2, 1) := by decide +kernel
theorem dX12_valuesOf_34 : decode cX12_valuesOf 34 = .ok (.lconst 0, 1) := by decide +kernel
theorem dX12_valuesOf_35 : decode cX12_valuesOf 35 = .ok (.lastore, 1) := by decide +kernel
theorem dX12_valuesOf_36 : decode cX12_valuesOf 36 = .ok (.iinc 2 1, 3) := by decide +kernel
theorem dX12_valuesOf_39 : decode cX12_valuesOf 39 = .ok (.goto (-15), 3) := by decide +kernel
theorem dX12_valuesOf_42 : decode cX12_valuesOf 42 = .ok (.iconst 0, 1) := by decide +kernel
theorem dX12_valuesOf_43 : decode cX12_valuesOf 43 = .ok (.istore_n 2, 1) := by decide +kernel
theorem dX12_valuesOf_44 : decode cX12_valuesOf 44 = .ok (.iload_n 2, 1) := by decide +kernel
theorem dX12_valuesOf_45 : decode cX12_valuesOf 45 = .ok (.sipush 320, 3) := by decide +kernel
theorem dX12_valuesOf_48 : decode cX12_valuesOf 48 = .ok (.if_icmp .ge 111, 3) := by decide +kernel
theorem dX12_valuesOf_51 : decode cX12_valuesOf 51 = .ok (.iload_n 2, 1) := by decide +kernel
theorem dX12_valuesOf_52 : decode cX12_valuesOf 52 = .ok (.bipush 10, 2) := by decide +kernel
theorem dX12_valuesOf_54 : decode cX12_valuesOf 54 = .ok (.idiv, 1) := by decide +kernel
theorem dX12_valuesOf_55 : decode cX12_valuesOf 55 = .ok (.aload_n 0, 1) := by decide +kernel
theorem dX12_valuesOf_56 : decode cX12_valuesOf 56 = .ok (.getfield 7, 3) := by decide +kernel
theorem dX12_valuesOf_59 : decode cX12_valuesOf 59 = .ok (.iload_n 1, 1) := by decide +kernel
theorem dX12_valuesOf_60 : decode cX12_valuesOf 60 = .ok (.iaload, 1) := by decide +kernel
theorem dX12_valuesOf_61 : decode cX12_valuesOf 61 = .ok (.if_icmp .ge 20, 3) := by decide +kernel
theorem dX12_valuesOf_64 : decode cX12_valuesOf 64 = .ok (.iload_n 2, 1) := by decide +kernel
theorem dX12_valuesOf_65 : decode cX12_valuesOf 65 = .ok (.bipush 10, 2) := by decide +kernel
theorem dX12_valuesOf_67 : decode cX12_valuesOf 67 = .ok (.irem, 1) := by decide +kernel
theorem dX12_valuesOf_68 : decode cX12_valuesOf 68 = .ok (.aload_n 0, 1) := by decide +kernel
theorem dX12_valuesOf_69 : decode cX12_valuesOf 69 = .ok (.getfield 13, 3) := by decide +kernel
theorem dX12_valuesOf_72 : decode cX12_valuesOf 72 = .ok (.iload_n 1, 1) := by decide +kernel
theorem dX12_valuesOf_73 : decode cX12_valuesOf 73 = .ok (.iaload, 1) := by decide +kernel
theorem dX12_valuesOf_74 : decode cX12_valuesOf 74 = .ok (.if_icmp .ge 7, 3) := by decide +kernel
theorem dX12_valuesOf_77 : decode cX12_valuesOf 77 = .ok (.iconst 1, 1) := by decide +kernel
theorem dX12_valuesOf_78 : decode cX12_valuesOf 78 = .ok (.goto 4, 3) := by decide +kernel
theorem dX12_valuesOf_81 : decode cX12_valuesOf 81 = .ok (.iconst 0, 1) := by decide +kernel
theorem dX12_valuesOf_82 : decode cX12_valuesOf 82 = .ok (.istore_n 3, 1) := by decide +kernel
theorem dX12_valuesOf_83 : decode cX12_valuesOf 83 = .ok (.iload_n 3, 1) := by decide +kernel
theorem dX12_valuesOf_84 : decode cX12_valuesOf 84 = .ok (.ifCond .eq 37, 3) := by decide +kernel
theorem dX12_valuesOf_87 : decode cX12_valuesOf 87 = .ok (.aload_n 0, 1) := by decide +kernel
theorem dX12_valuesOf_88 : decode cX12_valuesOf 88 = .ok (.getfield 23, 3) := by decide +kernel
theorem dX12_valuesOf_91 : decode cX12_valuesOf 91 = .ok (.sipush 320, 3) := by decide +kernel
theorem dX12_valuesOf_94 : decode cX12_valuesOf 94 = .ok (.iload_n 1, 1) := by decide +kernel
theorem dX12_valuesOf_95 : decode cX12_valuesOf 95 = .ok (.imul, 1) := by decide +kernel
theorem dX12_valuesOf_96 : decode cX12_valuesOf 96 = .ok (.iload_n 2, 1) := by decide +kernel
theorem dX12_valuesOf_97 : decode cX12_valuesOf 97 = .ok (.iadd, 1) := by decide +kernel
theorem dX12_valuesOf_98 : decode cX12_valuesOf 98 = .ok (.iaload, 1) := by decide +kernel
theorem dX12_valuesOf_99 : decode cX12_valuesOf 99 = .ok (.invokestatic 244, 3) := by decide +kernel
theorem dX12_valuesOf_102 : decode cX12_valuesOf 102 = .ok (.ifCond .eq 19, 3) := by decide +kernel
theorem dX12_valuesOf_105 : decode cX12_valuesOf 105 = .ok (.aload_n 0, 1) := by decide +kernel
theorem dX12_valuesOf_106 : decode cX12_valuesOf 106 = .ok (.getfield 147, 3) := by decide +kernel
theorem dX12_valuesOf_109 : decode cX12_valuesOf 109 = .ok (.iload_n 2, 1) := by decide +kernel
theorem dX12_valuesOf_110 : decode cX12_valuesOf 110 = .ok (.iconst 0, 1) := by decide +kernel
theorem dX12_valuesOf_111 : decode cX12_valuesOf 111 = .ok (.bastore, 1) := by decide +kernel
theorem dX12_valuesOf_112 : decode cX12_valuesOf 112 = .ok (.aload_n 0, 1) := by decide +kernel
theorem dX12_valuesOf_113 : decode cX12_valuesOf 113 = .ok (.iload_n 1, 1) := by decide +kernel
theorem dX12_valuesOf_114 : decode cX12_valuesOf 114 = .ok (.iload_n 2, 1) := by decide +kernel
theorem dX12_valuesOf_115 : decode cX12_valuesOf 115 = .ok (.invokevirtual 713, 3) := by decide +kernel
theorem dX12_valuesOf_118 : decode cX12_valuesOf 118 = .ok (.goto 35, 3) := by decide +kernel
theorem dX12_valuesOf_121 : decode cX12_valuesOf 121 = .ok (.aload_n 0, 1) := by decide +kernel
theorem dX12_valuesOf_122 : decode cX12_valuesOf 122 = .ok (.iload_n 2, 1) := by decide +kernel
theorem dX12_valuesOf_123 : decode cX12_valuesOf 123 = .ok (.invokevirtual 716, 3) := by decide +kernel
theorem dX12_valuesOf_126 : decode cX12_valuesOf 126 = .ok (.iload_n 3, 1) := by decide +kernel
theorem dX12_valuesOf_127 : decode cX12_valuesOf 127 = .ok (.ifCond .eq 26, 3) := by decide +kernel
theorem dX12_valuesOf_130 : decode cX12_valuesOf 130 = .ok (.aload_n 0, 1) := by decide +kernel
theorem dX12_valuesOf_131 : decode cX12_valuesOf 131 = .ok (.aload_n 0, 1) := by decide +kernel
theorem dX12_valuesOf_132 : decode cX12_valuesOf 132 = .ok (.getfield 23, 3) := by decide +kernel
theorem dX12_valuesOf_135 : decode cX12_valuesOf 135 = .ok (.sipush 320, 3) := by decide +kernel
theorem dX12_valuesOf_138 : decode cX12_valuesOf 138 = .ok (.iload_n 1, 1) := by decide +kernel
theorem dX12_valuesOf_139 : decode cX12_valuesOf 139 = .ok (.imul, 1) := by decide +kernel
theorem dX12_valuesOf_140 : decode cX12_valuesOf 140 = .ok (.iload_n 2, 1) := by decide +kernel
theorem dX12_valuesOf_141 : decode cX12_valuesOf 141 = .ok (.iadd, 1) := by decide +kernel
theorem dX12_valuesOf_142 : decode cX12_valuesOf 142 = .ok (.iaload, 1) := by decide +kernel
theorem dX12_valuesOf_143 : decode cX12_valuesOf 143 = .ok (.sipush 320, 3) := by decide +kernel
theorem dX12_valuesOf_146 : decode cX12_valuesOf 146 = .ok (.iload_n 1, 1) := by decide +kernel
theorem dX12_valuesOf_147 : decode cX12_valuesOf 147 = .ok (.imul, 1) := by decide +kernel
theorem dX12_valuesOf_148 : decode cX12_valuesOf 148 = .ok (.iload_n 2, 1) := by decide +kernel
theorem dX12_valuesOf_149 : decode cX12_valuesOf 149 = .ok (.iadd, 1) := by decide +kernel
theorem dX12_valuesOf_150 : decode cX12_valuesOf 150 = .ok (.invokevirtual 719, 3) := by decide +kernel
theorem dX12_valuesOf_153 : decode cX12_valuesOf 153 = .ok (.iinc 2 1, 3) := by decide +kernel
theorem dX12_valuesOf_156 : decode cX12_valuesOf 156 = .ok (.goto (-112), 3) := by decide +kernel
theorem dX12_valuesOf_159 : decode cX12_valuesOf 159 = .ok (.aload_n 0, 1) := by decide +kernel
theorem dX12_valuesOf_160 : decode cX12_valuesOf 160 = .ok (.invokevirtual 722, 3) := by decide +kernel
theorem dX12_valuesOf_163 : decode cX12_valuesOf 163 = .ok (.iconst 0, 1) := by decide +kernel
theorem dX12_valuesOf_164 : decode cX12_valuesOf 164 = .ok (.istore_n 2, 1) := by decide +kernel
theorem dX12_valuesOf_165 : decode cX12_valuesOf 165 = .ok (.iload_n 2, 1) := by decide +kernel
theorem dX12_valuesOf_166 : decode cX12_valuesOf 166 = .ok (.sipush 320, 3) := by decide +kernel
theorem dX12_valuesOf_169 : decode cX12_valuesOf 169 = .ok (.if_icmp .ge 54, 3) := by decide +kernel
theorem dX12_valuesOf_172 : decode cX12_valuesOf 172 = .ok (.aload_n 0, 1) := by decide +kernel
theorem dX12_valuesOf_173 : decode cX12_valuesOf 173 = .ok (.getfield 147, 3) := by decide +kernel
theorem dX12_valuesOf_176 : decode cX12_valuesOf 176 = .ok (.iload_n 2, 1) := by decide +kernel
theorem dX12_valuesOf_177 : decode cX12_valuesOf 177 = .ok (.baload, 1) := by decide +kernel
theorem dX12_valuesOf_178 : decode cX12_valuesOf 178 = .ok (.ifCond .ne 39, 3) := by decide +kernel
theorem dX12_valuesOf_181 : decode cX12_valuesOf 181 = .ok (.aload_n 0, 1) := by decide +kernel
theorem dX12_valuesOf_182 : decode cX12_valuesOf 182 = .ok (.getfield 144, 3) := by decide +kernel
theorem dX12_valuesOf_185 : decode cX12_valuesOf 185 = .ok (.iload_n 2, 1) := by decide +kernel
theorem dX12_valuesOf_186 : decode cX12_valuesOf 186 = .ok (.iload_n 2, 1) := by decide +kernel
theorem dX12_valuesOf_187 : decode cX12_valuesOf 187 = .ok (.invokestatic 701, 3) := by decide +kernel
theorem dX12_valuesOf_190 : decode cX12_valuesOf 190 = .ok (.ifCond .eq 27, 3) := by decide +kernel
theorem dX12_valuesOf_193 : decode cX12_valuesOf 193 = .ok (.aload_n 0, 1) := by decide +kernel
theorem dX12_valuesOf_194 : decode cX12_valuesOf 194 = .ok (.iload_n 2, 1) := by decide +kernel
theorem dX12_valuesOf_195 : decode cX12_valuesOf 195 = .ok (.invokevirtual 716, 3) := by decide +kernel
theorem dX12_valuesOf_198 : decode cX12_valuesOf 198 = .ok (.aload_n 0, 1) := by decide +kernel
theorem dX12_valuesOf_199 : decode cX12_valuesOf 199 = .ok (.iconst 0, 1) := by decide +kernel
theorem dX12_valuesOf_200 : decode cX12_valuesOf 200 = .ok (.bipush 6, 2) := by decide +kernel
theorem dX12_valuesOf_202 : decode cX12_valuesOf 202 = .ok (.invokevirtual 541, 3) := by decide +kernel
theorem dX12_valuesOf_205 : decode cX12_valuesOf 205 = .ok (.aload_n 0, 1) := by decide +kernel
theorem dX12_valuesOf_206 : decode cX12_valuesOf 206 = .ok (.iconst 0, 1) := by decide +kernel
theorem dX12_valuesOf_207 : decode cX12_valuesOf 207 = .ok (.sipush 320, 3) := by decide +kernel
theorem dX12_valuesOf_210 : decode cX12_valuesOf 210 = .ok (.iload_n 1, 1) := by decide +kernel
theorem dX12_valuesOf_211 : decode cX12_valuesOf 211 = .ok (.imul, 1) := by decide +kernel
theorem dX12_valuesOf_212 : decode cX12_valuesOf 212 = .ok (.iload_n 2, 1) := by decide +kernel
theorem dX12_valuesOf_213 : decode cX12_valuesOf 213 = .ok (.iadd, 1) := by decide +kernel
theorem dX12_valuesOf_214 : decode cX12_valuesOf 214 = .ok (.invokevirtual 705, 3) := by decide +kernel
theorem dX12_valuesOf_217 : decode cX12_valuesOf 217 = .ok (.iinc 2 1, 3) := by decide +kernel
theorem dX12_valuesOf_220 : decode cX12_valuesOf 220 = .ok (.goto (-55), 3) := by decide +kernel
theorem dX12_valuesOf_223 : decode cX12_valuesOf 223 = .ok (.iconst 1, 1) := by decide +kernel
theorem dX12_valuesOf_224 : decode cX12_valuesOf 224 = .ok (.istore_n 2, 1) := by decide +kernel
theorem dX12_valuesOf_225 : decode cX12_valuesOf 225 = .ok (.iload_n 2, 1) := by decide +kernel
theorem dX12_valuesOf_226 : decode cX12_valuesOf 226 = .ok (.ifCond .eq 71, 3) := by decide +kernel
theorem dX12_valuesOf_229 : decode cX12_valuesOf 229 = .ok (.iconst 0, 1) := by decide +kernel
theorem dX12_valuesOf_230 : decode cX12_valuesOf 230 = .ok (.istore_n 2, 1) := by decide +kernel
theorem dX12_valuesOf_231 : decode cX12_valuesOf 231 = .ok (.iconst 0, 1) := by decide +kernel
theorem dX12_valuesOf_232 : decode cX12_valuesOf 232 = .ok (.istore_n 3, 1) := by decide +kernel
theorem dX12_valuesOf_233 : decode cX12_valuesOf 233 = .ok (.iload_n 3, 1) := by decide +kernel
theorem dX12_valuesOf_234 : decode cX12_valuesOf 234 = .ok (.sipush 320, 3) := by decide +kernel
theorem dX12_valuesOf_237 : decode cX12_valuesOf 237 = .ok (.if_icmp .ge 57, 3) := by decide +kernel
theorem dX12_valuesOf_240 : decode cX12_valuesOf 240 = .ok (.aload_n 0, 1) := by decide +kernel
theorem dX12_valuesOf_241 : decode cX12_valuesOf 241 = .ok (.getfield 147, 3) := by decide +kernel
theorem dX12_valuesOf_244 : decode cX12_valuesOf 244 = .ok (.iload_n 3, 1) := by decide +kernel
theorem dX12_valuesOf_245 : decode cX12_valuesOf 245 = .ok (.baload, 1) := by decide +kernel
theorem dX12_valuesOf_246 : decode cX12_valuesOf 246 = .ok (.ifCond .ne 42, 3) := by decide +kernel
theorem dX12_valuesOf_249 : decode cX12_valuesOf 249 = .ok (.aload_n 0, 1) := by decide +kernel
theorem dX12_valuesOf_250 : decode cX12_valuesOf 250 = .ok (.iload_n 3, 1) := by decide +kernel
theorem dX12_valuesOf_251 : decode cX12_valuesOf 251 = .ok (.invokevirtual 725, 3) := by decide +kernel
theorem dX12_valuesOf_254 : decode cX12_valuesOf 254 = .ok (.ifCond .eq 34, 3) := by decide +kernel
theorem dX12_valuesOf_257 : decode cX12_valuesOf 257 = .ok (.aload_n 0, 1) := by decide +kernel
theorem dX12_valuesOf_258 : decode cX12_valuesOf 258 = .ok (.iload_n 1, 1) := by decide +kernel
theorem dX12_valuesOf_259 : decode cX12_valuesOf 259 = .ok (.aload_n 0, 1) := by decide +kernel
theorem dX12_valuesOf_260 : decode cX12_valuesOf 260 = .ok (.getfield 23, 3) := by decide +kernel
theorem dX12_valuesOf_263 : decode cX12_valuesOf 263 = .ok (.sipush 320, 3) := by decide +kernel
theorem dX12_valuesOf_266 : decode cX12_valuesOf 266 = .ok (.iload_n 1, 1) := by decide +kernel
theorem dX12_valuesOf_267 : decode cX12_valuesOf 267 = .ok (.imul, 1) := by decide +kernel
theorem dX12_valuesOf_268 : decode cX12_valuesOf 268 = .ok (.iload_n 3, 1) := by decide +kernel
theorem dX12_valuesOf_269 : decode cX12_valuesOf 269 = .ok (.iadd, 1) := by decide +kernel
theorem dX12_valuesOf_270 : decode cX12_valuesOf 270 = .ok (.iaload, 1) := by decide +kernel
theorem dX12_valuesOf_271 : decode cX12_valuesOf 271 = .ok (.sipush 320, 3) := by decide +kernel
theorem dX12_valuesOf_274 : decode cX12_valuesOf 274 = .ok (.iload_n 1, 1) := by decide +kernel
theorem dX12_valuesOf_275 : decode cX12_valuesOf 275 = .ok (.imul, 1) := by decide +kernel
theorem dX12_valuesOf_276 : decode cX12_valuesOf 276 = .ok (.iload_n 3, 1) := by decide +kernel
theorem dX12_valuesOf_277 : decode cX12_valuesOf 277 = .ok (.iadd, 1) := by decide +kernel
theorem dX12_valuesOf_278 : decode cX12_valuesOf 278 = .ok (.invokevirtual 728, 3) := by decide +kernel
theorem dX12_valuesOf_281 : decode cX12_valuesOf 281 = .ok (.aload_n 0, 1) := by decide +kernel
theorem dX12_valuesOf_282 : decode cX12_valuesOf 282 = .ok (.iload_n 3, 1) := by decide +kernel
theorem dX12_valuesOf_283 : decode cX12_valuesOf 283 = .ok (.invokevirtual 716, 3) := by decide +kernel
theorem dX12_valuesOf_286 : decode cX12_valuesOf 286 = .ok (.iconst 1, 1) := by decide +kernel
theorem dX12_valuesOf_287 : decode cX12_valuesOf 287 = .ok (.istore_n 2, 1) := by decide +kernel
theorem dX12_valuesOf_288 : decode cX12_valuesOf 288 = .ok (.iinc 3 1, 3) := by decide +kernel
theorem dX12_valuesOf_291 : decode cX12_valuesOf 291 = .ok (.goto (-58), 3) := by decide +kernel
theorem dX12_valuesOf_294 : decode cX12_valuesOf 294 = .ok (.goto (-69), 3) := by decide +kernel
theorem dX12_valuesOf_297 : decode cX12_valuesOf 297 = .ok (.return_, 1) := by decide +kernel
def mX12_leadsOf : MI := (yX12_leadsOf, cX12_leadsOf, 7, none)
theorem qc_X12_leadsOf : Cond.code mX12_leadsOf.1 mX12_leadsOf.2.1 mX12_leadsOf.2.2.1 mX12_leadsOf.2.2.2 ∈ gtb := (gtb_in (List.mem_of_getElem? (i := 2242) (by decide +kernel)) (by decide +kernel))
theorem qi_X12_leadsOf : Cond.instanceMethod mX12_leadsOf.1 ∈ gtb := (gtb_in (List.mem_of_getElem? (i := 2241) (by decide +kernel)) (by decide +kernel))
theorem qs_X12_leadsOf : Cond.selects mX12_leadsOf.1.cls mX12_leadsOf.1 mX12_leadsOf.1 ∈ gtb := (gtb_sel (q := (⟨"SheetBranchesModel", "leadsOf", "(II)V"⟩, 105)) (List.mem_of_getElem? (i := 144) (by decide +kernel)) (by decide +kernel))
theorem qd_X12_leadsOf : dsc mX12_leadsOf.1 2 := ⟨by decide +kernel, by decide +kernel, by decide +kernel⟩
set_option maxRecDepth 20000 in
theorem vl_X12_713 : VL RX12 713 12 mX12_leadsOf 2 := ⟨⟨qc_X12_leadsOf, (gtb_in (List.mem_of_getElem? (i := 2239) (by decide +kernel)) (by decide +kernel)), qi_X12_leadsOf, qs_X12_leadsOf, zw_12⟩, ⟨_, _, rfl⟩, by decide, qd_X12_leadsOf, by decide⟩
set_option maxRecDepth 20000 in
theorem vl_X12_716 : VL RX12 716 12 mX12_goesThrough 1 := ⟨⟨qc_X12_goesThrough, (gtb_in (List.mem_of_getElem? (i := 2281) (by decide +kernel)) (by decide +kernel)), qi_X12_goesThrough, qs_X12_goesThrough, zw_12⟩, ⟨_, _, rfl⟩, by decide, qd_X12_goesThrough, by decide⟩
set_option maxRecDepth 20000 in
theorem vl_X12_719 : VL RX12 719 12 mX12_plainValue 2 := ⟨⟨qc_X12_plainValue, (gtb_in (List.mem_of_getElem? (i := 2285) (by decide +kernel)) (by decide +kernel)), qi_X12_plainValue, qs_X12_plainValue, zw_12⟩, ⟨_, _, rfl⟩, by decide, qd_X12_plainValue, by decide⟩
set_option maxRecDepth 20000 in
theorem vl_X12_722 : VL RX12 722 12 mX12_close 0 := ⟨⟨qc_X12_close, (gtb_in (List.mem_of_getElem? (i := 2297) (by decide +kernel)) (by decide +kernel)), qi_X12_close, qs_X12_close, zw_12⟩, ⟨_, _, rfl⟩, by decide, qd_X12_close, by decide⟩
def mX12_error : MI := (yX12_error, cX12_error, 3, none)
theorem qc_X12_error : Cond.code mX12_error.1 mX12_error.2.1 mX12_error.2.2.1 mX12_error.2.2.2 ∈ gtb := (gtb_in (List.mem_of_getElem? (i := 2307) (by decide +kernel)) (by decide +kernel))
theorem qi_X12_error : Cond.instanceMethod mX12_error.1 ∈ gtb := (gtb_in (List.mem_of_getElem? (i := 2306) (by decide +kernel)) (by decide +kernel))
theorem qs_X12_error : Cond.selects mX12_error.1.cls mX12_error.1 mX12_error.1 ∈ gtb := (gtb_sel (q := (⟨"SheetBranchesModel", "error", "(II)V"⟩, 105)) (List.mem_of_getElem? (i := 158) (by decide +kernel)) (by decide +kernel))
theorem qd_X12_error : dsc mX12_error.1 2 := ⟨by decide +kernel, by decide +kernel, by decide +kernel⟩
set_option maxRecDepth 20000 in
theorem vl_X12_541 : VL RX12 541 12 mX12_error 2 := ⟨⟨qc_X12_error, (gtb_in (List.mem_of_getElem? (i := 2304) (by decide +kernel)) (by decide +kernel)), qi_X12_error, qs_X12_error, zw_12⟩, ⟨_, _, rfl⟩, by decide, qd_X12_error, by decide⟩
def mX12_isReady : MI := (yX12_isReady, cX12_isReady, 3, (some .boolean))
theorem qc_X12_isReady : Cond.code mX12_isReady.1 mX12_isReady.2.1 mX12_isReady.2.2.1 mX12_isReady.2.2.2 ∈ gtb := (gtb_in (List.mem_of_getElem? (i := 2311) (by decide +kernel)) (by decide +kernel))
theorem qi_X12_isReady : Cond.instanceMethod mX12_isReady.1 ∈ gtb := (gtb_in (List.mem_of_getElem? (i := 2310) (by decide +kernel)) (by decide +kernel))
theorem qs_X12_isReady : Cond.selects mX12_isReady.1.cls mX12_isReady.1 mX12_isReady.1 ∈ gtb := (gtb_sel (q := (⟨"SheetBranchesModel", "isReady", "(I)Z"⟩, 105)) (List.mem_of_getElem? (i := 159) (by decide +kernel)) (by decide +kernel))
theorem qd_X12_isReady : dsc mX12_isReady.1 1 := ⟨by decide +kernel, by decide +kernel, by decide +kernel⟩
set_option maxRecDepth 20000 in
theorem vl_X12_725 : VL RX12 725 12 mX12_isReady 1 := ⟨⟨qc_X12_isReady, (gtb_in (List.mem_of_getElem? (i := 2308) (by decide +kernel)) (by decide +kernel)), qi_X12_isReady, qs_X12_isReady, zw_12⟩, ⟨_, _, rfl⟩, by decide, qd_X12_isReady, by decide⟩
def mX12_formulaValue : MI := (yX12_formulaValue, cX12_formulaValue, 4, none)
theorem qc_X12_formulaValue : Cond.code mX12_formulaValue.1 mX12_formulaValue.2.1 mX12_formulaValue.2.2.1 mX12_formulaValue.2.2.2 ∈ gtb := (gtb_in (List.mem_of_getElem? (i := 2316) (by decide +kernel)) (by decide +kernel))
theorem qi_X12_formulaValue : Cond.instanceMethod mX12_formulaValue.1 ∈ gtb := (gtb_in (List.mem_of_getElem? (i := 2315) (by decide +kernel)) (by decide +kernel))
theorem qs_X12_formulaValue : Cond.selects mX12_formulaValue.1.cls mX12_formulaValue.1 mX12_formulaValue.1 ∈ gtb := (gtb_sel (q := (⟨"SheetBranchesModel", "formulaValue", "(III)V"⟩, 105)) (List.mem_of_getElem? (i := 160) (by decide +kernel)) (by decide +kernel))
theorem qd_X12_formulaValue : dsc mX12_formulaValue.1 3 := ⟨by decide +kernel, by decide +kernel, by decide +kernel⟩
set_option maxRecDepth 20000 in
theorem vl_X12_728 : VL RX12 728 12 mX12_formulaValue 3 := ⟨⟨qc_X12_formulaValue, (gtb_in (List.mem_of_getElem? (i := 2313) (by decide +kernel)) (by decide +kernel)), qi_X12_formulaValue, qs_X12_formulaValue, zw_12⟩, ⟨_, _, rfl⟩, by decide, qd_X12_formulaValue, by decide⟩
theorem dX12_needValues_0 : decode cX12_needValues 0 = .ok (.iload_n 1, 1) := by decide +kernel
theorem dX12_needValues_1 : decode cX12_needValues 1 = .ok (.bipush 40, 2) := by decide +kernel
theorem dX12_needValues_3 : decode cX12_needValues 3 = .ok (.if_icmp .ne 10, 3) := by decide +kernel
theorem dX12_needValues_6 : decode cX12_needValues 6 = .ok (.aload_n 0, 1) := by decide +kernel
theorem dX12_needValues_7 : decode cX12_needValues 7 = .ok (.getfield 33, 3) := by decide +kernel
theorem dX12_needValues_10 : decode cX12_needValues 10 = .ok (.goto 6, 3) := by decide +kernel
theorem dX12_needValues_13 : decode cX12_needValues 13 = .ok (.iload_n 1, 1) := by decide +kernel
theorem dX12_needValues_14 : decode cX12_needValues 14 = .ok (.iconst 1, 1) := by decide +kernel
theorem dX12_needValues_15 : decode cX12_needValues 15 = .ok (.iadd, 1) := by decide +kernel
theorem dX12_needValues_16 : decode cX12_needValues 16 = .ok (.istore_n 2, 1) := by decide +kernel
theorem dX12_needValues_17 : decode cX12_needValues 17 = .ok (.iconst 0, 1) := by decide +kernel
theorem dX12_needValues_18 : decode cX12_needValues 18 = .ok (.istore_n 3, 1) := by decide +kernel
theorem dX12_needValues_19 : decode cX12_needValues 19 = .ok (.iload_n 3, 1) := by decide +kernel
theorem dX12_needValues_20 : decode cX12_needValues 20 = .ok (.iload_n 2, 1) := by decide +kernel
theorem dX12_needValues_21 : decode cX12_needValues 21 = .ok (.if_icmp .ge 30, 3) := by decide +kernel
theorem dX12_needValues_24 : decode cX12_needValues 24 = .ok (.aload_n 0, 1) := by decide +kernel
theorem dX12_needValues_25 : decode cX12_needValues 25 = .ok (.getfield 122, 3) := by decide +kernel
theorem dX12_needValues_28 : decode cX12_needValues 28 = .ok (.iload_n 3, 1) := by decide +kernel
theorem dX12_needValues_29 : decode cX12_needValues 29 = .ok (.baload, 1) := by decide +kernel
theorem dX12_needValues_30 : decode cX12_needValues 30 = .ok (.ifCond .ne 15, 3) := by decide +kernel
theorem dX12_needValues_33 : decode cX12_needValues 33 = .ok (.aload_n 0, 1) := by decide +kernel
theorem dX12_needValues_34 : decode cX12_needValues 34 = .ok (.iload_n 3, 1) := by decide +kernel
theorem dX12_needValues_35 : decode cX12_needValues 35 = .ok (.invokevirtual 731, 3) := by decide +kernel
theorem dX12_needValues_38 : decode cX12_needValues 38 = .ok (.aload_n 0, 1) := by decide +kernel
theorem dX12_needValues_39 : decode cX12_needValues 39 = .ok (.getfield 122, 3) := by decide +kernel
theorem dX12_needValues_42 : decode cX12_needValues 42 = .ok (.iload_n 3, 1) := by decide +kernel
theorem dX12_needValues_43 : decode cX12_needValues 43 = .ok (.iconst 1, 1) := by decide +kernel
theorem dX12_needValues_44 : decode cX12_needValues 44 = .ok (.bastore, 1) := by decide +kernel
theorem dX12_needValues_45 : decode cX12_needValues 45 = .ok (.iinc 3 1, 3) := by decide +kernel
theorem dX12_needValues_48 : decode cX12_needValues 48 = .ok (.goto (-29), 3) := by decide +kernel
theorem dX12_needValues_51 : decode cX12_needValues 51 = .ok (.iload_n 1, 1) := by decide +kernel
theorem dX12_needValues_52 : decode cX12_needValues 52 = .ok (.bipush 40, 2) := by decide +kernel
theorem dX12_needValues_54 : decode cX12_needValues 54 = .ok (.if_icmp .ne 21, 3) := by decide +kernel
theorem dX12_needValues_57 : decode cX12_needValues 57 = .ok (.aload_n 0, 1) := by decide +kernel
theorem dX12_needValues_58 : decode cX12_needValues 58 = .ok (.getfield 205, 3) := by decide +kernel
theorem dX12_needValues_61 : decode cX12_needValues 61 = .ok (.ifCond .ne 14, 3) := by decide +kernel
theorem dX12_needValues_64 : decode cX12_needValues 64 = .ok (.aload_n 0, 1) := by decide +kernel
theorem dX12_needValues_65 : decode cX12_needValues 65 = .ok (.bipush 40, 2) := by decide +kernel
theorem dX12_needValues_67 : decode cX12_needValues 67 = .ok (.invokevirtual 731, 3) := by decide +kernel
theorem dX12_needValues_70 : decode cX12_needValues 70 = .ok (.aload_n 0, 1) := by decide +kernel
theorem dX12_needValues_71 : decode cX12_needValues 71 = .ok (.iconst 1, 1) := by decide +kernel
theorem dX12_needValues_72 : decode cX12_needValues 72 = .ok (.putfield 205, 3) := by decide +kernel
theorem dX12_needValues_75 : decode cX12_needValues 75 = .ok (.return_, 1) := by decide +kernel
set_option maxRecDepth 20000 in
theorem fl_X12_122 : FL RX12 122 12 64 true := ⟨RX12, TX12, cl_12, by decide, (gtb_in (List.mem_of_getElem? (i := 1709) (by decide +kernel)) (by decide +kernel)), rfl⟩
set_option maxRecDepth 20000 in
theorem vl_X12_731 : VL RX12 731 12 mX12_valuesOf 1 := ⟨⟨qc_X12_valuesOf, (gtb_in (List.mem_of_getElem? (i := 2232) (by decide +kernel)) (by decide +kernel)), qi_X12_valuesOf, qs_X12_valuesOf, zw_12⟩, ⟨_, _, rfl⟩, by decide, qd_X12_valuesOf, by decide⟩
theorem dX12_kind_0 : decode cX12_kind 0 = .ok (.aload_n 0, 1) := by decide +kernel
theorem dX12_kind_1 : decode cX12_kind 1 = .ok (.iconst 0, 1) := by decide +kernel
theorem dX12_kind_2 : decode cX12_kind 2 = .ok (.putfield 202, 3) := by decide +kernel
theorem dX12_kind_5 : decode cX12_kind 5 = .ok (.aload_n 0, 1) := by decide +kernel
theorem dX12_kind_6 : decode cX12_kind 6 = .ok (.iload_n 1, 1) := by decide +kernel
theorem dX12_kind_7 : decode cX12_kind 7 = .ok (.iload_n 2, 1) := by decide +kernel
theorem dX12_kind_8 : decode cX12_kind 8 = .ok (.iload_n 3, 1) := by decide +kernel
theorem dX12_kind_9 : decode cX12_kind 9 = .ok (.invokevirtual 740, 3) := by decide +kernel
theorem dX12_kind_12 : decode cX12_kind 12 = .ok (.istore 4, 2) := by decide +kernel
theorem dX12_kind_14 : decode cX12_kind 14 = .ok (.iload 4, 2) := by decide +kernel
theorem dX12_kind_16 : decode cX12_kind 16 = .ok (.ifCond .ge 5, 3) := by decide +kernel
theorem dX12_kind_19 : decode cX12_kind 19 = .ok (.iconst (-1), 1) := by decide +kernel
theorem dX12_kind_20 : decode cX12_kind 20 = .ok (.ireturn, 1) := by decide +kernel
theorem dX12_kind_21 : decode cX12_kind 21 = .ok (.aload_n 0, 1) := by decide +kernel
theorem dX12_kind_22 : decode cX12_kind 22 = .ok (.iload_n 1, 1) := by decide +kernel
theorem dX12_kind_23 : decode cX12_kind 23 = .ok (.invokestatic 737, 3) := by decide +kernel
theorem dX12_kind_26 : decode cX12_kind 26 = .ok (.invokevirtual 743, 3) := by decide +kernel
theorem dX12_kind_29 : decode cX12_kind 29 = .ok (.aload_n 0, 1) := by decide +kernel
theorem dX12_kind_30 : decode cX12_kind 30 = .ok (.getfield 109, 3) := by decide +kernel
theorem dX12_kind_33 : decode cX12_kind 33 = .ok (.iload 4, 2) := by decide +kernel
theorem dX12_kind_35 : decode cX12_kind 35 = .ok (.iaload, 1) := by decide +kernel
theorem dX12_kind_36 : decode cX12_kind 36 = .ok (.ireturn, 1) := by decide +kernel
set_option maxRecDepth 20000 in
theorem vl_X12_740 : VL RX12 740 12 mX12_asked 3 := ⟨⟨qc_X12_asked, (gtb_in (List.mem_of_getElem? (i := 2217) (by decide +kernel)) (by decide +kernel)), qi_X12_asked, qs_X12_asked, zw_12⟩, ⟨_, _, rfl⟩, by decide, qd_X12_asked, by decide⟩
set_option maxRecDepth 20000 in
theorem vl_X12_743 : VL RX12 743 12 mX12_needValues 1 := ⟨⟨qc_X12_needValues, (gtb_in (List.mem_of_getElem? (i := 2228) (by decide +kernel)) (by decide +kernel)), qi_X12_needValues, qs_X12_needValues, zw_12⟩, ⟨_, _, rfl⟩, by decide, qd_X12_needValues, by decide⟩
theorem dX12_value_0 : decode cX12_value 0 = .ok (.aload_n 0, 1) := by decide +kernel
theorem dX12_value_1 : decode cX12_value 1 = .ok (.iconst 0, 1) := by decide +kernel
theorem dX12_value_2 : decode cX12_value 2 = .ok (.putfield 202, 3) := by decide +kernel
theorem dX12_value_5 : decode cX12_value 5 = .ok (.aload_n 0, 1) := by decide +kernel
theorem dX12_value_6 : decode cX12_value 6 = .ok (.iload_n 1, 1) := by decide +kernel
theorem dX12_value_7 : decode cX12_value 7 = .ok (.iload_n 2, 1) := by decide +kernel
theorem dX12_value_8 : decode cX12_value 8 = .ok (.iload_n 3, 1) := by decide +kernel
theorem dX12_value_9 : decode cX12_value 9 = .ok (.invokevirtual 740, 3) := by decide +kernel
theorem dX12_value_12 : decode cX12_value 12 = .ok (.istore 4, 2) := by decide +kernel
theorem dX12_value_14 : decode cX12_value 14 = .ok (.iload 4, 2) := by decide +kernel
theorem dX12_value_16 : decode cX12_value 16 = .ok (.ifCond .ge 5, 3) := by decide +kernel
theorem dX12_value_19 : decode cX12_value 19 = .ok (.lconst 0, 1) := by decide +kernel
theorem dX12_value_20 : decode cX12_value 20 = .ok (.lreturn, 1) := by decide +kernel
theorem dX12_value_21 : decode cX12_value 21 = .ok (.aload_n 0, 1) := by decide +kernel
theorem dX12_value_22 : decode cX12_value 22 = .ok (.iload_n 1, 1) := by decide +kernel
theorem dX12_value_23 : decode cX12_value 23 = .ok (.invokestatic 737, 3) := by decide +kernel
theorem dX12_value_26 : decode cX12_value 26 = .ok (.invokevirtual 743, 3) := by decide +kernel
theorem dX12_value_29 : decode cX12_value 29 = .ok (.aload_n 0, 1) := by decide +kernel
theorem dX12_value_30 : decode cX12_value 30 = .ok (.getfield 109, 3) := by decide +kernel
theorem dX12_value_33 : decode cX12_value 33 = .ok (.iload 4, 2) := by decide +kernel
theorem dX12_value_35 : decode cX12_value 35 = .ok (.iaload, 1) := by decide +kernel
theorem dX12_value_36 : decode cX12_value 36 = .ok (.ifCond .ne 7, 3) := by decide +kernel
theorem dX12_value_39 : decode cX12_value 39 = .ok (.lconst 0, 1) := by decide +kernel
theorem dX12_value_40 : decode cX12_value 40 = .ok (.goto 32, 3) := by decide +kernel
theorem dX12_value_43 : decode cX12_value 43 = .ok (.aload_n 0, 1) := by decide +kernel
theorem dX12_value_44 : decode cX12_value 44 = .ok (.getfield 109, 3) := by decide +kernel
theorem dX12_value_47 : decode cX12_value 47 = .ok (.iload 4, 2) := by decide +kernel
theorem dX12_value_49 : decode cX12_value 49 = .ok (.iaload, 1) := by decide +kernel
theorem dX12_value_50 : decode cX12_value 50 = .ok (.iconst 2, 1) := by decide +kernel
theorem dX12_value_51 : decode cX12_value 51 = .ok (.if_icmp .ne 14, 3) := by decide +kernel
theorem dX12_value_54 : decode cX12_value 54 = .ok (.aload_n 0, 1) := by decide +kernel
theorem dX12_value_55 : decode cX12_value 55 = .ok (.getfield 115, 3) := by decide +kernel
theorem dX12_value_58 : decode cX12_value 58 = .ok (.iload 4, 2) := by decide +kernel
theorem dX12_value_60 : decode cX12_value 60 = .ok (.iaload, 1) := by decide +kernel
theorem dX12_value_61 : decode cX12_value 61 = .ok (.i2l, 1) := by decide +kernel
theorem dX12_value_62 : decode cX12_value 62 = .ok (.goto 10, 3) := by decide +kernel
theorem dX12_value_65 : decode cX12_value 65 = .ok (.aload_n 0, 1) := by decide +kernel
theorem dX12_value_66 : decode cX12_value 66 = .ok (.getfield 112, 3) := by decide +kernel
theorem dX12_value_69 : decode cX12_value 69 = .ok (.iload 4, 2) := by decide +kernel
theorem dX12_value_71 : decode cX12_value 71 = .ok (.laload, 1) := by decide +kernel
theorem dX12_value_72 : decode cX12_value 72 = .ok (.lreturn, 1) := by decide +kernel
theorem dX12_letter_0 : decode cX12_letter 0 = .ok (.aload_n 0, 1) := by decide +kernel
theorem dX12_letter_1 : decode cX12_letter 1 = .ok (.iconst 0, 1) := by decide +kernel
theorem dX12_letter_2 : decode cX12_letter 2 = .ok (.putfield 202, 3) := by decide +kernel
theorem dX12_letter_5 : decode cX12_letter 5 = .ok (.aload_n 0, 1) := by decide +kernel
theorem dX12_letter_6 : decode cX12_letter 6 = .ok (.iload_n 1, 1) := by decide +kernel
theorem dX12_letter_7 : decode cX12_letter 7 = .ok (.iload_n 2, 1) := by decide +kernel
theorem dX12_letter_8 : decode cX12_letter 8 = .ok (.iload_n 3, 1) := by decide +kernel
theorem dX12_letter_9 : decode cX12_letter 9 = .ok (.invokevirtual 740, 3) := by decide +kernel
theorem dX12_letter_12 : decode cX12_letter 12 = .ok (.istore 5, 2) := by decide +kernel
theorem dX12_letter_14 : decode cX12_letter 14 = .ok (.iload 5, 2) := by decide +kernel
theorem dX12_letter_16 : decode cX12_letter 16 = .ok (.ifCond .ge 5, 3) := by decide +kernel
theorem dX12_letter_19 : decode cX12_letter 19 = .ok (.iconst (-1), 1) := by decide +kernel
theorem dX12_letter_20 : decode cX12_letter 20 = .ok (.ireturn, 1) := by decide +kernel
theorem dX12_letter_21 : decode cX12_letter 21 = .ok (.aload_n 0, 1) := by decide +kernel
theorem dX12_letter_22 : decode cX12_letter 22 = .ok (.iload_n 1, 1) := by decide +kernel
theorem dX12_letter_23 : decode cX12_letter 23 = .ok (.invokestatic 737, 3) := by decide +kernel
theorem dX12_letter_26 : decode cX12_letter 26 = .ok (.invokevirtual 743, 3) := by decide +kernel
theorem dX12_letter_29 : decode cX12_letter 29 = .ok (.aload_n 0, 1) := by decide +kernel
theorem dX12_letter_30 : decode cX12_letter 30 = .ok (.getfield 109, 3) := by decide +kernel
theorem dX12_letter_33 : decode cX12_letter 33 = .ok (.iload 5, 2) := by decide +kernel
theorem dX12_letter_35 : decode cX12_letter 35 = .ok (.iaload, 1) := by decide +kernel
theorem dX12_letter_36 : decode cX12_letter 36 = .ok (.iconst 2, 1) := by decide +kernel
theorem dX12_letter_37 : decode cX12_letter 37 = .ok (.if_icmp .ne 37, 3) := by decide +kernel
theorem dX12_letter_40 : decode cX12_letter 40 = .ok (.iload 4, 2) := by decide +kernel
theorem dX12_letter_42 : decode cX12_letter 42 = .ok (.iconst 0, 1) := by decide +kernel
theorem dX12_letter_43 : decode cX12_letter 43 = .ok (.aload_n 0, 1) := by decide +kernel
theorem dX12_letter_44 : decode cX12_letter 44 = .ok (.getfield 115, 3) := by decide +kernel
theorem dX12_letter_47 : decode cX12_letter 47 = .ok (.iload 5, 2) := by decide +kernel
theorem dX12_letter_49 : decode cX12_letter 49 = .ok (.iaload, 1) := by decide +kernel
theorem dX12_letter_50 : decode cX12_letter 50 = .ok (.iconst 1, 1) := by decide +kernel
theorem dX12_letter_51 : decode cX12_letter 51 = .ok (.isub, 1) := by decide +kernel
theorem dX12_letter_52 : decode cX12_letter 52 = .ok (.invokestatic 220, 3) := by decide +kernel
theorem dX12_letter_55 : decode cX12_letter 55 = .ok (.ifCond .eq 19, 3) := by decide +kernel
theorem dX12_letter_58 : decode cX12_letter 58 = .ok (.aload_n 0, 1) := by decide +kernel
theorem dX12_letter_59 : decode cX12_letter 59 = .ok (.getfield 119, 3) := by decide +kernel
theorem dX12_letter_62 : decode cX12_letter 62 = .ok (.bipush 24, 2) := by decide +kernel
theorem dX12_letter_64 : decode cX12_letter 64 = .ok (.iload 5, 2) := by decide +kernel
theorem dX12_letter_66 : decode cX12_letter 66 = .ok (.imul, 1) := by decide +kernel
theorem dX12_letter_67 : decode cX12_letter 67 = .ok (.iload 4, 2) := by decide +kernel
theorem dX12_letter_69 : decode cX12_letter 69 = .ok (.iadd, 1) := by decide +kernel
theorem dX12_letter_70 : decode cX12_letter 70 = .ok (.baload, 1) := by decide +kernel
theorem dX12_letter_71 : decode cX12_letter 71 = .ok (.goto 4, 3) := by decide +kernel
theorem dX12_letter_74 : decode cX12_letter 74 = .ok (.iconst (-1), 1) := by decide +kernel
theorem dX12_letter_75 : decode cX12_letter 75 = .ok (.ireturn, 1) := by decide +kernel
theorem dX12_written_0 : decode cX12_written 0 = .ok (.aload_n 0, 1) := by decide +kernel
theorem dX12_written_1 : decode cX12_written 1 = .ok (.iconst 0, 1) := by decide +kernel
theorem dX12_written_2 : decode cX12_written 2 = .ok (.putfield 202, 3) := by decide +kernel
theorem dX12_written_5 : decode cX12_written 5 = .ok (.aload_n 0, 1) := by decide +kernel
theorem dX12_written_6 : decode cX12_written 6 = .ok (.iload_n 1, 1) := by decide +kernel
theorem dX12_written_7 : decode cX12_written 7 = .ok (.iload_n 2, 1) := by decide +kernel
theorem dX12_written_8 : decode cX12_written 8 = .ok (.iload_n 3, 1) := by decide +kernel
theorem dX12_written_9 : decode cX12_written 9 = .ok (.invokevirtual 740, 3) := by decide +kernel
theorem dX12_written_12 : decode cX12_written 12 = .ok (.ifCond .ge 5, 3) := by decide +kernel
theorem dX12_written_15 : decode cX12_written 15 = .ok (.iconst (-1), 1) := by decide +kernel
theorem dX12_written_16 : decode cX12_written 16 = .ok (.ireturn, 1) := by decide +kernel
theorem dX12_written_17 : decode cX12_written 17 = .ok (.aload_n 0, 1) := by decide +kernel
theorem dX12_written_18 : decode cX12_written 18 = .ok (.iload_n 1, 1) := by decide +kernel
theorem dX12_written_19 : decode cX12_written 19 = .ok (.invokestatic 737, 3) := by decide +kernel
theorem dX12_written_22 : decode cX12_written 22 = .ok (.aload_n 0, 1) := by decide +kernel
theorem dX12_written_23 : decode cX12_written 23 = .ok (.iload_n 1, 1) := by decide +kernel
theorem dX12_written_24 : decode cX12_written 24 = .ok (.invokestatic 737, 3) := by decide +kernel
theorem dX12_written_27 : decode cX12_written 27 = .ok (.iload_n 2, 1) := by decide +kernel
theorem dX12_written_28 : decode cX12_written 28 = .ok (.iload_n 3, 1) := by decide +kernel
theorem dX12_written_29 : decode cX12_written 29 = .ok (.invokevirtual 812, 3) := by decide +kernel
theorem dX12_written_32 : decode cX12_written 32 = .ok (.invokevirtual 815, 3) := by decide +kernel
theorem dX12_written_35 : decode cX12_written 35 = .ok (.iload 4, 2) := by decide +kernel
theorem dX12_written_37 : decode cX12_written 37 = .ok (.iconst 0, 1) := by decide +kernel
theorem dX12_written_38 : decode cX12_written 38 = .ok (.aload_n 0, 1) := by decide +kernel
theorem dX12_written_39 : decode cX12_written 39 = .ok (.getfield 746, 3) := by decide +kernel
theorem dX12_written_42 : decode cX12_written 42 = .ok (.iconst 1, 1) := by decide +kernel
theorem dX12_written_43 : decode cX12_written 43 = .ok (.isub, 1) := by decide +kernel
theorem dX12_written_44 : decode cX12_written 44 = .ok (.invokestatic 220, 3) := by decide +kernel
theorem dX12_written_47 : decode cX12_written 47 = .ok (.ifCond .eq 13, 3) := by decide +kernel
theorem dX12_written_50 : decode cX12_written 50 = .ok (.aload_n 0, 1) := by decide +kernel
theorem dX12_written_51 : decode cX12_written 51 = .ok (.getfield 153, 3) := by decide +kernel
theorem dX12_written_54 : decode cX12_written 54 = .ok (.iload 4, 2) := by decide +kernel
theorem dX12_written_56 : decode cX12_written 56 = .ok (.baload, 1) := by decide +kernel
theorem dX12_written_57 : decode cX12_written 57 = .ok (.goto 4, 3) := by decide +kernel
theorem dX12_written_60 : decode cX12_written 60 = .ok (.iconst (-1), 1) := by decide +kernel
theorem dX12_written_61 : decode cX12_written 61 = .ok (.ireturn, 1) := by decide +kernel
set_option maxRecDepth 20000 in
theorem vl_X12_815 : VL RX12 815 12 mX12_write 2 := ⟨⟨qc_X12_write, (gtb_in (List.mem_of_getElem? (i := 2467) (by decide +kernel)) (by decide +kernel)), qi_X12_write, qs_X12_write, zw_12⟩, ⟨_, _, rfl⟩, by decide, qd_X12_write, by decide⟩
set_option maxRecDepth 20000 in
theorem fl_X12_746 : FL RX12 746 12 87 false := ⟨RX12, TX12, cl_12, by decide, (gtb_in (List.mem_of_getElem? (i := 1732) (by decide +kernel)) (by decide +kernel)), rfl⟩
set_option maxRecDepth 20000 in
theorem fl_X12_153 : FL RX12 153 12 86 true := ⟨RX12, TX12, cl_12, by decide, (gtb_in (List.mem_of_getElem? (i := 1731) (by decide +kernel)) (by decide +kernel)), rfl⟩
theorem dX12_write_0 : decode cX12_write 0 = .ok (.aload_n 0, 1) := by decide +kernel
theorem dX12_write_1 : decode cX12_write 1 = .ok (.iconst 0, 1) := by decide +kernel
theorem dX12_write_2 : decode cX12_write 2 = .ok (.putfield 746, 3) := by decide +kernel
theorem dX12_write_5 : decode cX12_write 5 = .ok (.iload_n 2, 1) := by decide +kernel
theorem dX12_write_6 : decode cX12_write 6 = .ok (.ifCond .ne 4, 3) := by decide +kernel
theorem dX12_write_9 : decode cX12_write 9 = .ok (.return_, 1) := by decide +kernel
theorem dX12_write_10 : decode cX12_write 10 = .ok (.iload_n 2, 1) := by decide +kernel
theorem dX12_write_11 : decode cX12_write 11 = .ok (.invokestatic 244, 3) := by decide +kernel
theorem dX12_write_14 : decode cX12_write 14 = .ok (.ifCond .eq 20, 3) := by decide +kernel
theorem dX12_write_17 : decode cX12_write 17 = .ok (.aload_n 0, 1) := by decide +kernel
theorem dX12_write_18 : decode cX12_write 18 = .ok (.bipush 61, 2) := by decide +kernel
theorem dX12_write_20 : decode cX12_write 20 = .ok (.invokevirtual 749, 3) := by decide +kernel
theorem dX12_write_23 : decode cX12_write 23 = .ok (.aload_n 0, 1) := by decide +kernel
theorem dX12_write_24 : decode cX12_write 24 = .ok (.aload_n 0, 1) := by decide +kernel
theorem dX12_write_25 : decode cX12_write 25 = .ok (.iload_n 2, 1) := by decide +kernel
theorem dX12_write_26 : decode cX12_write 26 = .ok (.invokevirtual 708, 3) := by decide +kernel
theorem dX12_write_29 : decode cX12_write 29 = .ok (.iload_n 1, 1) := by decide +kernel
theorem dX12_write_30 : decode cX12_write 30 = .ok (.invokevirtual 779, 3) := by decide +kernel
theorem dX12_write_33 : decode cX12_write 33 = .ok (.return_, 1) := by decide +kernel
theorem dX12_write_34 : decode cX12_write 34 = .ok (.iload_n 2, 1) := by decide +kernel
theorem dX12_write_35 : decode cX12_write 35 = .ok (.ldc 240, 2) := by decide +kernel
theorem dX12_write_37 : decode cX12_write 37 = .ok (.isub, 1) := by decide +kernel
theorem dX12_write_38 : decode cX12_write 38 = .ok (.istore_n 3, 1) := by decide +kernel
theorem dX12_write_39 : decode cX12_write 39 = .ok (.aload_n 0, 1) := by decide +kernel
theorem dX12_write_40 : decode cX12_write 40 = .ok (.getfield 53, 3) := by decide +kernel
theorem dX12_write_43 : decode cX12_write 43 = .ok (.iload_n 3, 1) := by decide +kernel
theorem dX12_write_44 : decode cX12_write 44 = .ok (.iaload, 1) := by decide +kernel
theorem dX12_write_45 : decode cX12_write 45 = .ok (.iconst 1, 1) := by decide +kernel
theorem dX12_write_46 : decode cX12_write 46 = .ok (.if_icmp .ne 16, 3) := by decide +kernel
theorem dX12_write_49 : decode cX12_write 49 = .ok (.aload_n 0, 1) := by decide +kernel
theorem dX12_write_50 : decode cX12_write 50 = .ok (.aload_n 0, 1) := by decide +kernel
theorem dX12_write_51 : decode cX12_write 51 = .ok (.getfield 56, 3) := by decide +kernel
theorem dX12_write_54 : decode cX12_write 54 = .ok (.iload_n 3, 1) := by decide +kernel
theorem dX12_write_55 : decode cX12_write 55 = .ok (.laload, 1) := by decide +kernel
theorem dX12_write_56 : decode cX12_write 56 = .ok (.invokevirtual 782, 3) := by decide +kernel
theorem dX12_write_59 : decode cX12_write 59 = .ok (.goto 81, 3) := by decide +kernel
theorem dX12_write_62 : decode cX12_write 62 = .ok (.aload_n 0, 1) := by decide +kernel
theorem dX12_write_63 : decode cX12_write 63 = .ok (.getfield 53, 3) := by decide +kernel
theorem dX12_write_66 : decode cX12_write 66 = .ok (.iload_n 3, 1) := by decide +kernel
theorem dX12_write_67 : decode cX12_write 67 = .ok (.iaload, 1) := by decide +kernel
theorem dX12_write_68 : decode cX12_write 68 = .ok (.iconst 3, 1) := by decide +kernel
theorem dX12_write_69 : decode cX12_write 69 = .ok (.if_icmp .ne 30, 3) := by decide +kernel
theorem dX12_write_72 : decode cX12_write 72 = .ok (.aload_n 0, 1) := by decide +kernel
theorem dX12_write_73 : decode cX12_write 73 = .ok (.aload_n 0, 1) := by decide +kernel
theorem dX12_write_74 : decode cX12_write 74 = .ok (.getfield 56, 3) := by decide +kernel
theorem dX12_write_77 : decode cX12_write 77 = .ok (.iload_n 3, 1) := by decide +kernel
theorem dX12_write_78 : decode cX12_write 78 = .ok (.laload, 1) := by decide +kernel
theorem dX12_write_79 : decode cX12_write 79 = .ok (.lconst 1, 1) := by decide +kernel
theorem dX12_write_80 : decode cX12_write 80 = .ok (.lcmp, 1) := by decide +kernel
theorem dX12_write_81 : decode cX12_write 81 = .ok (.ifCond .ne 9, 3) := by decide +kernel
theorem dX12_write_84 : decode cX12_write 84 = .ok (.ldc_w 310, 3) := by decide +kernel
theorem dX12_write_87 : decode cX12_write 87 = .ok (.goto 6, 3) := by decide +kernel
theorem dX12_write_90 : decode cX12_write 90 = .ok (.ldc_w 316, 3) := by decide +kernel
theorem dX12_write_93 : decode cX12_write 93 = .ok (.invokevirtual 786, 3) := by decide +kernel
theorem dX12_write_96 : decode cX12_write 96 = .ok (.goto 44, 3) := by decide +kernel
theorem dX12_write_99 : decode cX12_write 99 = .ok (.aload_n 0, 1) := by decide +kernel
theorem dX12_write_100 : decode cX12_write 100 = .ok (.aload_n 0, 1) := by decide +kernel
theorem dX12_write_101 : decode cX12_write 101 = .ok (.getfield 60, 3) := by decide +kernel
theorem dX12_write_104 : decode cX12_write 104 = .ok (.iload_n 3, 1) := by decide +kernel
theorem dX12_write_105 : decode cX12_write 105 = .ok (.iaload, 1) := by decide +kernel
theorem dX12_write_106 : decode cX12_write 106 = .ok (.aload_n 0, 1) := by decide +kernel
theorem dX12_write_107 : decode cX12_write 107 = .ok (.getfield 63, 3) := by decide +kernel
theorem dX12_write_110 : decode cX12_write 110 = .ok (.iload_n 3, 1) := by decide +kernel
theorem dX12_write_111 : decode cX12_write 111 = .ok (.iaload, 1) := by decide +kernel
theorem dX12_write_112 : decode cX12_write 112 = .ok (.invokevirtual 809, 3) := by decide +kernel
theorem dX12_write_115 : decode cX12_write 115 = .ok (.ifCond .eq 9, 3) := by decide +kernel
theorem dX12_write_118 : decode cX12_write 118 = .ok (.aload_n 0, 1) := by decide +kernel
theorem dX12_write_119 : decode cX12_write 119 = .ok (.bipush 39, 2) := by decide +kernel
theorem dX12_write_121 : decode cX12_write 121 = .ok (.invokevirtual 749, 3) := by decide +kernel
theorem dX12_write_124 : decode cX12_write 124 = .ok (.aload_n 0, 1) := by decide +kernel
theorem dX12_write_125 : decode cX12_write 125 = .ok (.aload_n 0, 1) := by decide +kernel
theorem dX12_write_126 : decode cX12_write 126 = .ok (.getfield 60, 3) := by decide +kernel
theorem dX12_write_129 : decode cX12_write 129 = .ok (.iload_n 3, 1) := by decide +kernel
theorem dX12_write_130 : decode cX12_write 130 = .ok (.iaload, 1) := by decide +kernel
theorem dX12_write_131 : decode cX12_write 131 = .ok (.aload_n 0, 1) := by decide +kernel
theorem dX12_write_132 : decode cX12_write 132 = .ok (.getfield 63, 3) := by decide +kernel
theorem dX12_write_135 : decode cX12_write 135 = .ok (.iload_n 3, 1) := by decide +kernel
theorem dX12_write_136 : decode cX12_write 136 = .ok (.iaload, 1) := by decide +kernel
theorem dX12_write_137 : decode cX12_write 137 = .ok (.invokevirtual 796, 3) := by decide +kernel
theorem dX12_write_140 : decode cX12_write 140 = .ok (.return_, 1) := by decide +kernel
def mX12_put : MI := (yX12_put, cX12_put, 2, none)
theorem qc_X12_put : Cond.code mX12_put.1 mX12_put.2.1 mX12_put.2.2.1 mX12_put.2.2.2 ∈ gtb := (gtb_in (List.mem_of_getElem? (i := 2474) (by decide +kernel)) (by decide +kernel))
theorem qi_X12_put : Cond.instanceMethod mX12_put.1 ∈ gtb := (gtb_in (List.mem_of_getElem? (i := 2473) (by decide +kernel)) (by decide +kernel))
theorem qs_X12_put : Cond.selects mX12_put.1.cls mX12_put.1 mX12_put.1 ∈ gtb := (gtb_sel (q := (⟨"SheetBranchesModel", "put", "(I)V"⟩, 105)) (List.mem_of_getElem? (i := 194) (by decide +kernel)) (by decide +kernel))
theorem qd_X12_put : dsc mX12_put.1 1 := ⟨by decide +kernel, by decide +kernel, by decide +kernel⟩
set_option maxRecDepth 20000 in
theorem vl_X12_749 : VL RX12 749 12 mX12_put 1 := ⟨⟨qc_X12_put, (gtb_in (List.mem_of_getElem? (i := 2471) (by decide +kernel)) (by decide +kernel)), qi_X12_put, qs_X12_put, zw_12⟩, ⟨_, _, rfl⟩, by decide, qd_X12_put, by decide⟩
def mX12_wholeOf : MI := (yX12_wholeOf, cX12_wholeOf, 2, (some .int))
theorem qc_X12_wholeOf : Cond.code mX12_wholeOf.1 mX12_wholeOf.2.1 mX12_wholeOf.2.2.1 mX12_wholeOf.2.2.2 ∈ gtb := (gtb_in (List.mem_of_getElem? (i := 2320) (by decide +kernel)) (by decide +kernel))
theorem qi_X12_wholeOf : Cond.instanceMethod mX12_wholeOf.1 ∈ gtb := (gtb_in (List.mem_of_getElem? (i := 2319) (by decide +kernel)) (by decide +kernel))
theorem qs_X12_wholeOf : Cond.selects mX12_wholeOf.1.cls mX12_wholeOf.1 mX12_wholeOf.1 ∈ gtb := (gtb_sel (q := (⟨"SheetBranchesModel", "wholeOf", "(I)I"⟩, 105)) (List.mem_of_getElem? (i := 161) (by decide +kernel)) (by decide +kernel))
theorem qd_X12_wholeOf : dsc mX12_wholeOf.1 1 := ⟨by decide +kernel, by decide +kernel, by decide +kernel⟩
set_option maxRecDepth 20000 in
theorem vl_X12_708 : VL RX12 708 12 mX12_wholeOf 1 := ⟨⟨qc_X12_wholeOf, (gtb_in (List.mem_of_getElem? (i := 2317) (by decide +kernel)) (by decide +kernel)), qi_X12_wholeOf, qs_X12_wholeOf, zw_12⟩, ⟨_, _, rfl⟩, by decide, qd_X12_wholeOf, by decide⟩
def mX12_putPart : MI := (yX12_putPart, cX12_putPart, 7, none)
theorem qc_X12_putPart : Cond.code mX12_putPart.1 mX12_putPart.2.1 mX12_putPart.2.2.1 mX12_putPart.2.2.2 ∈ gtb := (gtb_in (List.mem_of_getElem? (i := 2478) (by decide +kernel)) (by decide +kernel))
theorem qi_X12_putPart : Cond.instanceMethod mX12_putPart.1 ∈ gtb := (gtb_in (List.mem_of_getElem? (i := 2477) (by decide +kernel)) (by decide +kernel))
theorem qs_X12_putPart : Cond.selects mX12_putPart.1.cls mX12_putPart.1 mX12_putPart.1 ∈ gtb := (gtb_sel (q := (⟨"SheetBranchesModel", "putPart", "(II)V"⟩, 105)) (List.mem_of_getElem? (i := 195) (by decide +kernel)) (by decide +kernel))
theorem qd_X12_putPart : dsc mX12_putPart.1 2 := ⟨by decide +kernel, by decide +kernel, by decide +kernel⟩
set_option maxRecDepth 20000 in
theorem vl_X12_779 : VL RX12 779 12 mX12_putPart 2 := ⟨⟨qc_X12_putPart, (gtb_in (List.mem_of_getElem? (i := 2475) (by decide +kernel)) (by decide +kernel)), qi_X12_putPart, qs_X12_putPart, zw_12⟩, ⟨_, _, rfl⟩, by decide, qd_X12_putPart, by decide⟩
def mX12_putNumber : MI := (yX12_putNumber, cX12_putNumber, 5, none)
theorem qc_X12_putNumber : Cond.code mX12_putNumber.1 mX12_putNumber.2.1 mX12_putNumber.2.2.1 mX12_putNumber.2.2.2 ∈ gtb := (gtb_in (List.mem_of_getElem? (i := 2485) (by decide +kernel)) (by decide +kernel))
theorem qi_X12_putNumber : Cond.instanceMethod mX12_putNumber.1 ∈ gtb := (gtb_in (List.mem_of_getElem? (i := 2484) (by decide +kernel)) (by decide +kernel))
theorem qs_X12_putNumber : Cond.selects mX12_putNumber.1.cls mX12_putNumber.1 mX12_putNumber.1 ∈ gtb := (gtb_sel (q := (⟨"SheetBranchesModel", "putNumber", "(J)V"⟩, 105)) (List.mem_of_getElem? (i := 196) (by decide +kernel)) (by decide +kernel))
theorem qd_X12_putNumber : dsc mX12_putNumber.1 1 := ⟨by decide +kernel, by decide +kernel, by decide +kernel⟩
set_option maxRecDepth 20000 in
theorem vl_X12_782 : VL RX12 782 12 mX12_putNumber 1 := ⟨⟨qc_X12_putNumber, (gtb_in (List.mem_of_getElem? (i := 2482) (by decide +kernel)) (by decide +kernel)), qi_X12_putNumber, qs_X12_putNumber, zw_12⟩, ⟨_, _, rfl⟩, by decide, qd_X12_putNumber, by decide⟩
def mX12_say : MI := (yX12_say, cX12_say, 3, none)
theorem qc_X12_say : Cond.code mX12_say.1 mX12_say.2.1 mX12_say.2.2.1 mX12_say.2.2.2 ∈ gtb := (gtb_in (List.mem_of_getElem? (i := 2493) (by decide +kernel)) (by decide +kernel))
theorem qi_X12_say : Cond.instanceMethod mX12_say.1 ∈ gtb := (gtb_in (List.mem_of_getElem? (i := 2492) (by decide +kernel)) (by decide +kernel))
theorem qs_X12_say : Cond.selects mX12_say.1.cls mX12_say.1 mX12_say.1 ∈ gtb := (gtb_sel (q := (⟨"SheetBranchesModel", "say", "(Ljava/lang/String;)V"⟩, 105)) (List.mem_of_getElem? (i := 198) (by decide +kernel)) (by decide +kernel))
theorem qd_X12_say : dsc mX12_say.1 1 := ⟨by decide +kernel, by decide +kernel, by decide +kernel⟩
set_option maxRecDepth 20000 in
theorem vl_X12_786 : VL RX12 786 12 mX12_say 1 := ⟨⟨qc_X12_say, (gtb_in (List.mem_of_getElem? (i := 2490) (by decide +kernel)) (by decide +kernel)), qi_X12_say, qs_X12_say, zw_12⟩, ⟨_, _, rfl⟩, by decide, qd_X12_say, by decide⟩
def mX12_needsMark : MI := (yX12_needsMark, cX12_needsMark, 6, (some .boolean))
theorem qc_X12_needsMark : Cond.code mX12_needsMark.1 mX12_needsMark.2.1 mX12_needsMark.2.2.1 mX12_needsMark.2.2.2 ∈ gtb := (gtb_in (List.mem_of_getElem? (i := 2524) (by decide +kernel)) (by decide +kernel))
theorem qi_X12_needsMark : Cond.instanceMethod mX12_needsMark.1 ∈ gtb := (gtb_in (List.mem_of_getElem? (i := 2523) (by decide +kernel)) (by decide +kernel))
theorem qs_X12_needsMark : Cond.selects mX12_needsMark.1.cls mX12_needsMark.1 mX12_needsMark.1 ∈ gtb := (gtb_sel (q := (⟨"SheetBranchesModel", "needsMark", "(II)Z"⟩, 105)) (List.mem_of_getElem? (i := 202) (by decide +kernel)) (by decide +kernel))
theorem qd_X12_needsMark : dsc mX12_needsMark.1 2 := ⟨by decide +kernel, by decide +kernel, by decide +kernel⟩
set_option maxRecDepth 20000 in
theorem vl_X12_809 : VL RX12 809 12 mX12_needsMark 2 := ⟨⟨qc_X12_needsMark, (gtb_in (List.mem_of_getElem? (i := 2521) (by decide +kernel)) (by decide +kernel)), qi_X12_needsMark, qs_X12_needsMark, zw_12⟩, ⟨_, _, rfl⟩, by decide, qd_X12_needsMark, by decide⟩
def mX12_putLetters : MI := (yX12_putLetters, cX12_putLetters, 4, none)
theorem qc_X12_putLetters : Cond.code mX12_putLetters.1 mX12_putLetters.2.1 mX12_putLetters.2.2.1 mX12_putLetters.2.2.2 ∈ gtb := (gtb_in (List.mem_of_getElem? (i := 2489) (by decide +kernel)) (by decide +kernel))
theorem qi_X12_putLetters : Cond.instanceMethod mX12_putLetters.1 ∈ gtb := (gtb_in (List.mem_of_getElem? (i := 2488) (by decide +kernel)) (by decide +kernel))
theorem qs_X12_putLetters : Cond.selects mX12_putLetters.1.cls mX12_putLetters.1 mX12_putLetters.1 ∈ gtb := (gtb_sel (q := (⟨"SheetBranchesModel", "putLetters", "(II)V"⟩, 105)) (List.mem_of_getElem? (i := 197) (by decide +kernel)) (by decide +kernel))
theorem qd_X12_putLetters : dsc mX12_putLetters.1 2 := ⟨by decide +kernel, by decide +kernel, by decide +kernel⟩
set_option maxRecDepth 20000 in
theorem vl_X12_796 : VL RX12 796 12 mX12_putLetters 2 := ⟨⟨qc_X12_putLetters, (gtb_in (List.mem_of_getElem? (i := 2486) (by decide +kernel)) (by decide +kernel)), qi_X12_putLetters, qs_X12_putLetters, zw_12⟩, ⟨_, _, rfl⟩, by decide, qd_X12_putLetters, by decide⟩
theorem dX12_isAhead_0 : decode cX12_isAhead 0 = .ok (.aload_n 0, 1) := by decide +kernel
theorem dX12_isAhead_1 : decode cX12_isAhead 1 = .ok (.getfield 109, 3) := by decide +kernel
theorem dX12_isAhead_4 : decode cX12_isAhead 4 = .ok (.iload_n 1, 1) := by decide +kernel
theorem dX12_isAhead_5 : decode cX12_isAhead 5 = .ok (.iaload, 1) := by decide +kernel
theorem dX12_isAhead_6 : decode cX12_isAhead 6 = .ok (.invokestatic 850, 3) := by decide +kernel
theorem dX12_isAhead_9 : decode cX12_isAhead 9 = .ok (.istore 4, 2) := by decide +kernel
theorem dX12_isAhead_11 : decode cX12_isAhead 11 = .ok (.aload_n 0, 1) := by decide +kernel
theorem dX12_isAhead_12 : decode cX12_isAhead 12 = .ok (.getfield 109, 3) := by decide +kernel
theorem dX12_isAhead_15 : decode cX12_isAhead 15 = .ok (.iload_n 2, 1) := by decide +kernel
theorem dX12_isAhead_16 : decode cX12_isAhead 16 = .ok (.iaload, 1) := by decide +kernel
theorem dX12_isAhead_17 : decode cX12_isAhead 17 = .ok (.invokestatic 850, 3) := by decide +kernel
theorem dX12_isAhead_20 : decode cX12_isAhead 20 = .ok (.istore 5, 2) := by decide +kernel
theorem dX12_isAhead_22 : decode cX12_isAhead 22 = .ok (.iload 4, 2) := by decide +kernel
theorem dX12_isAhead_24 : decode cX12_isAhead 24 = .ok (.iconst 5, 1) := by decide +kernel
theorem dX12_isAhead_25 : decode cX12_isAhead 25 = .ok (.if_icmp .eq 9, 3) := by decide +kernel
theorem dX12_isAhead_28 : decode cX12_isAhead 28 = .ok (.iload 5, 2) := by decide +kernel
theorem dX12_isAhead_30 : decode cX12_isAhead 30 = .ok (.iconst 5, 1) := by decide +kernel
theorem dX12_isAhead_31 : decode cX12_isAhead 31 = .ok (.if_icmp .ne 16, 3) := by decide +kernel
theorem dX12_isAhead_34 : decode cX12_isAhead 34 = .ok (.iload 4, 2) := by decide +kernel
theorem dX12_isAhead_36 : decode cX12_isAhead 36 = .ok (.iload 5, 2) := by decide +kernel
theorem dX12_isAhead_38 : decode cX12_isAhead 38 = .ok (.if_icmp .ge 7, 3) := by decide +kernel
theorem dX12_isAhead_41 : decode cX12_isAhead 41 = .ok (.iconst 1, 1) := by decide +kernel
theorem dX12_isAhead_42 : decode cX12_isAhead 42 = .ok (.goto 4, 3) := by decide +kernel
theorem dX12_isAhead_45 : decode cX12_isAhead 45 = .ok (.iconst 0, 1) := by decide +kernel
theorem dX12_isAhead_46 : decode cX12_isAhead 46 = .ok (.ireturn, 1) := by decide +kernel
theorem dX12_isAhead_47 : decode cX12_isAhead 47 = .ok (.iload 4, 2) := by decide +kernel
theorem dX12_isAhead_49 : decode cX12_isAhead 49 = .ok (.iload 5, 2) := by decide +kernel
theorem dX12_isAhead_51 : decode cX12_isAhead 51 = .ok (.if_icmp .eq 25, 3) := by decide +kernel
theorem dX12_isAhead_54 : decode cX12_isAhead 54 = .ok (.iload 4, 2) := by decide +kernel
theorem dX12_isAhead_56 : decode cX12_isAhead 56 = .ok (.iload 5, 2) := by decide +kernel
theorem dX12_isAhead_58 : decode cX12_isAhead 58 = .ok (.if_icmp .ge 7, 3) := by decide +kernel
theorem dX12_isAhead_61 : decode cX12_isAhead 61 = .ok (.iconst 1, 1) := by decide +kernel
theorem dX12_isAhead_62 : decode cX12_isAhead 62 = .ok (.goto 4, 3) := by decide +kernel
theorem dX12_isAhead_65 : decode cX12_isAhead 65 = .ok (.iconst 0, 1) := by decide +kernel
theorem dX12_isAhead_66 : decode cX12_isAhead 66 = .ok (.iload_n 3, 1) := by decide +kernel
theorem dX12_isAhead_67 : decode cX12_isAhead 67 = .ok (.if_icmp .eq 7, 3) := by decide +kernel
theorem dX12_isAhead_70 : decode cX12_isAhead 70 = .ok (.iconst 1, 1) := by decide +kernel
theorem dX12_isAhead_71 : decode cX12_isAhead 71 = .ok (.goto 4, 3) := by decide +kernel
theorem dX12_isAhead_74 : decode cX12_isAhead 74 = .ok (.iconst 0, 1) := by decide +kernel
theorem dX12_isAhead_75 : decode cX12_isAhead 75 = .ok (.ireturn, 1) := by decide +kernel
theorem dX12_isAhead_76 : decode cX12_isAhead 76 = .ok (.iload 4, 2) := by decide +kernel
theorem dX12_isAhead_78 : decode cX12_isAhead 78 = .ok (.iconst 4, 1) := by decide +kernel
theorem dX12_isAhead_79 : decode cX12_isAhead 79 = .ok (.if_icmp .ne 5, 3) := by decide +kernel
theorem dX12_isAhead_82 : decode cX12_isAhead 82 = .ok (.iconst 0, 1) := by decide +kernel
theorem dX12_isAhead_83 : decode cX12_isAhead 83 = .ok (.ireturn, 1) := by decide +kernel
theorem dX12_isAhead_84 : decode cX12_isAhead 84 = .ok (.aload_n 0, 1) := by decide +kernel
theorem dX12_isAhead_85 : decode cX12_isAhead 85 = .ok (.iconst 0, 1) := by decide +kernel
theorem dX12_isAhead_86 : decode cX12_isAhead 86 = .ok (.iload_n 1, 1) := by decide +kernel
theorem dX12_isAhead_87 : decode cX12_isAhead 87 = .ok (.invokevirtual 585, 3) := by decide +kernel
theorem dX12_isAhead_90 : decode cX12_isAhead 90 = .ok (.aload_n 0, 1) := by decide +kernel
theorem dX12_isAhead_91 : decode cX12_isAhead 91 = .ok (.iconst 1, 1) := by decide +kernel
theorem dX12_isAhead_92 : decode cX12_isAhead 92 = .ok (.iload_n 2, 1) := by decide +kernel
theorem dX12_isAhead_93 : decode cX12_isAhead 93 = .ok (.invokevirtual 585, 3) := by decide +kernel
theorem dX12_isAhead_96 : decode cX12_isAhead 96 = .ok (.aload_n 0, 1) := by decide +kernel
theorem dX12_isAhead_97 : decode cX12_isAhead 97 = .ok (.iconst 0, 1) := by decide +kernel
theorem dX12_isAhead_98 : decode cX12_isAhead 98 = .ok (.iconst 1, 1) := by decide +kernel
theorem dX12_isAhead_99 : decode cX12_isAhead 99 = .ok (.invokevirtual 625, 3) := by decide +kernel
theorem dX12_isAhead_102 : decode cX12_isAhead 102 = .ok (.istore 6, 2) := by decide +kernel
theorem dX12_isAhead_104 : decode cX12_isAhead 104 = .ok (.iload_n 3, 1) := by decide +kernel
theorem dX12_isAhead_105 : decode cX12_isAhead 105 = .ok (.ifCond .eq 16, 3) := by decide +kernel
theorem dX12_isAhead_108 : decode cX12_isAhead 108 = .ok (.iload 6, 2) := by decide +kernel
theorem dX12_isAhead_110 : decode cX12_isAhead 110 = .ok (.ifCond .le 7, 3) := by decide +kernel
theorem dX12_isAhead_113 : decode cX12_isAhead 113 = .ok (.iconst 1, 1) := by decide +kernel
theorem dX12_isAhead_114 : decode cX12_isAhead 114 = .ok (.goto 17, 3) := by decide +kernel
theorem dX12_isAhead_117 : decode cX12_isAhead 117 = .ok (.iconst 0, 1) := by decide +kernel
theorem dX12_isAhead_118 : decode cX12_isAhead 118 = .ok (.goto 13, 3) := by decide +kernel
theorem dX12_isAhead_121 : decode cX12_isAhead 121 = .ok (.iload 6, 2) := by decide +kernel
theorem dX12_isAhead_123 : decode cX12_isAhead 123 = .ok (.ifCond .ge 7, 3) := by decide +kernel
theorem dX12_isAhead_126 : decode cX12_isAhead 126 = .ok (.iconst 1, 1) := by decide +kernel
theorem dX12_isAhead_127 : decode cX12_isAhead 127 = .ok (.goto 4, 3) := by decide +kernel
theorem dX12_isAhead_130 : decode cX12_isAhead 130 = .ok (.iconst 0, 1) := by decide +kernel
theorem dX12_isAhead_131 : decode cX12_isAhead 131 = .ok (.ireturn, 1) := by decide +kernel
set_option maxRecDepth 20000 in
theorem sl_X12_850 : SL RX12 850 mX12_rank 1 := ⟨⟨qc_X12_rank, (gtb_in (List.mem_of_getElem? (i := 2595) (by decide +kernel)) (by decide +kernel)), qt_X12_rank, zw_12⟩, qd_X12_rank, by decide⟩
def mX12_load : MI := (yX12_load, cX12_load, 3, none)
theorem qc_X12_load : Cond.code mX12_load.1 mX12_load.2.1 mX12_load.2.2.1 mX12_load.2.2.2 ∈ gtb := (gtb_in (List.mem_of_getElem? (i := 2339) (by decide +kernel)) (by decide +kernel))
theorem qi_X12_load : Cond.instanceMethod mX12_load.1 ∈ gtb := (gtb_in (List.mem_of_getElem? (i := 2338) (by decide +kernel)) (by decide +kernel))
theorem qs_X12_load : Cond.selects mX12_load.1.cls mX12_load.1 mX12_load.1 ∈ gtb := (gtb_sel (q := (⟨"SheetBranchesModel", "load", "(II)V"⟩, 105)) (List.mem_of_getElem? (i := 165) (by decide +kernel)) (by decide +kernel))
theorem qd_X12_load : dsc mX12_load.1 2 := ⟨by decide +kernel, by decide +kernel, by decide +kernel⟩
set_option maxRecDepth 20000 in
theorem vl_X12_585 : VL RX12 585 12 mX12_load 2 := ⟨⟨qc_X12_load, (gtb_in (List.mem_of_getElem? (i := 2336) (by decide +kernel)) (by decide +kernel)), qi_X12_load, qs_X12_load, zw_12⟩, ⟨_, _, rfl⟩, by decide, qd_X12_load, by decide⟩
def mX12_order : MI := (yX12_order, cX12_order, 7, (some .int))
theorem qc_X12_order : Cond.code mX12_order.1 mX12_order.2.1 mX12_order.2.2.1 mX12_order.2.2.2 ∈ gtb := (gtb_in (List.mem_of_getElem? (i := 2372) (by decide +kernel)) (by decide +kernel))
theorem qi_X12_order : Cond.instanceMethod mX12_order.1 ∈ gtb := (gtb_in (List.mem_of_getElem? (i := 2371) (by decide +kernel)) (by decide +kernel))
theorem qs_X12_order : Cond.selects mX12_order.1.cls mX12_order.1 mX12_order.1 ∈ gtb := (gtb_sel (q := (⟨"SheetBranchesModel", "order", "(II)I"⟩, 105)) (List.mem_of_getElem? (i := 173) (by decide +kernel)) (by decide +kernel))
theorem qd_X12_order : dsc mX12_order.1 2 := ⟨by decide +kernel, by decide +kernel, by decide +kernel⟩
set_option maxRecDepth 20000 in
theorem vl_X12_625 : VL RX12 625 12 mX12_order 2 := ⟨⟨qc_X12_order, (gtb_in (List.mem_of_getElem? (i := 2369) (by decide +kernel)) (by decide +kernel)), qi_X12_order, qs_X12_order, zw_12⟩, ⟨_, _, rfl⟩, by decide, qd_X12_order, by decide⟩
theorem dX12_rank_0 : decode cX12_rank 0 = .ok (.iload_n 0, 1) := by decide +kernel
theorem dX12_rank_1 : decode cX12_rank 1 = .ok (.ifCond .ne 7, 3) := by decide +kernel
theorem dX12_rank_4 : decode cX12_rank 4 = .ok (.iconst 5, 1) := by decide +kernel
theorem dX12_rank_5 : decode cX12_rank 5 = .ok (.goto 4, 3) := by decide +kernel
theorem dX12_rank_8 : decode cX12_rank 8 = .ok (.iload_n 0, 1) := by decide +kernel
theorem dX12_rank_9 : decode cX12_rank 9 = .ok (.ireturn, 1) := by decide +kernel
theorem dX12_sort_0 : decode cX12_sort 0 = .ok (.aload_n 0, 1) := by decide +kernel
theorem dX12_sort_1 : decode cX12_sort 1 = .ok (.iconst 0, 1) := by decide +kernel
theorem dX12_sort_2 : decode cX12_sort 2 = .ok (.putfield 202, 3) := by decide +kernel
theorem dX12_sort_5 : decode cX12_sort 5 = .ok (.iload_n 1, 1) := by decide +kernel
theorem dX12_sort_6 : decode cX12_sort 6 = .ok (.iconst 1, 1) := by decide +kernel
theorem dX12_sort_7 : decode cX12_sort 7 = .ok (.aload_n 0, 1) := by decide +kernel
theorem dX12_sort_8 : decode cX12_sort 8 = .ok (.getfield 13, 3) := by decide +kernel
theorem dX12_sort_11 : decode cX12_sort 11 = .ok (.bipush 40, 2) := by decide +kernel
theorem dX12_sort_13 : decode cX12_sort 13 = .ok (.iaload, 1) := by decide +kernel
theorem dX12_sort_14 : decode cX12_sort 14 = .ok (.invokestatic 220, 3) := by decide +kernel
theorem dX12_sort_17 : decode cX12_sort 17 = .ok (.ifCond .eq 33, 3) := by decide +kernel
theorem dX12_sort_20 : decode cX12_sort 20 = .ok (.iload_n 2, 1) := by decide +kernel
theorem dX12_sort_21 : decode cX12_sort 21 = .ok (.iconst 1, 1) := by decide +kernel
theorem dX12_sort_22 : decode cX12_sort 22 = .ok (.aload_n 0, 1) := by decide +kernel
theorem dX12_sort_23 : decode cX12_sort 23 = .ok (.getfield 7, 3) := by decide +kernel
theorem dX12_sort_26 : decode cX12_sort 26 = .ok (.bipush 40, 2) := by decide +kernel
theorem dX12_sort_28 : decode cX12_sort 28 = .ok (.iaload, 1) := by decide +kernel
theorem dX12_sort_29 : decode cX12_sort 29 = .ok (.invokestatic 220, 3) := by decide +kernel
theorem dX12_sort_32 : decode cX12_sort 32 = .ok (.ifCond .eq 18, 3) := by decide +kernel
theorem dX12_sort_35 : decode cX12_sort 35 = .ok (.iload_n 3, 1) := by decide +kernel
theorem dX12_sort_36 : decode cX12_sort 36 = .ok (.iconst 1, 1) := by decide +kernel
theorem dX12_sort_37 : decode cX12_sort 37 = .ok (.aload_n 0, 1) := by decide +kernel
theorem dX12_sort_38 : decode cX12_sort 38 = .ok (.getfield 7, 3) := by decide +kernel
theorem dX12_sort_41 : decode cX12_sort 41 = .ok (.bipush 40, 2) := by decide +kernel
theorem dX12_sort_43 : decode cX12_sort 43 = .ok (.iaload, 1) := by decide +kernel
theorem dX12_sort_44 : decode cX12_sort 44 = .ok (.invokestatic 220, 3) := by decide +kernel
theorem dX12_sort_47 : decode cX12_sort 47 = .ok (.ifCond .ne 9, 3) := by decide +kernel
theorem dX12_sort_50 : decode cX12_sort 50 = .ok (.aload_n 0, 1) := by decide +kernel
theorem dX12_sort_51 : decode cX12_sort 51 = .ok (.iconst 1, 1) := by decide +kernel
theorem dX12_sort_52 : decode cX12_sort 52 = .ok (.invokevirtual 237, 3) := by decide +kernel
theorem dX12_sort_55 : decode cX12_sort 55 = .ok (.ireturn, 1) := by decide +kernel
theorem dX12_sort_56 : decode cX12_sort 56 = .ok (.iload_n 3, 1) := by decide +kernel
theorem dX12_sort_57 : decode cX12_sort 57 = .ok (.iload_n 2, 1) := by decide +kernel
theorem dX12_sort_58 : decode cX12_sort 58 = .ok (.if_icmp .ge 9, 3) := by decide +kernel
theorem dX12_sort_61 : decode cX12_sort 61 = .ok (.aload_n 0, 1) := by decide +kernel
theorem dX12_sort_62 : decode cX12_sort 62 = .ok (.iconst 2, 1) := by decide +kernel
theorem dX12_sort_63 : decode cX12_sort 63 = .ok (.invokevirtual 237, 3) := by decide +kernel
theorem dX12_sort_66 : decode cX12_sort 66 = .ok (.ireturn, 1) := by decide +kernel
theorem dX12_sort_67 : decode cX12_sort 67 = .ok (.aload_n 0, 1) := by decide +kernel
theorem dX12_sort_68 : decode cX12_sort 68 = .ok (.bipush 40, 2) := by decide +kernel
theorem dX12_sort_70 : decode cX12_sort 70 = .ok (.invokevirtual 743, 3) := by decide +kernel
theorem dX12_sort_73 : decode cX12_sort 73 = .ok (.iload_n 3, 1) := by decide +kernel
theorem dX12_sort_74 : decode cX12_sort 74 = .ok (.iload_n 2, 1) := by decide +kernel
theorem dX12_sort_75 : decode cX12_sort 75 = .ok (.isub, 1) := by decide +kernel
theorem dX12_sort_76 : decode cX12_sort 76 = .ok (.iconst 1, 1) := by decide +kernel
theorem dX12_sort_77 : decode cX12_sort 77 = .ok (.iadd, 1) := by decide +kernel
theorem dX12_sort_78 : decode cX12_sort 78 = .ok (.istore 5, 2) := by decide +kernel
theorem dX12_sort_80 : decode cX12_sort 80 = .ok (.sipush 12800, 3) := by decide +kernel
theorem dX12_sort_83 : decode cX12_sort 83 = .ok (.bipush 10, 2) := by decide +kernel
theorem dX12_sort_85 : decode cX12_sort 85 = .ok (.iload_n 2, 1) := by decide +kernel
theorem dX12_sort_86 : decode cX12_sort 86 = .ok (.iconst 1, 1) := by decide +kernel
theorem dX12_sort_87 : decode cX12_sort 87 = .ok (.isub, 1) := by decide +kernel
theorem dX12_sort_88 : decode cX12_sort 88 = .ok (.imul, 1) := by decide +kernel
theorem dX12_sort_89 : decode cX12_sort 89 = .ok (.iadd, 1) := by decide +kernel
theorem dX12_sort_90 : decode cX12_sort 90 = .ok (.iload_n 1, 1) := by decide +kernel
theorem dX12_sort_91 : decode cX12_sort 91 = .ok (.iadd, 1) := by decide +kernel
theorem dX12_sort_92 : decode cX12_sort 92 = .ok (.iconst 1, 1) := by decide +kernel
theorem dX12_sort_93 : decode cX12_sort 93 = .ok (.isub, 1) := by decide +kernel
theorem dX12_sort_94 : decode cX12_sort 94 = .ok (.istore 6, 2) := by decide +kernel
theorem dX12_sort_96 : decode cX12_sort 96 = .ok (.iconst 0, 1) := by decide +kernel
theorem dX12_sort_97 : decode cX12_sort 97 = .ok (.istore 7, 2) := by decide +kernel
theorem dX12_sort_99 : decode cX12_sort 99 = .ok (.iload 7, 2) := by decide +kernel
theorem dX12_sort_101 : decode cX12_sort 101 = .ok (.iload 5, 2) := by decide +kernel
theorem dX12_sort_103 : decode cX12_sort 103 = .ok (.if_icmp .ge 81, 3) := by decide +kernel
theorem dX12_sort_106 : decode cX12_sort 106 = .ok (.iload 7, 2) := by decide +kernel
theorem dX12_sort_108 : decode cX12_sort 108 = .ok (.istore 8, 2) := by decide +kernel
theorem dX12_sort_110 : decode cX12_sort 110 = .ok (.iload 8, 2) := by decide +kernel
theorem dX12_sort_112 : decode cX12_sort 112 = .ok (.ifCond .le 57, 3) := by decide +kernel
theorem dX12_sort_115 : decode cX12_sort 115 = .ok (.aload_n 0, 1) := by decide +kernel
theorem dX12_sort_116 : decode cX12_sort 116 = .ok (.iload 6, 2) := by decide +kernel
theorem dX12_sort_118 : decode cX12_sort 118 = .ok (.bipush 10, 2) := by decide +kernel
theorem dX12_sort_120 : decode cX12_sort 120 = .ok (.iload 7, 2) := by decide +kernel
theorem dX12_sort_122 : decode cX12_sort 122 = .ok (.imul, 1) := by decide +kernel
theorem dX12_sort_123 : decode cX12_sort 123 = .ok (.iadd, 1) := by decide +kernel
theorem dX12_sort_124 : decode cX12_sort 124 = .ok (.iload 6, 2) := by decide +kernel
theorem dX12_sort_126 : decode cX12_sort 126 = .ok (.bipush 10, 2) := by decide +kernel
theorem dX12_sort_128 : decode cX12_sort 128 = .ok (.aload_n 0, 1) := by decide +kernel
theorem dX12_sort_129 : decode cX12_sort 129 = .ok (.getfield 156, 3) := by decide +kernel
theorem dX12_sort_132 : decode cX12_sort 132 = .ok (.iload 8, 2) := by decide +kernel
theorem dX12_sort_134 : decode cX12_sort 134 = .ok (.iconst 1, 1) := by decide +kernel
theorem dX12_sort_135 : decode cX12_sort 135 = .ok (.isub, 1) := by decide +kernel
theorem dX12_sort_136 : decode cX12_sort 136 = .ok (.iaload, 1) := by decide +kernel
theorem dX12_sort_137 : decode cX12_sort 137 = .ok (.imul, 1) := by decide +kernel
theorem dX12_sort_138 : decode cX12_sort 138 = .ok (.iadd, 1) := by decide +kernel
theorem dX12_sort_139 : decode cX12_sort 139 = .ok (.iload 4, 2) := by decide +kernel
theorem dX12_sort_141 : decode cX12_sort 141 = .ok (.invokevirtual 853, 3) := by decide +kernel
theorem dX12_sort_144 : decode cX12_sort 144 = .ok (.ifCond .eq 25, 3) := by decide +kernel
theorem dX12_sort_147 : decode cX12_sort 147 = .ok (.aload_n 0, 1) := by decide +kernel
theorem dX12_sort_148 : decode cX12_sort 148 = .ok (.getfield 156, 3) := by decide +kernel
theorem dX12_sort_151 : decode cX12_sort 151 = .ok (.iload 8, 2) := by decide +kernel
theorem dX12_sort_153 : decode cX12_sort 153 = .ok (.aload_n 0, 1) := by decide +kernel
theorem dX12_sort_154 : decode cX12_sort 154 = .ok (.getfield 156, 3) := by decide +kernel
theorem dX12_sort_157 : decode cX12_sort 157 = .ok (.iload 8, 2) := by decide +kernel
theorem dX12_sort_159 : decode cX12_sort 159 = .ok (.iconst 1, 1) := by decide +kernel
theorem dX12_sort_160 : decode cX12_sort 160 = .ok (.isub, 1) := by decide +kernel
theorem dX12_sort_161 : decode cX12_sort 161 = .ok (.iaload, 1) := by decide +kernel
theorem dX12_sort_162 : decode cX12_sort 162 = .ok (.iastore, 1) := by decide +kernel
theorem dX12_sort_163 : decode cX12_sort 163 = .ok (.iinc 8 (-1), 3) := by decide +kernel
theorem dX12_sort_166 : decode cX12_sort 166 = .ok (.goto (-56), 3) := by decide +kernel
theorem dX12_sort_169 : decode cX12_sort 169 = .ok (.aload_n 0, 1) := by decide +kernel
theorem dX12_sort_170 : decode cX12_sort 170 = .ok (.getfield 156, 3) := by decide +kernel
theorem dX12_sort_173 : decode cX12_sort 173 = .ok (.iload 8, 2) := by decide +kernel
theorem dX12_sort_175 : decode cX12_sort 175 = .ok (.iload 7, 2) := by decide +kernel
theorem dX12_sort_177 : decode cX12_sort 177 = .ok (.iastore, 1) := by decide +kernel
theorem dX12_sort_178 : decode cX12_sort 178 = .ok (.iinc 7 1, 3) := by decide +kernel
theorem dX12_sort_181 : decode cX12_sort 181 = .ok (.goto (-82), 3) := by decide +kernel
theorem dX12_sort_184 : decode cX12_sort 184 = .ok (.aload_n 0, 1) := by decide +kernel
theorem dX12_sort_185 : decode cX12_sort 185 = .ok (.invokevirtual 340, 3) := by decide +kernel
theorem dX12_sort_188 : decode cX12_sort 188 = .ok (.istore 7, 2) := by decide +kernel
theorem dX12_sort_190 : decode cX12_sort 190 = .ok (.iconst 0, 1) := by decide +kernel
theorem dX12_sort_191 : decode cX12_sort 191 = .ok (.istore 8, 2) := by decide +kernel
theorem dX12_sort_193 : decode cX12_sort 193 = .ok (.iconst 0, 1) := by decide +kernel
theorem dX12_sort_194 : decode cX12_sort 194 = .ok (.istore 9, 2) := by decide +kernel
theorem dX12_sort_196 : decode cX12_sort 196 = .ok (.iload 9, 2) := by decide +kernel
theorem dX12_sort_198 : decode cX12_sort 198 = .ok (.iload 5, 2) := by decide +kernel
theorem dX12_sort_200 : decode cX12_sort 200 = .ok (.if_icmp .ge 55, 3) := by decide +kernel
theorem dX12_sort_203 : decode cX12_sort 203 = .ok (.iload 8, 2) := by decide +kernel
theorem dX12_sort_205 : decode cX12_sort 205 = .ok (.aload_n 0, 1) := by decide +kernel
theorem dX12_sort_206 : decode cX12_sort 206 = .ok (.getfield 156, 3) := by decide +kernel
theorem dX12_sort_209 : decode cX12_sort 209 = .ok (.iload 9, 2) := by decide +kernel
theorem dX12_sort_211 : decode cX12_sort 211 = .ok (.iaload, 1) := by decide +kernel
theorem dX12_sort_212 : decode cX12_sort 212 = .ok (.iload 9, 2) := by decide +kernel
theorem dX12_sort_214 : decode cX12_sort 214 = .ok (.if_icmp .eq 7, 3) := by decide +kernel
theorem dX12_sort_217 : decode cX12_sort 217 = .ok (.iconst 1, 1) := by decide +kernel
theorem dX12_sort_218 : decode cX12_sort 218 = .ok (.goto 4, 3) := by decide +kernel
theorem dX12_sort_221 : decode cX12_sort 221 = .ok (.iconst 0, 1) := by decide +kernel
theorem dX12_sort_222 : decode cX12_sort 222 = .ok (.iadd, 1) := by decide +kernel
theorem dX12_sort_223 : decode cX12_sort 223 = .ok (.istore 8, 2) := by decide +kernel
theorem dX12_sort_225 : decode cX12_sort 225 = .ok (.aload_n 0, 1) := by decide +kernel
theorem dX12_sort_226 : decode cX12_sort 226 = .ok (.iconst 0, 1) := by decide +kernel
theorem dX12_sort_227 : decode cX12_sort 227 = .ok (.iload_n 2, 1) := by decide +kernel
theorem dX12_sort_228 : decode cX12_sort 228 = .ok (.iconst 1, 1) := by decide +kernel
theorem dX12_sort_229 : decode cX12_sort 229 = .ok (.isub, 1) := by decide +kernel
theorem dX12_sort_230 : decode cX12_sort 230 = .ok (.aload_n 0, 1) := by decide +kernel
theorem dX12_sort_231 : decode cX12_sort 231 = .ok (.getfield 156, 3) := by decide +kernel
theorem dX12_sort_234 : decode cX12_sort 234 = .ok (.iload 9, 2) := by decide +kernel
theorem dX12_sort_236 : decode cX12_sort 236 = .ok (.iaload, 1) := by decide +kernel
theorem dX12_sort_237 : decode cX12_sort 237 = .ok (.iadd, 1) := by decide +kernel
theorem dX12_sort_238 : decode cX12_sort 238 = .ok (.iload 7, 2) := by decide +kernel
theorem dX12_sort_240 : decode cX12_sort 240 = .ok (.iload_n 2, 1) := by decide +kernel
theorem dX12_sort_241 : decode cX12_sort 241 = .ok (.iconst 1, 1) := by decide +kernel
theorem dX12_sort_242 : decode cX12_sort 242 = .ok (.isub, 1) := by decide +kernel
theorem dX12_sort_243 : decode cX12_sort 243 = .ok (.iload 9, 2) := by decide +kernel
theorem dX12_sort_245 : decode cX12_sort 245 = .ok (.iadd, 1) := by decide +kernel
theorem dX12_sort_246 : decode cX12_sort 246 = .ok (.invokevirtual 831, 3) := by decide +kernel
theorem dX12_sort_249 : decode cX12_sort 249 = .ok (.iinc 9 1, 3) := by decide +kernel
theorem dX12_sort_252 : decode cX12_sort 252 = .ok (.goto (-56), 3) := by decide +kernel
theorem dX12_sort_255 : decode cX12_sort 255 = .ok (.iload 8, 2) := by decide +kernel
theorem dX12_sort_257 : decode cX12_sort 257 = .ok (.ireturn, 1) := by decide +kernel
set_option maxRecDepth 20000 in
theorem fl_X12_156 : FL RX12 156 12 88 true := ⟨RX12, TX12, cl_12, by decide, (gtb_in (List.mem_of_getElem? (i := 1733) (by decide +kernel)) (by decide +kernel)), rfl⟩
set_option maxRecDepth 20000 in
theorem vl_X12_853 : VL RX12 853 12 mX12_isAhead 3 := ⟨⟨qc_X12_isAhead, (gtb_in (List.mem_of_getElem? (i := 2591) (by decide +kernel)) (by decide +kernel)), qi_X12_isAhead, qs_X12_isAhead, zw_12⟩, ⟨_, _, rfl⟩, by decide, qd_X12_isAhead, by decide⟩
theorem dX12_copy_0 : decode cX12_copy 0 = .ok (.aload_n 0, 1) := by decide +kernel
theorem dX12_copy_1 : decode cX12_copy 1 = .ok (.iconst 0, 1) := by decide +kernel
theorem dX12_copy_2 : decode cX12_copy 2 = .ok (.putfield 202, 3) := by decide +kernel
theorem dX12_copy_5 : decode cX12_copy 5 = .ok (.aload_n 0, 1) := by decide +kernel
theorem dX12_copy_6 : decode cX12_copy 6 = .ok (.bipush 40, 2) := by decide +kernel
theorem dX12_copy_8 : decode cX12_copy 8 = .ok (.iload_n 1, 1) := by decide +kernel
theorem dX12_copy_9 : decode cX12_copy 9 = .ok (.iload_n 2, 1) := by decide +kernel
theorem dX12_copy_10 : decode cX12_copy 10 = .ok (.invokevirtual 321, 3) := by decide +kernel
theorem dX12_copy_13 : decode cX12_copy 13 = .ok (.ifCond .eq 28, 3) := by decide +kernel
theorem dX12_copy_16 : decode cX12_copy 16 = .ok (.aload_n 0, 1) := by decide +kernel
theorem dX12_copy_17 : decode cX12_copy 17 = .ok (.bipush 40, 2) := by decide +kernel
theorem dX12_copy_19 : decode cX12_copy 19 = .ok (.iload_n 3, 1) := by decide +kernel
theorem dX12_copy_20 : decode cX12_copy 20 = .ok (.iload 4, 2) := by decide +kernel
theorem dX12_copy_22 : decode cX12_copy 22 = .ok (.invokevirtual 321, 3) := by decide +kernel
theorem dX12_copy_25 : decode cX12_copy 25 = .ok (.ifCond .eq 16, 3) := by decide +kernel
theorem dX12_copy_28 : decode cX12_copy 28 = .ok (.aload_n 0, 1) := by decide +kernel
theorem dX12_copy_29 : decode cX12_copy 29 = .ok (.bipush 40, 2) := by decide +kernel
theorem dX12_copy_31 : decode cX12_copy 31 = .ok (.iload 5, 2) := by decide +kernel
theorem dX12_copy_33 : decode cX12_copy 33 = .ok (.iload 6, 2) := by decide +kernel
theorem dX12_copy_35 : decode cX12_copy 35 = .ok (.invokevirtual 321, 3) := by decide +kernel
theorem dX12_copy_38 : decode cX12_copy 38 = .ok (.ifCond .ne 9, 3) := by decide +kernel
theorem dX12_copy_41 : decode cX12_copy 41 = .ok (.aload_n 0, 1) := by decide +kernel
theorem dX12_copy_42 : decode cX12_copy 42 = .ok (.iconst 1, 1) := by decide +kernel
theorem dX12_copy_43 : decode cX12_copy 43 = .ok (.invokevirtual 237, 3) := by decide +kernel
theorem dX12_copy_46 : decode cX12_copy 46 = .ok (.ireturn, 1) := by decide +kernel
theorem dX12_copy_47 : decode cX12_copy 47 = .ok (.iload_n 3, 1) := by decide +kernel
theorem dX12_copy_48 : decode cX12_copy 48 = .ok (.iload_n 1, 1) := by decide +kernel
theorem dX12_copy_49 : decode cX12_copy 49 = .ok (.if_icmp .lt 9, 3) := by decide +kernel
theorem dX12_copy_52 : decode cX12_copy 52 = .ok (.iload 4, 2) := by decide +kernel
theorem dX12_copy_54 : decode cX12_copy 54 = .ok (.iload_n 2, 1) := by decide +kernel
theorem dX12_copy_55 : decode cX12_copy 55 = .ok (.if_icmp .ge 9, 3) := by decide +kernel
theorem dX12_copy_58 : decode cX12_copy 58 = .ok (.aload_n 0, 1) := by decide +kernel
theorem dX12_copy_59 : decode cX12_copy 59 = .ok (.iconst 2, 1) := by decide +kernel
theorem dX12_copy_60 : decode cX12_copy 60 = .ok (.invokevirtual 237, 3) := by decide +kernel
theorem dX12_copy_63 : decode cX12_copy 63 = .ok (.ireturn, 1) := by decide +kernel
theorem dX12_copy_64 : decode cX12_copy 64 = .ok (.iload_n 3, 1) := by decide +kernel
theorem dX12_copy_65 : decode cX12_copy 65 = .ok (.iload_n 1, 1) := by decide +kernel
theorem dX12_copy_66 : decode cX12_copy 66 = .ok (.isub, 1) := by decide +kernel
theorem dX12_copy_67 : decode cX12_copy 67 = .ok (.aload_n 0, 1) := by decide +kernel
theorem dX12_copy_68 : decode cX12_copy 68 = .ok (.getfield 7, 3) := by decide +kernel
theorem dX12_copy_71 : decode cX12_copy 71 = .ok (.bipush 40, 2) := by decide +kernel
theorem dX12_copy_73 : decode cX12_copy 73 = .ok (.iaload, 1) := by decide +kernel
theorem dX12_copy_74 : decode cX12_copy 74 = .ok (.iload 5, 2) := by decide +kernel
theorem dX12_copy_76 : decode cX12_copy 76 = .ok (.isub, 1) := by decide +kernel
theorem dX12_copy_77 : decode cX12_copy 77 = .ok (.invokestatic 564, 3) := by decide +kernel
theorem dX12_copy_80 : decode cX12_copy 80 = .ok (.iconst 1, 1) := by decide +kernel
theorem dX12_copy_81 : decode cX12_copy 81 = .ok (.iadd, 1) := by decide +kernel
theorem dX12_copy_82 : decode cX12_copy 82 = .ok (.istore 7, 2) := by decide +kernel
theorem dX12_copy_84 : decode cX12_copy 84 = .ok (.iload 4, 2) := by decide +kernel
theorem dX12_copy_86 : decode cX12_copy 86 = .ok (.iload_n 2, 1) := by decide +kernel
theorem dX12_copy_87 : decode cX12_copy 87 = .ok (.isub, 1) := by decide +kernel
theorem dX12_copy_88 : decode cX12_copy 88 = .ok (.aload_n 0, 1) := by decide +kernel
theorem dX12_copy_89 : decode cX12_copy 89 = .ok (.getfield 13, 3) := by decide +kernel
theorem dX12_copy_92 : decode cX12_copy 92 = .ok (.bipush 40, 2) := by decide +kernel
theorem dX12_copy_94 : decode cX12_copy 94 = .ok (.iaload, 1) := by decide +kernel
theorem dX12_copy_95 : decode cX12_copy 95 = .ok (.iload 6, 2) := by decide +kernel
theorem dX12_copy_97 : decode cX12_copy 97 = .ok (.isub, 1) := by decide +kernel
theorem dX12_copy_98 : decode cX12_copy 98 = .ok (.invokestatic 564, 3) := by decide +kernel
theorem dX12_copy_101 : decode cX12_copy 101 = .ok (.iconst 1, 1) := by decide +kernel
theorem dX12_copy_102 : decode cX12_copy 102 = .ok (.iadd, 1) := by decide +kernel
theorem dX12_copy_103 : decode cX12_copy 103 = .ok (.istore 8, 2) := by decide +kernel
theorem dX12_copy_105 : decode cX12_copy 105 = .ok (.iconst 0, 1) := by decide +kernel
theorem dX12_copy_106 : decode cX12_copy 106 = .ok (.istore 9, 2) := by decide +kernel
theorem dX12_copy_108 : decode cX12_copy 108 = .ok (.iconst 0, 1) := by decide +kernel
theorem dX12_copy_109 : decode cX12_copy 109 = .ok (.istore 10, 2) := by decide +kernel
theorem dX12_copy_111 : decode cX12_copy 111 = .ok (.iload 10, 2) := by decide +kernel
theorem dX12_copy_113 : decode cX12_copy 113 = .ok (.iload 7, 2) := by decide +kernel
theorem dX12_copy_115 : decode cX12_copy 115 = .ok (.iload 8, 2) := by decide +kernel
theorem dX12_copy_117 : decode cX12_copy 117 = .ok (.imul, 1) := by decide +kernel
theorem dX12_copy_118 : decode cX12_copy 118 = .ok (.if_icmp .ge 57, 3) := by decide +kernel
theorem dX12_copy_121 : decode cX12_copy 121 = .ok (.aload_n 0, 1) := by decide +kernel
theorem dX12_copy_122 : decode cX12_copy 122 = .ok (.bipush 40, 2) := by decide +kernel
theorem dX12_copy_124 : decode cX12_copy 124 = .ok (.iload_n 1, 1) := by decide +kernel
theorem dX12_copy_125 : decode cX12_copy 125 = .ok (.iload 10, 2) := by decide +kernel
theorem dX12_copy_127 : decode cX12_copy 127 = .ok (.iload 8, 2) := by decide +kernel
theorem dX12_copy_129 : decode cX12_copy 129 = .ok (.idiv, 1) := by decide +kernel
theorem dX12_copy_130 : decode cX12_copy 130 = .ok (.iadd, 1) := by decide +kernel
theorem dX12_copy_131 : decode cX12_copy 131 = .ok (.iload_n 2, 1) := by decide +kernel
theorem dX12_copy_132 : decode cX12_copy 132 = .ok (.iload 10, 2) := by decide +kernel
theorem dX12_copy_134 : decode cX12_copy 134 = .ok (.iload 8, 2) := by decide +kernel
theorem dX12_copy_136 : decode cX12_copy 136 = .ok (.irem, 1) := by decide +kernel
theorem dX12_copy_137 : decode cX12_copy 137 = .ok (.iadd, 1) := by decide +kernel
theorem dX12_copy_138 : decode cX12_copy 138 = .ok (.invokevirtual 812, 3) := by decide +kernel
theorem dX12_copy_141 : decode cX12_copy 141 = .ok (.istore 11, 2) := by decide +kernel
theorem dX12_copy_143 : decode cX12_copy 143 = .ok (.iload 9, 2) := by decide +kernel
theorem dX12_copy_145 : decode cX12_copy 145 = .ok (.iload 11, 2) := by decide +kernel
theorem dX12_copy_147 : decode cX12_copy 147 = .ok (.invokestatic 244, 3) := by decide +kernel
theorem dX12_copy_150 : decode cX12_copy 150 = .ok (.ifCond .eq 15, 3) := by decide +kernel
theorem dX12_copy_153 : decode cX12_copy 153 = .ok (.aload_n 0, 1) := by decide +kernel
theorem dX12_copy_154 : decode cX12_copy 154 = .ok (.getfield 103, 3) := by decide +kernel
theorem dX12_copy_157 : decode cX12_copy 157 = .ok (.iload 11, 2) := by decide +kernel
theorem dX12_copy_159 : decode cX12_copy 159 = .ok (.iconst 1, 1) := by decide +kernel
theorem dX12_copy_160 : decode cX12_copy 160 = .ok (.isub, 1) := by decide +kernel
theorem dX12_copy_161 : decode cX12_copy 161 = .ok (.iaload, 1) := by decide +kernel
theorem dX12_copy_162 : decode cX12_copy 162 = .ok (.goto 4, 3) := by decide +kernel
theorem dX12_copy_165 : decode cX12_copy 165 = .ok (.iconst 0, 1) := by decide +kernel
theorem dX12_copy_166 : decode cX12_copy 166 = .ok (.iadd, 1) := by decide +kernel
theorem dX12_copy_167 : decode cX12_copy 167 = .ok (.istore 9, 2) := by decide +kernel
theorem dX12_copy_169 : decode cX12_copy 169 = .ok (.iinc 10 1, 3) := by decide +kernel
theorem dX12_copy_172 : decode cX12_copy 172 = .ok (.goto (-61), 3) := by decide +kernel
theorem dX12_copy_175 : decode cX12_copy 175 = .ok (.aload_n 0, 1) := by decide +kernel
theorem dX12_copy_176 : decode cX12_copy 176 = .ok (.getfield 336, 3) := by decide +kernel
theorem dX12_copy_179 : decode cX12_copy 179 = .ok (.iload 9, 2) := by decide +kernel
theorem dX12_copy_181 : decode cX12_copy 181 = .ok (.iadd, 1) := by decide +kernel
theorem dX12_copy_182 : decode cX12_copy 182 = .ok (.ldc_w 339, 3) := by decide +kernel
theorem dX12_copy_185 : decode cX12_copy 185 = .ok (.if_icmp .le 9, 3) := by decide +kernel
theorem dX12_copy_188 : decode cX12_copy 188 = .ok (.aload_n 0, 1) := by decide +kernel
theorem dX12_copy_189 : decode cX12_copy 189 = .ok (.iconst 3, 1) := by decide +kernel
theorem dX12_copy_190 : decode cX12_copy 190 = .ok (.invokevirtual 237, 3) := by decide +kernel
theorem dX12_copy_193 : decode cX12_copy 193 = .ok (.ireturn, 1) := by decide +kernel
theorem dX12_copy_194 : decode cX12_copy 194 = .ok (.aload_n 0, 1) := by decide +kernel
theorem dX12_copy_195 : decode cX12_copy 195 = .ok (.invokevirtual 340, 3) := by decide +kernel
theorem dX12_copy_198 : decode cX12_copy 198 = .ok (.istore 10, 2) := by decide +kernel
theorem dX12_copy_200 : decode cX12_copy 200 = .ok (.iconst 0, 1) := by decide +kernel
theorem dX12_copy_201 : decode cX12_copy 201 = .ok (.istore 11, 2) := by decide +kernel
theorem dX12_copy_203 : decode cX12_copy 203 = .ok (.iload 11, 2) := by decide +kernel
theorem dX12_copy_205 : decode cX12_copy 205 = .ok (.iload 7, 2) := by decide +kernel
theorem dX12_copy_207 : decode cX12_copy 207 = .ok (.iload 8, 2) := by decide +kernel
theorem dX12_copy_209 : decode cX12_copy 209 = .ok (.imul, 1) := by decide +kernel
theorem dX12_copy_210 : decode cX12_copy 210 = .ok (.if_icmp .ge 77, 3) := by decide +kernel
theorem dX12_copy_213 : decode cX12_copy 213 = .ok (.aload_n 0, 1) := by decide +kernel
theorem dX12_copy_214 : decode cX12_copy 214 = .ok (.iload 10, 2) := by decide +kernel
theorem dX12_copy_216 : decode cX12_copy 216 = .ok (.iload_n 1, 1) := by decide +kernel
theorem dX12_copy_217 : decode cX12_copy 217 = .ok (.iload 11, 2) := by decide +kernel
theorem dX12_copy_219 : decode cX12_copy 219 = .ok (.iload 8, 2) := by decide +kernel
theorem dX12_copy_221 : decode cX12_copy 221 = .ok (.idiv, 1) := by decide +kernel
theorem dX12_copy_222 : decode cX12_copy 222 = .ok (.iadd, 1) := by decide +kernel
theorem dX12_copy_223 : decode cX12_copy 223 = .ok (.iload_n 2, 1) := by decide +kernel
theorem dX12_copy_224 : decode cX12_copy 224 = .ok (.iload 11, 2) := by decide +kernel
theorem dX12_copy_226 : decode cX12_copy 226 = .ok (.iload 8, 2) := by decide +kernel
theorem dX12_copy_228 : decode cX12_copy 228 = .ok (.irem, 1) := by decide +kernel
theorem dX12_copy_229 : decode cX12_copy 229 = .ok (.iadd, 1) := by decide +kernel
theorem dX12_copy_230 : decode cX12_copy 230 = .ok (.invokevirtual 812, 3) := by decide +kernel
theorem dX12_copy_233 : decode cX12_copy 233 = .ok (.istore 12, 2) := by decide +kernel
theorem dX12_copy_235 : decode cX12_copy 235 = .ok (.iload 12, 2) := by decide +kernel
theorem dX12_copy_237 : decode cX12_copy 237 = .ok (.invokestatic 244, 3) := by decide +kernel
theorem dX12_copy_240 : decode cX12_copy 240 = .ok (.ifCond .eq 19, 3) := by decide +kernel
theorem dX12_copy_243 : decode cX12_copy 243 = .ok (.aload_n 0, 1) := by decide +kernel
theorem dX12_copy_244 : decode cX12_copy 244 = .ok (.iload 12, 2) := by decide +kernel
theorem dX12_copy_246 : decode cX12_copy 246 = .ok (.iload 5, 2) := by decide +kernel
theorem dX12_copy_248 : decode cX12_copy 248 = .ok (.iload_n 1, 1) := by decide +kernel
theorem dX12_copy_249 : decode cX12_copy 249 = .ok (.isub, 1) := by decide +kernel
theorem dX12_copy_250 : decode cX12_copy 250 = .ok (.iload 6, 2) := by decide +kernel
theorem dX12_copy_252 : decode cX12_copy 252 = .ok (.iload_n 2, 1) := by decide +kernel
theorem dX12_copy_253 : decode cX12_copy 253 = .ok (.isub, 1) := by decide +kernel
theorem dX12_copy_254 : decode cX12_copy 254 = .ok (.invokevirtual 847, 3) := by decide +kernel
theorem dX12_copy_257 : decode cX12_copy 257 = .ok (.istore 12, 2) := by decide +kernel
theorem dX12_copy_259 : decode cX12_copy 259 = .ok (.aload_n 0, 1) := by decide +kernel
theorem dX12_copy_260 : decode cX12_copy 260 = .ok (.iload 5, 2) := by decide +kernel
theorem dX12_copy_262 : decode cX12_copy 262 = .ok (.iload 11, 2) := by decide +kernel
theorem dX12_copy_264 : decode cX12_copy 264 = .ok (.iload 8, 2) := by decide +kernel
theorem dX12_copy_266 : decode cX12_copy 266 = .ok (.idiv, 1) := by decide +kernel
theorem dX12_copy_267 : decode cX12_copy 267 = .ok (.iadd, 1) := by decide +kernel
theorem dX12_copy_268 : decode cX12_copy 268 = .ok (.iload 6, 2) := by decide +kernel
theorem dX12_copy_270 : decode cX12_copy 270 = .ok (.iload 11, 2) := by decide +kernel
theorem dX12_copy_272 : decode cX12_copy 272 = .ok (.iload 8, 2) := by decide +kernel
theorem dX12_copy_274 : decode cX12_copy 274 = .ok (.irem, 1) := by decide +kernel
theorem dX12_copy_275 : decode cX12_copy 275 = .ok (.iadd, 1) := by decide +kernel
theorem dX12_copy_276 : decode cX12_copy 276 = .ok (.iload 12, 2) := by decide +kernel
theorem dX12_copy_278 : decode cX12_copy 278 = .ok (.invokevirtual 343, 3) := by decide +kernel
theorem dX12_copy_281 : decode cX12_copy 281 = .ok (.iinc 11 1, 3) := by decide +kernel
theorem dX12_copy_284 : decode cX12_copy 284 = .ok (.goto (-81), 3) := by decide +kernel
theorem dX12_copy_287 : decode cX12_copy 287 = .ok (.iload 7, 2) := by decide +kernel
theorem dX12_copy_289 : decode cX12_copy 289 = .ok (.iload 8, 2) := by decide +kernel
theorem dX12_copy_291 : decode cX12_copy 291 = .ok (.imul, 1) := by decide +kernel
theorem dX12_copy_292 : decode cX12_copy 292 = .ok (.ireturn, 1) := by decide +kernel
set_option maxRecDepth 20000 in
theorem sl_X12_564 : SL RX12 564 mX12_least 2 := ⟨⟨qc_X12_least, (gtb_in (List.mem_of_getElem? (i := 2267) (by decide +kernel)) (by decide +kernel)), qt_X12_least, zw_12⟩, qd_X12_least, by decide⟩
set_option maxRecDepth 20000 in
theorem kl_X12_339 : Cond.constant RX12 339 (60000) ∈ gtb := (gtb_in (List.mem_of_getElem? (i := 2200) (by decide +kernel)) (by decide +kernel))
def mX12_copyFormula : MI := (yX12_copyFormula, cX12_copyFormula, 8, (some .int))
theorem qc_X12_copyFormula : Cond.code mX12_copyFormula.1 mX12_copyFormula.2.1 mX12_copyFormula.2.2.1 mX12_copyFormula.2.2.2 ∈ gtb := (gtb_in (List.mem_of_getElem? (i := 2578) (by decide +kernel)) (by decide +kernel))
theorem qi_X12_copyFormula : Cond.instanceMethod mX12_copyFormula.1 ∈ gtb := (gtb_in (List.mem_of_getElem? (i := 2577) (by decide +kernel)) (by decide +kernel))
theorem qs_X12_copyFormula : Cond.selects mX12_copyFormula.1.cls mX12_copyFormula.1 mX12_copyFormula.1 ∈ gtb := (gtb_sel (q := (⟨"SheetBranchesModel", "copyFormula", "(III)I"⟩, 105)) (List.mem_of_getElem? (i := 209) (by decide +kernel)) (by decide +kernel))
theorem qd_X12_copyFormula : dsc mX12_copyFormula.1 3 := ⟨by decide +kernel, by decide +kernel, by decide +kernel⟩
set_option maxRecDepth 20000 in
theorem vl_X12_847 : VL RX12 847 12 mX12_copyFormula 3 := ⟨⟨qc_X12_copyFormula, (gtb_in (List.mem_of_getElem? (i := 2575) (by decide +kernel)) (by decide +kernel)), qi_X12_copyFormula, qs_X12_copyFormula, zw_12⟩, ⟨_, _, rfl⟩, by decide, qd_X12_copyFormula, by decide⟩
theorem dX12_feed_0 : decode cX12_feed 0 = .ok (.aload_n 0, 1) := by decide +kernel
theorem dX12_feed_1 : decode cX12_feed 1 = .ok (.iconst 0, 1) := by decide +kernel
theorem dX12_feed_2 : decode cX12_feed 2 = .ok (.putfield 202, 3) := by decide +kernel
theorem dX12_feed_5 : decode cX12_feed 5 = .ok (.aload_n 0, 1) := by decide +kernel
theorem dX12_feed_6 : decode cX12_feed 6 = .ok (.getfield 258, 3) := by decide +kernel
theorem dX12_feed_9 : decode cX12_feed 9 = .ok (.bipush 20, 2) := by decide +kernel
theorem dX12_feed_11 : decode cX12_feed 11 = .ok (.iadd, 1) := by decide +kernel
theorem dX12_feed_12 : decode cX12_feed 12 = .ok (.sipush 400, 3) := by decide +kernel
theorem dX12_feed_15 : decode cX12_feed 15 = .ok (.if_icmp .le 5, 3) := by decide +kernel
theorem dX12_feed_18 : decode cX12_feed 18 = .ok (.iconst (-1), 1) := by decide +kernel
theorem dX12_feed_19 : decode cX12_feed 19 = .ok (.ireturn, 1) := by decide +kernel
theorem dX12_feed_20 : decode cX12_feed 20 = .ok (.iconst 0, 1) := by decide +kernel
theorem dX12_feed_21 : decode cX12_feed 21 = .ok (.istore 6, 2) := by decide +kernel
theorem dX12_feed_23 : decode cX12_feed 23 = .ok (.iload 6, 2) := by decide +kernel
theorem dX12_feed_25 : decode cX12_feed 25 = .ok (.bipush 20, 2) := by decide +kernel
theorem dX12_feed_27 : decode cX12_feed 27 = .ok (.if_icmp .ge 86, 3) := by decide +kernel
theorem dX12_feed_30 : decode cX12_feed 30 = .ok (.iload 6, 2) := by decide +kernel
theorem dX12_feed_32 : decode cX12_feed 32 = .ok (.iconst 4, 1) := by decide +kernel
theorem dX12_feed_33 : decode cX12_feed 33 = .ok (.if_icmp .ge 7, 3) := by decide +kernel
theorem dX12_feed_36 : decode cX12_feed 36 = .ok (.iload_n 1, 1) := by decide +kernel
theorem dX12_feed_37 : decode cX12_feed 37 = .ok (.goto 39, 3) := by decide +kernel
theorem dX12_feed_40 : decode cX12_feed 40 = .ok (.iload 6, 2) := by decide +kernel
theorem dX12_feed_42 : decode cX12_feed 42 = .ok (.bipush 8, 2) := by decide +kernel
theorem dX12_feed_44 : decode cX12_feed 44 = .ok (.if_icmp .ge 7, 3) := by decide +kernel
theorem dX12_feed_47 : decode cX12_feed 47 = .ok (.iload_n 2, 1) := by decide +kernel
theorem dX12_feed_48 : decode cX12_feed 48 = .ok (.goto 28, 3) := by decide +kernel
theorem dX12_feed_51 : decode cX12_feed 51 = .ok (.iload 6, 2) := by decide +kernel
theorem dX12_feed_53 : decode cX12_feed 53 = .ok (.bipush 12, 2) := by decide +kernel
theorem dX12_feed_55 : decode cX12_feed 55 = .ok (.if_icmp .ge 7, 3) := by decide +kernel
theorem dX12_feed_58 : decode cX12_feed 58 = .ok (.iload_n 3, 1) := by decide +kernel
theorem dX12_feed_59 : decode cX12_feed 59 = .ok (.goto 17, 3) := by decide +kernel
theorem dX12_feed_62 : decode cX12_feed 62 = .ok (.iload 6, 2) := by decide +kernel
theorem dX12_feed_64 : decode cX12_feed 64 = .ok (.bipush 16, 2) := by decide +kernel
theorem dX12_feed_66 : decode cX12_feed 66 = .ok (.if_icmp .ge 8, 3) := by decide +kernel
theorem dX12_feed_69 : decode cX12_feed 69 = .ok (.iload 4, 2) := by decide +kernel
theorem dX12_feed_71 : decode cX12_feed 71 = .ok (.goto 5, 3) := by decide +kernel
theorem dX12_feed_74 : decode cX12_feed 74 = .ok (.iload 5, 2) := by decide +kernel
theorem dX12_feed_76 : decode cX12_feed 76 = .ok (.istore 7, 2) := by decide +kernel
theorem dX12_feed_78 : decode cX12_feed 78 = .ok (.aload_n 0, 1) := by decide +kernel
theorem dX12_feed_79 : decode cX12_feed 79 = .ok (.getfield 106, 3) := by decide +kernel
theorem dX12_feed_82 : decode cX12_feed 82 = .ok (.aload_n 0, 1) := by decide +kernel
theorem dX12_feed_83 : decode cX12_feed 83 = .ok (.getfield 258, 3) := by decide +kernel
theorem dX12_feed_86 : decode cX12_feed 86 = .ok (.iload 6, 2) := by decide +kernel
theorem dX12_feed_88 : decode cX12_feed 88 = .ok (.iadd, 1) := by decide +kernel
theorem dX12_feed_89 : decode cX12_feed 89 = .ok (.iload 7, 2) := by decide +kernel
theorem dX12_feed_91 : decode cX12_feed 91 = .ok (.bipush 24, 2) := by decide +kernel
theorem dX12_feed_93 : decode cX12_feed 93 = .ok (.bipush 8, 2) := by decide +kernel
theorem dX12_feed_95 : decode cX12_feed 95 = .ok (.iload 6, 2) := by decide +kernel
theorem dX12_feed_97 : decode cX12_feed 97 = .ok (.iconst 3, 1) := by decide +kernel
theorem dX12_feed_98 : decode cX12_feed 98 = .ok (.iand, 1) := by decide +kernel
theorem dX12_feed_99 : decode cX12_feed 99 = .ok (.imul, 1) := by decide +kernel
theorem dX12_feed_100 : decode cX12_feed 100 = .ok (.isub, 1) := by decide +kernel
theorem dX12_feed_101 : decode cX12_feed 101 = .ok (.ishr, 1) := by decide +kernel
theorem dX12_feed_102 : decode cX12_feed 102 = .ok (.sipush 255, 3) := by decide +kernel
theorem dX12_feed_105 : decode cX12_feed 105 = .ok (.iand, 1) := by decide +kernel
theorem dX12_feed_106 : decode cX12_feed 106 = .ok (.iastore, 1) := by decide +kernel
theorem dX12_feed_107 : decode cX12_feed 107 = .ok (.iinc 6 1, 3) := by decide +kernel
theorem dX12_feed_110 : decode cX12_feed 110 = .ok (.goto (-87), 3) := by decide +kernel
theorem dX12_feed_113 : decode cX12_feed 113 = .ok (.aload_n 0, 1) := by decide +kernel
theorem dX12_feed_114 : decode cX12_feed 114 = .ok (.aload_n 0, 1) := by decide +kernel
theorem dX12_feed_115 : decode cX12_feed 115 = .ok (.getfield 258, 3) := by decide +kernel
theorem dX12_feed_118 : decode cX12_feed 118 = .ok (.bipush 20, 2) := by decide +kernel
theorem dX12_feed_120 : decode cX12_feed 120 = .ok (.iadd, 1) := by decide +kernel
theorem dX12_feed_121 : decode cX12_feed 121 = .ok (.putfield 258, 3) := by decide +kernel
theorem dX12_feed_124 : decode cX12_feed 124 = .ok (.aload_n 0, 1) := by decide +kernel
theorem dX12_feed_125 : decode cX12_feed 125 = .ok (.getfield 258, 3) := by decide +kernel
theorem dX12_feed_128 : decode cX12_feed 128 = .ok (.ireturn, 1) := by decide +kernel
set_option maxRecDepth 20000 in
theorem fl_X12_106 : FL RX12 106 12 39 true := ⟨RX12, TX12, cl_12, by decide, (gtb_in (List.mem_of_getElem? (i := 1684) (by decide +kernel)) (by decide +kernel)), rfl⟩
theorem dX12_enter_0 : decode cX12_enter 0 = .ok (.aload_n 0, 1) := by decide +kernel
theorem dX12_enter_1 : decode cX12_enter 1 = .ok (.iconst 0, 1) := by decide +kernel
theorem dX12_enter_2 : decode cX12_enter 2 = .ok (.putfield 202, 3) := by decide +kernel
theorem dX12_enter_5 : decode cX12_enter 5 = .ok (.aload_n 0, 1) := by decide +kernel
theorem dX12_enter_6 : decode cX12_enter 6 = .ok (.bipush 40, 2) := by decide +kernel
theorem dX12_enter_8 : decode cX12_enter 8 = .ok (.iload_n 1, 1) := by decide +kernel
theorem dX12_enter_9 : decode cX12_enter 9 = .ok (.iload_n 2, 1) := by decide +kernel
theorem dX12_enter_10 : decode cX12_enter 10 = .ok (.invokevirtual 321, 3) := by decide +kernel
theorem dX12_enter_13 : decode cX12_enter 13 = .ok (.ifCond .ne 9, 3) := by decide +kernel
theorem dX12_enter_16 : decode cX12_enter 16 = .ok (.aload_n 0, 1) := by decide +kernel
theorem dX12_enter_17 : decode cX12_enter 17 = .ok (.iconst 1, 1) := by decide +kernel
theorem dX12_enter_18 : decode cX12_enter 18 = .ok (.invokevirtual 237, 3) := by decide +kernel
theorem dX12_enter_21 : decode cX12_enter 21 = .ok (.ireturn, 1) := by decide +kernel
theorem dX12_enter_22 : decode cX12_enter 22 = .ok (.aload_n 0, 1) := by decide +kernel
theorem dX12_enter_23 : decode cX12_enter 23 = .ok (.getfield 258, 3) := by decide +kernel
theorem dX12_enter_26 : decode cX12_enter 26 = .ok (.istore_n 3, 1) := by decide +kernel
theorem dX12_enter_27 : decode cX12_enter 27 = .ok (.aload_n 0, 1) := by decide +kernel
theorem dX12_enter_28 : decode cX12_enter 28 = .ok (.iconst 0, 1) := by decide +kernel
theorem dX12_enter_29 : decode cX12_enter 29 = .ok (.putfield 258, 3) := by decide +kernel
theorem dX12_enter_32 : decode cX12_enter 32 = .ok (.aload_n 0, 1) := by decide +kernel
theorem dX12_enter_33 : decode cX12_enter 33 = .ok (.iconst 0, 1) := by decide +kernel
theorem dX12_enter_34 : decode cX12_enter 34 = .ok (.putfield 277, 3) := by decide +kernel
theorem dX12_enter_37 : decode cX12_enter 37 = .ok (.aload_n 0, 1) := by decide +kernel
theorem dX12_enter_38 : decode cX12_enter 38 = .ok (.iconst (-1), 1) := by decide +kernel
theorem dX12_enter_39 : decode cX12_enter 39 = .ok (.putfield 280, 3) := by decide +kernel
theorem dX12_enter_42 : decode cX12_enter 42 = .ok (.aload_n 0, 1) := by decide +kernel
theorem dX12_enter_43 : decode cX12_enter 43 = .ok (.iconst 0, 1) := by decide +kernel
theorem dX12_enter_44 : decode cX12_enter 44 = .ok (.putfield 290, 3) := by decide +kernel
theorem dX12_enter_47 : decode cX12_enter 47 = .ok (.aload_n 0, 1) := by decide +kernel
theorem dX12_enter_48 : decode cX12_enter 48 = .ok (.iload_n 3, 1) := by decide +kernel
theorem dX12_enter_49 : decode cX12_enter 49 = .ok (.putfield 261, 3) := by decide +kernel
theorem dX12_enter_52 : decode cX12_enter 52 = .ok (.aload_n 0, 1) := by decide +kernel
theorem dX12_enter_53 : decode cX12_enter 53 = .ok (.iload_n 3, 1) := by decide +kernel
theorem dX12_enter_54 : decode cX12_enter 54 = .ok (.putfield 324, 3) := by decide +kernel
theorem dX12_enter_57 : decode cX12_enter 57 = .ok (.aload_n 0, 1) := by decide +kernel
theorem dX12_enter_58 : decode cX12_enter 58 = .ok (.getfield 290, 3) := by decide +kernel
theorem dX12_enter_61 : decode cX12_enter 61 = .ok (.aload_n 0, 1) := by decide +kernel
theorem dX12_enter_62 : decode cX12_enter 62 = .ok (.getfield 261, 3) := by decide +kernel
theorem dX12_enter_65 : decode cX12_enter 65 = .ok (.if_icmp .ge 30, 3) := by decide +kernel
theorem dX12_enter_68 : decode cX12_enter 68 = .ok (.aload_n 0, 1) := by decide +kernel
theorem dX12_enter_69 : decode cX12_enter 69 = .ok (.getfield 106, 3) := by decide +kernel
theorem dX12_enter_72 : decode cX12_enter 72 = .ok (.aload_n 0, 1) := by decide +kernel
theorem dX12_enter_73 : decode cX12_enter 73 = .ok (.getfield 290, 3) := by decide +kernel
theorem dX12_enter_76 : decode cX12_enter 76 = .ok (.iaload, 1) := by decide +kernel
theorem dX12_enter_77 : decode cX12_enter 77 = .ok (.bipush 32, 2) := by decide +kernel
theorem dX12_enter_79 : decode cX12_enter 79 = .ok (.if_icmp .ne 16, 3) := by decide +kernel
theorem dX12_enter_82 : decode cX12_enter 82 = .ok (.aload_n 0, 1) := by decide +kernel
theorem dX12_enter_83 : decode cX12_enter 83 = .ok (.dup, 1) := by decide +kernel
theorem dX12_enter_84 : decode cX12_enter 84 = .ok (.getfield 290, 3) := by decide +kernel
theorem dX12_enter_87 : decode cX12_enter 87 = .ok (.iconst 1, 1) := by decide +kernel
theorem dX12_enter_88 : decode cX12_enter 88 = .ok (.iadd, 1) := by decide +kernel
theorem dX12_enter_89 : decode cX12_enter 89 = .ok (.putfield 290, 3) := by decide +kernel
theorem dX12_enter_92 : decode cX12_enter 92 = .ok (.goto (-35), 3) := by decide +kernel
theorem dX12_enter_95 : decode cX12_enter 95 = .ok (.aload_n 0, 1) := by decide +kernel
theorem dX12_enter_96 : decode cX12_enter 96 = .ok (.getfield 261, 3) := by decide +kernel
theorem dX12_enter_99 : decode cX12_enter 99 = .ok (.aload_n 0, 1) := by decide +kernel
theorem dX12_enter_100 : decode cX12_enter 100 = .ok (.getfield 290, 3) := by decide +kernel
theorem dX12_enter_103 : decode cX12_enter 103 = .ok (.if_icmp .le 32, 3) := by decide +kernel
theorem dX12_enter_106 : decode cX12_enter 106 = .ok (.aload_n 0, 1) := by decide +kernel
theorem dX12_enter_107 : decode cX12_enter 107 = .ok (.getfield 106, 3) := by decide +kernel
theorem dX12_enter_110 : decode cX12_enter 110 = .ok (.aload_n 0, 1) := by decide +kernel
theorem dX12_enter_111 : decode cX12_enter 111 = .ok (.getfield 261, 3) := by decide +kernel
theorem dX12_enter_114 : decode cX12_enter 114 = .ok (.iconst 1, 1) := by decide +kernel
theorem dX12_enter_115 : decode cX12_enter 115 = .ok (.isub, 1) := by decide +kernel
theorem dX12_enter_116 : decode cX12_enter 116 = .ok (.iaload, 1) := by decide +kernel
theorem dX12_enter_117 : decode cX12_enter 117 = .ok (.bipush 32, 2) := by decide +kernel
theorem dX12_enter_119 : decode cX12_enter 119 = .ok (.if_icmp .ne 16, 3) := by decide +kernel
theorem dX12_enter_122 : decode cX12_enter 122 = .ok (.aload_n 0, 1) := by decide +kernel
theorem dX12_enter_123 : decode cX12_enter 123 = .ok (.dup, 1) := by decide +kernel
theorem dX12_enter_124 : decode cX12_enter 124 = .ok (.getfield 261, 3) := by decide +kernel
theorem dX12_enter_127 : decode cX12_enter 127 = .ok (.iconst 1, 1) := by decide +kernel
theorem dX12_enter_128 : decode cX12_enter 128 = .ok (.isub, 1) := by decide +kernel
theorem dX12_enter_129 : decode cX12_enter 129 = .ok (.putfield 261, 3) := by decide +kernel
theorem dX12_enter_132 : decode cX12_enter 132 = .ok (.goto (-37), 3) := by decide +kernel
theorem dX12_enter_135 : decode cX12_enter 135 = .ok (.aload_n 0, 1) := by decide +kernel
theorem dX12_enter_136 : decode cX12_enter 136 = .ok (.getfield 290, 3) := by decide +kernel
theorem dX12_enter_139 : decode cX12_enter 139 = .ok (.aload_n 0, 1) := by decide +kernel
theorem dX12_enter_140 : decode cX12_enter 140 = .ok (.getfield 261, 3) := by decide +kernel
theorem dX12_enter_143 : decode cX12_enter 143 = .ok (.if_icmp .ge 21, 3) := by decide +kernel
theorem dX12_enter_146 : decode cX12_enter 146 = .ok (.aload_n 0, 1) := by decide +kernel
theorem dX12_enter_147 : decode cX12_enter 147 = .ok (.getfield 106, 3) := by decide +kernel
theorem dX12_enter_150 : decode cX12_enter 150 = .ok (.aload_n 0, 1) := by decide +kernel
theorem dX12_enter_151 : decode cX12_enter 151 = .ok (.getfield 290, 3) := by decide +kernel
theorem dX12_enter_154 : decode cX12_enter 154 = .ok (.iaload, 1) := by decide +kernel
theorem dX12_enter_155 : decode cX12_enter 155 = .ok (.bipush 61, 2) := by decide +kernel
theorem dX12_enter_157 : decode cX12_enter 157 = .ok (.if_icmp .ne 7, 3) := by decide +kernel
theorem dX12_enter_160 : decode cX12_enter 160 = .ok (.iconst 1, 1) := by decide +kernel
theorem dX12_enter_161 : decode cX12_enter 161 = .ok (.goto 4, 3) := by decide +kernel
theorem dX12_enter_164 : decode cX12_enter 164 = .ok (.iconst 0, 1) := by decide +kernel
theorem dX12_enter_165 : decode cX12_enter 165 = .ok (.istore 4, 2) := by decide +kernel
theorem dX12_enter_167 : decode cX12_enter 167 = .ok (.iconst 0, 1) := by decide +kernel
theorem dX12_enter_168 : decode cX12_enter 168 = .ok (.istore 5, 2) := by decide +kernel
theorem dX12_enter_170 : decode cX12_enter 170 = .ok (.aload_n 0, 1) := by decide +kernel
theorem dX12_enter_171 : decode cX12_enter 171 = .ok (.iconst 0, 1) := by decide +kernel
theorem dX12_enter_172 : decode cX12_enter 172 = .ok (.putfield 327, 3) := by decide +kernel
theorem dX12_enter_175 : decode cX12_enter 175 = .ok (.iload 4, 2) := by decide +kernel
theorem dX12_enter_177 : decode cX12_enter 177 = .ok (.ifCond .eq 10, 3) := by decide +kernel
theorem dX12_enter_180 : decode cX12_enter 180 = .ok (.aload_n 0, 1) := by decide +kernel
theorem dX12_enter_181 : decode cX12_enter 181 = .ok (.invokevirtual 330, 3) := by decide +kernel
theorem dX12_enter_184 : decode cX12_enter 184 = .ok (.goto 9, 3) := by decide +kernel
theorem dX12_enter_187 : decode cX12_enter 187 = .ok (.aload_n 0, 1) := by decide +kernel
theorem dX12_enter_188 : decode cX12_enter 188 = .ok (.invokevirtual 333, 3) := by decide +kernel
theorem dX12_enter_191 : decode cX12_enter 191 = .ok (.istore 5, 2) := by decide +kernel
theorem dX12_enter_193 : decode cX12_enter 193 = .ok (.aload_n 0, 1) := by decide +kernel
theorem dX12_enter_194 : decode cX12_enter 194 = .ok (.getfield 277, 3) := by decide +kernel
theorem dX12_enter_197 : decode cX12_enter 197 = .ok (.ifCond .le 9, 3) := by decide +kernel
theorem dX12_enter_200 : decode cX12_enter 200 = .ok (.aload_n 0, 1) := by decide +kernel
theorem dX12_enter_201 : decode cX12_enter 201 = .ok (.iconst 2, 1) := by decide +kernel
theorem dX12_enter_202 : decode cX12_enter 202 = .ok (.invokevirtual 237, 3) := by decide +kernel
theorem dX12_enter_205 : decode cX12_enter 205 = .ok (.ireturn, 1) := by decide +kernel
theorem dX12_enter_206 : decode cX12_enter 206 = .ok (.aload_n 0, 1) := by decide +kernel
theorem dX12_enter_207 : decode cX12_enter 207 = .ok (.getfield 336, 3) := by decide +kernel
theorem dX12_enter_210 : decode cX12_enter 210 = .ok (.aload_n 0, 1) := by decide +kernel
theorem dX12_enter_211 : decode cX12_enter 211 = .ok (.getfield 327, 3) := by decide +kernel
theorem dX12_enter_214 : decode cX12_enter 214 = .ok (.iadd, 1) := by decide +kernel
theorem dX12_enter_215 : decode cX12_enter 215 = .ok (.ldc_w 339, 3) := by decide +kernel
theorem dX12_enter_218 : decode cX12_enter 218 = .ok (.if_icmp .le 9, 3) := by decide +kernel
theorem dX12_enter_221 : decode cX12_enter 221 = .ok (.aload_n 0, 1) := by decide +kernel
theorem dX12_enter_222 : decode cX12_enter 222 = .ok (.iconst 3, 1) := by decide +kernel
theorem dX12_enter_223 : decode cX12_enter 223 = .ok (.invokevirtual 237, 3) := by decide +kernel
theorem dX12_enter_226 : decode cX12_enter 226 = .ok (.ireturn, 1) := by decide +kernel
theorem dX12_enter_227 : decode cX12_enter 227 = .ok (.iload 4, 2) := by decide +kernel
theorem dX12_enter_229 : decode cX12_enter 229 = .ok (.ifCond .eq 37, 3) := by decide +kernel
theorem dX12_enter_232 : decode cX12_enter 232 = .ok (.aload_n 0, 1) := by decide +kernel
theorem dX12_enter_233 : decode cX12_enter 233 = .ok (.getfield 336, 3) := by decide +kernel
theorem dX12_enter_236 : decode cX12_enter 236 = .ok (.iconst 1, 1) := by decide +kernel
theorem dX12_enter_237 : decode cX12_enter 237 = .ok (.iadd, 1) := by decide +kernel
theorem dX12_enter_238 : decode cX12_enter 238 = .ok (.istore 5, 2) := by decide +kernel
theorem dX12_enter_240 : decode cX12_enter 240 = .ok (.aload_n 0, 1) := by decide +kernel
theorem dX12_enter_241 : decode cX12_enter 241 = .ok (.getfield 103, 3) := by decide +kernel
theorem dX12_enter_244 : decode cX12_enter 244 = .ok (.aload_n 0, 1) := by decide +kernel
theorem dX12_enter_245 : decode cX12_enter 245 = .ok (.getfield 336, 3) := by decide +kernel
theorem dX12_enter_248 : decode cX12_enter 248 = .ok (.aload_n 0, 1) := by decide +kernel
theorem dX12_enter_249 : decode cX12_enter 249 = .ok (.getfield 327, 3) := by decide +kernel
theorem dX12_enter_252 : decode cX12_enter 252 = .ok (.iastore, 1) := by decide +kernel
theorem dX12_enter_253 : decode cX12_enter 253 = .ok (.aload_n 0, 1) := by decide +kernel
theorem dX12_enter_254 : decode cX12_enter 254 = .ok (.aload_n 0, 1) := by decide +kernel
theorem dX12_enter_255 : decode cX12_enter 255 = .ok (.getfield 336, 3) := by decide +kernel
theorem dX12_enter_258 : decode cX12_enter 258 = .ok (.aload_n 0, 1) := by decide +kernel
theorem dX12_enter_259 : decode cX12_enter 259 = .ok (.getfield 327, 3) := by decide +kernel
theorem dX12_enter_262 : decode cX12_enter 262 = .ok (.iadd, 1) := by decide +kernel
theorem dX12_enter_263 : decode cX12_enter 263 = .ok (.putfield 336, 3) := by decide +kernel
theorem dX12_enter_266 : decode cX12_enter 266 = .ok (.aload_n 0, 1) := by decide +kernel
theorem dX12_enter_267 : decode cX12_enter 267 = .ok (.invokevirtual 340, 3) := by decide +kernel
theorem dX12_enter_270 : decode cX12_enter 270 = .ok (.pop, 1) := by decide +kernel
theorem dX12_enter_271 : decode cX12_enter 271 = .ok (.aload_n 0, 1) := by decide +kernel
theorem dX12_enter_272 : decode cX12_enter 272 = .ok (.iload_n 1, 1) := by decide +kernel
theorem dX12_enter_273 : decode cX12_enter 273 = .ok (.iload_n 2, 1) := by decide +kernel
theorem dX12_enter_274 : decode cX12_enter 274 = .ok (.iload 5, 2) := by decide +kernel
theorem dX12_enter_276 : decode cX12_enter 276 = .ok (.invokevirtual 343, 3) := by decide +kernel
theorem dX12_enter_279 : decode cX12_enter 279 = .ok (.aload_n 0, 1) := by decide +kernel
theorem dX12_enter_280 : decode cX12_enter 280 = .ok (.getfield 327, 3) := by decide +kernel
theorem dX12_enter_283 : decode cX12_enter 283 = .ok (.ireturn, 1) := by decide +kernel
set_option maxRecDepth 20000 in
theorem fl_X12_290 : FL RX12 290 12 43 false := ⟨RX12, TX12, cl_12, by decide, (gtb_in (List.mem_of_getElem? (i := 1688) (by decide +kernel)) (by decide +kernel)), rfl⟩
set_option maxRecDepth 20000 in
theorem fl_X12_261 : FL RX12 261 12 44 false := ⟨RX12, TX12, cl_12, by decide, (gtb_in (List.mem_of_getElem? (i := 1689) (by decide +kernel)) (by decide +kernel)), rfl⟩
set_option maxRecDepth 20000 in
theorem fl_X12_324 : FL RX12 324 12 45 false := ⟨RX12, TX12, cl_12, by decide, (gtb_in (List.mem_of_getElem? (i := 1690) (by decide +kernel)) (by decide +kernel)), rfl⟩
set_option maxRecDepth 20000 in
theorem fl_X12_327 : FL RX12 327 12 56 false := ⟨RX12, TX12, cl_12, by decide, (gtb_in (List.mem_of_getElem? (i := 1701) (by decide +kernel)) (by decide +kernel)), rfl⟩
def mX12_readFormula : MI := (yX12_readFormula, cX12_readFormula, 1, none)
theorem qc_X12_readFormula : Cond.code mX12_readFormula.1 mX12_readFormula.2.1 mX12_readFormula.2.2.1 mX12_readFormula.2.2.2 ∈ gtb := (gtb_in (List.mem_of_getElem? (i := 2004) (by decide +kernel)) (by decide +kernel))
theorem qi_X12_readFormula : Cond.instanceMethod mX12_readFormula.1 ∈ gtb := (gtb_in (List.mem_of_getElem? (i := 2003) (by decide +kernel)) (by decide +kernel))
theorem qs_X12_readFormula : Cond.selects mX12_readFormula.1.cls mX12_readFormula.1 mX12_readFormula.1 ∈ gtb := (gtb_sel (q := (⟨"SheetBranchesModel", "readFormula", "()V"⟩, 105)) (List.mem_of_getElem? (i := 100) (by decide +kernel)) (by decide +kernel))
theorem qd_X12_readFormula : dsc mX12_readFormula.1 0 := ⟨by decide +kernel, by decide +kernel, by decide +kernel⟩
set_option maxRecDepth 20000 in
theorem vl_X12_330 : VL RX12 330 12 mX12_readFormula 0 := ⟨⟨qc_X12_readFormula, (gtb_in (List.mem_of_getElem? (i := 2001) (by decide +kernel)) (by decide +kernel)), qi_X12_readFormula, qs_X12_readFormula, zw_12⟩, ⟨_, _, rfl⟩, by decide, qd_X12_readFormula, by decide⟩
set_option maxRecDepth 20000 in
theorem vl_X12_333 : VL RX12 333 12 mX12_plainEntered 0 := ⟨⟨qc_X12_plainEntered, (gtb_in (List.mem_of_getElem? (i := 2187) (by decide +kernel)) (by decide +kernel)), qi_X12_plainEntered, qs_X12_plainEntered, zw_12⟩, ⟨_, _, rfl⟩, by decide, qd_X12_plainEntered, by decide⟩
theorem dX12_plainEntered_0 : decode cX12_plainEntered 0 = .ok (.aload_n 0, 1) := by decide +kernel
theorem dX12_plainEntered_1 : decode cX12_plainEntered 1 = .ok (.getfield 290, 3) := by decide +kernel
theorem dX12_plainEntered_4 : decode cX12_plainEntered 4 = .ok (.istore_n 1, 1) := by decide +kernel
theorem dX12_plainEntered_5 : decode cX12_plainEntered 5 = .ok (.iload_n 1, 1) := by decide +kernel
theorem dX12_plainEntered_6 : decode cX12_plainEntered 6 = .ok (.aload_n 0, 1) := by decide +kernel
theorem dX12_plainEntered_7 : decode cX12_plainEntered 7 = .ok (.getfield 261, 3) := by decide +kernel
theorem dX12_plainEntered_10 : decode cX12_plainEntered 10 = .ok (.if_icmp .ge 27, 3) := by decide +kernel
theorem dX12_plainEntered_13 : decode cX12_plainEntered 13 = .ok (.aload_n 0, 1) := by decide +kernel
theorem dX12_plainEntered_14 : decode cX12_plainEntered 14 = .ok (.getfield 106, 3) := by decide +kernel
theorem dX12_plainEntered_17 : decode cX12_plainEntered 17 = .ok (.iload_n 1, 1) := by decide +kernel
theorem dX12_plainEntered_18 : decode cX12_plainEntered 18 = .ok (.iaload, 1) := by decide +kernel
theorem dX12_plainEntered_19 : decode cX12_plainEntered 19 = .ok (.invokestatic 293, 3) := by decide +kernel
theorem dX12_plainEntered_22 : decode cX12_plainEntered 22 = .ok (.ifCond .ne 9, 3) := by decide +kernel
theorem dX12_plainEntered_25 : decode cX12_plainEntered 25 = .ok (.aload_n 0, 1) := by decide +kernel
theorem dX12_plainEntered_26 : decode cX12_plainEntered 26 = .ok (.iconst 1, 1) := by decide +kernel
theorem dX12_plainEntered_27 : decode cX12_plainEntered 27 = .ok (.iload_n 1, 1) := by decide +kernel
theorem dX12_plainEntered_28 : decode cX12_plainEntered 28 = .ok (.invokevirtual 296, 3) := by decide +kernel
theorem dX12_plainEntered_31 : decode cX12_plainEntered 31 = .ok (.iinc 1 1, 3) := by decide +kernel
theorem dX12_plainEntered_34 : decode cX12_plainEntered 34 = .ok (.goto (-29), 3) := by decide +kernel
theorem dX12_plainEntered_37 : decode cX12_plainEntered 37 = .ok (.aload_n 0, 1) := by decide +kernel
theorem dX12_plainEntered_38 : decode cX12_plainEntered 38 = .ok (.getfield 261, 3) := by decide +kernel
theorem dX12_plainEntered_41 : decode cX12_plainEntered 41 = .ok (.aload_n 0, 1) := by decide +kernel
theorem dX12_plainEntered_42 : decode cX12_plainEntered 42 = .ok (.getfield 290, 3) := by decide +kernel
theorem dX12_plainEntered_45 : decode cX12_plainEntered 45 = .ok (.isub, 1) := by decide +kernel
theorem dX12_plainEntered_46 : decode cX12_plainEntered 46 = .ok (.istore_n 1, 1) := by decide +kernel
theorem dX12_plainEntered_47 : decode cX12_plainEntered 47 = .ok (.aload_n 0, 1) := by decide +kernel
theorem dX12_plainEntered_48 : decode cX12_plainEntered 48 = .ok (.getfield 277, 3) := by decide +kernel
theorem dX12_plainEntered_51 : decode cX12_plainEntered 51 = .ok (.ifCond .gt 7, 3) := by decide +kernel
theorem dX12_plainEntered_54 : decode cX12_plainEntered 54 = .ok (.iload_n 1, 1) := by decide +kernel
theorem dX12_plainEntered_55 : decode cX12_plainEntered 55 = .ok (.ifCond .ne 5, 3) := by decide +kernel
theorem dX12_plainEntered_58 : decode cX12_plainEntered 58 = .ok (.iconst 0, 1) := by decide +kernel
theorem dX12_plainEntered_59 : decode cX12_plainEntered 59 = .ok (.ireturn, 1) := by decide +kernel
theorem dX12_plainEntered_60 : decode cX12_plainEntered 60 = .ok (.aload_n 0, 1) := by decide +kernel
theorem dX12_plainEntered_61 : decode cX12_plainEntered 61 = .ok (.aload_n 0, 1) := by decide +kernel
theorem dX12_plainEntered_62 : decode cX12_plainEntered 62 = .ok (.getfield 290, 3) := by decide +kernel
theorem dX12_plainEntered_65 : decode cX12_plainEntered 65 = .ok (.aload_n 0, 1) := by decide +kernel
theorem dX12_plainEntered_66 : decode cX12_plainEntered 66 = .ok (.getfield 261, 3) := by decide +kernel
theorem dX12_plainEntered_69 : decode cX12_plainEntered 69 = .ok (.invokevirtual 299, 3) := by decide +kernel
theorem dX12_plainEntered_72 : decode cX12_plainEntered 72 = .ok (.ifCond .eq 67, 3) := by decide +kernel
theorem dX12_plainEntered_75 : decode cX12_plainEntered 75 = .ok (.aload_n 0, 1) := by decide +kernel
theorem dX12_plainEntered_76 : decode cX12_plainEntered 76 = .ok (.getfield 106, 3) := by decide +kernel
theorem dX12_plainEntered_79 : decode cX12_plainEntered 79 = .ok (.aload_n 0, 1) := by decide +kernel
theorem dX12_plainEntered_80 : decode cX12_plainEntered 80 = .ok (.getfield 290, 3) := by decide +kernel
theorem dX12_plainEntered_83 : decode cX12_plainEntered 83 = .ok (.iaload, 1) := by decide +kernel
theorem dX12_plainEntered_84 : decode cX12_plainEntered 84 = .ok (.bipush 45, 2) := by decide +kernel
theorem dX12_plainEntered_86 : decode cX12_plainEntered 86 = .ok (.if_icmp .ne 7, 3) := by decide +kernel
theorem dX12_plainEntered_89 : decode cX12_plainEntered 89 = .ok (.iconst 1, 1) := by decide +kernel
theorem dX12_plainEntered_90 : decode cX12_plainEntered 90 = .ok (.goto 4, 3) := by decide +kernel
theorem dX12_plainEntered_93 : decode cX12_plainEntered 93 = .ok (.iconst 0, 1) := by decide +kernel
theorem dX12_plainEntered_94 : decode cX12_plainEntered 94 = .ok (.istore_n 2, 1) := by decide +kernel
theorem dX12_plainEntered_95 : decode cX12_plainEntered 95 = .ok (.aload_n 0, 1) := by decide +kernel
theorem dX12_plainEntered_96 : decode cX12_plainEntered 96 = .ok (.iload_n 2, 1) := by decide +kernel
theorem dX12_plainEntered_97 : decode cX12_plainEntered 97 = .ok (.ifCond .eq 12, 3) := by decide +kernel
theorem dX12_plainEntered_100 : decode cX12_plainEntered 100 = .ok (.aload_n 0, 1) := by decide +kernel
theorem dX12_plainEntered_101 : decode cX12_plainEntered 101 = .ok (.getfield 290, 3) := by decide +kernel
theorem dX12_plainEntered_104 : decode cX12_plainEntered 104 = .ok (.iconst 1, 1) := by decide +kernel
theorem dX12_plainEntered_105 : decode cX12_plainEntered 105 = .ok (.iadd, 1) := by decide +kernel
theorem dX12_plainEntered_106 : decode cX12_plainEntered 106 = .ok (.goto 7, 3) := by decide +kernel
theorem dX12_plainEntered_109 : decode cX12_plainEntered 109 = .ok (.aload_n 0, 1) := by decide +kernel
theorem dX12_plainEntered_110 : decode cX12_plainEntered 110 = .ok (.getfield 290, 3) := by decide +kernel
theorem dX12_plainEntered_113 : decode cX12_plainEntered 113 = .ok (.aload_n 0, 1) := by decide +kernel
theorem dX12_plainEntered_114 : decode cX12_plainEntered 114 = .ok (.getfield 261, 3) := by decide +kernel
theorem dX12_plainEntered_117 : decode cX12_plainEntered 117 = .ok (.invokevirtual 302, 3) := by decide +kernel
theorem dX12_plainEntered_120 : decode cX12_plainEntered 120 = .ok (.lstore_n 3, 1) := by decide +kernel
theorem dX12_plainEntered_121 : decode cX12_plainEntered 121 = .ok (.aload_n 0, 1) := by decide +kernel
theorem dX12_plainEntered_122 : decode cX12_plainEntered 122 = .ok (.iconst 1, 1) := by decide +kernel
theorem dX12_plainEntered_123 : decode cX12_plainEntered 123 = .ok (.iload_n 2, 1) := by decide +kernel
theorem dX12_plainEntered_124 : decode cX12_plainEntered 124 = .ok (.ifCond .eq 8, 3) := by decide +kernel
theorem dX12_plainEntered_127 : decode cX12_plainEntered 127 = .ok (.lload_n 3, 1) := by decide +kernel
theorem dX12_plainEntered_128 : decode cX12_plainEntered 128 = .ok (.lneg, 1) := by decide +kernel
theorem dX12_plainEntered_129 : decode cX12_plainEntered 129 = .ok (.goto 4, 3) := by decide +kernel
theorem dX12_plainEntered_132 : decode cX12_plainEntered 132 = .ok (.lload_n 3, 1) := by decide +kernel
theorem dX12_plainEntered_133 : decode cX12_plainEntered 133 = .ok (.iconst 0, 1) := by decide +kernel
theorem dX12_plainEntered_134 : decode cX12_plainEntered 134 = .ok (.iconst 0, 1) := by decide +kernel
theorem dX12_plainEntered_135 : decode cX12_plainEntered 135 = .ok (.invokevirtual 306, 3) := by decide +kernel
theorem dX12_plainEntered_138 : decode cX12_plainEntered 138 = .ok (.ireturn, 1) := by decide +kernel
theorem dX12_plainEntered_139 : decode cX12_plainEntered 139 = .ok (.aload_n 0, 1) := by decide +kernel
theorem dX12_plainEntered_140 : decode cX12_plainEntered 140 = .ok (.aload_n 0, 1) := by decide +kernel
theorem dX12_plainEntered_141 : decode cX12_plainEntered 141 = .ok (.getfield 290, 3) := by decide +kernel
theorem dX12_plainEntered_144 : decode cX12_plainEntered 144 = .ok (.iload_n 1, 1) := by decide +kernel
theorem dX12_plainEntered_145 : decode cX12_plainEntered 145 = .ok (.ldc_w 310, 3) := by decide +kernel
theorem dX12_plainEntered_148 : decode cX12_plainEntered 148 = .ok (.invokevirtual 312, 3) := by decide +kernel
theorem dX12_plainEntered_151 : decode cX12_plainEntered 151 = .ok (.istore_n 2, 1) := by decide +kernel
theorem dX12_plainEntered_152 : decode cX12_plainEntered 152 = .ok (.iload_n 2, 1) := by decide +kernel
theorem dX12_plainEntered_153 : decode cX12_plainEntered 153 = .ok (.ifCond .ne 18, 3) := by decide +kernel
theorem dX12_plainEntered_156 : decode cX12_plainEntered 156 = .ok (.aload_n 0, 1) := by decide +kernel
theorem dX12_plainEntered_157 : decode cX12_plainEntered 157 = .ok (.aload_n 0, 1) := by decide +kernel
theorem dX12_plainEntered_158 : decode cX12_plainEntered 158 = .ok (.getfield 290, 3) := by decide +kernel
theorem dX12_plainEntered_161 : decode cX12_plainEntered 161 = .ok (.iload_n 1, 1) := by decide +kernel
theorem dX12_plainEntered_162 : decode cX12_plainEntered 162 = .ok (.ldc_w 316, 3) := by decide +kernel
theorem dX12_plainEntered_165 : decode cX12_plainEntered 165 = .ok (.invokevirtual 312, 3) := by decide +kernel
theorem dX12_plainEntered_168 : decode cX12_plainEntered 168 = .ok (.ifCond .eq 20, 3) := by decide +kernel
theorem dX12_plainEntered_171 : decode cX12_plainEntered 171 = .ok (.aload_n 0, 1) := by decide +kernel
theorem dX12_plainEntered_172 : decode cX12_plainEntered 172 = .ok (.iconst 3, 1) := by decide +kernel
theorem dX12_plainEntered_173 : decode cX12_plainEntered 173 = .ok (.iload_n 2, 1) := by decide +kernel
theorem dX12_plainEntered_174 : decode cX12_plainEntered 174 = .ok (.ifCond .eq 7, 3) := by decide +kernel
theorem dX12_plainEntered_177 : decode cX12_plainEntered 177 = .ok (.lconst 1, 1) := by decide +kernel
theorem dX12_plainEntered_178 : decode cX12_plainEntered 178 = .ok (.goto 4, 3) := by decide +kernel
theorem dX12_plainEntered_181 : decode cX12_plainEntered 181 = .ok (.lconst 0, 1) := by decide +kernel
theorem dX12_plainEntered_182 : decode cX12_plainEntered 182 = .ok (.iconst 0, 1) := by decide +kernel
theorem dX12_plainEntered_183 : decode cX12_plainEntered 183 = .ok (.iconst 0, 1) := by decide +kernel
theorem dX12_plainEntered_184 : decode cX12_plainEntered 184 = .ok (.invokevirtual 306, 3) := by decide +kernel
theorem dX12_plainEntered_187 : decode cX12_plainEntered 187 = .ok (.ireturn, 1) := by decide +kernel
theorem dX12_plainEntered_188 : decode cX12_plainEntered 188 = .ok (.aload_n 0, 1) := by decide +kernel
theorem dX12_plainEntered_189 : decode cX12_plainEntered 189 = .ok (.getfield 106, 3) := by decide +kernel
theorem dX12_plainEntered_192 : decode cX12_plainEntered 192 = .ok (.aload_n 0, 1) := by decide +kernel
theorem dX12_plainEntered_193 : decode cX12_plainEntered 193 = .ok (.getfield 290, 3) := by decide +kernel
theorem dX12_plainEntered_196 : decode cX12_plainEntered 196 = .ok (.iaload, 1) := by decide +kernel
theorem dX12_plainEntered_197 : decode cX12_plainEntered 197 = .ok (.bipush 39, 2) := by decide +kernel
theorem dX12_plainEntered_199 : decode cX12_plainEntered 199 = .ok (.if_icmp .ne 12, 3) := by decide +kernel
theorem dX12_plainEntered_202 : decode cX12_plainEntered 202 = .ok (.aload_n 0, 1) := by decide +kernel
theorem dX12_plainEntered_203 : decode cX12_plainEntered 203 = .ok (.getfield 290, 3) := by decide +kernel
theorem dX12_plainEntered_206 : decode cX12_plainEntered 206 = .ok (.iconst 1, 1) := by decide +kernel
theorem dX12_plainEntered_207 : decode cX12_plainEntered 207 = .ok (.iadd, 1) := by decide +kernel
theorem dX12_plainEntered_208 : decode cX12_plainEntered 208 = .ok (.goto 7, 3) := by decide +kernel
theorem dX12_plainEntered_211 : decode cX12_plainEntered 211 = .ok (.aload_n 0, 1) := by decide +kernel
theorem dX12_plainEntered_212 : decode cX12_plainEntered 212 = .ok (.getfield 290, 3) := by decide +kernel
theorem dX12_plainEntered_215 : decode cX12_plainEntered 215 = .ok (.istore_n 3, 1) := by decide +kernel
theorem dX12_plainEntered_216 : decode cX12_plainEntered 216 = .ok (.aload_n 0, 1) := by decide +kernel
theorem dX12_plainEntered_217 : decode cX12_plainEntered 217 = .ok (.getfield 261, 3) := by decide +kernel
theorem dX12_plainEntered_220 : decode cX12_plainEntered 220 = .ok (.iload_n 3, 1) := by decide +kernel
theorem dX12_plainEntered_221 : decode cX12_plainEntered 221 = .ok (.isub, 1) := by decide +kernel
theorem dX12_plainEntered_222 : decode cX12_plainEntered 222 = .ok (.bipush 24, 2) := by decide +kernel
theorem dX12_plainEntered_224 : decode cX12_plainEntered 224 = .ok (.if_icmp .le 15, 3) := by decide +kernel
theorem dX12_plainEntered_227 : decode cX12_plainEntered 227 = .ok (.aload_n 0, 1) := by decide +kernel
theorem dX12_plainEntered_228 : decode cX12_plainEntered 228 = .ok (.bipush 6, 2) := by decide +kernel
theorem dX12_plainEntered_230 : decode cX12_plainEntered 230 = .ok (.iload_n 3, 1) := by decide +kernel
theorem dX12_plainEntered_231 : decode cX12_plainEntered 231 = .ok (.bipush 24, 2) := by decide +kernel
theorem dX12_plainEntered_233 : decode cX12_plainEntered 233 = .ok (.iadd, 1) := by decide +kernel
theorem dX12_plainEntered_234 : decode cX12_plainEntered 234 = .ok (.invokevirtual 296, 3) := by decide +kernel
theorem dX12_plainEntered_237 : decode cX12_plainEntered 237 = .ok (.iconst 0, 1) := by decide +kernel
theorem dX12_plainEntered_238 : decode cX12_plainEntered 238 = .ok (.ireturn, 1) := by decide +kernel
theorem dX12_plainEntered_239 : decode cX12_plainEntered 239 = .ok (.aload_n 0, 1) := by decide +kernel
theorem dX12_plainEntered_240 : decode cX12_plainEntered 240 = .ok (.iload_n 3, 1) := by decide +kernel
theorem dX12_plainEntered_241 : decode cX12_plainEntered 241 = .ok (.aload_n 0, 1) := by decide +kernel
theorem dX12_plainEntered_242 : decode cX12_plainEntered 242 = .ok (.getfield 261, 3) := by decide +kernel
theorem dX12_plainEntered_245 : decode cX12_plainEntered 245 = .ok (.invokevirtual 318, 3) := by decide +kernel
theorem dX12_plainEntered_248 : decode cX12_plainEntered 248 = .ok (.istore 4, 2) := by decide +kernel
theorem dX12_plainEntered_250 : decode cX12_plainEntered 250 = .ok (.aload_n 0, 1) := by decide +kernel
theorem dX12_plainEntered_251 : decode cX12_plainEntered 251 = .ok (.iconst 2, 1) := by decide +kernel
theorem dX12_plainEntered_252 : decode cX12_plainEntered 252 = .ok (.lconst 0, 1) := by decide +kernel
theorem dX12_plainEntered_253 : decode cX12_plainEntered 253 = .ok (.iload 4, 2) := by decide +kernel
theorem dX12_plainEntered_255 : decode cX12_plainEntered 255 = .ok (.aload_n 0, 1) := by decide +kernel
theorem dX12_plainEntered_256 : decode cX12_plainEntered 256 = .ok (.getfield 261, 3) := by decide +kernel
theorem dX12_plainEntered_259 : decode cX12_plainEntered 259 = .ok (.iload_n 3, 1) := by decide +kernel
theorem dX12_plainEntered_260 : decode cX12_plainEntered 260 = .ok (.isub, 1) := by decide +kernel
theorem dX12_plainEntered_261 : decode cX12_plainEntered 261 = .ok (.invokevirtual 306, 3) := by decide +kernel
theorem dX12_plainEntered_264 : decode cX12_plainEntered 264 = .ok (.ireturn, 1) := by decide +kernel
def mX12_isSign : MI := (yX12_isSign, cX12_isSign, 1, (some .boolean))
theorem qc_X12_isSign : Cond.code mX12_isSign.1 mX12_isSign.2.1 mX12_isSign.2.2.1 mX12_isSign.2.2.2 ∈ gtb := (gtb_in (List.mem_of_getElem? (i := 2030) (by decide +kernel)) (by decide +kernel))
theorem qt_X12_isSign : Cond.static mX12_isSign.1 ∈ gtb := (gtb_in (List.mem_of_getElem? (i := 2029) (by decide +kernel)) (by decide +kernel))
theorem qd_X12_isSign : dsc mX12_isSign.1 1 := ⟨by decide +kernel, by decide +kernel, by decide +kernel⟩
set_option maxRecDepth 20000 in
theorem sl_X12_293 : SL RX12 293 mX12_isSign 1 := ⟨⟨qc_X12_isSign, (gtb_in (List.mem_of_getElem? (i := 2028) (by decide +kernel)) (by decide +kernel)), qt_X12_isSign, zw_12⟩, qd_X12_isSign, by decide⟩
def mX12_fail : MI := (yX12_fail, cX12_fail, 3, none)
theorem qc_X12_fail : Cond.code mX12_fail.1 mX12_fail.2.1 mX12_fail.2.2.1 mX12_fail.2.2.2 ∈ gtb := (gtb_in (List.mem_of_getElem? (i := 2092) (by decide +kernel)) (by decide +kernel))
theorem qi_X12_fail : Cond.instanceMethod mX12_fail.1 ∈ gtb := (gtb_in (List.mem_of_getElem? (i := 2091) (by decide +kernel)) (by decide +kernel))
theorem qs_X12_fail : Cond.selects mX12_fail.1.cls mX12_fail.1 mX12_fail.1 ∈ gtb := (gtb_sel (q := (⟨"SheetBranchesModel", "fail", "(II)V"⟩, 105)) (List.mem_of_getElem? (i := 119) (by decide +kernel)) (by decide +kernel))
theorem qd_X12_fail : dsc mX12_fail.1 2 := ⟨by decide +kernel, by decide +kernel, by decide +kernel⟩
set_option maxRecDepth 20000 in
theorem vl_X12_296 : VL RX12 296 12 mX12_fail 2 := ⟨⟨qc_X12_fail, (gtb_in (List.mem_of_getElem? (i := 2089) (by decide +kernel)) (by decide +kernel)), qi_X12_fail, qs_X12_fail, zw_12⟩, ⟨_, _, rfl⟩, by decide, qd_X12_fail, by decide⟩
def mX12_isNumber : MI := (yX12_isNumber, cX12_isNumber, 5, (some .boolean))
theorem qc_X12_isNumber : Cond.code mX12_isNumber.1 mX12_isNumber.2.1 mX12_isNumber.2.2.1 mX12_isNumber.2.2.2 ∈ gtb := (gtb_in (List.mem_of_getElem? (i := 2194) (by decide +kernel)) (by decide +kernel))
theorem qi_X12_isNumber : Cond.instanceMethod mX12_isNumber.1 ∈ gtb := (gtb_in (List.mem_of_getElem? (i := 2193) (by decide +kernel)) (by decide +kernel))
theorem qs_X12_isNumber : Cond.selects mX12_isNumber.1.cls mX12_isNumber.1 mX12_isNumber.1 ∈ gtb := (gtb_sel (q := (⟨"SheetBranchesModel", "isNumber", "(II)Z"⟩, 105)) (List.mem_of_getElem? (i := 136) (by decide +kernel)) (by decide +kernel))
theorem qd_X12_isNumber : dsc mX12_isNumber.1 2 := ⟨by decide +kernel, by decide +kernel, by decide +kernel⟩
set_option maxRecDepth 20000 in
theorem vl_X12_299 : VL RX12 299 12 mX12_isNumber 2 := ⟨⟨qc_X12_isNumber, (gtb_in (List.mem_of_getElem? (i := 2191) (by decide +kernel)) (by decide +kernel)), qi_X12_isNumber, qs_X12_isNumber, zw_12⟩, ⟨_, _, rfl⟩, by decide, qd_X12_isNumber, by decide⟩
def mX12_numberFrom : MI := (yX12_numberFrom, cX12_numberFrom, 6, (some .long))
theorem qc_X12_numberFrom : Cond.code mX12_numberFrom.1 mX12_numberFrom.2.1 mX12_numberFrom.2.2.1 mX12_numberFrom.2.2.2 ∈ gtb := (gtb_in (List.mem_of_getElem? (i := 2100) (by decide +kernel)) (by decide +kernel))
theorem qi_X12_numberFrom : Cond.instanceMethod mX12_numberFrom.1 ∈ gtb := (gtb_in (List.mem_of_getElem? (i := 2099) (by decide +kernel)) (by decide +kernel))
theorem qs_X12_numberFrom : Cond.selects mX12_numberFrom.1.cls mX12_numberFrom.1 mX12_numberFrom.1 ∈ gtb := (gtb_sel (q := (⟨"SheetBranchesModel", "numberFrom", "(II)J"⟩, 105)) (List.mem_of_getElem? (i := 121) (by decide +kernel)) (by decide +kernel))
theorem qd_X12_numberFrom : dsc mX12_numberFrom.1 2 := ⟨by decide +kernel, by decide +kernel, by decide +kernel⟩
set_option maxRecDepth 20000 in
theorem vl_X12_302 : VL RX12 302 12 mX12_numberFrom 2 := ⟨⟨qc_X12_numberFrom, (gtb_in (List.mem_of_getElem? (i := 2097) (by decide +kernel)) (by decide +kernel)), qi_X12_numberFrom, qs_X12_numberFrom, zw_12⟩, ⟨_, _, rfl⟩, by decide, qd_X12_numberFrom, by decide⟩
def mX12_plain : MI := (yX12_plain, cX12_plain, 6, (some .int))
theorem qc_X12_plain : Cond.code mX12_plain.1 mX12_plain.2.1 mX12_plain.2.2.1 mX12_plain.2.2.2 ∈ gtb := (gtb_in (List.mem_of_getElem? (i := 2198) (by decide +kernel)) (by decide +kernel))
theorem qi_X12_plain : Cond.instanceMethod mX12_plain.1 ∈ gtb := (gtb_in (List.mem_of_getElem? (i := 2197) (by decide +kernel)) (by decide +kernel))
theorem qs_X12_plain : Cond.selects mX12_plain.1.cls mX12_plain.1 mX12_plain.1 ∈ gtb := (gtb_sel (q := (⟨"SheetBranchesModel", "plain", "(IJII)I"⟩, 105)) (List.mem_of_getElem? (i := 137) (by decide +kernel)) (by decide +kernel))
theorem qd_X12_plain : dsc mX12_plain.1 4 := ⟨by decide +kernel, by decide +kernel, by decide +kernel⟩
set_option maxRecDepth 20000 in
theorem vl_X12_306 : VL RX12 306 12 mX12_plain 4 := ⟨⟨qc_X12_plain, (gtb_in (List.mem_of_getElem? (i := 2195) (by decide +kernel)) (by decide +kernel)), qi_X12_plain, qs_X12_plain, zw_12⟩, ⟨_, _, rfl⟩, by decide, qd_X12_plain, by decide⟩
def mX12_isWord : MI := (yX12_isWord, cX12_isWord, 5, (some .boolean))
theorem qc_X12_isWord : Cond.code mX12_isWord.1 mX12_isWord.2.1 mX12_isWord.2.2.1 mX12_isWord.2.2.2 ∈ gtb := (gtb_in (List.mem_of_getElem? (i := 2046) (by decide +kernel)) (by decide +kernel))
theorem qi_X12_isWord : Cond.instanceMethod mX12_isWord.1 ∈ gtb := (gtb_in (List.mem_of_getElem? (i := 2045) (by decide +kernel)) (by decide +kernel))
theorem qs_X12_isWord : Cond.selects mX12_isWord.1.cls mX12_isWord.1 mX12_isWord.1 ∈ gtb := (gtb_sel (q := (⟨"SheetBranchesModel", "isWord", "(IILjava/lang/String;)Z"⟩, 105)) (List.mem_of_getElem? (i := 108) (by decide +kernel)) (by decide +kernel))
theorem qd_X12_isWord : dsc mX12_isWord.1 3 := ⟨by decide +kernel, by decide +kernel, by decide +kernel⟩
set_option maxRecDepth 20000 in
theorem vl_X12_312 : VL RX12 312 12 mX12_isWord 3 := ⟨⟨qc_X12_isWord, (gtb_in (List.mem_of_getElem? (i := 2043) (by decide +kernel)) (by decide +kernel)), qi_X12_isWord, qs_X12_isWord, zw_12⟩, ⟨_, _, rfl⟩, by decide, qd_X12_isWord, by decide⟩
def mX12_kept : MI := (yX12_kept, cX12_kept, 5, (some .int))
theorem qc_X12_kept : Cond.code mX12_kept.1 mX12_kept.2.1 mX12_kept.2.2.1 mX12_kept.2.2.2 ∈ gtb := (gtb_in (List.mem_of_getElem? (i := 2106) (by decide +kernel)) (by decide +kernel))
theorem qi_X12_kept : Cond.instanceMethod mX12_kept.1 ∈ gtb := (gtb_in (List.mem_of_getElem? (i := 2105) (by decide +kernel)) (by decide +kernel))
theorem qs_X12_kept : Cond.selects mX12_kept.1.cls mX12_kept.1 mX12_kept.1 ∈ gtb := (gtb_sel (q := (⟨"SheetBranchesModel", "kept", "(II)I"⟩, 105)) (List.mem_of_getElem? (i := 122) (by decide +kernel)) (by decide +kernel))
theorem qd_X12_kept : dsc mX12_kept.1 2 := ⟨by decide +kernel, by decide +kernel, by decide +kernel⟩
set_option maxRecDepth 20000 in
theorem vl_X12_318 : VL RX12 318 12 mX12_kept 2 := ⟨⟨qc_X12_kept, (gtb_in (List.mem_of_getElem? (i := 2103) (by decide +kernel)) (by decide +kernel)), qi_X12_kept, qs_X12_kept, zw_12⟩, ⟨_, _, rfl⟩, by decide, qd_X12_kept, by decide⟩
theorem dX12_diff_0 : decode cX12_diff 0 = .ok (.aload_n 0, 1) := by decide +kernel
theorem dX12_diff_1 : decode cX12_diff 1 = .ok (.iconst 0, 1) := by decide +kernel
theorem dX12_diff_2 : decode cX12_diff 2 = .ok (.putfield 202, 3) := by decide +kernel
theorem dX12_diff_5 : decode cX12_diff 5 = .ok (.aload_n 0, 1) := by decide +kernel
theorem dX12_diff_6 : decode cX12_diff 6 = .ok (.iload_n 1, 1) := by decide +kernel
theorem dX12_diff_7 : decode cX12_diff 7 = .ok (.invokevirtual 734, 3) := by decide +kernel
theorem dX12_diff_10 : decode cX12_diff 10 = .ok (.ifCond .eq 11, 3) := by decide +kernel
theorem dX12_diff_13 : decode cX12_diff 13 = .ok (.aload_n 0, 1) := by decide +kernel
theorem dX12_diff_14 : decode cX12_diff 14 = .ok (.iload_n 2, 1) := by decide +kernel
theorem dX12_diff_15 : decode cX12_diff 15 = .ok (.invokevirtual 734, 3) := by decide +kernel
theorem dX12_diff_18 : decode cX12_diff 18 = .ok (.ifCond .ne 9, 3) := by decide +kernel
theorem dX12_diff_21 : decode cX12_diff 21 = .ok (.aload_n 0, 1) := by decide +kernel
theorem dX12_diff_22 : decode cX12_diff 22 = .ok (.iconst 1, 1) := by decide +kernel
theorem dX12_diff_23 : decode cX12_diff 23 = .ok (.invokevirtual 237, 3) := by decide +kernel
theorem dX12_diff_26 : decode cX12_diff 26 = .ok (.ireturn, 1) := by decide +kernel
theorem dX12_diff_27 : decode cX12_diff 27 = .ok (.iload_n 1, 1) := by decide +kernel
theorem dX12_diff_28 : decode cX12_diff 28 = .ok (.invokestatic 737, 3) := by decide +kernel
theorem dX12_diff_31 : decode cX12_diff 31 = .ok (.istore_n 3, 1) := by decide +kernel
theorem dX12_diff_32 : decode cX12_diff 32 = .ok (.iload_n 2, 1) := by decide +kernel
theorem dX12_diff_33 : decode cX12_diff 33 = .ok (.invokestatic 737, 3) := by decide +kernel
theorem dX12_diff_36 : decode cX12_diff 36 = .ok (.istore 4, 2) := by decide +kernel
theorem dX12_diff_38 : decode cX12_diff 38 = .ok (.aload_n 0, 1) := by decide +kernel
theorem dX12_diff_39 : decode cX12_diff 39 = .ok (.iconst 0, 1) := by decide +kernel
theorem dX12_diff_40 : decode cX12_diff 40 = .ok (.putfield 939, 3) := by decide +kernel
theorem dX12_diff_43 : decode cX12_diff 43 = .ok (.iconst 0, 1) := by decide +kernel
theorem dX12_diff_44 : decode cX12_diff 44 = .ok (.istore 5, 2) := by decide +kernel
theorem dX12_diff_46 : decode cX12_diff 46 = .ok (.iload 5, 2) := by decide +kernel
theorem dX12_diff_48 : decode cX12_diff 48 = .ok (.iconst 2, 1) := by decide +kernel
theorem dX12_diff_49 : decode cX12_diff 49 = .ok (.if_icmp .ge 39, 3) := by decide +kernel
theorem dX12_diff_52 : decode cX12_diff 52 = .ok (.aload_n 0, 1) := by decide +kernel
theorem dX12_diff_53 : decode cX12_diff 53 = .ok (.iload_n 3, 1) := by decide +kernel
theorem dX12_diff_54 : decode cX12_diff 54 = .ok (.iload 4, 2) := by decide +kernel
theorem dX12_diff_56 : decode cX12_diff 56 = .ok (.iload 5, 2) := by decide +kernel
theorem dX12_diff_58 : decode cX12_diff 58 = .ok (.iconst 2, 1) := by decide +kernel
theorem dX12_diff_59 : decode cX12_diff 59 = .ok (.iload 5, 2) := by decide +kernel
theorem dX12_diff_61 : decode cX12_diff 61 = .ok (.imul, 1) := by decide +kernel
theorem dX12_diff_62 : decode cX12_diff 62 = .ok (.iconst 1, 1) := by decide +kernel
theorem dX12_diff_63 : decode cX12_diff 63 = .ok (.iadd, 1) := by decide +kernel
theorem dX12_diff_64 : decode cX12_diff 64 = .ok (.invokevirtual 945, 3) := by decide +kernel
theorem dX12_diff_67 : decode cX12_diff 67 = .ok (.aload_n 0, 1) := by decide +kernel
theorem dX12_diff_68 : decode cX12_diff 68 = .ok (.iload 4, 2) := by decide +kernel
theorem dX12_diff_70 : decode cX12_diff 70 = .ok (.iload_n 3, 1) := by decide +kernel
theorem dX12_diff_71 : decode cX12_diff 71 = .ok (.iload 5, 2) := by decide +kernel
theorem dX12_diff_73 : decode cX12_diff 73 = .ok (.iconst 2, 1) := by decide +kernel
theorem dX12_diff_74 : decode cX12_diff 74 = .ok (.iload 5, 2) := by decide +kernel
theorem dX12_diff_76 : decode cX12_diff 76 = .ok (.imul, 1) := by decide +kernel
theorem dX12_diff_77 : decode cX12_diff 77 = .ok (.iconst 2, 1) := by decide +kernel
theorem dX12_diff_78 : decode cX12_diff 78 = .ok (.iadd, 1) := by decide +kernel
theorem dX12_diff_79 : decode cX12_diff 79 = .ok (.invokevirtual 945, 3) := by decide +kernel
theorem dX12_diff_82 : decode cX12_diff 82 = .ok (.iinc 5 1, 3) := by decide +kernel
theorem dX12_diff_85 : decode cX12_diff 85 = .ok (.goto (-39), 3) := by decide +kernel
theorem dX12_diff_88 : decode cX12_diff 88 = .ok (.iconst 0, 1) := by decide +kernel
theorem dX12_diff_89 : decode cX12_diff 89 = .ok (.istore 5, 2) := by decide +kernel
theorem dX12_diff_91 : decode cX12_diff 91 = .ok (.iload 5, 2) := by decide +kernel
theorem dX12_diff_93 : decode cX12_diff 93 = .ok (.iconst 2, 1) := by decide +kernel
theorem dX12_diff_94 : decode cX12_diff 94 = .ok (.if_icmp .ge 33, 3) := by decide +kernel
theorem dX12_diff_97 : decode cX12_diff 97 = .ok (.aload_n 0, 1) := by decide +kernel
theorem dX12_diff_98 : decode cX12_diff 98 = .ok (.iload_n 3, 1) := by decide +kernel
theorem dX12_diff_99 : decode cX12_diff 99 = .ok (.iload 4, 2) := by decide +kernel
theorem dX12_diff_101 : decode cX12_diff 101 = .ok (.iload 4, 2) := by decide +kernel
theorem dX12_diff_103 : decode cX12_diff 103 = .ok (.iload 5, 2) := by decide +kernel
theorem dX12_diff_105 : decode cX12_diff 105 = .ok (.invokevirtual 897, 3) := by decide +kernel
theorem dX12_diff_108 : decode cX12_diff 108 = .ok (.ifCond .ne 13, 3) := by decide +kernel
theorem dX12_diff_111 : decode cX12_diff 111 = .ok (.aload_n 0, 1) := by decide +kernel
theorem dX12_diff_112 : decode cX12_diff 112 = .ok (.iconst 5, 1) := by decide +kernel
theorem dX12_diff_113 : decode cX12_diff 113 = .ok (.iload 5, 2) := by decide +kernel
theorem dX12_diff_115 : decode cX12_diff 115 = .ok (.iadd, 1) := by decide +kernel
theorem dX12_diff_116 : decode cX12_diff 116 = .ok (.iconst 0, 1) := by decide +kernel
theorem dX12_diff_117 : decode cX12_diff 117 = .ok (.iconst 0, 1) := by decide +kernel
theorem dX12_diff_118 : decode cX12_diff 118 = .ok (.invokevirtual 942, 3) := by decide +kernel
theorem dX12_diff_121 : decode cX12_diff 121 = .ok (.iinc 5 1, 3) := by decide +kernel
theorem dX12_diff_124 : decode cX12_diff 124 = .ok (.goto (-33), 3) := by decide +kernel
theorem dX12_diff_127 : decode cX12_diff 127 = .ok (.iconst 0, 1) := by decide +kernel
theorem dX12_diff_128 : decode cX12_diff 128 = .ok (.istore 5, 2) := by decide +kernel
theorem dX12_diff_130 : decode cX12_diff 130 = .ok (.iload 5, 2) := by decide +kernel
theorem dX12_diff_132 : decode cX12_diff 132 = .ok (.sipush 320, 3) := by decide +kernel
theorem dX12_diff_135 : decode cX12_diff 135 = .ok (.if_icmp .ge 114, 3) := by decide +kernel
theorem dX12_diff_138 : decode cX12_diff 138 = .ok (.iload 5, 2) := by decide +kernel
theorem dX12_diff_140 : decode cX12_diff 140 = .ok (.bipush 10, 2) := by decide +kernel
theorem dX12_diff_142 : decode cX12_diff 142 = .ok (.idiv, 1) := by decide +kernel
theorem dX12_diff_143 : decode cX12_diff 143 = .ok (.istore 6, 2) := by decide +kernel
theorem dX12_diff_145 : decode cX12_diff 145 = .ok (.iload 5, 2) := by decide +kernel
theorem dX12_diff_147 : decode cX12_diff 147 = .ok (.bipush 10, 2) := by decide +kernel
theorem dX12_diff_149 : decode cX12_diff 149 = .ok (.irem, 1) := by decide +kernel
theorem dX12_diff_150 : decode cX12_diff 150 = .ok (.istore 7, 2) := by decide +kernel
theorem dX12_diff_152 : decode cX12_diff 152 = .ok (.iload 6, 2) := by decide +kernel
theorem dX12_diff_154 : decode cX12_diff 154 = .ok (.aload_n 0, 1) := by decide +kernel
theorem dX12_diff_155 : decode cX12_diff 155 = .ok (.getfield 7, 3) := by decide +kernel
theorem dX12_diff_158 : decode cX12_diff 158 = .ok (.iload 4, 2) := by decide +kernel
theorem dX12_diff_160 : decode cX12_diff 160 = .ok (.iaload, 1) := by decide +kernel
theorem dX12_diff_161 : decode cX12_diff 161 = .ok (.if_icmp .ge 82, 3) := by decide +kernel
theorem dX12_diff_164 : decode cX12_diff 164 = .ok (.iload 7, 2) := by decide +kernel
theorem dX12_diff_166 : decode cX12_diff 166 = .ok (.aload_n 0, 1) := by decide +kernel
theorem dX12_diff_167 : decode cX12_diff 167 = .ok (.getfield 13, 3) := by decide +kernel
theorem dX12_diff_170 : decode cX12_diff 170 = .ok (.iload 4, 2) := by decide +kernel
theorem dX12_diff_172 : decode cX12_diff 172 = .ok (.iaload, 1) := by decide +kernel
theorem dX12_diff_173 : decode cX12_diff 173 = .ok (.if_icmp .ge 70, 3) := by decide +kernel
theorem dX12_diff_176 : decode cX12_diff 176 = .ok (.aload_n 0, 1) := by decide +kernel
theorem dX12_diff_177 : decode cX12_diff 177 = .ok (.iload_n 3, 1) := by decide +kernel
theorem dX12_diff_178 : decode cX12_diff 178 = .ok (.aload_n 0, 1) := by decide +kernel
theorem dX12_diff_179 : decode cX12_diff 179 = .ok (.iload 4, 2) := by decide +kernel
theorem dX12_diff_181 : decode cX12_diff 181 = .ok (.iconst 0, 1) := by decide +kernel
theorem dX12_diff_182 : decode cX12_diff 182 = .ok (.iload 6, 2) := by decide +kernel
theorem dX12_diff_184 : decode cX12_diff 184 = .ok (.invokevirtual 213, 3) := by decide +kernel
theorem dX12_diff_187 : decode cX12_diff 187 = .ok (.aload_n 0, 1) := by decide +kernel
theorem dX12_diff_188 : decode cX12_diff 188 = .ok (.iload 4, 2) := by decide +kernel
theorem dX12_diff_190 : decode cX12_diff 190 = .ok (.iconst 1, 1) := by decide +kernel
theorem dX12_diff_191 : decode cX12_diff 191 = .ok (.iload 7, 2) := by decide +kernel
theorem dX12_diff_193 : decode cX12_diff 193 = .ok (.invokevirtual 213, 3) := by decide +kernel
theorem dX12_diff_196 : decode cX12_diff 196 = .ok (.invokevirtual 887, 3) := by decide +kernel
theorem dX12_diff_199 : decode cX12_diff 199 = .ok (.istore 8, 2) := by decide +kernel
theorem dX12_diff_201 : decode cX12_diff 201 = .ok (.iload 8, 2) := by decide +kernel
theorem dX12_diff_203 : decode cX12_diff 203 = .ok (.ifCond .lt 40, 3) := by decide +kernel
theorem dX12_diff_206 : decode cX12_diff 206 = .ok (.aload_n 0, 1) := by decide +kernel
theorem dX12_diff_207 : decode cX12_diff 207 = .ok (.iload 8, 2) := by decide +kernel
theorem dX12_diff_209 : decode cX12_diff 209 = .ok (.aload_n 0, 1) := by decide +kernel
theorem dX12_diff_210 : decode cX12_diff 210 = .ok (.getfield 23, 3) := by decide +kernel
theorem dX12_diff_213 : decode cX12_diff 213 = .ok (.sipush 320, 3) := by decide +kernel
theorem dX12_diff_216 : decode cX12_diff 216 = .ok (.iload 4, 2) := by decide +kernel
theorem dX12_diff_218 : decode cX12_diff 218 = .ok (.imul, 1) := by decide +kernel
theorem dX12_diff_219 : decode cX12_diff 219 = .ok (.iload 5, 2) := by decide +kernel
theorem dX12_diff_221 : decode cX12_diff 221 = .ok (.iadd, 1) := by decide +kernel
theorem dX12_diff_222 : decode cX12_diff 222 = .ok (.iaload, 1) := by decide +kernel
theorem dX12_diff_223 : decode cX12_diff 223 = .ok (.invokevirtual 865, 3) := by decide +kernel
theorem dX12_diff_226 : decode cX12_diff 226 = .ok (.ifCond .ne 17, 3) := by decide +kernel
theorem dX12_diff_229 : decode cX12_diff 229 = .ok (.aload_n 0, 1) := by decide +kernel
theorem dX12_diff_230 : decode cX12_diff 230 = .ok (.bipush 7, 2) := by decide +kernel
theorem dX12_diff_232 : decode cX12_diff 232 = .ok (.iload 6, 2) := by decide +kernel
theorem dX12_diff_234 : decode cX12_diff 234 = .ok (.iconst 1, 1) := by decide +kernel
theorem dX12_diff_235 : decode cX12_diff 235 = .ok (.iadd, 1) := by decide +kernel
theorem dX12_diff_236 : decode cX12_diff 236 = .ok (.iload 7, 2) := by decide +kernel
theorem dX12_diff_238 : decode cX12_diff 238 = .ok (.iconst 1, 1) := by decide +kernel
theorem dX12_diff_239 : decode cX12_diff 239 = .ok (.iadd, 1) := by decide +kernel
theorem dX12_diff_240 : decode cX12_diff 240 = .ok (.invokevirtual 942, 3) := by decide +kernel
theorem dX12_diff_243 : decode cX12_diff 243 = .ok (.iinc 5 1, 3) := by decide +kernel
theorem dX12_diff_246 : decode cX12_diff 246 = .ok (.goto (-116), 3) := by decide +kernel
theorem dX12_diff_249 : decode cX12_diff 249 = .ok (.aload_n 0, 1) := by decide +kernel
theorem dX12_diff_250 : decode cX12_diff 250 = .ok (.getfield 939, 3) := by decide +kernel
theorem dX12_diff_253 : decode cX12_diff 253 = .ok (.ireturn, 1) := by decide +kernel
set_option maxRecDepth 20000 in
theorem vl_X12_945 : VL RX12 945 12 mX12_linesAlone 4 := ⟨⟨qc_X12_linesAlone, (gtb_in (List.mem_of_getElem? (i := 2732) (by decide +kernel)) (by decide +kernel)), qi_X12_linesAlone, qs_X12_linesAlone, zw_12⟩, ⟨_, _, rfl⟩, by decide, qd_X12_linesAlone, by decide⟩
set_option maxRecDepth 20000 in
theorem vl_X12_897 : VL RX12 897 12 mX12_sameOrder 4 := ⟨⟨qc_X12_sameOrder, (gtb_in (List.mem_of_getElem? (i := 2679) (by decide +kernel)) (by decide +kernel)), qi_X12_sameOrder, qs_X12_sameOrder, zw_12⟩, ⟨_, _, rfl⟩, by decide, qd_X12_sameOrder, by decide⟩
def mX12_differ : MI := (yX12_differ, cX12_differ, 4, none)
theorem qc_X12_differ : Cond.code mX12_differ.1 mX12_differ.2.1 mX12_differ.2.2.1 mX12_differ.2.2.2 ∈ gtb := (gtb_in (List.mem_of_getElem? (i := 2739) (by decide +kernel)) (by decide +kernel))
theorem qi_X12_differ : Cond.instanceMethod mX12_differ.1 ∈ gtb := (gtb_in (List.mem_of_getElem? (i := 2738) (by decide +kernel)) (by decide +kernel))
theorem qs_X12_differ : Cond.selects mX12_differ.1.cls mX12_differ.1 mX12_differ.1 ∈ gtb := (gtb_sel (q := (⟨"SheetBranchesModel", "differ", "(III)V"⟩, 105)) (List.mem_of_getElem? (i := 237) (by decide +kernel)) (by decide +kernel))
theorem qd_X12_differ : dsc mX12_differ.1 3 := ⟨by decide +kernel, by decide +kernel, by decide +kernel⟩
set_option maxRecDepth 20000 in
theorem vl_X12_942 : VL RX12 942 12 mX12_differ 3 := ⟨⟨qc_X12_differ, (gtb_in (List.mem_of_getElem? (i := 2736) (by decide +kernel)) (by decide +kernel)), qi_X12_differ, qs_X12_differ, zw_12⟩, ⟨_, _, rfl⟩, by decide, qd_X12_differ, by decide⟩
theorem dX12_linesAlone_0 : decode cX12_linesAlone 0 = .ok (.iconst 0, 1) := by decide +kernel
theorem dX12_linesAlone_1 : decode cX12_linesAlone 1 = .ok (.istore 5, 2) := by decide +kernel
theorem dX12_linesAlone_3 : decode cX12_linesAlone 3 = .ok (.iload 5, 2) := by decide +kernel
theorem dX12_linesAlone_5 : decode cX12_linesAlone 5 = .ok (.aload_n 0, 1) := by decide +kernel
theorem dX12_linesAlone_6 : decode cX12_linesAlone 6 = .ok (.iload_n 1, 1) := by decide +kernel
theorem dX12_linesAlone_7 : decode cX12_linesAlone 7 = .ok (.iload_n 3, 1) := by decide +kernel
theorem dX12_linesAlone_8 : decode cX12_linesAlone 8 = .ok (.invokevirtual 209, 3) := by decide +kernel
theorem dX12_linesAlone_11 : decode cX12_linesAlone 11 = .ok (.if_icmp .ge 56, 3) := by decide +kernel
theorem dX12_linesAlone_14 : decode cX12_linesAlone 14 = .ok (.aload_n 0, 1) := by decide +kernel
theorem dX12_linesAlone_15 : decode cX12_linesAlone 15 = .ok (.iload_n 2, 1) := by decide +kernel
theorem dX12_linesAlone_16 : decode cX12_linesAlone 16 = .ok (.iload_n 3, 1) := by decide +kernel
theorem dX12_linesAlone_17 : decode cX12_linesAlone 17 = .ok (.aload_n 0, 1) := by decide +kernel
theorem dX12_linesAlone_18 : decode cX12_linesAlone 18 = .ok (.iload_n 1, 1) := by decide +kernel
theorem dX12_linesAlone_19 : decode cX12_linesAlone 19 = .ok (.iload_n 3, 1) := by decide +kernel
theorem dX12_linesAlone_20 : decode cX12_linesAlone 20 = .ok (.iload 5, 2) := by decide +kernel
theorem dX12_linesAlone_22 : decode cX12_linesAlone 22 = .ok (.invokevirtual 213, 3) := by decide +kernel
theorem dX12_linesAlone_25 : decode cX12_linesAlone 25 = .ok (.invokevirtual 217, 3) := by decide +kernel
theorem dX12_linesAlone_28 : decode cX12_linesAlone 28 = .ok (.ifCond .ge 33, 3) := by decide +kernel
theorem dX12_linesAlone_31 : decode cX12_linesAlone 31 = .ok (.aload_n 0, 1) := by decide +kernel
theorem dX12_linesAlone_32 : decode cX12_linesAlone 32 = .ok (.iload 4, 2) := by decide +kernel
theorem dX12_linesAlone_34 : decode cX12_linesAlone 34 = .ok (.iload_n 3, 1) := by decide +kernel
theorem dX12_linesAlone_35 : decode cX12_linesAlone 35 = .ok (.ifCond .ne 10, 3) := by decide +kernel
theorem dX12_linesAlone_38 : decode cX12_linesAlone 38 = .ok (.iload 5, 2) := by decide +kernel
theorem dX12_linesAlone_40 : decode cX12_linesAlone 40 = .ok (.iconst 1, 1) := by decide +kernel
theorem dX12_linesAlone_41 : decode cX12_linesAlone 41 = .ok (.iadd, 1) := by decide +kernel
theorem dX12_linesAlone_42 : decode cX12_linesAlone 42 = .ok (.goto 4, 3) := by decide +kernel
theorem dX12_linesAlone_45 : decode cX12_linesAlone 45 = .ok (.iconst 0, 1) := by decide +kernel
theorem dX12_linesAlone_46 : decode cX12_linesAlone 46 = .ok (.iload_n 3, 1) := by decide +kernel
theorem dX12_linesAlone_47 : decode cX12_linesAlone 47 = .ok (.ifCond .ne 7, 3) := by decide +kernel
theorem dX12_linesAlone_50 : decode cX12_linesAlone 50 = .ok (.iconst 0, 1) := by decide +kernel
theorem dX12_linesAlone_51 : decode cX12_linesAlone 51 = .ok (.goto 7, 3) := by decide +kernel
theorem dX12_linesAlone_54 : decode cX12_linesAlone 54 = .ok (.iload 5, 2) := by decide +kernel
theorem dX12_linesAlone_56 : decode cX12_linesAlone 56 = .ok (.iconst 1, 1) := by decide +kernel
theorem dX12_linesAlone_57 : decode cX12_linesAlone 57 = .ok (.iadd, 1) := by decide +kernel
theorem dX12_linesAlone_58 : decode cX12_linesAlone 58 = .ok (.invokevirtual 942, 3) := by decide +kernel
theorem dX12_linesAlone_61 : decode cX12_linesAlone 61 = .ok (.iinc 5 1, 3) := by decide +kernel
theorem dX12_linesAlone_64 : decode cX12_linesAlone 64 = .ok (.goto (-61), 3) := by decide +kernel
theorem dX12_linesAlone_67 : decode cX12_linesAlone 67 = .ok (.return_, 1) := by decide +kernel
theorem dX12_sameOrder_0 : decode cX12_sameOrder 0 = .ok (.iconst (-1), 1) := by decide +kernel
theorem dX12_sameOrder_1 : decode cX12_sameOrder 1 = .ok (.istore 5, 2) := by decide +kernel
theorem dX12_sameOrder_3 : decode cX12_sameOrder 3 = .ok (.iconst 0, 1) := by decide +kernel
theorem dX12_sameOrder_4 : decode cX12_sameOrder 4 = .ok (.istore 6, 2) := by decide +kernel
theorem dX12_sameOrder_6 : decode cX12_sameOrder 6 = .ok (.iload 6, 2) := by decide +kernel
theorem dX12_sameOrder_8 : decode cX12_sameOrder 8 = .ok (.aload_n 0, 1) := by decide +kernel
theorem dX12_sameOrder_9 : decode cX12_sameOrder 9 = .ok (.iload_n 1, 1) := by decide +kernel
theorem dX12_sameOrder_10 : decode cX12_sameOrder 10 = .ok (.iload 4, 2) := by decide +kernel
theorem dX12_sameOrder_12 : decode cX12_sameOrder 12 = .ok (.invokevirtual 209, 3) := by decide +kernel
theorem dX12_sameOrder_15 : decode cX12_sameOrder 15 = .ok (.if_icmp .ge 75, 3) := by decide +kernel
theorem dX12_sameOrder_18 : decode cX12_sameOrder 18 = .ok (.aload_n 0, 1) := by decide +kernel
theorem dX12_sameOrder_19 : decode cX12_sameOrder 19 = .ok (.iload_n 1, 1) := by decide +kernel
theorem dX12_sameOrder_20 : decode cX12_sameOrder 20 = .ok (.iload 4, 2) := by decide +kernel
theorem dX12_sameOrder_22 : decode cX12_sameOrder 22 = .ok (.iload 6, 2) := by decide +kernel
theorem dX12_sameOrder_24 : decode cX12_sameOrder 24 = .ok (.invokevirtual 213, 3) := by decide +kernel
theorem dX12_sameOrder_27 : decode cX12_sameOrder 27 = .ok (.istore 7, 2) := by decide +kernel
theorem dX12_sameOrder_29 : decode cX12_sameOrder 29 = .ok (.aload_n 0, 1) := by decide +kernel
theorem dX12_sameOrder_30 : decode cX12_sameOrder 30 = .ok (.iload_n 3, 1) := by decide +kernel
theorem dX12_sameOrder_31 : decode cX12_sameOrder 31 = .ok (.iload 4, 2) := by decide +kernel
theorem dX12_sameOrder_33 : decode cX12_sameOrder 33 = .ok (.iload 7, 2) := by decide +kernel
theorem dX12_sameOrder_35 : decode cX12_sameOrder 35 = .ok (.invokevirtual 217, 3) := by decide +kernel
theorem dX12_sameOrder_38 : decode cX12_sameOrder 38 = .ok (.ifCond .ge 7, 3) := by decide +kernel
theorem dX12_sameOrder_41 : decode cX12_sameOrder 41 = .ok (.iconst (-1), 1) := by decide +kernel
theorem dX12_sameOrder_42 : decode cX12_sameOrder 42 = .ok (.goto 12, 3) := by decide +kernel
theorem dX12_sameOrder_45 : decode cX12_sameOrder 45 = .ok (.aload_n 0, 1) := by decide +kernel
theorem dX12_sameOrder_46 : decode cX12_sameOrder 46 = .ok (.iload_n 2, 1) := by decide +kernel
theorem dX12_sameOrder_47 : decode cX12_sameOrder 47 = .ok (.iload 4, 2) := by decide +kernel
theorem dX12_sameOrder_49 : decode cX12_sameOrder 49 = .ok (.iload 7, 2) := by decide +kernel
theorem dX12_sameOrder_51 : decode cX12_sameOrder 51 = .ok (.invokevirtual 217, 3) := by decide +kernel
theorem dX12_sameOrder_54 : decode cX12_sameOrder 54 = .ok (.istore 8, 2) := by decide +kernel
theorem dX12_sameOrder_56 : decode cX12_sameOrder 56 = .ok (.iload 8, 2) := by decide +kernel
theorem dX12_sameOrder_58 : decode cX12_sameOrder 58 = .ok (.ifCond .lt 12, 3) := by decide +kernel
theorem dX12_sameOrder_61 : decode cX12_sameOrder 61 = .ok (.iload 8, 2) := by decide +kernel
theorem dX12_sameOrder_63 : decode cX12_sameOrder 63 = .ok (.iload 5, 2) := by decide +kernel
theorem dX12_sameOrder_65 : decode cX12_sameOrder 65 = .ok (.if_icmp .ge 5, 3) := by decide +kernel
theorem dX12_sameOrder_68 : decode cX12_sameOrder 68 = .ok (.iconst 0, 1) := by decide +kernel
theorem dX12_sameOrder_69 : decode cX12_sameOrder 69 = .ok (.ireturn, 1) := by decide +kernel
theorem dX12_sameOrder_70 : decode cX12_sameOrder 70 = .ok (.iload 8, 2) := by decide +kernel
theorem dX12_sameOrder_72 : decode cX12_sameOrder 72 = .ok (.ifCond .lt 8, 3) := by decide +kernel
theorem dX12_sameOrder_75 : decode cX12_sameOrder 75 = .ok (.iload 8, 2) := by decide +kernel
theorem dX12_sameOrder_77 : decode cX12_sameOrder 77 = .ok (.goto 5, 3) := by decide +kernel
theorem dX12_sameOrder_80 : decode cX12_sameOrder 80 = .ok (.iload 5, 2) := by decide +kernel
theorem dX12_sameOrder_82 : decode cX12_sameOrder 82 = .ok (.istore 5, 2) := by decide +kernel
theorem dX12_sameOrder_84 : decode cX12_sameOrder 84 = .ok (.iinc 6 1, 3) := by decide +kernel
theorem dX12_sameOrder_87 : decode cX12_sameOrder 87 = .ok (.goto (-81), 3) := by decide +kernel
theorem dX12_sameOrder_90 : decode cX12_sameOrder 90 = .ok (.iconst 1, 1) := by decide +kernel
theorem dX12_sameOrder_91 : decode cX12_sameOrder 91 = .ok (.ireturn, 1) := by decide +kernel
theorem dX12_init_0 : decode cX12_init 0 = .ok (.aload_n 0, 1) := by decide +kernel
theorem dX12_init_1 : decode cX12_init 1 = .ok (.invokespecial 1, 3) := by decide +kernel
theorem dX12_init_4 : decode cX12_init 4 = .ok (.aload_n 0, 1) := by decide +kernel
theorem dX12_init_5 : decode cX12_init 5 = .ok (.bipush 122, 2) := by decide +kernel
theorem dX12_init_7 : decode cX12_init 7 = .ok (.newarray .int, 2) := by decide +kernel
theorem dX12_init_9 : decode cX12_init 9 = .ok (.putfield 7, 3) := by decide +kernel
theorem dX12_init_12 : decode cX12_init 12 = .ok (.aload_n 0, 1) := by decide +kernel
theorem dX12_init_13 : decode cX12_init 13 = .ok (.bipush 122, 2) := by decide +kernel
theorem dX12_init_15 : decode cX12_init 15 = .ok (.newarray .int, 2) := by decide +kernel
theorem dX12_init_17 : decode cX12_init 17 = .ok (.putfield 13, 3) := by decide +kernel
theorem dX12_init_20 : decode cX12_init 20 = .ok (.aload_n 0, 1) := by decide +kernel
theorem dX12_init_21 : decode cX12_init 21 = .ok (.sipush 3904, 3) := by decide +kernel
theorem dX12_init_24 : decode cX12_init 24 = .ok (.newarray .int, 2) := by decide +kernel
theorem dX12_init_26 : decode cX12_init 26 = .ok (.putfield 16, 3) := by decide +kernel
theorem dX12_init_29 : decode cX12_init 29 = .ok (.aload_n 0, 1) := by decide +kernel
theorem dX12_init_30 : decode cX12_init 30 = .ok (.sipush 1220, 3) := by decide +kernel
theorem dX12_init_33 : decode cX12_init 33 = .ok (.newarray .int, 2) := by decide +kernel
theorem dX12_init_35 : decode cX12_init 35 = .ok (.putfield 19, 3) := by decide +kernel
theorem dX12_init_38 : decode cX12_init 38 = .ok (.aload_n 0, 1) := by decide +kernel
theorem dX12_init_39 : decode cX12_init 39 = .ok (.ldc 22, 2) := by decide +kernel
theorem dX12_init_41 : decode cX12_init 41 = .ok (.newarray .int, 2) := by decide +kernel
theorem dX12_init_43 : decode cX12_init 43 = .ok (.putfield 23, 3) := by decide +kernel
theorem dX12_init_46 : decode cX12_init 46 = .ok (.aload_n 0, 1) := by decide +kernel
theorem dX12_init_47 : decode cX12_init 47 = .ok (.bipush 8, 2) := by decide +kernel
theorem dX12_init_49 : decode cX12_init 49 = .ok (.putfield 26, 3) := by decide +kernel
theorem dX12_init_52 : decode cX12_init 52 = .ok (.aload_n 0, 1) := by decide +kernel
theorem dX12_init_53 : decode cX12_init 53 = .ok (.bipush 6, 2) := by decide +kernel
theorem dX12_init_55 : decode cX12_init 55 = .ok (.putfield 30, 3) := by decide +kernel
theorem dX12_init_58 : decode cX12_init 58 = .ok (.aload_n 0, 1) := by decide +kernel
theorem dX12_init_59 : decode cX12_init 59 = .ok (.iconst 1, 1) := by decide +kernel
theorem dX12_init_60 : decode cX12_init 60 = .ok (.putfield 33, 3) := by decide +kernel
theorem dX12_init_63 : decode cX12_init 63 = .ok (.aload_n 0, 1) := by decide +kernel
theorem dX12_init_64 : decode cX12_init 64 = .ok (.bipush 40, 2) := by decide +kernel
theorem dX12_init_66 : decode cX12_init 66 = .ok (.newarray .int, 2) := by decide +kernel
theorem dX12_init_68 : decode cX12_init 68 = .ok (.putfield 36, 3) := by decide +kernel
theorem dX12_init_71 : decode cX12_init 71 = .ok (.aload_n 0, 1) := by decide +kernel
theorem dX12_init_72 : decode cX12_init 72 = .ok (.bipush 40, 2) := by decide +kernel
theorem dX12_init_74 : decode cX12_init 74 = .ok (.newarray .int, 2) := by decide +kernel
theorem dX12_init_76 : decode cX12_init 76 = .ok (.putfield 39, 3) := by decide +kernel
theorem dX12_init_79 : decode cX12_init 79 = .ok (.aload_n 0, 1) := by decide +kernel
theorem dX12_init_80 : decode cX12_init 80 = .ok (.bipush 6, 2) := by decide +kernel
theorem dX12_init_82 : decode cX12_init 82 = .ok (.newarray .int, 2) := by decide +kernel
theorem dX12_init_84 : decode cX12_init 84 = .ok (.putfield 42, 3) := by decide +kernel
theorem dX12_init_87 : decode cX12_init 87 = .ok (.aload_n 0, 1) := by decide +kernel
theorem dX12_init_88 : decode cX12_init 88 = .ok (.iconst (-1), 1) := by decide +kernel
theorem dX12_init_89 : decode cX12_init 89 = .ok (.putfield 45, 3) := by decide +kernel
theorem dX12_init_92 : decode cX12_init 92 = .ok (.aload_n 0, 1) := by decide +kernel
theorem dX12_init_93 : decode cX12_init 93 = .ok (.ldc 48, 2) := by decide +kernel
theorem dX12_init_95 : decode cX12_init 95 = .ok (.newarray .byte, 2) := by decide +kernel
theorem dX12_init_97 : decode cX12_init 97 = .ok (.putfield 49, 3) := by decide +kernel
theorem dX12_init_100 : decode cX12_init 100 = .ok (.aload_n 0, 1) := by decide +kernel
theorem dX12_init_101 : decode cX12_init 101 = .ok (.sipush 4200, 3) := by decide +kernel
theorem dX12_init_104 : decode cX12_init 104 = .ok (.newarray .int, 2) := by decide +kernel
theorem dX12_init_106 : decode cX12_init 106 = .ok (.putfield 53, 3) := by decide +kernel
theorem dX12_init_109 : decode cX12_init 109 = .ok (.aload_n 0, 1) := by decide +kernel
theorem dX12_init_110 : decode cX12_init 110 = .ok (.sipush 4200, 3) := by decide +kernel
theorem dX12_init_113 : decode cX12_init 113 = .ok (.newarray .long, 2) := by decide +kernel
theorem dX12_init_115 : decode cX12_init 115 = .ok (.putfield 56, 3) := by decide +kernel
theorem dX12_init_118 : decode cX12_init 118 = .ok (.aload_n 0, 1) := by decide +kernel
theorem dX12_init_119 : decode cX12_init 119 = .ok (.sipush 4200, 3) := by decide +kernel
theorem dX12_init_122 : decode cX12_init 122 = .ok (.newarray .int, 2) := by decide +kernel
theorem dX12_init_124 : decode cX12_init 124 = .ok (.putfield 60, 3) := by decide +kernel
theorem dX12_init_127 : decode cX12_init 127 = .ok (.aload_n 0, 1) := by decide +kernel
theorem dX12_init_128 : decode cX12_init 128 = .ok (.sipush 4200, 3) := by decide +kernel
theorem dX12_init_131 : decode cX12_init 131 = .ok (.newarray .int, 2) := by decide +kernel
theorem dX12_init_133 : decode cX12_init 133 = .ok (.putfield 63, 3) := by decide +kernel
theorem dX12_init_136 : decode cX12_init 136 = .ok (.aload_n 0, 1) := by decide +kernel
theorem dX12_init_137 : decode cX12_init 137 = .ok (.ldc 66, 2) := by decide +kernel
theorem dX12_init_139 : decode cX12_init 139 = .ok (.newarray .int, 2) := by decide +kernel
theorem dX12_init_141 : decode cX12_init 141 = .ok (.putfield 67, 3) := by decide +kernel
theorem dX12_init_144 : decode cX12_init 144 = .ok (.aload_n 0, 1) := by decide +kernel
theorem dX12_init_145 : decode cX12_init 145 = .ok (.ldc 66, 2) := by decide +kernel
theorem dX12_init_147 : decode cX12_init 147 = .ok (.newarray .int, 2) := by decide +kernel
theorem dX12_init_149 : decode cX12_init 149 = .ok (.putfield 70, 3) := by decide +kernel
theorem dX12_init_152 : decode cX12_init 152 = .ok (.aload_n 0, 1) := by decide +kernel
theorem dX12_init_153 : decode cX12_init 153 = .ok (.ldc 66, 2) := by decide +kernel
theorem dX12_init_155 : decode cX12_init 155 = .ok (.newarray .int, 2) := by decide +kernel
theorem dX12_init_157 : decode cX12_init 157 = .ok (.putfield 73, 3) := by decide +kernel
theorem dX12_init_160 : decode cX12_init 160 = .ok (.aload_n 0, 1) := by decide +kernel
theorem dX12_init_161 : decode cX12_init 161 = .ok (.ldc 66, 2) := by decide +kernel
theorem dX12_init_163 : decode cX12_init 163 = .ok (.newarray .long, 2) := by decide +kernel
theorem dX12_init_165 : decode cX12_init 165 = .ok (.putfield 76, 3) := by decide +kernel
theorem dX12_init_168 : decode cX12_init 168 = .ok (.aload_n 0, 1) := by decide +kernel
theorem dX12_init_169 : decode cX12_init 169 = .ok (.ldc 66, 2) := by decide +kernel
theorem dX12_init_171 : decode cX12_init 171 = .ok (.newarray .int, 2) := by decide +kernel
theorem dX12_init_173 : decode cX12_init 173 = .ok (.putfield 79, 3) := by decide +kernel
theorem dX12_init_176 : decode cX12_init 176 = .ok (.aload_n 0, 1) := by decide +kernel
theorem dX12_init_177 : decode cX12_init 177 = .ok (.ldc 66, 2) := by decide +kernel
theorem dX12_init_179 : decode cX12_init 179 = .ok (.newarray .int, 2) := by decide +kernel
theorem dX12_init_181 : decode cX12_init 181 = .ok (.putfield 82, 3) := by decide +kernel
theorem dX12_init_184 : decode cX12_init 184 = .ok (.aload_n 0, 1) := by decide +kernel
theorem dX12_init_185 : decode cX12_init 185 = .ok (.ldc 66, 2) := by decide +kernel
theorem dX12_init_187 : decode cX12_init 187 = .ok (.newarray .int, 2) := by decide +kernel
theorem dX12_init_189 : decode cX12_init 189 = .ok (.putfield 85, 3) := by decide +kernel
theorem dX12_init_192 : decode cX12_init 192 = .ok (.aload_n 0, 1) := by decide +kernel
theorem dX12_init_193 : decode cX12_init 193 = .ok (.ldc 66, 2) := by decide +kernel
theorem dX12_init_195 : decode cX12_init 195 = .ok (.newarray .int, 2) := by decide +kernel
theorem dX12_init_197 : decode cX12_init 197 = .ok (.putfield 88, 3) := by decide +kernel
theorem dX12_init_200 : decode cX12_init 200 = .ok (.aload_n 0, 1) := by decide +kernel
theorem dX12_init_201 : decode cX12_init 201 = .ok (.ldc 66, 2) := by decide +kernel
theorem dX12_init_203 : decode cX12_init 203 = .ok (.newarray .int, 2) := by decide +kernel
theorem dX12_init_205 : decode cX12_init 205 = .ok (.putfield 91, 3) := by decide +kernel
theorem dX12_init_208 : decode cX12_init 208 = .ok (.aload_n 0, 1) := by decide +kernel
theorem dX12_init_209 : decode cX12_init 209 = .ok (.ldc 66, 2) := by decide +kernel
theorem dX12_init_211 : decode cX12_init 211 = .ok (.newarray .int, 2) := by decide +kernel
theorem dX12_init_213 : decode cX12_init 213 = .ok (.putfield 94, 3) := by decide +kernel
theorem dX12_init_216 : decode cX12_init 216 = .ok (.aload_n 0, 1) := by decide +kernel
theorem dX12_init_217 : decode cX12_init 217 = .ok (.ldc 66, 2) := by decide +kernel
theorem dX12_init_219 : decode cX12_init 219 = .ok (.newarray .int, 2) := by decide +kernel
theorem dX12_init_221 : decode cX12_init 221 = .ok (.putfield 97, 3) := by decide +kernel
theorem dX12_init_224 : decode cX12_init 224 = .ok (.aload_n 0, 1) := by decide +kernel
theorem dX12_init_225 : decode cX12_init 225 = .ok (.ldc 66, 2) := by decide +kernel
theorem dX12_init_227 : decode cX12_init 227 = .ok (.newarray .int, 2) := by decide +kernel
theorem dX12_init_229 : decode cX12_init 229 = .ok (.putfield 100, 3) := by decide +kernel
theorem dX12_init_232 : decode cX12_init 232 = .ok (.aload_n 0, 1) := by decide +kernel
theorem dX12_init_233 : decode cX12_init 233 = .ok (.ldc 66, 2) := by decide +kernel
theorem dX12_init_235 : decode cX12_init 235 = .ok (.newarray .int, 2) := by decide +kernel
theorem dX12_init_237 : decode cX12_init 237 = .ok (.putfield 103, 3) := by decide +kernel
theorem dX12_init_240 : decode cX12_init 240 = .ok (.aload_n 0, 1) := by decide +kernel
theorem dX12_init_241 : decode cX12_init 241 = .ok (.sipush 400, 3) := by decide +kernel
theorem dX12_init_244 : decode cX12_init 244 = .ok (.newarray .int, 2) := by decide +kernel
theorem dX12_init_246 : decode cX12_init 246 = .ok (.putfield 106, 3) := by decide +kernel
theorem dX12_init_249 : decode cX12_init 249 = .ok (.aload_n 0, 1) := by decide +kernel
theorem dX12_init_250 : decode cX12_init 250 = .ok (.sipush 13120, 3) := by decide +kernel
theorem dX12_init_253 : decode cX12_init 253 = .ok (.newarray .int, 2) := by decide +kernel
theorem dX12_init_255 : decode cX12_init 255 = .ok (.putfield 109, 3) := by decide +kernel
theorem dX12_init_258 : decode cX12_init 258 = .ok (.aload_n 0, 1) := by decide +kernel
theorem dX12_init_259 : decode cX12_init 259 = .ok (.sipush 13120, 3) := by decide +kernel
theorem dX12_init_262 : decode cX12_init 262 = .ok (.newarray .long, 2) := by decide +kernel
theorem dX12_init_264 : decode cX12_init 264 = .ok (.putfield 112, 3) := by decide +kernel
theorem dX12_init_267 : decode cX12_init 267 = .ok (.aload_n 0, 1) := by decide +kernel
theorem dX12_init_268 : decode cX12_init 268 = .ok (.sipush 13120, 3) := by decide +kernel
theorem dX12_init_271 : decode cX12_init 271 = .ok (.newarray .int, 2) := by decide +kernel
theorem dX12_init_273 : decode cX12_init 273 = .ok (.putfield 115, 3) := by decide +kernel
theorem dX12_init_276 : decode cX12_init 276 = .ok (.aload_n 0, 1) := by decide +kernel
theorem dX12_init_277 : decode cX12_init 277 = .ok (.ldc 118, 2) := by decide +kernel
theorem dX12_init_279 : decode cX12_init 279 = .ok (.newarray .byte, 2) := by decide +kernel
theorem dX12_init_281 : decode cX12_init 281 = .ok (.putfield 119, 3) := by decide +kernel
theorem dX12_init_284 : decode cX12_init 284 = .ok (.aload_n 0, 1) := by decide +kernel
theorem dX12_init_285 : decode cX12_init 285 = .ok (.bipush 40, 2) := by decide +kernel
theorem dX12_init_287 : decode cX12_init 287 = .ok (.newarray .boolean, 2) := by decide +kernel
theorem dX12_init_289 : decode cX12_init 289 = .ok (.putfield 122, 3) := by decide +kernel
theorem dX12_init_292 : decode cX12_init 292 = .ok (.aload_n 0, 1) := by decide +kernel
theorem dX12_init_293 : decode cX12_init 293 = .ok (.sipush 200, 3) := by decide +kernel
theorem dX12_init_296 : decode cX12_init 296 = .ok (.newarray .int, 2) := by decide +kernel
theorem dX12_init_298 : decode cX12_init 298 = .ok (.putfield 126, 3) := by decide +kernel
theorem dX12_init_301 : decode cX12_init 301 = .ok (.aload_n 0, 1) := by decide +kernel
theorem dX12_init_302 : decode cX12_init 302 = .ok (.sipush 200, 3) := by decide +kernel
theorem dX12_init_305 : decode cX12_init 305 = .ok (.newarray .long, 2) := by decide +kernel
theorem dX12_init_307 : decode cX12_init 307 = .ok (.putfield 129, 3) := by decide +kernel
theorem dX12_init_310 : decode cX12_init 310 = .ok (.aload_n 0, 1) := by decide +kernel
theorem dX12_init_311 : decode cX12_init 311 = .ok (.sipush 200, 3) := by decide +kernel
theorem dX12_init_314 : decode cX12_init 314 = .ok (.newarray .int, 2) := by decide +kernel
theorem dX12_init_316 : decode cX12_init 316 = .ok (.putfield 132, 3) := by decide +kernel
theorem dX12_init_319 : decode cX12_init 319 = .ok (.aload_n 0, 1) := by decide +kernel
theorem dX12_init_320 : decode cX12_init 320 = .ok (.sipush 4800, 3) := by decide +kernel
theorem dX12_init_323 : decode cX12_init 323 = .ok (.newarray .byte, 2) := by decide +kernel
theorem dX12_init_325 : decode cX12_init 325 = .ok (.putfield 135, 3) := by decide +kernel
theorem dX12_init_328 : decode cX12_init 328 = .ok (.aload_n 0, 1) := by decide +kernel
theorem dX12_init_329 : decode cX12_init 329 = .ok (.bipush 20, 2) := by decide +kernel
theorem dX12_init_331 : decode cX12_init 331 = .ok (.newarray .byte, 2) := by decide +kernel
theorem dX12_init_333 : decode cX12_init 333 = .ok (.putfield 138, 3) := by decide +kernel
theorem dX12_init_336 : decode cX12_init 336 = .ok (.aload_n 0, 1) := by decide +kernel
theorem dX12_init_337 : decode cX12_init 337 = .ok (.sipush 1600, 3) := by decide +kernel
theorem dX12_init_340 : decode cX12_init 340 = .ok (.newarray .long, 2) := by decide +kernel
theorem dX12_init_342 : decode cX12_init 342 = .ok (.putfield 141, 3) := by decide +kernel
theorem dX12_init_345 : decode cX12_init 345 = .ok (.aload_n 0, 1) := by decide +kernel
theorem dX12_init_346 : decode cX12_init 346 = .ok (.sipush 1600, 3) := by decide +kernel
theorem dX12_init_349 : decode cX12_init 349 = .ok (.newarray .long, 2) := by decide +kernel
theorem dX12_init_351 : decode cX12_init 351 = .ok (.putfield 144, 3) := by decide +kernel
theorem dX12_init_354 : decode cX12_init 354 = .ok (.aload_n 0, 1) := by decide +kernel
theorem dX12_init_355 : decode cX12_init 355 = .ok (.sipush 320, 3) := by decide +kernel
theorem dX12_init_358 : decode cX12_init 358 = .ok (.newarray .boolean, 2) := by decide +kernel
theorem dX12_init_360 : decode cX12_init 360 = .ok (.putfield 147, 3) := by decide +kernel
theorem dX12_init_363 : decode cX12_init 363 = .ok (.aload_n 0, 1) := by decide +kernel
theorem dX12_init_364 : decode cX12_init 364 = .ok (.iconst 5, 1) := by decide +kernel
theorem dX12_init_365 : decode cX12_init 365 = .ok (.newarray .long, 2) := by decide +kernel
theorem dX12_init_367 : decode cX12_init 367 = .ok (.putfield 150, 3) := by decide +kernel
theorem dX12_init_370 : decode cX12_init 370 = .ok (.aload_n 0, 1) := by decide +kernel
theorem dX12_init_371 : decode cX12_init 371 = .ok (.sipush 2000, 3) := by decide +kernel
theorem dX12_init_374 : decode cX12_init 374 = .ok (.newarray .byte, 2) := by decide +kernel
theorem dX12_init_376 : decode cX12_init 376 = .ok (.putfield 153, 3) := by decide +kernel
theorem dX12_init_379 : decode cX12_init 379 = .ok (.aload_n 0, 1) := by decide +kernel
theorem dX12_init_380 : decode cX12_init 380 = .ok (.bipush 32, 2) := by decide +kernel
theorem dX12_init_382 : decode cX12_init 382 = .ok (.newarray .int, 2) := by decide +kernel
theorem dX12_init_384 : decode cX12_init 384 = .ok (.putfield 156, 3) := by decide +kernel
theorem dX12_init_387 : decode cX12_init 387 = .ok (.aload_n 0, 1) := by decide +kernel
theorem dX12_init_388 : decode cX12_init 388 = .ok (.bipush 40, 2) := by decide +kernel
theorem dX12_init_390 : decode cX12_init 390 = .ok (.newarray .boolean, 2) := by decide +kernel
theorem dX12_init_392 : decode cX12_init 392 = .ok (.putfield 159, 3) := by decide +kernel
theorem dX12_init_395 : decode cX12_init 395 = .ok (.aload_n 0, 1) := by decide +kernel
theorem dX12_init_396 : decode cX12_init 396 = .ok (.bipush 40, 2) := by decide +kernel
theorem dX12_init_398 : decode cX12_init 398 = .ok (.newarray .boolean, 2) := by decide +kernel
theorem dX12_init_400 : decode cX12_init 400 = .ok (.putfield 162, 3) := by decide +kernel
theorem dX12_init_403 : decode cX12_init 403 = .ok (.aload_n 0, 1) := by decide +kernel
theorem dX12_init_404 : decode cX12_init 404 = .ok (.sipush 370, 3) := by decide +kernel
theorem dX12_init_407 : decode cX12_init 407 = .ok (.newarray .int, 2) := by decide +kernel
theorem dX12_init_409 : decode cX12_init 409 = .ok (.putfield 165, 3) := by decide +kernel
theorem dX12_init_412 : decode cX12_init 412 = .ok (.aload_n 0, 1) := by decide +kernel
theorem dX12_init_413 : decode cX12_init 413 = .ok (.sipush 370, 3) := by decide +kernel
theorem dX12_init_416 : decode cX12_init 416 = .ok (.newarray .int, 2) := by decide +kernel
theorem dX12_init_418 : decode cX12_init 418 = .ok (.putfield 168, 3) := by decide +kernel
theorem dX12_init_421 : decode cX12_init 421 = .ok (.aload_n 0, 1) := by decide +kernel
theorem dX12_init_422 : decode cX12_init 422 = .ok (.sipush 370, 3) := by decide +kernel
theorem dX12_init_425 : decode cX12_init 425 = .ok (.newarray .int, 2) := by decide +kernel
theorem dX12_init_427 : decode cX12_init 427 = .ok (.putfield 171, 3) := by decide +kernel
theorem dX12_init_430 : decode cX12_init 430 = .ok (.aload_n 0, 1) := by decide +kernel
theorem dX12_init_431 : decode cX12_init 431 = .ok (.sipush 370, 3) := by decide +kernel
theorem dX12_init_434 : decode cX12_init 434 = .ok (.newarray .int, 2) := by decide +kernel
theorem dX12_init_436 : decode cX12_init 436 = .ok (.putfield 174, 3) := by decide +kernel
theorem dX12_init_439 : decode cX12_init 439 = .ok (.aload_n 0, 1) := by decide +kernel
theorem dX12_init_440 : decode cX12_init 440 = .ok (.sipush 370, 3) := by decide +kernel
theorem dX12_init_443 : decode cX12_init 443 = .ok (.newarray .int, 2) := by decide +kernel
theorem dX12_init_445 : decode cX12_init 445 = .ok (.putfield 177, 3) := by decide +kernel
theorem dX12_init_448 : decode cX12_init 448 = .ok (.aload_n 0, 1) := by decide +kernel
theorem dX12_init_449 : decode cX12_init 449 = .ok (.sipush 370, 3) := by decide +kernel
theorem dX12_init_452 : decode cX12_init 452 = .ok (.newarray .boolean, 2) := by decide +kernel
theorem dX12_init_454 : decode cX12_init 454 = .ok (.putfield 180, 3) := by decide +kernel
theorem dX12_init_457 : decode cX12_init 457 = .ok (.aload_n 0, 1) := by decide +kernel
theorem dX12_init_458 : decode cX12_init 458 = .ok (.sipush 370, 3) := by decide +kernel
theorem dX12_init_461 : decode cX12_init 461 = .ok (.newarray .boolean, 2) := by decide +kernel
theorem dX12_init_463 : decode cX12_init 463 = .ok (.putfield 183, 3) := by decide +kernel
theorem dX12_init_466 : decode cX12_init 466 = .ok (.aload_n 0, 1) := by decide +kernel
theorem dX12_init_467 : decode cX12_init 467 = .ok (.bipush 64, 2) := by decide +kernel
theorem dX12_init_469 : decode cX12_init 469 = .ok (.newarray .int, 2) := by decide +kernel
theorem dX12_init_471 : decode cX12_init 471 = .ok (.putfield 186, 3) := by decide +kernel
theorem dX12_init_474 : decode cX12_init 474 = .ok (.aload_n 0, 1) := by decide +kernel
theorem dX12_init_475 : decode cX12_init 475 = .ok (.sipush 410, 3) := by decide +kernel
theorem dX12_init_478 : decode cX12_init 478 = .ok (.newarray .int, 2) := by decide +kernel
theorem dX12_init_480 : decode cX12_init 480 = .ok (.putfield 189, 3) := by decide +kernel
theorem dX12_init_483 : decode cX12_init 483 = .ok (.aload_n 0, 1) := by decide +kernel
theorem dX12_init_484 : decode cX12_init 484 = .ok (.sipush 410, 3) := by decide +kernel
theorem dX12_init_487 : decode cX12_init 487 = .ok (.newarray .int, 2) := by decide +kernel
theorem dX12_init_489 : decode cX12_init 489 = .ok (.putfield 192, 3) := by decide +kernel
theorem dX12_init_492 : decode cX12_init 492 = .ok (.aload_n 0, 1) := by decide +kernel
theorem dX12_init_493 : decode cX12_init 493 = .ok (.sipush 410, 3) := by decide +kernel
theorem dX12_init_496 : decode cX12_init 496 = .ok (.newarray .int, 2) := by decide +kernel
theorem dX12_init_498 : decode cX12_init 498 = .ok (.putfield 195, 3) := by decide +kernel
theorem dX12_init_501 : decode cX12_init 501 = .ok (.iconst 1, 1) := by decide +kernel
theorem dX12_init_502 : decode cX12_init 502 = .ok (.istore_n 1, 1) := by decide +kernel
theorem dX12_init_503 : decode cX12_init 503 = .ok (.iload_n 1, 1) := by decide +kernel
theorem dX12_init_504 : decode cX12_init 504 = .ok (.bipush 6, 2) := by decide +kernel
theorem dX12_init_506 : decode cX12_init 506 = .ok (.if_icmp .ge 16, 3) := by decide +kernel
theorem dX12_init_509 : decode cX12_init 509 = .ok (.aload_n 0, 1) := by decide +kernel
theorem dX12_init_510 : decode cX12_init 510 = .ok (.getfield 42, 3) := by decide +kernel
theorem dX12_init_513 : decode cX12_init 513 = .ok (.iload_n 1, 1) := by decide +kernel
theorem dX12_init_514 : decode cX12_init 514 = .ok (.iconst (-1), 1) := by decide +kernel
theorem dX12_init_515 : decode cX12_init 515 = .ok (.iastore, 1) := by decide +kernel
theorem dX12_init_516 : decode cX12_init 516 = .ok (.iinc 1 1, 3) := by decide +kernel
theorem dX12_init_519 : decode cX12_init 519 = .ok (.goto (-16), 3) := by decide +kernel
theorem dX12_init_522 : decode cX12_init 522 = .ok (.aload_n 0, 1) := by decide +kernel
theorem dX12_init_523 : decode cX12_init 523 = .ok (.getfield 36, 3) := by decide +kernel
theorem dX12_init_526 : decode cX12_init 526 = .ok (.iconst 0, 1) := by decide +kernel
theorem dX12_init_527 : decode cX12_init 527 = .ok (.iconst (-1), 1) := by decide +kernel
theorem dX12_init_528 : decode cX12_init 528 = .ok (.iastore, 1) := by decide +kernel
theorem dX12_init_529 : decode cX12_init 529 = .ok (.aload_n 0, 1) := by decide +kernel
theorem dX12_init_530 : decode cX12_init 530 = .ok (.getfield 39, 3) := by decide +kernel
theorem dX12_init_533 : decode cX12_init 533 = .ok (.iconst 0, 1) := by decide +kernel
theorem dX12_init_534 : decode cX12_init 534 = .ok (.iconst (-1), 1) := by decide +kernel
theorem dX12_init_535 : decode cX12_init 535 = .ok (.iastore, 1) := by decide +kernel
theorem dX12_init_536 : decode cX12_init 536 = .ok (.aload_n 0, 1) := by decide +kernel
theorem dX12_init_537 : decode cX12_init 537 = .ok (.getfield 7, 3) := by decide +kernel
theorem dX12_init_540 : decode cX12_init 540 = .ok (.iconst 0, 1) := by decide +kernel
theorem dX12_init_541 : decode cX12_init 541 = .ok (.bipush 8, 2) := by decide +kernel
theorem dX12_init_543 : decode cX12_init 543 = .ok (.iastore, 1) := by decide +kernel
theorem dX12_init_544 : decode cX12_init 544 = .ok (.aload_n 0, 1) := by decide +kernel
theorem dX12_init_545 : decode cX12_init 545 = .ok (.getfield 13, 3) := by decide +kernel
theorem dX12_init_548 : decode cX12_init 548 = .ok (.iconst 0, 1) := by decide +kernel
theorem dX12_init_549 : decode cX12_init 549 = .ok (.bipush 6, 2) := by decide +kernel
theorem dX12_init_551 : decode cX12_init 551 = .ok (.iastore, 1) := by decide +kernel
theorem dX12_init_552 : decode cX12_init 552 = .ok (.iconst 0, 1) := by decide +kernel
theorem dX12_init_553 : decode cX12_init 553 = .ok (.istore_n 1, 1) := by decide +kernel
theorem dX12_init_554 : decode cX12_init 554 = .ok (.iload_n 1, 1) := by decide +kernel
theorem dX12_init_555 : decode cX12_init 555 = .ok (.bipush 8, 2) := by decide +kernel
theorem dX12_init_557 : decode cX12_init 557 = .ok (.if_icmp .ge 16, 3) := by decide +kernel
theorem dX12_init_560 : decode cX12_init 560 = .ok (.aload_n 0, 1) := by decide +kernel
theorem dX12_init_561 : decode cX12_init 561 = .ok (.getfield 16, 3) := by decide +kernel
theorem dX12_init_564 : decode cX12_init 564 = .ok (.iload_n 1, 1) := by decide +kernel
theorem dX12_init_565 : decode cX12_init 565 = .ok (.iload_n 1, 1) := by decide +kernel
theorem dX12_init_566 : decode cX12_init 566 = .ok (.iastore, 1) := by decide +kernel
theorem dX12_init_567 : decode cX12_init 567 = .ok (.iinc 1 1, 3) := by decide +kernel
theorem dX12_init_570 : decode cX12_init 570 = .ok (.goto (-16), 3) := by decide +kernel
theorem dX12_init_573 : decode cX12_init 573 = .ok (.iconst 0, 1) := by decide +kernel
theorem dX12_init_574 : decode cX12_init 574 = .ok (.istore_n 1, 1) := by decide +kernel
theorem dX12_init_575 : decode cX12_init 575 = .ok (.iload_n 1, 1) := by decide +kernel
theorem dX12_init_576 : decode cX12_init 576 = .ok (.bipush 6, 2) := by decide +kernel
theorem dX12_init_578 : decode cX12_init 578 = .ok (.if_icmp .ge 16, 3) := by decide +kernel
theorem dX12_init_581 : decode cX12_init 581 = .ok (.aload_n 0, 1) := by decide +kernel
theorem dX12_init_582 : decode cX12_init 582 = .ok (.getfield 19, 3) := by decide +kernel
theorem dX12_init_585 : decode cX12_init 585 = .ok (.iload_n 1, 1) := by decide +kernel
theorem dX12_init_586 : decode cX12_init 586 = .ok (.iload_n 1, 1) := by decide +kernel
theorem dX12_init_587 : decode cX12_init 587 = .ok (.iastore, 1) := by decide +kernel
theorem dX12_init_588 : decode cX12_init 588 = .ok (.iinc 1 1, 3) := by decide +kernel
theorem dX12_init_591 : decode cX12_init 591 = .ok (.goto (-16), 3) := by decide +kernel
theorem dX12_init_594 : decode cX12_init 594 = .ok (.aload_n 0, 1) := by decide +kernel
theorem dX12_init_595 : decode cX12_init 595 = .ok (.iconst 0, 1) := by decide +kernel
theorem dX12_init_596 : decode cX12_init 596 = .ok (.bipush 40, 2) := by decide +kernel
theorem dX12_init_598 : decode cX12_init 598 = .ok (.invokevirtual 198, 3) := by decide +kernel
theorem dX12_init_601 : decode cX12_init 601 = .ok (.return_, 1) := by decide +kernel
set_option maxRecDepth 20000 in
theorem ol_X12_1 : Cond.methodLink RX12 1 objectInit ∈ gtb := (gtb_in (List.mem_of_getElem? (i := 1636) (by decide +kernel)) (by decide +kernel))
set_option maxRecDepth 20000 in
theorem kl_X12_22 : Cond.constant RX12 22 (39040) ∈ gtb := (gtb_in (List.mem_of_getElem? (i := 1637) (by decide +kernel)) (by decide +kernel))
set_option maxRecDepth 20000 in
theorem kl_X12_48 : Cond.constant RX12 48 (82400) ∈ gtb := (gtb_in (List.mem_of_getElem? (i := 1638) (by decide +kernel)) (by decide +kernel))
set_option maxRecDepth 20000 in
theorem kl_X12_66 : Cond.constant RX12 66 (60420) ∈ gtb := (gtb_in (List.mem_of_getElem? (i := 1639) (by decide +kernel)) (by decide +kernel))
set_option maxRecDepth 20000 in
theorem fl_X12_67 : FL RX12 67 12 26 true := ⟨RX12, TX12, cl_12, by decide, (gtb_in (List.mem_of_getElem? (i := 1671) (by decide +kernel)) (by decide +kernel)), rfl⟩
set_option maxRecDepth 20000 in
theorem fl_X12_70 : FL RX12 70 12 27 true := ⟨RX12, TX12, cl_12, by decide, (gtb_in (List.mem_of_getElem? (i := 1672) (by decide +kernel)) (by decide +kernel)), rfl⟩
set_option maxRecDepth 20000 in
theorem fl_X12_73 : FL RX12 73 12 28 true := ⟨RX12, TX12, cl_12, by decide, (gtb_in (List.mem_of_getElem? (i := 1673) (by decide +kernel)) (by decide +kernel)), rfl⟩
set_option maxRecDepth 20000 in
theorem fl_X12_76 : FL RX12 76 12 29 true := ⟨RX12, TX12, cl_12, by decide, (gtb_in (List.mem_of_getElem? (i := 1674) (by decide +kernel)) (by decide +kernel)), rfl⟩
set_option maxRecDepth 20000 in
theorem fl_X12_79 : FL RX12 79 12 30 true := ⟨RX12, TX12, cl_12, by decide, (gtb_in (List.mem_of_getElem? (i := 1675) (by decide +kernel)) (by decide +kernel)), rfl⟩
set_option maxRecDepth 20000 in
theorem fl_X12_82 : FL RX12 82 12 31 true := ⟨RX12, TX12, cl_12, by decide, (gtb_in (List.mem_of_getElem? (i := 1676) (by decide +kernel)) (by decide +kernel)), rfl⟩
set_option maxRecDepth 20000 in
theorem fl_X12_85 : FL RX12 85 12 32 true := ⟨RX12, TX12, cl_12, by decide, (gtb_in (List.mem_of_getElem? (i := 1677) (by decide +kernel)) (by decide +kernel)), rfl⟩
set_option maxRecDepth 20000 in
theorem fl_X12_88 : FL RX12 88 12 33 true := ⟨RX12, TX12, cl_12, by decide, (gtb_in (List.mem_of_getElem? (i := 1678) (by decide +kernel)) (by decide +kernel)), rfl⟩
set_option maxRecDepth 20000 in
theorem fl_X12_91 : FL RX12 91 12 34 true := ⟨RX12, TX12, cl_12, by decide, (gtb_in (List.mem_of_getElem? (i := 1679) (by decide +kernel)) (by decide +kernel)), rfl⟩
set_option maxRecDepth 20000 in
theorem fl_X12_94 : FL RX12 94 12 35 true := ⟨RX12, TX12, cl_12, by decide, (gtb_in (List.mem_of_getElem? (i := 1680) (by decide +kernel)) (by decide +kernel)), rfl⟩
set_option maxRecDepth 20000 in
theorem fl_X12_97 : FL RX12 97 12 36 true := ⟨RX12, TX12, cl_12, by decide, (gtb_in (List.mem_of_getElem? (i := 1681) (by decide +kernel)) (by decide +kernel)), rfl⟩
set_option maxRecDepth 20000 in
theorem fl_X12_100 : FL RX12 100 12 37 true := ⟨RX12, TX12, cl_12, by decide, (gtb_in (List.mem_of_getElem? (i := 1682) (by decide +kernel)) (by decide +kernel)), rfl⟩
set_option maxRecDepth 20000 in
theorem kl_X12_118 : Cond.constant RX12 118 (314880) ∈ gtb := (gtb_in (List.mem_of_getElem? (i := 1640) (by decide +kernel)) (by decide +kernel))
set_option maxRecDepth 20000 in
theorem fl_X12_138 : FL RX12 138 12 70 true := ⟨RX12, TX12, cl_12, by decide, (gtb_in (List.mem_of_getElem? (i := 1715) (by decide +kernel)) (by decide +kernel)), rfl⟩
set_option maxRecDepth 20000 in
theorem fl_X12_186 : FL RX12 186 12 99 true := ⟨RX12, TX12, cl_12, by decide, (gtb_in (List.mem_of_getElem? (i := 1744) (by decide +kernel)) (by decide +kernel)), rfl⟩
