def mX12_in : MI := (yX12_in, cX12_in, 3, (some .boolean))
theorem qc_X12_in : Cond.code mX12_in.1 mX12_in.2.1 mX12_in.2.2.1 mX12_in.2.2.2 ∈ gtb := (gtb_in (List.mem_of_getElem? (i := 1992) (by decide +kernel)) (by decide +kernel))
theorem qt_X12_in : Cond.static mX12_in.1 ∈ gtb := (gtb_in (List.mem_of_getElem? (i := 1991) (by decide +kernel)) (by decide +kernel))
theorem qd_X12_in : dsc mX12_in.1 3 := ⟨by decide +kernel, by decide +kernel, by decide +kernel⟩
def mX12_thrown : MI := (yX12_thrown, cX12_thrown, 1, (some .int))
theorem qc_X12_thrown : Cond.code mX12_thrown.1 mX12_thrown.2.1 mX12_thrown.2.2.1 mX12_thrown.2.2.2 ∈ gtb := (gtb_in (List.mem_of_getElem? (i := 1965) (by decide +kernel)) (by decide +kernel))
theorem qi_X12_thrown : Cond.instanceMethod mX12_thrown.1 ∈ gtb := (gtb_in (List.mem_of_getElem? (i := 1963) (by decide +kernel)) (by decide +kernel))
theorem qs_X12_thrown : Cond.selects mX12_thrown.1.cls mX12_thrown.1 mX12_thrown.1 ∈ gtb := (gtb_in (List.mem_of_getElem? (i := 1964) (by decide +kernel)) (by decide +kernel))
theorem qd_X12_thrown : dsc mX12_thrown.1 0 := ⟨by decide +kernel, by decide +kernel, by decide +kernel⟩
def mX12_throwing : MI := (yX12_throwing, cX12_throwing, 2, (some .int))
theorem qc_X12_throwing : Cond.code mX12_throwing.1 mX12_throwing.2.1 mX12_throwing.2.2.1 mX12_throwing.2.2.2 ∈ gtb := (gtb_in (List.mem_of_getElem? (i := 1973) (by decide +kernel)) (by decide +kernel))
theorem qi_X12_throwing : Cond.instanceMethod mX12_throwing.1 ∈ gtb := (gtb_in (List.mem_of_getElem? (i := 1972) (by decide +kernel)) (by decide +kernel))
theorem qs_X12_throwing : Cond.selects mX12_throwing.1.cls mX12_throwing.1 mX12_throwing.1 ∈ gtb := (gtb_sel (q := (⟨"SheetBranchesModel", "throwing", "(I)I"⟩, 105)) (List.mem_of_getElem? (i := 97) (by decide +kernel)) (by decide +kernel))
theorem qd_X12_throwing : dsc mX12_throwing.1 1 := ⟨by decide +kernel, by decide +kernel, by decide +kernel⟩
def mX12_linesOf : MI := (yX12_linesOf, cX12_linesOf, 3, (some .int))
theorem qc_X12_linesOf : Cond.code mX12_linesOf.1 mX12_linesOf.2.1 mX12_linesOf.2.2.1 mX12_linesOf.2.2.2 ∈ gtb := (gtb_in (List.mem_of_getElem? (i := 2258) (by decide +kernel)) (by decide +kernel))
theorem qi_X12_linesOf : Cond.instanceMethod mX12_linesOf.1 ∈ gtb := (gtb_in (List.mem_of_getElem? (i := 2257) (by decide +kernel)) (by decide +kernel))
theorem qs_X12_linesOf : Cond.selects mX12_linesOf.1.cls mX12_linesOf.1 mX12_linesOf.1 ∈ gtb := (gtb_sel (q := (⟨"SheetBranchesModel", "linesOf", "(II)I"⟩, 105)) (List.mem_of_getElem? (i := 148) (by decide +kernel)) (by decide +kernel))
theorem qd_X12_linesOf : dsc mX12_linesOf.1 2 := ⟨by decide +kernel, by decide +kernel, by decide +kernel⟩
def mX12_lineAt : MI := (yX12_lineAt, cX12_lineAt, 4, (some .int))
theorem qc_X12_lineAt : Cond.code mX12_lineAt.1 mX12_lineAt.2.1 mX12_lineAt.2.2.1 mX12_lineAt.2.2.2 ∈ gtb := (gtb_in (List.mem_of_getElem? (i := 2161) (by decide +kernel)) (by decide +kernel))
theorem qi_X12_lineAt : Cond.instanceMethod mX12_lineAt.1 ∈ gtb := (gtb_in (List.mem_of_getElem? (i := 2160) (by decide +kernel)) (by decide +kernel))
theorem qs_X12_lineAt : Cond.selects mX12_lineAt.1.cls mX12_lineAt.1 mX12_lineAt.1 ∈ gtb := (gtb_sel (q := (⟨"SheetBranchesModel", "lineAt", "(III)I"⟩, 105)) (List.mem_of_getElem? (i := 130) (by decide +kernel)) (by decide +kernel))
theorem qd_X12_lineAt : dsc mX12_lineAt.1 3 := ⟨by decide +kernel, by decide +kernel, by decide +kernel⟩
def mX12_placeOf : MI := (yX12_placeOf, cX12_placeOf, 5, (some .int))
theorem qc_X12_placeOf : Cond.code mX12_placeOf.1 mX12_placeOf.2.1 mX12_placeOf.2.2.1 mX12_placeOf.2.2.2 ∈ gtb := (gtb_in (List.mem_of_getElem? (i := 2254) (by decide +kernel)) (by decide +kernel))
theorem qi_X12_placeOf : Cond.instanceMethod mX12_placeOf.1 ∈ gtb := (gtb_in (List.mem_of_getElem? (i := 2253) (by decide +kernel)) (by decide +kernel))
theorem qs_X12_placeOf : Cond.selects mX12_placeOf.1.cls mX12_placeOf.1 mX12_placeOf.1 ∈ gtb := (gtb_sel (q := (⟨"SheetBranchesModel", "placeOf", "(III)I"⟩, 105)) (List.mem_of_getElem? (i := 147) (by decide +kernel)) (by decide +kernel))
theorem qd_X12_placeOf : dsc mX12_placeOf.1 3 := ⟨by decide +kernel, by decide +kernel, by decide +kernel⟩
def mX12_contentOf : MI := (yX12_contentOf, cX12_contentOf, 6, (some .int))
theorem qc_X12_contentOf : Cond.code mX12_contentOf.1 mX12_contentOf.2.1 mX12_contentOf.2.2.1 mX12_contentOf.2.2.2 ∈ gtb := (gtb_in (List.mem_of_getElem? (i := 2694) (by decide +kernel)) (by decide +kernel))
theorem qi_X12_contentOf : Cond.instanceMethod mX12_contentOf.1 ∈ gtb := (gtb_in (List.mem_of_getElem? (i := 2693) (by decide +kernel)) (by decide +kernel))
theorem qs_X12_contentOf : Cond.selects mX12_contentOf.1.cls mX12_contentOf.1 mX12_contentOf.1 ∈ gtb := (gtb_sel (q := (⟨"SheetBranchesModel", "contentOf", "(III)I"⟩, 105)) (List.mem_of_getElem? (i := 230) (by decide +kernel)) (by decide +kernel))
theorem qd_X12_contentOf : dsc mX12_contentOf.1 3 := ⟨by decide +kernel, by decide +kernel, by decide +kernel⟩
def mX12_isCell : MI := (yX12_isCell, cX12_isCell, 4, (some .boolean))
theorem qc_X12_isCell : Cond.code mX12_isCell.1 mX12_isCell.2.1 mX12_isCell.2.2.1 mX12_isCell.2.2.2 ∈ gtb := (gtb_in (List.mem_of_getElem? (i := 2000) (by decide +kernel)) (by decide +kernel))
theorem qi_X12_isCell : Cond.instanceMethod mX12_isCell.1 ∈ gtb := (gtb_in (List.mem_of_getElem? (i := 1999) (by decide +kernel)) (by decide +kernel))
theorem qs_X12_isCell : Cond.selects mX12_isCell.1.cls mX12_isCell.1 mX12_isCell.1 ∈ gtb := (gtb_sel (q := (⟨"SheetBranchesModel", "isCell", "(III)Z"⟩, 105)) (List.mem_of_getElem? (i := 99) (by decide +kernel)) (by decide +kernel))
theorem qd_X12_isCell : dsc mX12_isCell.1 3 := ⟨by decide +kernel, by decide +kernel, by decide +kernel⟩
def mX12_cellAt : MI := (yX12_cellAt, cX12_cellAt, 4, (some .int))
theorem qc_X12_cellAt : Cond.code mX12_cellAt.1 mX12_cellAt.2.1 mX12_cellAt.2.2.1 mX12_cellAt.2.2.2 ∈ gtb := (gtb_in (List.mem_of_getElem? (i := 2466) (by decide +kernel)) (by decide +kernel))
theorem qi_X12_cellAt : Cond.instanceMethod mX12_cellAt.1 ∈ gtb := (gtb_in (List.mem_of_getElem? (i := 2465) (by decide +kernel)) (by decide +kernel))
theorem qs_X12_cellAt : Cond.selects mX12_cellAt.1.cls mX12_cellAt.1 mX12_cellAt.1 ∈ gtb := (gtb_sel (q := (⟨"SheetBranchesModel", "cellAt", "(III)I"⟩, 105)) (List.mem_of_getElem? (i := 192) (by decide +kernel)) (by decide +kernel))
theorem qd_X12_cellAt : dsc mX12_cellAt.1 3 := ⟨by decide +kernel, by decide +kernel, by decide +kernel⟩
def mX12_setCell : MI := (yX12_setCell, cX12_setCell, 4, none)
theorem qc_X12_setCell : Cond.code mX12_setCell.1 mX12_setCell.2.1 mX12_setCell.2.2.1 mX12_setCell.2.2.2 ∈ gtb := (gtb_in (List.mem_of_getElem? (i := 2208) (by decide +kernel)) (by decide +kernel))
theorem qi_X12_setCell : Cond.instanceMethod mX12_setCell.1 ∈ gtb := (gtb_in (List.mem_of_getElem? (i := 2207) (by decide +kernel)) (by decide +kernel))
theorem qs_X12_setCell : Cond.selects mX12_setCell.1.cls mX12_setCell.1 mX12_setCell.1 ∈ gtb := (gtb_sel (q := (⟨"SheetBranchesModel", "setCell", "(III)V"⟩, 105)) (List.mem_of_getElem? (i := 139) (by decide +kernel)) (by decide +kernel))
theorem qd_X12_setCell : dsc mX12_setCell.1 3 := ⟨by decide +kernel, by decide +kernel, by decide +kernel⟩
def mX12_stepAt : MI := (yX12_stepAt, cX12_stepAt, 2, (some .int))
theorem qc_X12_stepAt : Cond.code mX12_stepAt.1 mX12_stepAt.2.1 mX12_stepAt.2.2.1 mX12_stepAt.2.2.2 ∈ gtb := (gtb_in (List.mem_of_getElem? (i := 1977) (by decide +kernel)) (by decide +kernel))
theorem qi_X12_stepAt : Cond.instanceMethod mX12_stepAt.1 ∈ gtb := (gtb_in (List.mem_of_getElem? (i := 1976) (by decide +kernel)) (by decide +kernel))
theorem qs_X12_stepAt : Cond.selects mX12_stepAt.1.cls mX12_stepAt.1 mX12_stepAt.1 ∈ gtb := (gtb_sel (q := (⟨"SheetBranchesModel", "stepAt", "(I)I"⟩, 105)) (List.mem_of_getElem? (i := 98) (by decide +kernel)) (by decide +kernel))
theorem qd_X12_stepAt : dsc mX12_stepAt.1 1 := ⟨by decide +kernel, by decide +kernel, by decide +kernel⟩
def mX12_step : MI := (yX12_step, cX12_step, 2, (some .int))
theorem qc_X12_step : Cond.code mX12_step.1 mX12_step.2.1 mX12_step.2.2.1 mX12_step.2.2.2 ∈ gtb := (gtb_in (List.mem_of_getElem? (i := 2204) (by decide +kernel)) (by decide +kernel))
theorem qi_X12_step : Cond.instanceMethod mX12_step.1 ∈ gtb := (gtb_in (List.mem_of_getElem? (i := 2203) (by decide +kernel)) (by decide +kernel))
theorem qs_X12_step : Cond.selects mX12_step.1.cls mX12_step.1 mX12_step.1 ∈ gtb := (gtb_sel (q := (⟨"SheetBranchesModel", "step", "()I"⟩, 105)) (List.mem_of_getElem? (i := 138) (by decide +kernel)) (by decide +kernel))
theorem qd_X12_step : dsc mX12_step.1 0 := ⟨by decide +kernel, by decide +kernel, by decide +kernel⟩
def mX12_forgetSteps : MI := (yX12_forgetSteps, cX12_forgetSteps, 1, none)
theorem qc_X12_forgetSteps : Cond.code mX12_forgetSteps.1 mX12_forgetSteps.2.1 mX12_forgetSteps.2.2.1 mX12_forgetSteps.2.2.2 ∈ gtb := (gtb_in (List.mem_of_getElem? (i := 2645) (by decide +kernel)) (by decide +kernel))
theorem qi_X12_forgetSteps : Cond.instanceMethod mX12_forgetSteps.1 ∈ gtb := (gtb_in (List.mem_of_getElem? (i := 2644) (by decide +kernel)) (by decide +kernel))
theorem qs_X12_forgetSteps : Cond.selects mX12_forgetSteps.1.cls mX12_forgetSteps.1 mX12_forgetSteps.1 ∈ gtb := (gtb_sel (q := (⟨"SheetBranchesModel", "forgetSteps", "()V"⟩, 105)) (List.mem_of_getElem? (i := 221) (by decide +kernel)) (by decide +kernel))
theorem qd_X12_forgetSteps : dsc mX12_forgetSteps.1 0 := ⟨by decide +kernel, by decide +kernel, by decide +kernel⟩
def mX12_copySheet : MI := (yX12_copySheet, cX12_copySheet, 4, none)
theorem qc_X12_copySheet : Cond.code mX12_copySheet.1 mX12_copySheet.2.1 mX12_copySheet.2.2.1 mX12_copySheet.2.2.2 ∈ gtb := (gtb_in (List.mem_of_getElem? (i := 1644) (by decide +kernel)) (by decide +kernel))
theorem qi_X12_copySheet : Cond.instanceMethod mX12_copySheet.1 ∈ gtb := (gtb_in (List.mem_of_getElem? (i := 1643) (by decide +kernel)) (by decide +kernel))
theorem qs_X12_copySheet : Cond.selects mX12_copySheet.1.cls mX12_copySheet.1 mX12_copySheet.1 ∈ gtb := (gtb_sel (q := (⟨"SheetBranchesModel", "copySheet", "(II)V"⟩, 105)) (List.mem_of_getElem? (i := 96) (by decide +kernel)) (by decide +kernel))
theorem qd_X12_copySheet : dsc mX12_copySheet.1 2 := ⟨by decide +kernel, by decide +kernel, by decide +kernel⟩
def mX12_isFormula : MI := (yX12_isFormula, cX12_isFormula, 1, (some .boolean))
theorem qc_X12_isFormula : Cond.code mX12_isFormula.1 mX12_isFormula.2.1 mX12_isFormula.2.2.1 mX12_isFormula.2.2.2 ∈ gtb := (gtb_in (List.mem_of_getElem? (i := 2238) (by decide +kernel)) (by decide +kernel))
theorem qt_X12_isFormula : Cond.static mX12_isFormula.1 ∈ gtb := (gtb_in (List.mem_of_getElem? (i := 2237) (by decide +kernel)) (by decide +kernel))
theorem qd_X12_isFormula : dsc mX12_isFormula.1 1 := ⟨by decide +kernel, by decide +kernel, by decide +kernel⟩
def mX12_least : MI := (yX12_least, cX12_least, 2, (some .int))
theorem qc_X12_least : Cond.code mX12_least.1 mX12_least.2.1 mX12_least.2.2.1 mX12_least.2.2.2 ∈ gtb := (gtb_in (List.mem_of_getElem? (i := 2269) (by decide +kernel)) (by decide +kernel))
theorem qt_X12_least : Cond.static mX12_least.1 ∈ gtb := (gtb_in (List.mem_of_getElem? (i := 2268) (by decide +kernel)) (by decide +kernel))
theorem qd_X12_least : dsc mX12_least.1 2 := ⟨by decide +kernel, by decide +kernel, by decide +kernel⟩
def mX12_most : MI := (yX12_most, cX12_most, 2, (some .int))
theorem qc_X12_most : Cond.code mX12_most.1 mX12_most.2.1 mX12_most.2.2.1 mX12_most.2.2.2 ∈ gtb := (gtb_in (List.mem_of_getElem? (i := 2272) (by decide +kernel)) (by decide +kernel))
theorem qt_X12_most : Cond.static mX12_most.1 ∈ gtb := (gtb_in (List.mem_of_getElem? (i := 2271) (by decide +kernel)) (by decide +kernel))
theorem qd_X12_most : dsc mX12_most.1 2 := ⟨by decide +kernel, by decide +kernel, by decide +kernel⟩
def mX12_isSheet : MI := (yX12_isSheet, cX12_isSheet, 2, (some .boolean))
theorem qc_X12_isSheet : Cond.code mX12_isSheet.1 mX12_isSheet.2.1 mX12_isSheet.2.2.1 mX12_isSheet.2.2.2 ∈ gtb := (gtb_in (List.mem_of_getElem? (i := 2224) (by decide +kernel)) (by decide +kernel))
theorem qi_X12_isSheet : Cond.instanceMethod mX12_isSheet.1 ∈ gtb := (gtb_in (List.mem_of_getElem? (i := 2223) (by decide +kernel)) (by decide +kernel))
theorem qs_X12_isSheet : Cond.selects mX12_isSheet.1.cls mX12_isSheet.1 mX12_isSheet.1 ∈ gtb := (gtb_sel (q := (⟨"SheetBranchesModel", "isSheet", "(I)Z"⟩, 105)) (List.mem_of_getElem? (i := 141) (by decide +kernel)) (by decide +kernel))
theorem qd_X12_isSheet : dsc mX12_isSheet.1 1 := ⟨by decide +kernel, by decide +kernel, by decide +kernel⟩
def mX12_sheetAt : MI := (yX12_sheetAt, cX12_sheetAt, 1, (some .int))
theorem qc_X12_sheetAt : Cond.code mX12_sheetAt.1 mX12_sheetAt.2.1 mX12_sheetAt.2.2.1 mX12_sheetAt.2.2.2 ∈ gtb := (gtb_in (List.mem_of_getElem? (i := 2227) (by decide +kernel)) (by decide +kernel))
theorem qt_X12_sheetAt : Cond.static mX12_sheetAt.1 ∈ gtb := (gtb_in (List.mem_of_getElem? (i := 2226) (by decide +kernel)) (by decide +kernel))
theorem qd_X12_sheetAt : dsc mX12_sheetAt.1 1 := ⟨by decide +kernel, by decide +kernel, by decide +kernel⟩
def mX12_asked : MI := (yX12_asked, cX12_asked, 4, (some .int))
theorem qc_X12_asked : Cond.code mX12_asked.1 mX12_asked.2.1 mX12_asked.2.2.1 mX12_asked.2.2.2 ∈ gtb := (gtb_in (List.mem_of_getElem? (i := 2220) (by decide +kernel)) (by decide +kernel))
theorem qi_X12_asked : Cond.instanceMethod mX12_asked.1 ∈ gtb := (gtb_in (List.mem_of_getElem? (i := 2219) (by decide +kernel)) (by decide +kernel))
theorem qs_X12_asked : Cond.selects mX12_asked.1.cls mX12_asked.1 mX12_asked.1 ∈ gtb := (gtb_sel (q := (⟨"SheetBranchesModel", "asked", "(III)I"⟩, 105)) (List.mem_of_getElem? (i := 140) (by decide +kernel)) (by decide +kernel))
theorem qd_X12_asked : dsc mX12_asked.1 3 := ⟨by decide +kernel, by decide +kernel, by decide +kernel⟩
def mX12_head : MI := (yX12_head, cX12_head, 1, (some .int))
theorem qc_X12_head : Cond.code mX12_head.1 mX12_head.2.1 mX12_head.2.2.1 mX12_head.2.2.2 ∈ gtb := (gtb_in (List.mem_of_getElem? (i := 2609) (by decide +kernel)) (by decide +kernel))
theorem qi_X12_head : Cond.instanceMethod mX12_head.1 ∈ gtb := (gtb_in (List.mem_of_getElem? (i := 2608) (by decide +kernel)) (by decide +kernel))
theorem qs_X12_head : Cond.selects mX12_head.1.cls mX12_head.1 mX12_head.1 ∈ gtb := (gtb_sel (q := (⟨"SheetBranchesModel", "head", "()I"⟩, 105)) (List.mem_of_getElem? (i := 214) (by decide +kernel)) (by decide +kernel))
theorem qd_X12_head : dsc mX12_head.1 0 := ⟨by decide +kernel, by decide +kernel, by decide +kernel⟩
theorem dX12_in_0 : decode cX12_in 0 = .ok (.iload_n 0, 1) := by decide +kernel
theorem dX12_in_1 : decode cX12_in 1 = .ok (.iload_n 1, 1) := by decide +kernel
theorem dX12_in_2 : decode cX12_in 2 = .ok (.if_icmp .lt 12, 3) := by decide +kernel
theorem dX12_in_5 : decode cX12_in 5 = .ok (.iload_n 0, 1) := by decide +kernel
theorem dX12_in_6 : decode cX12_in 6 = .ok (.iload_n 2, 1) := by decide +kernel
theorem dX12_in_7 : decode cX12_in 7 = .ok (.if_icmp .gt 7, 3) := by decide +kernel
theorem dX12_in_10 : decode cX12_in 10 = .ok (.iconst 1, 1) := by decide +kernel
theorem dX12_in_11 : decode cX12_in 11 = .ok (.goto 4, 3) := by decide +kernel
theorem dX12_in_14 : decode cX12_in 14 = .ok (.iconst 0, 1) := by decide +kernel
theorem dX12_in_15 : decode cX12_in 15 = .ok (.ireturn, 1) := by decide +kernel
theorem dX12_thrown_0 : decode cX12_thrown 0 = .ok (.aload_n 0, 1) := by decide +kernel
theorem dX12_thrown_1 : decode cX12_thrown 1 = .ok (.getfield 202, 3) := by decide +kernel
theorem dX12_thrown_4 : decode cX12_thrown 4 = .ok (.ireturn, 1) := by decide +kernel
set_option maxRecDepth 20000 in
theorem fl_X12_202 : FL RX12 202 12 0 false := ⟨RX12, TX12, cl_12, by decide, (gtb_in (List.mem_of_getElem? (i := 1645) (by decide +kernel)) (by decide +kernel)), rfl⟩
theorem dX12_throwing_0 : decode cX12_throwing 0 = .ok (.aload_n 0, 1) := by decide +kernel
theorem dX12_throwing_1 : decode cX12_throwing 1 = .ok (.iload_n 1, 1) := by decide +kernel
theorem dX12_throwing_2 : decode cX12_throwing 2 = .ok (.putfield 202, 3) := by decide +kernel
theorem dX12_throwing_5 : decode cX12_throwing 5 = .ok (.iconst 0, 1) := by decide +kernel
theorem dX12_throwing_6 : decode cX12_throwing 6 = .ok (.ireturn, 1) := by decide +kernel
theorem dX12_linesOf_0 : decode cX12_linesOf 0 = .ok (.iload_n 2, 1) := by decide +kernel
theorem dX12_linesOf_1 : decode cX12_linesOf 1 = .ok (.ifCond .ne 12, 3) := by decide +kernel
theorem dX12_linesOf_4 : decode cX12_linesOf 4 = .ok (.aload_n 0, 1) := by decide +kernel
theorem dX12_linesOf_5 : decode cX12_linesOf 5 = .ok (.getfield 7, 3) := by decide +kernel
theorem dX12_linesOf_8 : decode cX12_linesOf 8 = .ok (.iload_n 1, 1) := by decide +kernel
theorem dX12_linesOf_9 : decode cX12_linesOf 9 = .ok (.iaload, 1) := by decide +kernel
theorem dX12_linesOf_10 : decode cX12_linesOf 10 = .ok (.goto 9, 3) := by decide +kernel
theorem dX12_linesOf_13 : decode cX12_linesOf 13 = .ok (.aload_n 0, 1) := by decide +kernel
theorem dX12_linesOf_14 : decode cX12_linesOf 14 = .ok (.getfield 13, 3) := by decide +kernel
theorem dX12_linesOf_17 : decode cX12_linesOf 17 = .ok (.iload_n 1, 1) := by decide +kernel
theorem dX12_linesOf_18 : decode cX12_linesOf 18 = .ok (.iaload, 1) := by decide +kernel
theorem dX12_linesOf_19 : decode cX12_linesOf 19 = .ok (.ireturn, 1) := by decide +kernel
set_option maxRecDepth 20000 in
theorem fl_X12_7 : FL RX12 7 12 1 true := ⟨RX12, TX12, cl_12, by decide, (gtb_in (List.mem_of_getElem? (i := 1646) (by decide +kernel)) (by decide +kernel)), rfl⟩
set_option maxRecDepth 20000 in
theorem fl_X12_13 : FL RX12 13 12 2 true := ⟨RX12, TX12, cl_12, by decide, (gtb_in (List.mem_of_getElem? (i := 1647) (by decide +kernel)) (by decide +kernel)), rfl⟩
theorem dX12_lineAt_0 : decode cX12_lineAt 0 = .ok (.iload_n 2, 1) := by decide +kernel
theorem dX12_lineAt_1 : decode cX12_lineAt 1 = .ok (.ifCond .ne 17, 3) := by decide +kernel
theorem dX12_lineAt_4 : decode cX12_lineAt 4 = .ok (.aload_n 0, 1) := by decide +kernel
theorem dX12_lineAt_5 : decode cX12_lineAt 5 = .ok (.getfield 16, 3) := by decide +kernel
theorem dX12_lineAt_8 : decode cX12_lineAt 8 = .ok (.bipush 32, 2) := by decide +kernel
theorem dX12_lineAt_10 : decode cX12_lineAt 10 = .ok (.iload_n 1, 1) := by decide +kernel
theorem dX12_lineAt_11 : decode cX12_lineAt 11 = .ok (.imul, 1) := by decide +kernel
theorem dX12_lineAt_12 : decode cX12_lineAt 12 = .ok (.iload_n 3, 1) := by decide +kernel
theorem dX12_lineAt_13 : decode cX12_lineAt 13 = .ok (.iadd, 1) := by decide +kernel
theorem dX12_lineAt_14 : decode cX12_lineAt 14 = .ok (.iaload, 1) := by decide +kernel
theorem dX12_lineAt_15 : decode cX12_lineAt 15 = .ok (.goto 14, 3) := by decide +kernel
theorem dX12_lineAt_18 : decode cX12_lineAt 18 = .ok (.aload_n 0, 1) := by decide +kernel
theorem dX12_lineAt_19 : decode cX12_lineAt 19 = .ok (.getfield 19, 3) := by decide +kernel
theorem dX12_lineAt_22 : decode cX12_lineAt 22 = .ok (.bipush 10, 2) := by decide +kernel
theorem dX12_lineAt_24 : decode cX12_lineAt 24 = .ok (.iload_n 1, 1) := by decide +kernel
theorem dX12_lineAt_25 : decode cX12_lineAt 25 = .ok (.imul, 1) := by decide +kernel
theorem dX12_lineAt_26 : decode cX12_lineAt 26 = .ok (.iload_n 3, 1) := by decide +kernel
theorem dX12_lineAt_27 : decode cX12_lineAt 27 = .ok (.iadd, 1) := by decide +kernel
theorem dX12_lineAt_28 : decode cX12_lineAt 28 = .ok (.iaload, 1) := by decide +kernel
theorem dX12_lineAt_29 : decode cX12_lineAt 29 = .ok (.ireturn, 1) := by decide +kernel
set_option maxRecDepth 20000 in
theorem fl_X12_16 : FL RX12 16 12 3 true := ⟨RX12, TX12, cl_12, by decide, (gtb_in (List.mem_of_getElem? (i := 1648) (by decide +kernel)) (by decide +kernel)), rfl⟩
set_option maxRecDepth 20000 in
theorem fl_X12_19 : FL RX12 19 12 4 true := ⟨RX12, TX12, cl_12, by decide, (gtb_in (List.mem_of_getElem? (i := 1649) (by decide +kernel)) (by decide +kernel)), rfl⟩
theorem dX12_placeOf_0 : decode cX12_placeOf 0 = .ok (.iconst 0, 1) := by decide +kernel
theorem dX12_placeOf_1 : decode cX12_placeOf 1 = .ok (.istore 4, 2) := by decide +kernel
theorem dX12_placeOf_3 : decode cX12_placeOf 3 = .ok (.iload 4, 2) := by decide +kernel
theorem dX12_placeOf_5 : decode cX12_placeOf 5 = .ok (.aload_n 0, 1) := by decide +kernel
theorem dX12_placeOf_6 : decode cX12_placeOf 6 = .ok (.iload_n 1, 1) := by decide +kernel
theorem dX12_placeOf_7 : decode cX12_placeOf 7 = .ok (.iload_n 2, 1) := by decide +kernel
theorem dX12_placeOf_8 : decode cX12_placeOf 8 = .ok (.invokevirtual 209, 3) := by decide +kernel
theorem dX12_placeOf_11 : decode cX12_placeOf 11 = .ok (.if_icmp .ge 24, 3) := by decide +kernel
theorem dX12_placeOf_14 : decode cX12_placeOf 14 = .ok (.aload_n 0, 1) := by decide +kernel
theorem dX12_placeOf_15 : decode cX12_placeOf 15 = .ok (.iload_n 1, 1) := by decide +kernel
theorem dX12_placeOf_16 : decode cX12_placeOf 16 = .ok (.iload_n 2, 1) := by decide +kernel
theorem dX12_placeOf_17 : decode cX12_placeOf 17 = .ok (.iload 4, 2) := by decide +kernel
theorem dX12_placeOf_19 : decode cX12_placeOf 19 = .ok (.invokevirtual 213, 3) := by decide +kernel
theorem dX12_placeOf_22 : decode cX12_placeOf 22 = .ok (.iload_n 3, 1) := by decide +kernel
theorem dX12_placeOf_23 : decode cX12_placeOf 23 = .ok (.if_icmp .ne 6, 3) := by decide +kernel
theorem dX12_placeOf_26 : decode cX12_placeOf 26 = .ok (.iload 4, 2) := by decide +kernel
theorem dX12_placeOf_28 : decode cX12_placeOf 28 = .ok (.ireturn, 1) := by decide +kernel
theorem dX12_placeOf_29 : decode cX12_placeOf 29 = .ok (.iinc 4 1, 3) := by decide +kernel
theorem dX12_placeOf_32 : decode cX12_placeOf 32 = .ok (.goto (-29), 3) := by decide +kernel
theorem dX12_placeOf_35 : decode cX12_placeOf 35 = .ok (.iconst (-1), 1) := by decide +kernel
theorem dX12_placeOf_36 : decode cX12_placeOf 36 = .ok (.ireturn, 1) := by decide +kernel
set_option maxRecDepth 20000 in
theorem vl_X12_209 : VL RX12 209 12 mX12_linesOf 2 := ⟨⟨qc_X12_linesOf, (gtb_in (List.mem_of_getElem? (i := 2255) (by decide +kernel)) (by decide +kernel)), qi_X12_linesOf, qs_X12_linesOf, zw_12⟩, ⟨_, _, rfl⟩, by decide, qd_X12_linesOf, by decide⟩
set_option maxRecDepth 20000 in
theorem vl_X12_213 : VL RX12 213 12 mX12_lineAt 3 := ⟨⟨qc_X12_lineAt, (gtb_in (List.mem_of_getElem? (i := 2158) (by decide +kernel)) (by decide +kernel)), qi_X12_lineAt, qs_X12_lineAt, zw_12⟩, ⟨_, _, rfl⟩, by decide, qd_X12_lineAt, by decide⟩
theorem dX12_contentOf_0 : decode cX12_contentOf 0 = .ok (.aload_n 0, 1) := by decide +kernel
theorem dX12_contentOf_1 : decode cX12_contentOf 1 = .ok (.iload_n 1, 1) := by decide +kernel
theorem dX12_contentOf_2 : decode cX12_contentOf 2 = .ok (.iconst 0, 1) := by decide +kernel
theorem dX12_contentOf_3 : decode cX12_contentOf 3 = .ok (.iload_n 2, 1) := by decide +kernel
theorem dX12_contentOf_4 : decode cX12_contentOf 4 = .ok (.invokevirtual 217, 3) := by decide +kernel
theorem dX12_contentOf_7 : decode cX12_contentOf 7 = .ok (.istore 4, 2) := by decide +kernel
theorem dX12_contentOf_9 : decode cX12_contentOf 9 = .ok (.aload_n 0, 1) := by decide +kernel
theorem dX12_contentOf_10 : decode cX12_contentOf 10 = .ok (.iload_n 1, 1) := by decide +kernel
theorem dX12_contentOf_11 : decode cX12_contentOf 11 = .ok (.iconst 1, 1) := by decide +kernel
theorem dX12_contentOf_12 : decode cX12_contentOf 12 = .ok (.iload_n 3, 1) := by decide +kernel
theorem dX12_contentOf_13 : decode cX12_contentOf 13 = .ok (.invokevirtual 217, 3) := by decide +kernel
theorem dX12_contentOf_16 : decode cX12_contentOf 16 = .ok (.istore 5, 2) := by decide +kernel
theorem dX12_contentOf_18 : decode cX12_contentOf 18 = .ok (.iload 4, 2) := by decide +kernel
theorem dX12_contentOf_20 : decode cX12_contentOf 20 = .ok (.ifCond .lt 8, 3) := by decide +kernel
theorem dX12_contentOf_23 : decode cX12_contentOf 23 = .ok (.iload 5, 2) := by decide +kernel
theorem dX12_contentOf_25 : decode cX12_contentOf 25 = .ok (.ifCond .ge 7, 3) := by decide +kernel
theorem dX12_contentOf_28 : decode cX12_contentOf 28 = .ok (.iconst (-1), 1) := by decide +kernel
theorem dX12_contentOf_29 : decode cX12_contentOf 29 = .ok (.goto 22, 3) := by decide +kernel
theorem dX12_contentOf_32 : decode cX12_contentOf 32 = .ok (.aload_n 0, 1) := by decide +kernel
theorem dX12_contentOf_33 : decode cX12_contentOf 33 = .ok (.getfield 23, 3) := by decide +kernel
theorem dX12_contentOf_36 : decode cX12_contentOf 36 = .ok (.sipush 320, 3) := by decide +kernel
theorem dX12_contentOf_39 : decode cX12_contentOf 39 = .ok (.iload_n 1, 1) := by decide +kernel
theorem dX12_contentOf_40 : decode cX12_contentOf 40 = .ok (.imul, 1) := by decide +kernel
theorem dX12_contentOf_41 : decode cX12_contentOf 41 = .ok (.bipush 10, 2) := by decide +kernel
theorem dX12_contentOf_43 : decode cX12_contentOf 43 = .ok (.iload 4, 2) := by decide +kernel
theorem dX12_contentOf_45 : decode cX12_contentOf 45 = .ok (.imul, 1) := by decide +kernel
theorem dX12_contentOf_46 : decode cX12_contentOf 46 = .ok (.iadd, 1) := by decide +kernel
theorem dX12_contentOf_47 : decode cX12_contentOf 47 = .ok (.iload 5, 2) := by decide +kernel
theorem dX12_contentOf_49 : decode cX12_contentOf 49 = .ok (.iadd, 1) := by decide +kernel
theorem dX12_contentOf_50 : decode cX12_contentOf 50 = .ok (.iaload, 1) := by decide +kernel
theorem dX12_contentOf_51 : decode cX12_contentOf 51 = .ok (.ireturn, 1) := by decide +kernel
set_option maxRecDepth 20000 in
theorem vl_X12_217 : VL RX12 217 12 mX12_placeOf 3 := ⟨⟨qc_X12_placeOf, (gtb_in (List.mem_of_getElem? (i := 2251) (by decide +kernel)) (by decide +kernel)), qi_X12_placeOf, qs_X12_placeOf, zw_12⟩, ⟨_, _, rfl⟩, by decide, qd_X12_placeOf, by decide⟩
set_option maxRecDepth 20000 in
theorem fl_X12_23 : FL RX12 23 12 5 true := ⟨RX12, TX12, cl_12, by decide, (gtb_in (List.mem_of_getElem? (i := 1650) (by decide +kernel)) (by decide +kernel)), rfl⟩
theorem dX12_isCell_0 : decode cX12_isCell 0 = .ok (.iload_n 2, 1) := by decide +kernel
theorem dX12_isCell_1 : decode cX12_isCell 1 = .ok (.iconst 1, 1) := by decide +kernel
theorem dX12_isCell_2 : decode cX12_isCell 2 = .ok (.aload_n 0, 1) := by decide +kernel
theorem dX12_isCell_3 : decode cX12_isCell 3 = .ok (.getfield 7, 3) := by decide +kernel
theorem dX12_isCell_6 : decode cX12_isCell 6 = .ok (.iload_n 1, 1) := by decide +kernel
theorem dX12_isCell_7 : decode cX12_isCell 7 = .ok (.iaload, 1) := by decide +kernel
theorem dX12_isCell_8 : decode cX12_isCell 8 = .ok (.invokestatic 220, 3) := by decide +kernel
theorem dX12_isCell_11 : decode cX12_isCell 11 = .ok (.ifCond .eq 21, 3) := by decide +kernel
theorem dX12_isCell_14 : decode cX12_isCell 14 = .ok (.iload_n 3, 1) := by decide +kernel
theorem dX12_isCell_15 : decode cX12_isCell 15 = .ok (.iconst 1, 1) := by decide +kernel
theorem dX12_isCell_16 : decode cX12_isCell 16 = .ok (.aload_n 0, 1) := by decide +kernel
theorem dX12_isCell_17 : decode cX12_isCell 17 = .ok (.getfield 13, 3) := by decide +kernel
theorem dX12_isCell_20 : decode cX12_isCell 20 = .ok (.iload_n 1, 1) := by decide +kernel
theorem dX12_isCell_21 : decode cX12_isCell 21 = .ok (.iaload, 1) := by decide +kernel
theorem dX12_isCell_22 : decode cX12_isCell 22 = .ok (.invokestatic 220, 3) := by decide +kernel
theorem dX12_isCell_25 : decode cX12_isCell 25 = .ok (.ifCond .eq 7, 3) := by decide +kernel
theorem dX12_isCell_28 : decode cX12_isCell 28 = .ok (.iconst 1, 1) := by decide +kernel
theorem dX12_isCell_29 : decode cX12_isCell 29 = .ok (.goto 4, 3) := by decide +kernel
theorem dX12_isCell_32 : decode cX12_isCell 32 = .ok (.iconst 0, 1) := by decide +kernel
theorem dX12_isCell_33 : decode cX12_isCell 33 = .ok (.ireturn, 1) := by decide +kernel
set_option maxRecDepth 20000 in
theorem sl_X12_220 : SL RX12 220 mX12_in 3 := ⟨⟨qc_X12_in, (gtb_in (List.mem_of_getElem? (i := 1990) (by decide +kernel)) (by decide +kernel)), qt_X12_in, zw_12⟩, qd_X12_in, by decide⟩
theorem dX12_cellAt_0 : decode cX12_cellAt 0 = .ok (.aload_n 0, 1) := by decide +kernel
theorem dX12_cellAt_1 : decode cX12_cellAt 1 = .ok (.getfield 23, 3) := by decide +kernel
theorem dX12_cellAt_4 : decode cX12_cellAt 4 = .ok (.sipush 320, 3) := by decide +kernel
theorem dX12_cellAt_7 : decode cX12_cellAt 7 = .ok (.iload_n 1, 1) := by decide +kernel
theorem dX12_cellAt_8 : decode cX12_cellAt 8 = .ok (.imul, 1) := by decide +kernel
theorem dX12_cellAt_9 : decode cX12_cellAt 9 = .ok (.bipush 10, 2) := by decide +kernel
theorem dX12_cellAt_11 : decode cX12_cellAt 11 = .ok (.iload_n 2, 1) := by decide +kernel
theorem dX12_cellAt_12 : decode cX12_cellAt 12 = .ok (.iconst 1, 1) := by decide +kernel
theorem dX12_cellAt_13 : decode cX12_cellAt 13 = .ok (.isub, 1) := by decide +kernel
theorem dX12_cellAt_14 : decode cX12_cellAt 14 = .ok (.imul, 1) := by decide +kernel
theorem dX12_cellAt_15 : decode cX12_cellAt 15 = .ok (.iadd, 1) := by decide +kernel
theorem dX12_cellAt_16 : decode cX12_cellAt 16 = .ok (.iload_n 3, 1) := by decide +kernel
theorem dX12_cellAt_17 : decode cX12_cellAt 17 = .ok (.iadd, 1) := by decide +kernel
theorem dX12_cellAt_18 : decode cX12_cellAt 18 = .ok (.iconst 1, 1) := by decide +kernel
theorem dX12_cellAt_19 : decode cX12_cellAt 19 = .ok (.isub, 1) := by decide +kernel
theorem dX12_cellAt_20 : decode cX12_cellAt 20 = .ok (.iaload, 1) := by decide +kernel
theorem dX12_cellAt_21 : decode cX12_cellAt 21 = .ok (.ireturn, 1) := by decide +kernel
theorem dX12_setCell_0 : decode cX12_setCell 0 = .ok (.aload_n 0, 1) := by decide +kernel
theorem dX12_setCell_1 : decode cX12_setCell 1 = .ok (.getfield 23, 3) := by decide +kernel
theorem dX12_setCell_4 : decode cX12_setCell 4 = .ok (.sipush 12800, 3) := by decide +kernel
theorem dX12_setCell_7 : decode cX12_setCell 7 = .ok (.bipush 10, 2) := by decide +kernel
theorem dX12_setCell_9 : decode cX12_setCell 9 = .ok (.iload_n 1, 1) := by decide +kernel
theorem dX12_setCell_10 : decode cX12_setCell 10 = .ok (.iconst 1, 1) := by decide +kernel
theorem dX12_setCell_11 : decode cX12_setCell 11 = .ok (.isub, 1) := by decide +kernel
theorem dX12_setCell_12 : decode cX12_setCell 12 = .ok (.imul, 1) := by decide +kernel
theorem dX12_setCell_13 : decode cX12_setCell 13 = .ok (.iadd, 1) := by decide +kernel
theorem dX12_setCell_14 : decode cX12_setCell 14 = .ok (.iload_n 2, 1) := by decide +kernel
theorem dX12_setCell_15 : decode cX12_setCell 15 = .ok (.iadd, 1) := by decide +kernel
theorem dX12_setCell_16 : decode cX12_setCell 16 = .ok (.iconst 1, 1) := by decide +kernel
theorem dX12_setCell_17 : decode cX12_setCell 17 = .ok (.isub, 1) := by decide +kernel
theorem dX12_setCell_18 : decode cX12_setCell 18 = .ok (.iload_n 3, 1) := by decide +kernel
theorem dX12_setCell_19 : decode cX12_setCell 19 = .ok (.iastore, 1) := by decide +kernel
theorem dX12_setCell_20 : decode cX12_setCell 20 = .ok (.return_, 1) := by decide +kernel
theorem dX12_stepAt_0 : decode cX12_stepAt 0 = .ok (.bipush 41, 2) := by decide +kernel
theorem dX12_stepAt_2 : decode cX12_stepAt 2 = .ok (.aload_n 0, 1) := by decide +kernel
theorem dX12_stepAt_3 : decode cX12_stepAt 3 = .ok (.getfield 224, 3) := by decide +kernel
theorem dX12_stepAt_6 : decode cX12_stepAt 6 = .ok (.iload_n 1, 1) := by decide +kernel
theorem dX12_stepAt_7 : decode cX12_stepAt 7 = .ok (.iadd, 1) := by decide +kernel
theorem dX12_stepAt_8 : decode cX12_stepAt 8 = .ok (.bipush 40, 2) := by decide +kernel
theorem dX12_stepAt_10 : decode cX12_stepAt 10 = .ok (.irem, 1) := by decide +kernel
theorem dX12_stepAt_11 : decode cX12_stepAt 11 = .ok (.iadd, 1) := by decide +kernel
theorem dX12_stepAt_12 : decode cX12_stepAt 12 = .ok (.ireturn, 1) := by decide +kernel
set_option maxRecDepth 20000 in
theorem fl_X12_224 : FL RX12 224 12 15 false := ⟨RX12, TX12, cl_12, by decide, (gtb_in (List.mem_of_getElem? (i := 1660) (by decide +kernel)) (by decide +kernel)), rfl⟩
theorem dX12_step_0 : decode cX12_step 0 = .ok (.aload_n 0, 1) := by decide +kernel
theorem dX12_step_1 : decode cX12_step 1 = .ok (.getfield 227, 3) := by decide +kernel
theorem dX12_step_4 : decode cX12_step 4 = .ok (.bipush 40, 2) := by decide +kernel
theorem dX12_step_6 : decode cX12_step 6 = .ok (.if_icmp .ne 19, 3) := by decide +kernel
theorem dX12_step_9 : decode cX12_step 9 = .ok (.aload_n 0, 1) := by decide +kernel
theorem dX12_step_10 : decode cX12_step 10 = .ok (.aload_n 0, 1) := by decide +kernel
theorem dX12_step_11 : decode cX12_step 11 = .ok (.getfield 224, 3) := by decide +kernel
theorem dX12_step_14 : decode cX12_step 14 = .ok (.iconst 1, 1) := by decide +kernel
theorem dX12_step_15 : decode cX12_step 15 = .ok (.iadd, 1) := by decide +kernel
theorem dX12_step_16 : decode cX12_step 16 = .ok (.bipush 40, 2) := by decide +kernel
theorem dX12_step_18 : decode cX12_step 18 = .ok (.irem, 1) := by decide +kernel
theorem dX12_step_19 : decode cX12_step 19 = .ok (.putfield 224, 3) := by decide +kernel
theorem dX12_step_22 : decode cX12_step 22 = .ok (.goto 13, 3) := by decide +kernel
theorem dX12_step_25 : decode cX12_step 25 = .ok (.aload_n 0, 1) := by decide +kernel
theorem dX12_step_26 : decode cX12_step 26 = .ok (.dup, 1) := by decide +kernel
theorem dX12_step_27 : decode cX12_step 27 = .ok (.getfield 227, 3) := by decide +kernel
theorem dX12_step_30 : decode cX12_step 30 = .ok (.iconst 1, 1) := by decide +kernel
theorem dX12_step_31 : decode cX12_step 31 = .ok (.iadd, 1) := by decide +kernel
theorem dX12_step_32 : decode cX12_step 32 = .ok (.putfield 227, 3) := by decide +kernel
theorem dX12_step_35 : decode cX12_step 35 = .ok (.aload_n 0, 1) := by decide +kernel
theorem dX12_step_36 : decode cX12_step 36 = .ok (.iconst 0, 1) := by decide +kernel
theorem dX12_step_37 : decode cX12_step 37 = .ok (.putfield 230, 3) := by decide +kernel
theorem dX12_step_40 : decode cX12_step 40 = .ok (.aload_n 0, 1) := by decide +kernel
theorem dX12_step_41 : decode cX12_step 41 = .ok (.aload_n 0, 1) := by decide +kernel
theorem dX12_step_42 : decode cX12_step 42 = .ok (.getfield 227, 3) := by decide +kernel
theorem dX12_step_45 : decode cX12_step 45 = .ok (.iconst 1, 1) := by decide +kernel
theorem dX12_step_46 : decode cX12_step 46 = .ok (.isub, 1) := by decide +kernel
theorem dX12_step_47 : decode cX12_step 47 = .ok (.invokevirtual 233, 3) := by decide +kernel
theorem dX12_step_50 : decode cX12_step 50 = .ok (.istore_n 1, 1) := by decide +kernel
theorem dX12_step_51 : decode cX12_step 51 = .ok (.aload_n 0, 1) := by decide +kernel
theorem dX12_step_52 : decode cX12_step 52 = .ok (.bipush 40, 2) := by decide +kernel
theorem dX12_step_54 : decode cX12_step 54 = .ok (.iload_n 1, 1) := by decide +kernel
theorem dX12_step_55 : decode cX12_step 55 = .ok (.invokevirtual 198, 3) := by decide +kernel
theorem dX12_step_58 : decode cX12_step 58 = .ok (.aload_n 0, 1) := by decide +kernel
theorem dX12_step_59 : decode cX12_step 59 = .ok (.iconst 0, 1) := by decide +kernel
theorem dX12_step_60 : decode cX12_step 60 = .ok (.putfield 205, 3) := by decide +kernel
theorem dX12_step_63 : decode cX12_step 63 = .ok (.iload_n 1, 1) := by decide +kernel
theorem dX12_step_64 : decode cX12_step 64 = .ok (.ireturn, 1) := by decide +kernel
set_option maxRecDepth 20000 in
theorem fl_X12_227 : FL RX12 227 12 16 false := ⟨RX12, TX12, cl_12, by decide, (gtb_in (List.mem_of_getElem? (i := 1661) (by decide +kernel)) (by decide +kernel)), rfl⟩
set_option maxRecDepth 20000 in
theorem fl_X12_230 : FL RX12 230 12 17 false := ⟨RX12, TX12, cl_12, by decide, (gtb_in (List.mem_of_getElem? (i := 1662) (by decide +kernel)) (by decide +kernel)), rfl⟩
set_option maxRecDepth 20000 in
theorem vl_X12_233 : VL RX12 233 12 mX12_stepAt 1 := ⟨⟨qc_X12_stepAt, (gtb_in (List.mem_of_getElem? (i := 1974) (by decide +kernel)) (by decide +kernel)), qi_X12_stepAt, qs_X12_stepAt, zw_12⟩, ⟨_, _, rfl⟩, by decide, qd_X12_stepAt, by decide⟩
set_option maxRecDepth 20000 in
theorem vl_X12_198 : VL RX12 198 12 mX12_copySheet 2 := ⟨⟨qc_X12_copySheet, (gtb_in (List.mem_of_getElem? (i := 1641) (by decide +kernel)) (by decide +kernel)), qi_X12_copySheet, qs_X12_copySheet, zw_12⟩, ⟨_, _, rfl⟩, by decide, qd_X12_copySheet, by decide⟩
set_option maxRecDepth 20000 in
theorem fl_X12_205 : FL RX12 205 12 65 false := ⟨RX12, TX12, cl_12, by decide, (gtb_in (List.mem_of_getElem? (i := 1710) (by decide +kernel)) (by decide +kernel)), rfl⟩
theorem dX12_forgetSteps_0 : decode cX12_forgetSteps 0 = .ok (.aload_n 0, 1) := by decide +kernel
theorem dX12_forgetSteps_1 : decode cX12_forgetSteps 1 = .ok (.iconst 0, 1) := by decide +kernel
theorem dX12_forgetSteps_2 : decode cX12_forgetSteps 2 = .ok (.putfield 227, 3) := by decide +kernel
theorem dX12_forgetSteps_5 : decode cX12_forgetSteps 5 = .ok (.aload_n 0, 1) := by decide +kernel
theorem dX12_forgetSteps_6 : decode cX12_forgetSteps 6 = .ok (.iconst 0, 1) := by decide +kernel
theorem dX12_forgetSteps_7 : decode cX12_forgetSteps 7 = .ok (.putfield 230, 3) := by decide +kernel
theorem dX12_forgetSteps_10 : decode cX12_forgetSteps 10 = .ok (.return_, 1) := by decide +kernel
theorem dX12_copySheet_0 : decode cX12_copySheet 0 = .ok (.aload_n 0, 1) := by decide +kernel
theorem dX12_copySheet_1 : decode cX12_copySheet 1 = .ok (.getfield 7, 3) := by decide +kernel
theorem dX12_copySheet_4 : decode cX12_copySheet 4 = .ok (.iload_n 2, 1) := by decide +kernel
theorem dX12_copySheet_5 : decode cX12_copySheet 5 = .ok (.aload_n 0, 1) := by decide +kernel
theorem dX12_copySheet_6 : decode cX12_copySheet 6 = .ok (.getfield 7, 3) := by decide +kernel
theorem dX12_copySheet_9 : decode cX12_copySheet 9 = .ok (.iload_n 1, 1) := by decide +kernel
theorem dX12_copySheet_10 : decode cX12_copySheet 10 = .ok (.iaload, 1) := by decide +kernel
theorem dX12_copySheet_11 : decode cX12_copySheet 11 = .ok (.iastore, 1) := by decide +kernel
theorem dX12_copySheet_12 : decode cX12_copySheet 12 = .ok (.aload_n 0, 1) := by decide +kernel
theorem dX12_copySheet_13 : decode cX12_copySheet 13 = .ok (.getfield 13, 3) := by decide +kernel
theorem dX12_copySheet_16 : decode cX12_copySheet 16 = .ok (.iload_n 2, 1) := by decide +kernel
theorem dX12_copySheet_17 : decode cX12_copySheet 17 = .ok (.aload_n 0, 1) := by decide +kernel
theorem dX12_copySheet_18 : decode cX12_copySheet 18 = .ok (.getfield 13, 3) := by decide +kernel
theorem dX12_copySheet_21 : decode cX12_copySheet 21 = .ok (.iload_n 1, 1) := by decide +kernel
theorem dX12_copySheet_22 : decode cX12_copySheet 22 = .ok (.iaload, 1) := by decide +kernel
theorem dX12_copySheet_23 : decode cX12_copySheet 23 = .ok (.iastore, 1) := by decide +kernel
theorem dX12_copySheet_24 : decode cX12_copySheet 24 = .ok (.iconst 0, 1) := by decide +kernel
theorem dX12_copySheet_25 : decode cX12_copySheet 25 = .ok (.istore_n 3, 1) := by decide +kernel
theorem dX12_copySheet_26 : decode cX12_copySheet 26 = .ok (.iload_n 3, 1) := by decide +kernel
theorem dX12_copySheet_27 : decode cX12_copySheet 27 = .ok (.bipush 32, 2) := by decide +kernel
theorem dX12_copySheet_29 : decode cX12_copySheet 29 = .ok (.if_icmp .ge 31, 3) := by decide +kernel
theorem dX12_copySheet_32 : decode cX12_copySheet 32 = .ok (.aload_n 0, 1) := by decide +kernel
theorem dX12_copySheet_33 : decode cX12_copySheet 33 = .ok (.getfield 16, 3) := by decide +kernel
theorem dX12_copySheet_36 : decode cX12_copySheet 36 = .ok (.bipush 32, 2) := by decide +kernel
theorem dX12_copySheet_38 : decode cX12_copySheet 38 = .ok (.iload_n 2, 1) := by decide +kernel
theorem dX12_copySheet_39 : decode cX12_copySheet 39 = .ok (.imul, 1) := by decide +kernel
theorem dX12_copySheet_40 : decode cX12_copySheet 40 = .ok (.iload_n 3, 1) := by decide +kernel
theorem dX12_copySheet_41 : decode cX12_copySheet 41 = .ok (.iadd, 1) := by decide +kernel
theorem dX12_copySheet_42 : decode cX12_copySheet 42 = .ok (.aload_n 0, 1) := by decide +kernel
theorem dX12_copySheet_43 : decode cX12_copySheet 43 = .ok (.getfield 16, 3) := by decide +kernel
theorem dX12_copySheet_46 : decode cX12_copySheet 46 = .ok (.bipush 32, 2) := by decide +kernel
theorem dX12_copySheet_48 : decode cX12_copySheet 48 = .ok (.iload_n 1, 1) := by decide +kernel
theorem dX12_copySheet_49 : decode cX12_copySheet 49 = .ok (.imul, 1) := by decide +kernel
theorem dX12_copySheet_50 : decode cX12_copySheet 50 = .ok (.iload_n 3, 1) := by decide +kernel
theorem dX12_copySheet_51 : decode cX12_copySheet 51 = .ok (.iadd, 1) := by decide +kernel
theorem dX12_copySheet_52 : decode cX12_copySheet 52 = .ok (.iaload, 1) := by decide +kernel
theorem dX12_copySheet_53 : decode cX12_copySheet 53 = .ok (.iastore, 1) := by decide +kernel
theorem dX12_copySheet_54 : decode cX12_copySheet 54 = .ok (.iinc 3 1, 3) := by decide +kernel
theorem dX12_copySheet_57 : decode cX12_copySheet 57 = .ok (.goto (-31), 3) := by decide +kernel
theorem dX12_copySheet_60 : decode cX12_copySheet 60 = .ok (.iconst 0, 1) := by decide +kernel
theorem dX12_copySheet_61 : decode cX12_copySheet 61 = .ok (.istore_n 3, 1) := by decide +kernel
theorem dX12_copySheet_62 : decode cX12_copySheet 62 = .ok (.iload_n 3, 1) := by decide +kernel
theorem dX12_copySheet_63 : decode cX12_copySheet 63 = .ok (.bipush 10, 2) := by decide +kernel
theorem dX12_copySheet_65 : decode cX12_copySheet 65 = .ok (.if_icmp .ge 31, 3) := by decide +kernel
theorem dX12_copySheet_68 : decode cX12_copySheet 68 = .ok (.aload_n 0, 1) := by decide +kernel
theorem dX12_copySheet_69 : decode cX12_copySheet 69 = .ok (.getfield 19, 3) := by decide +kernel
theorem dX12_copySheet_72 : decode cX12_copySheet 72 = .ok (.bipush 10, 2) := by decide +kernel
theorem dX12_copySheet_74 : decode cX12_copySheet 74 = .ok (.iload_n 2, 1) := by decide +kernel
theorem dX12_copySheet_75 : decode cX12_copySheet 75 = .ok (.imul, 1) := by decide +kernel
theorem dX12_copySheet_76 : decode cX12_copySheet 76 = .ok (.iload_n 3, 1) := by decide +kernel
theorem dX12_copySheet_77 : decode cX12_copySheet 77 = .ok (.iadd, 1) := by decide +kernel
theorem dX12_copySheet_78 : decode cX12_copySheet 78 = .ok (.aload_n 0, 1) := by decide +kernel
theorem dX12_copySheet_79 : decode cX12_copySheet 79 = .ok (.getfield 19, 3) := by decide +kernel
theorem dX12_copySheet_82 : decode cX12_copySheet 82 = .ok (.bipush 10, 2) := by decide +kernel
theorem dX12_copySheet_84 : decode cX12_copySheet 84 = .ok (.iload_n 1, 1) := by decide +kernel
theorem dX12_copySheet_85 : decode cX12_copySheet 85 = .ok (.imul, 1) := by decide +kernel
theorem dX12_copySheet_86 : decode cX12_copySheet 86 = .ok (.iload_n 3, 1) := by decide +kernel
theorem dX12_copySheet_87 : decode cX12_copySheet 87 = .ok (.iadd, 1) := by decide +kernel
theorem dX12_copySheet_88 : decode cX12_copySheet 88 = .ok (.iaload, 1) := by decide +kernel
theorem dX12_copySheet_89 : decode cX12_copySheet 89 = .ok (.iastore, 1) := by decide +kernel
theorem dX12_copySheet_90 : decode cX12_copySheet 90 = .ok (.iinc 3 1, 3) := by decide +kernel
theorem dX12_copySheet_93 : decode cX12_copySheet 93 = .ok (.goto (-31), 3) := by decide +kernel
theorem dX12_copySheet_96 : decode cX12_copySheet 96 = .ok (.iconst 0, 1) := by decide +kernel
theorem dX12_copySheet_97 : decode cX12_copySheet 97 = .ok (.istore_n 3, 1) := by decide +kernel
theorem dX12_copySheet_98 : decode cX12_copySheet 98 = .ok (.iload_n 3, 1) := by decide +kernel
theorem dX12_copySheet_99 : decode cX12_copySheet 99 = .ok (.sipush 320, 3) := by decide +kernel
theorem dX12_copySheet_102 : decode cX12_copySheet 102 = .ok (.if_icmp .ge 33, 3) := by decide +kernel
theorem dX12_copySheet_105 : decode cX12_copySheet 105 = .ok (.aload_n 0, 1) := by decide +kernel
theorem dX12_copySheet_106 : decode cX12_copySheet 106 = .ok (.getfield 23, 3) := by decide +kernel
theorem dX12_copySheet_109 : decode cX12_copySheet 109 = .ok (.sipush 320, 3) := by decide +kernel
theorem dX12_copySheet_112 : decode cX12_copySheet 112 = .ok (.iload_n 2, 1) := by decide +kernel
theorem dX12_copySheet_113 : decode cX12_copySheet 113 = .ok (.imul, 1) := by decide +kernel
theorem dX12_copySheet_114 : decode cX12_copySheet 114 = .ok (.iload_n 3, 1) := by decide +kernel
theorem dX12_copySheet_115 : decode cX12_copySheet 115 = .ok (.iadd, 1) := by decide +kernel
theorem dX12_copySheet_116 : decode cX12_copySheet 116 = .ok (.aload_n 0, 1) := by decide +kernel
theorem dX12_copySheet_117 : decode cX12_copySheet 117 = .ok (.getfield 23, 3) := by decide +kernel
theorem dX12_copySheet_120 : decode cX12_copySheet 120 = .ok (.sipush 320, 3) := by decide +kernel
theorem dX12_copySheet_123 : decode cX12_copySheet 123 = .ok (.iload_n 1, 1) := by decide +kernel
theorem dX12_copySheet_124 : decode cX12_copySheet 124 = .ok (.imul, 1) := by decide +kernel
theorem dX12_copySheet_125 : decode cX12_copySheet 125 = .ok (.iload_n 3, 1) := by decide +kernel
theorem dX12_copySheet_126 : decode cX12_copySheet 126 = .ok (.iadd, 1) := by decide +kernel
theorem dX12_copySheet_127 : decode cX12_copySheet 127 = .ok (.iaload, 1) := by decide +kernel
theorem dX12_copySheet_128 : decode cX12_copySheet 128 = .ok (.iastore, 1) := by decide +kernel
theorem dX12_copySheet_129 : decode cX12_copySheet 129 = .ok (.iinc 3 1, 3) := by decide +kernel
theorem dX12_copySheet_132 : decode cX12_copySheet 132 = .ok (.goto (-34), 3) := by decide +kernel
theorem dX12_copySheet_135 : decode cX12_copySheet 135 = .ok (.iload_n 2, 1) := by decide +kernel
theorem dX12_copySheet_136 : decode cX12_copySheet 136 = .ok (.bipush 40, 2) := by decide +kernel
theorem dX12_copySheet_138 : decode cX12_copySheet 138 = .ok (.if_icmp .ne 8, 3) := by decide +kernel
theorem dX12_copySheet_141 : decode cX12_copySheet 141 = .ok (.aload_n 0, 1) := by decide +kernel
theorem dX12_copySheet_142 : decode cX12_copySheet 142 = .ok (.iconst 0, 1) := by decide +kernel
theorem dX12_copySheet_143 : decode cX12_copySheet 143 = .ok (.putfield 205, 3) := by decide +kernel
theorem dX12_copySheet_146 : decode cX12_copySheet 146 = .ok (.return_, 1) := by decide +kernel
theorem dX12_isFormula_0 : decode cX12_isFormula 0 = .ok (.iload_n 0, 1) := by decide +kernel
theorem dX12_isFormula_1 : decode cX12_isFormula 1 = .ok (.ifCond .le 13, 3) := by decide +kernel
theorem dX12_isFormula_4 : decode cX12_isFormula 4 = .ok (.iload_n 0, 1) := by decide +kernel
theorem dX12_isFormula_5 : decode cX12_isFormula 5 = .ok (.ldc 240, 2) := by decide +kernel
theorem dX12_isFormula_7 : decode cX12_isFormula 7 = .ok (.if_icmp .ge 7, 3) := by decide +kernel
theorem dX12_isFormula_10 : decode cX12_isFormula 10 = .ok (.iconst 1, 1) := by decide +kernel
theorem dX12_isFormula_11 : decode cX12_isFormula 11 = .ok (.goto 4, 3) := by decide +kernel
theorem dX12_isFormula_14 : decode cX12_isFormula 14 = .ok (.iconst 0, 1) := by decide +kernel
theorem dX12_isFormula_15 : decode cX12_isFormula 15 = .ok (.ireturn, 1) := by decide +kernel
set_option maxRecDepth 20000 in
theorem kl_X12_240 : Cond.constant RX12 240 (100000) ∈ gtb := (gtb_in (List.mem_of_getElem? (i := 2199) (by decide +kernel)) (by decide +kernel))
theorem dX12_least_0 : decode cX12_least 0 = .ok (.iload_n 0, 1) := by decide +kernel
theorem dX12_least_1 : decode cX12_least 1 = .ok (.iload_n 1, 1) := by decide +kernel
theorem dX12_least_2 : decode cX12_least 2 = .ok (.if_icmp .ge 7, 3) := by decide +kernel
theorem dX12_least_5 : decode cX12_least 5 = .ok (.iload_n 0, 1) := by decide +kernel
theorem dX12_least_6 : decode cX12_least 6 = .ok (.goto 4, 3) := by decide +kernel
theorem dX12_least_9 : decode cX12_least 9 = .ok (.iload_n 1, 1) := by decide +kernel
theorem dX12_least_10 : decode cX12_least 10 = .ok (.ireturn, 1) := by decide +kernel
theorem dX12_most_0 : decode cX12_most 0 = .ok (.iload_n 0, 1) := by decide +kernel
theorem dX12_most_1 : decode cX12_most 1 = .ok (.iload_n 1, 1) := by decide +kernel
theorem dX12_most_2 : decode cX12_most 2 = .ok (.if_icmp .le 7, 3) := by decide +kernel
theorem dX12_most_5 : decode cX12_most 5 = .ok (.iload_n 0, 1) := by decide +kernel
theorem dX12_most_6 : decode cX12_most 6 = .ok (.goto 4, 3) := by decide +kernel
theorem dX12_most_9 : decode cX12_most 9 = .ok (.iload_n 1, 1) := by decide +kernel
theorem dX12_most_10 : decode cX12_most 10 = .ok (.ireturn, 1) := by decide +kernel
theorem dX12_isSheet_0 : decode cX12_isSheet 0 = .ok (.iload_n 1, 1) := by decide +kernel
theorem dX12_isSheet_1 : decode cX12_isSheet 1 = .ok (.iconst (-1), 1) := by decide +kernel
theorem dX12_isSheet_2 : decode cX12_isSheet 2 = .ok (.aload_n 0, 1) := by decide +kernel
theorem dX12_isSheet_3 : decode cX12_isSheet 3 = .ok (.getfield 33, 3) := by decide +kernel
theorem dX12_isSheet_6 : decode cX12_isSheet 6 = .ok (.iconst 1, 1) := by decide +kernel
theorem dX12_isSheet_7 : decode cX12_isSheet 7 = .ok (.isub, 1) := by decide +kernel
theorem dX12_isSheet_8 : decode cX12_isSheet 8 = .ok (.invokestatic 220, 3) := by decide +kernel
theorem dX12_isSheet_11 : decode cX12_isSheet 11 = .ok (.ireturn, 1) := by decide +kernel
set_option maxRecDepth 20000 in
theorem fl_X12_33 : FL RX12 33 12 8 false := ⟨RX12, TX12, cl_12, by decide, (gtb_in (List.mem_of_getElem? (i := 1653) (by decide +kernel)) (by decide +kernel)), rfl⟩
theorem dX12_sheetAt_0 : decode cX12_sheetAt 0 = .ok (.iload_n 0, 1) := by decide +kernel
theorem dX12_sheetAt_1 : decode cX12_sheetAt 1 = .ok (.ifCond .ge 8, 3) := by decide +kernel
theorem dX12_sheetAt_4 : decode cX12_sheetAt 4 = .ok (.bipush 40, 2) := by decide +kernel
theorem dX12_sheetAt_6 : decode cX12_sheetAt 6 = .ok (.goto 4, 3) := by decide +kernel
theorem dX12_sheetAt_9 : decode cX12_sheetAt 9 = .ok (.iload_n 0, 1) := by decide +kernel
theorem dX12_sheetAt_10 : decode cX12_sheetAt 10 = .ok (.ireturn, 1) := by decide +kernel
theorem dX12_asked_0 : decode cX12_asked 0 = .ok (.aload_n 0, 1) := by decide +kernel
theorem dX12_asked_1 : decode cX12_asked 1 = .ok (.iload_n 1, 1) := by decide +kernel
theorem dX12_asked_2 : decode cX12_asked 2 = .ok (.invokevirtual 734, 3) := by decide +kernel
theorem dX12_asked_5 : decode cX12_asked 5 = .ok (.ifCond .eq 16, 3) := by decide +kernel
theorem dX12_asked_8 : decode cX12_asked 8 = .ok (.aload_n 0, 1) := by decide +kernel
theorem dX12_asked_9 : decode cX12_asked 9 = .ok (.iload_n 1, 1) := by decide +kernel
theorem dX12_asked_10 : decode cX12_asked 10 = .ok (.invokestatic 737, 3) := by decide +kernel
theorem dX12_asked_13 : decode cX12_asked 13 = .ok (.iload_n 2, 1) := by decide +kernel
theorem dX12_asked_14 : decode cX12_asked 14 = .ok (.iload_n 3, 1) := by decide +kernel
theorem dX12_asked_15 : decode cX12_asked 15 = .ok (.invokevirtual 321, 3) := by decide +kernel
theorem dX12_asked_18 : decode cX12_asked 18 = .ok (.ifCond .ne 5, 3) := by decide +kernel
theorem dX12_asked_21 : decode cX12_asked 21 = .ok (.iconst (-1), 1) := by decide +kernel
theorem dX12_asked_22 : decode cX12_asked 22 = .ok (.ireturn, 1) := by decide +kernel
theorem dX12_asked_23 : decode cX12_asked 23 = .ok (.sipush 320, 3) := by decide +kernel
theorem dX12_asked_26 : decode cX12_asked 26 = .ok (.iload_n 1, 1) := by decide +kernel
theorem dX12_asked_27 : decode cX12_asked 27 = .ok (.invokestatic 737, 3) := by decide +kernel
theorem dX12_asked_30 : decode cX12_asked 30 = .ok (.imul, 1) := by decide +kernel
theorem dX12_asked_31 : decode cX12_asked 31 = .ok (.bipush 10, 2) := by decide +kernel
theorem dX12_asked_33 : decode cX12_asked 33 = .ok (.iload_n 2, 1) := by decide +kernel
theorem dX12_asked_34 : decode cX12_asked 34 = .ok (.iconst 1, 1) := by decide +kernel
theorem dX12_asked_35 : decode cX12_asked 35 = .ok (.isub, 1) := by decide +kernel
theorem dX12_asked_36 : decode cX12_asked 36 = .ok (.imul, 1) := by decide +kernel
theorem dX12_asked_37 : decode cX12_asked 37 = .ok (.iadd, 1) := by decide +kernel
theorem dX12_asked_38 : decode cX12_asked 38 = .ok (.iload_n 3, 1) := by decide +kernel
theorem dX12_asked_39 : decode cX12_asked 39 = .ok (.iadd, 1) := by decide +kernel
theorem dX12_asked_40 : decode cX12_asked 40 = .ok (.iconst 1, 1) := by decide +kernel
theorem dX12_asked_41 : decode cX12_asked 41 = .ok (.isub, 1) := by decide +kernel
theorem dX12_asked_42 : decode cX12_asked 42 = .ok (.ireturn, 1) := by decide +kernel
set_option maxRecDepth 20000 in
theorem vl_X12_734 : VL RX12 734 12 mX12_isSheet 1 := ⟨⟨qc_X12_isSheet, (gtb_in (List.mem_of_getElem? (i := 2221) (by decide +kernel)) (by decide +kernel)), qi_X12_isSheet, qs_X12_isSheet, zw_12⟩, ⟨_, _, rfl⟩, by decide, qd_X12_isSheet, by decide⟩
set_option maxRecDepth 20000 in
theorem sl_X12_737 : SL RX12 737 mX12_sheetAt 1 := ⟨⟨qc_X12_sheetAt, (gtb_in (List.mem_of_getElem? (i := 2225) (by decide +kernel)) (by decide +kernel)), qt_X12_sheetAt, zw_12⟩, qd_X12_sheetAt, by decide⟩
set_option maxRecDepth 20000 in
theorem vl_X12_321 : VL RX12 321 12 mX12_isCell 3 := ⟨⟨qc_X12_isCell, (gtb_in (List.mem_of_getElem? (i := 1997) (by decide +kernel)) (by decide +kernel)), qi_X12_isCell, qs_X12_isCell, zw_12⟩, ⟨_, _, rfl⟩, by decide, qd_X12_isCell, by decide⟩
theorem dX12_head_0 : decode cX12_head 0 = .ok (.aload_n 0, 1) := by decide +kernel
theorem dX12_head_1 : decode cX12_head 1 = .ok (.getfield 42, 3) := by decide +kernel
theorem dX12_head_4 : decode cX12_head 4 = .ok (.aload_n 0, 1) := by decide +kernel
theorem dX12_head_5 : decode cX12_head 5 = .ok (.getfield 857, 3) := by decide +kernel
theorem dX12_head_8 : decode cX12_head 8 = .ok (.iaload, 1) := by decide +kernel
theorem dX12_head_9 : decode cX12_head 9 = .ok (.ireturn, 1) := by decide +kernel
set_option maxRecDepth 20000 in
theorem fl_X12_42 : FL RX12 42 12 11 true := ⟨RX12, TX12, cl_12, by decide, (gtb_in (List.mem_of_getElem? (i := 1656) (by decide +kernel)) (by decide +kernel)), rfl⟩
set_option maxRecDepth 20000 in
theorem fl_X12_857 : FL RX12 857 12 12 false := ⟨RX12, TX12, cl_12, by decide, (gtb_in (List.mem_of_getElem? (i := 1657) (by decide +kernel)) (by decide +kernel)), rfl⟩
