def mX1_init : MI := (yX1_init, cX1_init, 4, none)
theorem qc_X1_init : Cond.code mX1_init.1 mX1_init.2.1 mX1_init.2.2.1 mX1_init.2.2.2 ∈ gtb := (gtb_in (List.mem_of_getElem? (i := 1214) (by decide +kernel)) (by decide +kernel))
theorem qi_X1_init : Cond.instanceMethod mX1_init.1 ∈ gtb := (gtb_in (List.mem_of_getElem? (i := 1213) (by decide +kernel)) (by decide +kernel))
theorem qd_X1_init : dsc mX1_init.1 3 := ⟨by decide +kernel, by decide +kernel, by decide +kernel⟩
def mX2_init : MI := (yX2_init, cX2_init, 1, none)
theorem qc_X2_init : Cond.code mX2_init.1 mX2_init.2.1 mX2_init.2.2.1 mX2_init.2.2.2 ∈ gtb := (gtb_in (List.mem_of_getElem? (i := 171) (by decide +kernel)) (by decide +kernel))
theorem qi_X2_init : Cond.instanceMethod mX2_init.1 ∈ gtb := (gtb_in (List.mem_of_getElem? (i := 170) (by decide +kernel)) (by decide +kernel))
theorem qd_X2_init : dsc mX2_init.1 0 := ⟨by decide +kernel, by decide +kernel, by decide +kernel⟩
def mX2_at : MI := (yX2_at, cX2_at, 2, (some ((.object "SheetBranches$Sheet"))))
theorem qc_X2_at : Cond.code mX2_at.1 mX2_at.2.1 mX2_at.2.2.1 mX2_at.2.2.2 ∈ gtb := (gtb_in (List.mem_of_getElem? (i := 455) (by decide +kernel)) (by decide +kernel))
theorem qi_X2_at : Cond.instanceMethod mX2_at.1 ∈ gtb := (gtb_in (List.mem_of_getElem? (i := 453) (by decide +kernel)) (by decide +kernel))
theorem qs_X2_at : Cond.selects mX2_at.1.cls mX2_at.1 mX2_at.1 ∈ gtb := (gtb_in (List.mem_of_getElem? (i := 454) (by decide +kernel)) (by decide +kernel))
theorem qd_X2_at : dsc mX2_at.1 1 := ⟨by decide +kernel, by decide +kernel, by decide +kernel⟩
def mX2_ancestorsOf : MI := (yX2_ancestorsOf, cX2_ancestorsOf, 2, (some .long))
theorem qc_X2_ancestorsOf : Cond.code mX2_ancestorsOf.1 mX2_ancestorsOf.2.1 mX2_ancestorsOf.2.2.1 mX2_ancestorsOf.2.2.2 ∈ gtb := (gtb_in (List.mem_of_getElem? (i := 362) (by decide +kernel)) (by decide +kernel))
theorem qi_X2_ancestorsOf : Cond.instanceMethod mX2_ancestorsOf.1 ∈ gtb := (gtb_in (List.mem_of_getElem? (i := 361) (by decide +kernel)) (by decide +kernel))
theorem qs_X2_ancestorsOf : Cond.selects mX2_ancestorsOf.1.cls mX2_ancestorsOf.1 mX2_ancestorsOf.1 ∈ gtb := (gtb_sel (q := (⟨"SheetBranches$Log", "ancestorsOf", "(I)J"⟩, 5)) (List.mem_of_getElem? (i := 0) (by decide +kernel)) (by decide +kernel))
theorem qd_X2_ancestorsOf : dsc mX2_ancestorsOf.1 1 := ⟨by decide +kernel, by decide +kernel, by decide +kernel⟩
def mX2_add : MI := (yX2_add, cX2_add, 4, (some .int))
theorem qc_X2_add : Cond.code mX2_add.1 mX2_add.2.1 mX2_add.2.2.1 mX2_add.2.2.2 ∈ gtb := (gtb_in (List.mem_of_getElem? (i := 358) (by decide +kernel)) (by decide +kernel))
theorem qi_X2_add : Cond.instanceMethod mX2_add.1 ∈ gtb := (gtb_in (List.mem_of_getElem? (i := 356) (by decide +kernel)) (by decide +kernel))
theorem qs_X2_add : Cond.selects mX2_add.1.cls mX2_add.1 mX2_add.1 ∈ gtb := (gtb_in (List.mem_of_getElem? (i := 357) (by decide +kernel)) (by decide +kernel))
theorem qd_X2_add : dsc mX2_add.1 3 := ⟨by decide +kernel, by decide +kernel, by decide +kernel⟩
def mX2_commonOf : MI := (yX2_commonOf, cX2_commonOf, 3, (some .int))
theorem qc_X2_commonOf : Cond.code mX2_commonOf.1 mX2_commonOf.2.1 mX2_commonOf.2.2.1 mX2_commonOf.2.2.2 ∈ gtb := (gtb_in (List.mem_of_getElem? (i := 479) (by decide +kernel)) (by decide +kernel))
theorem qi_X2_commonOf : Cond.instanceMethod mX2_commonOf.1 ∈ gtb := (gtb_in (List.mem_of_getElem? (i := 477) (by decide +kernel)) (by decide +kernel))
theorem qs_X2_commonOf : Cond.selects mX2_commonOf.1.cls mX2_commonOf.1 mX2_commonOf.1 ∈ gtb := (gtb_in (List.mem_of_getElem? (i := 478) (by decide +kernel)) (by decide +kernel))
theorem qd_X2_commonOf : dsc mX2_commonOf.1 2 := ⟨by decide +kernel, by decide +kernel, by decide +kernel⟩
def mX2_holds : MI := (yX2_holds, cX2_holds, 6, (some .boolean))
theorem qc_X2_holds : Cond.code mX2_holds.1 mX2_holds.2.1 mX2_holds.2.2.1 mX2_holds.2.2.2 ∈ gtb := (gtb_in (List.mem_of_getElem? (i := 1626) (by decide +kernel)) (by decide +kernel))
theorem qi_X2_holds : Cond.instanceMethod mX2_holds.1 ∈ gtb := (gtb_in (List.mem_of_getElem? (i := 1624) (by decide +kernel)) (by decide +kernel))
theorem qs_X2_holds : Cond.selects mX2_holds.1.cls mX2_holds.1 mX2_holds.1 ∈ gtb := (gtb_in (List.mem_of_getElem? (i := 1625) (by decide +kernel)) (by decide +kernel))
theorem qd_X2_holds : dsc mX2_holds.1 4 := ⟨by decide +kernel, by decide +kernel, by decide +kernel⟩
def mX3_init : MI := (yX3_init, cX3_init, 1, none)
theorem qc_X3_init : Cond.code mX3_init.1 mX3_init.2.1 mX3_init.2.2.1 mX3_init.2.2.2 ∈ gtb := (gtb_in (List.mem_of_getElem? (i := 273) (by decide +kernel)) (by decide +kernel))
theorem qi_X3_init : Cond.instanceMethod mX3_init.1 ∈ gtb := (gtb_in (List.mem_of_getElem? (i := 272) (by decide +kernel)) (by decide +kernel))
theorem qd_X3_init : dsc mX3_init.1 0 := ⟨by decide +kernel, by decide +kernel, by decide +kernel⟩
def mX3_at : MI := (yX3_at, cX3_at, 2, (some ((.object "SheetBranches$Conflict"))))
theorem qc_X3_at : Cond.code mX3_at.1 mX3_at.2.1 mX3_at.2.2.1 mX3_at.2.2.2 ∈ gtb := (gtb_in (List.mem_of_getElem? (i := 467) (by decide +kernel)) (by decide +kernel))
theorem qi_X3_at : Cond.instanceMethod mX3_at.1 ∈ gtb := (gtb_in (List.mem_of_getElem? (i := 465) (by decide +kernel)) (by decide +kernel))
theorem qs_X3_at : Cond.selects mX3_at.1.cls mX3_at.1 mX3_at.1 ∈ gtb := (gtb_in (List.mem_of_getElem? (i := 466) (by decide +kernel)) (by decide +kernel))
theorem qd_X3_at : dsc mX3_at.1 1 := ⟨by decide +kernel, by decide +kernel, by decide +kernel⟩
def mX3_unsettled : MI := (yX3_unsettled, cX3_unsettled, 3, (some .int))
theorem qc_X3_unsettled : Cond.code mX3_unsettled.1 mX3_unsettled.2.1 mX3_unsettled.2.2.1 mX3_unsettled.2.2.2 ∈ gtb := (gtb_in (List.mem_of_getElem? (i := 921) (by decide +kernel)) (by decide +kernel))
theorem qi_X3_unsettled : Cond.instanceMethod mX3_unsettled.1 ∈ gtb := (gtb_in (List.mem_of_getElem? (i := 919) (by decide +kernel)) (by decide +kernel))
theorem qs_X3_unsettled : Cond.selects mX3_unsettled.1.cls mX3_unsettled.1 mX3_unsettled.1 ∈ gtb := (gtb_in (List.mem_of_getElem? (i := 920) (by decide +kernel)) (by decide +kernel))
theorem qd_X3_unsettled : dsc mX3_unsettled.1 0 := ⟨by decide +kernel, by decide +kernel, by decide +kernel⟩
def mX5_init : MI := (yX5_init, cX5_init, 1, none)
theorem qc_X5_init : Cond.code mX5_init.1 mX5_init.2.1 mX5_init.2.2.1 mX5_init.2.2.2 ∈ gtb := (gtb_in (List.mem_of_getElem? (i := 43) (by decide +kernel)) (by decide +kernel))
theorem qi_X5_init : Cond.instanceMethod mX5_init.1 ∈ gtb := (gtb_in (List.mem_of_getElem? (i := 42) (by decide +kernel)) (by decide +kernel))
theorem qd_X5_init : dsc mX5_init.1 0 := ⟨by decide +kernel, by decide +kernel, by decide +kernel⟩
def mX5_add : MI := (yX5_add, cX5_add, 3, none)
theorem qc_X5_add : Cond.code mX5_add.1 mX5_add.2.1 mX5_add.2.2.1 mX5_add.2.2.2 ∈ gtb := (gtb_in (List.mem_of_getElem? (i := 431) (by decide +kernel)) (by decide +kernel))
theorem qi_X5_add : Cond.instanceMethod mX5_add.1 ∈ gtb := (gtb_in (List.mem_of_getElem? (i := 429) (by decide +kernel)) (by decide +kernel))
theorem qs_X5_add : Cond.selects mX5_add.1.cls mX5_add.1 mX5_add.1 ∈ gtb := (gtb_in (List.mem_of_getElem? (i := 430) (by decide +kernel)) (by decide +kernel))
theorem qd_X5_add : dsc mX5_add.1 1 := ⟨by decide +kernel, by decide +kernel, by decide +kernel⟩
def mX5_read : MI := (yX5_read, cX5_read, 5, (some ((.object "SheetBranches$Content"))))
theorem qc_X5_read : Cond.code mX5_read.1 mX5_read.2.1 mX5_read.2.2.1 mX5_read.2.2.2 ∈ gtb := (gtb_in (List.mem_of_getElem? (i := 1020) (by decide +kernel)) (by decide +kernel))
theorem qi_X5_read : Cond.instanceMethod mX5_read.1 ∈ gtb := (gtb_in (List.mem_of_getElem? (i := 1018) (by decide +kernel)) (by decide +kernel))
theorem qs_X5_read : Cond.selects mX5_read.1.cls mX5_read.1 mX5_read.1 ∈ gtb := (gtb_in (List.mem_of_getElem? (i := 1019) (by decide +kernel)) (by decide +kernel))
theorem qd_X5_read : dsc mX5_read.1 2 := ⟨by decide +kernel, by decide +kernel, by decide +kernel⟩
def mX7_init : MI := (yX7_init, cX7_init, 1, none)
theorem qc_X7_init : Cond.code mX7_init.1 mX7_init.2.1 mX7_init.2.2.1 mX7_init.2.2.2 ∈ gtb := (gtb_in (List.mem_of_getElem? (i := 301) (by decide +kernel)) (by decide +kernel))
theorem qi_X7_init : Cond.instanceMethod mX7_init.1 ∈ gtb := (gtb_in (List.mem_of_getElem? (i := 300) (by decide +kernel)) (by decide +kernel))
theorem qd_X7_init : dsc mX7_init.1 0 := ⟨by decide +kernel, by decide +kernel, by decide +kernel⟩
def mX7_forget : MI := (yX7_forget, cX7_forget, 1, none)
theorem qc_X7_forget : Cond.code mX7_forget.1 mX7_forget.2.1 mX7_forget.2.2.1 mX7_forget.2.2.2 ∈ gtb := (gtb_in (List.mem_of_getElem? (i := 447) (by decide +kernel)) (by decide +kernel))
theorem qi_X7_forget : Cond.instanceMethod mX7_forget.1 ∈ gtb := (gtb_in (List.mem_of_getElem? (i := 445) (by decide +kernel)) (by decide +kernel))
theorem qs_X7_forget : Cond.selects mX7_forget.1.cls mX7_forget.1 mX7_forget.1 ∈ gtb := (gtb_in (List.mem_of_getElem? (i := 446) (by decide +kernel)) (by decide +kernel))
theorem qd_X7_forget : dsc mX7_forget.1 0 := ⟨by decide +kernel, by decide +kernel, by decide +kernel⟩
def mX7_add : MI := (yX7_add, cX7_add, 3, none)
theorem qc_X7_add : Cond.code mX7_add.1 mX7_add.2.1 mX7_add.2.2.1 mX7_add.2.2.2 ∈ gtb := (gtb_in (List.mem_of_getElem? (i := 1287) (by decide +kernel)) (by decide +kernel))
theorem qi_X7_add : Cond.instanceMethod mX7_add.1 ∈ gtb := (gtb_in (List.mem_of_getElem? (i := 1285) (by decide +kernel)) (by decide +kernel))
theorem qs_X7_add : Cond.selects mX7_add.1.cls mX7_add.1 mX7_add.1 ∈ gtb := (gtb_in (List.mem_of_getElem? (i := 1286) (by decide +kernel)) (by decide +kernel))
theorem qd_X7_add : dsc mX7_add.1 1 := ⟨by decide +kernel, by decide +kernel, by decide +kernel⟩
def mX8_init : MI := (yX8_init, cX8_init, 2, none)
theorem qc_X8_init : Cond.code mX8_init.1 mX8_init.2.1 mX8_init.2.2.1 mX8_init.2.2.2 ∈ gtb := (gtb_in (List.mem_of_getElem? (i := 113) (by decide +kernel)) (by decide +kernel))
theorem qi_X8_init : Cond.instanceMethod mX8_init.1 ∈ gtb := (gtb_in (List.mem_of_getElem? (i := 112) (by decide +kernel)) (by decide +kernel))
theorem qd_X8_init : dsc mX8_init.1 1 := ⟨by decide +kernel, by decide +kernel, by decide +kernel⟩
def mX9_init : MI := (yX9_init, cX9_init, 3, none)
theorem qc_X9_init : Cond.code mX9_init.1 mX9_init.2.1 mX9_init.2.2.1 mX9_init.2.2.2 ∈ gtb := (gtb_in (List.mem_of_getElem? (i := 200) (by decide +kernel)) (by decide +kernel))
theorem qi_X9_init : Cond.instanceMethod mX9_init.1 ∈ gtb := (gtb_in (List.mem_of_getElem? (i := 199) (by decide +kernel)) (by decide +kernel))
theorem qd_X9_init : dsc mX9_init.1 1 := ⟨by decide +kernel, by decide +kernel, by decide +kernel⟩
def mX9_work : MI := (yX9_work, cX9_work, 6, none)
theorem qc_X9_work : Cond.code mX9_work.1 mX9_work.2.1 mX9_work.2.2.1 mX9_work.2.2.2 ∈ gtb := (gtb_in (List.mem_of_getElem? (i := 525) (by decide +kernel)) (by decide +kernel))
theorem qi_X9_work : Cond.instanceMethod mX9_work.1 ∈ gtb := (gtb_in (List.mem_of_getElem? (i := 523) (by decide +kernel)) (by decide +kernel))
theorem qs_X9_work : Cond.selects mX9_work.1.cls mX9_work.1 mX9_work.1 ∈ gtb := (gtb_in (List.mem_of_getElem? (i := 524) (by decide +kernel)) (by decide +kernel))
theorem qd_X9_work : dsc mX9_work.1 2 := ⟨by decide +kernel, by decide +kernel, by decide +kernel⟩
def mX9_clear : MI := (yX9_clear, cX9_clear, 3, none)
theorem qc_X9_clear : Cond.code mX9_clear.1 mX9_clear.2.1 mX9_clear.2.2.1 mX9_clear.2.2.2 ∈ gtb := (gtb_in (List.mem_of_getElem? (i := 528) (by decide +kernel)) (by decide +kernel))
theorem qt_X9_clear : Cond.static mX9_clear.1 ∈ gtb := (gtb_in (List.mem_of_getElem? (i := 527) (by decide +kernel)) (by decide +kernel))
theorem qd_X9_clear : dsc mX9_clear.1 2 := ⟨by decide +kernel, by decide +kernel, by decide +kernel⟩
def mX9_settleCircles : MI := (yX9_settleCircles, cX9_settleCircles, 5, none)
theorem qc_X9_settleCircles : Cond.code mX9_settleCircles.1 mX9_settleCircles.2.1 mX9_settleCircles.2.2.1 mX9_settleCircles.2.2.2 ∈ gtb := (gtb_in (List.mem_of_getElem? (i := 556) (by decide +kernel)) (by decide +kernel))
theorem qi_X9_settleCircles : Cond.instanceMethod mX9_settleCircles.1 ∈ gtb := (gtb_in (List.mem_of_getElem? (i := 555) (by decide +kernel)) (by decide +kernel))
theorem qs_X9_settleCircles : Cond.selects mX9_settleCircles.1.cls mX9_settleCircles.1 mX9_settleCircles.1 ∈ gtb := (gtb_sel (q := (⟨"SheetBranches$Worker", "settleCircles", "(I)V"⟩, 21)) (List.mem_of_getElem? (i := 9) (by decide +kernel)) (by decide +kernel))
theorem qd_X9_settleCircles : dsc mX9_settleCircles.1 1 := ⟨by decide +kernel, by decide +kernel, by decide +kernel⟩
def mX9_putInOrder : MI := (yX9_putInOrder, cX9_putInOrder, 7, (some .int))
theorem qc_X9_putInOrder : Cond.code mX9_putInOrder.1 mX9_putInOrder.2.1 mX9_putInOrder.2.2.1 mX9_putInOrder.2.2.2 ∈ gtb := (gtb_in (List.mem_of_getElem? (i := 581) (by decide +kernel)) (by decide +kernel))
theorem qi_X9_putInOrder : Cond.instanceMethod mX9_putInOrder.1 ∈ gtb := (gtb_in (List.mem_of_getElem? (i := 580) (by decide +kernel)) (by decide +kernel))
theorem qs_X9_putInOrder : Cond.selects mX9_putInOrder.1.cls mX9_putInOrder.1 mX9_putInOrder.1 ∈ gtb := (gtb_sel (q := (⟨"SheetBranches$Worker", "putInOrder", "(I)I"⟩, 21)) (List.mem_of_getElem? (i := 13) (by decide +kernel)) (by decide +kernel))
theorem qd_X9_putInOrder : dsc mX9_putInOrder.1 1 := ⟨by decide +kernel, by decide +kernel, by decide +kernel⟩
def mX10_init : MI := (yX10_init, cX10_init, 1, none)
theorem qc_X10_init : Cond.code mX10_init.1 mX10_init.2.1 mX10_init.2.2.1 mX10_init.2.2.2 ∈ gtb := (gtb_in (List.mem_of_getElem? (i := 107) (by decide +kernel)) (by decide +kernel))
theorem qi_X10_init : Cond.instanceMethod mX10_init.1 ∈ gtb := (gtb_in (List.mem_of_getElem? (i := 106) (by decide +kernel)) (by decide +kernel))
theorem qd_X10_init : dsc mX10_init.1 0 := ⟨by decide +kernel, by decide +kernel, by decide +kernel⟩
def mX10_letterAt : MI := (yX10_letterAt, cX10_letterAt, 2, (some .int))
theorem qc_X10_letterAt : Cond.code mX10_letterAt.1 mX10_letterAt.2.1 mX10_letterAt.2.2.1 mX10_letterAt.2.2.2 ∈ gtb := (gtb_in (List.mem_of_getElem? (i := 913) (by decide +kernel)) (by decide +kernel))
theorem qi_X10_letterAt : Cond.instanceMethod mX10_letterAt.1 ∈ gtb := (gtb_in (List.mem_of_getElem? (i := 911) (by decide +kernel)) (by decide +kernel))
theorem qs_X10_letterAt : Cond.selects mX10_letterAt.1.cls mX10_letterAt.1 mX10_letterAt.1 ∈ gtb := (gtb_in (List.mem_of_getElem? (i := 912) (by decide +kernel)) (by decide +kernel))
theorem qd_X10_letterAt : dsc mX10_letterAt.1 1 := ⟨by decide +kernel, by decide +kernel, by decide +kernel⟩
def mX10_write : MI := (yX10_write, cX10_write, 4, none)
theorem qc_X10_write : Cond.code mX10_write.1 mX10_write.2.1 mX10_write.2.2.1 mX10_write.2.2.2 ∈ gtb := (gtb_in (List.mem_of_getElem? (i := 824) (by decide +kernel)) (by decide +kernel))
theorem qi_X10_write : Cond.instanceMethod mX10_write.1 ∈ gtb := (gtb_in (List.mem_of_getElem? (i := 822) (by decide +kernel)) (by decide +kernel))
theorem qs_X10_write : Cond.selects mX10_write.1.cls mX10_write.1 mX10_write.1 ∈ gtb := (gtb_in (List.mem_of_getElem? (i := 823) (by decide +kernel)) (by decide +kernel))
theorem qd_X10_write : dsc mX10_write.1 3 := ⟨by decide +kernel, by decide +kernel, by decide +kernel⟩
def mJ9_max_7cf53 : MI := (yJ9_max_7cf53, cJ9_max_7cf53, 2, (some .int))
theorem qc_J9_max_7cf53 : Cond.code mJ9_max_7cf53.1 mJ9_max_7cf53.2.1 mJ9_max_7cf53.2.2.1 mJ9_max_7cf53.2.2.2 ∈ gtb := (gtb_in (List.mem_of_getElem? (i := 117) (by decide +kernel)) (by decide +kernel))
theorem qt_J9_max_7cf53 : Cond.static mJ9_max_7cf53.1 ∈ gtb := (gtb_in (List.mem_of_getElem? (i := 116) (by decide +kernel)) (by decide +kernel))
theorem qd_J9_max_7cf53 : dsc mJ9_max_7cf53.1 2 := ⟨by decide +kernel, by decide +kernel, by decide +kernel⟩
def mJ9_min_7cf53 : MI := (yJ9_min_7cf53, cJ9_min_7cf53, 2, (some .int))
theorem qc_J9_min_7cf53 : Cond.code mJ9_min_7cf53.1 mJ9_min_7cf53.2.1 mJ9_min_7cf53.2.2.1 mJ9_min_7cf53.2.2.2 ∈ gtb := (gtb_in (List.mem_of_getElem? (i := 531) (by decide +kernel)) (by decide +kernel))
theorem qt_J9_min_7cf53 : Cond.static mJ9_min_7cf53.1 ∈ gtb := (gtb_in (List.mem_of_getElem? (i := 530) (by decide +kernel)) (by decide +kernel))
theorem qd_J9_min_7cf53 : dsc mJ9_min_7cf53.1 2 := ⟨by decide +kernel, by decide +kernel, by decide +kernel⟩
def mJ9_abs_0f7a4 : MI := (yJ9_abs_0f7a4, cJ9_abs_0f7a4, 1, (some .int))
theorem qc_J9_abs_0f7a4 : Cond.code mJ9_abs_0f7a4.1 mJ9_abs_0f7a4.2.1 mJ9_abs_0f7a4.2.2.1 mJ9_abs_0f7a4.2.2.2 ∈ gtb := (gtb_in (List.mem_of_getElem? (i := 1361) (by decide +kernel)) (by decide +kernel))
theorem qt_J9_abs_0f7a4 : Cond.static mJ9_abs_0f7a4.1 ∈ gtb := (gtb_in (List.mem_of_getElem? (i := 1360) (by decide +kernel)) (by decide +kernel))
theorem qd_J9_abs_0f7a4 : dsc mJ9_abs_0f7a4.1 1 := ⟨by decide +kernel, by decide +kernel, by decide +kernel⟩
def mJ6_numberOfLeadingZeros_0f7a4 : MI := (yJ6_numberOfLeadingZeros_0f7a4, cJ6_numberOfLeadingZeros_0f7a4, 2, (some .int))
theorem qc_J6_numberOfLeadingZeros_0f7a4 : Cond.code mJ6_numberOfLeadingZeros_0f7a4.1 mJ6_numberOfLeadingZeros_0f7a4.2.1 mJ6_numberOfLeadingZeros_0f7a4.2.2.1 mJ6_numberOfLeadingZeros_0f7a4.2.2.2 ∈ gtb := (gtb_in (List.mem_of_getElem? (i := 485) (by decide +kernel)) (by decide +kernel))
theorem qt_J6_numberOfLeadingZeros_0f7a4 : Cond.static mJ6_numberOfLeadingZeros_0f7a4.1 ∈ gtb := (gtb_in (List.mem_of_getElem? (i := 484) (by decide +kernel)) (by decide +kernel))
theorem qd_J6_numberOfLeadingZeros_0f7a4 : dsc mJ6_numberOfLeadingZeros_0f7a4.1 1 := ⟨by decide +kernel, by decide +kernel, by decide +kernel⟩
def mJ13_numberOfLeadingZeros_95d88 : MI := (yJ13_numberOfLeadingZeros_95d88, cJ13_numberOfLeadingZeros_95d88, 3, (some .int))
theorem qc_J13_numberOfLeadingZeros_95d88 : Cond.code mJ13_numberOfLeadingZeros_95d88.1 mJ13_numberOfLeadingZeros_95d88.2.1 mJ13_numberOfLeadingZeros_95d88.2.2.1 mJ13_numberOfLeadingZeros_95d88.2.2.2 ∈ gtb := (gtb_in (List.mem_of_getElem? (i := 482) (by decide +kernel)) (by decide +kernel))
theorem qt_J13_numberOfLeadingZeros_95d88 : Cond.static mJ13_numberOfLeadingZeros_95d88.1 ∈ gtb := (gtb_in (List.mem_of_getElem? (i := 481) (by decide +kernel)) (by decide +kernel))
theorem qd_J13_numberOfLeadingZeros_95d88 : dsc mJ13_numberOfLeadingZeros_95d88.1 1 := ⟨by decide +kernel, by decide +kernel, by decide +kernel⟩
theorem dX1_init_0 : decode cX1_init 0 = .ok (.aload_n 0, 1) := by decide +kernel
theorem dX1_init_1 : decode cX1_init 1 = .ok (.invokespecial 1, 3) := by decide +kernel
theorem dX1_init_4 : decode cX1_init 4 = .ok (.aload_n 0, 1) := by decide +kernel
theorem dX1_init_5 : decode cX1_init 5 = .ok (.iload_n 1, 1) := by decide +kernel
theorem dX1_init_6 : decode cX1_init 6 = .ok (.putfield 7, 3) := by decide +kernel
theorem dX1_init_9 : decode cX1_init 9 = .ok (.aload_n 0, 1) := by decide +kernel
theorem dX1_init_10 : decode cX1_init 10 = .ok (.aload_n 2, 1) := by decide +kernel
theorem dX1_init_11 : decode cX1_init 11 = .ok (.putfield 13, 3) := by decide +kernel
theorem dX1_init_14 : decode cX1_init 14 = .ok (.aload_n 0, 1) := by decide +kernel
theorem dX1_init_15 : decode cX1_init 15 = .ok (.aload_n 3, 1) := by decide +kernel
theorem dX1_init_16 : decode cX1_init 16 = .ok (.putfield 17, 3) := by decide +kernel
theorem dX1_init_19 : decode cX1_init 19 = .ok (.return_, 1) := by decide +kernel
set_option maxRecDepth 20000 in
theorem ol_X1_1 : Cond.methodLink RX1 1 objectInit ∈ gtb := (gtb_in (List.mem_of_getElem? (i := 1215) (by decide +kernel)) (by decide +kernel))
theorem dX2_init_0 : decode cX2_init 0 = .ok (.aload_n 0, 1) := by decide +kernel
theorem dX2_init_1 : decode cX2_init 1 = .ok (.invokespecial 3, 3) := by decide +kernel
theorem dX2_init_4 : decode cX2_init 4 = .ok (.aload_n 0, 1) := by decide +kernel
theorem dX2_init_5 : decode cX2_init 5 = .ok (.bipush 40, 2) := by decide +kernel
theorem dX2_init_7 : decode cX2_init 7 = .ok (.anewarray 9, 3) := by decide +kernel
theorem dX2_init_10 : decode cX2_init 10 = .ok (.putfield 11, 3) := by decide +kernel
theorem dX2_init_13 : decode cX2_init 13 = .ok (.aload_n 0, 1) := by decide +kernel
theorem dX2_init_14 : decode cX2_init 14 = .ok (.bipush 40, 2) := by decide +kernel
theorem dX2_init_16 : decode cX2_init 16 = .ok (.newarray .int, 2) := by decide +kernel
theorem dX2_init_18 : decode cX2_init 18 = .ok (.putfield 17, 3) := by decide +kernel
theorem dX2_init_21 : decode cX2_init 21 = .ok (.aload_n 0, 1) := by decide +kernel
theorem dX2_init_22 : decode cX2_init 22 = .ok (.bipush 40, 2) := by decide +kernel
theorem dX2_init_24 : decode cX2_init 24 = .ok (.newarray .int, 2) := by decide +kernel
theorem dX2_init_26 : decode cX2_init 26 = .ok (.putfield 21, 3) := by decide +kernel
theorem dX2_init_29 : decode cX2_init 29 = .ok (.aload_n 0, 1) := by decide +kernel
theorem dX2_init_30 : decode cX2_init 30 = .ok (.bipush 40, 2) := by decide +kernel
theorem dX2_init_32 : decode cX2_init 32 = .ok (.newarray .long, 2) := by decide +kernel
theorem dX2_init_34 : decode cX2_init 34 = .ok (.putfield 24, 3) := by decide +kernel
theorem dX2_init_37 : decode cX2_init 37 = .ok (.return_, 1) := by decide +kernel
set_option maxRecDepth 20000 in
theorem ol_X2_3 : Cond.methodLink RX2 3 objectInit ∈ gtb := (gtb_in (List.mem_of_getElem? (i := 172) (by decide +kernel)) (by decide +kernel))
set_option maxRecDepth 20000 in
theorem nl_X2_9 : Cond.classLink RX2 9 RX6 ∈ gtb := (gtb_in (List.mem_of_getElem? (i := 173) (by decide +kernel)) (by decide +kernel))
set_option maxRecDepth 20000 in
theorem fl_X2_11 : FL RX2 11 2 0 true := ⟨RX2, TX2, cl_2, by decide, (gtb_in (List.mem_of_getElem? (i := 175) (by decide +kernel)) (by decide +kernel)), rfl⟩
set_option maxRecDepth 20000 in
theorem fl_X2_17 : FL RX2 17 2 1 true := ⟨RX2, TX2, cl_2, by decide, (gtb_in (List.mem_of_getElem? (i := 177) (by decide +kernel)) (by decide +kernel)), rfl⟩
set_option maxRecDepth 20000 in
theorem fl_X2_21 : FL RX2 21 2 2 true := ⟨RX2, TX2, cl_2, by decide, (gtb_in (List.mem_of_getElem? (i := 179) (by decide +kernel)) (by decide +kernel)), rfl⟩
set_option maxRecDepth 20000 in
theorem fl_X2_24 : FL RX2 24 2 3 true := ⟨RX2, TX2, cl_2, by decide, (gtb_in (List.mem_of_getElem? (i := 181) (by decide +kernel)) (by decide +kernel)), rfl⟩
theorem dX2_at_0 : decode cX2_at 0 = .ok (.iload_n 1, 1) := by decide +kernel
theorem dX2_at_1 : decode cX2_at 1 = .ok (.ifCond .lt 20, 3) := by decide +kernel
theorem dX2_at_4 : decode cX2_at 4 = .ok (.iload_n 1, 1) := by decide +kernel
theorem dX2_at_5 : decode cX2_at 5 = .ok (.aload_n 0, 1) := by decide +kernel
theorem dX2_at_6 : decode cX2_at 6 = .ok (.getfield 28, 3) := by decide +kernel
theorem dX2_at_9 : decode cX2_at 9 = .ok (.if_icmp .ge 12, 3) := by decide +kernel
theorem dX2_at_12 : decode cX2_at 12 = .ok (.aload_n 0, 1) := by decide +kernel
theorem dX2_at_13 : decode cX2_at 13 = .ok (.getfield 11, 3) := by decide +kernel
theorem dX2_at_16 : decode cX2_at 16 = .ok (.iload_n 1, 1) := by decide +kernel
theorem dX2_at_17 : decode cX2_at 17 = .ok (.aaload, 1) := by decide +kernel
theorem dX2_at_18 : decode cX2_at 18 = .ok (.goto 4, 3) := by decide +kernel
theorem dX2_at_21 : decode cX2_at 21 = .ok (.aconst_null, 1) := by decide +kernel
theorem dX2_at_22 : decode cX2_at 22 = .ok (.areturn, 1) := by decide +kernel
set_option maxRecDepth 20000 in
theorem fl_X2_28 : FL RX2 28 2 4 false := ⟨RX2, TX2, cl_2, by decide, (gtb_in (List.mem_of_getElem? (i := 182) (by decide +kernel)) (by decide +kernel)), rfl⟩
theorem dX2_ancestorsOf_0 : decode cX2_ancestorsOf 0 = .ok (.iload_n 1, 1) := by decide +kernel
theorem dX2_ancestorsOf_1 : decode cX2_ancestorsOf 1 = .ok (.ifCond .lt 20, 3) := by decide +kernel
theorem dX2_ancestorsOf_4 : decode cX2_ancestorsOf 4 = .ok (.iload_n 1, 1) := by decide +kernel
theorem dX2_ancestorsOf_5 : decode cX2_ancestorsOf 5 = .ok (.aload_n 0, 1) := by decide +kernel
theorem dX2_ancestorsOf_6 : decode cX2_ancestorsOf 6 = .ok (.getfield 28, 3) := by decide +kernel
theorem dX2_ancestorsOf_9 : decode cX2_ancestorsOf 9 = .ok (.if_icmp .ge 12, 3) := by decide +kernel
theorem dX2_ancestorsOf_12 : decode cX2_ancestorsOf 12 = .ok (.aload_n 0, 1) := by decide +kernel
theorem dX2_ancestorsOf_13 : decode cX2_ancestorsOf 13 = .ok (.getfield 24, 3) := by decide +kernel
theorem dX2_ancestorsOf_16 : decode cX2_ancestorsOf 16 = .ok (.iload_n 1, 1) := by decide +kernel
theorem dX2_ancestorsOf_17 : decode cX2_ancestorsOf 17 = .ok (.laload, 1) := by decide +kernel
theorem dX2_ancestorsOf_18 : decode cX2_ancestorsOf 18 = .ok (.goto 4, 3) := by decide +kernel
theorem dX2_ancestorsOf_21 : decode cX2_ancestorsOf 21 = .ok (.lconst 0, 1) := by decide +kernel
theorem dX2_ancestorsOf_22 : decode cX2_ancestorsOf 22 = .ok (.lreturn, 1) := by decide +kernel
theorem dX2_add_0 : decode cX2_add 0 = .ok (.aload_n 0, 1) := by decide +kernel
theorem dX2_add_1 : decode cX2_add 1 = .ok (.getfield 28, 3) := by decide +kernel
theorem dX2_add_4 : decode cX2_add 4 = .ok (.bipush 40, 2) := by decide +kernel
theorem dX2_add_6 : decode cX2_add 6 = .ok (.if_icmp .lt 5, 3) := by decide +kernel
theorem dX2_add_9 : decode cX2_add 9 = .ok (.iconst (-1), 1) := by decide +kernel
theorem dX2_add_10 : decode cX2_add 10 = .ok (.ireturn, 1) := by decide +kernel
theorem dX2_add_11 : decode cX2_add 11 = .ok (.aload_n 0, 1) := by decide +kernel
theorem dX2_add_12 : decode cX2_add 12 = .ok (.getfield 11, 3) := by decide +kernel
theorem dX2_add_15 : decode cX2_add 15 = .ok (.aload_n 0, 1) := by decide +kernel
theorem dX2_add_16 : decode cX2_add 16 = .ok (.getfield 28, 3) := by decide +kernel
theorem dX2_add_19 : decode cX2_add 19 = .ok (.aload_n 1, 1) := by decide +kernel
theorem dX2_add_20 : decode cX2_add 20 = .ok (.aastore, 1) := by decide +kernel
theorem dX2_add_21 : decode cX2_add 21 = .ok (.aload_n 0, 1) := by decide +kernel
theorem dX2_add_22 : decode cX2_add 22 = .ok (.getfield 17, 3) := by decide +kernel
theorem dX2_add_25 : decode cX2_add 25 = .ok (.aload_n 0, 1) := by decide +kernel
theorem dX2_add_26 : decode cX2_add 26 = .ok (.getfield 28, 3) := by decide +kernel
theorem dX2_add_29 : decode cX2_add 29 = .ok (.iload_n 2, 1) := by decide +kernel
theorem dX2_add_30 : decode cX2_add 30 = .ok (.iastore, 1) := by decide +kernel
theorem dX2_add_31 : decode cX2_add 31 = .ok (.aload_n 0, 1) := by decide +kernel
theorem dX2_add_32 : decode cX2_add 32 = .ok (.getfield 21, 3) := by decide +kernel
theorem dX2_add_35 : decode cX2_add 35 = .ok (.aload_n 0, 1) := by decide +kernel
theorem dX2_add_36 : decode cX2_add 36 = .ok (.getfield 28, 3) := by decide +kernel
theorem dX2_add_39 : decode cX2_add 39 = .ok (.iload_n 3, 1) := by decide +kernel
theorem dX2_add_40 : decode cX2_add 40 = .ok (.iastore, 1) := by decide +kernel
theorem dX2_add_41 : decode cX2_add 41 = .ok (.aload_n 0, 1) := by decide +kernel
theorem dX2_add_42 : decode cX2_add 42 = .ok (.getfield 24, 3) := by decide +kernel
theorem dX2_add_45 : decode cX2_add 45 = .ok (.aload_n 0, 1) := by decide +kernel
theorem dX2_add_46 : decode cX2_add 46 = .ok (.getfield 28, 3) := by decide +kernel
theorem dX2_add_49 : decode cX2_add 49 = .ok (.lconst 1, 1) := by decide +kernel
theorem dX2_add_50 : decode cX2_add 50 = .ok (.aload_n 0, 1) := by decide +kernel
theorem dX2_add_51 : decode cX2_add 51 = .ok (.getfield 28, 3) := by decide +kernel
theorem dX2_add_54 : decode cX2_add 54 = .ok (.lshl, 1) := by decide +kernel
theorem dX2_add_55 : decode cX2_add 55 = .ok (.aload_n 0, 1) := by decide +kernel
theorem dX2_add_56 : decode cX2_add 56 = .ok (.iload_n 2, 1) := by decide +kernel
theorem dX2_add_57 : decode cX2_add 57 = .ok (.invokevirtual 32, 3) := by decide +kernel
theorem dX2_add_60 : decode cX2_add 60 = .ok (.lor, 1) := by decide +kernel
theorem dX2_add_61 : decode cX2_add 61 = .ok (.aload_n 0, 1) := by decide +kernel
theorem dX2_add_62 : decode cX2_add 62 = .ok (.iload_n 3, 1) := by decide +kernel
theorem dX2_add_63 : decode cX2_add 63 = .ok (.invokevirtual 32, 3) := by decide +kernel
theorem dX2_add_66 : decode cX2_add 66 = .ok (.lor, 1) := by decide +kernel
theorem dX2_add_67 : decode cX2_add 67 = .ok (.lastore, 1) := by decide +kernel
theorem dX2_add_68 : decode cX2_add 68 = .ok (.aload_n 0, 1) := by decide +kernel
theorem dX2_add_69 : decode cX2_add 69 = .ok (.dup, 1) := by decide +kernel
theorem dX2_add_70 : decode cX2_add 70 = .ok (.getfield 28, 3) := by decide +kernel
theorem dX2_add_73 : decode cX2_add 73 = .ok (.iconst 1, 1) := by decide +kernel
theorem dX2_add_74 : decode cX2_add 74 = .ok (.iadd, 1) := by decide +kernel
theorem dX2_add_75 : decode cX2_add 75 = .ok (.putfield 28, 3) := by decide +kernel
theorem dX2_add_78 : decode cX2_add 78 = .ok (.aload_n 0, 1) := by decide +kernel
theorem dX2_add_79 : decode cX2_add 79 = .ok (.getfield 28, 3) := by decide +kernel
theorem dX2_add_82 : decode cX2_add 82 = .ok (.iconst 1, 1) := by decide +kernel
theorem dX2_add_83 : decode cX2_add 83 = .ok (.isub, 1) := by decide +kernel
theorem dX2_add_84 : decode cX2_add 84 = .ok (.ireturn, 1) := by decide +kernel
set_option maxRecDepth 20000 in
theorem vl_X2_32 : VL RX2 32 2 mX2_ancestorsOf 1 := ⟨⟨qc_X2_ancestorsOf, (gtb_in (List.mem_of_getElem? (i := 359) (by decide +kernel)) (by decide +kernel)), qi_X2_ancestorsOf, qs_X2_ancestorsOf, zw_2⟩, ⟨_, _, rfl⟩, by decide, qd_X2_ancestorsOf, by decide⟩
theorem dX2_commonOf_0 : decode cX2_commonOf 0 = .ok (.bipush 63, 2) := by decide +kernel
theorem dX2_commonOf_2 : decode cX2_commonOf 2 = .ok (.aload_n 0, 1) := by decide +kernel
theorem dX2_commonOf_3 : decode cX2_commonOf 3 = .ok (.iload_n 1, 1) := by decide +kernel
theorem dX2_commonOf_4 : decode cX2_commonOf 4 = .ok (.invokevirtual 32, 3) := by decide +kernel
theorem dX2_commonOf_7 : decode cX2_commonOf 7 = .ok (.aload_n 0, 1) := by decide +kernel
theorem dX2_commonOf_8 : decode cX2_commonOf 8 = .ok (.iload_n 2, 1) := by decide +kernel
theorem dX2_commonOf_9 : decode cX2_commonOf 9 = .ok (.invokevirtual 32, 3) := by decide +kernel
theorem dX2_commonOf_12 : decode cX2_commonOf 12 = .ok (.land, 1) := by decide +kernel
theorem dX2_commonOf_13 : decode cX2_commonOf 13 = .ok (.invokestatic 36, 3) := by decide +kernel
theorem dX2_commonOf_16 : decode cX2_commonOf 16 = .ok (.isub, 1) := by decide +kernel
theorem dX2_commonOf_17 : decode cX2_commonOf 17 = .ok (.ireturn, 1) := by decide +kernel
set_option maxRecDepth 20000 in
theorem sl_X2_36 : SL RX2 36 mJ13_numberOfLeadingZeros_95d88 1 := ⟨⟨qc_J13_numberOfLeadingZeros_95d88, (gtb_in (List.mem_of_getElem? (i := 480) (by decide +kernel)) (by decide +kernel)), qt_J13_numberOfLeadingZeros_95d88, (gtb_in (List.mem_of_getElem? (i := 26) (by decide +kernel)) (by decide +kernel))⟩, qd_J13_numberOfLeadingZeros_95d88, by decide⟩
theorem dX2_holds_0 : decode cX2_holds 0 = .ok (.aload_n 0, 1) := by decide +kernel
theorem dX2_holds_1 : decode cX2_holds 1 = .ok (.iload_n 1, 1) := by decide +kernel
theorem dX2_holds_2 : decode cX2_holds 2 = .ok (.invokevirtual 42, 3) := by decide +kernel
theorem dX2_holds_5 : decode cX2_holds 5 = .ok (.astore 5, 2) := by decide +kernel
theorem dX2_holds_7 : decode cX2_holds 7 = .ok (.aload 5, 2) := by decide +kernel
theorem dX2_holds_9 : decode cX2_holds 9 = .ok (.ifnull 32, 3) := by decide +kernel
theorem dX2_holds_12 : decode cX2_holds 12 = .ok (.aload 5, 2) := by decide +kernel
theorem dX2_holds_14 : decode cX2_holds 14 = .ok (.iload_n 2, 1) := by decide +kernel
theorem dX2_holds_15 : decode cX2_holds 15 = .ok (.iload_n 3, 1) := by decide +kernel
theorem dX2_holds_16 : decode cX2_holds 16 = .ok (.invokevirtual 46, 3) := by decide +kernel
theorem dX2_holds_19 : decode cX2_holds 19 = .ok (.ifCond .eq 22, 3) := by decide +kernel
theorem dX2_holds_22 : decode cX2_holds 22 = .ok (.aload 5, 2) := by decide +kernel
theorem dX2_holds_24 : decode cX2_holds 24 = .ok (.iload_n 2, 1) := by decide +kernel
theorem dX2_holds_25 : decode cX2_holds 25 = .ok (.iload_n 3, 1) := by decide +kernel
theorem dX2_holds_26 : decode cX2_holds 26 = .ok (.invokevirtual 50, 3) := by decide +kernel
theorem dX2_holds_29 : decode cX2_holds 29 = .ok (.aload 4, 2) := by decide +kernel
theorem dX2_holds_31 : decode cX2_holds 31 = .ok (.invokestatic 54, 3) := by decide +kernel
theorem dX2_holds_34 : decode cX2_holds 34 = .ok (.ifCond .eq 7, 3) := by decide +kernel
theorem dX2_holds_37 : decode cX2_holds 37 = .ok (.iconst 1, 1) := by decide +kernel
theorem dX2_holds_38 : decode cX2_holds 38 = .ok (.goto 4, 3) := by decide +kernel
theorem dX2_holds_41 : decode cX2_holds 41 = .ok (.iconst 0, 1) := by decide +kernel
theorem dX2_holds_42 : decode cX2_holds 42 = .ok (.ireturn, 1) := by decide +kernel
set_option maxRecDepth 20000 in
theorem vl_X2_42 : VL RX2 42 2 mX2_at 1 := ⟨⟨qc_X2_at, (gtb_in (List.mem_of_getElem? (i := 1627) (by decide +kernel)) (by decide +kernel)), qi_X2_at, qs_X2_at, zw_2⟩, ⟨_, _, rfl⟩, by decide, qd_X2_at, by decide⟩
set_option maxRecDepth 20000 in
theorem vl_X2_46 : VL RX2 46 6 mX6_knows 2 := ⟨⟨qc_X6_knows, (gtb_in (List.mem_of_getElem? (i := 1628) (by decide +kernel)) (by decide +kernel)), qi_X6_knows, qs_X6_knows, zw_6⟩, ⟨_, _, rfl⟩, by decide, qd_X6_knows, by decide⟩
set_option maxRecDepth 20000 in
theorem vl_X2_50 : VL RX2 50 6 mX6_of 2 := ⟨⟨qc_X6_of, (gtb_in (List.mem_of_getElem? (i := 1629) (by decide +kernel)) (by decide +kernel)), qi_X6_of, qs_X6_of, zw_6⟩, ⟨_, _, rfl⟩, by decide, qd_X6_of, by decide⟩
set_option maxRecDepth 20000 in
theorem sl_X2_54 : SL RX2 54 mX1_alike 2 := ⟨⟨qc_X1_alike, (gtb_in (List.mem_of_getElem? (i := 1630) (by decide +kernel)) (by decide +kernel)), qt_X1_alike, zw_1⟩, qd_X1_alike, by decide⟩
theorem dX3_init_0 : decode cX3_init 0 = .ok (.aload_n 0, 1) := by decide +kernel
theorem dX3_init_1 : decode cX3_init 1 = .ok (.invokespecial 3, 3) := by decide +kernel
theorem dX3_init_4 : decode cX3_init 4 = .ok (.aload_n 0, 1) := by decide +kernel
theorem dX3_init_5 : decode cX3_init 5 = .ok (.sipush 362, 3) := by decide +kernel
theorem dX3_init_8 : decode cX3_init 8 = .ok (.anewarray 9, 3) := by decide +kernel
theorem dX3_init_11 : decode cX3_init 11 = .ok (.putfield 11, 3) := by decide +kernel
theorem dX3_init_14 : decode cX3_init 14 = .ok (.aload_n 0, 1) := by decide +kernel
theorem dX3_init_15 : decode cX3_init 15 = .ok (.bipush 64, 2) := by decide +kernel
theorem dX3_init_17 : decode cX3_init 17 = .ok (.newarray .int, 2) := by decide +kernel
theorem dX3_init_19 : decode cX3_init 19 = .ok (.putfield 17, 3) := by decide +kernel
theorem dX3_init_22 : decode cX3_init 22 = .ok (.return_, 1) := by decide +kernel
set_option maxRecDepth 20000 in
theorem ol_X3_3 : Cond.methodLink RX3 3 objectInit ∈ gtb := (gtb_in (List.mem_of_getElem? (i := 274) (by decide +kernel)) (by decide +kernel))
set_option maxRecDepth 20000 in
theorem nl_X3_9 : Cond.classLink RX3 9 RX0 ∈ gtb := (gtb_in (List.mem_of_getElem? (i := 275) (by decide +kernel)) (by decide +kernel))
set_option maxRecDepth 20000 in
theorem fl_X3_11 : FL RX3 11 3 0 true := ⟨RX3, TX3, cl_3, by decide, (gtb_in (List.mem_of_getElem? (i := 277) (by decide +kernel)) (by decide +kernel)), rfl⟩
set_option maxRecDepth 20000 in
theorem fl_X3_17 : FL RX3 17 3 1 true := ⟨RX3, TX3, cl_3, by decide, (gtb_in (List.mem_of_getElem? (i := 278) (by decide +kernel)) (by decide +kernel)), rfl⟩
theorem dX3_at_0 : decode cX3_at 0 = .ok (.iload_n 1, 1) := by decide +kernel
theorem dX3_at_1 : decode cX3_at 1 = .ok (.ifCond .lt 20, 3) := by decide +kernel
theorem dX3_at_4 : decode cX3_at 4 = .ok (.iload_n 1, 1) := by decide +kernel
theorem dX3_at_5 : decode cX3_at 5 = .ok (.aload_n 0, 1) := by decide +kernel
theorem dX3_at_6 : decode cX3_at 6 = .ok (.getfield 21, 3) := by decide +kernel
theorem dX3_at_9 : decode cX3_at 9 = .ok (.if_icmp .ge 12, 3) := by decide +kernel
theorem dX3_at_12 : decode cX3_at 12 = .ok (.aload_n 0, 1) := by decide +kernel
theorem dX3_at_13 : decode cX3_at 13 = .ok (.getfield 11, 3) := by decide +kernel
theorem dX3_at_16 : decode cX3_at 16 = .ok (.iload_n 1, 1) := by decide +kernel
theorem dX3_at_17 : decode cX3_at 17 = .ok (.aaload, 1) := by decide +kernel
theorem dX3_at_18 : decode cX3_at 18 = .ok (.goto 4, 3) := by decide +kernel
theorem dX3_at_21 : decode cX3_at 21 = .ok (.aconst_null, 1) := by decide +kernel
theorem dX3_at_22 : decode cX3_at 22 = .ok (.areturn, 1) := by decide +kernel
set_option maxRecDepth 20000 in
theorem fl_X3_21 : FL RX3 21 3 2 false := ⟨RX3, TX3, cl_3, by decide, (gtb_in (List.mem_of_getElem? (i := 279) (by decide +kernel)) (by decide +kernel)), rfl⟩
theorem dX3_unsettled_0 : decode cX3_unsettled 0 = .ok (.iconst 0, 1) := by decide +kernel
theorem dX3_unsettled_1 : decode cX3_unsettled 1 = .ok (.istore_n 1, 1) := by decide +kernel
theorem dX3_unsettled_2 : decode cX3_unsettled 2 = .ok (.iconst 0, 1) := by decide +kernel
theorem dX3_unsettled_3 : decode cX3_unsettled 3 = .ok (.istore_n 2, 1) := by decide +kernel
theorem dX3_unsettled_4 : decode cX3_unsettled 4 = .ok (.iload_n 2, 1) := by decide +kernel
theorem dX3_unsettled_5 : decode cX3_unsettled 5 = .ok (.aload_n 0, 1) := by decide +kernel
theorem dX3_unsettled_6 : decode cX3_unsettled 6 = .ok (.getfield 21, 3) := by decide +kernel
theorem dX3_unsettled_9 : decode cX3_unsettled 9 = .ok (.if_icmp .ge 29, 3) := by decide +kernel
theorem dX3_unsettled_12 : decode cX3_unsettled 12 = .ok (.iload_n 1, 1) := by decide +kernel
theorem dX3_unsettled_13 : decode cX3_unsettled 13 = .ok (.aload_n 0, 1) := by decide +kernel
theorem dX3_unsettled_14 : decode cX3_unsettled 14 = .ok (.getfield 11, 3) := by decide +kernel
theorem dX3_unsettled_17 : decode cX3_unsettled 17 = .ok (.iload_n 2, 1) := by decide +kernel
theorem dX3_unsettled_18 : decode cX3_unsettled 18 = .ok (.aaload, 1) := by decide +kernel
theorem dX3_unsettled_19 : decode cX3_unsettled 19 = .ok (.getfield 25, 3) := by decide +kernel
theorem dX3_unsettled_22 : decode cX3_unsettled 22 = .ok (.ifCond .eq 7, 3) := by decide +kernel
theorem dX3_unsettled_25 : decode cX3_unsettled 25 = .ok (.iconst 0, 1) := by decide +kernel
theorem dX3_unsettled_26 : decode cX3_unsettled 26 = .ok (.goto 4, 3) := by decide +kernel
theorem dX3_unsettled_29 : decode cX3_unsettled 29 = .ok (.iconst 1, 1) := by decide +kernel
theorem dX3_unsettled_30 : decode cX3_unsettled 30 = .ok (.iadd, 1) := by decide +kernel
theorem dX3_unsettled_31 : decode cX3_unsettled 31 = .ok (.istore_n 1, 1) := by decide +kernel
theorem dX3_unsettled_32 : decode cX3_unsettled 32 = .ok (.iinc 2 1, 3) := by decide +kernel
theorem dX3_unsettled_35 : decode cX3_unsettled 35 = .ok (.goto (-31), 3) := by decide +kernel
theorem dX3_unsettled_38 : decode cX3_unsettled 38 = .ok (.iload_n 1, 1) := by decide +kernel
theorem dX3_unsettled_39 : decode cX3_unsettled 39 = .ok (.ireturn, 1) := by decide +kernel
set_option maxRecDepth 20000 in
theorem fl_X3_25 : FL RX3 25 0 6 false := ⟨RX0, TX0, cl_0, by decide, (gtb_in (List.mem_of_getElem? (i := 1544) (by decide +kernel)) (by decide +kernel)), rfl⟩
theorem dX5_init_0 : decode cX5_init 0 = .ok (.aload_n 0, 1) := by decide +kernel
theorem dX5_init_1 : decode cX5_init 1 = .ok (.invokespecial 3, 3) := by decide +kernel
theorem dX5_init_4 : decode cX5_init 4 = .ok (.aload_n 0, 1) := by decide +kernel
theorem dX5_init_5 : decode cX5_init 5 = .ok (.sipush 400, 3) := by decide +kernel
theorem dX5_init_8 : decode cX5_init 8 = .ok (.newarray .byte, 2) := by decide +kernel
theorem dX5_init_10 : decode cX5_init 10 = .ok (.putfield 9, 3) := by decide +kernel
theorem dX5_init_13 : decode cX5_init 13 = .ok (.aload_n 0, 1) := by decide +kernel
theorem dX5_init_14 : decode cX5_init 14 = .ok (.sipush 400, 3) := by decide +kernel
theorem dX5_init_17 : decode cX5_init 17 = .ok (.anewarray 15, 3) := by decide +kernel
theorem dX5_init_20 : decode cX5_init 20 = .ok (.putfield 17, 3) := by decide +kernel
theorem dX5_init_23 : decode cX5_init 23 = .ok (.aload_n 0, 1) := by decide +kernel
theorem dX5_init_24 : decode cX5_init 24 = .ok (.iconst 0, 1) := by decide +kernel
theorem dX5_init_25 : decode cX5_init 25 = .ok (.anewarray 15, 3) := by decide +kernel
theorem dX5_init_28 : decode cX5_init 28 = .ok (.putfield 21, 3) := by decide +kernel
theorem dX5_init_31 : decode cX5_init 31 = .ok (.return_, 1) := by decide +kernel
set_option maxRecDepth 20000 in
theorem ol_X5_3 : Cond.methodLink RX5 3 objectInit ∈ gtb := (gtb_in (List.mem_of_getElem? (i := 44) (by decide +kernel)) (by decide +kernel))
set_option maxRecDepth 20000 in
theorem fl_X5_9 : FL RX5 9 5 0 true := ⟨RX5, TX5, cl_5, by decide, (gtb_in (List.mem_of_getElem? (i := 47) (by decide +kernel)) (by decide +kernel)), rfl⟩
set_option maxRecDepth 20000 in
theorem nl_X5_15 : Cond.classLink RX5 15 RX4 ∈ gtb := (gtb_in (List.mem_of_getElem? (i := 45) (by decide +kernel)) (by decide +kernel))
set_option maxRecDepth 20000 in
theorem fl_X5_17 : FL RX5 17 5 1 true := ⟨RX5, TX5, cl_5, by decide, (gtb_in (List.mem_of_getElem? (i := 48) (by decide +kernel)) (by decide +kernel)), rfl⟩
set_option maxRecDepth 20000 in
theorem fl_X5_21 : FL RX5 21 5 2 true := ⟨RX5, TX5, cl_5, by decide, (gtb_in (List.mem_of_getElem? (i := 49) (by decide +kernel)) (by decide +kernel)), rfl⟩
theorem dX5_add_0 : decode cX5_add 0 = .ok (.bipush 24, 2) := by decide +kernel
theorem dX5_add_2 : decode cX5_add 2 = .ok (.istore_n 2, 1) := by decide +kernel
theorem dX5_add_3 : decode cX5_add 3 = .ok (.iload_n 2, 1) := by decide +kernel
theorem dX5_add_4 : decode cX5_add 4 = .ok (.ifCond .lt 42, 3) := by decide +kernel
theorem dX5_add_7 : decode cX5_add 7 = .ok (.aload_n 0, 1) := by decide +kernel
theorem dX5_add_8 : decode cX5_add 8 = .ok (.getfield 24, 3) := by decide +kernel
theorem dX5_add_11 : decode cX5_add 11 = .ok (.sipush 400, 3) := by decide +kernel
theorem dX5_add_14 : decode cX5_add 14 = .ok (.if_icmp .ge 32, 3) := by decide +kernel
theorem dX5_add_17 : decode cX5_add 17 = .ok (.aload_n 0, 1) := by decide +kernel
theorem dX5_add_18 : decode cX5_add 18 = .ok (.getfield 9, 3) := by decide +kernel
theorem dX5_add_21 : decode cX5_add 21 = .ok (.aload_n 0, 1) := by decide +kernel
theorem dX5_add_22 : decode cX5_add 22 = .ok (.getfield 24, 3) := by decide +kernel
theorem dX5_add_25 : decode cX5_add 25 = .ok (.iload_n 1, 1) := by decide +kernel
theorem dX5_add_26 : decode cX5_add 26 = .ok (.iload_n 2, 1) := by decide +kernel
theorem dX5_add_27 : decode cX5_add 27 = .ok (.ishr, 1) := by decide +kernel
theorem dX5_add_28 : decode cX5_add 28 = .ok (.i2b, 1) := by decide +kernel
theorem dX5_add_29 : decode cX5_add 29 = .ok (.bastore, 1) := by decide +kernel
theorem dX5_add_30 : decode cX5_add 30 = .ok (.aload_n 0, 1) := by decide +kernel
theorem dX5_add_31 : decode cX5_add 31 = .ok (.dup, 1) := by decide +kernel
theorem dX5_add_32 : decode cX5_add 32 = .ok (.getfield 24, 3) := by decide +kernel
theorem dX5_add_35 : decode cX5_add 35 = .ok (.iconst 1, 1) := by decide +kernel
theorem dX5_add_36 : decode cX5_add 36 = .ok (.iadd, 1) := by decide +kernel
theorem dX5_add_37 : decode cX5_add 37 = .ok (.putfield 24, 3) := by decide +kernel
theorem dX5_add_40 : decode cX5_add 40 = .ok (.iinc 2 (-8), 3) := by decide +kernel
theorem dX5_add_43 : decode cX5_add 43 = .ok (.goto (-40), 3) := by decide +kernel
theorem dX5_add_46 : decode cX5_add 46 = .ok (.return_, 1) := by decide +kernel
set_option maxRecDepth 20000 in
theorem fl_X5_24 : FL RX5 24 5 3 false := ⟨RX5, TX5, cl_5, by decide, (gtb_in (List.mem_of_getElem? (i := 51) (by decide +kernel)) (by decide +kernel)), rfl⟩
theorem dX5_read_0 : decode cX5_read 0 = .ok (.aload_n 0, 1) := by decide +kernel
theorem dX5_read_1 : decode cX5_read 1 = .ok (.aload_n 1, 1) := by decide +kernel
theorem dX5_read_2 : decode cX5_read 2 = .ok (.putfield 28, 3) := by decide +kernel
theorem dX5_read_5 : decode cX5_read 5 = .ok (.aload_n 0, 1) := by decide +kernel
theorem dX5_read_6 : decode cX5_read 6 = .ok (.aload_n 2, 1) := by decide +kernel
theorem dX5_read_7 : decode cX5_read 7 = .ok (.putfield 32, 3) := by decide +kernel
theorem dX5_read_10 : decode cX5_read 10 = .ok (.aload_n 0, 1) := by decide +kernel
theorem dX5_read_11 : decode cX5_read 11 = .ok (.iconst 0, 1) := by decide +kernel
theorem dX5_read_12 : decode cX5_read 12 = .ok (.putfield 36, 3) := by decide +kernel
theorem dX5_read_15 : decode cX5_read 15 = .ok (.aload_n 0, 1) := by decide +kernel
theorem dX5_read_16 : decode cX5_read 16 = .ok (.iconst (-1), 1) := by decide +kernel
theorem dX5_read_17 : decode cX5_read 17 = .ok (.putfield 39, 3) := by decide +kernel
theorem dX5_read_20 : decode cX5_read 20 = .ok (.iconst 0, 1) := by decide +kernel
theorem dX5_read_21 : decode cX5_read 21 = .ok (.istore_n 3, 1) := by decide +kernel
theorem dX5_read_22 : decode cX5_read 22 = .ok (.iload_n 3, 1) := by decide +kernel
theorem dX5_read_23 : decode cX5_read 23 = .ok (.aload_n 0, 1) := by decide +kernel
theorem dX5_read_24 : decode cX5_read 24 = .ok (.getfield 24, 3) := by decide +kernel
theorem dX5_read_27 : decode cX5_read 27 = .ok (.if_icmp .ge 20, 3) := by decide +kernel
theorem dX5_read_30 : decode cX5_read 30 = .ok (.aload_n 0, 1) := by decide +kernel
theorem dX5_read_31 : decode cX5_read 31 = .ok (.getfield 9, 3) := by decide +kernel
theorem dX5_read_34 : decode cX5_read 34 = .ok (.iload_n 3, 1) := by decide +kernel
theorem dX5_read_35 : decode cX5_read 35 = .ok (.baload, 1) := by decide +kernel
theorem dX5_read_36 : decode cX5_read 36 = .ok (.bipush 32, 2) := by decide +kernel
theorem dX5_read_38 : decode cX5_read 38 = .ok (.if_icmp .ne 9, 3) := by decide +kernel
theorem dX5_read_41 : decode cX5_read 41 = .ok (.iinc 3 1, 3) := by decide +kernel
theorem dX5_read_44 : decode cX5_read 44 = .ok (.goto (-22), 3) := by decide +kernel
theorem dX5_read_47 : decode cX5_read 47 = .ok (.aload_n 0, 1) := by decide +kernel
theorem dX5_read_48 : decode cX5_read 48 = .ok (.aload_n 0, 1) := by decide +kernel
theorem dX5_read_49 : decode cX5_read 49 = .ok (.getfield 24, 3) := by decide +kernel
theorem dX5_read_52 : decode cX5_read 52 = .ok (.putfield 42, 3) := by decide +kernel
theorem dX5_read_55 : decode cX5_read 55 = .ok (.aload_n 0, 1) := by decide +kernel
theorem dX5_read_56 : decode cX5_read 56 = .ok (.getfield 42, 3) := by decide +kernel
theorem dX5_read_59 : decode cX5_read 59 = .ok (.iload_n 3, 1) := by decide +kernel
theorem dX5_read_60 : decode cX5_read 60 = .ok (.if_icmp .le 32, 3) := by decide +kernel
theorem dX5_read_63 : decode cX5_read 63 = .ok (.aload_n 0, 1) := by decide +kernel
theorem dX5_read_64 : decode cX5_read 64 = .ok (.getfield 9, 3) := by decide +kernel
theorem dX5_read_67 : decode cX5_read 67 = .ok (.aload_n 0, 1) := by decide +kernel
theorem dX5_read_68 : decode cX5_read 68 = .ok (.getfield 42, 3) := by decide +kernel
theorem dX5_read_71 : decode cX5_read 71 = .ok (.iconst 1, 1) := by decide +kernel
theorem dX5_read_72 : decode cX5_read 72 = .ok (.isub, 1) := by decide +kernel
theorem dX5_read_73 : decode cX5_read 73 = .ok (.baload, 1) := by decide +kernel
theorem dX5_read_74 : decode cX5_read 74 = .ok (.bipush 32, 2) := by decide +kernel
theorem dX5_read_76 : decode cX5_read 76 = .ok (.if_icmp .ne 16, 3) := by decide +kernel
theorem dX5_read_79 : decode cX5_read 79 = .ok (.aload_n 0, 1) := by decide +kernel
theorem dX5_read_80 : decode cX5_read 80 = .ok (.dup, 1) := by decide +kernel
theorem dX5_read_81 : decode cX5_read 81 = .ok (.getfield 42, 3) := by decide +kernel
theorem dX5_read_84 : decode cX5_read 84 = .ok (.iconst 1, 1) := by decide +kernel
theorem dX5_read_85 : decode cX5_read 85 = .ok (.isub, 1) := by decide +kernel
theorem dX5_read_86 : decode cX5_read 86 = .ok (.putfield 42, 3) := by decide +kernel
theorem dX5_read_89 : decode cX5_read 89 = .ok (.goto (-34), 3) := by decide +kernel
theorem dX5_read_92 : decode cX5_read 92 = .ok (.aconst_null, 1) := by decide +kernel
theorem dX5_read_93 : decode cX5_read 93 = .ok (.astore 4, 2) := by decide +kernel
theorem dX5_read_95 : decode cX5_read 95 = .ok (.iload_n 3, 1) := by decide +kernel
theorem dX5_read_96 : decode cX5_read 96 = .ok (.aload_n 0, 1) := by decide +kernel
theorem dX5_read_97 : decode cX5_read 97 = .ok (.getfield 42, 3) := by decide +kernel
theorem dX5_read_100 : decode cX5_read 100 = .ok (.if_icmp .ge 24, 3) := by decide +kernel
theorem dX5_read_103 : decode cX5_read 103 = .ok (.aload_n 0, 1) := by decide +kernel
theorem dX5_read_104 : decode cX5_read 104 = .ok (.getfield 9, 3) := by decide +kernel
theorem dX5_read_107 : decode cX5_read 107 = .ok (.iload_n 3, 1) := by decide +kernel
theorem dX5_read_108 : decode cX5_read 108 = .ok (.baload, 1) := by decide +kernel
theorem dX5_read_109 : decode cX5_read 109 = .ok (.bipush 61, 2) := by decide +kernel
theorem dX5_read_111 : decode cX5_read 111 = .ok (.if_icmp .ne 13, 3) := by decide +kernel
theorem dX5_read_114 : decode cX5_read 114 = .ok (.aload_n 0, 1) := by decide +kernel
theorem dX5_read_115 : decode cX5_read 115 = .ok (.iload_n 3, 1) := by decide +kernel
theorem dX5_read_116 : decode cX5_read 116 = .ok (.invokevirtual 45, 3) := by decide +kernel
theorem dX5_read_119 : decode cX5_read 119 = .ok (.astore 4, 2) := by decide +kernel
theorem dX5_read_121 : decode cX5_read 121 = .ok (.goto 18, 3) := by decide +kernel
theorem dX5_read_124 : decode cX5_read 124 = .ok (.iload_n 3, 1) := by decide +kernel
theorem dX5_read_125 : decode cX5_read 125 = .ok (.aload_n 0, 1) := by decide +kernel
theorem dX5_read_126 : decode cX5_read 126 = .ok (.getfield 42, 3) := by decide +kernel
theorem dX5_read_129 : decode cX5_read 129 = .ok (.if_icmp .ge 10, 3) := by decide +kernel
theorem dX5_read_132 : decode cX5_read 132 = .ok (.aload_n 0, 1) := by decide +kernel
theorem dX5_read_133 : decode cX5_read 133 = .ok (.iload_n 3, 1) := by decide +kernel
theorem dX5_read_134 : decode cX5_read 134 = .ok (.invokevirtual 49, 3) := by decide +kernel
theorem dX5_read_137 : decode cX5_read 137 = .ok (.astore 4, 2) := by decide +kernel
theorem dX5_read_139 : decode cX5_read 139 = .ok (.aload_n 0, 1) := by decide +kernel
theorem dX5_read_140 : decode cX5_read 140 = .ok (.iconst 0, 1) := by decide +kernel
theorem dX5_read_141 : decode cX5_read 141 = .ok (.putfield 24, 3) := by decide +kernel
theorem dX5_read_144 : decode cX5_read 144 = .ok (.aload 4, 2) := by decide +kernel
theorem dX5_read_146 : decode cX5_read 146 = .ok (.areturn, 1) := by decide +kernel
set_option maxRecDepth 20000 in
theorem fl_X5_28 : FL RX5 28 5 11 false := ⟨RX5, TX5, cl_5, by decide, (gtb_in (List.mem_of_getElem? (i := 61) (by decide +kernel)) (by decide +kernel)), rfl⟩
set_option maxRecDepth 20000 in
theorem fl_X5_32 : FL RX5 32 5 12 false := ⟨RX5, TX5, cl_5, by decide, (gtb_in (List.mem_of_getElem? (i := 62) (by decide +kernel)) (by decide +kernel)), rfl⟩
set_option maxRecDepth 20000 in
theorem fl_X5_36 : FL RX5 36 5 4 false := ⟨RX5, TX5, cl_5, by decide, (gtb_in (List.mem_of_getElem? (i := 52) (by decide +kernel)) (by decide +kernel)), rfl⟩
set_option maxRecDepth 20000 in
theorem fl_X5_39 : FL RX5 39 5 5 false := ⟨RX5, TX5, cl_5, by decide, (gtb_in (List.mem_of_getElem? (i := 54) (by decide +kernel)) (by decide +kernel)), rfl⟩
set_option maxRecDepth 20000 in
theorem fl_X5_42 : FL RX5 42 5 8 false := ⟨RX5, TX5, cl_5, by decide, (gtb_in (List.mem_of_getElem? (i := 58) (by decide +kernel)) (by decide +kernel)), rfl⟩
def mX5_formula : MI := (yX5_formula, cX5_formula, 4, (some ((.object "SheetBranches$Content"))))
theorem qc_X5_formula : Cond.code mX5_formula.1 mX5_formula.2.1 mX5_formula.2.2.1 mX5_formula.2.2.2 ∈ gtb := (gtb_in (List.mem_of_getElem? (i := 1024) (by decide +kernel)) (by decide +kernel))
theorem qi_X5_formula : Cond.instanceMethod mX5_formula.1 ∈ gtb := (gtb_in (List.mem_of_getElem? (i := 1023) (by decide +kernel)) (by decide +kernel))
theorem qs_X5_formula : Cond.selects mX5_formula.1.cls mX5_formula.1 mX5_formula.1 ∈ gtb := (gtb_sel (q := (⟨"SheetBranches$Reader", "formula", "(I)LSheetBranches$Content;"⟩, 17)) (List.mem_of_getElem? (i := 53) (by decide +kernel)) (by decide +kernel))
theorem qd_X5_formula : dsc mX5_formula.1 1 := ⟨by decide +kernel, by decide +kernel, by decide +kernel⟩
set_option maxRecDepth 20000 in
theorem vl_X5_45 : VL RX5 45 5 mX5_formula 1 := ⟨⟨qc_X5_formula, (gtb_in (List.mem_of_getElem? (i := 1021) (by decide +kernel)) (by decide +kernel)), qi_X5_formula, qs_X5_formula, zw_5⟩, ⟨_, _, rfl⟩, by decide, qd_X5_formula, by decide⟩
def mX5_plain : MI := (yX5_plain, cX5_plain, 4, (some ((.object "SheetBranches$Content"))))
theorem qc_X5_plain : Cond.code mX5_plain.1 mX5_plain.2.1 mX5_plain.2.2.1 mX5_plain.2.2.2 ∈ gtb := (gtb_in (List.mem_of_getElem? (i := 1238) (by decide +kernel)) (by decide +kernel))
theorem qi_X5_plain : Cond.instanceMethod mX5_plain.1 ∈ gtb := (gtb_in (List.mem_of_getElem? (i := 1237) (by decide +kernel)) (by decide +kernel))
theorem qs_X5_plain : Cond.selects mX5_plain.1.cls mX5_plain.1 mX5_plain.1 ∈ gtb := (gtb_sel (q := (⟨"SheetBranches$Reader", "plain", "(I)LSheetBranches$Content;"⟩, 17)) (List.mem_of_getElem? (i := 77) (by decide +kernel)) (by decide +kernel))
theorem qd_X5_plain : dsc mX5_plain.1 1 := ⟨by decide +kernel, by decide +kernel, by decide +kernel⟩
set_option maxRecDepth 20000 in
theorem vl_X5_49 : VL RX5 49 5 mX5_plain 1 := ⟨⟨qc_X5_plain, (gtb_in (List.mem_of_getElem? (i := 1235) (by decide +kernel)) (by decide +kernel)), qi_X5_plain, qs_X5_plain, zw_5⟩, ⟨_, _, rfl⟩, by decide, qd_X5_plain, by decide⟩
theorem dX7_init_0 : decode cX7_init 0 = .ok (.aload_n 0, 1) := by decide +kernel
theorem dX7_init_1 : decode cX7_init 1 = .ok (.invokespecial 3, 3) := by decide +kernel
theorem dX7_init_4 : decode cX7_init 4 = .ok (.aload_n 0, 1) := by decide +kernel
theorem dX7_init_5 : decode cX7_init 5 = .ok (.bipush 40, 2) := by decide +kernel
theorem dX7_init_7 : decode cX7_init 7 = .ok (.anewarray 9, 3) := by decide +kernel
theorem dX7_init_10 : decode cX7_init 10 = .ok (.putfield 11, 3) := by decide +kernel
theorem dX7_init_13 : decode cX7_init 13 = .ok (.aload_n 0, 1) := by decide +kernel
theorem dX7_init_14 : decode cX7_init 14 = .ok (.bipush 40, 2) := by decide +kernel
theorem dX7_init_16 : decode cX7_init 16 = .ok (.anewarray 9, 3) := by decide +kernel
theorem dX7_init_19 : decode cX7_init 19 = .ok (.putfield 17, 3) := by decide +kernel
theorem dX7_init_22 : decode cX7_init 22 = .ok (.return_, 1) := by decide +kernel
set_option maxRecDepth 20000 in
theorem ol_X7_3 : Cond.methodLink RX7 3 objectInit ∈ gtb := (gtb_in (List.mem_of_getElem? (i := 302) (by decide +kernel)) (by decide +kernel))
set_option maxRecDepth 20000 in
theorem nl_X7_9 : Cond.classLink RX7 9 RX6 ∈ gtb := (gtb_in (List.mem_of_getElem? (i := 303) (by decide +kernel)) (by decide +kernel))
set_option maxRecDepth 20000 in
theorem fl_X7_11 : FL RX7 11 7 0 true := ⟨RX7, TX7, cl_7, by decide, (gtb_in (List.mem_of_getElem? (i := 304) (by decide +kernel)) (by decide +kernel)), rfl⟩
set_option maxRecDepth 20000 in
theorem fl_X7_17 : FL RX7 17 7 1 true := ⟨RX7, TX7, cl_7, by decide, (gtb_in (List.mem_of_getElem? (i := 305) (by decide +kernel)) (by decide +kernel)), rfl⟩
theorem dX7_forget_0 : decode cX7_forget 0 = .ok (.aload_n 0, 1) := by decide +kernel
theorem dX7_forget_1 : decode cX7_forget 1 = .ok (.iconst 0, 1) := by decide +kernel
theorem dX7_forget_2 : decode cX7_forget 2 = .ok (.putfield 20, 3) := by decide +kernel
theorem dX7_forget_5 : decode cX7_forget 5 = .ok (.aload_n 0, 1) := by decide +kernel
theorem dX7_forget_6 : decode cX7_forget 6 = .ok (.iconst 0, 1) := by decide +kernel
theorem dX7_forget_7 : decode cX7_forget 7 = .ok (.putfield 24, 3) := by decide +kernel
theorem dX7_forget_10 : decode cX7_forget 10 = .ok (.return_, 1) := by decide +kernel
set_option maxRecDepth 20000 in
theorem fl_X7_20 : FL RX7 20 7 2 false := ⟨RX7, TX7, cl_7, by decide, (gtb_in (List.mem_of_getElem? (i := 306) (by decide +kernel)) (by decide +kernel)), rfl⟩
set_option maxRecDepth 20000 in
theorem fl_X7_24 : FL RX7 24 7 3 false := ⟨RX7, TX7, cl_7, by decide, (gtb_in (List.mem_of_getElem? (i := 308) (by decide +kernel)) (by decide +kernel)), rfl⟩
theorem dX7_add_0 : decode cX7_add 0 = .ok (.aload_n 0, 1) := by decide +kernel
theorem dX7_add_1 : decode cX7_add 1 = .ok (.iconst 0, 1) := by decide +kernel
theorem dX7_add_2 : decode cX7_add 2 = .ok (.putfield 24, 3) := by decide +kernel
theorem dX7_add_5 : decode cX7_add 5 = .ok (.aload_n 0, 1) := by decide +kernel
theorem dX7_add_6 : decode cX7_add 6 = .ok (.getfield 20, 3) := by decide +kernel
theorem dX7_add_9 : decode cX7_add 9 = .ok (.bipush 40, 2) := by decide +kernel
theorem dX7_add_11 : decode cX7_add 11 = .ok (.if_icmp .lt 37, 3) := by decide +kernel
theorem dX7_add_14 : decode cX7_add 14 = .ok (.iconst 1, 1) := by decide +kernel
theorem dX7_add_15 : decode cX7_add 15 = .ok (.istore_n 2, 1) := by decide +kernel
theorem dX7_add_16 : decode cX7_add 16 = .ok (.iload_n 2, 1) := by decide +kernel
theorem dX7_add_17 : decode cX7_add 17 = .ok (.bipush 40, 2) := by decide +kernel
theorem dX7_add_19 : decode cX7_add 19 = .ok (.if_icmp .ge 23, 3) := by decide +kernel
theorem dX7_add_22 : decode cX7_add 22 = .ok (.aload_n 0, 1) := by decide +kernel
theorem dX7_add_23 : decode cX7_add 23 = .ok (.getfield 11, 3) := by decide +kernel
theorem dX7_add_26 : decode cX7_add 26 = .ok (.iload_n 2, 1) := by decide +kernel
theorem dX7_add_27 : decode cX7_add 27 = .ok (.iconst 1, 1) := by decide +kernel
theorem dX7_add_28 : decode cX7_add 28 = .ok (.isub, 1) := by decide +kernel
theorem dX7_add_29 : decode cX7_add 29 = .ok (.aload_n 0, 1) := by decide +kernel
theorem dX7_add_30 : decode cX7_add 30 = .ok (.getfield 11, 3) := by decide +kernel
theorem dX7_add_33 : decode cX7_add 33 = .ok (.iload_n 2, 1) := by decide +kernel
theorem dX7_add_34 : decode cX7_add 34 = .ok (.aaload, 1) := by decide +kernel
theorem dX7_add_35 : decode cX7_add 35 = .ok (.aastore, 1) := by decide +kernel
theorem dX7_add_36 : decode cX7_add 36 = .ok (.iinc 2 1, 3) := by decide +kernel
theorem dX7_add_39 : decode cX7_add 39 = .ok (.goto (-23), 3) := by decide +kernel
theorem dX7_add_42 : decode cX7_add 42 = .ok (.aload_n 0, 1) := by decide +kernel
theorem dX7_add_43 : decode cX7_add 43 = .ok (.bipush 39, 2) := by decide +kernel
theorem dX7_add_45 : decode cX7_add 45 = .ok (.putfield 20, 3) := by decide +kernel
theorem dX7_add_48 : decode cX7_add 48 = .ok (.aload_n 0, 1) := by decide +kernel
theorem dX7_add_49 : decode cX7_add 49 = .ok (.getfield 11, 3) := by decide +kernel
theorem dX7_add_52 : decode cX7_add 52 = .ok (.aload_n 0, 1) := by decide +kernel
theorem dX7_add_53 : decode cX7_add 53 = .ok (.getfield 20, 3) := by decide +kernel
theorem dX7_add_56 : decode cX7_add 56 = .ok (.aload_n 1, 1) := by decide +kernel
theorem dX7_add_57 : decode cX7_add 57 = .ok (.aastore, 1) := by decide +kernel
theorem dX7_add_58 : decode cX7_add 58 = .ok (.aload_n 0, 1) := by decide +kernel
theorem dX7_add_59 : decode cX7_add 59 = .ok (.dup, 1) := by decide +kernel
theorem dX7_add_60 : decode cX7_add 60 = .ok (.getfield 20, 3) := by decide +kernel
theorem dX7_add_63 : decode cX7_add 63 = .ok (.iconst 1, 1) := by decide +kernel
theorem dX7_add_64 : decode cX7_add 64 = .ok (.iadd, 1) := by decide +kernel
theorem dX7_add_65 : decode cX7_add 65 = .ok (.putfield 20, 3) := by decide +kernel
theorem dX7_add_68 : decode cX7_add 68 = .ok (.return_, 1) := by decide +kernel
theorem dX8_init_0 : decode cX8_init 0 = .ok (.aload_n 0, 1) := by decide +kernel
theorem dX8_init_1 : decode cX8_init 1 = .ok (.invokespecial 3, 3) := by decide +kernel
theorem dX8_init_4 : decode cX8_init 4 = .ok (.aload_n 0, 1) := by decide +kernel
theorem dX8_init_5 : decode cX8_init 5 = .ok (.iload_n 1, 1) := by decide +kernel
theorem dX8_init_6 : decode cX8_init 6 = .ok (.iconst 0, 1) := by decide +kernel
theorem dX8_init_7 : decode cX8_init 7 = .ok (.invokestatic 9, 3) := by decide +kernel
theorem dX8_init_10 : decode cX8_init 10 = .ok (.newarray .byte, 2) := by decide +kernel
theorem dX8_init_12 : decode cX8_init 12 = .ok (.putfield 15, 3) := by decide +kernel
theorem dX8_init_15 : decode cX8_init 15 = .ok (.return_, 1) := by decide +kernel
set_option maxRecDepth 20000 in
theorem ol_X8_3 : Cond.methodLink RX8 3 objectInit ∈ gtb := (gtb_in (List.mem_of_getElem? (i := 114) (by decide +kernel)) (by decide +kernel))
set_option maxRecDepth 20000 in
theorem sl_X8_9 : SL RX8 9 mJ9_max_7cf53 2 := ⟨⟨qc_J9_max_7cf53, (gtb_in (List.mem_of_getElem? (i := 115) (by decide +kernel)) (by decide +kernel)), qt_J9_max_7cf53, (gtb_in (List.mem_of_getElem? (i := 5) (by decide +kernel)) (by decide +kernel))⟩, qd_J9_max_7cf53, by decide⟩
set_option maxRecDepth 20000 in
theorem fl_X8_15 : FL RX8 15 8 0 true := ⟨RX8, TX8, cl_8, by decide, (gtb_in (List.mem_of_getElem? (i := 118) (by decide +kernel)) (by decide +kernel)), rfl⟩
theorem dX9_init_0 : decode cX9_init 0 = .ok (.aload_n 0, 1) := by decide +kernel
theorem dX9_init_1 : decode cX9_init 1 = .ok (.invokespecial 3, 3) := by decide +kernel
theorem dX9_init_4 : decode cX9_init 4 = .ok (.aload_n 0, 1) := by decide +kernel
theorem dX9_init_5 : decode cX9_init 5 = .ok (.bipush 60, 2) := by decide +kernel
theorem dX9_init_7 : decode cX9_init 7 = .ok (.anewarray 9, 3) := by decide +kernel
theorem dX9_init_10 : decode cX9_init 10 = .ok (.putfield 11, 3) := by decide +kernel
theorem dX9_init_13 : decode cX9_init 13 = .ok (.aload_n 0, 1) := by decide +kernel
theorem dX9_init_14 : decode cX9_init 14 = .ok (.new 9, 3) := by decide +kernel
theorem dX9_init_17 : decode cX9_init 17 = .ok (.dup, 1) := by decide +kernel
theorem dX9_init_18 : decode cX9_init 18 = .ok (.iconst 0, 1) := by decide +kernel
theorem dX9_init_19 : decode cX9_init 19 = .ok (.invokespecial 17, 3) := by decide +kernel
theorem dX9_init_22 : decode cX9_init 22 = .ok (.putfield 20, 3) := by decide +kernel
theorem dX9_init_25 : decode cX9_init 25 = .ok (.aload_n 0, 1) := by decide +kernel
theorem dX9_init_26 : decode cX9_init 26 = .ok (.sipush 1600, 3) := by decide +kernel
theorem dX9_init_29 : decode cX9_init 29 = .ok (.newarray .long, 2) := by decide +kernel
theorem dX9_init_31 : decode cX9_init 31 = .ok (.putfield 24, 3) := by decide +kernel
theorem dX9_init_34 : decode cX9_init 34 = .ok (.aload_n 0, 1) := by decide +kernel
theorem dX9_init_35 : decode cX9_init 35 = .ok (.sipush 1600, 3) := by decide +kernel
theorem dX9_init_38 : decode cX9_init 38 = .ok (.newarray .long, 2) := by decide +kernel
theorem dX9_init_40 : decode cX9_init 40 = .ok (.putfield 28, 3) := by decide +kernel
theorem dX9_init_43 : decode cX9_init 43 = .ok (.aload_n 0, 1) := by decide +kernel
theorem dX9_init_44 : decode cX9_init 44 = .ok (.iconst 5, 1) := by decide +kernel
theorem dX9_init_45 : decode cX9_init 45 = .ok (.newarray .long, 2) := by decide +kernel
theorem dX9_init_47 : decode cX9_init 47 = .ok (.putfield 31, 3) := by decide +kernel
theorem dX9_init_50 : decode cX9_init 50 = .ok (.aload_n 0, 1) := by decide +kernel
theorem dX9_init_51 : decode cX9_init 51 = .ok (.sipush 320, 3) := by decide +kernel
theorem dX9_init_54 : decode cX9_init 54 = .ok (.newarray .int, 2) := by decide +kernel
theorem dX9_init_56 : decode cX9_init 56 = .ok (.putfield 34, 3) := by decide +kernel
theorem dX9_init_59 : decode cX9_init 59 = .ok (.aload_n 0, 1) := by decide +kernel
theorem dX9_init_60 : decode cX9_init 60 = .ok (.sipush 320, 3) := by decide +kernel
theorem dX9_init_63 : decode cX9_init 63 = .ok (.newarray .int, 2) := by decide +kernel
theorem dX9_init_65 : decode cX9_init 65 = .ok (.putfield 38, 3) := by decide +kernel
theorem dX9_init_68 : decode cX9_init 68 = .ok (.aload_n 0, 1) := by decide +kernel
theorem dX9_init_69 : decode cX9_init 69 = .ok (.aload_n 1, 1) := by decide +kernel
theorem dX9_init_70 : decode cX9_init 70 = .ok (.putfield 41, 3) := by decide +kernel
theorem dX9_init_73 : decode cX9_init 73 = .ok (.iconst 0, 1) := by decide +kernel
theorem dX9_init_74 : decode cX9_init 74 = .ok (.istore_n 2, 1) := by decide +kernel
theorem dX9_init_75 : decode cX9_init 75 = .ok (.iload_n 2, 1) := by decide +kernel
theorem dX9_init_76 : decode cX9_init 76 = .ok (.aload_n 0, 1) := by decide +kernel
theorem dX9_init_77 : decode cX9_init 77 = .ok (.getfield 11, 3) := by decide +kernel
theorem dX9_init_80 : decode cX9_init 80 = .ok (.arraylength, 1) := by decide +kernel
theorem dX9_init_81 : decode cX9_init 81 = .ok (.if_icmp .ge 24, 3) := by decide +kernel
theorem dX9_init_84 : decode cX9_init 84 = .ok (.aload_n 0, 1) := by decide +kernel
theorem dX9_init_85 : decode cX9_init 85 = .ok (.getfield 11, 3) := by decide +kernel
theorem dX9_init_88 : decode cX9_init 88 = .ok (.iload_n 2, 1) := by decide +kernel
theorem dX9_init_89 : decode cX9_init 89 = .ok (.new 9, 3) := by decide +kernel
theorem dX9_init_92 : decode cX9_init 92 = .ok (.dup, 1) := by decide +kernel
theorem dX9_init_93 : decode cX9_init 93 = .ok (.bipush 24, 2) := by decide +kernel
theorem dX9_init_95 : decode cX9_init 95 = .ok (.invokespecial 17, 3) := by decide +kernel
theorem dX9_init_98 : decode cX9_init 98 = .ok (.aastore, 1) := by decide +kernel
theorem dX9_init_99 : decode cX9_init 99 = .ok (.iinc 2 1, 3) := by decide +kernel
theorem dX9_init_102 : decode cX9_init 102 = .ok (.goto (-27), 3) := by decide +kernel
theorem dX9_init_105 : decode cX9_init 105 = .ok (.return_, 1) := by decide +kernel
set_option maxRecDepth 20000 in
theorem ol_X9_3 : Cond.methodLink RX9 3 objectInit ∈ gtb := (gtb_in (List.mem_of_getElem? (i := 201) (by decide +kernel)) (by decide +kernel))
set_option maxRecDepth 20000 in
theorem nl_X9_9 : Cond.classLink RX9 9 RX8 ∈ gtb := (gtb_in (List.mem_of_getElem? (i := 202) (by decide +kernel)) (by decide +kernel))
set_option maxRecDepth 20000 in
theorem fl_X9_11 : FL RX9 11 9 1 true := ⟨RX9, TX9, cl_9, by decide, (gtb_in (List.mem_of_getElem? (i := 206) (by decide +kernel)) (by decide +kernel)), rfl⟩
set_option maxRecDepth 20000 in
theorem il_X9_17 : IL RX9 17 mX8_init 1 := ⟨⟨qc_X8_init, (gtb_in (List.mem_of_getElem? (i := 204) (by decide +kernel)) (by decide +kernel)), qi_X8_init, zw_8⟩, rfl, rfl, qd_X8_init, by decide⟩
set_option maxRecDepth 20000 in
theorem fl_X9_20 : FL RX9 20 9 2 true := ⟨RX9, TX9, cl_9, by decide, (gtb_in (List.mem_of_getElem? (i := 207) (by decide +kernel)) (by decide +kernel)), rfl⟩
set_option maxRecDepth 20000 in
theorem fl_X9_24 : FL RX9 24 9 3 true := ⟨RX9, TX9, cl_9, by decide, (gtb_in (List.mem_of_getElem? (i := 208) (by decide +kernel)) (by decide +kernel)), rfl⟩
set_option maxRecDepth 20000 in
theorem fl_X9_28 : FL RX9 28 9 4 true := ⟨RX9, TX9, cl_9, by decide, (gtb_in (List.mem_of_getElem? (i := 209) (by decide +kernel)) (by decide +kernel)), rfl⟩
set_option maxRecDepth 20000 in
theorem fl_X9_31 : FL RX9 31 9 5 true := ⟨RX9, TX9, cl_9, by decide, (gtb_in (List.mem_of_getElem? (i := 210) (by decide +kernel)) (by decide +kernel)), rfl⟩
set_option maxRecDepth 20000 in
theorem fl_X9_34 : FL RX9 34 9 6 true := ⟨RX9, TX9, cl_9, by decide, (gtb_in (List.mem_of_getElem? (i := 211) (by decide +kernel)) (by decide +kernel)), rfl⟩
set_option maxRecDepth 20000 in
theorem fl_X9_38 : FL RX9 38 9 7 true := ⟨RX9, TX9, cl_9, by decide, (gtb_in (List.mem_of_getElem? (i := 212) (by decide +kernel)) (by decide +kernel)), rfl⟩
set_option maxRecDepth 20000 in
theorem fl_X9_41 : FL RX9 41 9 0 true := ⟨RX9, TX9, cl_9, by decide, (gtb_in (List.mem_of_getElem? (i := 205) (by decide +kernel)) (by decide +kernel)), rfl⟩
theorem dX9_work_0 : decode cX9_work 0 = .ok (.aload_n 0, 1) := by decide +kernel
theorem dX9_work_1 : decode cX9_work 1 = .ok (.aload_n 1, 1) := by decide +kernel
theorem dX9_work_2 : decode cX9_work 2 = .ok (.putfield 45, 3) := by decide +kernel
theorem dX9_work_5 : decode cX9_work 5 = .ok (.aload_n 0, 1) := by decide +kernel
theorem dX9_work_6 : decode cX9_work 6 = .ok (.getfield 45, 3) := by decide +kernel
theorem dX9_work_9 : decode cX9_work 9 = .ok (.aload_n 2, 1) := by decide +kernel
theorem dX9_work_10 : decode cX9_work 10 = .ok (.putfield 49, 3) := by decide +kernel
theorem dX9_work_13 : decode cX9_work 13 = .ok (.aload_n 0, 1) := by decide +kernel
theorem dX9_work_14 : decode cX9_work 14 = .ok (.getfield 31, 3) := by decide +kernel
theorem dX9_work_17 : decode cX9_work 17 = .ok (.iconst 0, 1) := by decide +kernel
theorem dX9_work_18 : decode cX9_work 18 = .ok (.invokestatic 54, 3) := by decide +kernel
theorem dX9_work_21 : decode cX9_work 21 = .ok (.aload_n 0, 1) := by decide +kernel
theorem dX9_work_22 : decode cX9_work 22 = .ok (.getfield 45, 3) := by decide +kernel
theorem dX9_work_25 : decode cX9_work 25 = .ok (.getfield 58, 3) := by decide +kernel
theorem dX9_work_28 : decode cX9_work 28 = .ok (.arraylength, 1) := by decide +kernel
theorem dX9_work_29 : decode cX9_work 29 = .ok (.aload_n 2, 1) := by decide +kernel
theorem dX9_work_30 : decode cX9_work 30 = .ok (.arraylength, 1) := by decide +kernel
theorem dX9_work_31 : decode cX9_work 31 = .ok (.invokestatic 62, 3) := by decide +kernel
theorem dX9_work_34 : decode cX9_work 34 = .ok (.sipush 320, 3) := by decide +kernel
theorem dX9_work_37 : decode cX9_work 37 = .ok (.invokestatic 62, 3) := by decide +kernel
theorem dX9_work_40 : decode cX9_work 40 = .ok (.istore_n 3, 1) := by decide +kernel
theorem dX9_work_41 : decode cX9_work 41 = .ok (.iconst 0, 1) := by decide +kernel
theorem dX9_work_42 : decode cX9_work 42 = .ok (.istore 4, 2) := by decide +kernel
theorem dX9_work_44 : decode cX9_work 44 = .ok (.iload 4, 2) := by decide +kernel
theorem dX9_work_46 : decode cX9_work 46 = .ok (.iload_n 3, 1) := by decide +kernel
theorem dX9_work_47 : decode cX9_work 47 = .ok (.if_icmp .ge 78, 3) := by decide +kernel
theorem dX9_work_50 : decode cX9_work 50 = .ok (.aload_n 0, 1) := by decide +kernel
theorem dX9_work_51 : decode cX9_work 51 = .ok (.getfield 45, 3) := by decide +kernel
theorem dX9_work_54 : decode cX9_work 54 = .ok (.getfield 58, 3) := by decide +kernel
theorem dX9_work_57 : decode cX9_work 57 = .ok (.iload 4, 2) := by decide +kernel
theorem dX9_work_59 : decode cX9_work 59 = .ok (.aaload, 1) := by decide +kernel
theorem dX9_work_60 : decode cX9_work 60 = .ok (.invokestatic 68, 3) := by decide +kernel
theorem dX9_work_63 : decode cX9_work 63 = .ok (.ifCond .eq 56, 3) := by decide +kernel
theorem dX9_work_66 : decode cX9_work 66 = .ok (.aload_n 2, 1) := by decide +kernel
theorem dX9_work_67 : decode cX9_work 67 = .ok (.iload 4, 2) := by decide +kernel
theorem dX9_work_69 : decode cX9_work 69 = .ok (.aload_n 2, 1) := by decide +kernel
theorem dX9_work_70 : decode cX9_work 70 = .ok (.iload 4, 2) := by decide +kernel
theorem dX9_work_72 : decode cX9_work 72 = .ok (.aaload, 1) := by decide +kernel
theorem dX9_work_73 : decode cX9_work 73 = .ok (.ifnull 10, 3) := by decide +kernel
theorem dX9_work_76 : decode cX9_work 76 = .ok (.aload_n 2, 1) := by decide +kernel
theorem dX9_work_77 : decode cX9_work 77 = .ok (.iload 4, 2) := by decide +kernel
theorem dX9_work_79 : decode cX9_work 79 = .ok (.aaload, 1) := by decide +kernel
theorem dX9_work_80 : decode cX9_work 80 = .ok (.goto 12, 3) := by decide +kernel
theorem dX9_work_83 : decode cX9_work 83 = .ok (.new 9, 3) := by decide +kernel
theorem dX9_work_86 : decode cX9_work 86 = .ok (.dup, 1) := by decide +kernel
theorem dX9_work_87 : decode cX9_work 87 = .ok (.bipush 24, 2) := by decide +kernel
theorem dX9_work_89 : decode cX9_work 89 = .ok (.invokespecial 17, 3) := by decide +kernel
theorem dX9_work_92 : decode cX9_work 92 = .ok (.aastore, 1) := by decide +kernel
theorem dX9_work_93 : decode cX9_work 93 = .ok (.aload_n 0, 1) := by decide +kernel
theorem dX9_work_94 : decode cX9_work 94 = .ok (.getfield 31, 3) := by decide +kernel
theorem dX9_work_97 : decode cX9_work 97 = .ok (.iload 4, 2) := by decide +kernel
theorem dX9_work_99 : decode cX9_work 99 = .ok (.bipush 64, 2) := by decide +kernel
theorem dX9_work_101 : decode cX9_work 101 = .ok (.idiv, 1) := by decide +kernel
theorem dX9_work_102 : decode cX9_work 102 = .ok (.dup2, 1) := by decide +kernel
theorem dX9_work_103 : decode cX9_work 103 = .ok (.laload, 1) := by decide +kernel
theorem dX9_work_104 : decode cX9_work 104 = .ok (.lconst 1, 1) := by decide +kernel
theorem dX9_work_105 : decode cX9_work 105 = .ok (.iload 4, 2) := by decide +kernel
theorem dX9_work_107 : decode cX9_work 107 = .ok (.bipush 64, 2) := by decide +kernel
theorem dX9_work_109 : decode cX9_work 109 = .ok (.irem, 1) := by decide +kernel
theorem dX9_work_110 : decode cX9_work 110 = .ok (.lshl, 1) := by decide +kernel
theorem dX9_work_111 : decode cX9_work 111 = .ok (.lor, 1) := by decide +kernel
theorem dX9_work_112 : decode cX9_work 112 = .ok (.lastore, 1) := by decide +kernel
theorem dX9_work_113 : decode cX9_work 113 = .ok (.aload_n 0, 1) := by decide +kernel
theorem dX9_work_114 : decode cX9_work 114 = .ok (.iload 4, 2) := by decide +kernel
theorem dX9_work_116 : decode cX9_work 116 = .ok (.invokevirtual 72, 3) := by decide +kernel
theorem dX9_work_119 : decode cX9_work 119 = .ok (.iinc 4 1, 3) := by decide +kernel
theorem dX9_work_122 : decode cX9_work 122 = .ok (.goto (-78), 3) := by decide +kernel
theorem dX9_work_125 : decode cX9_work 125 = .ok (.aload_n 0, 1) := by decide +kernel
theorem dX9_work_126 : decode cX9_work 126 = .ok (.iload_n 3, 1) := by decide +kernel
theorem dX9_work_127 : decode cX9_work 127 = .ok (.invokevirtual 75, 3) := by decide +kernel
theorem dX9_work_130 : decode cX9_work 130 = .ok (.aload_n 0, 1) := by decide +kernel
theorem dX9_work_131 : decode cX9_work 131 = .ok (.iload_n 3, 1) := by decide +kernel
theorem dX9_work_132 : decode cX9_work 132 = .ok (.invokevirtual 78, 3) := by decide +kernel
theorem dX9_work_135 : decode cX9_work 135 = .ok (.istore 4, 2) := by decide +kernel
theorem dX9_work_137 : decode cX9_work 137 = .ok (.iconst 0, 1) := by decide +kernel
theorem dX9_work_138 : decode cX9_work 138 = .ok (.istore 5, 2) := by decide +kernel
theorem dX9_work_140 : decode cX9_work 140 = .ok (.iload 5, 2) := by decide +kernel
theorem dX9_work_142 : decode cX9_work 142 = .ok (.iload 4, 2) := by decide +kernel
theorem dX9_work_144 : decode cX9_work 144 = .ok (.if_icmp .ge 20, 3) := by decide +kernel
theorem dX9_work_147 : decode cX9_work 147 = .ok (.aload_n 0, 1) := by decide +kernel
theorem dX9_work_148 : decode cX9_work 148 = .ok (.aload_n 0, 1) := by decide +kernel
theorem dX9_work_149 : decode cX9_work 149 = .ok (.getfield 38, 3) := by decide +kernel
theorem dX9_work_152 : decode cX9_work 152 = .ok (.iload 5, 2) := by decide +kernel
theorem dX9_work_154 : decode cX9_work 154 = .ok (.iaload, 1) := by decide +kernel
theorem dX9_work_155 : decode cX9_work 155 = .ok (.invokevirtual 82, 3) := by decide +kernel
theorem dX9_work_158 : decode cX9_work 158 = .ok (.iinc 5 1, 3) := by decide +kernel
theorem dX9_work_161 : decode cX9_work 161 = .ok (.goto (-21), 3) := by decide +kernel
theorem dX9_work_164 : decode cX9_work 164 = .ok (.return_, 1) := by decide +kernel
set_option maxRecDepth 20000 in
theorem fl_X9_45 : FL RX9 45 9 8 false := ⟨RX9, TX9, cl_9, by decide, (gtb_in (List.mem_of_getElem? (i := 213) (by decide +kernel)) (by decide +kernel)), rfl⟩
set_option maxRecDepth 20000 in
theorem fl_X9_49 : FL RX9 49 6 3 false := ⟨RX6, TX6, cl_6, by decide, (gtb_in (List.mem_of_getElem? (i := 343) (by decide +kernel)) (by decide +kernel)), rfl⟩
set_option maxRecDepth 20000 in
theorem sl_X9_54 : SL RX9 54 mX9_clear 2 := ⟨⟨qc_X9_clear, (gtb_in (List.mem_of_getElem? (i := 526) (by decide +kernel)) (by decide +kernel)), qt_X9_clear, zw_9⟩, qd_X9_clear, by decide⟩
set_option maxRecDepth 20000 in
theorem fl_X9_58 : FL RX9 58 6 2 true := ⟨RX6, TX6, cl_6, by decide, (gtb_in (List.mem_of_getElem? (i := 341) (by decide +kernel)) (by decide +kernel)), rfl⟩
set_option maxRecDepth 20000 in
theorem sl_X9_62 : SL RX9 62 mJ9_min_7cf53 2 := ⟨⟨qc_J9_min_7cf53, (gtb_in (List.mem_of_getElem? (i := 529) (by decide +kernel)) (by decide +kernel)), qt_J9_min_7cf53, (gtb_in (List.mem_of_getElem? (i := 5) (by decide +kernel)) (by decide +kernel))⟩, qd_J9_min_7cf53, by decide⟩
def mX11_isFormula : MI := (yX11_isFormula, cX11_isFormula, 1, (some .boolean))
theorem qc_X11_isFormula : Cond.code mX11_isFormula.1 mX11_isFormula.2.1 mX11_isFormula.2.2.1 mX11_isFormula.2.2.2 ∈ gtb := (gtb_in (List.mem_of_getElem? (i := 534) (by decide +kernel)) (by decide +kernel))
theorem qt_X11_isFormula : Cond.static mX11_isFormula.1 ∈ gtb := (gtb_in (List.mem_of_getElem? (i := 533) (by decide +kernel)) (by decide +kernel))
theorem qd_X11_isFormula : dsc mX11_isFormula.1 1 := ⟨by decide +kernel, by decide +kernel, by decide +kernel⟩
set_option maxRecDepth 20000 in
theorem snl_X9_68 : SNL RX9 68 "SheetBranches" mX11_isFormula 1 := ⟨⟨qc_X11_isFormula, (List.mem_of_getElem? (i := 532) (by decide +kernel)), qt_X11_isFormula, zw_11⟩, qd_X11_isFormula, by decide⟩
def mX9_findLeads : MI := (yX9_findLeads, cX9_findLeads, 7, none)
theorem qc_X9_findLeads : Cond.code mX9_findLeads.1 mX9_findLeads.2.1 mX9_findLeads.2.2.1 mX9_findLeads.2.2.2 ∈ gtb := (gtb_in (List.mem_of_getElem? (i := 538) (by decide +kernel)) (by decide +kernel))
theorem qi_X9_findLeads : Cond.instanceMethod mX9_findLeads.1 ∈ gtb := (gtb_in (List.mem_of_getElem? (i := 537) (by decide +kernel)) (by decide +kernel))
theorem qs_X9_findLeads : Cond.selects mX9_findLeads.1.cls mX9_findLeads.1 mX9_findLeads.1 ∈ gtb := (gtb_sel (q := (⟨"SheetBranches$Worker", "findLeads", "(I)V"⟩, 21)) (List.mem_of_getElem? (i := 6) (by decide +kernel)) (by decide +kernel))
theorem qd_X9_findLeads : dsc mX9_findLeads.1 1 := ⟨by decide +kernel, by decide +kernel, by decide +kernel⟩
set_option maxRecDepth 20000 in
theorem vl_X9_72 : VL RX9 72 9 mX9_findLeads 1 := ⟨⟨qc_X9_findLeads, (gtb_in (List.mem_of_getElem? (i := 535) (by decide +kernel)) (by decide +kernel)), qi_X9_findLeads, qs_X9_findLeads, zw_9⟩, ⟨_, _, rfl⟩, by decide, qd_X9_findLeads, by decide⟩
set_option maxRecDepth 20000 in
theorem vl_X9_75 : VL RX9 75 9 mX9_settleCircles 1 := ⟨⟨qc_X9_settleCircles, (gtb_in (List.mem_of_getElem? (i := 553) (by decide +kernel)) (by decide +kernel)), qi_X9_settleCircles, qs_X9_settleCircles, zw_9⟩, ⟨_, _, rfl⟩, by decide, qd_X9_settleCircles, by decide⟩
set_option maxRecDepth 20000 in
theorem vl_X9_78 : VL RX9 78 9 mX9_putInOrder 1 := ⟨⟨qc_X9_putInOrder, (gtb_in (List.mem_of_getElem? (i := 578) (by decide +kernel)) (by decide +kernel)), qi_X9_putInOrder, qs_X9_putInOrder, zw_9⟩, ⟨_, _, rfl⟩, by decide, qd_X9_putInOrder, by decide⟩
def mX9_workCell : MI := (yX9_workCell, cX9_workCell, 4, none)
theorem qc_X9_workCell : Cond.code mX9_workCell.1 mX9_workCell.2.1 mX9_workCell.2.2.1 mX9_workCell.2.2.2 ∈ gtb := (gtb_in (List.mem_of_getElem? (i := 595) (by decide +kernel)) (by decide +kernel))
theorem qi_X9_workCell : Cond.instanceMethod mX9_workCell.1 ∈ gtb := (gtb_in (List.mem_of_getElem? (i := 594) (by decide +kernel)) (by decide +kernel))
theorem qs_X9_workCell : Cond.selects mX9_workCell.1.cls mX9_workCell.1 mX9_workCell.1 ∈ gtb := (gtb_sel (q := (⟨"SheetBranches$Worker", "workCell", "(I)V"⟩, 21)) (List.mem_of_getElem? (i := 15) (by decide +kernel)) (by decide +kernel))
theorem qd_X9_workCell : dsc mX9_workCell.1 1 := ⟨by decide +kernel, by decide +kernel, by decide +kernel⟩
set_option maxRecDepth 20000 in
theorem vl_X9_82 : VL RX9 82 9 mX9_workCell 1 := ⟨⟨qc_X9_workCell, (gtb_in (List.mem_of_getElem? (i := 592) (by decide +kernel)) (by decide +kernel)), qi_X9_workCell, qs_X9_workCell, zw_9⟩, ⟨_, _, rfl⟩, by decide, qd_X9_workCell, by decide⟩
theorem dX9_clear_0 : decode cX9_clear 0 = .ok (.iload_n 1, 1) := by decide +kernel
theorem dX9_clear_1 : decode cX9_clear 1 = .ok (.istore_n 2, 1) := by decide +kernel
theorem dX9_clear_2 : decode cX9_clear 2 = .ok (.iload_n 2, 1) := by decide +kernel
theorem dX9_clear_3 : decode cX9_clear 3 = .ok (.iload_n 1, 1) := by decide +kernel
theorem dX9_clear_4 : decode cX9_clear 4 = .ok (.iconst 5, 1) := by decide +kernel
theorem dX9_clear_5 : decode cX9_clear 5 = .ok (.iadd, 1) := by decide +kernel
theorem dX9_clear_6 : decode cX9_clear 6 = .ok (.if_icmp .ge 19, 3) := by decide +kernel
theorem dX9_clear_9 : decode cX9_clear 9 = .ok (.iload_n 2, 1) := by decide +kernel
theorem dX9_clear_10 : decode cX9_clear 10 = .ok (.aload_n 0, 1) := by decide +kernel
theorem dX9_clear_11 : decode cX9_clear 11 = .ok (.arraylength, 1) := by decide +kernel
theorem dX9_clear_12 : decode cX9_clear 12 = .ok (.if_icmp .ge 13, 3) := by decide +kernel
theorem dX9_clear_15 : decode cX9_clear 15 = .ok (.aload_n 0, 1) := by decide +kernel
theorem dX9_clear_16 : decode cX9_clear 16 = .ok (.iload_n 2, 1) := by decide +kernel
theorem dX9_clear_17 : decode cX9_clear 17 = .ok (.lconst 0, 1) := by decide +kernel
theorem dX9_clear_18 : decode cX9_clear 18 = .ok (.lastore, 1) := by decide +kernel
theorem dX9_clear_19 : decode cX9_clear 19 = .ok (.iinc 2 1, 3) := by decide +kernel
theorem dX9_clear_22 : decode cX9_clear 22 = .ok (.goto (-20), 3) := by decide +kernel
theorem dX9_clear_25 : decode cX9_clear 25 = .ok (.return_, 1) := by decide +kernel
theorem dX9_settleCircles_0 : decode cX9_settleCircles 0 = .ok (.aload_n 0, 1) := by decide +kernel
theorem dX9_settleCircles_1 : decode cX9_settleCircles 1 = .ok (.getfield 24, 3) := by decide +kernel
theorem dX9_settleCircles_4 : decode cX9_settleCircles 4 = .ok (.iconst 0, 1) := by decide +kernel
theorem dX9_settleCircles_5 : decode cX9_settleCircles 5 = .ok (.aload_n 0, 1) := by decide +kernel
theorem dX9_settleCircles_6 : decode cX9_settleCircles 6 = .ok (.getfield 28, 3) := by decide +kernel
theorem dX9_settleCircles_9 : decode cX9_settleCircles 9 = .ok (.iconst 0, 1) := by decide +kernel
theorem dX9_settleCircles_10 : decode cX9_settleCircles 10 = .ok (.iload_n 1, 1) := by decide +kernel
theorem dX9_settleCircles_11 : decode cX9_settleCircles 11 = .ok (.iconst 5, 1) := by decide +kernel
theorem dX9_settleCircles_12 : decode cX9_settleCircles 12 = .ok (.imul, 1) := by decide +kernel
theorem dX9_settleCircles_13 : decode cX9_settleCircles 13 = .ok (.invokestatic 130, 3) := by decide +kernel
theorem dX9_settleCircles_16 : decode cX9_settleCircles 16 = .ok (.iconst 0, 1) := by decide +kernel
theorem dX9_settleCircles_17 : decode cX9_settleCircles 17 = .ok (.istore_n 2, 1) := by decide +kernel
theorem dX9_settleCircles_18 : decode cX9_settleCircles 18 = .ok (.iload_n 2, 1) := by decide +kernel
theorem dX9_settleCircles_19 : decode cX9_settleCircles 19 = .ok (.iload_n 1, 1) := by decide +kernel
theorem dX9_settleCircles_20 : decode cX9_settleCircles 20 = .ok (.if_icmp .ge 87, 3) := by decide +kernel
theorem dX9_settleCircles_23 : decode cX9_settleCircles 23 = .ok (.iconst 0, 1) := by decide +kernel
theorem dX9_settleCircles_24 : decode cX9_settleCircles 24 = .ok (.istore_n 3, 1) := by decide +kernel
theorem dX9_settleCircles_25 : decode cX9_settleCircles 25 = .ok (.iload_n 3, 1) := by decide +kernel
theorem dX9_settleCircles_26 : decode cX9_settleCircles 26 = .ok (.iload_n 1, 1) := by decide +kernel
theorem dX9_settleCircles_27 : decode cX9_settleCircles 27 = .ok (.if_icmp .ge 74, 3) := by decide +kernel
theorem dX9_settleCircles_30 : decode cX9_settleCircles 30 = .ok (.aload_n 0, 1) := by decide +kernel
theorem dX9_settleCircles_31 : decode cX9_settleCircles 31 = .ok (.iload_n 2, 1) := by decide +kernel
theorem dX9_settleCircles_32 : decode cX9_settleCircles 32 = .ok (.invokevirtual 136, 3) := by decide +kernel
theorem dX9_settleCircles_35 : decode cX9_settleCircles 35 = .ok (.ifCond .eq 66, 3) := by decide +kernel
theorem dX9_settleCircles_38 : decode cX9_settleCircles 38 = .ok (.aload_n 0, 1) := by decide +kernel
theorem dX9_settleCircles_39 : decode cX9_settleCircles 39 = .ok (.iload_n 3, 1) := by decide +kernel
theorem dX9_settleCircles_40 : decode cX9_settleCircles 40 = .ok (.invokevirtual 136, 3) := by decide +kernel
theorem dX9_settleCircles_43 : decode cX9_settleCircles 43 = .ok (.ifCond .eq 52, 3) := by decide +kernel
theorem dX9_settleCircles_46 : decode cX9_settleCircles 46 = .ok (.aload_n 0, 1) := by decide +kernel
theorem dX9_settleCircles_47 : decode cX9_settleCircles 47 = .ok (.iload_n 3, 1) := by decide +kernel
theorem dX9_settleCircles_48 : decode cX9_settleCircles 48 = .ok (.iload_n 2, 1) := by decide +kernel
theorem dX9_settleCircles_49 : decode cX9_settleCircles 49 = .ok (.invokevirtual 139, 3) := by decide +kernel
theorem dX9_settleCircles_52 : decode cX9_settleCircles 52 = .ok (.ifCond .eq 43, 3) := by decide +kernel
theorem dX9_settleCircles_55 : decode cX9_settleCircles 55 = .ok (.iconst 0, 1) := by decide +kernel
theorem dX9_settleCircles_56 : decode cX9_settleCircles 56 = .ok (.istore 4, 2) := by decide +kernel
theorem dX9_settleCircles_58 : decode cX9_settleCircles 58 = .ok (.iload 4, 2) := by decide +kernel
theorem dX9_settleCircles_60 : decode cX9_settleCircles 60 = .ok (.iconst 5, 1) := by decide +kernel
theorem dX9_settleCircles_61 : decode cX9_settleCircles 61 = .ok (.if_icmp .ge 34, 3) := by decide +kernel
theorem dX9_settleCircles_64 : decode cX9_settleCircles 64 = .ok (.aload_n 0, 1) := by decide +kernel
theorem dX9_settleCircles_65 : decode cX9_settleCircles 65 = .ok (.getfield 28, 3) := by decide +kernel
theorem dX9_settleCircles_68 : decode cX9_settleCircles 68 = .ok (.iload_n 3, 1) := by decide +kernel
theorem dX9_settleCircles_69 : decode cX9_settleCircles 69 = .ok (.iconst 5, 1) := by decide +kernel
theorem dX9_settleCircles_70 : decode cX9_settleCircles 70 = .ok (.imul, 1) := by decide +kernel
theorem dX9_settleCircles_71 : decode cX9_settleCircles 71 = .ok (.iload 4, 2) := by decide +kernel
theorem dX9_settleCircles_73 : decode cX9_settleCircles 73 = .ok (.iadd, 1) := by decide +kernel
theorem dX9_settleCircles_74 : decode cX9_settleCircles 74 = .ok (.dup2, 1) := by decide +kernel
theorem dX9_settleCircles_75 : decode cX9_settleCircles 75 = .ok (.laload, 1) := by decide +kernel
theorem dX9_settleCircles_76 : decode cX9_settleCircles 76 = .ok (.aload_n 0, 1) := by decide +kernel
theorem dX9_settleCircles_77 : decode cX9_settleCircles 77 = .ok (.getfield 28, 3) := by decide +kernel
theorem dX9_settleCircles_80 : decode cX9_settleCircles 80 = .ok (.iload_n 2, 1) := by decide +kernel
theorem dX9_settleCircles_81 : decode cX9_settleCircles 81 = .ok (.iconst 5, 1) := by decide +kernel
theorem dX9_settleCircles_82 : decode cX9_settleCircles 82 = .ok (.imul, 1) := by decide +kernel
theorem dX9_settleCircles_83 : decode cX9_settleCircles 83 = .ok (.iload 4, 2) := by decide +kernel
theorem dX9_settleCircles_85 : decode cX9_settleCircles 85 = .ok (.iadd, 1) := by decide +kernel
theorem dX9_settleCircles_86 : decode cX9_settleCircles 86 = .ok (.laload, 1) := by decide +kernel
theorem dX9_settleCircles_87 : decode cX9_settleCircles 87 = .ok (.lor, 1) := by decide +kernel
theorem dX9_settleCircles_88 : decode cX9_settleCircles 88 = .ok (.lastore, 1) := by decide +kernel
theorem dX9_settleCircles_89 : decode cX9_settleCircles 89 = .ok (.iinc 4 1, 3) := by decide +kernel
theorem dX9_settleCircles_92 : decode cX9_settleCircles 92 = .ok (.goto (-34), 3) := by decide +kernel
theorem dX9_settleCircles_95 : decode cX9_settleCircles 95 = .ok (.iinc 3 1, 3) := by decide +kernel
theorem dX9_settleCircles_98 : decode cX9_settleCircles 98 = .ok (.goto (-73), 3) := by decide +kernel
theorem dX9_settleCircles_101 : decode cX9_settleCircles 101 = .ok (.iinc 2 1, 3) := by decide +kernel
theorem dX9_settleCircles_104 : decode cX9_settleCircles 104 = .ok (.goto (-86), 3) := by decide +kernel
theorem dX9_settleCircles_107 : decode cX9_settleCircles 107 = .ok (.iconst 0, 1) := by decide +kernel
theorem dX9_settleCircles_108 : decode cX9_settleCircles 108 = .ok (.istore_n 2, 1) := by decide +kernel
theorem dX9_settleCircles_109 : decode cX9_settleCircles 109 = .ok (.iload_n 2, 1) := by decide +kernel
theorem dX9_settleCircles_110 : decode cX9_settleCircles 110 = .ok (.iload_n 1, 1) := by decide +kernel
theorem dX9_settleCircles_111 : decode cX9_settleCircles 111 = .ok (.if_icmp .ge 47, 3) := by decide +kernel
theorem dX9_settleCircles_114 : decode cX9_settleCircles 114 = .ok (.aload_n 0, 1) := by decide +kernel
theorem dX9_settleCircles_115 : decode cX9_settleCircles 115 = .ok (.iload_n 2, 1) := by decide +kernel
theorem dX9_settleCircles_116 : decode cX9_settleCircles 116 = .ok (.invokevirtual 136, 3) := by decide +kernel
theorem dX9_settleCircles_119 : decode cX9_settleCircles 119 = .ok (.ifCond .eq 33, 3) := by decide +kernel
theorem dX9_settleCircles_122 : decode cX9_settleCircles 122 = .ok (.aload_n 0, 1) := by decide +kernel
theorem dX9_settleCircles_123 : decode cX9_settleCircles 123 = .ok (.iload_n 2, 1) := by decide +kernel
theorem dX9_settleCircles_124 : decode cX9_settleCircles 124 = .ok (.iload_n 2, 1) := by decide +kernel
theorem dX9_settleCircles_125 : decode cX9_settleCircles 125 = .ok (.invokevirtual 139, 3) := by decide +kernel
theorem dX9_settleCircles_128 : decode cX9_settleCircles 128 = .ok (.ifCond .eq 24, 3) := by decide +kernel
theorem dX9_settleCircles_131 : decode cX9_settleCircles 131 = .ok (.aload_n 0, 1) := by decide +kernel
theorem dX9_settleCircles_132 : decode cX9_settleCircles 132 = .ok (.getfield 45, 3) := by decide +kernel
theorem dX9_settleCircles_135 : decode cX9_settleCircles 135 = .ok (.getfield 49, 3) := by decide +kernel
theorem dX9_settleCircles_138 : decode cX9_settleCircles 138 = .ok (.iload_n 2, 1) := by decide +kernel
theorem dX9_settleCircles_139 : decode cX9_settleCircles 139 = .ok (.aaload, 1) := by decide +kernel
theorem dX9_settleCircles_140 : decode cX9_settleCircles 140 = .ok (.iconst 4, 1) := by decide +kernel
theorem dX9_settleCircles_141 : decode cX9_settleCircles 141 = .ok (.ldc2_w 143, 3) := by decide +kernel
theorem dX9_settleCircles_144 : decode cX9_settleCircles 144 = .ok (.invokevirtual 145, 3) := by decide +kernel
theorem dX9_settleCircles_147 : decode cX9_settleCircles 147 = .ok (.aload_n 0, 1) := by decide +kernel
theorem dX9_settleCircles_148 : decode cX9_settleCircles 148 = .ok (.iload_n 2, 1) := by decide +kernel
theorem dX9_settleCircles_149 : decode cX9_settleCircles 149 = .ok (.invokevirtual 149, 3) := by decide +kernel
theorem dX9_settleCircles_152 : decode cX9_settleCircles 152 = .ok (.iinc 2 1, 3) := by decide +kernel
theorem dX9_settleCircles_155 : decode cX9_settleCircles 155 = .ok (.goto (-46), 3) := by decide +kernel
theorem dX9_settleCircles_158 : decode cX9_settleCircles 158 = .ok (.return_, 1) := by decide +kernel
def mX9_isOpen : MI := (yX9_isOpen, cX9_isOpen, 2, (some .boolean))
theorem qc_X9_isOpen : Cond.code mX9_isOpen.1 mX9_isOpen.2.1 mX9_isOpen.2.2.1 mX9_isOpen.2.2.2 ∈ gtb := (gtb_in (List.mem_of_getElem? (i := 563) (by decide +kernel)) (by decide +kernel))
theorem qi_X9_isOpen : Cond.instanceMethod mX9_isOpen.1 ∈ gtb := (gtb_in (List.mem_of_getElem? (i := 562) (by decide +kernel)) (by decide +kernel))
theorem qs_X9_isOpen : Cond.selects mX9_isOpen.1.cls mX9_isOpen.1 mX9_isOpen.1 ∈ gtb := (gtb_sel (q := (⟨"SheetBranches$Worker", "isOpen", "(I)Z"⟩, 21)) (List.mem_of_getElem? (i := 10) (by decide +kernel)) (by decide +kernel))
theorem qd_X9_isOpen : dsc mX9_isOpen.1 1 := ⟨by decide +kernel, by decide +kernel, by decide +kernel⟩
set_option maxRecDepth 20000 in
theorem vl_X9_136 : VL RX9 136 9 mX9_isOpen 1 := ⟨⟨qc_X9_isOpen, (gtb_in (List.mem_of_getElem? (i := 560) (by decide +kernel)) (by decide +kernel)), qi_X9_isOpen, qs_X9_isOpen, zw_9⟩, ⟨_, _, rfl⟩, by decide, qd_X9_isOpen, by decide⟩
def mX9_reaches : MI := (yX9_reaches, cX9_reaches, 3, (some .boolean))
theorem qc_X9_reaches : Cond.code mX9_reaches.1 mX9_reaches.2.1 mX9_reaches.2.2.1 mX9_reaches.2.2.2 ∈ gtb := (gtb_in (List.mem_of_getElem? (i := 567) (by decide +kernel)) (by decide +kernel))
theorem qi_X9_reaches : Cond.instanceMethod mX9_reaches.1 ∈ gtb := (gtb_in (List.mem_of_getElem? (i := 566) (by decide +kernel)) (by decide +kernel))
theorem qs_X9_reaches : Cond.selects mX9_reaches.1.cls mX9_reaches.1 mX9_reaches.1 ∈ gtb := (gtb_sel (q := (⟨"SheetBranches$Worker", "reaches", "(II)Z"⟩, 21)) (List.mem_of_getElem? (i := 11) (by decide +kernel)) (by decide +kernel))
theorem qd_X9_reaches : dsc mX9_reaches.1 2 := ⟨by decide +kernel, by decide +kernel, by decide +kernel⟩
set_option maxRecDepth 20000 in
theorem vl_X9_139 : VL RX9 139 9 mX9_reaches 2 := ⟨⟨qc_X9_reaches, (gtb_in (List.mem_of_getElem? (i := 564) (by decide +kernel)) (by decide +kernel)), qi_X9_reaches, qs_X9_reaches, zw_9⟩, ⟨_, _, rfl⟩, by decide, qd_X9_reaches, by decide⟩
set_option maxRecDepth 20000 in
theorem kl_X9_143 : Cond.constantLong RX9 143 (6) ∈ gtb := (gtb_in (List.mem_of_getElem? (i := 568) (by decide +kernel)) (by decide +kernel))
def mX8_set : MI := (yX8_set, cX8_set, 4, none)
theorem qc_X8_set : Cond.code mX8_set.1 mX8_set.2.1 mX8_set.2.2.1 mX8_set.2.2.2 ∈ gtb := (gtb_in (List.mem_of_getElem? (i := 572) (by decide +kernel)) (by decide +kernel))
theorem qi_X8_set : Cond.instanceMethod mX8_set.1 ∈ gtb := (gtb_in (List.mem_of_getElem? (i := 570) (by decide +kernel)) (by decide +kernel))
theorem qs_X8_set : Cond.selects mX8_set.1.cls mX8_set.1 mX8_set.1 ∈ gtb := (gtb_in (List.mem_of_getElem? (i := 571) (by decide +kernel)) (by decide +kernel))
theorem qd_X8_set : dsc mX8_set.1 2 := ⟨by decide +kernel, by decide +kernel, by decide +kernel⟩
set_option maxRecDepth 20000 in
theorem vl_X9_145 : VL RX9 145 8 mX8_set 2 := ⟨⟨qc_X8_set, (gtb_in (List.mem_of_getElem? (i := 569) (by decide +kernel)) (by decide +kernel)), qi_X8_set, qs_X8_set, zw_8⟩, ⟨_, _, rfl⟩, by decide, qd_X8_set, by decide⟩
def mX9_close : MI := (yX9_close, cX9_close, 2, none)
theorem qc_X9_close : Cond.code mX9_close.1 mX9_close.2.1 mX9_close.2.2.1 mX9_close.2.2.2 ∈ gtb := (gtb_in (List.mem_of_getElem? (i := 576) (by decide +kernel)) (by decide +kernel))
theorem qi_X9_close : Cond.instanceMethod mX9_close.1 ∈ gtb := (gtb_in (List.mem_of_getElem? (i := 575) (by decide +kernel)) (by decide +kernel))
theorem qs_X9_close : Cond.selects mX9_close.1.cls mX9_close.1 mX9_close.1 ∈ gtb := (gtb_sel (q := (⟨"SheetBranches$Worker", "close", "(I)V"⟩, 21)) (List.mem_of_getElem? (i := 12) (by decide +kernel)) (by decide +kernel))
theorem qd_X9_close : dsc mX9_close.1 1 := ⟨by decide +kernel, by decide +kernel, by decide +kernel⟩
set_option maxRecDepth 20000 in
theorem vl_X9_149 : VL RX9 149 9 mX9_close 1 := ⟨⟨qc_X9_close, (gtb_in (List.mem_of_getElem? (i := 573) (by decide +kernel)) (by decide +kernel)), qi_X9_close, qs_X9_close, zw_9⟩, ⟨_, _, rfl⟩, by decide, qd_X9_close, by decide⟩
theorem dX9_putInOrder_0 : decode cX9_putInOrder 0 = .ok (.iconst 0, 1) := by decide +kernel
theorem dX9_putInOrder_1 : decode cX9_putInOrder 1 = .ok (.istore_n 2, 1) := by decide +kernel
theorem dX9_putInOrder_2 : decode cX9_putInOrder 2 = .ok (.iconst 0, 1) := by decide +kernel
theorem dX9_putInOrder_3 : decode cX9_putInOrder 3 = .ok (.istore_n 3, 1) := by decide +kernel
theorem dX9_putInOrder_4 : decode cX9_putInOrder 4 = .ok (.iload_n 3, 1) := by decide +kernel
theorem dX9_putInOrder_5 : decode cX9_putInOrder 5 = .ok (.iload_n 1, 1) := by decide +kernel
theorem dX9_putInOrder_6 : decode cX9_putInOrder 6 = .ok (.if_icmp .ge 133, 3) := by decide +kernel
theorem dX9_putInOrder_9 : decode cX9_putInOrder 9 = .ok (.iconst 0, 1) := by decide +kernel
theorem dX9_putInOrder_10 : decode cX9_putInOrder 10 = .ok (.istore 4, 2) := by decide +kernel
theorem dX9_putInOrder_12 : decode cX9_putInOrder 12 = .ok (.aload_n 0, 1) := by decide +kernel
theorem dX9_putInOrder_13 : decode cX9_putInOrder 13 = .ok (.iload_n 3, 1) := by decide +kernel
theorem dX9_putInOrder_14 : decode cX9_putInOrder 14 = .ok (.invokevirtual 136, 3) := by decide +kernel
theorem dX9_putInOrder_17 : decode cX9_putInOrder 17 = .ok (.ifCond .eq 13, 3) := by decide +kernel
theorem dX9_putInOrder_20 : decode cX9_putInOrder 20 = .ok (.aload_n 0, 1) := by decide +kernel
theorem dX9_putInOrder_21 : decode cX9_putInOrder 21 = .ok (.getfield 34, 3) := by decide +kernel
theorem dX9_putInOrder_24 : decode cX9_putInOrder 24 = .ok (.iconst 0, 1) := by decide +kernel
theorem dX9_putInOrder_25 : decode cX9_putInOrder 25 = .ok (.iload_n 3, 1) := by decide +kernel
theorem dX9_putInOrder_26 : decode cX9_putInOrder 26 = .ok (.iastore, 1) := by decide +kernel
theorem dX9_putInOrder_27 : decode cX9_putInOrder 27 = .ok (.iconst 1, 1) := by decide +kernel
theorem dX9_putInOrder_28 : decode cX9_putInOrder 28 = .ok (.istore 4, 2) := by decide +kernel
theorem dX9_putInOrder_30 : decode cX9_putInOrder 30 = .ok (.iconst 0, 1) := by decide +kernel
theorem dX9_putInOrder_31 : decode cX9_putInOrder 31 = .ok (.istore 5, 2) := by decide +kernel
theorem dX9_putInOrder_33 : decode cX9_putInOrder 33 = .ok (.iload 5, 2) := by decide +kernel
theorem dX9_putInOrder_35 : decode cX9_putInOrder 35 = .ok (.sipush 640, 3) := by decide +kernel
theorem dX9_putInOrder_38 : decode cX9_putInOrder 38 = .ok (.if_icmp .ge 95, 3) := by decide +kernel
theorem dX9_putInOrder_41 : decode cX9_putInOrder 41 = .ok (.iload 4, 2) := by decide +kernel
theorem dX9_putInOrder_43 : decode cX9_putInOrder 43 = .ok (.ifCond .le 90, 3) := by decide +kernel
theorem dX9_putInOrder_46 : decode cX9_putInOrder 46 = .ok (.iload_n 2, 1) := by decide +kernel
theorem dX9_putInOrder_47 : decode cX9_putInOrder 47 = .ok (.sipush 320, 3) := by decide +kernel
theorem dX9_putInOrder_50 : decode cX9_putInOrder 50 = .ok (.if_icmp .ge 83, 3) := by decide +kernel
theorem dX9_putInOrder_53 : decode cX9_putInOrder 53 = .ok (.aload_n 0, 1) := by decide +kernel
theorem dX9_putInOrder_54 : decode cX9_putInOrder 54 = .ok (.aload_n 0, 1) := by decide +kernel
theorem dX9_putInOrder_55 : decode cX9_putInOrder 55 = .ok (.getfield 34, 3) := by decide +kernel
theorem dX9_putInOrder_58 : decode cX9_putInOrder 58 = .ok (.iload 4, 2) := by decide +kernel
theorem dX9_putInOrder_60 : decode cX9_putInOrder 60 = .ok (.iconst 1, 1) := by decide +kernel
theorem dX9_putInOrder_61 : decode cX9_putInOrder 61 = .ok (.isub, 1) := by decide +kernel
theorem dX9_putInOrder_62 : decode cX9_putInOrder 62 = .ok (.iaload, 1) := by decide +kernel
theorem dX9_putInOrder_63 : decode cX9_putInOrder 63 = .ok (.invokevirtual 152, 3) := by decide +kernel
theorem dX9_putInOrder_66 : decode cX9_putInOrder 66 = .ok (.istore 6, 2) := by decide +kernel
theorem dX9_putInOrder_68 : decode cX9_putInOrder 68 = .ok (.iload 6, 2) := by decide +kernel
theorem dX9_putInOrder_70 : decode cX9_putInOrder 70 = .ok (.iconst (-1), 1) := by decide +kernel
theorem dX9_putInOrder_71 : decode cX9_putInOrder 71 = .ok (.if_icmp .eq 26, 3) := by decide +kernel
theorem dX9_putInOrder_74 : decode cX9_putInOrder 74 = .ok (.iload 4, 2) := by decide +kernel
theorem dX9_putInOrder_76 : decode cX9_putInOrder 76 = .ok (.sipush 320, 3) := by decide +kernel
theorem dX9_putInOrder_79 : decode cX9_putInOrder 79 = .ok (.if_icmp .ge 18, 3) := by decide +kernel
theorem dX9_putInOrder_82 : decode cX9_putInOrder 82 = .ok (.aload_n 0, 1) := by decide +kernel
theorem dX9_putInOrder_83 : decode cX9_putInOrder 83 = .ok (.getfield 34, 3) := by decide +kernel
theorem dX9_putInOrder_86 : decode cX9_putInOrder 86 = .ok (.iload 4, 2) := by decide +kernel
theorem dX9_putInOrder_88 : decode cX9_putInOrder 88 = .ok (.iload 6, 2) := by decide +kernel
theorem dX9_putInOrder_90 : decode cX9_putInOrder 90 = .ok (.iastore, 1) := by decide +kernel
theorem dX9_putInOrder_91 : decode cX9_putInOrder 91 = .ok (.iinc 4 1, 3) := by decide +kernel
theorem dX9_putInOrder_94 : decode cX9_putInOrder 94 = .ok (.goto 33, 3) := by decide +kernel
theorem dX9_putInOrder_97 : decode cX9_putInOrder 97 = .ok (.iinc 4 (-1), 3) := by decide +kernel
theorem dX9_putInOrder_100 : decode cX9_putInOrder 100 = .ok (.aload_n 0, 1) := by decide +kernel
theorem dX9_putInOrder_101 : decode cX9_putInOrder 101 = .ok (.getfield 38, 3) := by decide +kernel
theorem dX9_putInOrder_104 : decode cX9_putInOrder 104 = .ok (.iload_n 2, 1) := by decide +kernel
theorem dX9_putInOrder_105 : decode cX9_putInOrder 105 = .ok (.aload_n 0, 1) := by decide +kernel
theorem dX9_putInOrder_106 : decode cX9_putInOrder 106 = .ok (.getfield 34, 3) := by decide +kernel
theorem dX9_putInOrder_109 : decode cX9_putInOrder 109 = .ok (.iload 4, 2) := by decide +kernel
theorem dX9_putInOrder_111 : decode cX9_putInOrder 111 = .ok (.iaload, 1) := by decide +kernel
theorem dX9_putInOrder_112 : decode cX9_putInOrder 112 = .ok (.iastore, 1) := by decide +kernel
theorem dX9_putInOrder_113 : decode cX9_putInOrder 113 = .ok (.iinc 2 1, 3) := by decide +kernel
theorem dX9_putInOrder_116 : decode cX9_putInOrder 116 = .ok (.aload_n 0, 1) := by decide +kernel
theorem dX9_putInOrder_117 : decode cX9_putInOrder 117 = .ok (.aload_n 0, 1) := by decide +kernel
theorem dX9_putInOrder_118 : decode cX9_putInOrder 118 = .ok (.getfield 34, 3) := by decide +kernel
theorem dX9_putInOrder_121 : decode cX9_putInOrder 121 = .ok (.iload 4, 2) := by decide +kernel
theorem dX9_putInOrder_123 : decode cX9_putInOrder 123 = .ok (.iaload, 1) := by decide +kernel
theorem dX9_putInOrder_124 : decode cX9_putInOrder 124 = .ok (.invokevirtual 149, 3) := by decide +kernel
theorem dX9_putInOrder_127 : decode cX9_putInOrder 127 = .ok (.iinc 5 1, 3) := by decide +kernel
theorem dX9_putInOrder_130 : decode cX9_putInOrder 130 = .ok (.goto (-97), 3) := by decide +kernel
theorem dX9_putInOrder_133 : decode cX9_putInOrder 133 = .ok (.iinc 3 1, 3) := by decide +kernel
theorem dX9_putInOrder_136 : decode cX9_putInOrder 136 = .ok (.goto (-132), 3) := by decide +kernel
theorem dX9_putInOrder_139 : decode cX9_putInOrder 139 = .ok (.iload_n 2, 1) := by decide +kernel
theorem dX9_putInOrder_140 : decode cX9_putInOrder 140 = .ok (.ireturn, 1) := by decide +kernel
def mX9_firstOpenOf : MI := (yX9_firstOpenOf, cX9_firstOpenOf, 5, (some .int))
theorem qc_X9_firstOpenOf : Cond.code mX9_firstOpenOf.1 mX9_firstOpenOf.2.1 mX9_firstOpenOf.2.2.1 mX9_firstOpenOf.2.2.2 ∈ gtb := (gtb_in (List.mem_of_getElem? (i := 585) (by decide +kernel)) (by decide +kernel))
theorem qi_X9_firstOpenOf : Cond.instanceMethod mX9_firstOpenOf.1 ∈ gtb := (gtb_in (List.mem_of_getElem? (i := 584) (by decide +kernel)) (by decide +kernel))
theorem qs_X9_firstOpenOf : Cond.selects mX9_firstOpenOf.1.cls mX9_firstOpenOf.1 mX9_firstOpenOf.1 ∈ gtb := (gtb_sel (q := (⟨"SheetBranches$Worker", "firstOpenOf", "(I)I"⟩, 21)) (List.mem_of_getElem? (i := 14) (by decide +kernel)) (by decide +kernel))
theorem qd_X9_firstOpenOf : dsc mX9_firstOpenOf.1 1 := ⟨by decide +kernel, by decide +kernel, by decide +kernel⟩
set_option maxRecDepth 20000 in
theorem vl_X9_152 : VL RX9 152 9 mX9_firstOpenOf 1 := ⟨⟨qc_X9_firstOpenOf, (gtb_in (List.mem_of_getElem? (i := 582) (by decide +kernel)) (by decide +kernel)), qi_X9_firstOpenOf, qs_X9_firstOpenOf, zw_9⟩, ⟨_, _, rfl⟩, by decide, qd_X9_firstOpenOf, by decide⟩
theorem dX10_init_0 : decode cX10_init 0 = .ok (.aload_n 0, 1) := by decide +kernel
theorem dX10_init_1 : decode cX10_init 1 = .ok (.invokespecial 3, 3) := by decide +kernel
theorem dX10_init_4 : decode cX10_init 4 = .ok (.aload_n 0, 1) := by decide +kernel
theorem dX10_init_5 : decode cX10_init 5 = .ok (.sipush 2400, 3) := by decide +kernel
theorem dX10_init_8 : decode cX10_init 8 = .ok (.newarray .byte, 2) := by decide +kernel
theorem dX10_init_10 : decode cX10_init 10 = .ok (.putfield 11, 3) := by decide +kernel
theorem dX10_init_13 : decode cX10_init 13 = .ok (.aload_n 0, 1) := by decide +kernel
theorem dX10_init_14 : decode cX10_init 14 = .ok (.bipush 60, 2) := by decide +kernel
theorem dX10_init_16 : decode cX10_init 16 = .ok (.newarray .int, 2) := by decide +kernel
theorem dX10_init_18 : decode cX10_init 18 = .ok (.putfield 15, 3) := by decide +kernel
theorem dX10_init_21 : decode cX10_init 21 = .ok (.aload_n 0, 1) := by decide +kernel
theorem dX10_init_22 : decode cX10_init 22 = .ok (.new 19, 3) := by decide +kernel
theorem dX10_init_25 : decode cX10_init 25 = .ok (.dup, 1) := by decide +kernel
theorem dX10_init_26 : decode cX10_init 26 = .ok (.bipush 24, 2) := by decide +kernel
theorem dX10_init_28 : decode cX10_init 28 = .ok (.invokespecial 21, 3) := by decide +kernel
theorem dX10_init_31 : decode cX10_init 31 = .ok (.putfield 24, 3) := by decide +kernel
theorem dX10_init_34 : decode cX10_init 34 = .ok (.return_, 1) := by decide +kernel
set_option maxRecDepth 20000 in
theorem ol_X10_3 : Cond.methodLink RX10 3 objectInit ∈ gtb := (gtb_in (List.mem_of_getElem? (i := 108) (by decide +kernel)) (by decide +kernel))
set_option maxRecDepth 20000 in
theorem fl_X10_11 : FL RX10 11 10 0 true := ⟨RX10, TX10, cl_10, by decide, (gtb_in (List.mem_of_getElem? (i := 145) (by decide +kernel)) (by decide +kernel)), rfl⟩
set_option maxRecDepth 20000 in
theorem fl_X10_15 : FL RX10 15 10 1 true := ⟨RX10, TX10, cl_10, by decide, (gtb_in (List.mem_of_getElem? (i := 146) (by decide +kernel)) (by decide +kernel)), rfl⟩
set_option maxRecDepth 20000 in
theorem nl_X10_19 : Cond.classLink RX10 19 RX8 ∈ gtb := (gtb_in (List.mem_of_getElem? (i := 109) (by decide +kernel)) (by decide +kernel))
set_option maxRecDepth 20000 in
theorem il_X10_21 : IL RX10 21 mX8_init 1 := ⟨⟨qc_X8_init, (gtb_in (List.mem_of_getElem? (i := 111) (by decide +kernel)) (by decide +kernel)), qi_X8_init, zw_8⟩, rfl, rfl, qd_X8_init, by decide⟩
set_option maxRecDepth 20000 in
theorem fl_X10_24 : FL RX10 24 10 2 true := ⟨RX10, TX10, cl_10, by decide, (gtb_in (List.mem_of_getElem? (i := 147) (by decide +kernel)) (by decide +kernel)), rfl⟩
theorem dX10_letterAt_0 : decode cX10_letterAt 0 = .ok (.iload_n 1, 1) := by decide +kernel
theorem dX10_letterAt_1 : decode cX10_letterAt 1 = .ok (.ifCond .lt 20, 3) := by decide +kernel
theorem dX10_letterAt_4 : decode cX10_letterAt 4 = .ok (.iload_n 1, 1) := by decide +kernel
theorem dX10_letterAt_5 : decode cX10_letterAt 5 = .ok (.aload_n 0, 1) := by decide +kernel
theorem dX10_letterAt_6 : decode cX10_letterAt 6 = .ok (.getfield 28, 3) := by decide +kernel
theorem dX10_letterAt_9 : decode cX10_letterAt 9 = .ok (.if_icmp .ge 12, 3) := by decide +kernel
theorem dX10_letterAt_12 : decode cX10_letterAt 12 = .ok (.aload_n 0, 1) := by decide +kernel
theorem dX10_letterAt_13 : decode cX10_letterAt 13 = .ok (.getfield 11, 3) := by decide +kernel
theorem dX10_letterAt_16 : decode cX10_letterAt 16 = .ok (.iload_n 1, 1) := by decide +kernel
theorem dX10_letterAt_17 : decode cX10_letterAt 17 = .ok (.baload, 1) := by decide +kernel
theorem dX10_letterAt_18 : decode cX10_letterAt 18 = .ok (.goto 4, 3) := by decide +kernel
theorem dX10_letterAt_21 : decode cX10_letterAt 21 = .ok (.iconst (-1), 1) := by decide +kernel
theorem dX10_letterAt_22 : decode cX10_letterAt 22 = .ok (.ireturn, 1) := by decide +kernel
set_option maxRecDepth 20000 in
theorem fl_X10_28 : FL RX10 28 10 3 false := ⟨RX10, TX10, cl_10, by decide, (gtb_in (List.mem_of_getElem? (i := 148) (by decide +kernel)) (by decide +kernel)), rfl⟩
theorem dX10_write_0 : decode cX10_write 0 = .ok (.aload_n 0, 1) := by decide +kernel
theorem dX10_write_1 : decode cX10_write 1 = .ok (.iconst 0, 1) := by decide +kernel
theorem dX10_write_2 : decode cX10_write 2 = .ok (.putfield 28, 3) := by decide +kernel
theorem dX10_write_5 : decode cX10_write 5 = .ok (.aload_n 0, 1) := by decide +kernel
theorem dX10_write_6 : decode cX10_write 6 = .ok (.aload_n 2, 1) := by decide +kernel
theorem dX10_write_7 : decode cX10_write 7 = .ok (.putfield 32, 3) := by decide +kernel
theorem dX10_write_10 : decode cX10_write 10 = .ok (.aload_n 0, 1) := by decide +kernel
theorem dX10_write_11 : decode cX10_write 11 = .ok (.aload_n 3, 1) := by decide +kernel
theorem dX10_write_12 : decode cX10_write 12 = .ok (.putfield 36, 3) := by decide +kernel
theorem dX10_write_15 : decode cX10_write 15 = .ok (.aload_n 1, 1) := by decide +kernel
theorem dX10_write_16 : decode cX10_write 16 = .ok (.ifnonnull 4, 3) := by decide +kernel
theorem dX10_write_19 : decode cX10_write 19 = .ok (.return_, 1) := by decide +kernel
theorem dX10_write_20 : decode cX10_write 20 = .ok (.aload_n 1, 1) := by decide +kernel
theorem dX10_write_21 : decode cX10_write 21 = .ok (.getfield 40, 3) := by decide +kernel
theorem dX10_write_24 : decode cX10_write 24 = .ok (.iconst 5, 1) := by decide +kernel
theorem dX10_write_25 : decode cX10_write 25 = .ok (.if_icmp .ne 34, 3) := by decide +kernel
theorem dX10_write_28 : decode cX10_write 28 = .ok (.aload_n 0, 1) := by decide +kernel
theorem dX10_write_29 : decode cX10_write 29 = .ok (.aload_n 1, 1) := by decide +kernel
theorem dX10_write_30 : decode cX10_write 30 = .ok (.getfield 45, 3) := by decide +kernel
theorem dX10_write_33 : decode cX10_write 33 = .ok (.putfield 49, 3) := by decide +kernel
theorem dX10_write_36 : decode cX10_write 36 = .ok (.aload_n 0, 1) := by decide +kernel
theorem dX10_write_37 : decode cX10_write 37 = .ok (.invokevirtual 50, 3) := by decide +kernel
theorem dX10_write_40 : decode cX10_write 40 = .ok (.aload_n 0, 1) := by decide +kernel
theorem dX10_write_41 : decode cX10_write 41 = .ok (.bipush 61, 2) := by decide +kernel
theorem dX10_write_43 : decode cX10_write 43 = .ok (.invokevirtual 53, 3) := by decide +kernel
theorem dX10_write_46 : decode cX10_write 46 = .ok (.aload_n 0, 1) := by decide +kernel
theorem dX10_write_47 : decode cX10_write 47 = .ok (.aload_n 0, 1) := by decide +kernel
theorem dX10_write_48 : decode cX10_write 48 = .ok (.getfield 49, 3) := by decide +kernel
theorem dX10_write_51 : decode cX10_write 51 = .ok (.arraylength, 1) := by decide +kernel
theorem dX10_write_52 : decode cX10_write 52 = .ok (.iconst 1, 1) := by decide +kernel
theorem dX10_write_53 : decode cX10_write 53 = .ok (.isub, 1) := by decide +kernel
theorem dX10_write_54 : decode cX10_write 54 = .ok (.iconst 0, 1) := by decide +kernel
theorem dX10_write_55 : decode cX10_write 55 = .ok (.invokevirtual 56, 3) := by decide +kernel
theorem dX10_write_58 : decode cX10_write 58 = .ok (.return_, 1) := by decide +kernel
theorem dX10_write_59 : decode cX10_write 59 = .ok (.aload_n 1, 1) := by decide +kernel
theorem dX10_write_60 : decode cX10_write 60 = .ok (.getfield 40, 3) := by decide +kernel
theorem dX10_write_63 : decode cX10_write 63 = .ok (.iconst 2, 1) := by decide +kernel
theorem dX10_write_64 : decode cX10_write 64 = .ok (.if_icmp .ne 19, 3) := by decide +kernel
theorem dX10_write_67 : decode cX10_write 67 = .ok (.aload_n 1, 1) := by decide +kernel
theorem dX10_write_68 : decode cX10_write 68 = .ok (.getfield 60, 3) := by decide +kernel
theorem dX10_write_71 : decode cX10_write 71 = .ok (.invokestatic 63, 3) := by decide +kernel
theorem dX10_write_74 : decode cX10_write 74 = .ok (.ifCond .eq 9, 3) := by decide +kernel
theorem dX10_write_77 : decode cX10_write 77 = .ok (.aload_n 0, 1) := by decide +kernel
theorem dX10_write_78 : decode cX10_write 78 = .ok (.bipush 39, 2) := by decide +kernel
theorem dX10_write_80 : decode cX10_write 80 = .ok (.invokevirtual 53, 3) := by decide +kernel
theorem dX10_write_83 : decode cX10_write 83 = .ok (.aload_n 0, 1) := by decide +kernel
theorem dX10_write_84 : decode cX10_write 84 = .ok (.aload_n 1, 1) := by decide +kernel
theorem dX10_write_85 : decode cX10_write 85 = .ok (.getfield 60, 3) := by decide +kernel
theorem dX10_write_88 : decode cX10_write 88 = .ok (.invokevirtual 67, 3) := by decide +kernel
theorem dX10_write_91 : decode cX10_write 91 = .ok (.return_, 1) := by decide +kernel
set_option maxRecDepth 20000 in
theorem fl_X10_32 : FL RX10 32 10 5 false := ⟨RX10, TX10, cl_10, by decide, (gtb_in (List.mem_of_getElem? (i := 150) (by decide +kernel)) (by decide +kernel)), rfl⟩
set_option maxRecDepth 20000 in
theorem fl_X10_36 : FL RX10 36 10 6 false := ⟨RX10, TX10, cl_10, by decide, (gtb_in (List.mem_of_getElem? (i := 151) (by decide +kernel)) (by decide +kernel)), rfl⟩
set_option maxRecDepth 20000 in
theorem fl_X10_40 : FL RX10 40 1 0 true := ⟨RX1, TX1, cl_1, by decide, (gtb_in (List.mem_of_getElem? (i := 1217) (by decide +kernel)) (by decide +kernel)), rfl⟩
set_option maxRecDepth 20000 in
theorem fl_X10_45 : FL RX10 45 1 2 true := ⟨RX1, TX1, cl_1, by decide, (gtb_in (List.mem_of_getElem? (i := 1224) (by decide +kernel)) (by decide +kernel)), rfl⟩
set_option maxRecDepth 20000 in
theorem fl_X10_49 : FL RX10 49 10 4 false := ⟨RX10, TX10, cl_10, by decide, (gtb_in (List.mem_of_getElem? (i := 149) (by decide +kernel)) (by decide +kernel)), rfl⟩
def mX10_findStarts : MI := (yX10_findStarts, cX10_findStarts, 4, none)
theorem qc_X10_findStarts : Cond.code mX10_findStarts.1 mX10_findStarts.2.1 mX10_findStarts.2.2.1 mX10_findStarts.2.2.2 ∈ gtb := (gtb_in (List.mem_of_getElem? (i := 828) (by decide +kernel)) (by decide +kernel))
theorem qi_X10_findStarts : Cond.instanceMethod mX10_findStarts.1 ∈ gtb := (gtb_in (List.mem_of_getElem? (i := 827) (by decide +kernel)) (by decide +kernel))
theorem qs_X10_findStarts : Cond.selects mX10_findStarts.1.cls mX10_findStarts.1 mX10_findStarts.1 ∈ gtb := (gtb_sel (q := (⟨"SheetBranches$Writer", "findStarts", "()V"⟩, 7)) (List.mem_of_getElem? (i := 39) (by decide +kernel)) (by decide +kernel))
theorem qd_X10_findStarts : dsc mX10_findStarts.1 0 := ⟨by decide +kernel, by decide +kernel, by decide +kernel⟩
set_option maxRecDepth 20000 in
theorem vl_X10_50 : VL RX10 50 10 mX10_findStarts 0 := ⟨⟨qc_X10_findStarts, (gtb_in (List.mem_of_getElem? (i := 825) (by decide +kernel)) (by decide +kernel)), qi_X10_findStarts, qs_X10_findStarts, zw_10⟩, ⟨_, _, rfl⟩, by decide, qd_X10_findStarts, by decide⟩
def mX10_put : MI := (yX10_put, cX10_put, 2, none)
theorem qc_X10_put : Cond.code mX10_put.1 mX10_put.2.1 mX10_put.2.2.1 mX10_put.2.2.2 ∈ gtb := (gtb_in (List.mem_of_getElem? (i := 832) (by decide +kernel)) (by decide +kernel))
theorem qi_X10_put : Cond.instanceMethod mX10_put.1 ∈ gtb := (gtb_in (List.mem_of_getElem? (i := 831) (by decide +kernel)) (by decide +kernel))
theorem qs_X10_put : Cond.selects mX10_put.1.cls mX10_put.1 mX10_put.1 ∈ gtb := (gtb_sel (q := (⟨"SheetBranches$Writer", "put", "(I)V"⟩, 7)) (List.mem_of_getElem? (i := 40) (by decide +kernel)) (by decide +kernel))
theorem qd_X10_put : dsc mX10_put.1 1 := ⟨by decide +kernel, by decide +kernel, by decide +kernel⟩
set_option maxRecDepth 20000 in
theorem vl_X10_53 : VL RX10 53 10 mX10_put 1 := ⟨⟨qc_X10_put, (gtb_in (List.mem_of_getElem? (i := 829) (by decide +kernel)) (by decide +kernel)), qi_X10_put, qs_X10_put, zw_10⟩, ⟨_, _, rfl⟩, by decide, qd_X10_put, by decide⟩
def mX10_part : MI := (yX10_part, cX10_part, 5, none)
theorem qc_X10_part : Cond.code mX10_part.1 mX10_part.2.1 mX10_part.2.2.1 mX10_part.2.2.2 ∈ gtb := (gtb_in (List.mem_of_getElem? (i := 836) (by decide +kernel)) (by decide +kernel))
theorem qi_X10_part : Cond.instanceMethod mX10_part.1 ∈ gtb := (gtb_in (List.mem_of_getElem? (i := 835) (by decide +kernel)) (by decide +kernel))
theorem qs_X10_part : Cond.selects mX10_part.1.cls mX10_part.1 mX10_part.1 ∈ gtb := (gtb_sel (q := (⟨"SheetBranches$Writer", "part", "(II)V"⟩, 7)) (List.mem_of_getElem? (i := 41) (by decide +kernel)) (by decide +kernel))
theorem qd_X10_part : dsc mX10_part.1 2 := ⟨by decide +kernel, by decide +kernel, by decide +kernel⟩
set_option maxRecDepth 20000 in
theorem vl_X10_56 : VL RX10 56 10 mX10_part 2 := ⟨⟨qc_X10_part, (gtb_in (List.mem_of_getElem? (i := 833) (by decide +kernel)) (by decide +kernel)), qi_X10_part, qs_X10_part, zw_10⟩, ⟨_, _, rfl⟩, by decide, qd_X10_part, by decide⟩
set_option maxRecDepth 20000 in
theorem fl_X10_60 : FL RX10 60 1 1 true := ⟨RX1, TX1, cl_1, by decide, (gtb_in (List.mem_of_getElem? (i := 1221) (by decide +kernel)) (by decide +kernel)), rfl⟩
def mX10_changesUnquoted : MI := (yX10_changesUnquoted, cX10_changesUnquoted, 3, (some .boolean))
theorem qc_X10_changesUnquoted : Cond.code mX10_changesUnquoted.1 mX10_changesUnquoted.2.1 mX10_changesUnquoted.2.2.1 mX10_changesUnquoted.2.2.2 ∈ gtb := (gtb_in (List.mem_of_getElem? (i := 893) (by decide +kernel)) (by decide +kernel))
theorem qt_X10_changesUnquoted : Cond.static mX10_changesUnquoted.1 ∈ gtb := (gtb_in (List.mem_of_getElem? (i := 892) (by decide +kernel)) (by decide +kernel))
theorem qd_X10_changesUnquoted : dsc mX10_changesUnquoted.1 1 := ⟨by decide +kernel, by decide +kernel, by decide +kernel⟩
set_option maxRecDepth 20000 in
theorem sl_X10_63 : SL RX10 63 mX10_changesUnquoted 1 := ⟨⟨qc_X10_changesUnquoted, (gtb_in (List.mem_of_getElem? (i := 891) (by decide +kernel)) (by decide +kernel)), qt_X10_changesUnquoted, zw_10⟩, qd_X10_changesUnquoted, by decide⟩
def mX10_putValue : MI := (yX10_putValue, cX10_putValue, 3, none)
theorem qc_X10_putValue : Cond.code mX10_putValue.1 mX10_putValue.2.1 mX10_putValue.2.2.1 mX10_putValue.2.2.2 ∈ gtb := (gtb_in (List.mem_of_getElem? (i := 844) (by decide +kernel)) (by decide +kernel))
theorem qi_X10_putValue : Cond.instanceMethod mX10_putValue.1 ∈ gtb := (gtb_in (List.mem_of_getElem? (i := 843) (by decide +kernel)) (by decide +kernel))
theorem qs_X10_putValue : Cond.selects mX10_putValue.1.cls mX10_putValue.1 mX10_putValue.1 ∈ gtb := (gtb_sel (q := (⟨"SheetBranches$Writer", "putValue", "(LSheetBranches$Value;)V"⟩, 7)) (List.mem_of_getElem? (i := 43) (by decide +kernel)) (by decide +kernel))
theorem qd_X10_putValue : dsc mX10_putValue.1 1 := ⟨by decide +kernel, by decide +kernel, by decide +kernel⟩
set_option maxRecDepth 20000 in
theorem vl_X10_67 : VL RX10 67 10 mX10_putValue 1 := ⟨⟨qc_X10_putValue, (gtb_in (List.mem_of_getElem? (i := 841) (by decide +kernel)) (by decide +kernel)), qi_X10_putValue, qs_X10_putValue, zw_10⟩, ⟨_, _, rfl⟩, by decide, qd_X10_putValue, by decide⟩
theorem dJ9_max_7cf53_0 : decode cJ9_max_7cf53 0 = .ok (.iload_n 0, 1) := by decide +kernel
theorem dJ9_max_7cf53_1 : decode cJ9_max_7cf53 1 = .ok (.iload_n 1, 1) := by decide +kernel
theorem dJ9_max_7cf53_2 : decode cJ9_max_7cf53 2 = .ok (.if_icmp .lt 7, 3) := by decide +kernel
theorem dJ9_max_7cf53_5 : decode cJ9_max_7cf53 5 = .ok (.iload_n 0, 1) := by decide +kernel
theorem dJ9_max_7cf53_6 : decode cJ9_max_7cf53 6 = .ok (.goto 4, 3) := by decide +kernel
theorem dJ9_max_7cf53_9 : decode cJ9_max_7cf53 9 = .ok (.iload_n 1, 1) := by decide +kernel
theorem dJ9_max_7cf53_10 : decode cJ9_max_7cf53 10 = .ok (.ireturn, 1) := by decide +kernel
theorem dJ9_min_7cf53_0 : decode cJ9_min_7cf53 0 = .ok (.iload_n 0, 1) := by decide +kernel
theorem dJ9_min_7cf53_1 : decode cJ9_min_7cf53 1 = .ok (.iload_n 1, 1) := by decide +kernel
theorem dJ9_min_7cf53_2 : decode cJ9_min_7cf53 2 = .ok (.if_icmp .gt 7, 3) := by decide +kernel
theorem dJ9_min_7cf53_5 : decode cJ9_min_7cf53 5 = .ok (.iload_n 0, 1) := by decide +kernel
theorem dJ9_min_7cf53_6 : decode cJ9_min_7cf53 6 = .ok (.goto 4, 3) := by decide +kernel
theorem dJ9_min_7cf53_9 : decode cJ9_min_7cf53 9 = .ok (.iload_n 1, 1) := by decide +kernel
theorem dJ9_min_7cf53_10 : decode cJ9_min_7cf53 10 = .ok (.ireturn, 1) := by decide +kernel
theorem dJ9_abs_0f7a4_0 : decode cJ9_abs_0f7a4 0 = .ok (.iload_n 0, 1) := by decide +kernel
theorem dJ9_abs_0f7a4_1 : decode cJ9_abs_0f7a4 1 = .ok (.ifCond .ge 8, 3) := by decide +kernel
theorem dJ9_abs_0f7a4_4 : decode cJ9_abs_0f7a4 4 = .ok (.iload_n 0, 1) := by decide +kernel
theorem dJ9_abs_0f7a4_5 : decode cJ9_abs_0f7a4 5 = .ok (.ineg, 1) := by decide +kernel
theorem dJ9_abs_0f7a4_6 : decode cJ9_abs_0f7a4 6 = .ok (.goto 4, 3) := by decide +kernel
theorem dJ9_abs_0f7a4_9 : decode cJ9_abs_0f7a4 9 = .ok (.iload_n 0, 1) := by decide +kernel
theorem dJ9_abs_0f7a4_10 : decode cJ9_abs_0f7a4 10 = .ok (.ireturn, 1) := by decide +kernel
theorem dJ6_numberOfLeadingZeros_0f7a4_0 : decode cJ6_numberOfLeadingZeros_0f7a4 0 = .ok (.iload_n 0, 1) := by decide +kernel
theorem dJ6_numberOfLeadingZeros_0f7a4_1 : decode cJ6_numberOfLeadingZeros_0f7a4 1 = .ok (.ifCond .gt 14, 3) := by decide +kernel
theorem dJ6_numberOfLeadingZeros_0f7a4_4 : decode cJ6_numberOfLeadingZeros_0f7a4 4 = .ok (.iload_n 0, 1) := by decide +kernel
theorem dJ6_numberOfLeadingZeros_0f7a4_5 : decode cJ6_numberOfLeadingZeros_0f7a4 5 = .ok (.ifCond .ne 8, 3) := by decide +kernel
theorem dJ6_numberOfLeadingZeros_0f7a4_8 : decode cJ6_numberOfLeadingZeros_0f7a4 8 = .ok (.bipush 32, 2) := by decide +kernel
theorem dJ6_numberOfLeadingZeros_0f7a4_10 : decode cJ6_numberOfLeadingZeros_0f7a4 10 = .ok (.goto 4, 3) := by decide +kernel
theorem dJ6_numberOfLeadingZeros_0f7a4_13 : decode cJ6_numberOfLeadingZeros_0f7a4 13 = .ok (.iconst 0, 1) := by decide +kernel
theorem dJ6_numberOfLeadingZeros_0f7a4_14 : decode cJ6_numberOfLeadingZeros_0f7a4 14 = .ok (.ireturn, 1) := by decide +kernel
theorem dJ6_numberOfLeadingZeros_0f7a4_15 : decode cJ6_numberOfLeadingZeros_0f7a4 15 = .ok (.bipush 31, 2) := by decide +kernel
theorem dJ6_numberOfLeadingZeros_0f7a4_17 : decode cJ6_numberOfLeadingZeros_0f7a4 17 = .ok (.istore_n 1, 1) := by decide +kernel
theorem dJ6_numberOfLeadingZeros_0f7a4_18 : decode cJ6_numberOfLeadingZeros_0f7a4 18 = .ok (.iload_n 0, 1) := by decide +kernel
theorem dJ6_numberOfLeadingZeros_0f7a4_19 : decode cJ6_numberOfLeadingZeros_0f7a4 19 = .ok (.ldc_w 264, 3) := by decide +kernel
theorem dJ6_numberOfLeadingZeros_0f7a4_22 : decode cJ6_numberOfLeadingZeros_0f7a4 22 = .ok (.if_icmp .lt 11, 3) := by decide +kernel
theorem dJ6_numberOfLeadingZeros_0f7a4_25 : decode cJ6_numberOfLeadingZeros_0f7a4 25 = .ok (.iinc 1 (-16), 3) := by decide +kernel
theorem dJ6_numberOfLeadingZeros_0f7a4_28 : decode cJ6_numberOfLeadingZeros_0f7a4 28 = .ok (.iload_n 0, 1) := by decide +kernel
theorem dJ6_numberOfLeadingZeros_0f7a4_29 : decode cJ6_numberOfLeadingZeros_0f7a4 29 = .ok (.bipush 16, 2) := by decide +kernel
theorem dJ6_numberOfLeadingZeros_0f7a4_31 : decode cJ6_numberOfLeadingZeros_0f7a4 31 = .ok (.iushr, 1) := by decide +kernel
theorem dJ6_numberOfLeadingZeros_0f7a4_32 : decode cJ6_numberOfLeadingZeros_0f7a4 32 = .ok (.istore_n 0, 1) := by decide +kernel
theorem dJ6_numberOfLeadingZeros_0f7a4_33 : decode cJ6_numberOfLeadingZeros_0f7a4 33 = .ok (.iload_n 0, 1) := by decide +kernel
theorem dJ6_numberOfLeadingZeros_0f7a4_34 : decode cJ6_numberOfLeadingZeros_0f7a4 34 = .ok (.sipush 256, 3) := by decide +kernel
theorem dJ6_numberOfLeadingZeros_0f7a4_37 : decode cJ6_numberOfLeadingZeros_0f7a4 37 = .ok (.if_icmp .lt 11, 3) := by decide +kernel
theorem dJ6_numberOfLeadingZeros_0f7a4_40 : decode cJ6_numberOfLeadingZeros_0f7a4 40 = .ok (.iinc 1 (-8), 3) := by decide +kernel
theorem dJ6_numberOfLeadingZeros_0f7a4_43 : decode cJ6_numberOfLeadingZeros_0f7a4 43 = .ok (.iload_n 0, 1) := by decide +kernel
theorem dJ6_numberOfLeadingZeros_0f7a4_44 : decode cJ6_numberOfLeadingZeros_0f7a4 44 = .ok (.bipush 8, 2) := by decide +kernel
theorem dJ6_numberOfLeadingZeros_0f7a4_46 : decode cJ6_numberOfLeadingZeros_0f7a4 46 = .ok (.iushr, 1) := by decide +kernel
theorem dJ6_numberOfLeadingZeros_0f7a4_47 : decode cJ6_numberOfLeadingZeros_0f7a4 47 = .ok (.istore_n 0, 1) := by decide +kernel
theorem dJ6_numberOfLeadingZeros_0f7a4_48 : decode cJ6_numberOfLeadingZeros_0f7a4 48 = .ok (.iload_n 0, 1) := by decide +kernel
theorem dJ6_numberOfLeadingZeros_0f7a4_49 : decode cJ6_numberOfLeadingZeros_0f7a4 49 = .ok (.bipush 16, 2) := by decide +kernel
theorem dJ6_numberOfLeadingZeros_0f7a4_51 : decode cJ6_numberOfLeadingZeros_0f7a4 51 = .ok (.if_icmp .lt 10, 3) := by decide +kernel
theorem dJ6_numberOfLeadingZeros_0f7a4_54 : decode cJ6_numberOfLeadingZeros_0f7a4 54 = .ok (.iinc 1 (-4), 3) := by decide +kernel
theorem dJ6_numberOfLeadingZeros_0f7a4_57 : decode cJ6_numberOfLeadingZeros_0f7a4 57 = .ok (.iload_n 0, 1) := by decide +kernel
theorem dJ6_numberOfLeadingZeros_0f7a4_58 : decode cJ6_numberOfLeadingZeros_0f7a4 58 = .ok (.iconst 4, 1) := by decide +kernel
theorem dJ6_numberOfLeadingZeros_0f7a4_59 : decode cJ6_numberOfLeadingZeros_0f7a4 59 = .ok (.iushr, 1) := by decide +kernel
theorem dJ6_numberOfLeadingZeros_0f7a4_60 : decode cJ6_numberOfLeadingZeros_0f7a4 60 = .ok (.istore_n 0, 1) := by decide +kernel
theorem dJ6_numberOfLeadingZeros_0f7a4_61 : decode cJ6_numberOfLeadingZeros_0f7a4 61 = .ok (.iload_n 0, 1) := by decide +kernel
theorem dJ6_numberOfLeadingZeros_0f7a4_62 : decode cJ6_numberOfLeadingZeros_0f7a4 62 = .ok (.iconst 4, 1) := by decide +kernel
theorem dJ6_numberOfLeadingZeros_0f7a4_63 : decode cJ6_numberOfLeadingZeros_0f7a4 63 = .ok (.if_icmp .lt 10, 3) := by decide +kernel
theorem dJ6_numberOfLeadingZeros_0f7a4_66 : decode cJ6_numberOfLeadingZeros_0f7a4 66 = .ok (.iinc 1 (-2), 3) := by decide +kernel
theorem dJ6_numberOfLeadingZeros_0f7a4_69 : decode cJ6_numberOfLeadingZeros_0f7a4 69 = .ok (.iload_n 0, 1) := by decide +kernel
theorem dJ6_numberOfLeadingZeros_0f7a4_70 : decode cJ6_numberOfLeadingZeros_0f7a4 70 = .ok (.iconst 2, 1) := by decide +kernel
theorem dJ6_numberOfLeadingZeros_0f7a4_71 : decode cJ6_numberOfLeadingZeros_0f7a4 71 = .ok (.iushr, 1) := by decide +kernel
theorem dJ6_numberOfLeadingZeros_0f7a4_72 : decode cJ6_numberOfLeadingZeros_0f7a4 72 = .ok (.istore_n 0, 1) := by decide +kernel
theorem dJ6_numberOfLeadingZeros_0f7a4_73 : decode cJ6_numberOfLeadingZeros_0f7a4 73 = .ok (.iload_n 1, 1) := by decide +kernel
theorem dJ6_numberOfLeadingZeros_0f7a4_74 : decode cJ6_numberOfLeadingZeros_0f7a4 74 = .ok (.iload_n 0, 1) := by decide +kernel
theorem dJ6_numberOfLeadingZeros_0f7a4_75 : decode cJ6_numberOfLeadingZeros_0f7a4 75 = .ok (.iconst 1, 1) := by decide +kernel
theorem dJ6_numberOfLeadingZeros_0f7a4_76 : decode cJ6_numberOfLeadingZeros_0f7a4 76 = .ok (.iushr, 1) := by decide +kernel
theorem dJ6_numberOfLeadingZeros_0f7a4_77 : decode cJ6_numberOfLeadingZeros_0f7a4 77 = .ok (.isub, 1) := by decide +kernel
theorem dJ6_numberOfLeadingZeros_0f7a4_78 : decode cJ6_numberOfLeadingZeros_0f7a4 78 = .ok (.ireturn, 1) := by decide +kernel
set_option maxRecDepth 20000 in
theorem kl_J6_264 : Cond.constant RJ6 264 (65536) ∈ gtb := (gtb_in (List.mem_of_getElem? (i := 486) (by decide +kernel)) (by decide +kernel))
theorem dJ13_numberOfLeadingZeros_95d88_0 : decode cJ13_numberOfLeadingZeros_95d88 0 = .ok (.lload_n 0, 1) := by decide +kernel
theorem dJ13_numberOfLeadingZeros_95d88_1 : decode cJ13_numberOfLeadingZeros_95d88 1 = .ok (.bipush 32, 2) := by decide +kernel
theorem dJ13_numberOfLeadingZeros_95d88_3 : decode cJ13_numberOfLeadingZeros_95d88 3 = .ok (.lushr, 1) := by decide +kernel
theorem dJ13_numberOfLeadingZeros_95d88_4 : decode cJ13_numberOfLeadingZeros_95d88 4 = .ok (.l2i, 1) := by decide +kernel
theorem dJ13_numberOfLeadingZeros_95d88_5 : decode cJ13_numberOfLeadingZeros_95d88 5 = .ok (.istore_n 2, 1) := by decide +kernel
theorem dJ13_numberOfLeadingZeros_95d88_6 : decode cJ13_numberOfLeadingZeros_95d88 6 = .ok (.iload_n 2, 1) := by decide +kernel
theorem dJ13_numberOfLeadingZeros_95d88_7 : decode cJ13_numberOfLeadingZeros_95d88 7 = .ok (.ifCond .ne 14, 3) := by decide +kernel
theorem dJ13_numberOfLeadingZeros_95d88_10 : decode cJ13_numberOfLeadingZeros_95d88 10 = .ok (.bipush 32, 2) := by decide +kernel
theorem dJ13_numberOfLeadingZeros_95d88_12 : decode cJ13_numberOfLeadingZeros_95d88 12 = .ok (.lload_n 0, 1) := by decide +kernel
theorem dJ13_numberOfLeadingZeros_95d88_13 : decode cJ13_numberOfLeadingZeros_95d88 13 = .ok (.l2i, 1) := by decide +kernel
theorem dJ13_numberOfLeadingZeros_95d88_14 : decode cJ13_numberOfLeadingZeros_95d88 14 = .ok (.invokestatic 308, 3) := by decide +kernel
theorem dJ13_numberOfLeadingZeros_95d88_17 : decode cJ13_numberOfLeadingZeros_95d88 17 = .ok (.iadd, 1) := by decide +kernel
theorem dJ13_numberOfLeadingZeros_95d88_18 : decode cJ13_numberOfLeadingZeros_95d88 18 = .ok (.goto 7, 3) := by decide +kernel
theorem dJ13_numberOfLeadingZeros_95d88_21 : decode cJ13_numberOfLeadingZeros_95d88 21 = .ok (.iload_n 2, 1) := by decide +kernel
theorem dJ13_numberOfLeadingZeros_95d88_22 : decode cJ13_numberOfLeadingZeros_95d88 22 = .ok (.invokestatic 308, 3) := by decide +kernel
theorem dJ13_numberOfLeadingZeros_95d88_25 : decode cJ13_numberOfLeadingZeros_95d88 25 = .ok (.ireturn, 1) := by decide +kernel
set_option maxRecDepth 20000 in
theorem sl_J13_308 : SL RJ13 308 mJ6_numberOfLeadingZeros_0f7a4 1 := ⟨⟨qc_J6_numberOfLeadingZeros_0f7a4, (gtb_in (List.mem_of_getElem? (i := 483) (by decide +kernel)) (by decide +kernel)), qt_J6_numberOfLeadingZeros_0f7a4, (gtb_in (List.mem_of_getElem? (i := 27) (by decide +kernel)) (by decide +kernel))⟩, qd_J6_numberOfLeadingZeros_0f7a4, by decide⟩
