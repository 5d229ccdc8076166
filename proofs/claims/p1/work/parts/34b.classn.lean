def mX11_init : MI := (yX11_init, cX11_init, 3, none)
theorem qc_X11_init : Cond.code mX11_init.1 mX11_init.2.1 mX11_init.2.2.1 mX11_init.2.2.2 ∈ gtb := (gtb_in (List.mem_of_getElem? (i := 35) (by decide +kernel)) (by decide +kernel))
theorem qi_X11_init : Cond.instanceMethod mX11_init.1 ∈ gtb := (gtb_in (List.mem_of_getElem? (i := 34) (by decide +kernel)) (by decide +kernel))
theorem qd_X11_init : dsc mX11_init.1 0 := ⟨by decide +kernel, by decide +kernel, by decide +kernel⟩
def mX11_feed : MI := (yX11_feed, cX11_feed, 6, (some .int))
theorem qc_X11_feed : Cond.code mX11_feed.1 mX11_feed.2.1 mX11_feed.2.2.1 mX11_feed.2.2.2 ∈ gtb := (gtb_in (List.mem_of_getElem? (i := 427) (by decide +kernel)) (by decide +kernel))
theorem qi_X11_feed : Cond.instanceMethod mX11_feed.1 ∈ gtb := (gtb_in (List.mem_of_getElem? (i := 425) (by decide +kernel)) (by decide +kernel))
theorem qs_X11_feed : Cond.selects mX11_feed.1.cls mX11_feed.1 mX11_feed.1 ∈ gtb := (gtb_in (List.mem_of_getElem? (i := 426) (by decide +kernel)) (by decide +kernel))
theorem qd_X11_feed : dsc mX11_feed.1 5 := ⟨by decide +kernel, by decide +kernel, by decide +kernel⟩
def mX11_end : MI := (yX11_end, cX11_end, 2, (some .boolean))
theorem qc_X11_end : Cond.code mX11_end.1 mX11_end.2.1 mX11_end.2.2.1 mX11_end.2.2.2 ∈ gtb := (gtb_in (List.mem_of_getElem? (i := 435) (by decide +kernel)) (by decide +kernel))
theorem qi_X11_end : Cond.instanceMethod mX11_end.1 ∈ gtb := (gtb_in (List.mem_of_getElem? (i := 433) (by decide +kernel)) (by decide +kernel))
theorem qs_X11_end : Cond.selects mX11_end.1.cls mX11_end.1 mX11_end.1 ∈ gtb := (gtb_in (List.mem_of_getElem? (i := 434) (by decide +kernel)) (by decide +kernel))
theorem qd_X11_end : dsc mX11_end.1 1 := ⟨by decide +kernel, by decide +kernel, by decide +kernel⟩
def mX11_enter : MI := (yX11_enter, cX11_enter, 6, (some .int))
theorem qc_X11_enter : Cond.code mX11_enter.1 mX11_enter.2.1 mX11_enter.2.2.1 mX11_enter.2.2.2 ∈ gtb := (gtb_in (List.mem_of_getElem? (i := 951) (by decide +kernel)) (by decide +kernel))
theorem qi_X11_enter : Cond.instanceMethod mX11_enter.1 ∈ gtb := (gtb_in (List.mem_of_getElem? (i := 949) (by decide +kernel)) (by decide +kernel))
theorem qs_X11_enter : Cond.selects mX11_enter.1.cls mX11_enter.1 mX11_enter.1 ∈ gtb := (gtb_in (List.mem_of_getElem? (i := 950) (by decide +kernel)) (by decide +kernel))
theorem qd_X11_enter : dsc mX11_enter.1 2 := ⟨by decide +kernel, by decide +kernel, by decide +kernel⟩
def mX11_fault : MI := (yX11_fault, cX11_fault, 2, (some .int))
theorem qc_X11_fault : Cond.code mX11_fault.1 mX11_fault.2.1 mX11_fault.2.2.1 mX11_fault.2.2.2 ∈ gtb := (gtb_in (List.mem_of_getElem? (i := 439) (by decide +kernel)) (by decide +kernel))
theorem qi_X11_fault : Cond.instanceMethod mX11_fault.1 ∈ gtb := (gtb_in (List.mem_of_getElem? (i := 437) (by decide +kernel)) (by decide +kernel))
theorem qs_X11_fault : Cond.selects mX11_fault.1.cls mX11_fault.1 mX11_fault.1 ∈ gtb := (gtb_in (List.mem_of_getElem? (i := 438) (by decide +kernel)) (by decide +kernel))
theorem qd_X11_fault : dsc mX11_fault.1 1 := ⟨by decide +kernel, by decide +kernel, by decide +kernel⟩
def mX11_erase : MI := (yX11_erase, cX11_erase, 9, (some .int))
theorem qc_X11_erase : Cond.code mX11_erase.1 mX11_erase.2.1 mX11_erase.2.2.1 mX11_erase.2.2.2 ∈ gtb := (gtb_in (List.mem_of_getElem? (i := 1294) (by decide +kernel)) (by decide +kernel))
theorem qi_X11_erase : Cond.instanceMethod mX11_erase.1 ∈ gtb := (gtb_in (List.mem_of_getElem? (i := 1292) (by decide +kernel)) (by decide +kernel))
theorem qs_X11_erase : Cond.selects mX11_erase.1.cls mX11_erase.1 mX11_erase.1 ∈ gtb := (gtb_in (List.mem_of_getElem? (i := 1293) (by decide +kernel)) (by decide +kernel))
theorem qd_X11_erase : dsc mX11_erase.1 4 := ⟨by decide +kernel, by decide +kernel, by decide +kernel⟩
def mX11_insert : MI := (yX11_insert, cX11_insert, 5, (some .int))
theorem qc_X11_insert : Cond.code mX11_insert.1 mX11_insert.2.1 mX11_insert.2.2.1 mX11_insert.2.2.2 ∈ gtb := (gtb_in (List.mem_of_getElem? (i := 1302) (by decide +kernel)) (by decide +kernel))
theorem qi_X11_insert : Cond.instanceMethod mX11_insert.1 ∈ gtb := (gtb_in (List.mem_of_getElem? (i := 1300) (by decide +kernel)) (by decide +kernel))
theorem qs_X11_insert : Cond.selects mX11_insert.1.cls mX11_insert.1 mX11_insert.1 ∈ gtb := (gtb_in (List.mem_of_getElem? (i := 1301) (by decide +kernel)) (by decide +kernel))
theorem qd_X11_insert : dsc mX11_insert.1 2 := ⟨by decide +kernel, by decide +kernel, by decide +kernel⟩
def mX11_remove : MI := (yX11_remove, cX11_remove, 4, (some .int))
theorem qc_X11_remove : Cond.code mX11_remove.1 mX11_remove.2.1 mX11_remove.2.2.1 mX11_remove.2.2.2 ∈ gtb := (gtb_in (List.mem_of_getElem? (i := 1348) (by decide +kernel)) (by decide +kernel))
theorem qi_X11_remove : Cond.instanceMethod mX11_remove.1 ∈ gtb := (gtb_in (List.mem_of_getElem? (i := 1346) (by decide +kernel)) (by decide +kernel))
theorem qs_X11_remove : Cond.selects mX11_remove.1.cls mX11_remove.1 mX11_remove.1 ∈ gtb := (gtb_in (List.mem_of_getElem? (i := 1347) (by decide +kernel)) (by decide +kernel))
theorem qd_X11_remove : dsc mX11_remove.1 2 := ⟨by decide +kernel, by decide +kernel, by decide +kernel⟩
def mX11_move : MI := (yX11_move, cX11_move, 5, (some .int))
theorem qc_X11_move : Cond.code mX11_move.1 mX11_move.2.1 mX11_move.2.2.1 mX11_move.2.2.2 ∈ gtb := (gtb_in (List.mem_of_getElem? (i := 1358) (by decide +kernel)) (by decide +kernel))
theorem qi_X11_move : Cond.instanceMethod mX11_move.1 ∈ gtb := (gtb_in (List.mem_of_getElem? (i := 1356) (by decide +kernel)) (by decide +kernel))
theorem qs_X11_move : Cond.selects mX11_move.1.cls mX11_move.1 mX11_move.1 ∈ gtb := (gtb_in (List.mem_of_getElem? (i := 1357) (by decide +kernel)) (by decide +kernel))
theorem qd_X11_move : dsc mX11_move.1 3 := ⟨by decide +kernel, by decide +kernel, by decide +kernel⟩
def mX11_copy : MI := (yX11_copy, cX11_copy, 14, (some .int))
theorem qc_X11_copy : Cond.code mX11_copy.1 mX11_copy.2.1 mX11_copy.2.2.1 mX11_copy.2.2.2 ∈ gtb := (gtb_in (List.mem_of_getElem? (i := 1368) (by decide +kernel)) (by decide +kernel))
theorem qi_X11_copy : Cond.instanceMethod mX11_copy.1 ∈ gtb := (gtb_in (List.mem_of_getElem? (i := 1366) (by decide +kernel)) (by decide +kernel))
theorem qs_X11_copy : Cond.selects mX11_copy.1.cls mX11_copy.1 mX11_copy.1 ∈ gtb := (gtb_in (List.mem_of_getElem? (i := 1367) (by decide +kernel)) (by decide +kernel))
theorem qd_X11_copy : dsc mX11_copy.1 6 := ⟨by decide +kernel, by decide +kernel, by decide +kernel⟩
def mX11_sort : MI := (yX11_sort, cX11_sort, 9, (some .int))
theorem qc_X11_sort : Cond.code mX11_sort.1 mX11_sort.2.1 mX11_sort.2.2.1 mX11_sort.2.2.2 ∈ gtb := (gtb_in (List.mem_of_getElem? (i := 1399) (by decide +kernel)) (by decide +kernel))
theorem qi_X11_sort : Cond.instanceMethod mX11_sort.1 ∈ gtb := (gtb_in (List.mem_of_getElem? (i := 1397) (by decide +kernel)) (by decide +kernel))
theorem qs_X11_sort : Cond.selects mX11_sort.1.cls mX11_sort.1 mX11_sort.1 ∈ gtb := (gtb_in (List.mem_of_getElem? (i := 1398) (by decide +kernel)) (by decide +kernel))
theorem qd_X11_sort : dsc mX11_sort.1 4 := ⟨by decide +kernel, by decide +kernel, by decide +kernel⟩
def mX11_undo : MI := (yX11_undo, cX11_undo, 1, (some .int))
theorem qc_X11_undo : Cond.code mX11_undo.1 mX11_undo.2.1 mX11_undo.2.2.1 mX11_undo.2.2.2 ∈ gtb := (gtb_in (List.mem_of_getElem? (i := 1422) (by decide +kernel)) (by decide +kernel))
theorem qi_X11_undo : Cond.instanceMethod mX11_undo.1 ∈ gtb := (gtb_in (List.mem_of_getElem? (i := 1420) (by decide +kernel)) (by decide +kernel))
theorem qs_X11_undo : Cond.selects mX11_undo.1.cls mX11_undo.1 mX11_undo.1 ∈ gtb := (gtb_in (List.mem_of_getElem? (i := 1421) (by decide +kernel)) (by decide +kernel))
theorem qd_X11_undo : dsc mX11_undo.1 0 := ⟨by decide +kernel, by decide +kernel, by decide +kernel⟩
def mX11_redo : MI := (yX11_redo, cX11_redo, 1, (some .int))
theorem qc_X11_redo : Cond.code mX11_redo.1 mX11_redo.2.1 mX11_redo.2.2.1 mX11_redo.2.2.2 ∈ gtb := (gtb_in (List.mem_of_getElem? (i := 1448) (by decide +kernel)) (by decide +kernel))
theorem qi_X11_redo : Cond.instanceMethod mX11_redo.1 ∈ gtb := (gtb_in (List.mem_of_getElem? (i := 1446) (by decide +kernel)) (by decide +kernel))
theorem qs_X11_redo : Cond.selects mX11_redo.1.cls mX11_redo.1 mX11_redo.1 ∈ gtb := (gtb_in (List.mem_of_getElem? (i := 1447) (by decide +kernel)) (by decide +kernel))
theorem qd_X11_redo : dsc mX11_redo.1 0 := ⟨by decide +kernel, by decide +kernel, by decide +kernel⟩
def mX11_commit : MI := (yX11_commit, cX11_commit, 1, (some .int))
theorem qc_X11_commit : Cond.code mX11_commit.1 mX11_commit.2.1 mX11_commit.2.2.1 mX11_commit.2.2.2 ∈ gtb := (gtb_in (List.mem_of_getElem? (i := 1459) (by decide +kernel)) (by decide +kernel))
theorem qi_X11_commit : Cond.instanceMethod mX11_commit.1 ∈ gtb := (gtb_in (List.mem_of_getElem? (i := 1457) (by decide +kernel)) (by decide +kernel))
theorem qs_X11_commit : Cond.selects mX11_commit.1.cls mX11_commit.1 mX11_commit.1 ∈ gtb := (gtb_in (List.mem_of_getElem? (i := 1458) (by decide +kernel)) (by decide +kernel))
theorem qd_X11_commit : dsc mX11_commit.1 0 := ⟨by decide +kernel, by decide +kernel, by decide +kernel⟩
def mX11_branch : MI := (yX11_branch, cX11_branch, 2, (some .int))
theorem qc_X11_branch : Cond.code mX11_branch.1 mX11_branch.2.1 mX11_branch.2.2.1 mX11_branch.2.2.2 ∈ gtb := (gtb_in (List.mem_of_getElem? (i := 1466) (by decide +kernel)) (by decide +kernel))
theorem qi_X11_branch : Cond.instanceMethod mX11_branch.1 ∈ gtb := (gtb_in (List.mem_of_getElem? (i := 1464) (by decide +kernel)) (by decide +kernel))
theorem qs_X11_branch : Cond.selects mX11_branch.1.cls mX11_branch.1 mX11_branch.1 ∈ gtb := (gtb_in (List.mem_of_getElem? (i := 1465) (by decide +kernel)) (by decide +kernel))
theorem qd_X11_branch : dsc mX11_branch.1 1 := ⟨by decide +kernel, by decide +kernel, by decide +kernel⟩
def mX11_go : MI := (yX11_go, cX11_go, 2, (some .int))
theorem qc_X11_go : Cond.code mX11_go.1 mX11_go.2.1 mX11_go.2.2.1 mX11_go.2.2.2 ∈ gtb := (gtb_in (List.mem_of_getElem? (i := 1473) (by decide +kernel)) (by decide +kernel))
theorem qi_X11_go : Cond.instanceMethod mX11_go.1 ∈ gtb := (gtb_in (List.mem_of_getElem? (i := 1471) (by decide +kernel)) (by decide +kernel))
theorem qs_X11_go : Cond.selects mX11_go.1.cls mX11_go.1 mX11_go.1 ∈ gtb := (gtb_in (List.mem_of_getElem? (i := 1472) (by decide +kernel)) (by decide +kernel))
theorem qd_X11_go : dsc mX11_go.1 1 := ⟨by decide +kernel, by decide +kernel, by decide +kernel⟩
def mX11_drop : MI := (yX11_drop, cX11_drop, 2, (some .int))
theorem qc_X11_drop : Cond.code mX11_drop.1 mX11_drop.2.1 mX11_drop.2.2.1 mX11_drop.2.2.2 ∈ gtb := (gtb_in (List.mem_of_getElem? (i := 443) (by decide +kernel)) (by decide +kernel))
theorem qi_X11_drop : Cond.instanceMethod mX11_drop.1 ∈ gtb := (gtb_in (List.mem_of_getElem? (i := 441) (by decide +kernel)) (by decide +kernel))
theorem qs_X11_drop : Cond.selects mX11_drop.1.cls mX11_drop.1 mX11_drop.1 ∈ gtb := (gtb_in (List.mem_of_getElem? (i := 442) (by decide +kernel)) (by decide +kernel))
theorem qd_X11_drop : dsc mX11_drop.1 0 := ⟨by decide +kernel, by decide +kernel, by decide +kernel⟩
def mX11_merge : MI := (yX11_merge, cX11_merge, 5, (some .int))
theorem qc_X11_merge : Cond.code mX11_merge.1 mX11_merge.2.1 mX11_merge.2.2.1 mX11_merge.2.2.2 ∈ gtb := (gtb_in (List.mem_of_getElem? (i := 1485) (by decide +kernel)) (by decide +kernel))
theorem qi_X11_merge : Cond.instanceMethod mX11_merge.1 ∈ gtb := (gtb_in (List.mem_of_getElem? (i := 1483) (by decide +kernel)) (by decide +kernel))
theorem qs_X11_merge : Cond.selects mX11_merge.1.cls mX11_merge.1 mX11_merge.1 ∈ gtb := (gtb_in (List.mem_of_getElem? (i := 1484) (by decide +kernel)) (by decide +kernel))
theorem qd_X11_merge : dsc mX11_merge.1 1 := ⟨by decide +kernel, by decide +kernel, by decide +kernel⟩
def mX11_pick : MI := (yX11_pick, cX11_pick, 3, (some .int))
theorem qc_X11_pick : Cond.code mX11_pick.1 mX11_pick.2.1 mX11_pick.2.2.1 mX11_pick.2.2.2 ∈ gtb := (gtb_in (List.mem_of_getElem? (i := 1583) (by decide +kernel)) (by decide +kernel))
theorem qi_X11_pick : Cond.instanceMethod mX11_pick.1 ∈ gtb := (gtb_in (List.mem_of_getElem? (i := 1581) (by decide +kernel)) (by decide +kernel))
theorem qs_X11_pick : Cond.selects mX11_pick.1.cls mX11_pick.1 mX11_pick.1 ∈ gtb := (gtb_in (List.mem_of_getElem? (i := 1582) (by decide +kernel)) (by decide +kernel))
theorem qd_X11_pick : dsc mX11_pick.1 1 := ⟨by decide +kernel, by decide +kernel, by decide +kernel⟩
def mX11_conflict : MI := (yX11_conflict, cX11_conflict, 4, (some .int))
theorem qc_X11_conflict : Cond.code mX11_conflict.1 mX11_conflict.2.1 mX11_conflict.2.2.1 mX11_conflict.2.2.2 ∈ gtb := (gtb_in (List.mem_of_getElem? (i := 463) (by decide +kernel)) (by decide +kernel))
theorem qi_X11_conflict : Cond.instanceMethod mX11_conflict.1 ∈ gtb := (gtb_in (List.mem_of_getElem? (i := 461) (by decide +kernel)) (by decide +kernel))
theorem qs_X11_conflict : Cond.selects mX11_conflict.1.cls mX11_conflict.1 mX11_conflict.1 ∈ gtb := (gtb_in (List.mem_of_getElem? (i := 462) (by decide +kernel)) (by decide +kernel))
theorem qd_X11_conflict : dsc mX11_conflict.1 2 := ⟨by decide +kernel, by decide +kernel, by decide +kernel⟩
def mX11_choose : MI := (yX11_choose, cX11_choose, 4, (some .int))
theorem qc_X11_choose : Cond.code mX11_choose.1 mX11_choose.2.1 mX11_choose.2.2.1 mX11_choose.2.2.2 ∈ gtb := (gtb_in (List.mem_of_getElem? (i := 1590) (by decide +kernel)) (by decide +kernel))
theorem qi_X11_choose : Cond.instanceMethod mX11_choose.1 ∈ gtb := (gtb_in (List.mem_of_getElem? (i := 1588) (by decide +kernel)) (by decide +kernel))
theorem qs_X11_choose : Cond.selects mX11_choose.1.cls mX11_choose.1 mX11_choose.1 ∈ gtb := (gtb_in (List.mem_of_getElem? (i := 1589) (by decide +kernel)) (by decide +kernel))
theorem qd_X11_choose : dsc mX11_choose.1 2 := ⟨by decide +kernel, by decide +kernel, by decide +kernel⟩
def mX11_base : MI := (yX11_base, cX11_base, 3, (some .int))
theorem qc_X11_base : Cond.code mX11_base.1 mX11_base.2.1 mX11_base.2.2.1 mX11_base.2.2.2 ∈ gtb := (gtb_in (List.mem_of_getElem? (i := 475) (by decide +kernel)) (by decide +kernel))
theorem qi_X11_base : Cond.instanceMethod mX11_base.1 ∈ gtb := (gtb_in (List.mem_of_getElem? (i := 473) (by decide +kernel)) (by decide +kernel))
theorem qs_X11_base : Cond.selects mX11_base.1.cls mX11_base.1 mX11_base.1 ∈ gtb := (gtb_in (List.mem_of_getElem? (i := 474) (by decide +kernel)) (by decide +kernel))
theorem qd_X11_base : dsc mX11_base.1 2 := ⟨by decide +kernel, by decide +kernel, by decide +kernel⟩
def mX11_diff : MI := (yX11_diff, cX11_diff, 5, (some .int))
theorem qc_X11_diff : Cond.code mX11_diff.1 mX11_diff.2.1 mX11_diff.2.2.1 mX11_diff.2.2.2 ∈ gtb := (gtb_in (List.mem_of_getElem? (i := 1601) (by decide +kernel)) (by decide +kernel))
theorem qi_X11_diff : Cond.instanceMethod mX11_diff.1 ∈ gtb := (gtb_in (List.mem_of_getElem? (i := 1599) (by decide +kernel)) (by decide +kernel))
theorem qs_X11_diff : Cond.selects mX11_diff.1.cls mX11_diff.1 mX11_diff.1 ∈ gtb := (gtb_in (List.mem_of_getElem? (i := 1600) (by decide +kernel)) (by decide +kernel))
theorem qd_X11_diff : dsc mX11_diff.1 2 := ⟨by decide +kernel, by decide +kernel, by decide +kernel⟩
def mX11_difference : MI := (yX11_difference, cX11_difference, 3, (some .int))
theorem qc_X11_difference : Cond.code mX11_difference.1 mX11_difference.2.1 mX11_difference.2.2.1 mX11_difference.2.2.2 ∈ gtb := (gtb_in (List.mem_of_getElem? (i := 490) (by decide +kernel)) (by decide +kernel))
theorem qi_X11_difference : Cond.instanceMethod mX11_difference.1 ∈ gtb := (gtb_in (List.mem_of_getElem? (i := 488) (by decide +kernel)) (by decide +kernel))
theorem qs_X11_difference : Cond.selects mX11_difference.1.cls mX11_difference.1 mX11_difference.1 ∈ gtb := (gtb_in (List.mem_of_getElem? (i := 489) (by decide +kernel)) (by decide +kernel))
theorem qd_X11_difference : dsc mX11_difference.1 2 := ⟨by decide +kernel, by decide +kernel, by decide +kernel⟩
def mX11_blame : MI := (yX11_blame, cX11_blame, 8, (some .int))
theorem qc_X11_blame : Cond.code mX11_blame.1 mX11_blame.2.1 mX11_blame.2.2.1 mX11_blame.2.2.2 ∈ gtb := (gtb_in (List.mem_of_getElem? (i := 1622) (by decide +kernel)) (by decide +kernel))
theorem qi_X11_blame : Cond.instanceMethod mX11_blame.1 ∈ gtb := (gtb_in (List.mem_of_getElem? (i := 1620) (by decide +kernel)) (by decide +kernel))
theorem qs_X11_blame : Cond.selects mX11_blame.1.cls mX11_blame.1 mX11_blame.1 ∈ gtb := (gtb_in (List.mem_of_getElem? (i := 1621) (by decide +kernel)) (by decide +kernel))
theorem qd_X11_blame : dsc mX11_blame.1 2 := ⟨by decide +kernel, by decide +kernel, by decide +kernel⟩
def mX11_sheet : MI := (yX11_sheet, cX11_sheet, 4, (some .int))
theorem qc_X11_sheet : Cond.code mX11_sheet.1 mX11_sheet.2.1 mX11_sheet.2.2.1 mX11_sheet.2.2.2 ∈ gtb := (gtb_in (List.mem_of_getElem? (i := 494) (by decide +kernel)) (by decide +kernel))
theorem qi_X11_sheet : Cond.instanceMethod mX11_sheet.1 ∈ gtb := (gtb_in (List.mem_of_getElem? (i := 492) (by decide +kernel)) (by decide +kernel))
theorem qs_X11_sheet : Cond.selects mX11_sheet.1.cls mX11_sheet.1 mX11_sheet.1 ∈ gtb := (gtb_in (List.mem_of_getElem? (i := 493) (by decide +kernel)) (by decide +kernel))
theorem qd_X11_sheet : dsc mX11_sheet.1 2 := ⟨by decide +kernel, by decide +kernel, by decide +kernel⟩
def mX11_kind : MI := (yX11_kind, cX11_kind, 4, (some .int))
theorem qc_X11_kind : Cond.code mX11_kind.1 mX11_kind.2.1 mX11_kind.2.2.1 mX11_kind.2.2.2 ∈ gtb := (gtb_in (List.mem_of_getElem? (i := 502) (by decide +kernel)) (by decide +kernel))
theorem qi_X11_kind : Cond.instanceMethod mX11_kind.1 ∈ gtb := (gtb_in (List.mem_of_getElem? (i := 500) (by decide +kernel)) (by decide +kernel))
theorem qs_X11_kind : Cond.selects mX11_kind.1.cls mX11_kind.1 mX11_kind.1 ∈ gtb := (gtb_in (List.mem_of_getElem? (i := 501) (by decide +kernel)) (by decide +kernel))
theorem qd_X11_kind : dsc mX11_kind.1 3 := ⟨by decide +kernel, by decide +kernel, by decide +kernel⟩
def mX11_value : MI := (yX11_value, cX11_value, 4, (some .long))
theorem qc_X11_value : Cond.code mX11_value.1 mX11_value.2.1 mX11_value.2.2.1 mX11_value.2.2.2 ∈ gtb := (gtb_in (List.mem_of_getElem? (i := 807) (by decide +kernel)) (by decide +kernel))
theorem qi_X11_value : Cond.instanceMethod mX11_value.1 ∈ gtb := (gtb_in (List.mem_of_getElem? (i := 805) (by decide +kernel)) (by decide +kernel))
theorem qs_X11_value : Cond.selects mX11_value.1.cls mX11_value.1 mX11_value.1 ∈ gtb := (gtb_in (List.mem_of_getElem? (i := 806) (by decide +kernel)) (by decide +kernel))
theorem qd_X11_value : dsc mX11_value.1 3 := ⟨by decide +kernel, by decide +kernel, by decide +kernel⟩
def mX11_letter : MI := (yX11_letter, cX11_letter, 6, (some .int))
theorem qc_X11_letter : Cond.code mX11_letter.1 mX11_letter.2.1 mX11_letter.2.2.1 mX11_letter.2.2.2 ∈ gtb := (gtb_in (List.mem_of_getElem? (i := 811) (by decide +kernel)) (by decide +kernel))
theorem qi_X11_letter : Cond.instanceMethod mX11_letter.1 ∈ gtb := (gtb_in (List.mem_of_getElem? (i := 809) (by decide +kernel)) (by decide +kernel))
theorem qs_X11_letter : Cond.selects mX11_letter.1.cls mX11_letter.1 mX11_letter.1 ∈ gtb := (gtb_in (List.mem_of_getElem? (i := 810) (by decide +kernel)) (by decide +kernel))
theorem qd_X11_letter : dsc mX11_letter.1 4 := ⟨by decide +kernel, by decide +kernel, by decide +kernel⟩
def mX11_written : MI := (yX11_written, cX11_written, 6, (some .int))
theorem qc_X11_written : Cond.code mX11_written.1 mX11_written.2.1 mX11_written.2.2.1 mX11_written.2.2.2 ∈ gtb := (gtb_in (List.mem_of_getElem? (i := 815) (by decide +kernel)) (by decide +kernel))
theorem qi_X11_written : Cond.instanceMethod mX11_written.1 ∈ gtb := (gtb_in (List.mem_of_getElem? (i := 813) (by decide +kernel)) (by decide +kernel))
theorem qs_X11_written : Cond.selects mX11_written.1.cls mX11_written.1 mX11_written.1 ∈ gtb := (gtb_in (List.mem_of_getElem? (i := 814) (by decide +kernel)) (by decide +kernel))
theorem qd_X11_written : dsc mX11_written.1 4 := ⟨by decide +kernel, by decide +kernel, by decide +kernel⟩
def mX11_total : MI := (yX11_total, cX11_total, 2, (some .int))
theorem qc_X11_total : Cond.code mX11_total.1 mX11_total.2.1 mX11_total.2.2.1 mX11_total.2.2.2 ∈ gtb := (gtb_in (List.mem_of_getElem? (i := 917) (by decide +kernel)) (by decide +kernel))
theorem qi_X11_total : Cond.instanceMethod mX11_total.1 ∈ gtb := (gtb_in (List.mem_of_getElem? (i := 915) (by decide +kernel)) (by decide +kernel))
theorem qs_X11_total : Cond.selects mX11_total.1.cls mX11_total.1 mX11_total.1 ∈ gtb := (gtb_in (List.mem_of_getElem? (i := 916) (by decide +kernel)) (by decide +kernel))
theorem qd_X11_total : dsc mX11_total.1 1 := ⟨by decide +kernel, by decide +kernel, by decide +kernel⟩
def mX11_countedUp : MI := (yX11_countedUp, cX11_countedUp, 3, (some ((.array .int))))
theorem qc_X11_countedUp : Cond.code mX11_countedUp.1 mX11_countedUp.2.1 mX11_countedUp.2.2.1 mX11_countedUp.2.2.2 ∈ gtb := (gtb_in (List.mem_of_getElem? (i := 325) (by decide +kernel)) (by decide +kernel))
theorem qt_X11_countedUp : Cond.static mX11_countedUp.1 ∈ gtb := (gtb_in (List.mem_of_getElem? (i := 324) (by decide +kernel)) (by decide +kernel))
theorem qd_X11_countedUp : dsc mX11_countedUp.1 1 := ⟨by decide +kernel, by decide +kernel, by decide +kernel⟩
def mX11_isAxis : MI := (yX11_isAxis, cX11_isAxis, 1, (some .boolean))
theorem qc_X11_isAxis : Cond.code mX11_isAxis.1 mX11_isAxis.2.1 mX11_isAxis.2.2.1 mX11_isAxis.2.2.2 ∈ gtb := (gtb_in (List.mem_of_getElem? (i := 1305) (by decide +kernel)) (by decide +kernel))
theorem qt_X11_isAxis : Cond.static mX11_isAxis.1 ∈ gtb := (gtb_in (List.mem_of_getElem? (i := 1304) (by decide +kernel)) (by decide +kernel))
theorem qd_X11_isAxis : dsc mX11_isAxis.1 1 := ⟨by decide +kernel, by decide +kernel, by decide +kernel⟩
def mX11_mostOf : MI := (yX11_mostOf, cX11_mostOf, 1, (some .int))
theorem qc_X11_mostOf : Cond.code mX11_mostOf.1 mX11_mostOf.2.1 mX11_mostOf.2.2.1 mX11_mostOf.2.2.2 ∈ gtb := (gtb_in (List.mem_of_getElem? (i := 1312) (by decide +kernel)) (by decide +kernel))
theorem qt_X11_mostOf : Cond.static mX11_mostOf.1 ∈ gtb := (gtb_in (List.mem_of_getElem? (i := 1311) (by decide +kernel)) (by decide +kernel))
theorem qd_X11_mostOf : dsc mX11_mostOf.1 1 := ⟨by decide +kernel, by decide +kernel, by decide +kernel⟩
def mX11_with : MI := (yX11_with, cX11_with, 6, (some ((.array .int))))
theorem qc_X11_with : Cond.code mX11_with.1 mX11_with.2.1 mX11_with.2.2.1 mX11_with.2.2.2 ∈ gtb := (gtb_in (List.mem_of_getElem? (i := 1334) (by decide +kernel)) (by decide +kernel))
theorem qt_X11_with : Cond.static mX11_with.1 ∈ gtb := (gtb_in (List.mem_of_getElem? (i := 1333) (by decide +kernel)) (by decide +kernel))
theorem qd_X11_with : dsc mX11_with.1 3 := ⟨by decide +kernel, by decide +kernel, by decide +kernel⟩
def mX11_without : MI := (yX11_without, cX11_without, 4, (some ((.array .int))))
theorem qc_X11_without : Cond.code mX11_without.1 mX11_without.2.1 mX11_without.2.2.1 mX11_without.2.2.2 ∈ gtb := (gtb_in (List.mem_of_getElem? (i := 1351) (by decide +kernel)) (by decide +kernel))
theorem qt_X11_without : Cond.static mX11_without.1 ∈ gtb := (gtb_in (List.mem_of_getElem? (i := 1350) (by decide +kernel)) (by decide +kernel))
theorem qd_X11_without : dsc mX11_without.1 2 := ⟨by decide +kernel, by decide +kernel, by decide +kernel⟩
def mX11_placeIn : MI := (yX11_placeIn, cX11_placeIn, 4, (some .int))
theorem qc_X11_placeIn : Cond.code mX11_placeIn.1 mX11_placeIn.2.1 mX11_placeIn.2.2.1 mX11_placeIn.2.2.2 ∈ gtb := (gtb_in (List.mem_of_getElem? (i := 1500) (by decide +kernel)) (by decide +kernel))
theorem qt_X11_placeIn : Cond.static mX11_placeIn.1 ∈ gtb := (gtb_in (List.mem_of_getElem? (i := 1499) (by decide +kernel)) (by decide +kernel))
theorem qd_X11_placeIn : dsc mX11_placeIn.1 3 := ⟨by decide +kernel, by decide +kernel, by decide +kernel⟩
def mX11_inSameOrder : MI := (yX11_inSameOrder, cX11_inSameOrder, 6, (some .boolean))
theorem qc_X11_inSameOrder : Cond.code mX11_inSameOrder.1 mX11_inSameOrder.2.1 mX11_inSameOrder.2.2.1 mX11_inSameOrder.2.2.2 ∈ gtb := (gtb_in (List.mem_of_getElem? (i := 1497) (by decide +kernel)) (by decide +kernel))
theorem qt_X11_inSameOrder : Cond.static mX11_inSameOrder.1 ∈ gtb := (gtb_in (List.mem_of_getElem? (i := 1496) (by decide +kernel)) (by decide +kernel))
theorem qd_X11_inSameOrder : dsc mX11_inSameOrder.1 3 := ⟨by decide +kernel, by decide +kernel, by decide +kernel⟩
def mX11_isBranch : MI := (yX11_isBranch, cX11_isBranch, 1, (some .boolean))
theorem qc_X11_isBranch : Cond.code mX11_isBranch.1 mX11_isBranch.2.1 mX11_isBranch.2.2.1 mX11_isBranch.2.2.2 ∈ gtb := (gtb_in (List.mem_of_getElem? (i := 941) (by decide +kernel)) (by decide +kernel))
theorem qt_X11_isBranch : Cond.static mX11_isBranch.1 ∈ gtb := (gtb_in (List.mem_of_getElem? (i := 940) (by decide +kernel)) (by decide +kernel))
theorem qd_X11_isBranch : dsc mX11_isBranch.1 1 := ⟨by decide +kernel, by decide +kernel, by decide +kernel⟩
def mX11_head : MI := (yX11_head, cX11_head, 1, (some .int))
theorem qc_X11_head : Cond.code mX11_head.1 mX11_head.2.1 mX11_head.2.2.1 mX11_head.2.2.2 ∈ gtb := (gtb_in (List.mem_of_getElem? (i := 451) (by decide +kernel)) (by decide +kernel))
theorem qi_X11_head : Cond.instanceMethod mX11_head.1 ∈ gtb := (gtb_in (List.mem_of_getElem? (i := 450) (by decide +kernel)) (by decide +kernel))
theorem qs_X11_head : Cond.selects mX11_head.1.cls mX11_head.1 mX11_head.1 ∈ gtb := (gtb_sel (q := (⟨"SheetBranches", "head", "()I"⟩, 18)) (List.mem_of_getElem? (i := 1) (by decide +kernel)) (by decide +kernel))
theorem qd_X11_head : dsc mX11_head.1 0 := ⟨by decide +kernel, by decide +kernel, by decide +kernel⟩
def mX11_newcomer : MI := (yX11_newcomer, cX11_newcomer, 2, (some .int))
theorem qc_X11_newcomer : Cond.code mX11_newcomer.1 mX11_newcomer.2.1 mX11_newcomer.2.2.1 mX11_newcomer.2.2.2 ∈ gtb := (gtb_in (List.mem_of_getElem? (i := 1331) (by decide +kernel)) (by decide +kernel))
theorem qi_X11_newcomer : Cond.instanceMethod mX11_newcomer.1 ∈ gtb := (gtb_in (List.mem_of_getElem? (i := 1330) (by decide +kernel)) (by decide +kernel))
theorem qs_X11_newcomer : Cond.selects mX11_newcomer.1.cls mX11_newcomer.1 mX11_newcomer.1 ∈ gtb := (gtb_sel (q := (⟨"SheetBranches", "newcomer", "(I)I"⟩, 18)) (List.mem_of_getElem? (i := 80) (by decide +kernel)) (by decide +kernel))
theorem qd_X11_newcomer : dsc mX11_newcomer.1 1 := ⟨by decide +kernel, by decide +kernel, by decide +kernel⟩
def mX11_sheetOf : MI := (yX11_sheetOf, cX11_sheetOf, 2, (some ((.object "SheetBranches$Sheet"))))
theorem qc_X11_sheetOf : Cond.code mX11_sheetOf.1 mX11_sheetOf.2.1 mX11_sheetOf.2.2.1 mX11_sheetOf.2.2.2 ∈ gtb := (gtb_in (List.mem_of_getElem? (i := 498) (by decide +kernel)) (by decide +kernel))
theorem qi_X11_sheetOf : Cond.instanceMethod mX11_sheetOf.1 ∈ gtb := (gtb_in (List.mem_of_getElem? (i := 497) (by decide +kernel)) (by decide +kernel))
theorem qs_X11_sheetOf : Cond.selects mX11_sheetOf.1.cls mX11_sheetOf.1 mX11_sheetOf.1 ∈ gtb := (gtb_sel (q := (⟨"SheetBranches", "sheetOf", "(I)LSheetBranches$Sheet;"⟩, 18)) (List.mem_of_getElem? (i := 3) (by decide +kernel)) (by decide +kernel))
theorem qd_X11_sheetOf : dsc mX11_sheetOf.1 1 := ⟨by decide +kernel, by decide +kernel, by decide +kernel⟩
def mX11_isCell : MI := (yX11_isCell, cX11_isCell, 5, (some .boolean))
theorem qc_X11_isCell : Cond.code mX11_isCell.1 mX11_isCell.2.1 mX11_isCell.2.2.1 mX11_isCell.2.2.2 ∈ gtb := (gtb_in (List.mem_of_getElem? (i := 506) (by decide +kernel)) (by decide +kernel))
theorem qi_X11_isCell : Cond.instanceMethod mX11_isCell.1 ∈ gtb := (gtb_in (List.mem_of_getElem? (i := 505) (by decide +kernel)) (by decide +kernel))
theorem qs_X11_isCell : Cond.selects mX11_isCell.1.cls mX11_isCell.1 mX11_isCell.1 ∈ gtb := (gtb_sel (q := (⟨"SheetBranches", "isCell", "(III)Z"⟩, 18)) (List.mem_of_getElem? (i := 4) (by decide +kernel)) (by decide +kernel))
theorem qd_X11_isCell : dsc mX11_isCell.1 3 := ⟨by decide +kernel, by decide +kernel, by decide +kernel⟩
def mX11_isLikeHead : MI := (yX11_isLikeHead, cX11_isLikeHead, 2, (some .boolean))
theorem qc_X11_isLikeHead : Cond.code mX11_isLikeHead.1 mX11_isLikeHead.2.1 mX11_isLikeHead.2.2.1 mX11_isLikeHead.2.2.2 ∈ gtb := (gtb_in (List.mem_of_getElem? (i := 925) (by decide +kernel)) (by decide +kernel))
theorem qi_X11_isLikeHead : Cond.instanceMethod mX11_isLikeHead.1 ∈ gtb := (gtb_in (List.mem_of_getElem? (i := 924) (by decide +kernel)) (by decide +kernel))
theorem qs_X11_isLikeHead : Cond.selects mX11_isLikeHead.1.cls mX11_isLikeHead.1 mX11_isLikeHead.1 ∈ gtb := (gtb_sel (q := (⟨"SheetBranches", "isLikeHead", "()Z"⟩, 18)) (List.mem_of_getElem? (i := 51) (by decide +kernel)) (by decide +kernel))
theorem qd_X11_isLikeHead : dsc mX11_isLikeHead.1 0 := ⟨by decide +kernel, by decide +kernel, by decide +kernel⟩
def mX11_isBusy : MI := (yX11_isBusy, cX11_isBusy, 1, (some .boolean))
theorem qc_X11_isBusy : Cond.code mX11_isBusy.1 mX11_isBusy.2.1 mX11_isBusy.2.2.1 mX11_isBusy.2.2.2 ∈ gtb := (gtb_in (List.mem_of_getElem? (i := 1477) (by decide +kernel)) (by decide +kernel))
theorem qi_X11_isBusy : Cond.instanceMethod mX11_isBusy.1 ∈ gtb := (gtb_in (List.mem_of_getElem? (i := 1476) (by decide +kernel)) (by decide +kernel))
theorem qs_X11_isBusy : Cond.selects mX11_isBusy.1.cls mX11_isBusy.1 mX11_isBusy.1 ∈ gtb := (gtb_sel (q := (⟨"SheetBranches", "isBusy", "()Z"⟩, 18)) (List.mem_of_getElem? (i := 84) (by decide +kernel)) (by decide +kernel))
theorem qd_X11_isBusy : dsc mX11_isBusy.1 0 := ⟨by decide +kernel, by decide +kernel, by decide +kernel⟩
def mX11_step : MI := (yX11_step, cX11_step, 2, none)
theorem qc_X11_step : Cond.code mX11_step.1 mX11_step.2.1 mX11_step.2.2.1 mX11_step.2.2.2 ∈ gtb := (gtb_in (List.mem_of_getElem? (i := 1283) (by decide +kernel)) (by decide +kernel))
theorem qi_X11_step : Cond.instanceMethod mX11_step.1 ∈ gtb := (gtb_in (List.mem_of_getElem? (i := 1282) (by decide +kernel)) (by decide +kernel))
theorem qs_X11_step : Cond.selects mX11_step.1.cls mX11_step.1 mX11_step.1 ∈ gtb := (gtb_sel (q := (⟨"SheetBranches", "step", "(LSheetBranches$Sheet;)V"⟩, 18)) (List.mem_of_getElem? (i := 79) (by decide +kernel)) (by decide +kernel))
theorem qd_X11_step : dsc mX11_step.1 1 := ⟨by decide +kernel, by decide +kernel, by decide +kernel⟩
def mX11_show : MI := (yX11_show, cX11_show, 2, none)
theorem qc_X11_show : Cond.code mX11_show.1 mX11_show.2.1 mX11_show.2.2.1 mX11_show.2.2.2 ∈ gtb := (gtb_in (List.mem_of_getElem? (i := 459) (by decide +kernel)) (by decide +kernel))
theorem qi_X11_show : Cond.instanceMethod mX11_show.1 ∈ gtb := (gtb_in (List.mem_of_getElem? (i := 458) (by decide +kernel)) (by decide +kernel))
theorem qs_X11_show : Cond.selects mX11_show.1.cls mX11_show.1 mX11_show.1 ∈ gtb := (gtb_sel (q := (⟨"SheetBranches", "show", "(LSheetBranches$Sheet;)V"⟩, 18)) (List.mem_of_getElem? (i := 2) (by decide +kernel)) (by decide +kernel))
theorem qd_X11_show : dsc mX11_show.1 1 := ⟨by decide +kernel, by decide +kernel, by decide +kernel⟩
def mX11_partsWithin : MI := (yX11_partsWithin, cX11_partsWithin, 8, (some .int))
theorem qc_X11_partsWithin : Cond.code mX11_partsWithin.1 mX11_partsWithin.2.1 mX11_partsWithin.2.2.1 mX11_partsWithin.2.2.2 ∈ gtb := (gtb_in (List.mem_of_getElem? (i := 1373) (by decide +kernel)) (by decide +kernel))
theorem qi_X11_partsWithin : Cond.instanceMethod mX11_partsWithin.1 ∈ gtb := (gtb_in (List.mem_of_getElem? (i := 1372) (by decide +kernel)) (by decide +kernel))
theorem qs_X11_partsWithin : Cond.selects mX11_partsWithin.1.cls mX11_partsWithin.1 mX11_partsWithin.1 ∈ gtb := (gtb_sel (q := (⟨"SheetBranches", "partsWithin", "(IIII)I"⟩, 18)) (List.mem_of_getElem? (i := 81) (by decide +kernel)) (by decide +kernel))
theorem qd_X11_partsWithin : dsc mX11_partsWithin.1 4 := ⟨by decide +kernel, by decide +kernel, by decide +kernel⟩
def mX11_shifted : MI := (yX11_shifted, cX11_shifted, 8, (some ((.object "SheetBranches$Content"))))
theorem qc_X11_shifted : Cond.code mX11_shifted.1 mX11_shifted.2.1 mX11_shifted.2.2.1 mX11_shifted.2.2.2 ∈ gtb := (gtb_in (List.mem_of_getElem? (i := 1377) (by decide +kernel)) (by decide +kernel))
theorem qi_X11_shifted : Cond.instanceMethod mX11_shifted.1 ∈ gtb := (gtb_in (List.mem_of_getElem? (i := 1376) (by decide +kernel)) (by decide +kernel))
theorem qs_X11_shifted : Cond.selects mX11_shifted.1.cls mX11_shifted.1 mX11_shifted.1 ∈ gtb := (gtb_sel (q := (⟨"SheetBranches", "shifted", "(LSheetBranches$Content;II)LSheetBranches$Content;"⟩, 18)) (List.mem_of_getElem? (i := 82) (by decide +kernel)) (by decide +kernel))
theorem qd_X11_shifted : dsc mX11_shifted.1 3 := ⟨by decide +kernel, by decide +kernel, by decide +kernel⟩
def mX11_placesInOrder : MI := (yX11_placesInOrder, cX11_placesInOrder, 9, (some ((.array .int))))
theorem qc_X11_placesInOrder : Cond.code mX11_placesInOrder.1 mX11_placesInOrder.2.1 mX11_placesInOrder.2.2.1 mX11_placesInOrder.2.2.2 ∈ gtb := (gtb_in (List.mem_of_getElem? (i := 1403) (by decide +kernel)) (by decide +kernel))
theorem qi_X11_placesInOrder : Cond.instanceMethod mX11_placesInOrder.1 ∈ gtb := (gtb_in (List.mem_of_getElem? (i := 1402) (by decide +kernel)) (by decide +kernel))
theorem qs_X11_placesInOrder : Cond.selects mX11_placesInOrder.1.cls mX11_placesInOrder.1 mX11_placesInOrder.1 ∈ gtb := (gtb_sel (q := (⟨"SheetBranches", "placesInOrder", "(IIIZ)[I"⟩, 18)) (List.mem_of_getElem? (i := 83) (by decide +kernel)) (by decide +kernel))
theorem qd_X11_placesInOrder : dsc mX11_placesInOrder.1 4 := ⟨by decide +kernel, by decide +kernel, by decide +kernel⟩
def mX11_orderOf : MI := (yX11_orderOf, cX11_orderOf, 4, (some .int))
theorem qc_X11_orderOf : Cond.code mX11_orderOf.1 mX11_orderOf.2.1 mX11_orderOf.2.2.1 mX11_orderOf.2.2.2 ∈ gtb := (gtb_in (List.mem_of_getElem? (i := 1406) (by decide +kernel)) (by decide +kernel))
theorem qt_X11_orderOf : Cond.static mX11_orderOf.1 ∈ gtb := (gtb_in (List.mem_of_getElem? (i := 1405) (by decide +kernel)) (by decide +kernel))
theorem qd_X11_orderOf : dsc mX11_orderOf.1 3 := ⟨by decide +kernel, by decide +kernel, by decide +kernel⟩
def mX11_noteOnly : MI := (yX11_noteOnly, cX11_noteOnly, 7, none)
theorem qc_X11_noteOnly : Cond.code mX11_noteOnly.1 mX11_noteOnly.2.1 mX11_noteOnly.2.2.1 mX11_noteOnly.2.2.2 ∈ gtb := (gtb_in (List.mem_of_getElem? (i := 1605) (by decide +kernel)) (by decide +kernel))
theorem qi_X11_noteOnly : Cond.instanceMethod mX11_noteOnly.1 ∈ gtb := (gtb_in (List.mem_of_getElem? (i := 1604) (by decide +kernel)) (by decide +kernel))
theorem qs_X11_noteOnly : Cond.selects mX11_noteOnly.1.cls mX11_noteOnly.1 mX11_noteOnly.1 ∈ gtb := (gtb_sel (q := (⟨"SheetBranches", "noteOnly", "(IILSheetBranches$Sheet;LSheetBranches$Sheet;)V"⟩, 18)) (List.mem_of_getElem? (i := 93) (by decide +kernel)) (by decide +kernel))
theorem qd_X11_noteOnly : dsc mX11_noteOnly.1 4 := ⟨by decide +kernel, by decide +kernel, by decide +kernel⟩
def mX11_noteCells : MI := (yX11_noteCells, cX11_noteCells, 7, none)
theorem qc_X11_noteCells : Cond.code mX11_noteCells.1 mX11_noteCells.2.1 mX11_noteCells.2.2.1 mX11_noteCells.2.2.2 ∈ gtb := (gtb_in (List.mem_of_getElem? (i := 1614) (by decide +kernel)) (by decide +kernel))
theorem qi_X11_noteCells : Cond.instanceMethod mX11_noteCells.1 ∈ gtb := (gtb_in (List.mem_of_getElem? (i := 1613) (by decide +kernel)) (by decide +kernel))
theorem qs_X11_noteCells : Cond.selects mX11_noteCells.1.cls mX11_noteCells.1 mX11_noteCells.1 ∈ gtb := (gtb_sel (q := (⟨"SheetBranches", "noteCells", "(LSheetBranches$Sheet;LSheetBranches$Sheet;)V"⟩, 18)) (List.mem_of_getElem? (i := 95) (by decide +kernel)) (by decide +kernel))
theorem qd_X11_noteCells : dsc mX11_noteCells.1 2 := ⟨by decide +kernel, by decide +kernel, by decide +kernel⟩
def mX11_ready : MI := (yX11_ready, cX11_ready, 7, none)
theorem qc_X11_ready : Cond.code mX11_ready.1 mX11_ready.2.1 mX11_ready.2.2.1 mX11_ready.2.2.2 ∈ gtb := (gtb_in (List.mem_of_getElem? (i := 514) (by decide +kernel)) (by decide +kernel))
theorem qi_X11_ready : Cond.instanceMethod mX11_ready.1 ∈ gtb := (gtb_in (List.mem_of_getElem? (i := 513) (by decide +kernel)) (by decide +kernel))
theorem qs_X11_ready : Cond.selects mX11_ready.1.cls mX11_ready.1 mX11_ready.1 ∈ gtb := (gtb_sel (q := (⟨"SheetBranches", "ready", "(I)V"⟩, 18)) (List.mem_of_getElem? (i := 5) (by decide +kernel)) (by decide +kernel))
theorem qd_X11_ready : dsc mX11_ready.1 1 := ⟨by decide +kernel, by decide +kernel, by decide +kernel⟩
def mX11_seen : MI := (yX11_seen, cX11_seen, 6, (some ((.object "SheetBranches$Value"))))
theorem qc_X11_seen : Cond.code mX11_seen.1 mX11_seen.2.1 mX11_seen.2.2.1 mX11_seen.2.2.2 ∈ gtb := (gtb_in (List.mem_of_getElem? (i := 802) (by decide +kernel)) (by decide +kernel))
theorem qi_X11_seen : Cond.instanceMethod mX11_seen.1 ∈ gtb := (gtb_in (List.mem_of_getElem? (i := 801) (by decide +kernel)) (by decide +kernel))
theorem qs_X11_seen : Cond.selects mX11_seen.1.cls mX11_seen.1 mX11_seen.1 ∈ gtb := (gtb_sel (q := (⟨"SheetBranches", "seen", "(III)LSheetBranches$Value;"⟩, 18)) (List.mem_of_getElem? (i := 38) (by decide +kernel)) (by decide +kernel))
theorem qd_X11_seen : dsc mX11_seen.1 3 := ⟨by decide +kernel, by decide +kernel, by decide +kernel⟩
theorem dX11_init_0 : decode cX11_init 0 = .ok (.aload_n 0, 1) := by decide +kernel
theorem dX11_init_1 : decode cX11_init 1 = .ok (.invokespecial 1, 3) := by decide +kernel
theorem dX11_init_4 : decode cX11_init 4 = .ok (.aload_n 0, 1) := by decide +kernel
theorem dX11_init_5 : decode cX11_init 5 = .ok (.new 7, 3) := by decide +kernel
theorem dX11_init_8 : decode cX11_init 8 = .ok (.dup, 1) := by decide +kernel
theorem dX11_init_9 : decode cX11_init 9 = .ok (.invokespecial 9, 3) := by decide +kernel
theorem dX11_init_12 : decode cX11_init 12 = .ok (.putfield 10, 3) := by decide +kernel
theorem dX11_init_15 : decode cX11_init 15 = .ok (.aload_n 0, 1) := by decide +kernel
theorem dX11_init_16 : decode cX11_init 16 = .ok (.new 16, 3) := by decide +kernel
theorem dX11_init_19 : decode cX11_init 19 = .ok (.dup, 1) := by decide +kernel
theorem dX11_init_20 : decode cX11_init 20 = .ok (.invokespecial 18, 3) := by decide +kernel
theorem dX11_init_23 : decode cX11_init 23 = .ok (.putfield 19, 3) := by decide +kernel
theorem dX11_init_26 : decode cX11_init 26 = .ok (.aload_n 0, 1) := by decide +kernel
theorem dX11_init_27 : decode cX11_init 27 = .ok (.new 23, 3) := by decide +kernel
theorem dX11_init_30 : decode cX11_init 30 = .ok (.dup, 1) := by decide +kernel
theorem dX11_init_31 : decode cX11_init 31 = .ok (.invokespecial 25, 3) := by decide +kernel
theorem dX11_init_34 : decode cX11_init 34 = .ok (.putfield 26, 3) := by decide +kernel
theorem dX11_init_37 : decode cX11_init 37 = .ok (.aload_n 0, 1) := by decide +kernel
theorem dX11_init_38 : decode cX11_init 38 = .ok (.new 30, 3) := by decide +kernel
theorem dX11_init_41 : decode cX11_init 41 = .ok (.dup, 1) := by decide +kernel
theorem dX11_init_42 : decode cX11_init 42 = .ok (.aload_n 0, 1) := by decide +kernel
theorem dX11_init_43 : decode cX11_init 43 = .ok (.getfield 26, 3) := by decide +kernel
theorem dX11_init_46 : decode cX11_init 46 = .ok (.getfield 32, 3) := by decide +kernel
theorem dX11_init_49 : decode cX11_init 49 = .ok (.invokespecial 36, 3) := by decide +kernel
theorem dX11_init_52 : decode cX11_init 52 = .ok (.putfield 39, 3) := by decide +kernel
theorem dX11_init_55 : decode cX11_init 55 = .ok (.aload_n 0, 1) := by decide +kernel
theorem dX11_init_56 : decode cX11_init 56 = .ok (.new 43, 3) := by decide +kernel
theorem dX11_init_59 : decode cX11_init 59 = .ok (.dup, 1) := by decide +kernel
theorem dX11_init_60 : decode cX11_init 60 = .ok (.invokespecial 45, 3) := by decide +kernel
theorem dX11_init_63 : decode cX11_init 63 = .ok (.putfield 46, 3) := by decide +kernel
theorem dX11_init_66 : decode cX11_init 66 = .ok (.aload_n 0, 1) := by decide +kernel
theorem dX11_init_67 : decode cX11_init 67 = .ok (.new 50, 3) := by decide +kernel
theorem dX11_init_70 : decode cX11_init 70 = .ok (.dup, 1) := by decide +kernel
theorem dX11_init_71 : decode cX11_init 71 = .ok (.invokespecial 52, 3) := by decide +kernel
theorem dX11_init_74 : decode cX11_init 74 = .ok (.putfield 53, 3) := by decide +kernel
theorem dX11_init_77 : decode cX11_init 77 = .ok (.aload_n 0, 1) := by decide +kernel
theorem dX11_init_78 : decode cX11_init 78 = .ok (.new 57, 3) := by decide +kernel
theorem dX11_init_81 : decode cX11_init 81 = .ok (.dup, 1) := by decide +kernel
theorem dX11_init_82 : decode cX11_init 82 = .ok (.iconst 0, 1) := by decide +kernel
theorem dX11_init_83 : decode cX11_init 83 = .ok (.invokespecial 59, 3) := by decide +kernel
theorem dX11_init_86 : decode cX11_init 86 = .ok (.putfield 62, 3) := by decide +kernel
theorem dX11_init_89 : decode cX11_init 89 = .ok (.aload_n 0, 1) := by decide +kernel
theorem dX11_init_90 : decode cX11_init 90 = .ok (.sipush 320, 3) := by decide +kernel
theorem dX11_init_93 : decode cX11_init 93 = .ok (.anewarray 57, 3) := by decide +kernel
theorem dX11_init_96 : decode cX11_init 96 = .ok (.putfield 66, 3) := by decide +kernel
theorem dX11_init_99 : decode cX11_init 99 = .ok (.aload_n 0, 1) := by decide +kernel
theorem dX11_init_100 : decode cX11_init 100 = .ok (.bipush 6, 2) := by decide +kernel
theorem dX11_init_102 : decode cX11_init 102 = .ok (.newarray .int, 2) := by decide +kernel
theorem dX11_init_104 : decode cX11_init 104 = .ok (.putfield 70, 3) := by decide +kernel
theorem dX11_init_107 : decode cX11_init 107 = .ok (.aload_n 0, 1) := by decide +kernel
theorem dX11_init_108 : decode cX11_init 108 = .ok (.sipush 1218, 3) := by decide +kernel
theorem dX11_init_111 : decode cX11_init 111 = .ok (.newarray .int, 2) := by decide +kernel
theorem dX11_init_113 : decode cX11_init 113 = .ok (.putfield 74, 3) := by decide +kernel
theorem dX11_init_116 : decode cX11_init 116 = .ok (.aload_n 0, 1) := by decide +kernel
theorem dX11_init_117 : decode cX11_init 117 = .ok (.iconst (-1), 1) := by decide +kernel
theorem dX11_init_118 : decode cX11_init 118 = .ok (.putfield 77, 3) := by decide +kernel
theorem dX11_init_121 : decode cX11_init 121 = .ok (.aload_n 0, 1) := by decide +kernel
theorem dX11_init_122 : decode cX11_init 122 = .ok (.bipush 8, 2) := by decide +kernel
theorem dX11_init_124 : decode cX11_init 124 = .ok (.putfield 81, 3) := by decide +kernel
theorem dX11_init_127 : decode cX11_init 127 = .ok (.aload_n 0, 1) := by decide +kernel
theorem dX11_init_128 : decode cX11_init 128 = .ok (.bipush 6, 2) := by decide +kernel
theorem dX11_init_130 : decode cX11_init 130 = .ok (.putfield 84, 3) := by decide +kernel
theorem dX11_init_133 : decode cX11_init 133 = .ok (.new 87, 3) := by decide +kernel
theorem dX11_init_136 : decode cX11_init 136 = .ok (.dup, 1) := by decide +kernel
theorem dX11_init_137 : decode cX11_init 137 = .ok (.bipush 8, 2) := by decide +kernel
theorem dX11_init_139 : decode cX11_init 139 = .ok (.invokestatic 89, 3) := by decide +kernel
theorem dX11_init_142 : decode cX11_init 142 = .ok (.bipush 6, 2) := by decide +kernel
theorem dX11_init_144 : decode cX11_init 144 = .ok (.invokestatic 89, 3) := by decide +kernel
theorem dX11_init_147 : decode cX11_init 147 = .ok (.invokespecial 93, 3) := by decide +kernel
theorem dX11_init_150 : decode cX11_init 150 = .ok (.astore_n 1, 1) := by decide +kernel
theorem dX11_init_151 : decode cX11_init 151 = .ok (.aload_n 0, 1) := by decide +kernel
theorem dX11_init_152 : decode cX11_init 152 = .ok (.getfield 26, 3) := by decide +kernel
theorem dX11_init_155 : decode cX11_init 155 = .ok (.aload_n 1, 1) := by decide +kernel
theorem dX11_init_156 : decode cX11_init 156 = .ok (.iconst (-1), 1) := by decide +kernel
theorem dX11_init_157 : decode cX11_init 157 = .ok (.iconst (-1), 1) := by decide +kernel
theorem dX11_init_158 : decode cX11_init 158 = .ok (.invokevirtual 96, 3) := by decide +kernel
theorem dX11_init_161 : decode cX11_init 161 = .ok (.pop, 1) := by decide +kernel
theorem dX11_init_162 : decode cX11_init 162 = .ok (.aload_n 0, 1) := by decide +kernel
theorem dX11_init_163 : decode cX11_init 163 = .ok (.aload_n 1, 1) := by decide +kernel
theorem dX11_init_164 : decode cX11_init 164 = .ok (.invokevirtual 100, 3) := by decide +kernel
theorem dX11_init_167 : decode cX11_init 167 = .ok (.putfield 104, 3) := by decide +kernel
theorem dX11_init_170 : decode cX11_init 170 = .ok (.iconst 1, 1) := by decide +kernel
theorem dX11_init_171 : decode cX11_init 171 = .ok (.istore_n 2, 1) := by decide +kernel
theorem dX11_init_172 : decode cX11_init 172 = .ok (.iload_n 2, 1) := by decide +kernel
theorem dX11_init_173 : decode cX11_init 173 = .ok (.aload_n 0, 1) := by decide +kernel
theorem dX11_init_174 : decode cX11_init 174 = .ok (.getfield 70, 3) := by decide +kernel
theorem dX11_init_177 : decode cX11_init 177 = .ok (.arraylength, 1) := by decide +kernel
theorem dX11_init_178 : decode cX11_init 178 = .ok (.if_icmp .ge 16, 3) := by decide +kernel
theorem dX11_init_181 : decode cX11_init 181 = .ok (.aload_n 0, 1) := by decide +kernel
theorem dX11_init_182 : decode cX11_init 182 = .ok (.getfield 70, 3) := by decide +kernel
theorem dX11_init_185 : decode cX11_init 185 = .ok (.iload_n 2, 1) := by decide +kernel
theorem dX11_init_186 : decode cX11_init 186 = .ok (.iconst (-1), 1) := by decide +kernel
theorem dX11_init_187 : decode cX11_init 187 = .ok (.iastore, 1) := by decide +kernel
theorem dX11_init_188 : decode cX11_init 188 = .ok (.iinc 2 1, 3) := by decide +kernel
theorem dX11_init_191 : decode cX11_init 191 = .ok (.goto (-19), 3) := by decide +kernel
theorem dX11_init_194 : decode cX11_init 194 = .ok (.return_, 1) := by decide +kernel
set_option maxRecDepth 20000 in
theorem ol_X11_1 : Cond.methodLink RX11 1 objectInit ∈ gtb := (gtb_in (List.mem_of_getElem? (i := 36) (by decide +kernel)) (by decide +kernel))
set_option maxRecDepth 20000 in
theorem nl_X11_7 : Cond.classLink RX11 7 RX5 ∈ gtb := (gtb_in (List.mem_of_getElem? (i := 39) (by decide +kernel)) (by decide +kernel))
set_option maxRecDepth 20000 in
theorem inl_X11_9 : INL RX11 9 "SheetBranches" mX5_init 0 := ⟨⟨qc_X5_init, (List.mem_of_getElem? (i := 41) (by decide +kernel)), qi_X5_init, zw_5⟩, rfl, rfl, qd_X5_init, by decide⟩
set_option maxRecDepth 20000 in
theorem fl_X11_10 : FL RX11 10 11 0 true := ⟨RX11, TX11, cl_11, by decide, (gtb_in (List.mem_of_getElem? (i := 369) (by decide +kernel)) (by decide +kernel)), rfl⟩
set_option maxRecDepth 20000 in
theorem nl_X11_16 : Cond.classLink RX11 16 RX10 ∈ gtb := (gtb_in (List.mem_of_getElem? (i := 103) (by decide +kernel)) (by decide +kernel))
set_option maxRecDepth 20000 in
theorem inl_X11_18 : INL RX11 18 "SheetBranches" mX10_init 0 := ⟨⟨qc_X10_init, (List.mem_of_getElem? (i := 105) (by decide +kernel)), qi_X10_init, zw_10⟩, rfl, rfl, qd_X10_init, by decide⟩
set_option maxRecDepth 20000 in
theorem fl_X11_19 : FL RX11 19 11 1 true := ⟨RX11, TX11, cl_11, by decide, (gtb_in (List.mem_of_getElem? (i := 370) (by decide +kernel)) (by decide +kernel)), rfl⟩
set_option maxRecDepth 20000 in
theorem nl_X11_23 : Cond.classLink RX11 23 RX2 ∈ gtb := (gtb_in (List.mem_of_getElem? (i := 167) (by decide +kernel)) (by decide +kernel))
set_option maxRecDepth 20000 in
theorem inl_X11_25 : INL RX11 25 "SheetBranches" mX2_init 0 := ⟨⟨qc_X2_init, (List.mem_of_getElem? (i := 169) (by decide +kernel)), qi_X2_init, zw_2⟩, rfl, rfl, qd_X2_init, by decide⟩
set_option maxRecDepth 20000 in
theorem fl_X11_26 : FL RX11 26 11 2 true := ⟨RX11, TX11, cl_11, by decide, (gtb_in (List.mem_of_getElem? (i := 371) (by decide +kernel)) (by decide +kernel)), rfl⟩
set_option maxRecDepth 20000 in
theorem nl_X11_30 : Cond.classLink RX11 30 RX9 ∈ gtb := (gtb_in (List.mem_of_getElem? (i := 196) (by decide +kernel)) (by decide +kernel))
set_option maxRecDepth 20000 in
theorem fl_X11_32 : FL RX11 32 2 0 true := ⟨RX2, TX2, cl_2, by decide, (gtb_in (List.mem_of_getElem? (i := 176) (by decide +kernel)) (by decide +kernel)), rfl⟩
set_option maxRecDepth 20000 in
theorem il_X11_36 : IL RX11 36 mX9_init 1 := ⟨⟨qc_X9_init, (gtb_in (List.mem_of_getElem? (i := 198) (by decide +kernel)) (by decide +kernel)), qi_X9_init, zw_9⟩, rfl, rfl, qd_X9_init, by decide⟩
set_option maxRecDepth 20000 in
theorem fl_X11_39 : FL RX11 39 11 3 true := ⟨RX11, TX11, cl_11, by decide, (gtb_in (List.mem_of_getElem? (i := 372) (by decide +kernel)) (by decide +kernel)), rfl⟩
set_option maxRecDepth 20000 in
theorem nl_X11_43 : Cond.classLink RX11 43 RX3 ∈ gtb := (gtb_in (List.mem_of_getElem? (i := 269) (by decide +kernel)) (by decide +kernel))
set_option maxRecDepth 20000 in
theorem inl_X11_45 : INL RX11 45 "SheetBranches" mX3_init 0 := ⟨⟨qc_X3_init, (List.mem_of_getElem? (i := 271) (by decide +kernel)), qi_X3_init, zw_3⟩, rfl, rfl, qd_X3_init, by decide⟩
set_option maxRecDepth 20000 in
theorem fl_X11_46 : FL RX11 46 11 4 true := ⟨RX11, TX11, cl_11, by decide, (gtb_in (List.mem_of_getElem? (i := 373) (by decide +kernel)) (by decide +kernel)), rfl⟩
set_option maxRecDepth 20000 in
theorem nl_X11_50 : Cond.classLink RX11 50 RX7 ∈ gtb := (gtb_in (List.mem_of_getElem? (i := 297) (by decide +kernel)) (by decide +kernel))
set_option maxRecDepth 20000 in
theorem inl_X11_52 : INL RX11 52 "SheetBranches" mX7_init 0 := ⟨⟨qc_X7_init, (List.mem_of_getElem? (i := 299) (by decide +kernel)), qi_X7_init, zw_7⟩, rfl, rfl, qd_X7_init, by decide⟩
set_option maxRecDepth 20000 in
theorem fl_X11_53 : FL RX11 53 11 5 true := ⟨RX11, TX11, cl_11, by decide, (gtb_in (List.mem_of_getElem? (i := 374) (by decide +kernel)) (by decide +kernel)), rfl⟩
set_option maxRecDepth 20000 in
theorem nl_X11_57 : Cond.classLink RX11 57 RX8 ∈ gtb := (gtb_in (List.mem_of_getElem? (i := 319) (by decide +kernel)) (by decide +kernel))
set_option maxRecDepth 20000 in
theorem il_X11_59 : IL RX11 59 mX8_init 1 := ⟨⟨qc_X8_init, (gtb_in (List.mem_of_getElem? (i := 320) (by decide +kernel)) (by decide +kernel)), qi_X8_init, zw_8⟩, rfl, rfl, qd_X8_init, by decide⟩
set_option maxRecDepth 20000 in
theorem fl_X11_62 : FL RX11 62 11 6 true := ⟨RX11, TX11, cl_11, by decide, (gtb_in (List.mem_of_getElem? (i := 375) (by decide +kernel)) (by decide +kernel)), rfl⟩
set_option maxRecDepth 20000 in
theorem fl_X11_66 : FL RX11 66 11 7 true := ⟨RX11, TX11, cl_11, by decide, (gtb_in (List.mem_of_getElem? (i := 376) (by decide +kernel)) (by decide +kernel)), rfl⟩
set_option maxRecDepth 20000 in
theorem fl_X11_70 : FL RX11 70 11 8 true := ⟨RX11, TX11, cl_11, by decide, (gtb_in (List.mem_of_getElem? (i := 377) (by decide +kernel)) (by decide +kernel)), rfl⟩
set_option maxRecDepth 20000 in
theorem fl_X11_74 : FL RX11 74 11 9 true := ⟨RX11, TX11, cl_11, by decide, (gtb_in (List.mem_of_getElem? (i := 378) (by decide +kernel)) (by decide +kernel)), rfl⟩
set_option maxRecDepth 20000 in
theorem fl_X11_77 : FL RX11 77 11 13 false := ⟨RX11, TX11, cl_11, by decide, (gtb_in (List.mem_of_getElem? (i := 382) (by decide +kernel)) (by decide +kernel)), rfl⟩
set_option maxRecDepth 20000 in
theorem fl_X11_81 : FL RX11 81 11 16 false := ⟨RX11, TX11, cl_11, by decide, (gtb_in (List.mem_of_getElem? (i := 385) (by decide +kernel)) (by decide +kernel)), rfl⟩
set_option maxRecDepth 20000 in
theorem fl_X11_84 : FL RX11 84 11 17 false := ⟨RX11, TX11, cl_11, by decide, (gtb_in (List.mem_of_getElem? (i := 386) (by decide +kernel)) (by decide +kernel)), rfl⟩
set_option maxRecDepth 20000 in
theorem nl_X11_87 : Cond.classLink RX11 87 RX6 ∈ gtb := (gtb_in (List.mem_of_getElem? (i := 321) (by decide +kernel)) (by decide +kernel))
set_option maxRecDepth 20000 in
theorem sl_X11_89 : SL RX11 89 mX11_countedUp 1 := ⟨⟨qc_X11_countedUp, (gtb_in (List.mem_of_getElem? (i := 323) (by decide +kernel)) (by decide +kernel)), qt_X11_countedUp, zw_11⟩, qd_X11_countedUp, by decide⟩
set_option maxRecDepth 20000 in
theorem il_X11_93 : IL RX11 93 mX6_init 2 := ⟨⟨qc_X6_init, (gtb_in (List.mem_of_getElem? (i := 327) (by decide +kernel)) (by decide +kernel)), qi_X6_init, zw_6⟩, rfl, rfl, qd_X6_init, by decide⟩
set_option maxRecDepth 20000 in
theorem vl_X11_96 : VL RX11 96 2 mX2_add 3 := ⟨⟨qc_X2_add, (gtb_in (List.mem_of_getElem? (i := 355) (by decide +kernel)) (by decide +kernel)), qi_X2_add, qs_X2_add, zw_2⟩, ⟨_, _, rfl⟩, by decide, qd_X2_add, by decide⟩
set_option maxRecDepth 20000 in
theorem vl_X11_100 : VL RX11 100 6 mX6_twin 0 := ⟨⟨qc_X6_twin, (gtb_in (List.mem_of_getElem? (i := 363) (by decide +kernel)) (by decide +kernel)), qi_X6_twin, qs_X6_twin, zw_6⟩, ⟨_, _, rfl⟩, by decide, qd_X6_twin, by decide⟩
set_option maxRecDepth 20000 in
theorem fl_X11_104 : FL RX11 104 11 11 false := ⟨RX11, TX11, cl_11, by decide, (gtb_in (List.mem_of_getElem? (i := 380) (by decide +kernel)) (by decide +kernel)), rfl⟩
theorem dX11_feed_0 : decode cX11_feed 0 = .ok (.aload_n 0, 1) := by decide +kernel
theorem dX11_feed_1 : decode cX11_feed 1 = .ok (.getfield 10, 3) := by decide +kernel
theorem dX11_feed_4 : decode cX11_feed 4 = .ok (.getfield 108, 3) := by decide +kernel
theorem dX11_feed_7 : decode cX11_feed 7 = .ok (.sipush 380, 3) := by decide +kernel
theorem dX11_feed_10 : decode cX11_feed 10 = .ok (.if_icmp .le 5, 3) := by decide +kernel
theorem dX11_feed_13 : decode cX11_feed 13 = .ok (.iconst (-1), 1) := by decide +kernel
theorem dX11_feed_14 : decode cX11_feed 14 = .ok (.ireturn, 1) := by decide +kernel
theorem dX11_feed_15 : decode cX11_feed 15 = .ok (.aload_n 0, 1) := by decide +kernel
theorem dX11_feed_16 : decode cX11_feed 16 = .ok (.getfield 10, 3) := by decide +kernel
theorem dX11_feed_19 : decode cX11_feed 19 = .ok (.iload_n 1, 1) := by decide +kernel
theorem dX11_feed_20 : decode cX11_feed 20 = .ok (.invokevirtual 111, 3) := by decide +kernel
theorem dX11_feed_23 : decode cX11_feed 23 = .ok (.aload_n 0, 1) := by decide +kernel
theorem dX11_feed_24 : decode cX11_feed 24 = .ok (.getfield 10, 3) := by decide +kernel
theorem dX11_feed_27 : decode cX11_feed 27 = .ok (.iload_n 2, 1) := by decide +kernel
theorem dX11_feed_28 : decode cX11_feed 28 = .ok (.invokevirtual 111, 3) := by decide +kernel
theorem dX11_feed_31 : decode cX11_feed 31 = .ok (.aload_n 0, 1) := by decide +kernel
theorem dX11_feed_32 : decode cX11_feed 32 = .ok (.getfield 10, 3) := by decide +kernel
theorem dX11_feed_35 : decode cX11_feed 35 = .ok (.iload_n 3, 1) := by decide +kernel
theorem dX11_feed_36 : decode cX11_feed 36 = .ok (.invokevirtual 111, 3) := by decide +kernel
theorem dX11_feed_39 : decode cX11_feed 39 = .ok (.aload_n 0, 1) := by decide +kernel
theorem dX11_feed_40 : decode cX11_feed 40 = .ok (.getfield 10, 3) := by decide +kernel
theorem dX11_feed_43 : decode cX11_feed 43 = .ok (.iload 4, 2) := by decide +kernel
theorem dX11_feed_45 : decode cX11_feed 45 = .ok (.invokevirtual 111, 3) := by decide +kernel
theorem dX11_feed_48 : decode cX11_feed 48 = .ok (.aload_n 0, 1) := by decide +kernel
theorem dX11_feed_49 : decode cX11_feed 49 = .ok (.getfield 10, 3) := by decide +kernel
theorem dX11_feed_52 : decode cX11_feed 52 = .ok (.iload 5, 2) := by decide +kernel
theorem dX11_feed_54 : decode cX11_feed 54 = .ok (.invokevirtual 111, 3) := by decide +kernel
theorem dX11_feed_57 : decode cX11_feed 57 = .ok (.aload_n 0, 1) := by decide +kernel
theorem dX11_feed_58 : decode cX11_feed 58 = .ok (.getfield 10, 3) := by decide +kernel
theorem dX11_feed_61 : decode cX11_feed 61 = .ok (.getfield 108, 3) := by decide +kernel
theorem dX11_feed_64 : decode cX11_feed 64 = .ok (.ireturn, 1) := by decide +kernel
set_option maxRecDepth 20000 in
theorem fl_X11_108 : FL RX11 108 5 3 false := ⟨RX5, TX5, cl_5, by decide, (gtb_in (List.mem_of_getElem? (i := 50) (by decide +kernel)) (by decide +kernel)), rfl⟩
set_option maxRecDepth 20000 in
theorem vl_X11_111 : VL RX11 111 5 mX5_add 1 := ⟨⟨qc_X5_add, (gtb_in (List.mem_of_getElem? (i := 428) (by decide +kernel)) (by decide +kernel)), qi_X5_add, qs_X5_add, zw_5⟩, ⟨_, _, rfl⟩, by decide, qd_X5_add, by decide⟩
theorem dX11_end_0 : decode cX11_end 0 = .ok (.iload_n 1, 1) := by decide +kernel
theorem dX11_end_1 : decode cX11_end 1 = .ok (.ifCond .lt 14, 3) := by decide +kernel
theorem dX11_end_4 : decode cX11_end 4 = .ok (.iload_n 1, 1) := by decide +kernel
theorem dX11_end_5 : decode cX11_end 5 = .ok (.aload_n 0, 1) := by decide +kernel
theorem dX11_end_6 : decode cX11_end 6 = .ok (.getfield 10, 3) := by decide +kernel
theorem dX11_end_9 : decode cX11_end 9 = .ok (.getfield 108, 3) := by decide +kernel
theorem dX11_end_12 : decode cX11_end 12 = .ok (.if_icmp .le 5, 3) := by decide +kernel
theorem dX11_end_15 : decode cX11_end 15 = .ok (.iconst 0, 1) := by decide +kernel
theorem dX11_end_16 : decode cX11_end 16 = .ok (.ireturn, 1) := by decide +kernel
theorem dX11_end_17 : decode cX11_end 17 = .ok (.aload_n 0, 1) := by decide +kernel
theorem dX11_end_18 : decode cX11_end 18 = .ok (.getfield 10, 3) := by decide +kernel
theorem dX11_end_21 : decode cX11_end 21 = .ok (.iload_n 1, 1) := by decide +kernel
theorem dX11_end_22 : decode cX11_end 22 = .ok (.putfield 108, 3) := by decide +kernel
theorem dX11_end_25 : decode cX11_end 25 = .ok (.iconst 1, 1) := by decide +kernel
theorem dX11_end_26 : decode cX11_end 26 = .ok (.ireturn, 1) := by decide +kernel
theorem dX11_enter_0 : decode cX11_enter 0 = .ok (.aload_n 0, 1) := by decide +kernel
theorem dX11_enter_1 : decode cX11_enter 1 = .ok (.getfield 104, 3) := by decide +kernel
theorem dX11_enter_4 : decode cX11_enter 4 = .ok (.iload_n 1, 1) := by decide +kernel
theorem dX11_enter_5 : decode cX11_enter 5 = .ok (.iload_n 2, 1) := by decide +kernel
theorem dX11_enter_6 : decode cX11_enter 6 = .ok (.invokevirtual 113, 3) := by decide +kernel
theorem dX11_enter_9 : decode cX11_enter 9 = .ok (.ifCond .ne 11, 3) := by decide +kernel
theorem dX11_enter_12 : decode cX11_enter 12 = .ok (.new 117, 3) := by decide +kernel
theorem dX11_enter_15 : decode cX11_enter 15 = .ok (.dup, 1) := by decide +kernel
theorem dX11_enter_16 : decode cX11_enter 16 = .ok (.invokespecial 119, 3) := by decide +kernel
theorem dX11_enter_19 : decode cX11_enter 19 = .ok (.athrow, 1) := by decide +kernel
theorem dX11_enter_20 : decode cX11_enter 20 = .ok (.aload_n 0, 1) := by decide +kernel
theorem dX11_enter_21 : decode cX11_enter 21 = .ok (.getfield 10, 3) := by decide +kernel
theorem dX11_enter_24 : decode cX11_enter 24 = .ok (.aload_n 0, 1) := by decide +kernel
theorem dX11_enter_25 : decode cX11_enter 25 = .ok (.getfield 104, 3) := by decide +kernel
theorem dX11_enter_28 : decode cX11_enter 28 = .ok (.aload_n 0, 1) := by decide +kernel
theorem dX11_enter_29 : decode cX11_enter 29 = .ok (.getfield 26, 3) := by decide +kernel
theorem dX11_enter_32 : decode cX11_enter 32 = .ok (.invokevirtual 120, 3) := by decide +kernel
theorem dX11_enter_35 : decode cX11_enter 35 = .ok (.astore_n 3, 1) := by decide +kernel
theorem dX11_enter_36 : decode cX11_enter 36 = .ok (.aload_n 0, 1) := by decide +kernel
theorem dX11_enter_37 : decode cX11_enter 37 = .ok (.getfield 10, 3) := by decide +kernel
theorem dX11_enter_40 : decode cX11_enter 40 = .ok (.getfield 124, 3) := by decide +kernel
theorem dX11_enter_43 : decode cX11_enter 43 = .ok (.ifCond .eq 11, 3) := by decide +kernel
theorem dX11_enter_46 : decode cX11_enter 46 = .ok (.new 127, 3) := by decide +kernel
theorem dX11_enter_49 : decode cX11_enter 49 = .ok (.dup, 1) := by decide +kernel
theorem dX11_enter_50 : decode cX11_enter 50 = .ok (.invokespecial 129, 3) := by decide +kernel
theorem dX11_enter_53 : decode cX11_enter 53 = .ok (.athrow, 1) := by decide +kernel
theorem dX11_enter_54 : decode cX11_enter 54 = .ok (.aload_n 3, 1) := by decide +kernel
theorem dX11_enter_55 : decode cX11_enter 55 = .ok (.invokestatic 130, 3) := by decide +kernel
theorem dX11_enter_58 : decode cX11_enter 58 = .ok (.istore 4, 2) := by decide +kernel
theorem dX11_enter_60 : decode cX11_enter 60 = .ok (.iload 4, 2) := by decide +kernel
theorem dX11_enter_62 : decode cX11_enter 62 = .ok (.ldc 134, 2) := by decide +kernel
theorem dX11_enter_64 : decode cX11_enter 64 = .ok (.aload_n 0, 1) := by decide +kernel
theorem dX11_enter_65 : decode cX11_enter 65 = .ok (.getfield 135, 3) := by decide +kernel
theorem dX11_enter_68 : decode cX11_enter 68 = .ok (.isub, 1) := by decide +kernel
theorem dX11_enter_69 : decode cX11_enter 69 = .ok (.if_icmp .le 11, 3) := by decide +kernel
theorem dX11_enter_72 : decode cX11_enter 72 = .ok (.new 138, 3) := by decide +kernel
theorem dX11_enter_75 : decode cX11_enter 75 = .ok (.dup, 1) := by decide +kernel
theorem dX11_enter_76 : decode cX11_enter 76 = .ok (.invokespecial 140, 3) := by decide +kernel
theorem dX11_enter_79 : decode cX11_enter 79 = .ok (.athrow, 1) := by decide +kernel
theorem dX11_enter_80 : decode cX11_enter 80 = .ok (.aload_n 0, 1) := by decide +kernel
theorem dX11_enter_81 : decode cX11_enter 81 = .ok (.dup, 1) := by decide +kernel
theorem dX11_enter_82 : decode cX11_enter 82 = .ok (.getfield 135, 3) := by decide +kernel
theorem dX11_enter_85 : decode cX11_enter 85 = .ok (.iload 4, 2) := by decide +kernel
theorem dX11_enter_87 : decode cX11_enter 87 = .ok (.iadd, 1) := by decide +kernel
theorem dX11_enter_88 : decode cX11_enter 88 = .ok (.putfield 135, 3) := by decide +kernel
theorem dX11_enter_91 : decode cX11_enter 91 = .ok (.aload_n 0, 1) := by decide +kernel
theorem dX11_enter_92 : decode cX11_enter 92 = .ok (.getfield 104, 3) := by decide +kernel
theorem dX11_enter_95 : decode cX11_enter 95 = .ok (.invokevirtual 100, 3) := by decide +kernel
theorem dX11_enter_98 : decode cX11_enter 98 = .ok (.astore 5, 2) := by decide +kernel
theorem dX11_enter_100 : decode cX11_enter 100 = .ok (.aload 5, 2) := by decide +kernel
theorem dX11_enter_102 : decode cX11_enter 102 = .ok (.iload_n 1, 1) := by decide +kernel
theorem dX11_enter_103 : decode cX11_enter 103 = .ok (.iload_n 2, 1) := by decide +kernel
theorem dX11_enter_104 : decode cX11_enter 104 = .ok (.aload_n 3, 1) := by decide +kernel
theorem dX11_enter_105 : decode cX11_enter 105 = .ok (.invokevirtual 141, 3) := by decide +kernel
theorem dX11_enter_108 : decode cX11_enter 108 = .ok (.aload_n 0, 1) := by decide +kernel
theorem dX11_enter_109 : decode cX11_enter 109 = .ok (.aload 5, 2) := by decide +kernel
theorem dX11_enter_111 : decode cX11_enter 111 = .ok (.invokevirtual 145, 3) := by decide +kernel
theorem dX11_enter_114 : decode cX11_enter 114 = .ok (.iload 4, 2) := by decide +kernel
theorem dX11_enter_116 : decode cX11_enter 116 = .ok (.ireturn, 1) := by decide +kernel
set_option maxRecDepth 20000 in
theorem vl_X11_113 : VL RX11 113 6 mX6_has 2 := ⟨⟨qc_X6_has, (gtb_in (List.mem_of_getElem? (i := 507) (by decide +kernel)) (by decide +kernel)), qi_X6_has, qs_X6_has, zw_6⟩, ⟨_, _, rfl⟩, by decide, qd_X6_has, by decide⟩
set_option maxRecDepth 20000 in
theorem vl_X11_120 : VL RX11 120 5 mX5_read 2 := ⟨⟨qc_X5_read, (gtb_in (List.mem_of_getElem? (i := 1017) (by decide +kernel)) (by decide +kernel)), qi_X5_read, qs_X5_read, zw_5⟩, ⟨_, _, rfl⟩, by decide, qd_X5_read, by decide⟩
set_option maxRecDepth 20000 in
theorem fl_X11_124 : FL RX11 124 5 4 false := ⟨RX5, TX5, cl_5, by decide, (gtb_in (List.mem_of_getElem? (i := 53) (by decide +kernel)) (by decide +kernel)), rfl⟩
set_option maxRecDepth 20000 in
theorem sl_X11_130 : SL RX11 130 mX11_partsOf 1 := ⟨⟨qc_X11_partsOf, (gtb_in (List.mem_of_getElem? (i := 1259) (by decide +kernel)) (by decide +kernel)), qt_X11_partsOf, zw_11⟩, qd_X11_partsOf, by decide⟩
set_option maxRecDepth 20000 in
theorem kl_X11_134 : Cond.constant RX11 134 (60000) ∈ gtb := (gtb_in (List.mem_of_getElem? (i := 1260) (by decide +kernel)) (by decide +kernel))
set_option maxRecDepth 20000 in
theorem fl_X11_135 : FL RX11 135 11 14 false := ⟨RX11, TX11, cl_11, by decide, (gtb_in (List.mem_of_getElem? (i := 383) (by decide +kernel)) (by decide +kernel)), rfl⟩
set_option maxRecDepth 20000 in
theorem vl_X11_141 : VL RX11 141 6 mX6_put 3 := ⟨⟨qc_X6_put, (gtb_in (List.mem_of_getElem? (i := 1276) (by decide +kernel)) (by decide +kernel)), qi_X6_put, qs_X6_put, zw_6⟩, ⟨_, _, rfl⟩, by decide, qd_X6_put, by decide⟩
set_option maxRecDepth 20000 in
theorem vl_X11_145 : VL RX11 145 11 mX11_step 1 := ⟨⟨qc_X11_step, (gtb_in (List.mem_of_getElem? (i := 1280) (by decide +kernel)) (by decide +kernel)), qi_X11_step, qs_X11_step, zw_11⟩, ⟨_, _, rfl⟩, by decide, qd_X11_step, by decide⟩
theorem dX11_fault_0 : decode cX11_fault 0 = .ok (.iload_n 1, 1) := by decide +kernel
theorem dX11_fault_1 : decode cX11_fault 1 = .ok (.ifCond .ne 11, 3) := by decide +kernel
theorem dX11_fault_4 : decode cX11_fault 4 = .ok (.aload_n 0, 1) := by decide +kernel
theorem dX11_fault_5 : decode cX11_fault 5 = .ok (.getfield 10, 3) := by decide +kernel
theorem dX11_fault_8 : decode cX11_fault 8 = .ok (.getfield 124, 3) := by decide +kernel
theorem dX11_fault_11 : decode cX11_fault 11 = .ok (.ireturn, 1) := by decide +kernel
theorem dX11_fault_12 : decode cX11_fault 12 = .ok (.iload_n 1, 1) := by decide +kernel
theorem dX11_fault_13 : decode cX11_fault 13 = .ok (.iconst 1, 1) := by decide +kernel
theorem dX11_fault_14 : decode cX11_fault 14 = .ok (.if_icmp .ne 13, 3) := by decide +kernel
theorem dX11_fault_17 : decode cX11_fault 17 = .ok (.aload_n 0, 1) := by decide +kernel
theorem dX11_fault_18 : decode cX11_fault 18 = .ok (.getfield 10, 3) := by decide +kernel
theorem dX11_fault_21 : decode cX11_fault 21 = .ok (.getfield 149, 3) := by decide +kernel
theorem dX11_fault_24 : decode cX11_fault 24 = .ok (.goto 4, 3) := by decide +kernel
theorem dX11_fault_27 : decode cX11_fault 27 = .ok (.iconst (-1), 1) := by decide +kernel
theorem dX11_fault_28 : decode cX11_fault 28 = .ok (.ireturn, 1) := by decide +kernel
set_option maxRecDepth 20000 in
theorem fl_X11_149 : FL RX11 149 5 5 false := ⟨RX5, TX5, cl_5, by decide, (gtb_in (List.mem_of_getElem? (i := 55) (by decide +kernel)) (by decide +kernel)), rfl⟩
theorem dX11_erase_0 : decode cX11_erase 0 = .ok (.aload_n 0, 1) := by decide +kernel
theorem dX11_erase_1 : decode cX11_erase 1 = .ok (.getfield 104, 3) := by decide +kernel
theorem dX11_erase_4 : decode cX11_erase 4 = .ok (.iload_n 1, 1) := by decide +kernel
theorem dX11_erase_5 : decode cX11_erase 5 = .ok (.iload_n 2, 1) := by decide +kernel
theorem dX11_erase_6 : decode cX11_erase 6 = .ok (.invokevirtual 113, 3) := by decide +kernel
theorem dX11_erase_9 : decode cX11_erase 9 = .ok (.ifCond .eq 16, 3) := by decide +kernel
theorem dX11_erase_12 : decode cX11_erase 12 = .ok (.aload_n 0, 1) := by decide +kernel
theorem dX11_erase_13 : decode cX11_erase 13 = .ok (.getfield 104, 3) := by decide +kernel
theorem dX11_erase_16 : decode cX11_erase 16 = .ok (.iload_n 3, 1) := by decide +kernel
theorem dX11_erase_17 : decode cX11_erase 17 = .ok (.iload 4, 2) := by decide +kernel
theorem dX11_erase_19 : decode cX11_erase 19 = .ok (.invokevirtual 113, 3) := by decide +kernel
theorem dX11_erase_22 : decode cX11_erase 22 = .ok (.ifCond .ne 11, 3) := by decide +kernel
theorem dX11_erase_25 : decode cX11_erase 25 = .ok (.new 117, 3) := by decide +kernel
theorem dX11_erase_28 : decode cX11_erase 28 = .ok (.dup, 1) := by decide +kernel
theorem dX11_erase_29 : decode cX11_erase 29 = .ok (.invokespecial 119, 3) := by decide +kernel
theorem dX11_erase_32 : decode cX11_erase 32 = .ok (.athrow, 1) := by decide +kernel
theorem dX11_erase_33 : decode cX11_erase 33 = .ok (.iload_n 3, 1) := by decide +kernel
theorem dX11_erase_34 : decode cX11_erase 34 = .ok (.iload_n 1, 1) := by decide +kernel
theorem dX11_erase_35 : decode cX11_erase 35 = .ok (.if_icmp .lt 9, 3) := by decide +kernel
theorem dX11_erase_38 : decode cX11_erase 38 = .ok (.iload 4, 2) := by decide +kernel
theorem dX11_erase_40 : decode cX11_erase 40 = .ok (.iload_n 2, 1) := by decide +kernel
theorem dX11_erase_41 : decode cX11_erase 41 = .ok (.if_icmp .ge 11, 3) := by decide +kernel
theorem dX11_erase_44 : decode cX11_erase 44 = .ok (.new 127, 3) := by decide +kernel
theorem dX11_erase_47 : decode cX11_erase 47 = .ok (.dup, 1) := by decide +kernel
theorem dX11_erase_48 : decode cX11_erase 48 = .ok (.invokespecial 129, 3) := by decide +kernel
theorem dX11_erase_51 : decode cX11_erase 51 = .ok (.athrow, 1) := by decide +kernel
theorem dX11_erase_52 : decode cX11_erase 52 = .ok (.aload_n 0, 1) := by decide +kernel
theorem dX11_erase_53 : decode cX11_erase 53 = .ok (.getfield 104, 3) := by decide +kernel
theorem dX11_erase_56 : decode cX11_erase 56 = .ok (.invokevirtual 100, 3) := by decide +kernel
theorem dX11_erase_59 : decode cX11_erase 59 = .ok (.astore 5, 2) := by decide +kernel
theorem dX11_erase_61 : decode cX11_erase 61 = .ok (.iconst 0, 1) := by decide +kernel
theorem dX11_erase_62 : decode cX11_erase 62 = .ok (.istore 6, 2) := by decide +kernel
theorem dX11_erase_64 : decode cX11_erase 64 = .ok (.iload_n 1, 1) := by decide +kernel
theorem dX11_erase_65 : decode cX11_erase 65 = .ok (.istore 7, 2) := by decide +kernel
theorem dX11_erase_67 : decode cX11_erase 67 = .ok (.iload 7, 2) := by decide +kernel
theorem dX11_erase_69 : decode cX11_erase 69 = .ok (.iload_n 3, 1) := by decide +kernel
theorem dX11_erase_70 : decode cX11_erase 70 = .ok (.if_icmp .gt 59, 3) := by decide +kernel
theorem dX11_erase_73 : decode cX11_erase 73 = .ok (.iload_n 2, 1) := by decide +kernel
theorem dX11_erase_74 : decode cX11_erase 74 = .ok (.istore 8, 2) := by decide +kernel
theorem dX11_erase_76 : decode cX11_erase 76 = .ok (.iload 8, 2) := by decide +kernel
theorem dX11_erase_78 : decode cX11_erase 78 = .ok (.iload 4, 2) := by decide +kernel
theorem dX11_erase_80 : decode cX11_erase 80 = .ok (.if_icmp .gt 43, 3) := by decide +kernel
theorem dX11_erase_83 : decode cX11_erase 83 = .ok (.iload 6, 2) := by decide +kernel
theorem dX11_erase_85 : decode cX11_erase 85 = .ok (.aload_n 0, 1) := by decide +kernel
theorem dX11_erase_86 : decode cX11_erase 86 = .ok (.getfield 104, 3) := by decide +kernel
theorem dX11_erase_89 : decode cX11_erase 89 = .ok (.iload 7, 2) := by decide +kernel
theorem dX11_erase_91 : decode cX11_erase 91 = .ok (.iload 8, 2) := by decide +kernel
theorem dX11_erase_93 : decode cX11_erase 93 = .ok (.invokevirtual 152, 3) := by decide +kernel
theorem dX11_erase_96 : decode cX11_erase 96 = .ok (.ifnull 7, 3) := by decide +kernel
theorem dX11_erase_99 : decode cX11_erase 99 = .ok (.iconst 1, 1) := by decide +kernel
theorem dX11_erase_100 : decode cX11_erase 100 = .ok (.goto 4, 3) := by decide +kernel
theorem dX11_erase_103 : decode cX11_erase 103 = .ok (.iconst 0, 1) := by decide +kernel
theorem dX11_erase_104 : decode cX11_erase 104 = .ok (.iadd, 1) := by decide +kernel
theorem dX11_erase_105 : decode cX11_erase 105 = .ok (.istore 6, 2) := by decide +kernel
theorem dX11_erase_107 : decode cX11_erase 107 = .ok (.aload 5, 2) := by decide +kernel
theorem dX11_erase_109 : decode cX11_erase 109 = .ok (.iload 7, 2) := by decide +kernel
theorem dX11_erase_111 : decode cX11_erase 111 = .ok (.iload 8, 2) := by decide +kernel
theorem dX11_erase_113 : decode cX11_erase 113 = .ok (.aconst_null, 1) := by decide +kernel
theorem dX11_erase_114 : decode cX11_erase 114 = .ok (.invokevirtual 141, 3) := by decide +kernel
theorem dX11_erase_117 : decode cX11_erase 117 = .ok (.iinc 8 1, 3) := by decide +kernel
theorem dX11_erase_120 : decode cX11_erase 120 = .ok (.goto (-44), 3) := by decide +kernel
theorem dX11_erase_123 : decode cX11_erase 123 = .ok (.iinc 7 1, 3) := by decide +kernel
theorem dX11_erase_126 : decode cX11_erase 126 = .ok (.goto (-59), 3) := by decide +kernel
theorem dX11_erase_129 : decode cX11_erase 129 = .ok (.aload_n 0, 1) := by decide +kernel
theorem dX11_erase_130 : decode cX11_erase 130 = .ok (.aload 5, 2) := by decide +kernel
theorem dX11_erase_132 : decode cX11_erase 132 = .ok (.invokevirtual 145, 3) := by decide +kernel
theorem dX11_erase_135 : decode cX11_erase 135 = .ok (.iload 6, 2) := by decide +kernel
theorem dX11_erase_137 : decode cX11_erase 137 = .ok (.ireturn, 1) := by decide +kernel
set_option maxRecDepth 20000 in
theorem vl_X11_152 : VL RX11 152 6 mX6_at 2 := ⟨⟨qc_X6_at, (gtb_in (List.mem_of_getElem? (i := 816) (by decide +kernel)) (by decide +kernel)), qi_X6_at, qs_X6_at, zw_6⟩, ⟨_, _, rfl⟩, by decide, qd_X6_at, by decide⟩
theorem dX11_insert_0 : decode cX11_insert 0 = .ok (.iload_n 1, 1) := by decide +kernel
theorem dX11_insert_1 : decode cX11_insert 1 = .ok (.invokestatic 156, 3) := by decide +kernel
theorem dX11_insert_4 : decode cX11_insert 4 = .ok (.ifCond .ne 11, 3) := by decide +kernel
theorem dX11_insert_7 : decode cX11_insert 7 = .ok (.new 127, 3) := by decide +kernel
theorem dX11_insert_10 : decode cX11_insert 10 = .ok (.dup, 1) := by decide +kernel
theorem dX11_insert_11 : decode cX11_insert 11 = .ok (.invokespecial 129, 3) := by decide +kernel
theorem dX11_insert_14 : decode cX11_insert 14 = .ok (.athrow, 1) := by decide +kernel
theorem dX11_insert_15 : decode cX11_insert 15 = .ok (.aload_n 0, 1) := by decide +kernel
theorem dX11_insert_16 : decode cX11_insert 16 = .ok (.getfield 104, 3) := by decide +kernel
theorem dX11_insert_19 : decode cX11_insert 19 = .ok (.iload_n 1, 1) := by decide +kernel
theorem dX11_insert_20 : decode cX11_insert 20 = .ok (.invokevirtual 160, 3) := by decide +kernel
theorem dX11_insert_23 : decode cX11_insert 23 = .ok (.astore_n 3, 1) := by decide +kernel
theorem dX11_insert_24 : decode cX11_insert 24 = .ok (.iload_n 2, 1) := by decide +kernel
theorem dX11_insert_25 : decode cX11_insert 25 = .ok (.iconst 1, 1) := by decide +kernel
theorem dX11_insert_26 : decode cX11_insert 26 = .ok (.if_icmp .lt 11, 3) := by decide +kernel
theorem dX11_insert_29 : decode cX11_insert 29 = .ok (.iload_n 2, 1) := by decide +kernel
theorem dX11_insert_30 : decode cX11_insert 30 = .ok (.aload_n 3, 1) := by decide +kernel
theorem dX11_insert_31 : decode cX11_insert 31 = .ok (.arraylength, 1) := by decide +kernel
theorem dX11_insert_32 : decode cX11_insert 32 = .ok (.iconst 1, 1) := by decide +kernel
theorem dX11_insert_33 : decode cX11_insert 33 = .ok (.iadd, 1) := by decide +kernel
theorem dX11_insert_34 : decode cX11_insert 34 = .ok (.if_icmp .le 11, 3) := by decide +kernel
theorem dX11_insert_37 : decode cX11_insert 37 = .ok (.new 117, 3) := by decide +kernel
theorem dX11_insert_40 : decode cX11_insert 40 = .ok (.dup, 1) := by decide +kernel
theorem dX11_insert_41 : decode cX11_insert 41 = .ok (.invokespecial 119, 3) := by decide +kernel
theorem dX11_insert_44 : decode cX11_insert 44 = .ok (.athrow, 1) := by decide +kernel
theorem dX11_insert_45 : decode cX11_insert 45 = .ok (.aload_n 3, 1) := by decide +kernel
theorem dX11_insert_46 : decode cX11_insert 46 = .ok (.arraylength, 1) := by decide +kernel
theorem dX11_insert_47 : decode cX11_insert 47 = .ok (.iload_n 1, 1) := by decide +kernel
theorem dX11_insert_48 : decode cX11_insert 48 = .ok (.invokestatic 163, 3) := by decide +kernel
theorem dX11_insert_51 : decode cX11_insert 51 = .ok (.if_icmp .lt 11, 3) := by decide +kernel
theorem dX11_insert_54 : decode cX11_insert 54 = .ok (.new 167, 3) := by decide +kernel
theorem dX11_insert_57 : decode cX11_insert 57 = .ok (.dup, 1) := by decide +kernel
theorem dX11_insert_58 : decode cX11_insert 58 = .ok (.invokespecial 169, 3) := by decide +kernel
theorem dX11_insert_61 : decode cX11_insert 61 = .ok (.athrow, 1) := by decide +kernel
theorem dX11_insert_62 : decode cX11_insert 62 = .ok (.aload_n 3, 1) := by decide +kernel
theorem dX11_insert_63 : decode cX11_insert 63 = .ok (.iload_n 2, 1) := by decide +kernel
theorem dX11_insert_64 : decode cX11_insert 64 = .ok (.aload_n 0, 1) := by decide +kernel
theorem dX11_insert_65 : decode cX11_insert 65 = .ok (.iload_n 1, 1) := by decide +kernel
theorem dX11_insert_66 : decode cX11_insert 66 = .ok (.invokevirtual 170, 3) := by decide +kernel
theorem dX11_insert_69 : decode cX11_insert 69 = .ok (.invokestatic 173, 3) := by decide +kernel
theorem dX11_insert_72 : decode cX11_insert 72 = .ok (.astore 4, 2) := by decide +kernel
theorem dX11_insert_74 : decode cX11_insert 74 = .ok (.aload_n 0, 1) := by decide +kernel
theorem dX11_insert_75 : decode cX11_insert 75 = .ok (.aload_n 0, 1) := by decide +kernel
theorem dX11_insert_76 : decode cX11_insert 76 = .ok (.getfield 104, 3) := by decide +kernel
theorem dX11_insert_79 : decode cX11_insert 79 = .ok (.iload_n 1, 1) := by decide +kernel
theorem dX11_insert_80 : decode cX11_insert 80 = .ok (.aload 4, 2) := by decide +kernel
theorem dX11_insert_82 : decode cX11_insert 82 = .ok (.invokevirtual 177, 3) := by decide +kernel
theorem dX11_insert_85 : decode cX11_insert 85 = .ok (.invokevirtual 145, 3) := by decide +kernel
theorem dX11_insert_88 : decode cX11_insert 88 = .ok (.aload 4, 2) := by decide +kernel
theorem dX11_insert_90 : decode cX11_insert 90 = .ok (.arraylength, 1) := by decide +kernel
theorem dX11_insert_91 : decode cX11_insert 91 = .ok (.ireturn, 1) := by decide +kernel
set_option maxRecDepth 20000 in
theorem sl_X11_156 : SL RX11 156 mX11_isAxis 1 := ⟨⟨qc_X11_isAxis, (gtb_in (List.mem_of_getElem? (i := 1303) (by decide +kernel)) (by decide +kernel)), qt_X11_isAxis, zw_11⟩, qd_X11_isAxis, by decide⟩
set_option maxRecDepth 20000 in
theorem vl_X11_160 : VL RX11 160 6 mX6_line 1 := ⟨⟨qc_X6_line, (gtb_in (List.mem_of_getElem? (i := 1306) (by decide +kernel)) (by decide +kernel)), qi_X6_line, qs_X6_line, zw_6⟩, ⟨_, _, rfl⟩, by decide, qd_X6_line, by decide⟩
set_option maxRecDepth 20000 in
theorem sl_X11_163 : SL RX11 163 mX11_mostOf 1 := ⟨⟨qc_X11_mostOf, (gtb_in (List.mem_of_getElem? (i := 1310) (by decide +kernel)) (by decide +kernel)), qt_X11_mostOf, zw_11⟩, qd_X11_mostOf, by decide⟩
set_option maxRecDepth 20000 in
theorem vl_X11_170 : VL RX11 170 11 mX11_newcomer 1 := ⟨⟨qc_X11_newcomer, (gtb_in (List.mem_of_getElem? (i := 1328) (by decide +kernel)) (by decide +kernel)), qi_X11_newcomer, qs_X11_newcomer, zw_11⟩, ⟨_, _, rfl⟩, by decide, qd_X11_newcomer, by decide⟩
set_option maxRecDepth 20000 in
theorem sl_X11_173 : SL RX11 173 mX11_with 3 := ⟨⟨qc_X11_with, (gtb_in (List.mem_of_getElem? (i := 1332) (by decide +kernel)) (by decide +kernel)), qt_X11_with, zw_11⟩, qd_X11_with, by decide⟩
set_option maxRecDepth 20000 in
theorem vl_X11_177 : VL RX11 177 6 mX6_shapedAlong 2 := ⟨⟨qc_X6_shapedAlong, (gtb_in (List.mem_of_getElem? (i := 1335) (by decide +kernel)) (by decide +kernel)), qi_X6_shapedAlong, qs_X6_shapedAlong, zw_6⟩, ⟨_, _, rfl⟩, by decide, qd_X6_shapedAlong, by decide⟩
theorem dX11_remove_0 : decode cX11_remove 0 = .ok (.iload_n 1, 1) := by decide +kernel
theorem dX11_remove_1 : decode cX11_remove 1 = .ok (.invokestatic 156, 3) := by decide +kernel
theorem dX11_remove_4 : decode cX11_remove 4 = .ok (.ifCond .ne 11, 3) := by decide +kernel
theorem dX11_remove_7 : decode cX11_remove 7 = .ok (.new 127, 3) := by decide +kernel
theorem dX11_remove_10 : decode cX11_remove 10 = .ok (.dup, 1) := by decide +kernel
theorem dX11_remove_11 : decode cX11_remove 11 = .ok (.invokespecial 129, 3) := by decide +kernel
theorem dX11_remove_14 : decode cX11_remove 14 = .ok (.athrow, 1) := by decide +kernel
theorem dX11_remove_15 : decode cX11_remove 15 = .ok (.aload_n 0, 1) := by decide +kernel
theorem dX11_remove_16 : decode cX11_remove 16 = .ok (.getfield 104, 3) := by decide +kernel
theorem dX11_remove_19 : decode cX11_remove 19 = .ok (.iload_n 1, 1) := by decide +kernel
theorem dX11_remove_20 : decode cX11_remove 20 = .ok (.invokevirtual 160, 3) := by decide +kernel
theorem dX11_remove_23 : decode cX11_remove 23 = .ok (.astore_n 3, 1) := by decide +kernel
theorem dX11_remove_24 : decode cX11_remove 24 = .ok (.iload_n 2, 1) := by decide +kernel
theorem dX11_remove_25 : decode cX11_remove 25 = .ok (.iconst 1, 1) := by decide +kernel
theorem dX11_remove_26 : decode cX11_remove 26 = .ok (.if_icmp .lt 9, 3) := by decide +kernel
theorem dX11_remove_29 : decode cX11_remove 29 = .ok (.iload_n 2, 1) := by decide +kernel
theorem dX11_remove_30 : decode cX11_remove 30 = .ok (.aload_n 3, 1) := by decide +kernel
theorem dX11_remove_31 : decode cX11_remove 31 = .ok (.arraylength, 1) := by decide +kernel
theorem dX11_remove_32 : decode cX11_remove 32 = .ok (.if_icmp .le 11, 3) := by decide +kernel
theorem dX11_remove_35 : decode cX11_remove 35 = .ok (.new 117, 3) := by decide +kernel
theorem dX11_remove_38 : decode cX11_remove 38 = .ok (.dup, 1) := by decide +kernel
theorem dX11_remove_39 : decode cX11_remove 39 = .ok (.invokespecial 119, 3) := by decide +kernel
theorem dX11_remove_42 : decode cX11_remove 42 = .ok (.athrow, 1) := by decide +kernel
theorem dX11_remove_43 : decode cX11_remove 43 = .ok (.aload_n 3, 1) := by decide +kernel
theorem dX11_remove_44 : decode cX11_remove 44 = .ok (.arraylength, 1) := by decide +kernel
theorem dX11_remove_45 : decode cX11_remove 45 = .ok (.iconst 1, 1) := by decide +kernel
theorem dX11_remove_46 : decode cX11_remove 46 = .ok (.if_icmp .ne 11, 3) := by decide +kernel
theorem dX11_remove_49 : decode cX11_remove 49 = .ok (.new 167, 3) := by decide +kernel
theorem dX11_remove_52 : decode cX11_remove 52 = .ok (.dup, 1) := by decide +kernel
theorem dX11_remove_53 : decode cX11_remove 53 = .ok (.invokespecial 169, 3) := by decide +kernel
theorem dX11_remove_56 : decode cX11_remove 56 = .ok (.athrow, 1) := by decide +kernel
theorem dX11_remove_57 : decode cX11_remove 57 = .ok (.aload_n 0, 1) := by decide +kernel
theorem dX11_remove_58 : decode cX11_remove 58 = .ok (.aload_n 0, 1) := by decide +kernel
theorem dX11_remove_59 : decode cX11_remove 59 = .ok (.getfield 104, 3) := by decide +kernel
theorem dX11_remove_62 : decode cX11_remove 62 = .ok (.iload_n 1, 1) := by decide +kernel
theorem dX11_remove_63 : decode cX11_remove 63 = .ok (.aload_n 3, 1) := by decide +kernel
theorem dX11_remove_64 : decode cX11_remove 64 = .ok (.iload_n 2, 1) := by decide +kernel
theorem dX11_remove_65 : decode cX11_remove 65 = .ok (.invokestatic 181, 3) := by decide +kernel
theorem dX11_remove_68 : decode cX11_remove 68 = .ok (.invokevirtual 177, 3) := by decide +kernel
theorem dX11_remove_71 : decode cX11_remove 71 = .ok (.invokevirtual 145, 3) := by decide +kernel
theorem dX11_remove_74 : decode cX11_remove 74 = .ok (.aload_n 3, 1) := by decide +kernel
theorem dX11_remove_75 : decode cX11_remove 75 = .ok (.arraylength, 1) := by decide +kernel
theorem dX11_remove_76 : decode cX11_remove 76 = .ok (.iconst 1, 1) := by decide +kernel
theorem dX11_remove_77 : decode cX11_remove 77 = .ok (.isub, 1) := by decide +kernel
theorem dX11_remove_78 : decode cX11_remove 78 = .ok (.ireturn, 1) := by decide +kernel
set_option maxRecDepth 20000 in
theorem sl_X11_181 : SL RX11 181 mX11_without 2 := ⟨⟨qc_X11_without, (gtb_in (List.mem_of_getElem? (i := 1349) (by decide +kernel)) (by decide +kernel)), qt_X11_without, zw_11⟩, qd_X11_without, by decide⟩
theorem dX11_move_0 : decode cX11_move 0 = .ok (.iload_n 1, 1) := by decide +kernel
theorem dX11_move_1 : decode cX11_move 1 = .ok (.invokestatic 156, 3) := by decide +kernel
theorem dX11_move_4 : decode cX11_move 4 = .ok (.ifCond .ne 11, 3) := by decide +kernel
theorem dX11_move_7 : decode cX11_move 7 = .ok (.new 127, 3) := by decide +kernel
theorem dX11_move_10 : decode cX11_move 10 = .ok (.dup, 1) := by decide +kernel
theorem dX11_move_11 : decode cX11_move 11 = .ok (.invokespecial 129, 3) := by decide +kernel
theorem dX11_move_14 : decode cX11_move 14 = .ok (.athrow, 1) := by decide +kernel
theorem dX11_move_15 : decode cX11_move 15 = .ok (.aload_n 0, 1) := by decide +kernel
theorem dX11_move_16 : decode cX11_move 16 = .ok (.getfield 104, 3) := by decide +kernel
theorem dX11_move_19 : decode cX11_move 19 = .ok (.iload_n 1, 1) := by decide +kernel
theorem dX11_move_20 : decode cX11_move 20 = .ok (.invokevirtual 160, 3) := by decide +kernel
theorem dX11_move_23 : decode cX11_move 23 = .ok (.astore 4, 2) := by decide +kernel
theorem dX11_move_25 : decode cX11_move 25 = .ok (.iload_n 2, 1) := by decide +kernel
theorem dX11_move_26 : decode cX11_move 26 = .ok (.iconst 1, 1) := by decide +kernel
theorem dX11_move_27 : decode cX11_move 27 = .ok (.if_icmp .lt 22, 3) := by decide +kernel
theorem dX11_move_30 : decode cX11_move 30 = .ok (.iload_n 2, 1) := by decide +kernel
theorem dX11_move_31 : decode cX11_move 31 = .ok (.aload 4, 2) := by decide +kernel
theorem dX11_move_33 : decode cX11_move 33 = .ok (.arraylength, 1) := by decide +kernel
theorem dX11_move_34 : decode cX11_move 34 = .ok (.if_icmp .gt 15, 3) := by decide +kernel
theorem dX11_move_37 : decode cX11_move 37 = .ok (.iload_n 3, 1) := by decide +kernel
theorem dX11_move_38 : decode cX11_move 38 = .ok (.iconst 1, 1) := by decide +kernel
theorem dX11_move_39 : decode cX11_move 39 = .ok (.if_icmp .lt 10, 3) := by decide +kernel
theorem dX11_move_42 : decode cX11_move 42 = .ok (.iload_n 3, 1) := by decide +kernel
theorem dX11_move_43 : decode cX11_move 43 = .ok (.aload 4, 2) := by decide +kernel
theorem dX11_move_45 : decode cX11_move 45 = .ok (.arraylength, 1) := by decide +kernel
theorem dX11_move_46 : decode cX11_move 46 = .ok (.if_icmp .le 11, 3) := by decide +kernel
theorem dX11_move_49 : decode cX11_move 49 = .ok (.new 117, 3) := by decide +kernel
theorem dX11_move_52 : decode cX11_move 52 = .ok (.dup, 1) := by decide +kernel
theorem dX11_move_53 : decode cX11_move 53 = .ok (.invokespecial 119, 3) := by decide +kernel
theorem dX11_move_56 : decode cX11_move 56 = .ok (.athrow, 1) := by decide +kernel
theorem dX11_move_57 : decode cX11_move 57 = .ok (.aload_n 0, 1) := by decide +kernel
theorem dX11_move_58 : decode cX11_move 58 = .ok (.aload_n 0, 1) := by decide +kernel
theorem dX11_move_59 : decode cX11_move 59 = .ok (.getfield 104, 3) := by decide +kernel
theorem dX11_move_62 : decode cX11_move 62 = .ok (.iload_n 1, 1) := by decide +kernel
theorem dX11_move_63 : decode cX11_move 63 = .ok (.aload 4, 2) := by decide +kernel
theorem dX11_move_65 : decode cX11_move 65 = .ok (.iload_n 2, 1) := by decide +kernel
theorem dX11_move_66 : decode cX11_move 66 = .ok (.invokestatic 181, 3) := by decide +kernel
theorem dX11_move_69 : decode cX11_move 69 = .ok (.iload_n 3, 1) := by decide +kernel
theorem dX11_move_70 : decode cX11_move 70 = .ok (.aload 4, 2) := by decide +kernel
theorem dX11_move_72 : decode cX11_move 72 = .ok (.iload_n 2, 1) := by decide +kernel
theorem dX11_move_73 : decode cX11_move 73 = .ok (.iconst 1, 1) := by decide +kernel
theorem dX11_move_74 : decode cX11_move 74 = .ok (.isub, 1) := by decide +kernel
theorem dX11_move_75 : decode cX11_move 75 = .ok (.iaload, 1) := by decide +kernel
theorem dX11_move_76 : decode cX11_move 76 = .ok (.invokestatic 173, 3) := by decide +kernel
theorem dX11_move_79 : decode cX11_move 79 = .ok (.invokevirtual 177, 3) := by decide +kernel
theorem dX11_move_82 : decode cX11_move 82 = .ok (.invokevirtual 145, 3) := by decide +kernel
theorem dX11_move_85 : decode cX11_move 85 = .ok (.iload_n 2, 1) := by decide +kernel
theorem dX11_move_86 : decode cX11_move 86 = .ok (.iload_n 3, 1) := by decide +kernel
theorem dX11_move_87 : decode cX11_move 87 = .ok (.if_icmp .ne 7, 3) := by decide +kernel
theorem dX11_move_90 : decode cX11_move 90 = .ok (.iconst 0, 1) := by decide +kernel
theorem dX11_move_91 : decode cX11_move 91 = .ok (.goto 11, 3) := by decide +kernel
theorem dX11_move_94 : decode cX11_move 94 = .ok (.iload_n 2, 1) := by decide +kernel
theorem dX11_move_95 : decode cX11_move 95 = .ok (.iload_n 3, 1) := by decide +kernel
theorem dX11_move_96 : decode cX11_move 96 = .ok (.isub, 1) := by decide +kernel
theorem dX11_move_97 : decode cX11_move 97 = .ok (.invokestatic 185, 3) := by decide +kernel
theorem dX11_move_100 : decode cX11_move 100 = .ok (.iconst 1, 1) := by decide +kernel
theorem dX11_move_101 : decode cX11_move 101 = .ok (.iadd, 1) := by decide +kernel
theorem dX11_move_102 : decode cX11_move 102 = .ok (.ireturn, 1) := by decide +kernel
set_option maxRecDepth 20000 in
theorem sl_X11_185 : SL RX11 185 mJ9_abs_0f7a4 1 := ⟨⟨qc_J9_abs_0f7a4, (gtb_in (List.mem_of_getElem? (i := 1359) (by decide +kernel)) (by decide +kernel)), qt_J9_abs_0f7a4, (gtb_in (List.mem_of_getElem? (i := 5) (by decide +kernel)) (by decide +kernel))⟩, qd_J9_abs_0f7a4, by decide⟩
theorem dX11_copy_0 : decode cX11_copy 0 = .ok (.aload_n 0, 1) := by decide +kernel
theorem dX11_copy_1 : decode cX11_copy 1 = .ok (.getfield 104, 3) := by decide +kernel
theorem dX11_copy_4 : decode cX11_copy 4 = .ok (.iload_n 1, 1) := by decide +kernel
theorem dX11_copy_5 : decode cX11_copy 5 = .ok (.iload_n 2, 1) := by decide +kernel
theorem dX11_copy_6 : decode cX11_copy 6 = .ok (.invokevirtual 113, 3) := by decide +kernel
theorem dX11_copy_9 : decode cX11_copy 9 = .ok (.ifCond .eq 30, 3) := by decide +kernel
theorem dX11_copy_12 : decode cX11_copy 12 = .ok (.aload_n 0, 1) := by decide +kernel
theorem dX11_copy_13 : decode cX11_copy 13 = .ok (.getfield 104, 3) := by decide +kernel
theorem dX11_copy_16 : decode cX11_copy 16 = .ok (.iload_n 3, 1) := by decide +kernel
theorem dX11_copy_17 : decode cX11_copy 17 = .ok (.iload 4, 2) := by decide +kernel
theorem dX11_copy_19 : decode cX11_copy 19 = .ok (.invokevirtual 113, 3) := by decide +kernel
theorem dX11_copy_22 : decode cX11_copy 22 = .ok (.ifCond .eq 17, 3) := by decide +kernel
theorem dX11_copy_25 : decode cX11_copy 25 = .ok (.aload_n 0, 1) := by decide +kernel
theorem dX11_copy_26 : decode cX11_copy 26 = .ok (.getfield 104, 3) := by decide +kernel
theorem dX11_copy_29 : decode cX11_copy 29 = .ok (.iload 5, 2) := by decide +kernel
theorem dX11_copy_31 : decode cX11_copy 31 = .ok (.iload 6, 2) := by decide +kernel
theorem dX11_copy_33 : decode cX11_copy 33 = .ok (.invokevirtual 113, 3) := by decide +kernel
theorem dX11_copy_36 : decode cX11_copy 36 = .ok (.ifCond .ne 11, 3) := by decide +kernel
theorem dX11_copy_39 : decode cX11_copy 39 = .ok (.new 117, 3) := by decide +kernel
theorem dX11_copy_42 : decode cX11_copy 42 = .ok (.dup, 1) := by decide +kernel
theorem dX11_copy_43 : decode cX11_copy 43 = .ok (.invokespecial 119, 3) := by decide +kernel
theorem dX11_copy_46 : decode cX11_copy 46 = .ok (.athrow, 1) := by decide +kernel
theorem dX11_copy_47 : decode cX11_copy 47 = .ok (.iload_n 3, 1) := by decide +kernel
theorem dX11_copy_48 : decode cX11_copy 48 = .ok (.iload_n 1, 1) := by decide +kernel
theorem dX11_copy_49 : decode cX11_copy 49 = .ok (.if_icmp .lt 9, 3) := by decide +kernel
theorem dX11_copy_52 : decode cX11_copy 52 = .ok (.iload 4, 2) := by decide +kernel
theorem dX11_copy_54 : decode cX11_copy 54 = .ok (.iload_n 2, 1) := by decide +kernel
theorem dX11_copy_55 : decode cX11_copy 55 = .ok (.if_icmp .ge 11, 3) := by decide +kernel
theorem dX11_copy_58 : decode cX11_copy 58 = .ok (.new 127, 3) := by decide +kernel
theorem dX11_copy_61 : decode cX11_copy 61 = .ok (.dup, 1) := by decide +kernel
theorem dX11_copy_62 : decode cX11_copy 62 = .ok (.invokespecial 129, 3) := by decide +kernel
theorem dX11_copy_65 : decode cX11_copy 65 = .ok (.athrow, 1) := by decide +kernel
theorem dX11_copy_66 : decode cX11_copy 66 = .ok (.iload_n 3, 1) := by decide +kernel
theorem dX11_copy_67 : decode cX11_copy 67 = .ok (.iload_n 1, 1) := by decide +kernel
theorem dX11_copy_68 : decode cX11_copy 68 = .ok (.isub, 1) := by decide +kernel
theorem dX11_copy_69 : decode cX11_copy 69 = .ok (.aload_n 0, 1) := by decide +kernel
theorem dX11_copy_70 : decode cX11_copy 70 = .ok (.getfield 104, 3) := by decide +kernel
theorem dX11_copy_73 : decode cX11_copy 73 = .ok (.getfield 190, 3) := by decide +kernel
theorem dX11_copy_76 : decode cX11_copy 76 = .ok (.arraylength, 1) := by decide +kernel
theorem dX11_copy_77 : decode cX11_copy 77 = .ok (.iload 5, 2) := by decide +kernel
theorem dX11_copy_79 : decode cX11_copy 79 = .ok (.isub, 1) := by decide +kernel
theorem dX11_copy_80 : decode cX11_copy 80 = .ok (.invokestatic 193, 3) := by decide +kernel
theorem dX11_copy_83 : decode cX11_copy 83 = .ok (.iconst 1, 1) := by decide +kernel
theorem dX11_copy_84 : decode cX11_copy 84 = .ok (.iadd, 1) := by decide +kernel
theorem dX11_copy_85 : decode cX11_copy 85 = .ok (.istore 7, 2) := by decide +kernel
theorem dX11_copy_87 : decode cX11_copy 87 = .ok (.iload 4, 2) := by decide +kernel
theorem dX11_copy_89 : decode cX11_copy 89 = .ok (.iload_n 2, 1) := by decide +kernel
theorem dX11_copy_90 : decode cX11_copy 90 = .ok (.isub, 1) := by decide +kernel
theorem dX11_copy_91 : decode cX11_copy 91 = .ok (.aload_n 0, 1) := by decide +kernel
theorem dX11_copy_92 : decode cX11_copy 92 = .ok (.getfield 104, 3) := by decide +kernel
theorem dX11_copy_95 : decode cX11_copy 95 = .ok (.getfield 197, 3) := by decide +kernel
theorem dX11_copy_98 : decode cX11_copy 98 = .ok (.arraylength, 1) := by decide +kernel
theorem dX11_copy_99 : decode cX11_copy 99 = .ok (.iload 6, 2) := by decide +kernel
theorem dX11_copy_101 : decode cX11_copy 101 = .ok (.isub, 1) := by decide +kernel
theorem dX11_copy_102 : decode cX11_copy 102 = .ok (.invokestatic 193, 3) := by decide +kernel
theorem dX11_copy_105 : decode cX11_copy 105 = .ok (.iconst 1, 1) := by decide +kernel
theorem dX11_copy_106 : decode cX11_copy 106 = .ok (.iadd, 1) := by decide +kernel
theorem dX11_copy_107 : decode cX11_copy 107 = .ok (.istore 8, 2) := by decide +kernel
theorem dX11_copy_109 : decode cX11_copy 109 = .ok (.aload_n 0, 1) := by decide +kernel
theorem dX11_copy_110 : decode cX11_copy 110 = .ok (.iload_n 1, 1) := by decide +kernel
theorem dX11_copy_111 : decode cX11_copy 111 = .ok (.iload_n 2, 1) := by decide +kernel
theorem dX11_copy_112 : decode cX11_copy 112 = .ok (.iload 7, 2) := by decide +kernel
theorem dX11_copy_114 : decode cX11_copy 114 = .ok (.iload 8, 2) := by decide +kernel
theorem dX11_copy_116 : decode cX11_copy 116 = .ok (.invokevirtual 200, 3) := by decide +kernel
theorem dX11_copy_119 : decode cX11_copy 119 = .ok (.istore 9, 2) := by decide +kernel
theorem dX11_copy_121 : decode cX11_copy 121 = .ok (.iload 9, 2) := by decide +kernel
theorem dX11_copy_123 : decode cX11_copy 123 = .ok (.ldc 134, 2) := by decide +kernel
theorem dX11_copy_125 : decode cX11_copy 125 = .ok (.aload_n 0, 1) := by decide +kernel
theorem dX11_copy_126 : decode cX11_copy 126 = .ok (.getfield 135, 3) := by decide +kernel
theorem dX11_copy_129 : decode cX11_copy 129 = .ok (.isub, 1) := by decide +kernel
theorem dX11_copy_130 : decode cX11_copy 130 = .ok (.if_icmp .le 11, 3) := by decide +kernel
theorem dX11_copy_133 : decode cX11_copy 133 = .ok (.new 138, 3) := by decide +kernel
theorem dX11_copy_136 : decode cX11_copy 136 = .ok (.dup, 1) := by decide +kernel
theorem dX11_copy_137 : decode cX11_copy 137 = .ok (.invokespecial 140, 3) := by decide +kernel
theorem dX11_copy_140 : decode cX11_copy 140 = .ok (.athrow, 1) := by decide +kernel
theorem dX11_copy_141 : decode cX11_copy 141 = .ok (.aload_n 0, 1) := by decide +kernel
theorem dX11_copy_142 : decode cX11_copy 142 = .ok (.dup, 1) := by decide +kernel
theorem dX11_copy_143 : decode cX11_copy 143 = .ok (.getfield 135, 3) := by decide +kernel
theorem dX11_copy_146 : decode cX11_copy 146 = .ok (.iload 9, 2) := by decide +kernel
theorem dX11_copy_148 : decode cX11_copy 148 = .ok (.iadd, 1) := by decide +kernel
theorem dX11_copy_149 : decode cX11_copy 149 = .ok (.putfield 135, 3) := by decide +kernel
theorem dX11_copy_152 : decode cX11_copy 152 = .ok (.aload_n 0, 1) := by decide +kernel
theorem dX11_copy_153 : decode cX11_copy 153 = .ok (.getfield 104, 3) := by decide +kernel
theorem dX11_copy_156 : decode cX11_copy 156 = .ok (.invokevirtual 100, 3) := by decide +kernel
theorem dX11_copy_159 : decode cX11_copy 159 = .ok (.astore 10, 2) := by decide +kernel
theorem dX11_copy_161 : decode cX11_copy 161 = .ok (.iconst 0, 1) := by decide +kernel
theorem dX11_copy_162 : decode cX11_copy 162 = .ok (.istore 11, 2) := by decide +kernel
theorem dX11_copy_164 : decode cX11_copy 164 = .ok (.iload 11, 2) := by decide +kernel
theorem dX11_copy_166 : decode cX11_copy 166 = .ok (.iload 7, 2) := by decide +kernel
theorem dX11_copy_168 : decode cX11_copy 168 = .ok (.if_icmp .ge 71, 3) := by decide +kernel
theorem dX11_copy_171 : decode cX11_copy 171 = .ok (.iconst 0, 1) := by decide +kernel
theorem dX11_copy_172 : decode cX11_copy 172 = .ok (.istore 12, 2) := by decide +kernel
theorem dX11_copy_174 : decode cX11_copy 174 = .ok (.iload 12, 2) := by decide +kernel
theorem dX11_copy_176 : decode cX11_copy 176 = .ok (.iload 8, 2) := by decide +kernel
theorem dX11_copy_178 : decode cX11_copy 178 = .ok (.if_icmp .ge 55, 3) := by decide +kernel
theorem dX11_copy_181 : decode cX11_copy 181 = .ok (.aload_n 0, 1) := by decide +kernel
theorem dX11_copy_182 : decode cX11_copy 182 = .ok (.getfield 104, 3) := by decide +kernel
theorem dX11_copy_185 : decode cX11_copy 185 = .ok (.iload_n 1, 1) := by decide +kernel
theorem dX11_copy_186 : decode cX11_copy 186 = .ok (.iload 11, 2) := by decide +kernel
theorem dX11_copy_188 : decode cX11_copy 188 = .ok (.iadd, 1) := by decide +kernel
theorem dX11_copy_189 : decode cX11_copy 189 = .ok (.iload_n 2, 1) := by decide +kernel
theorem dX11_copy_190 : decode cX11_copy 190 = .ok (.iload 12, 2) := by decide +kernel
theorem dX11_copy_192 : decode cX11_copy 192 = .ok (.iadd, 1) := by decide +kernel
theorem dX11_copy_193 : decode cX11_copy 193 = .ok (.invokevirtual 152, 3) := by decide +kernel
theorem dX11_copy_196 : decode cX11_copy 196 = .ok (.astore 13, 2) := by decide +kernel
theorem dX11_copy_198 : decode cX11_copy 198 = .ok (.aload 10, 2) := by decide +kernel
theorem dX11_copy_200 : decode cX11_copy 200 = .ok (.iload 5, 2) := by decide +kernel
theorem dX11_copy_202 : decode cX11_copy 202 = .ok (.iload 11, 2) := by decide +kernel
theorem dX11_copy_204 : decode cX11_copy 204 = .ok (.iadd, 1) := by decide +kernel
theorem dX11_copy_205 : decode cX11_copy 205 = .ok (.iload 6, 2) := by decide +kernel
theorem dX11_copy_207 : decode cX11_copy 207 = .ok (.iload 12, 2) := by decide +kernel
theorem dX11_copy_209 : decode cX11_copy 209 = .ok (.iadd, 1) := by decide +kernel
theorem dX11_copy_210 : decode cX11_copy 210 = .ok (.aload_n 0, 1) := by decide +kernel
theorem dX11_copy_211 : decode cX11_copy 211 = .ok (.aload 13, 2) := by decide +kernel
theorem dX11_copy_213 : decode cX11_copy 213 = .ok (.iload 5, 2) := by decide +kernel
theorem dX11_copy_215 : decode cX11_copy 215 = .ok (.iload_n 1, 1) := by decide +kernel
theorem dX11_copy_216 : decode cX11_copy 216 = .ok (.isub, 1) := by decide +kernel
theorem dX11_copy_217 : decode cX11_copy 217 = .ok (.iload 6, 2) := by decide +kernel
theorem dX11_copy_219 : decode cX11_copy 219 = .ok (.iload_n 2, 1) := by decide +kernel
theorem dX11_copy_220 : decode cX11_copy 220 = .ok (.isub, 1) := by decide +kernel
theorem dX11_copy_221 : decode cX11_copy 221 = .ok (.invokevirtual 204, 3) := by decide +kernel
theorem dX11_copy_224 : decode cX11_copy 224 = .ok (.invokevirtual 141, 3) := by decide +kernel
theorem dX11_copy_227 : decode cX11_copy 227 = .ok (.iinc 12 1, 3) := by decide +kernel
theorem dX11_copy_230 : decode cX11_copy 230 = .ok (.goto (-56), 3) := by decide +kernel
theorem dX11_copy_233 : decode cX11_copy 233 = .ok (.iinc 11 1, 3) := by decide +kernel
theorem dX11_copy_236 : decode cX11_copy 236 = .ok (.goto (-72), 3) := by decide +kernel
theorem dX11_copy_239 : decode cX11_copy 239 = .ok (.aload_n 0, 1) := by decide +kernel
theorem dX11_copy_240 : decode cX11_copy 240 = .ok (.aload 10, 2) := by decide +kernel
theorem dX11_copy_242 : decode cX11_copy 242 = .ok (.invokevirtual 145, 3) := by decide +kernel
theorem dX11_copy_245 : decode cX11_copy 245 = .ok (.iload 7, 2) := by decide +kernel
theorem dX11_copy_247 : decode cX11_copy 247 = .ok (.iload 8, 2) := by decide +kernel
theorem dX11_copy_249 : decode cX11_copy 249 = .ok (.imul, 1) := by decide +kernel
theorem dX11_copy_250 : decode cX11_copy 250 = .ok (.ireturn, 1) := by decide +kernel
set_option maxRecDepth 20000 in
theorem fl_X11_190 : FL RX11 190 6 0 true := ⟨RX6, TX6, cl_6, by decide, (gtb_in (List.mem_of_getElem? (i := 334) (by decide +kernel)) (by decide +kernel)), rfl⟩
set_option maxRecDepth 20000 in
theorem sl_X11_193 : SL RX11 193 mJ9_min_7cf53 2 := ⟨⟨qc_J9_min_7cf53, (gtb_in (List.mem_of_getElem? (i := 1369) (by decide +kernel)) (by decide +kernel)), qt_J9_min_7cf53, (gtb_in (List.mem_of_getElem? (i := 5) (by decide +kernel)) (by decide +kernel))⟩, qd_J9_min_7cf53, by decide⟩
set_option maxRecDepth 20000 in
theorem fl_X11_197 : FL RX11 197 6 1 true := ⟨RX6, TX6, cl_6, by decide, (gtb_in (List.mem_of_getElem? (i := 338) (by decide +kernel)) (by decide +kernel)), rfl⟩
set_option maxRecDepth 20000 in
theorem vl_X11_200 : VL RX11 200 11 mX11_partsWithin 4 := ⟨⟨qc_X11_partsWithin, (gtb_in (List.mem_of_getElem? (i := 1370) (by decide +kernel)) (by decide +kernel)), qi_X11_partsWithin, qs_X11_partsWithin, zw_11⟩, ⟨_, _, rfl⟩, by decide, qd_X11_partsWithin, by decide⟩
set_option maxRecDepth 20000 in
theorem vl_X11_204 : VL RX11 204 11 mX11_shifted 3 := ⟨⟨qc_X11_shifted, (gtb_in (List.mem_of_getElem? (i := 1374) (by decide +kernel)) (by decide +kernel)), qi_X11_shifted, qs_X11_shifted, zw_11⟩, ⟨_, _, rfl⟩, by decide, qd_X11_shifted, by decide⟩
theorem dX11_sort_0 : decode cX11_sort 0 = .ok (.aload_n 0, 1) := by decide +kernel
theorem dX11_sort_1 : decode cX11_sort 1 = .ok (.getfield 104, 3) := by decide +kernel
theorem dX11_sort_4 : decode cX11_sort 4 = .ok (.iload_n 2, 1) := by decide +kernel
theorem dX11_sort_5 : decode cX11_sort 5 = .ok (.iload_n 1, 1) := by decide +kernel
theorem dX11_sort_6 : decode cX11_sort 6 = .ok (.invokevirtual 113, 3) := by decide +kernel
theorem dX11_sort_9 : decode cX11_sort 9 = .ok (.ifCond .eq 15, 3) := by decide +kernel
theorem dX11_sort_12 : decode cX11_sort 12 = .ok (.aload_n 0, 1) := by decide +kernel
theorem dX11_sort_13 : decode cX11_sort 13 = .ok (.getfield 104, 3) := by decide +kernel
theorem dX11_sort_16 : decode cX11_sort 16 = .ok (.iload_n 3, 1) := by decide +kernel
theorem dX11_sort_17 : decode cX11_sort 17 = .ok (.iload_n 1, 1) := by decide +kernel
theorem dX11_sort_18 : decode cX11_sort 18 = .ok (.invokevirtual 113, 3) := by decide +kernel
theorem dX11_sort_21 : decode cX11_sort 21 = .ok (.ifCond .ne 11, 3) := by decide +kernel
theorem dX11_sort_24 : decode cX11_sort 24 = .ok (.new 117, 3) := by decide +kernel
theorem dX11_sort_27 : decode cX11_sort 27 = .ok (.dup, 1) := by decide +kernel
theorem dX11_sort_28 : decode cX11_sort 28 = .ok (.invokespecial 119, 3) := by decide +kernel
theorem dX11_sort_31 : decode cX11_sort 31 = .ok (.athrow, 1) := by decide +kernel
theorem dX11_sort_32 : decode cX11_sort 32 = .ok (.iload_n 3, 1) := by decide +kernel
theorem dX11_sort_33 : decode cX11_sort 33 = .ok (.iload_n 2, 1) := by decide +kernel
theorem dX11_sort_34 : decode cX11_sort 34 = .ok (.if_icmp .ge 11, 3) := by decide +kernel
theorem dX11_sort_37 : decode cX11_sort 37 = .ok (.new 127, 3) := by decide +kernel
theorem dX11_sort_40 : decode cX11_sort 40 = .ok (.dup, 1) := by decide +kernel
theorem dX11_sort_41 : decode cX11_sort 41 = .ok (.invokespecial 129, 3) := by decide +kernel
theorem dX11_sort_44 : decode cX11_sort 44 = .ok (.athrow, 1) := by decide +kernel
theorem dX11_sort_45 : decode cX11_sort 45 = .ok (.aload_n 0, 1) := by decide +kernel
theorem dX11_sort_46 : decode cX11_sort 46 = .ok (.iconst (-1), 1) := by decide +kernel
theorem dX11_sort_47 : decode cX11_sort 47 = .ok (.invokevirtual 208, 3) := by decide +kernel
theorem dX11_sort_50 : decode cX11_sort 50 = .ok (.aload_n 0, 1) := by decide +kernel
theorem dX11_sort_51 : decode cX11_sort 51 = .ok (.iload_n 1, 1) := by decide +kernel
theorem dX11_sort_52 : decode cX11_sort 52 = .ok (.iload_n 2, 1) := by decide +kernel
theorem dX11_sort_53 : decode cX11_sort 53 = .ok (.iload_n 3, 1) := by decide +kernel
theorem dX11_sort_54 : decode cX11_sort 54 = .ok (.iload 4, 2) := by decide +kernel
theorem dX11_sort_56 : decode cX11_sort 56 = .ok (.invokevirtual 211, 3) := by decide +kernel
theorem dX11_sort_59 : decode cX11_sort 59 = .ok (.astore 5, 2) := by decide +kernel
theorem dX11_sort_61 : decode cX11_sort 61 = .ok (.aload_n 0, 1) := by decide +kernel
theorem dX11_sort_62 : decode cX11_sort 62 = .ok (.getfield 104, 3) := by decide +kernel
theorem dX11_sort_65 : decode cX11_sort 65 = .ok (.getfield 190, 3) := by decide +kernel
theorem dX11_sort_68 : decode cX11_sort 68 = .ok (.invokevirtual 215, 3) := by decide +kernel
theorem dX11_sort_71 : decode cX11_sort 71 = .ok (.checkcast 216, 3) := by decide +kernel
theorem dX11_sort_74 : decode cX11_sort 74 = .ok (.astore 6, 2) := by decide +kernel
theorem dX11_sort_76 : decode cX11_sort 76 = .ok (.iconst 0, 1) := by decide +kernel
theorem dX11_sort_77 : decode cX11_sort 77 = .ok (.istore 7, 2) := by decide +kernel
theorem dX11_sort_79 : decode cX11_sort 79 = .ok (.iconst 0, 1) := by decide +kernel
theorem dX11_sort_80 : decode cX11_sort 80 = .ok (.istore 8, 2) := by decide +kernel
theorem dX11_sort_82 : decode cX11_sort 82 = .ok (.iload 8, 2) := by decide +kernel
theorem dX11_sort_84 : decode cX11_sort 84 = .ok (.aload 5, 2) := by decide +kernel
theorem dX11_sort_86 : decode cX11_sort 86 = .ok (.arraylength, 1) := by decide +kernel
theorem dX11_sort_87 : decode cX11_sort 87 = .ok (.if_icmp .ge 55, 3) := by decide +kernel
theorem dX11_sort_90 : decode cX11_sort 90 = .ok (.aload 6, 2) := by decide +kernel
theorem dX11_sort_92 : decode cX11_sort 92 = .ok (.iload_n 2, 1) := by decide +kernel
theorem dX11_sort_93 : decode cX11_sort 93 = .ok (.iconst 1, 1) := by decide +kernel
theorem dX11_sort_94 : decode cX11_sort 94 = .ok (.isub, 1) := by decide +kernel
theorem dX11_sort_95 : decode cX11_sort 95 = .ok (.iload 8, 2) := by decide +kernel
theorem dX11_sort_97 : decode cX11_sort 97 = .ok (.iadd, 1) := by decide +kernel
theorem dX11_sort_98 : decode cX11_sort 98 = .ok (.aload_n 0, 1) := by decide +kernel
theorem dX11_sort_99 : decode cX11_sort 99 = .ok (.getfield 104, 3) := by decide +kernel
theorem dX11_sort_102 : decode cX11_sort 102 = .ok (.getfield 190, 3) := by decide +kernel
theorem dX11_sort_105 : decode cX11_sort 105 = .ok (.aload 5, 2) := by decide +kernel
theorem dX11_sort_107 : decode cX11_sort 107 = .ok (.iload 8, 2) := by decide +kernel
theorem dX11_sort_109 : decode cX11_sort 109 = .ok (.iaload, 1) := by decide +kernel
theorem dX11_sort_110 : decode cX11_sort 110 = .ok (.iconst 1, 1) := by decide +kernel
theorem dX11_sort_111 : decode cX11_sort 111 = .ok (.isub, 1) := by decide +kernel
theorem dX11_sort_112 : decode cX11_sort 112 = .ok (.iaload, 1) := by decide +kernel
theorem dX11_sort_113 : decode cX11_sort 113 = .ok (.iastore, 1) := by decide +kernel
theorem dX11_sort_114 : decode cX11_sort 114 = .ok (.iload 7, 2) := by decide +kernel
theorem dX11_sort_116 : decode cX11_sort 116 = .ok (.aload 5, 2) := by decide +kernel
theorem dX11_sort_118 : decode cX11_sort 118 = .ok (.iload 8, 2) := by decide +kernel
theorem dX11_sort_120 : decode cX11_sort 120 = .ok (.iaload, 1) := by decide +kernel
theorem dX11_sort_121 : decode cX11_sort 121 = .ok (.iload_n 2, 1) := by decide +kernel
theorem dX11_sort_122 : decode cX11_sort 122 = .ok (.iload 8, 2) := by decide +kernel
theorem dX11_sort_124 : decode cX11_sort 124 = .ok (.iadd, 1) := by decide +kernel
theorem dX11_sort_125 : decode cX11_sort 125 = .ok (.if_icmp .eq 7, 3) := by decide +kernel
theorem dX11_sort_128 : decode cX11_sort 128 = .ok (.iconst 1, 1) := by decide +kernel
theorem dX11_sort_129 : decode cX11_sort 129 = .ok (.goto 4, 3) := by decide +kernel
theorem dX11_sort_132 : decode cX11_sort 132 = .ok (.iconst 0, 1) := by decide +kernel
theorem dX11_sort_133 : decode cX11_sort 133 = .ok (.iadd, 1) := by decide +kernel
theorem dX11_sort_134 : decode cX11_sort 134 = .ok (.istore 7, 2) := by decide +kernel
theorem dX11_sort_136 : decode cX11_sort 136 = .ok (.iinc 8 1, 3) := by decide +kernel
theorem dX11_sort_139 : decode cX11_sort 139 = .ok (.goto (-57), 3) := by decide +kernel
theorem dX11_sort_142 : decode cX11_sort 142 = .ok (.aload_n 0, 1) := by decide +kernel
theorem dX11_sort_143 : decode cX11_sort 143 = .ok (.aload_n 0, 1) := by decide +kernel
theorem dX11_sort_144 : decode cX11_sort 144 = .ok (.getfield 104, 3) := by decide +kernel
theorem dX11_sort_147 : decode cX11_sort 147 = .ok (.iconst 0, 1) := by decide +kernel
theorem dX11_sort_148 : decode cX11_sort 148 = .ok (.aload 6, 2) := by decide +kernel
theorem dX11_sort_150 : decode cX11_sort 150 = .ok (.invokevirtual 177, 3) := by decide +kernel
theorem dX11_sort_153 : decode cX11_sort 153 = .ok (.invokevirtual 145, 3) := by decide +kernel
theorem dX11_sort_156 : decode cX11_sort 156 = .ok (.iload 7, 2) := by decide +kernel
theorem dX11_sort_158 : decode cX11_sort 158 = .ok (.ireturn, 1) := by decide +kernel
set_option maxRecDepth 20000 in
theorem vl_X11_208 : VL RX11 208 11 mX11_ready 1 := ⟨⟨qc_X11_ready, (gtb_in (List.mem_of_getElem? (i := 511) (by decide +kernel)) (by decide +kernel)), qi_X11_ready, qs_X11_ready, zw_11⟩, ⟨_, _, rfl⟩, by decide, qd_X11_ready, by decide⟩
set_option maxRecDepth 20000 in
theorem vl_X11_211 : VL RX11 211 11 mX11_placesInOrder 4 := ⟨⟨qc_X11_placesInOrder, (gtb_in (List.mem_of_getElem? (i := 1400) (by decide +kernel)) (by decide +kernel)), qi_X11_placesInOrder, qs_X11_placesInOrder, zw_11⟩, ⟨_, _, rfl⟩, by decide, qd_X11_placesInOrder, by decide⟩
theorem dX11_undo_0 : decode cX11_undo 0 = .ok (.aload_n 0, 1) := by decide +kernel
theorem dX11_undo_1 : decode cX11_undo 1 = .ok (.getfield 53, 3) := by decide +kernel
theorem dX11_undo_4 : decode cX11_undo 4 = .ok (.getfield 220, 3) := by decide +kernel
theorem dX11_undo_7 : decode cX11_undo 7 = .ok (.ifCond .ne 11, 3) := by decide +kernel
theorem dX11_undo_10 : decode cX11_undo 10 = .ok (.new 223, 3) := by decide +kernel
theorem dX11_undo_13 : decode cX11_undo 13 = .ok (.dup, 1) := by decide +kernel
theorem dX11_undo_14 : decode cX11_undo 14 = .ok (.invokespecial 225, 3) := by decide +kernel
theorem dX11_undo_17 : decode cX11_undo 17 = .ok (.athrow, 1) := by decide +kernel
theorem dX11_undo_18 : decode cX11_undo 18 = .ok (.aload_n 0, 1) := by decide +kernel
theorem dX11_undo_19 : decode cX11_undo 19 = .ok (.aload_n 0, 1) := by decide +kernel
theorem dX11_undo_20 : decode cX11_undo 20 = .ok (.getfield 53, 3) := by decide +kernel
theorem dX11_undo_23 : decode cX11_undo 23 = .ok (.aload_n 0, 1) := by decide +kernel
theorem dX11_undo_24 : decode cX11_undo 24 = .ok (.getfield 104, 3) := by decide +kernel
theorem dX11_undo_27 : decode cX11_undo 27 = .ok (.invokevirtual 226, 3) := by decide +kernel
theorem dX11_undo_30 : decode cX11_undo 30 = .ok (.invokevirtual 230, 3) := by decide +kernel
theorem dX11_undo_33 : decode cX11_undo 33 = .ok (.aload_n 0, 1) := by decide +kernel
theorem dX11_undo_34 : decode cX11_undo 34 = .ok (.getfield 53, 3) := by decide +kernel
theorem dX11_undo_37 : decode cX11_undo 37 = .ok (.getfield 220, 3) := by decide +kernel
theorem dX11_undo_40 : decode cX11_undo 40 = .ok (.ireturn, 1) := by decide +kernel
set_option maxRecDepth 20000 in
theorem fl_X11_220 : FL RX11 220 7 2 false := ⟨RX7, TX7, cl_7, by decide, (gtb_in (List.mem_of_getElem? (i := 307) (by decide +kernel)) (by decide +kernel)), rfl⟩
def mX7_back : MI := (yX7_back, cX7_back, 2, (some ((.object "SheetBranches$Sheet"))))
theorem qc_X7_back : Cond.code mX7_back.1 mX7_back.2.1 mX7_back.2.2.1 mX7_back.2.2.2 ∈ gtb := (gtb_in (List.mem_of_getElem? (i := 1441) (by decide +kernel)) (by decide +kernel))
theorem qi_X7_back : Cond.instanceMethod mX7_back.1 ∈ gtb := (gtb_in (List.mem_of_getElem? (i := 1439) (by decide +kernel)) (by decide +kernel))
theorem qs_X7_back : Cond.selects mX7_back.1.cls mX7_back.1 mX7_back.1 ∈ gtb := (gtb_in (List.mem_of_getElem? (i := 1440) (by decide +kernel)) (by decide +kernel))
theorem qd_X7_back : dsc mX7_back.1 1 := ⟨by decide +kernel, by decide +kernel, by decide +kernel⟩
set_option maxRecDepth 20000 in
theorem vl_X11_226 : VL RX11 226 7 mX7_back 1 := ⟨⟨qc_X7_back, (gtb_in (List.mem_of_getElem? (i := 1438) (by decide +kernel)) (by decide +kernel)), qi_X7_back, qs_X7_back, zw_7⟩, ⟨_, _, rfl⟩, by decide, qd_X7_back, by decide⟩
set_option maxRecDepth 20000 in
theorem vl_X11_230 : VL RX11 230 11 mX11_show 1 := ⟨⟨qc_X11_show, (gtb_in (List.mem_of_getElem? (i := 456) (by decide +kernel)) (by decide +kernel)), qi_X11_show, qs_X11_show, zw_11⟩, ⟨_, _, rfl⟩, by decide, qd_X11_show, by decide⟩
theorem dX11_redo_0 : decode cX11_redo 0 = .ok (.aload_n 0, 1) := by decide +kernel
theorem dX11_redo_1 : decode cX11_redo 1 = .ok (.getfield 53, 3) := by decide +kernel
theorem dX11_redo_4 : decode cX11_redo 4 = .ok (.getfield 233, 3) := by decide +kernel
theorem dX11_redo_7 : decode cX11_redo 7 = .ok (.ifCond .ne 11, 3) := by decide +kernel
theorem dX11_redo_10 : decode cX11_redo 10 = .ok (.new 223, 3) := by decide +kernel
theorem dX11_redo_13 : decode cX11_redo 13 = .ok (.dup, 1) := by decide +kernel
theorem dX11_redo_14 : decode cX11_redo 14 = .ok (.invokespecial 225, 3) := by decide +kernel
theorem dX11_redo_17 : decode cX11_redo 17 = .ok (.athrow, 1) := by decide +kernel
theorem dX11_redo_18 : decode cX11_redo 18 = .ok (.aload_n 0, 1) := by decide +kernel
theorem dX11_redo_19 : decode cX11_redo 19 = .ok (.aload_n 0, 1) := by decide +kernel
theorem dX11_redo_20 : decode cX11_redo 20 = .ok (.getfield 53, 3) := by decide +kernel
theorem dX11_redo_23 : decode cX11_redo 23 = .ok (.aload_n 0, 1) := by decide +kernel
theorem dX11_redo_24 : decode cX11_redo 24 = .ok (.getfield 104, 3) := by decide +kernel
theorem dX11_redo_27 : decode cX11_redo 27 = .ok (.invokevirtual 236, 3) := by decide +kernel
theorem dX11_redo_30 : decode cX11_redo 30 = .ok (.invokevirtual 230, 3) := by decide +kernel
theorem dX11_redo_33 : decode cX11_redo 33 = .ok (.aload_n 0, 1) := by decide +kernel
theorem dX11_redo_34 : decode cX11_redo 34 = .ok (.getfield 53, 3) := by decide +kernel
theorem dX11_redo_37 : decode cX11_redo 37 = .ok (.getfield 233, 3) := by decide +kernel
theorem dX11_redo_40 : decode cX11_redo 40 = .ok (.ireturn, 1) := by decide +kernel
set_option maxRecDepth 20000 in
theorem fl_X11_233 : FL RX11 233 7 3 false := ⟨RX7, TX7, cl_7, by decide, (gtb_in (List.mem_of_getElem? (i := 309) (by decide +kernel)) (by decide +kernel)), rfl⟩
def mX7_again : MI := (yX7_again, cX7_again, 2, (some ((.object "SheetBranches$Sheet"))))
theorem qc_X7_again : Cond.code mX7_again.1 mX7_again.2.1 mX7_again.2.2.1 mX7_again.2.2.2 ∈ gtb := (gtb_in (List.mem_of_getElem? (i := 1452) (by decide +kernel)) (by decide +kernel))
theorem qi_X7_again : Cond.instanceMethod mX7_again.1 ∈ gtb := (gtb_in (List.mem_of_getElem? (i := 1450) (by decide +kernel)) (by decide +kernel))
theorem qs_X7_again : Cond.selects mX7_again.1.cls mX7_again.1 mX7_again.1 ∈ gtb := (gtb_in (List.mem_of_getElem? (i := 1451) (by decide +kernel)) (by decide +kernel))
theorem qd_X7_again : dsc mX7_again.1 1 := ⟨by decide +kernel, by decide +kernel, by decide +kernel⟩
set_option maxRecDepth 20000 in
theorem vl_X11_236 : VL RX11 236 7 mX7_again 1 := ⟨⟨qc_X7_again, (gtb_in (List.mem_of_getElem? (i := 1449) (by decide +kernel)) (by decide +kernel)), qi_X7_again, qs_X7_again, zw_7⟩, ⟨_, _, rfl⟩, by decide, qd_X7_again, by decide⟩
theorem dX11_commit_0 : decode cX11_commit 0 = .ok (.aload_n 0, 1) := by decide +kernel
theorem dX11_commit_1 : decode cX11_commit 1 = .ok (.getfield 46, 3) := by decide +kernel
theorem dX11_commit_4 : decode cX11_commit 4 = .ok (.invokevirtual 239, 3) := by decide +kernel
theorem dX11_commit_7 : decode cX11_commit 7 = .ok (.ifCond .le 11, 3) := by decide +kernel
theorem dX11_commit_10 : decode cX11_commit 10 = .ok (.new 167, 3) := by decide +kernel
theorem dX11_commit_13 : decode cX11_commit 13 = .ok (.dup, 1) := by decide +kernel
theorem dX11_commit_14 : decode cX11_commit 14 = .ok (.invokespecial 169, 3) := by decide +kernel
theorem dX11_commit_17 : decode cX11_commit 17 = .ok (.athrow, 1) := by decide +kernel
theorem dX11_commit_18 : decode cX11_commit 18 = .ok (.aload_n 0, 1) := by decide +kernel
theorem dX11_commit_19 : decode cX11_commit 19 = .ok (.getfield 26, 3) := by decide +kernel
theorem dX11_commit_22 : decode cX11_commit 22 = .ok (.getfield 243, 3) := by decide +kernel
theorem dX11_commit_25 : decode cX11_commit 25 = .ok (.bipush 40, 2) := by decide +kernel
theorem dX11_commit_27 : decode cX11_commit 27 = .ok (.if_icmp .lt 11, 3) := by decide +kernel
theorem dX11_commit_30 : decode cX11_commit 30 = .ok (.new 138, 3) := by decide +kernel
theorem dX11_commit_33 : decode cX11_commit 33 = .ok (.dup, 1) := by decide +kernel
theorem dX11_commit_34 : decode cX11_commit 34 = .ok (.invokespecial 140, 3) := by decide +kernel
theorem dX11_commit_37 : decode cX11_commit 37 = .ok (.athrow, 1) := by decide +kernel
theorem dX11_commit_38 : decode cX11_commit 38 = .ok (.aload_n 0, 1) := by decide +kernel
theorem dX11_commit_39 : decode cX11_commit 39 = .ok (.getfield 70, 3) := by decide +kernel
theorem dX11_commit_42 : decode cX11_commit 42 = .ok (.aload_n 0, 1) := by decide +kernel
theorem dX11_commit_43 : decode cX11_commit 43 = .ok (.getfield 246, 3) := by decide +kernel
theorem dX11_commit_46 : decode cX11_commit 46 = .ok (.aload_n 0, 1) := by decide +kernel
theorem dX11_commit_47 : decode cX11_commit 47 = .ok (.getfield 26, 3) := by decide +kernel
theorem dX11_commit_50 : decode cX11_commit 50 = .ok (.aload_n 0, 1) := by decide +kernel
theorem dX11_commit_51 : decode cX11_commit 51 = .ok (.getfield 104, 3) := by decide +kernel
theorem dX11_commit_54 : decode cX11_commit 54 = .ok (.invokevirtual 100, 3) := by decide +kernel
theorem dX11_commit_57 : decode cX11_commit 57 = .ok (.aload_n 0, 1) := by decide +kernel
theorem dX11_commit_58 : decode cX11_commit 58 = .ok (.invokevirtual 249, 3) := by decide +kernel
theorem dX11_commit_61 : decode cX11_commit 61 = .ok (.aload_n 0, 1) := by decide +kernel
theorem dX11_commit_62 : decode cX11_commit 62 = .ok (.getfield 77, 3) := by decide +kernel
theorem dX11_commit_65 : decode cX11_commit 65 = .ok (.invokevirtual 96, 3) := by decide +kernel
theorem dX11_commit_68 : decode cX11_commit 68 = .ok (.iastore, 1) := by decide +kernel
theorem dX11_commit_69 : decode cX11_commit 69 = .ok (.aload_n 0, 1) := by decide +kernel
theorem dX11_commit_70 : decode cX11_commit 70 = .ok (.iconst (-1), 1) := by decide +kernel
theorem dX11_commit_71 : decode cX11_commit 71 = .ok (.putfield 77, 3) := by decide +kernel
theorem dX11_commit_74 : decode cX11_commit 74 = .ok (.aload_n 0, 1) := by decide +kernel
theorem dX11_commit_75 : decode cX11_commit 75 = .ok (.getfield 46, 3) := by decide +kernel
theorem dX11_commit_78 : decode cX11_commit 78 = .ok (.iconst 0, 1) := by decide +kernel
theorem dX11_commit_79 : decode cX11_commit 79 = .ok (.putfield 252, 3) := by decide +kernel
theorem dX11_commit_82 : decode cX11_commit 82 = .ok (.aload_n 0, 1) := by decide +kernel
theorem dX11_commit_83 : decode cX11_commit 83 = .ok (.invokevirtual 249, 3) := by decide +kernel
theorem dX11_commit_86 : decode cX11_commit 86 = .ok (.ireturn, 1) := by decide +kernel
set_option maxRecDepth 20000 in
theorem vl_X11_239 : VL RX11 239 3 mX3_unsettled 0 := ⟨⟨qc_X3_unsettled, (gtb_in (List.mem_of_getElem? (i := 918) (by decide +kernel)) (by decide +kernel)), qi_X3_unsettled, qs_X3_unsettled, zw_3⟩, ⟨_, _, rfl⟩, by decide, qd_X3_unsettled, by decide⟩
set_option maxRecDepth 20000 in
theorem fl_X11_243 : FL RX11 243 2 4 false := ⟨RX2, TX2, cl_2, by decide, (gtb_in (List.mem_of_getElem? (i := 183) (by decide +kernel)) (by decide +kernel)), rfl⟩
set_option maxRecDepth 20000 in
theorem fl_X11_246 : FL RX11 246 11 12 false := ⟨RX11, TX11, cl_11, by decide, (gtb_in (List.mem_of_getElem? (i := 381) (by decide +kernel)) (by decide +kernel)), rfl⟩
set_option maxRecDepth 20000 in
theorem vl_X11_249 : VL RX11 249 11 mX11_head 0 := ⟨⟨qc_X11_head, (gtb_in (List.mem_of_getElem? (i := 448) (by decide +kernel)) (by decide +kernel)), qi_X11_head, qs_X11_head, zw_11⟩, ⟨_, _, rfl⟩, by decide, qd_X11_head, by decide⟩
set_option maxRecDepth 20000 in
theorem fl_X11_252 : FL RX11 252 3 2 false := ⟨RX3, TX3, cl_3, by decide, (gtb_in (List.mem_of_getElem? (i := 280) (by decide +kernel)) (by decide +kernel)), rfl⟩
theorem dX11_branch_0 : decode cX11_branch 0 = .ok (.iload_n 1, 1) := by decide +kernel
theorem dX11_branch_1 : decode cX11_branch 1 = .ok (.invokestatic 253, 3) := by decide +kernel
theorem dX11_branch_4 : decode cX11_branch 4 = .ok (.ifCond .ne 11, 3) := by decide +kernel
theorem dX11_branch_7 : decode cX11_branch 7 = .ok (.new 117, 3) := by decide +kernel
theorem dX11_branch_10 : decode cX11_branch 10 = .ok (.dup, 1) := by decide +kernel
theorem dX11_branch_11 : decode cX11_branch 11 = .ok (.invokespecial 119, 3) := by decide +kernel
theorem dX11_branch_14 : decode cX11_branch 14 = .ok (.athrow, 1) := by decide +kernel
theorem dX11_branch_15 : decode cX11_branch 15 = .ok (.aload_n 0, 1) := by decide +kernel
theorem dX11_branch_16 : decode cX11_branch 16 = .ok (.getfield 70, 3) := by decide +kernel
theorem dX11_branch_19 : decode cX11_branch 19 = .ok (.iload_n 1, 1) := by decide +kernel
theorem dX11_branch_20 : decode cX11_branch 20 = .ok (.iaload, 1) := by decide +kernel
theorem dX11_branch_21 : decode cX11_branch 21 = .ok (.iconst (-1), 1) := by decide +kernel
theorem dX11_branch_22 : decode cX11_branch 22 = .ok (.if_icmp .eq 11, 3) := by decide +kernel
theorem dX11_branch_25 : decode cX11_branch 25 = .ok (.new 167, 3) := by decide +kernel
theorem dX11_branch_28 : decode cX11_branch 28 = .ok (.dup, 1) := by decide +kernel
theorem dX11_branch_29 : decode cX11_branch 29 = .ok (.invokespecial 169, 3) := by decide +kernel
theorem dX11_branch_32 : decode cX11_branch 32 = .ok (.athrow, 1) := by decide +kernel
theorem dX11_branch_33 : decode cX11_branch 33 = .ok (.aload_n 0, 1) := by decide +kernel
theorem dX11_branch_34 : decode cX11_branch 34 = .ok (.getfield 70, 3) := by decide +kernel
theorem dX11_branch_37 : decode cX11_branch 37 = .ok (.iload_n 1, 1) := by decide +kernel
theorem dX11_branch_38 : decode cX11_branch 38 = .ok (.aload_n 0, 1) := by decide +kernel
theorem dX11_branch_39 : decode cX11_branch 39 = .ok (.invokevirtual 249, 3) := by decide +kernel
theorem dX11_branch_42 : decode cX11_branch 42 = .ok (.iastore, 1) := by decide +kernel
theorem dX11_branch_43 : decode cX11_branch 43 = .ok (.aload_n 0, 1) := by decide +kernel
theorem dX11_branch_44 : decode cX11_branch 44 = .ok (.invokevirtual 249, 3) := by decide +kernel
theorem dX11_branch_47 : decode cX11_branch 47 = .ok (.ireturn, 1) := by decide +kernel
set_option maxRecDepth 20000 in
theorem sl_X11_253 : SL RX11 253 mX11_isBranch 1 := ⟨⟨qc_X11_isBranch, (gtb_in (List.mem_of_getElem? (i := 939) (by decide +kernel)) (by decide +kernel)), qt_X11_isBranch, zw_11⟩, qd_X11_isBranch, by decide⟩
theorem dX11_go_0 : decode cX11_go 0 = .ok (.iload_n 1, 1) := by decide +kernel
theorem dX11_go_1 : decode cX11_go 1 = .ok (.invokestatic 253, 3) := by decide +kernel
theorem dX11_go_4 : decode cX11_go 4 = .ok (.ifCond .ne 11, 3) := by decide +kernel
theorem dX11_go_7 : decode cX11_go 7 = .ok (.new 117, 3) := by decide +kernel
theorem dX11_go_10 : decode cX11_go 10 = .ok (.dup, 1) := by decide +kernel
theorem dX11_go_11 : decode cX11_go 11 = .ok (.invokespecial 119, 3) := by decide +kernel
theorem dX11_go_14 : decode cX11_go 14 = .ok (.athrow, 1) := by decide +kernel
theorem dX11_go_15 : decode cX11_go 15 = .ok (.aload_n 0, 1) := by decide +kernel
theorem dX11_go_16 : decode cX11_go 16 = .ok (.getfield 70, 3) := by decide +kernel
theorem dX11_go_19 : decode cX11_go 19 = .ok (.iload_n 1, 1) := by decide +kernel
theorem dX11_go_20 : decode cX11_go 20 = .ok (.iaload, 1) := by decide +kernel
theorem dX11_go_21 : decode cX11_go 21 = .ok (.iconst (-1), 1) := by decide +kernel
theorem dX11_go_22 : decode cX11_go 22 = .ok (.if_icmp .ne 11, 3) := by decide +kernel
theorem dX11_go_25 : decode cX11_go 25 = .ok (.new 223, 3) := by decide +kernel
theorem dX11_go_28 : decode cX11_go 28 = .ok (.dup, 1) := by decide +kernel
theorem dX11_go_29 : decode cX11_go 29 = .ok (.invokespecial 225, 3) := by decide +kernel
theorem dX11_go_32 : decode cX11_go 32 = .ok (.athrow, 1) := by decide +kernel
theorem dX11_go_33 : decode cX11_go 33 = .ok (.aload_n 0, 1) := by decide +kernel
theorem dX11_go_34 : decode cX11_go 34 = .ok (.invokevirtual 256, 3) := by decide +kernel
theorem dX11_go_37 : decode cX11_go 37 = .ok (.ifCond .ne 10, 3) := by decide +kernel
theorem dX11_go_40 : decode cX11_go 40 = .ok (.aload_n 0, 1) := by decide +kernel
theorem dX11_go_41 : decode cX11_go 41 = .ok (.invokevirtual 260, 3) := by decide +kernel
theorem dX11_go_44 : decode cX11_go 44 = .ok (.ifCond .ne 11, 3) := by decide +kernel
theorem dX11_go_47 : decode cX11_go 47 = .ok (.new 167, 3) := by decide +kernel
theorem dX11_go_50 : decode cX11_go 50 = .ok (.dup, 1) := by decide +kernel
theorem dX11_go_51 : decode cX11_go 51 = .ok (.invokespecial 169, 3) := by decide +kernel
theorem dX11_go_54 : decode cX11_go 54 = .ok (.athrow, 1) := by decide +kernel
theorem dX11_go_55 : decode cX11_go 55 = .ok (.aload_n 0, 1) := by decide +kernel
theorem dX11_go_56 : decode cX11_go 56 = .ok (.iload_n 1, 1) := by decide +kernel
theorem dX11_go_57 : decode cX11_go 57 = .ok (.putfield 246, 3) := by decide +kernel
theorem dX11_go_60 : decode cX11_go 60 = .ok (.aload_n 0, 1) := by decide +kernel
theorem dX11_go_61 : decode cX11_go 61 = .ok (.invokevirtual 263, 3) := by decide +kernel
theorem dX11_go_64 : decode cX11_go 64 = .ok (.ireturn, 1) := by decide +kernel
set_option maxRecDepth 20000 in
theorem vl_X11_256 : VL RX11 256 11 mX11_isBusy 0 := ⟨⟨qc_X11_isBusy, (gtb_in (List.mem_of_getElem? (i := 1474) (by decide +kernel)) (by decide +kernel)), qi_X11_isBusy, qs_X11_isBusy, zw_11⟩, ⟨_, _, rfl⟩, by decide, qd_X11_isBusy, by decide⟩
set_option maxRecDepth 20000 in
theorem vl_X11_260 : VL RX11 260 11 mX11_isLikeHead 0 := ⟨⟨qc_X11_isLikeHead, (gtb_in (List.mem_of_getElem? (i := 922) (by decide +kernel)) (by decide +kernel)), qi_X11_isLikeHead, qs_X11_isLikeHead, zw_11⟩, ⟨_, _, rfl⟩, by decide, qd_X11_isLikeHead, by decide⟩
set_option maxRecDepth 20000 in
theorem vl_X11_263 : VL RX11 263 11 mX11_drop 0 := ⟨⟨qc_X11_drop, (gtb_in (List.mem_of_getElem? (i := 1478) (by decide +kernel)) (by decide +kernel)), qi_X11_drop, qs_X11_drop, zw_11⟩, ⟨_, _, rfl⟩, by decide, qd_X11_drop, by decide⟩
theorem dX11_drop_0 : decode cX11_drop 0 = .ok (.aload_n 0, 1) := by decide +kernel
theorem dX11_drop_1 : decode cX11_drop 1 = .ok (.iconst (-1), 1) := by decide +kernel
theorem dX11_drop_2 : decode cX11_drop 2 = .ok (.putfield 77, 3) := by decide +kernel
theorem dX11_drop_5 : decode cX11_drop 5 = .ok (.aload_n 0, 1) := by decide +kernel
theorem dX11_drop_6 : decode cX11_drop 6 = .ok (.getfield 46, 3) := by decide +kernel
theorem dX11_drop_9 : decode cX11_drop 9 = .ok (.iconst 0, 1) := by decide +kernel
theorem dX11_drop_10 : decode cX11_drop 10 = .ok (.putfield 252, 3) := by decide +kernel
theorem dX11_drop_13 : decode cX11_drop 13 = .ok (.aload_n 0, 1) := by decide +kernel
theorem dX11_drop_14 : decode cX11_drop 14 = .ok (.getfield 53, 3) := by decide +kernel
theorem dX11_drop_17 : decode cX11_drop 17 = .ok (.invokevirtual 266, 3) := by decide +kernel
theorem dX11_drop_20 : decode cX11_drop 20 = .ok (.aload_n 0, 1) := by decide +kernel
theorem dX11_drop_21 : decode cX11_drop 21 = .ok (.getfield 26, 3) := by decide +kernel
theorem dX11_drop_24 : decode cX11_drop 24 = .ok (.aload_n 0, 1) := by decide +kernel
theorem dX11_drop_25 : decode cX11_drop 25 = .ok (.invokevirtual 249, 3) := by decide +kernel
theorem dX11_drop_28 : decode cX11_drop 28 = .ok (.invokevirtual 269, 3) := by decide +kernel
theorem dX11_drop_31 : decode cX11_drop 31 = .ok (.astore_n 1, 1) := by decide +kernel
theorem dX11_drop_32 : decode cX11_drop 32 = .ok (.aload_n 1, 1) := by decide +kernel
theorem dX11_drop_33 : decode cX11_drop 33 = .ok (.ifnull 11, 3) := by decide +kernel
theorem dX11_drop_36 : decode cX11_drop 36 = .ok (.aload_n 0, 1) := by decide +kernel
theorem dX11_drop_37 : decode cX11_drop 37 = .ok (.aload_n 1, 1) := by decide +kernel
theorem dX11_drop_38 : decode cX11_drop 38 = .ok (.invokevirtual 100, 3) := by decide +kernel
theorem dX11_drop_41 : decode cX11_drop 41 = .ok (.invokevirtual 230, 3) := by decide +kernel
theorem dX11_drop_44 : decode cX11_drop 44 = .ok (.aload_n 0, 1) := by decide +kernel
theorem dX11_drop_45 : decode cX11_drop 45 = .ok (.invokevirtual 249, 3) := by decide +kernel
theorem dX11_drop_48 : decode cX11_drop 48 = .ok (.ireturn, 1) := by decide +kernel
set_option maxRecDepth 20000 in
theorem vl_X11_266 : VL RX11 266 7 mX7_forget 0 := ⟨⟨qc_X7_forget, (gtb_in (List.mem_of_getElem? (i := 444) (by decide +kernel)) (by decide +kernel)), qi_X7_forget, qs_X7_forget, zw_7⟩, ⟨_, _, rfl⟩, by decide, qd_X7_forget, by decide⟩
set_option maxRecDepth 20000 in
theorem vl_X11_269 : VL RX11 269 2 mX2_at 1 := ⟨⟨qc_X2_at, (gtb_in (List.mem_of_getElem? (i := 452) (by decide +kernel)) (by decide +kernel)), qi_X2_at, qs_X2_at, zw_2⟩, ⟨_, _, rfl⟩, by decide, qd_X2_at, by decide⟩
theorem dX11_merge_0 : decode cX11_merge 0 = .ok (.iload_n 1, 1) := by decide +kernel
theorem dX11_merge_1 : decode cX11_merge 1 = .ok (.invokestatic 253, 3) := by decide +kernel
theorem dX11_merge_4 : decode cX11_merge 4 = .ok (.ifCond .ne 11, 3) := by decide +kernel
theorem dX11_merge_7 : decode cX11_merge 7 = .ok (.new 117, 3) := by decide +kernel
theorem dX11_merge_10 : decode cX11_merge 10 = .ok (.dup, 1) := by decide +kernel
theorem dX11_merge_11 : decode cX11_merge 11 = .ok (.invokespecial 119, 3) := by decide +kernel
theorem dX11_merge_14 : decode cX11_merge 14 = .ok (.athrow, 1) := by decide +kernel
theorem dX11_merge_15 : decode cX11_merge 15 = .ok (.aload_n 0, 1) := by decide +kernel
theorem dX11_merge_16 : decode cX11_merge 16 = .ok (.getfield 70, 3) := by decide +kernel
theorem dX11_merge_19 : decode cX11_merge 19 = .ok (.iload_n 1, 1) := by decide +kernel
theorem dX11_merge_20 : decode cX11_merge 20 = .ok (.iaload, 1) := by decide +kernel
theorem dX11_merge_21 : decode cX11_merge 21 = .ok (.istore_n 2, 1) := by decide +kernel
theorem dX11_merge_22 : decode cX11_merge 22 = .ok (.iload_n 2, 1) := by decide +kernel
theorem dX11_merge_23 : decode cX11_merge 23 = .ok (.iconst (-1), 1) := by decide +kernel
theorem dX11_merge_24 : decode cX11_merge 24 = .ok (.if_icmp .ne 11, 3) := by decide +kernel
theorem dX11_merge_27 : decode cX11_merge 27 = .ok (.new 223, 3) := by decide +kernel
theorem dX11_merge_30 : decode cX11_merge 30 = .ok (.dup, 1) := by decide +kernel
theorem dX11_merge_31 : decode cX11_merge 31 = .ok (.invokespecial 225, 3) := by decide +kernel
theorem dX11_merge_34 : decode cX11_merge 34 = .ok (.athrow, 1) := by decide +kernel
theorem dX11_merge_35 : decode cX11_merge 35 = .ok (.aload_n 0, 1) := by decide +kernel
theorem dX11_merge_36 : decode cX11_merge 36 = .ok (.getfield 272, 3) := by decide +kernel
theorem dX11_merge_39 : decode cX11_merge 39 = .ok (.sipush 200, 3) := by decide +kernel
theorem dX11_merge_42 : decode cX11_merge 42 = .ok (.if_icmp .lt 11, 3) := by decide +kernel
theorem dX11_merge_45 : decode cX11_merge 45 = .ok (.new 138, 3) := by decide +kernel
theorem dX11_merge_48 : decode cX11_merge 48 = .ok (.dup, 1) := by decide +kernel
theorem dX11_merge_49 : decode cX11_merge 49 = .ok (.invokespecial 140, 3) := by decide +kernel
theorem dX11_merge_52 : decode cX11_merge 52 = .ok (.athrow, 1) := by decide +kernel
theorem dX11_merge_53 : decode cX11_merge 53 = .ok (.aload_n 0, 1) := by decide +kernel
theorem dX11_merge_54 : decode cX11_merge 54 = .ok (.invokevirtual 256, 3) := by decide +kernel
theorem dX11_merge_57 : decode cX11_merge 57 = .ok (.ifCond .eq 11, 3) := by decide +kernel
theorem dX11_merge_60 : decode cX11_merge 60 = .ok (.new 167, 3) := by decide +kernel
theorem dX11_merge_63 : decode cX11_merge 63 = .ok (.dup, 1) := by decide +kernel
theorem dX11_merge_64 : decode cX11_merge 64 = .ok (.invokespecial 169, 3) := by decide +kernel
theorem dX11_merge_67 : decode cX11_merge 67 = .ok (.athrow, 1) := by decide +kernel
theorem dX11_merge_68 : decode cX11_merge 68 = .ok (.aload_n 0, 1) := by decide +kernel
theorem dX11_merge_69 : decode cX11_merge 69 = .ok (.getfield 26, 3) := by decide +kernel
theorem dX11_merge_72 : decode cX11_merge 72 = .ok (.aload_n 0, 1) := by decide +kernel
theorem dX11_merge_73 : decode cX11_merge 73 = .ok (.invokevirtual 249, 3) := by decide +kernel
theorem dX11_merge_76 : decode cX11_merge 76 = .ok (.iload_n 2, 1) := by decide +kernel
theorem dX11_merge_77 : decode cX11_merge 77 = .ok (.invokevirtual 275, 3) := by decide +kernel
theorem dX11_merge_80 : decode cX11_merge 80 = .ok (.istore_n 3, 1) := by decide +kernel
theorem dX11_merge_81 : decode cX11_merge 81 = .ok (.iload_n 3, 1) := by decide +kernel
theorem dX11_merge_82 : decode cX11_merge 82 = .ok (.iload_n 2, 1) := by decide +kernel
theorem dX11_merge_83 : decode cX11_merge 83 = .ok (.if_icmp .ne 5, 3) := by decide +kernel
theorem dX11_merge_86 : decode cX11_merge 86 = .ok (.iconst (-1), 1) := by decide +kernel
theorem dX11_merge_87 : decode cX11_merge 87 = .ok (.ireturn, 1) := by decide +kernel
theorem dX11_merge_88 : decode cX11_merge 88 = .ok (.aload_n 0, 1) := by decide +kernel
theorem dX11_merge_89 : decode cX11_merge 89 = .ok (.getfield 46, 3) := by decide +kernel
theorem dX11_merge_92 : decode cX11_merge 92 = .ok (.aload_n 0, 1) := by decide +kernel
theorem dX11_merge_93 : decode cX11_merge 93 = .ok (.getfield 104, 3) := by decide +kernel
theorem dX11_merge_96 : decode cX11_merge 96 = .ok (.aload_n 0, 1) := by decide +kernel
theorem dX11_merge_97 : decode cX11_merge 97 = .ok (.getfield 26, 3) := by decide +kernel
theorem dX11_merge_100 : decode cX11_merge 100 = .ok (.iload_n 2, 1) := by decide +kernel
theorem dX11_merge_101 : decode cX11_merge 101 = .ok (.invokevirtual 269, 3) := by decide +kernel
theorem dX11_merge_104 : decode cX11_merge 104 = .ok (.aload_n 0, 1) := by decide +kernel
theorem dX11_merge_105 : decode cX11_merge 105 = .ok (.getfield 26, 3) := by decide +kernel
theorem dX11_merge_108 : decode cX11_merge 108 = .ok (.iload_n 3, 1) := by decide +kernel
theorem dX11_merge_109 : decode cX11_merge 109 = .ok (.invokevirtual 269, 3) := by decide +kernel
theorem dX11_merge_112 : decode cX11_merge 112 = .ok (.invokevirtual 278, 3) := by decide +kernel
theorem dX11_merge_115 : decode cX11_merge 115 = .ok (.astore 4, 2) := by decide +kernel
theorem dX11_merge_117 : decode cX11_merge 117 = .ok (.aload 4, 2) := by decide +kernel
theorem dX11_merge_119 : decode cX11_merge 119 = .ok (.ifnonnull 11, 3) := by decide +kernel
theorem dX11_merge_122 : decode cX11_merge 122 = .ok (.new 167, 3) := by decide +kernel
theorem dX11_merge_125 : decode cX11_merge 125 = .ok (.dup, 1) := by decide +kernel
theorem dX11_merge_126 : decode cX11_merge 126 = .ok (.invokespecial 169, 3) := by decide +kernel
theorem dX11_merge_129 : decode cX11_merge 129 = .ok (.athrow, 1) := by decide +kernel
theorem dX11_merge_130 : decode cX11_merge 130 = .ok (.aload_n 0, 1) := by decide +kernel
theorem dX11_merge_131 : decode cX11_merge 131 = .ok (.iload_n 2, 1) := by decide +kernel
theorem dX11_merge_132 : decode cX11_merge 132 = .ok (.putfield 77, 3) := by decide +kernel
theorem dX11_merge_135 : decode cX11_merge 135 = .ok (.aload_n 0, 1) := by decide +kernel
theorem dX11_merge_136 : decode cX11_merge 136 = .ok (.aload 4, 2) := by decide +kernel
theorem dX11_merge_138 : decode cX11_merge 138 = .ok (.invokevirtual 282, 3) := by decide +kernel
theorem dX11_merge_141 : decode cX11_merge 141 = .ok (.aload_n 0, 1) := by decide +kernel
theorem dX11_merge_142 : decode cX11_merge 142 = .ok (.getfield 46, 3) := by decide +kernel
theorem dX11_merge_145 : decode cX11_merge 145 = .ok (.getfield 252, 3) := by decide +kernel
theorem dX11_merge_148 : decode cX11_merge 148 = .ok (.ireturn, 1) := by decide +kernel
set_option maxRecDepth 20000 in
theorem fl_X11_272 : FL RX11 272 11 15 false := ⟨RX11, TX11, cl_11, by decide, (gtb_in (List.mem_of_getElem? (i := 384) (by decide +kernel)) (by decide +kernel)), rfl⟩
set_option maxRecDepth 20000 in
theorem vl_X11_275 : VL RX11 275 2 mX2_commonOf 2 := ⟨⟨qc_X2_commonOf, (gtb_in (List.mem_of_getElem? (i := 476) (by decide +kernel)) (by decide +kernel)), qi_X2_commonOf, qs_X2_commonOf, zw_2⟩, ⟨_, _, rfl⟩, by decide, qd_X2_commonOf, by decide⟩
def mX3_join : MI := (yX3_join, cX3_join, 9, (some ((.object "SheetBranches$Sheet"))))
theorem qc_X3_join : Cond.code mX3_join.1 mX3_join.2.1 mX3_join.2.2.1 mX3_join.2.2.2 ∈ gtb := (gtb_in (List.mem_of_getElem? (i := 1489) (by decide +kernel)) (by decide +kernel))
theorem qi_X3_join : Cond.instanceMethod mX3_join.1 ∈ gtb := (gtb_in (List.mem_of_getElem? (i := 1487) (by decide +kernel)) (by decide +kernel))
theorem qs_X3_join : Cond.selects mX3_join.1.cls mX3_join.1 mX3_join.1 ∈ gtb := (gtb_in (List.mem_of_getElem? (i := 1488) (by decide +kernel)) (by decide +kernel))
theorem qd_X3_join : dsc mX3_join.1 3 := ⟨by decide +kernel, by decide +kernel, by decide +kernel⟩
set_option maxRecDepth 20000 in
theorem vl_X11_278 : VL RX11 278 3 mX3_join 3 := ⟨⟨qc_X3_join, (gtb_in (List.mem_of_getElem? (i := 1486) (by decide +kernel)) (by decide +kernel)), qi_X3_join, qs_X3_join, zw_3⟩, ⟨_, _, rfl⟩, by decide, qd_X3_join, by decide⟩
def mX11_showJoined : MI := (yX11_showJoined, cX11_showJoined, 2, none)
theorem qc_X11_showJoined : Cond.code mX11_showJoined.1 mX11_showJoined.2.1 mX11_showJoined.2.2.1 mX11_showJoined.2.2.2 ∈ gtb := (gtb_in (List.mem_of_getElem? (i := 1576) (by decide +kernel)) (by decide +kernel))
theorem qi_X11_showJoined : Cond.instanceMethod mX11_showJoined.1 ∈ gtb := (gtb_in (List.mem_of_getElem? (i := 1575) (by decide +kernel)) (by decide +kernel))
theorem qs_X11_showJoined : Cond.selects mX11_showJoined.1.cls mX11_showJoined.1 mX11_showJoined.1 ∈ gtb := (gtb_sel (q := (⟨"SheetBranches", "showJoined", "(LSheetBranches$Sheet;)V"⟩, 18)) (List.mem_of_getElem? (i := 91) (by decide +kernel)) (by decide +kernel))
theorem qd_X11_showJoined : dsc mX11_showJoined.1 1 := ⟨by decide +kernel, by decide +kernel, by decide +kernel⟩
set_option maxRecDepth 20000 in
theorem vl_X11_282 : VL RX11 282 11 mX11_showJoined 1 := ⟨⟨qc_X11_showJoined, (gtb_in (List.mem_of_getElem? (i := 1573) (by decide +kernel)) (by decide +kernel)), qi_X11_showJoined, qs_X11_showJoined, zw_11⟩, ⟨_, _, rfl⟩, by decide, qd_X11_showJoined, by decide⟩
theorem dX11_pick_0 : decode cX11_pick 0 = .ok (.iload_n 1, 1) := by decide +kernel
theorem dX11_pick_1 : decode cX11_pick 1 = .ok (.ifCond .le 14, 3) := by decide +kernel
theorem dX11_pick_4 : decode cX11_pick 4 = .ok (.iload_n 1, 1) := by decide +kernel
theorem dX11_pick_5 : decode cX11_pick 5 = .ok (.aload_n 0, 1) := by decide +kernel
theorem dX11_pick_6 : decode cX11_pick 6 = .ok (.getfield 26, 3) := by decide +kernel
theorem dX11_pick_9 : decode cX11_pick 9 = .ok (.getfield 243, 3) := by decide +kernel
theorem dX11_pick_12 : decode cX11_pick 12 = .ok (.if_icmp .lt 11, 3) := by decide +kernel
theorem dX11_pick_15 : decode cX11_pick 15 = .ok (.new 223, 3) := by decide +kernel
theorem dX11_pick_18 : decode cX11_pick 18 = .ok (.dup, 1) := by decide +kernel
theorem dX11_pick_19 : decode cX11_pick 19 = .ok (.invokespecial 225, 3) := by decide +kernel
theorem dX11_pick_22 : decode cX11_pick 22 = .ok (.athrow, 1) := by decide +kernel
theorem dX11_pick_23 : decode cX11_pick 23 = .ok (.aload_n 0, 1) := by decide +kernel
theorem dX11_pick_24 : decode cX11_pick 24 = .ok (.getfield 272, 3) := by decide +kernel
theorem dX11_pick_27 : decode cX11_pick 27 = .ok (.sipush 200, 3) := by decide +kernel
theorem dX11_pick_30 : decode cX11_pick 30 = .ok (.if_icmp .lt 11, 3) := by decide +kernel
theorem dX11_pick_33 : decode cX11_pick 33 = .ok (.new 138, 3) := by decide +kernel
theorem dX11_pick_36 : decode cX11_pick 36 = .ok (.dup, 1) := by decide +kernel
theorem dX11_pick_37 : decode cX11_pick 37 = .ok (.invokespecial 140, 3) := by decide +kernel
theorem dX11_pick_40 : decode cX11_pick 40 = .ok (.athrow, 1) := by decide +kernel
theorem dX11_pick_41 : decode cX11_pick 41 = .ok (.aload_n 0, 1) := by decide +kernel
theorem dX11_pick_42 : decode cX11_pick 42 = .ok (.invokevirtual 256, 3) := by decide +kernel
theorem dX11_pick_45 : decode cX11_pick 45 = .ok (.ifCond .eq 11, 3) := by decide +kernel
theorem dX11_pick_48 : decode cX11_pick 48 = .ok (.new 167, 3) := by decide +kernel
theorem dX11_pick_51 : decode cX11_pick 51 = .ok (.dup, 1) := by decide +kernel
theorem dX11_pick_52 : decode cX11_pick 52 = .ok (.invokespecial 169, 3) := by decide +kernel
theorem dX11_pick_55 : decode cX11_pick 55 = .ok (.athrow, 1) := by decide +kernel
theorem dX11_pick_56 : decode cX11_pick 56 = .ok (.aload_n 0, 1) := by decide +kernel
theorem dX11_pick_57 : decode cX11_pick 57 = .ok (.getfield 46, 3) := by decide +kernel
theorem dX11_pick_60 : decode cX11_pick 60 = .ok (.aload_n 0, 1) := by decide +kernel
theorem dX11_pick_61 : decode cX11_pick 61 = .ok (.getfield 104, 3) := by decide +kernel
theorem dX11_pick_64 : decode cX11_pick 64 = .ok (.aload_n 0, 1) := by decide +kernel
theorem dX11_pick_65 : decode cX11_pick 65 = .ok (.getfield 26, 3) := by decide +kernel
theorem dX11_pick_68 : decode cX11_pick 68 = .ok (.iload_n 1, 1) := by decide +kernel
theorem dX11_pick_69 : decode cX11_pick 69 = .ok (.invokevirtual 269, 3) := by decide +kernel
theorem dX11_pick_72 : decode cX11_pick 72 = .ok (.aload_n 0, 1) := by decide +kernel
theorem dX11_pick_73 : decode cX11_pick 73 = .ok (.getfield 26, 3) := by decide +kernel
theorem dX11_pick_76 : decode cX11_pick 76 = .ok (.aload_n 0, 1) := by decide +kernel
theorem dX11_pick_77 : decode cX11_pick 77 = .ok (.getfield 26, 3) := by decide +kernel
theorem dX11_pick_80 : decode cX11_pick 80 = .ok (.getfield 285, 3) := by decide +kernel
theorem dX11_pick_83 : decode cX11_pick 83 = .ok (.iload_n 1, 1) := by decide +kernel
theorem dX11_pick_84 : decode cX11_pick 84 = .ok (.iaload, 1) := by decide +kernel
theorem dX11_pick_85 : decode cX11_pick 85 = .ok (.invokevirtual 269, 3) := by decide +kernel
theorem dX11_pick_88 : decode cX11_pick 88 = .ok (.invokevirtual 278, 3) := by decide +kernel
theorem dX11_pick_91 : decode cX11_pick 91 = .ok (.astore_n 2, 1) := by decide +kernel
theorem dX11_pick_92 : decode cX11_pick 92 = .ok (.aload_n 2, 1) := by decide +kernel
theorem dX11_pick_93 : decode cX11_pick 93 = .ok (.ifnonnull 11, 3) := by decide +kernel
theorem dX11_pick_96 : decode cX11_pick 96 = .ok (.new 167, 3) := by decide +kernel
theorem dX11_pick_99 : decode cX11_pick 99 = .ok (.dup, 1) := by decide +kernel
theorem dX11_pick_100 : decode cX11_pick 100 = .ok (.invokespecial 169, 3) := by decide +kernel
theorem dX11_pick_103 : decode cX11_pick 103 = .ok (.athrow, 1) := by decide +kernel
theorem dX11_pick_104 : decode cX11_pick 104 = .ok (.aload_n 0, 1) := by decide +kernel
theorem dX11_pick_105 : decode cX11_pick 105 = .ok (.aload_n 2, 1) := by decide +kernel
theorem dX11_pick_106 : decode cX11_pick 106 = .ok (.invokevirtual 282, 3) := by decide +kernel
theorem dX11_pick_109 : decode cX11_pick 109 = .ok (.aload_n 0, 1) := by decide +kernel
theorem dX11_pick_110 : decode cX11_pick 110 = .ok (.getfield 46, 3) := by decide +kernel
theorem dX11_pick_113 : decode cX11_pick 113 = .ok (.getfield 252, 3) := by decide +kernel
theorem dX11_pick_116 : decode cX11_pick 116 = .ok (.ireturn, 1) := by decide +kernel
set_option maxRecDepth 20000 in
theorem fl_X11_285 : FL RX11 285 2 1 true := ⟨RX2, TX2, cl_2, by decide, (gtb_in (List.mem_of_getElem? (i := 178) (by decide +kernel)) (by decide +kernel)), rfl⟩
theorem dX11_conflict_0 : decode cX11_conflict 0 = .ok (.aload_n 0, 1) := by decide +kernel
theorem dX11_conflict_1 : decode cX11_conflict 1 = .ok (.getfield 46, 3) := by decide +kernel
theorem dX11_conflict_4 : decode cX11_conflict 4 = .ok (.iload_n 1, 1) := by decide +kernel
theorem dX11_conflict_5 : decode cX11_conflict 5 = .ok (.invokevirtual 288, 3) := by decide +kernel
theorem dX11_conflict_8 : decode cX11_conflict 8 = .ok (.astore_n 3, 1) := by decide +kernel
theorem dX11_conflict_9 : decode cX11_conflict 9 = .ok (.aload_n 3, 1) := by decide +kernel
theorem dX11_conflict_10 : decode cX11_conflict 10 = .ok (.ifnonnull 5, 3) := by decide +kernel
theorem dX11_conflict_13 : decode cX11_conflict 13 = .ok (.iconst (-1), 1) := by decide +kernel
theorem dX11_conflict_14 : decode cX11_conflict 14 = .ok (.ireturn, 1) := by decide +kernel
theorem dX11_conflict_15 : decode cX11_conflict 15 = .ok (.iload_n 2, 1) := by decide +kernel
theorem dX11_conflict_16 : decode cX11_conflict 16 = .ok (.tableswitch 76 0 3 #[32, 37, 50, 63], 32) := by decide +kernel
theorem dX11_conflict_48 : decode cX11_conflict 48 = .ok (.aload_n 3, 1) := by decide +kernel
theorem dX11_conflict_49 : decode cX11_conflict 49 = .ok (.getfield 291, 3) := by decide +kernel
theorem dX11_conflict_52 : decode cX11_conflict 52 = .ok (.ireturn, 1) := by decide +kernel
theorem dX11_conflict_53 : decode cX11_conflict 53 = .ok (.aload_n 0, 1) := by decide +kernel
theorem dX11_conflict_54 : decode cX11_conflict 54 = .ok (.getfield 104, 3) := by decide +kernel
theorem dX11_conflict_57 : decode cX11_conflict 57 = .ok (.iconst 0, 1) := by decide +kernel
theorem dX11_conflict_58 : decode cX11_conflict 58 = .ok (.aload_n 3, 1) := by decide +kernel
theorem dX11_conflict_59 : decode cX11_conflict 59 = .ok (.getfield 296, 3) := by decide +kernel
theorem dX11_conflict_62 : decode cX11_conflict 62 = .ok (.invokevirtual 299, 3) := by decide +kernel
theorem dX11_conflict_65 : decode cX11_conflict 65 = .ok (.ireturn, 1) := by decide +kernel
theorem dX11_conflict_66 : decode cX11_conflict 66 = .ok (.aload_n 0, 1) := by decide +kernel
theorem dX11_conflict_67 : decode cX11_conflict 67 = .ok (.getfield 104, 3) := by decide +kernel
theorem dX11_conflict_70 : decode cX11_conflict 70 = .ok (.iconst 1, 1) := by decide +kernel
theorem dX11_conflict_71 : decode cX11_conflict 71 = .ok (.aload_n 3, 1) := by decide +kernel
theorem dX11_conflict_72 : decode cX11_conflict 72 = .ok (.getfield 302, 3) := by decide +kernel
theorem dX11_conflict_75 : decode cX11_conflict 75 = .ok (.invokevirtual 299, 3) := by decide +kernel
theorem dX11_conflict_78 : decode cX11_conflict 78 = .ok (.ireturn, 1) := by decide +kernel
theorem dX11_conflict_79 : decode cX11_conflict 79 = .ok (.aload_n 3, 1) := by decide +kernel
theorem dX11_conflict_80 : decode cX11_conflict 80 = .ok (.getfield 305, 3) := by decide +kernel
theorem dX11_conflict_83 : decode cX11_conflict 83 = .ok (.ifCond .eq 7, 3) := by decide +kernel
theorem dX11_conflict_86 : decode cX11_conflict 86 = .ok (.iconst 1, 1) := by decide +kernel
theorem dX11_conflict_87 : decode cX11_conflict 87 = .ok (.goto 4, 3) := by decide +kernel
theorem dX11_conflict_90 : decode cX11_conflict 90 = .ok (.iconst 0, 1) := by decide +kernel
theorem dX11_conflict_91 : decode cX11_conflict 91 = .ok (.ireturn, 1) := by decide +kernel
theorem dX11_conflict_92 : decode cX11_conflict 92 = .ok (.iconst (-1), 1) := by decide +kernel
theorem dX11_conflict_93 : decode cX11_conflict 93 = .ok (.ireturn, 1) := by decide +kernel
set_option maxRecDepth 20000 in
theorem vl_X11_288 : VL RX11 288 3 mX3_at 1 := ⟨⟨qc_X3_at, (gtb_in (List.mem_of_getElem? (i := 464) (by decide +kernel)) (by decide +kernel)), qi_X3_at, qs_X3_at, zw_3⟩, ⟨_, _, rfl⟩, by decide, qd_X3_at, by decide⟩
set_option maxRecDepth 20000 in
theorem fl_X11_291 : FL RX11 291 0 0 true := ⟨RX0, TX0, cl_0, by decide, (gtb_in (List.mem_of_getElem? (i := 1533) (by decide +kernel)) (by decide +kernel)), rfl⟩
set_option maxRecDepth 20000 in
theorem fl_X11_296 : FL RX11 296 0 1 true := ⟨RX0, TX0, cl_0, by decide, (gtb_in (List.mem_of_getElem? (i := 1535) (by decide +kernel)) (by decide +kernel)), rfl⟩
set_option maxRecDepth 20000 in
theorem vl_X11_299 : VL RX11 299 6 mX6_placeOf 2 := ⟨⟨qc_X6_placeOf, (gtb_in (List.mem_of_getElem? (i := 468) (by decide +kernel)) (by decide +kernel)), qi_X6_placeOf, qs_X6_placeOf, zw_6⟩, ⟨_, _, rfl⟩, by decide, qd_X6_placeOf, by decide⟩
set_option maxRecDepth 20000 in
theorem fl_X11_302 : FL RX11 302 0 2 true := ⟨RX0, TX0, cl_0, by decide, (gtb_in (List.mem_of_getElem? (i := 1537) (by decide +kernel)) (by decide +kernel)), rfl⟩
set_option maxRecDepth 20000 in
theorem fl_X11_305 : FL RX11 305 0 6 false := ⟨RX0, TX0, cl_0, by decide, (gtb_in (List.mem_of_getElem? (i := 1545) (by decide +kernel)) (by decide +kernel)), rfl⟩
theorem dX11_choose_0 : decode cX11_choose 0 = .ok (.aload_n 0, 1) := by decide +kernel
theorem dX11_choose_1 : decode cX11_choose 1 = .ok (.getfield 46, 3) := by decide +kernel
theorem dX11_choose_4 : decode cX11_choose 4 = .ok (.iload_n 1, 1) := by decide +kernel
theorem dX11_choose_5 : decode cX11_choose 5 = .ok (.invokevirtual 288, 3) := by decide +kernel
theorem dX11_choose_8 : decode cX11_choose 8 = .ok (.astore_n 3, 1) := by decide +kernel
theorem dX11_choose_9 : decode cX11_choose 9 = .ok (.aload_n 3, 1) := by decide +kernel
theorem dX11_choose_10 : decode cX11_choose 10 = .ok (.ifnonnull 11, 3) := by decide +kernel
theorem dX11_choose_13 : decode cX11_choose 13 = .ok (.new 117, 3) := by decide +kernel
theorem dX11_choose_16 : decode cX11_choose 16 = .ok (.dup, 1) := by decide +kernel
theorem dX11_choose_17 : decode cX11_choose 17 = .ok (.invokespecial 119, 3) := by decide +kernel
theorem dX11_choose_20 : decode cX11_choose 20 = .ok (.athrow, 1) := by decide +kernel
theorem dX11_choose_21 : decode cX11_choose 21 = .ok (.aload_n 3, 1) := by decide +kernel
theorem dX11_choose_22 : decode cX11_choose 22 = .ok (.iconst 1, 1) := by decide +kernel
theorem dX11_choose_23 : decode cX11_choose 23 = .ok (.putfield 305, 3) := by decide +kernel
theorem dX11_choose_26 : decode cX11_choose 26 = .ok (.aload_n 0, 1) := by decide +kernel
theorem dX11_choose_27 : decode cX11_choose 27 = .ok (.aload_n 0, 1) := by decide +kernel
theorem dX11_choose_28 : decode cX11_choose 28 = .ok (.aload_n 3, 1) := by decide +kernel
theorem dX11_choose_29 : decode cX11_choose 29 = .ok (.iload_n 2, 1) := by decide +kernel
theorem dX11_choose_30 : decode cX11_choose 30 = .ok (.invokevirtual 309, 3) := by decide +kernel
theorem dX11_choose_33 : decode cX11_choose 33 = .ok (.invokevirtual 145, 3) := by decide +kernel
theorem dX11_choose_36 : decode cX11_choose 36 = .ok (.aload_n 0, 1) := by decide +kernel
theorem dX11_choose_37 : decode cX11_choose 37 = .ok (.getfield 46, 3) := by decide +kernel
theorem dX11_choose_40 : decode cX11_choose 40 = .ok (.invokevirtual 239, 3) := by decide +kernel
theorem dX11_choose_43 : decode cX11_choose 43 = .ok (.ireturn, 1) := by decide +kernel
def mX11_settled : MI := (yX11_settled, cX11_settled, 9, (some ((.object "SheetBranches$Sheet"))))
theorem qc_X11_settled : Cond.code mX11_settled.1 mX11_settled.2.1 mX11_settled.2.2.1 mX11_settled.2.2.2 ∈ gtb := (gtb_in (List.mem_of_getElem? (i := 1594) (by decide +kernel)) (by decide +kernel))
theorem qi_X11_settled : Cond.instanceMethod mX11_settled.1 ∈ gtb := (gtb_in (List.mem_of_getElem? (i := 1593) (by decide +kernel)) (by decide +kernel))
theorem qs_X11_settled : Cond.selects mX11_settled.1.cls mX11_settled.1 mX11_settled.1 ∈ gtb := (gtb_sel (q := (⟨"SheetBranches", "settled", "(LSheetBranches$Conflict;Z)LSheetBranches$Sheet;"⟩, 18)) (List.mem_of_getElem? (i := 92) (by decide +kernel)) (by decide +kernel))
theorem qd_X11_settled : dsc mX11_settled.1 2 := ⟨by decide +kernel, by decide +kernel, by decide +kernel⟩
set_option maxRecDepth 20000 in
theorem vl_X11_309 : VL RX11 309 11 mX11_settled 2 := ⟨⟨qc_X11_settled, (gtb_in (List.mem_of_getElem? (i := 1591) (by decide +kernel)) (by decide +kernel)), qi_X11_settled, qs_X11_settled, zw_11⟩, ⟨_, _, rfl⟩, by decide, qd_X11_settled, by decide⟩
theorem dX11_base_0 : decode cX11_base 0 = .ok (.aload_n 0, 1) := by decide +kernel
theorem dX11_base_1 : decode cX11_base 1 = .ok (.getfield 26, 3) := by decide +kernel
theorem dX11_base_4 : decode cX11_base 4 = .ok (.iload_n 1, 1) := by decide +kernel
theorem dX11_base_5 : decode cX11_base 5 = .ok (.invokevirtual 269, 3) := by decide +kernel
theorem dX11_base_8 : decode cX11_base 8 = .ok (.ifnull 14, 3) := by decide +kernel
theorem dX11_base_11 : decode cX11_base 11 = .ok (.aload_n 0, 1) := by decide +kernel
theorem dX11_base_12 : decode cX11_base 12 = .ok (.getfield 26, 3) := by decide +kernel
theorem dX11_base_15 : decode cX11_base 15 = .ok (.iload_n 2, 1) := by decide +kernel
theorem dX11_base_16 : decode cX11_base 16 = .ok (.invokevirtual 269, 3) := by decide +kernel
theorem dX11_base_19 : decode cX11_base 19 = .ok (.ifnonnull 7, 3) := by decide +kernel
theorem dX11_base_22 : decode cX11_base 22 = .ok (.iconst (-1), 1) := by decide +kernel
theorem dX11_base_23 : decode cX11_base 23 = .ok (.goto 12, 3) := by decide +kernel
theorem dX11_base_26 : decode cX11_base 26 = .ok (.aload_n 0, 1) := by decide +kernel
theorem dX11_base_27 : decode cX11_base 27 = .ok (.getfield 26, 3) := by decide +kernel
theorem dX11_base_30 : decode cX11_base 30 = .ok (.iload_n 1, 1) := by decide +kernel
theorem dX11_base_31 : decode cX11_base 31 = .ok (.iload_n 2, 1) := by decide +kernel
theorem dX11_base_32 : decode cX11_base 32 = .ok (.invokevirtual 275, 3) := by decide +kernel
theorem dX11_base_35 : decode cX11_base 35 = .ok (.ireturn, 1) := by decide +kernel
theorem dX11_diff_0 : decode cX11_diff 0 = .ok (.aload_n 0, 1) := by decide +kernel
theorem dX11_diff_1 : decode cX11_diff 1 = .ok (.iload_n 1, 1) := by decide +kernel
theorem dX11_diff_2 : decode cX11_diff 2 = .ok (.invokevirtual 312, 3) := by decide +kernel
theorem dX11_diff_5 : decode cX11_diff 5 = .ok (.astore_n 3, 1) := by decide +kernel
theorem dX11_diff_6 : decode cX11_diff 6 = .ok (.aload_n 0, 1) := by decide +kernel
theorem dX11_diff_7 : decode cX11_diff 7 = .ok (.iload_n 2, 1) := by decide +kernel
theorem dX11_diff_8 : decode cX11_diff 8 = .ok (.invokevirtual 312, 3) := by decide +kernel
theorem dX11_diff_11 : decode cX11_diff 11 = .ok (.astore 4, 2) := by decide +kernel
theorem dX11_diff_13 : decode cX11_diff 13 = .ok (.aload_n 3, 1) := by decide +kernel
theorem dX11_diff_14 : decode cX11_diff 14 = .ok (.ifnull 8, 3) := by decide +kernel
theorem dX11_diff_17 : decode cX11_diff 17 = .ok (.aload 4, 2) := by decide +kernel
theorem dX11_diff_19 : decode cX11_diff 19 = .ok (.ifnonnull 11, 3) := by decide +kernel
theorem dX11_diff_22 : decode cX11_diff 22 = .ok (.new 223, 3) := by decide +kernel
theorem dX11_diff_25 : decode cX11_diff 25 = .ok (.dup, 1) := by decide +kernel
theorem dX11_diff_26 : decode cX11_diff 26 = .ok (.invokespecial 225, 3) := by decide +kernel
theorem dX11_diff_29 : decode cX11_diff 29 = .ok (.athrow, 1) := by decide +kernel
theorem dX11_diff_30 : decode cX11_diff 30 = .ok (.aload_n 0, 1) := by decide +kernel
theorem dX11_diff_31 : decode cX11_diff 31 = .ok (.iconst 0, 1) := by decide +kernel
theorem dX11_diff_32 : decode cX11_diff 32 = .ok (.putfield 315, 3) := by decide +kernel
theorem dX11_diff_35 : decode cX11_diff 35 = .ok (.aload_n 0, 1) := by decide +kernel
theorem dX11_diff_36 : decode cX11_diff 36 = .ok (.iconst 1, 1) := by decide +kernel
theorem dX11_diff_37 : decode cX11_diff 37 = .ok (.iconst 0, 1) := by decide +kernel
theorem dX11_diff_38 : decode cX11_diff 38 = .ok (.aload_n 3, 1) := by decide +kernel
theorem dX11_diff_39 : decode cX11_diff 39 = .ok (.aload 4, 2) := by decide +kernel
theorem dX11_diff_41 : decode cX11_diff 41 = .ok (.invokevirtual 318, 3) := by decide +kernel
theorem dX11_diff_44 : decode cX11_diff 44 = .ok (.aload_n 0, 1) := by decide +kernel
theorem dX11_diff_45 : decode cX11_diff 45 = .ok (.iconst 2, 1) := by decide +kernel
theorem dX11_diff_46 : decode cX11_diff 46 = .ok (.iconst 0, 1) := by decide +kernel
theorem dX11_diff_47 : decode cX11_diff 47 = .ok (.aload 4, 2) := by decide +kernel
theorem dX11_diff_49 : decode cX11_diff 49 = .ok (.aload_n 3, 1) := by decide +kernel
theorem dX11_diff_50 : decode cX11_diff 50 = .ok (.invokevirtual 318, 3) := by decide +kernel
theorem dX11_diff_53 : decode cX11_diff 53 = .ok (.aload_n 0, 1) := by decide +kernel
theorem dX11_diff_54 : decode cX11_diff 54 = .ok (.iconst 3, 1) := by decide +kernel
theorem dX11_diff_55 : decode cX11_diff 55 = .ok (.iconst 1, 1) := by decide +kernel
theorem dX11_diff_56 : decode cX11_diff 56 = .ok (.aload_n 3, 1) := by decide +kernel
theorem dX11_diff_57 : decode cX11_diff 57 = .ok (.aload 4, 2) := by decide +kernel
theorem dX11_diff_59 : decode cX11_diff 59 = .ok (.invokevirtual 318, 3) := by decide +kernel
theorem dX11_diff_62 : decode cX11_diff 62 = .ok (.aload_n 0, 1) := by decide +kernel
theorem dX11_diff_63 : decode cX11_diff 63 = .ok (.iconst 4, 1) := by decide +kernel
theorem dX11_diff_64 : decode cX11_diff 64 = .ok (.iconst 1, 1) := by decide +kernel
theorem dX11_diff_65 : decode cX11_diff 65 = .ok (.aload 4, 2) := by decide +kernel
theorem dX11_diff_67 : decode cX11_diff 67 = .ok (.aload_n 3, 1) := by decide +kernel
theorem dX11_diff_68 : decode cX11_diff 68 = .ok (.invokevirtual 318, 3) := by decide +kernel
theorem dX11_diff_71 : decode cX11_diff 71 = .ok (.aload_n 3, 1) := by decide +kernel
theorem dX11_diff_72 : decode cX11_diff 72 = .ok (.getfield 190, 3) := by decide +kernel
theorem dX11_diff_75 : decode cX11_diff 75 = .ok (.aload 4, 2) := by decide +kernel
theorem dX11_diff_77 : decode cX11_diff 77 = .ok (.getfield 190, 3) := by decide +kernel
theorem dX11_diff_80 : decode cX11_diff 80 = .ok (.aload 4, 2) := by decide +kernel
theorem dX11_diff_82 : decode cX11_diff 82 = .ok (.getfield 190, 3) := by decide +kernel
theorem dX11_diff_85 : decode cX11_diff 85 = .ok (.invokestatic 322, 3) := by decide +kernel
theorem dX11_diff_88 : decode cX11_diff 88 = .ok (.ifCond .ne 10, 3) := by decide +kernel
theorem dX11_diff_91 : decode cX11_diff 91 = .ok (.aload_n 0, 1) := by decide +kernel
theorem dX11_diff_92 : decode cX11_diff 92 = .ok (.iconst 5, 1) := by decide +kernel
theorem dX11_diff_93 : decode cX11_diff 93 = .ok (.iconst 0, 1) := by decide +kernel
theorem dX11_diff_94 : decode cX11_diff 94 = .ok (.iconst 0, 1) := by decide +kernel
theorem dX11_diff_95 : decode cX11_diff 95 = .ok (.invokevirtual 326, 3) := by decide +kernel
theorem dX11_diff_98 : decode cX11_diff 98 = .ok (.aload_n 3, 1) := by decide +kernel
theorem dX11_diff_99 : decode cX11_diff 99 = .ok (.getfield 197, 3) := by decide +kernel
theorem dX11_diff_102 : decode cX11_diff 102 = .ok (.aload 4, 2) := by decide +kernel
theorem dX11_diff_104 : decode cX11_diff 104 = .ok (.getfield 197, 3) := by decide +kernel
theorem dX11_diff_107 : decode cX11_diff 107 = .ok (.aload 4, 2) := by decide +kernel
theorem dX11_diff_109 : decode cX11_diff 109 = .ok (.getfield 197, 3) := by decide +kernel
theorem dX11_diff_112 : decode cX11_diff 112 = .ok (.invokestatic 322, 3) := by decide +kernel
theorem dX11_diff_115 : decode cX11_diff 115 = .ok (.ifCond .ne 11, 3) := by decide +kernel
theorem dX11_diff_118 : decode cX11_diff 118 = .ok (.aload_n 0, 1) := by decide +kernel
theorem dX11_diff_119 : decode cX11_diff 119 = .ok (.bipush 6, 2) := by decide +kernel
theorem dX11_diff_121 : decode cX11_diff 121 = .ok (.iconst 0, 1) := by decide +kernel
theorem dX11_diff_122 : decode cX11_diff 122 = .ok (.iconst 0, 1) := by decide +kernel
theorem dX11_diff_123 : decode cX11_diff 123 = .ok (.invokevirtual 326, 3) := by decide +kernel
theorem dX11_diff_126 : decode cX11_diff 126 = .ok (.aload_n 0, 1) := by decide +kernel
theorem dX11_diff_127 : decode cX11_diff 127 = .ok (.aload_n 3, 1) := by decide +kernel
theorem dX11_diff_128 : decode cX11_diff 128 = .ok (.aload 4, 2) := by decide +kernel
theorem dX11_diff_130 : decode cX11_diff 130 = .ok (.invokevirtual 330, 3) := by decide +kernel
theorem dX11_diff_133 : decode cX11_diff 133 = .ok (.aload_n 0, 1) := by decide +kernel
theorem dX11_diff_134 : decode cX11_diff 134 = .ok (.getfield 315, 3) := by decide +kernel
theorem dX11_diff_137 : decode cX11_diff 137 = .ok (.ireturn, 1) := by decide +kernel
set_option maxRecDepth 20000 in
theorem vl_X11_312 : VL RX11 312 11 mX11_sheetOf 1 := ⟨⟨qc_X11_sheetOf, (gtb_in (List.mem_of_getElem? (i := 495) (by decide +kernel)) (by decide +kernel)), qi_X11_sheetOf, qs_X11_sheetOf, zw_11⟩, ⟨_, _, rfl⟩, by decide, qd_X11_sheetOf, by decide⟩
set_option maxRecDepth 20000 in
theorem fl_X11_315 : FL RX11 315 11 10 false := ⟨RX11, TX11, cl_11, by decide, (gtb_in (List.mem_of_getElem? (i := 379) (by decide +kernel)) (by decide +kernel)), rfl⟩
set_option maxRecDepth 20000 in
theorem vl_X11_318 : VL RX11 318 11 mX11_noteOnly 4 := ⟨⟨qc_X11_noteOnly, (gtb_in (List.mem_of_getElem? (i := 1602) (by decide +kernel)) (by decide +kernel)), qi_X11_noteOnly, qs_X11_noteOnly, zw_11⟩, ⟨_, _, rfl⟩, by decide, qd_X11_noteOnly, by decide⟩
set_option maxRecDepth 20000 in
theorem sl_X11_322 : SL RX11 322 mX11_inSameOrder 3 := ⟨⟨qc_X11_inSameOrder, (gtb_in (List.mem_of_getElem? (i := 1610) (by decide +kernel)) (by decide +kernel)), qt_X11_inSameOrder, zw_11⟩, qd_X11_inSameOrder, by decide⟩
def mX11_noteDifference : MI := (yX11_noteDifference, cX11_noteDifference, 4, none)
theorem qc_X11_noteDifference : Cond.code mX11_noteDifference.1 mX11_noteDifference.2.1 mX11_noteDifference.2.2.1 mX11_noteDifference.2.2.2 ∈ gtb := (gtb_in (List.mem_of_getElem? (i := 1609) (by decide +kernel)) (by decide +kernel))
theorem qi_X11_noteDifference : Cond.instanceMethod mX11_noteDifference.1 ∈ gtb := (gtb_in (List.mem_of_getElem? (i := 1608) (by decide +kernel)) (by decide +kernel))
theorem qs_X11_noteDifference : Cond.selects mX11_noteDifference.1.cls mX11_noteDifference.1 mX11_noteDifference.1 ∈ gtb := (gtb_sel (q := (⟨"SheetBranches", "noteDifference", "(III)V"⟩, 18)) (List.mem_of_getElem? (i := 94) (by decide +kernel)) (by decide +kernel))
theorem qd_X11_noteDifference : dsc mX11_noteDifference.1 3 := ⟨by decide +kernel, by decide +kernel, by decide +kernel⟩
set_option maxRecDepth 20000 in
theorem vl_X11_326 : VL RX11 326 11 mX11_noteDifference 3 := ⟨⟨qc_X11_noteDifference, (gtb_in (List.mem_of_getElem? (i := 1606) (by decide +kernel)) (by decide +kernel)), qi_X11_noteDifference, qs_X11_noteDifference, zw_11⟩, ⟨_, _, rfl⟩, by decide, qd_X11_noteDifference, by decide⟩
set_option maxRecDepth 20000 in
theorem vl_X11_330 : VL RX11 330 11 mX11_noteCells 2 := ⟨⟨qc_X11_noteCells, (gtb_in (List.mem_of_getElem? (i := 1611) (by decide +kernel)) (by decide +kernel)), qi_X11_noteCells, qs_X11_noteCells, zw_11⟩, ⟨_, _, rfl⟩, by decide, qd_X11_noteCells, by decide⟩
theorem dX11_difference_0 : decode cX11_difference 0 = .ok (.iload_n 1, 1) := by decide +kernel
theorem dX11_difference_1 : decode cX11_difference 1 = .ok (.ifCond .lt 20, 3) := by decide +kernel
theorem dX11_difference_4 : decode cX11_difference 4 = .ok (.iload_n 1, 1) := by decide +kernel
theorem dX11_difference_5 : decode cX11_difference 5 = .ok (.aload_n 0, 1) := by decide +kernel
theorem dX11_difference_6 : decode cX11_difference 6 = .ok (.getfield 315, 3) := by decide +kernel
theorem dX11_difference_9 : decode cX11_difference 9 = .ok (.if_icmp .ge 12, 3) := by decide +kernel
theorem dX11_difference_12 : decode cX11_difference 12 = .ok (.iload_n 2, 1) := by decide +kernel
theorem dX11_difference_13 : decode cX11_difference 13 = .ok (.ifCond .lt 8, 3) := by decide +kernel
theorem dX11_difference_16 : decode cX11_difference 16 = .ok (.iload_n 2, 1) := by decide +kernel
theorem dX11_difference_17 : decode cX11_difference 17 = .ok (.iconst 2, 1) := by decide +kernel
theorem dX11_difference_18 : decode cX11_difference 18 = .ok (.if_icmp .le 5, 3) := by decide +kernel
theorem dX11_difference_21 : decode cX11_difference 21 = .ok (.iconst (-1), 1) := by decide +kernel
theorem dX11_difference_22 : decode cX11_difference 22 = .ok (.ireturn, 1) := by decide +kernel
theorem dX11_difference_23 : decode cX11_difference 23 = .ok (.aload_n 0, 1) := by decide +kernel
theorem dX11_difference_24 : decode cX11_difference 24 = .ok (.getfield 74, 3) := by decide +kernel
theorem dX11_difference_27 : decode cX11_difference 27 = .ok (.iconst 3, 1) := by decide +kernel
theorem dX11_difference_28 : decode cX11_difference 28 = .ok (.iload_n 1, 1) := by decide +kernel
theorem dX11_difference_29 : decode cX11_difference 29 = .ok (.imul, 1) := by decide +kernel
theorem dX11_difference_30 : decode cX11_difference 30 = .ok (.iload_n 2, 1) := by decide +kernel
theorem dX11_difference_31 : decode cX11_difference 31 = .ok (.iadd, 1) := by decide +kernel
theorem dX11_difference_32 : decode cX11_difference 32 = .ok (.iaload, 1) := by decide +kernel
theorem dX11_difference_33 : decode cX11_difference 33 = .ok (.ireturn, 1) := by decide +kernel
theorem dX11_blame_0 : decode cX11_blame 0 = .ok (.aload_n 0, 1) := by decide +kernel
theorem dX11_blame_1 : decode cX11_blame 1 = .ok (.getfield 104, 3) := by decide +kernel
theorem dX11_blame_4 : decode cX11_blame 4 = .ok (.iload_n 1, 1) := by decide +kernel
theorem dX11_blame_5 : decode cX11_blame 5 = .ok (.iload_n 2, 1) := by decide +kernel
theorem dX11_blame_6 : decode cX11_blame 6 = .ok (.invokevirtual 113, 3) := by decide +kernel
theorem dX11_blame_9 : decode cX11_blame 9 = .ok (.ifCond .ne 11, 3) := by decide +kernel
theorem dX11_blame_12 : decode cX11_blame 12 = .ok (.new 117, 3) := by decide +kernel
theorem dX11_blame_15 : decode cX11_blame 15 = .ok (.dup, 1) := by decide +kernel
theorem dX11_blame_16 : decode cX11_blame 16 = .ok (.invokespecial 119, 3) := by decide +kernel
theorem dX11_blame_19 : decode cX11_blame 19 = .ok (.athrow, 1) := by decide +kernel
theorem dX11_blame_20 : decode cX11_blame 20 = .ok (.aload_n 0, 1) := by decide +kernel
theorem dX11_blame_21 : decode cX11_blame 21 = .ok (.getfield 104, 3) := by decide +kernel
theorem dX11_blame_24 : decode cX11_blame 24 = .ok (.getfield 190, 3) := by decide +kernel
theorem dX11_blame_27 : decode cX11_blame 27 = .ok (.iload_n 1, 1) := by decide +kernel
theorem dX11_blame_28 : decode cX11_blame 28 = .ok (.iconst 1, 1) := by decide +kernel
theorem dX11_blame_29 : decode cX11_blame 29 = .ok (.isub, 1) := by decide +kernel
theorem dX11_blame_30 : decode cX11_blame 30 = .ok (.iaload, 1) := by decide +kernel
theorem dX11_blame_31 : decode cX11_blame 31 = .ok (.istore_n 3, 1) := by decide +kernel
theorem dX11_blame_32 : decode cX11_blame 32 = .ok (.aload_n 0, 1) := by decide +kernel
theorem dX11_blame_33 : decode cX11_blame 33 = .ok (.getfield 104, 3) := by decide +kernel
theorem dX11_blame_36 : decode cX11_blame 36 = .ok (.getfield 197, 3) := by decide +kernel
theorem dX11_blame_39 : decode cX11_blame 39 = .ok (.iload_n 2, 1) := by decide +kernel
theorem dX11_blame_40 : decode cX11_blame 40 = .ok (.iconst 1, 1) := by decide +kernel
theorem dX11_blame_41 : decode cX11_blame 41 = .ok (.isub, 1) := by decide +kernel
theorem dX11_blame_42 : decode cX11_blame 42 = .ok (.iaload, 1) := by decide +kernel
theorem dX11_blame_43 : decode cX11_blame 43 = .ok (.istore 4, 2) := by decide +kernel
theorem dX11_blame_45 : decode cX11_blame 45 = .ok (.aload_n 0, 1) := by decide +kernel
theorem dX11_blame_46 : decode cX11_blame 46 = .ok (.getfield 104, 3) := by decide +kernel
theorem dX11_blame_49 : decode cX11_blame 49 = .ok (.iload_n 1, 1) := by decide +kernel
theorem dX11_blame_50 : decode cX11_blame 50 = .ok (.iload_n 2, 1) := by decide +kernel
theorem dX11_blame_51 : decode cX11_blame 51 = .ok (.invokevirtual 152, 3) := by decide +kernel
theorem dX11_blame_54 : decode cX11_blame 54 = .ok (.astore 5, 2) := by decide +kernel
theorem dX11_blame_56 : decode cX11_blame 56 = .ok (.aload_n 0, 1) := by decide +kernel
theorem dX11_blame_57 : decode cX11_blame 57 = .ok (.getfield 26, 3) := by decide +kernel
theorem dX11_blame_60 : decode cX11_blame 60 = .ok (.aload_n 0, 1) := by decide +kernel
theorem dX11_blame_61 : decode cX11_blame 61 = .ok (.invokevirtual 249, 3) := by decide +kernel
theorem dX11_blame_64 : decode cX11_blame 64 = .ok (.iload_n 3, 1) := by decide +kernel
theorem dX11_blame_65 : decode cX11_blame 65 = .ok (.iload 4, 2) := by decide +kernel
theorem dX11_blame_67 : decode cX11_blame 67 = .ok (.aload 5, 2) := by decide +kernel
theorem dX11_blame_69 : decode cX11_blame 69 = .ok (.invokevirtual 334, 3) := by decide +kernel
theorem dX11_blame_72 : decode cX11_blame 72 = .ok (.ifCond .ne 5, 3) := by decide +kernel
theorem dX11_blame_75 : decode cX11_blame 75 = .ok (.iconst (-1), 1) := by decide +kernel
theorem dX11_blame_76 : decode cX11_blame 76 = .ok (.ireturn, 1) := by decide +kernel
theorem dX11_blame_77 : decode cX11_blame 77 = .ok (.aload_n 0, 1) := by decide +kernel
theorem dX11_blame_78 : decode cX11_blame 78 = .ok (.invokevirtual 249, 3) := by decide +kernel
theorem dX11_blame_81 : decode cX11_blame 81 = .ok (.istore 6, 2) := by decide +kernel
theorem dX11_blame_83 : decode cX11_blame 83 = .ok (.iconst 0, 1) := by decide +kernel
theorem dX11_blame_84 : decode cX11_blame 84 = .ok (.istore 7, 2) := by decide +kernel
theorem dX11_blame_86 : decode cX11_blame 86 = .ok (.iload 7, 2) := by decide +kernel
theorem dX11_blame_88 : decode cX11_blame 88 = .ok (.bipush 40, 2) := by decide +kernel
theorem dX11_blame_90 : decode cX11_blame 90 = .ok (.if_icmp .ge 92, 3) := by decide +kernel
theorem dX11_blame_93 : decode cX11_blame 93 = .ok (.aload_n 0, 1) := by decide +kernel
theorem dX11_blame_94 : decode cX11_blame 94 = .ok (.getfield 26, 3) := by decide +kernel
theorem dX11_blame_97 : decode cX11_blame 97 = .ok (.aload_n 0, 1) := by decide +kernel
theorem dX11_blame_98 : decode cX11_blame 98 = .ok (.getfield 26, 3) := by decide +kernel
theorem dX11_blame_101 : decode cX11_blame 101 = .ok (.getfield 285, 3) := by decide +kernel
theorem dX11_blame_104 : decode cX11_blame 104 = .ok (.iload 6, 2) := by decide +kernel
theorem dX11_blame_106 : decode cX11_blame 106 = .ok (.iaload, 1) := by decide +kernel
theorem dX11_blame_107 : decode cX11_blame 107 = .ok (.iload_n 3, 1) := by decide +kernel
theorem dX11_blame_108 : decode cX11_blame 108 = .ok (.iload 4, 2) := by decide +kernel
theorem dX11_blame_110 : decode cX11_blame 110 = .ok (.aload 5, 2) := by decide +kernel
theorem dX11_blame_112 : decode cX11_blame 112 = .ok (.invokevirtual 334, 3) := by decide +kernel
theorem dX11_blame_115 : decode cX11_blame 115 = .ok (.ifCond .eq 18, 3) := by decide +kernel
theorem dX11_blame_118 : decode cX11_blame 118 = .ok (.aload_n 0, 1) := by decide +kernel
theorem dX11_blame_119 : decode cX11_blame 119 = .ok (.getfield 26, 3) := by decide +kernel
theorem dX11_blame_122 : decode cX11_blame 122 = .ok (.getfield 285, 3) := by decide +kernel
theorem dX11_blame_125 : decode cX11_blame 125 = .ok (.iload 6, 2) := by decide +kernel
theorem dX11_blame_127 : decode cX11_blame 127 = .ok (.iaload, 1) := by decide +kernel
theorem dX11_blame_128 : decode cX11_blame 128 = .ok (.istore 6, 2) := by decide +kernel
theorem dX11_blame_130 : decode cX11_blame 130 = .ok (.goto 46, 3) := by decide +kernel
theorem dX11_blame_133 : decode cX11_blame 133 = .ok (.aload_n 0, 1) := by decide +kernel
theorem dX11_blame_134 : decode cX11_blame 134 = .ok (.getfield 26, 3) := by decide +kernel
theorem dX11_blame_137 : decode cX11_blame 137 = .ok (.aload_n 0, 1) := by decide +kernel
theorem dX11_blame_138 : decode cX11_blame 138 = .ok (.getfield 26, 3) := by decide +kernel
theorem dX11_blame_141 : decode cX11_blame 141 = .ok (.getfield 338, 3) := by decide +kernel
theorem dX11_blame_144 : decode cX11_blame 144 = .ok (.iload 6, 2) := by decide +kernel
theorem dX11_blame_146 : decode cX11_blame 146 = .ok (.iaload, 1) := by decide +kernel
theorem dX11_blame_147 : decode cX11_blame 147 = .ok (.iload_n 3, 1) := by decide +kernel
theorem dX11_blame_148 : decode cX11_blame 148 = .ok (.iload 4, 2) := by decide +kernel
theorem dX11_blame_150 : decode cX11_blame 150 = .ok (.aload 5, 2) := by decide +kernel
theorem dX11_blame_152 : decode cX11_blame 152 = .ok (.invokevirtual 334, 3) := by decide +kernel
theorem dX11_blame_155 : decode cX11_blame 155 = .ok (.ifCond .eq 18, 3) := by decide +kernel
theorem dX11_blame_158 : decode cX11_blame 158 = .ok (.aload_n 0, 1) := by decide +kernel
theorem dX11_blame_159 : decode cX11_blame 159 = .ok (.getfield 26, 3) := by decide +kernel
theorem dX11_blame_162 : decode cX11_blame 162 = .ok (.getfield 338, 3) := by decide +kernel
theorem dX11_blame_165 : decode cX11_blame 165 = .ok (.iload 6, 2) := by decide +kernel
theorem dX11_blame_167 : decode cX11_blame 167 = .ok (.iaload, 1) := by decide +kernel
theorem dX11_blame_168 : decode cX11_blame 168 = .ok (.istore 6, 2) := by decide +kernel
theorem dX11_blame_170 : decode cX11_blame 170 = .ok (.goto 6, 3) := by decide +kernel
theorem dX11_blame_173 : decode cX11_blame 173 = .ok (.iload 6, 2) := by decide +kernel
theorem dX11_blame_175 : decode cX11_blame 175 = .ok (.ireturn, 1) := by decide +kernel
theorem dX11_blame_176 : decode cX11_blame 176 = .ok (.iinc 7 1, 3) := by decide +kernel
theorem dX11_blame_179 : decode cX11_blame 179 = .ok (.goto (-93), 3) := by decide +kernel
theorem dX11_blame_182 : decode cX11_blame 182 = .ok (.iload 6, 2) := by decide +kernel
theorem dX11_blame_184 : decode cX11_blame 184 = .ok (.ireturn, 1) := by decide +kernel
set_option maxRecDepth 20000 in
theorem vl_X11_334 : VL RX11 334 2 mX2_holds 4 := ⟨⟨qc_X2_holds, (gtb_in (List.mem_of_getElem? (i := 1623) (by decide +kernel)) (by decide +kernel)), qi_X2_holds, qs_X2_holds, zw_2⟩, ⟨_, _, rfl⟩, by decide, qd_X2_holds, by decide⟩
set_option maxRecDepth 20000 in
theorem fl_X11_338 : FL RX11 338 2 2 true := ⟨RX2, TX2, cl_2, by decide, (gtb_in (List.mem_of_getElem? (i := 180) (by decide +kernel)) (by decide +kernel)), rfl⟩
theorem dX11_sheet_0 : decode cX11_sheet 0 = .ok (.aload_n 0, 1) := by decide +kernel
theorem dX11_sheet_1 : decode cX11_sheet 1 = .ok (.iload_n 1, 1) := by decide +kernel
theorem dX11_sheet_2 : decode cX11_sheet 2 = .ok (.invokevirtual 312, 3) := by decide +kernel
theorem dX11_sheet_5 : decode cX11_sheet 5 = .ok (.astore_n 3, 1) := by decide +kernel
theorem dX11_sheet_6 : decode cX11_sheet 6 = .ok (.aload_n 3, 1) := by decide +kernel
theorem dX11_sheet_7 : decode cX11_sheet 7 = .ok (.ifnonnull 5, 3) := by decide +kernel
theorem dX11_sheet_10 : decode cX11_sheet 10 = .ok (.iconst (-1), 1) := by decide +kernel
theorem dX11_sheet_11 : decode cX11_sheet 11 = .ok (.ireturn, 1) := by decide +kernel
theorem dX11_sheet_12 : decode cX11_sheet 12 = .ok (.iload_n 2, 1) := by decide +kernel
theorem dX11_sheet_13 : decode cX11_sheet 13 = .ok (.tableswitch 87 0 3 #[31, 37, 43, 65], 31) := by decide +kernel
theorem dX11_sheet_44 : decode cX11_sheet 44 = .ok (.aload_n 3, 1) := by decide +kernel
theorem dX11_sheet_45 : decode cX11_sheet 45 = .ok (.getfield 190, 3) := by decide +kernel
theorem dX11_sheet_48 : decode cX11_sheet 48 = .ok (.arraylength, 1) := by decide +kernel
theorem dX11_sheet_49 : decode cX11_sheet 49 = .ok (.ireturn, 1) := by decide +kernel
theorem dX11_sheet_50 : decode cX11_sheet 50 = .ok (.aload_n 3, 1) := by decide +kernel
theorem dX11_sheet_51 : decode cX11_sheet 51 = .ok (.getfield 197, 3) := by decide +kernel
theorem dX11_sheet_54 : decode cX11_sheet 54 = .ok (.arraylength, 1) := by decide +kernel
theorem dX11_sheet_55 : decode cX11_sheet 55 = .ok (.ireturn, 1) := by decide +kernel
theorem dX11_sheet_56 : decode cX11_sheet 56 = .ok (.iload_n 1, 1) := by decide +kernel
theorem dX11_sheet_57 : decode cX11_sheet 57 = .ok (.iconst (-1), 1) := by decide +kernel
theorem dX11_sheet_58 : decode cX11_sheet 58 = .ok (.if_icmp .ne 10, 3) := by decide +kernel
theorem dX11_sheet_61 : decode cX11_sheet 61 = .ok (.aload_n 0, 1) := by decide +kernel
theorem dX11_sheet_62 : decode cX11_sheet 62 = .ok (.invokevirtual 249, 3) := by decide +kernel
theorem dX11_sheet_65 : decode cX11_sheet 65 = .ok (.goto 12, 3) := by decide +kernel
theorem dX11_sheet_68 : decode cX11_sheet 68 = .ok (.aload_n 0, 1) := by decide +kernel
theorem dX11_sheet_69 : decode cX11_sheet 69 = .ok (.getfield 26, 3) := by decide +kernel
theorem dX11_sheet_72 : decode cX11_sheet 72 = .ok (.getfield 285, 3) := by decide +kernel
theorem dX11_sheet_75 : decode cX11_sheet 75 = .ok (.iload_n 1, 1) := by decide +kernel
theorem dX11_sheet_76 : decode cX11_sheet 76 = .ok (.iaload, 1) := by decide +kernel
theorem dX11_sheet_77 : decode cX11_sheet 77 = .ok (.ireturn, 1) := by decide +kernel
theorem dX11_sheet_78 : decode cX11_sheet 78 = .ok (.iload_n 1, 1) := by decide +kernel
theorem dX11_sheet_79 : decode cX11_sheet 79 = .ok (.iconst (-1), 1) := by decide +kernel
theorem dX11_sheet_80 : decode cX11_sheet 80 = .ok (.if_icmp .ne 10, 3) := by decide +kernel
theorem dX11_sheet_83 : decode cX11_sheet 83 = .ok (.aload_n 0, 1) := by decide +kernel
theorem dX11_sheet_84 : decode cX11_sheet 84 = .ok (.getfield 77, 3) := by decide +kernel
theorem dX11_sheet_87 : decode cX11_sheet 87 = .ok (.goto 12, 3) := by decide +kernel
theorem dX11_sheet_90 : decode cX11_sheet 90 = .ok (.aload_n 0, 1) := by decide +kernel
theorem dX11_sheet_91 : decode cX11_sheet 91 = .ok (.getfield 26, 3) := by decide +kernel
theorem dX11_sheet_94 : decode cX11_sheet 94 = .ok (.getfield 338, 3) := by decide +kernel
theorem dX11_sheet_97 : decode cX11_sheet 97 = .ok (.iload_n 1, 1) := by decide +kernel
theorem dX11_sheet_98 : decode cX11_sheet 98 = .ok (.iaload, 1) := by decide +kernel
theorem dX11_sheet_99 : decode cX11_sheet 99 = .ok (.ireturn, 1) := by decide +kernel
theorem dX11_sheet_100 : decode cX11_sheet 100 = .ok (.iconst (-1), 1) := by decide +kernel
theorem dX11_sheet_101 : decode cX11_sheet 101 = .ok (.ireturn, 1) := by decide +kernel
theorem dX11_kind_0 : decode cX11_kind 0 = .ok (.aload_n 0, 1) := by decide +kernel
theorem dX11_kind_1 : decode cX11_kind 1 = .ok (.iload_n 1, 1) := by decide +kernel
theorem dX11_kind_2 : decode cX11_kind 2 = .ok (.iload_n 2, 1) := by decide +kernel
theorem dX11_kind_3 : decode cX11_kind 3 = .ok (.iload_n 3, 1) := by decide +kernel
theorem dX11_kind_4 : decode cX11_kind 4 = .ok (.invokevirtual 341, 3) := by decide +kernel
theorem dX11_kind_7 : decode cX11_kind 7 = .ok (.ifCond .ne 5, 3) := by decide +kernel
theorem dX11_kind_10 : decode cX11_kind 10 = .ok (.iconst (-1), 1) := by decide +kernel
theorem dX11_kind_11 : decode cX11_kind 11 = .ok (.ireturn, 1) := by decide +kernel
theorem dX11_kind_12 : decode cX11_kind 12 = .ok (.aload_n 0, 1) := by decide +kernel
theorem dX11_kind_13 : decode cX11_kind 13 = .ok (.iload_n 1, 1) := by decide +kernel
theorem dX11_kind_14 : decode cX11_kind 14 = .ok (.invokevirtual 208, 3) := by decide +kernel
theorem dX11_kind_17 : decode cX11_kind 17 = .ok (.aload_n 0, 1) := by decide +kernel
theorem dX11_kind_18 : decode cX11_kind 18 = .ok (.iload_n 1, 1) := by decide +kernel
theorem dX11_kind_19 : decode cX11_kind 19 = .ok (.iload_n 2, 1) := by decide +kernel
theorem dX11_kind_20 : decode cX11_kind 20 = .ok (.iload_n 3, 1) := by decide +kernel
theorem dX11_kind_21 : decode cX11_kind 21 = .ok (.invokevirtual 345, 3) := by decide +kernel
theorem dX11_kind_24 : decode cX11_kind 24 = .ok (.getfield 349, 3) := by decide +kernel
theorem dX11_kind_27 : decode cX11_kind 27 = .ok (.ireturn, 1) := by decide +kernel
set_option maxRecDepth 20000 in
theorem vl_X11_341 : VL RX11 341 11 mX11_isCell 3 := ⟨⟨qc_X11_isCell, (gtb_in (List.mem_of_getElem? (i := 503) (by decide +kernel)) (by decide +kernel)), qi_X11_isCell, qs_X11_isCell, zw_11⟩, ⟨_, _, rfl⟩, by decide, qd_X11_isCell, by decide⟩
set_option maxRecDepth 20000 in
theorem vl_X11_345 : VL RX11 345 11 mX11_seen 3 := ⟨⟨qc_X11_seen, (gtb_in (List.mem_of_getElem? (i := 799) (by decide +kernel)) (by decide +kernel)), qi_X11_seen, qs_X11_seen, zw_11⟩, ⟨_, _, rfl⟩, by decide, qd_X11_seen, by decide⟩
set_option maxRecDepth 20000 in
theorem fl_X11_349 : FL RX11 349 8 1 false := ⟨RX8, TX8, cl_8, by decide, (gtb_in (List.mem_of_getElem? (i := 127) (by decide +kernel)) (by decide +kernel)), rfl⟩
theorem dX11_value_0 : decode cX11_value 0 = .ok (.aload_n 0, 1) := by decide +kernel
theorem dX11_value_1 : decode cX11_value 1 = .ok (.iload_n 1, 1) := by decide +kernel
theorem dX11_value_2 : decode cX11_value 2 = .ok (.iload_n 2, 1) := by decide +kernel
theorem dX11_value_3 : decode cX11_value 3 = .ok (.iload_n 3, 1) := by decide +kernel
theorem dX11_value_4 : decode cX11_value 4 = .ok (.invokevirtual 341, 3) := by decide +kernel
theorem dX11_value_7 : decode cX11_value 7 = .ok (.ifCond .ne 5, 3) := by decide +kernel
theorem dX11_value_10 : decode cX11_value 10 = .ok (.lconst 0, 1) := by decide +kernel
theorem dX11_value_11 : decode cX11_value 11 = .ok (.lreturn, 1) := by decide +kernel
theorem dX11_value_12 : decode cX11_value 12 = .ok (.aload_n 0, 1) := by decide +kernel
theorem dX11_value_13 : decode cX11_value 13 = .ok (.iload_n 1, 1) := by decide +kernel
theorem dX11_value_14 : decode cX11_value 14 = .ok (.invokevirtual 208, 3) := by decide +kernel
theorem dX11_value_17 : decode cX11_value 17 = .ok (.aload_n 0, 1) := by decide +kernel
theorem dX11_value_18 : decode cX11_value 18 = .ok (.iload_n 1, 1) := by decide +kernel
theorem dX11_value_19 : decode cX11_value 19 = .ok (.iload_n 2, 1) := by decide +kernel
theorem dX11_value_20 : decode cX11_value 20 = .ok (.iload_n 3, 1) := by decide +kernel
theorem dX11_value_21 : decode cX11_value 21 = .ok (.invokevirtual 345, 3) := by decide +kernel
theorem dX11_value_24 : decode cX11_value 24 = .ok (.getfield 350, 3) := by decide +kernel
theorem dX11_value_27 : decode cX11_value 27 = .ok (.lreturn, 1) := by decide +kernel
set_option maxRecDepth 20000 in
theorem fl_X11_350 : FL RX11 350 8 2 false := ⟨RX8, TX8, cl_8, by decide, (gtb_in (List.mem_of_getElem? (i := 132) (by decide +kernel)) (by decide +kernel)), rfl⟩
theorem dX11_letter_0 : decode cX11_letter 0 = .ok (.aload_n 0, 1) := by decide +kernel
theorem dX11_letter_1 : decode cX11_letter 1 = .ok (.iload_n 1, 1) := by decide +kernel
theorem dX11_letter_2 : decode cX11_letter 2 = .ok (.iload_n 2, 1) := by decide +kernel
theorem dX11_letter_3 : decode cX11_letter 3 = .ok (.iload_n 3, 1) := by decide +kernel
theorem dX11_letter_4 : decode cX11_letter 4 = .ok (.invokevirtual 341, 3) := by decide +kernel
theorem dX11_letter_7 : decode cX11_letter 7 = .ok (.ifCond .ne 5, 3) := by decide +kernel
theorem dX11_letter_10 : decode cX11_letter 10 = .ok (.iconst (-1), 1) := by decide +kernel
theorem dX11_letter_11 : decode cX11_letter 11 = .ok (.ireturn, 1) := by decide +kernel
theorem dX11_letter_12 : decode cX11_letter 12 = .ok (.aload_n 0, 1) := by decide +kernel
theorem dX11_letter_13 : decode cX11_letter 13 = .ok (.iload_n 1, 1) := by decide +kernel
theorem dX11_letter_14 : decode cX11_letter 14 = .ok (.invokevirtual 208, 3) := by decide +kernel
theorem dX11_letter_17 : decode cX11_letter 17 = .ok (.aload_n 0, 1) := by decide +kernel
theorem dX11_letter_18 : decode cX11_letter 18 = .ok (.iload_n 1, 1) := by decide +kernel
theorem dX11_letter_19 : decode cX11_letter 19 = .ok (.iload_n 2, 1) := by decide +kernel
theorem dX11_letter_20 : decode cX11_letter 20 = .ok (.iload_n 3, 1) := by decide +kernel
theorem dX11_letter_21 : decode cX11_letter 21 = .ok (.invokevirtual 345, 3) := by decide +kernel
theorem dX11_letter_24 : decode cX11_letter 24 = .ok (.astore 5, 2) := by decide +kernel
theorem dX11_letter_26 : decode cX11_letter 26 = .ok (.aload 5, 2) := by decide +kernel
theorem dX11_letter_28 : decode cX11_letter 28 = .ok (.getfield 349, 3) := by decide +kernel
theorem dX11_letter_31 : decode cX11_letter 31 = .ok (.iconst 2, 1) := by decide +kernel
theorem dX11_letter_32 : decode cX11_letter 32 = .ok (.if_icmp .ne 42, 3) := by decide +kernel
theorem dX11_letter_35 : decode cX11_letter 35 = .ok (.iload 4, 2) := by decide +kernel
theorem dX11_letter_37 : decode cX11_letter 37 = .ok (.ifCond .lt 37, 3) := by decide +kernel
theorem dX11_letter_40 : decode cX11_letter 40 = .ok (.iload 4, 2) := by decide +kernel
theorem dX11_letter_42 : decode cX11_letter 42 = .ok (.i2l, 1) := by decide +kernel
theorem dX11_letter_43 : decode cX11_letter 43 = .ok (.aload 5, 2) := by decide +kernel
theorem dX11_letter_45 : decode cX11_letter 45 = .ok (.getfield 350, 3) := by decide +kernel
theorem dX11_letter_48 : decode cX11_letter 48 = .ok (.lcmp, 1) := by decide +kernel
theorem dX11_letter_49 : decode cX11_letter 49 = .ok (.ifCond .ge 25, 3) := by decide +kernel
theorem dX11_letter_52 : decode cX11_letter 52 = .ok (.iload 4, 2) := by decide +kernel
theorem dX11_letter_54 : decode cX11_letter 54 = .ok (.aload 5, 2) := by decide +kernel
theorem dX11_letter_56 : decode cX11_letter 56 = .ok (.getfield 354, 3) := by decide +kernel
theorem dX11_letter_59 : decode cX11_letter 59 = .ok (.arraylength, 1) := by decide +kernel
theorem dX11_letter_60 : decode cX11_letter 60 = .ok (.if_icmp .ge 14, 3) := by decide +kernel
theorem dX11_letter_63 : decode cX11_letter 63 = .ok (.aload 5, 2) := by decide +kernel
theorem dX11_letter_65 : decode cX11_letter 65 = .ok (.getfield 354, 3) := by decide +kernel
theorem dX11_letter_68 : decode cX11_letter 68 = .ok (.iload 4, 2) := by decide +kernel
theorem dX11_letter_70 : decode cX11_letter 70 = .ok (.baload, 1) := by decide +kernel
theorem dX11_letter_71 : decode cX11_letter 71 = .ok (.goto 4, 3) := by decide +kernel
theorem dX11_letter_74 : decode cX11_letter 74 = .ok (.iconst (-1), 1) := by decide +kernel
theorem dX11_letter_75 : decode cX11_letter 75 = .ok (.ireturn, 1) := by decide +kernel
set_option maxRecDepth 20000 in
theorem fl_X11_354 : FL RX11 354 8 0 true := ⟨RX8, TX8, cl_8, by decide, (gtb_in (List.mem_of_getElem? (i := 121) (by decide +kernel)) (by decide +kernel)), rfl⟩
theorem dX11_written_0 : decode cX11_written 0 = .ok (.aload_n 0, 1) := by decide +kernel
theorem dX11_written_1 : decode cX11_written 1 = .ok (.iload_n 1, 1) := by decide +kernel
theorem dX11_written_2 : decode cX11_written 2 = .ok (.iload_n 2, 1) := by decide +kernel
theorem dX11_written_3 : decode cX11_written 3 = .ok (.iload_n 3, 1) := by decide +kernel
theorem dX11_written_4 : decode cX11_written 4 = .ok (.invokevirtual 341, 3) := by decide +kernel
theorem dX11_written_7 : decode cX11_written 7 = .ok (.ifCond .ne 5, 3) := by decide +kernel
theorem dX11_written_10 : decode cX11_written 10 = .ok (.iconst (-1), 1) := by decide +kernel
theorem dX11_written_11 : decode cX11_written 11 = .ok (.ireturn, 1) := by decide +kernel
theorem dX11_written_12 : decode cX11_written 12 = .ok (.aload_n 0, 1) := by decide +kernel
theorem dX11_written_13 : decode cX11_written 13 = .ok (.iload_n 1, 1) := by decide +kernel
theorem dX11_written_14 : decode cX11_written 14 = .ok (.invokevirtual 312, 3) := by decide +kernel
theorem dX11_written_17 : decode cX11_written 17 = .ok (.astore 5, 2) := by decide +kernel
theorem dX11_written_19 : decode cX11_written 19 = .ok (.aload 5, 2) := by decide +kernel
theorem dX11_written_21 : decode cX11_written 21 = .ok (.ifnonnull 5, 3) := by decide +kernel
theorem dX11_written_24 : decode cX11_written 24 = .ok (.iconst (-1), 1) := by decide +kernel
theorem dX11_written_25 : decode cX11_written 25 = .ok (.ireturn, 1) := by decide +kernel
theorem dX11_written_26 : decode cX11_written 26 = .ok (.aload_n 0, 1) := by decide +kernel
theorem dX11_written_27 : decode cX11_written 27 = .ok (.getfield 19, 3) := by decide +kernel
theorem dX11_written_30 : decode cX11_written 30 = .ok (.aload 5, 2) := by decide +kernel
theorem dX11_written_32 : decode cX11_written 32 = .ok (.iload_n 2, 1) := by decide +kernel
theorem dX11_written_33 : decode cX11_written 33 = .ok (.iload_n 3, 1) := by decide +kernel
theorem dX11_written_34 : decode cX11_written 34 = .ok (.invokevirtual 152, 3) := by decide +kernel
theorem dX11_written_37 : decode cX11_written 37 = .ok (.aload 5, 2) := by decide +kernel
theorem dX11_written_39 : decode cX11_written 39 = .ok (.aload_n 0, 1) := by decide +kernel
theorem dX11_written_40 : decode cX11_written 40 = .ok (.getfield 26, 3) := by decide +kernel
theorem dX11_written_43 : decode cX11_written 43 = .ok (.invokevirtual 358, 3) := by decide +kernel
theorem dX11_written_46 : decode cX11_written 46 = .ok (.aload_n 0, 1) := by decide +kernel
theorem dX11_written_47 : decode cX11_written 47 = .ok (.getfield 19, 3) := by decide +kernel
theorem dX11_written_50 : decode cX11_written 50 = .ok (.iload 4, 2) := by decide +kernel
theorem dX11_written_52 : decode cX11_written 52 = .ok (.invokevirtual 362, 3) := by decide +kernel
theorem dX11_written_55 : decode cX11_written 55 = .ok (.ireturn, 1) := by decide +kernel
set_option maxRecDepth 20000 in
theorem vl_X11_358 : VL RX11 358 10 mX10_write 3 := ⟨⟨qc_X10_write, (gtb_in (List.mem_of_getElem? (i := 821) (by decide +kernel)) (by decide +kernel)), qi_X10_write, qs_X10_write, zw_10⟩, ⟨_, _, rfl⟩, by decide, qd_X10_write, by decide⟩
set_option maxRecDepth 20000 in
theorem vl_X11_362 : VL RX11 362 10 mX10_letterAt 1 := ⟨⟨qc_X10_letterAt, (gtb_in (List.mem_of_getElem? (i := 910) (by decide +kernel)) (by decide +kernel)), qi_X10_letterAt, qs_X10_letterAt, zw_10⟩, ⟨_, _, rfl⟩, by decide, qd_X10_letterAt, by decide⟩
theorem dX11_total_0 : decode cX11_total 0 = .ok (.iload_n 1, 1) := by decide +kernel
theorem dX11_total_1 : decode cX11_total 1 = .ok (.tableswitch 128 0 9 #[55, 63, 68, 73, 81, 89, 97, 102, 110, 115], 55) := by decide +kernel
theorem dX11_total_56 : decode cX11_total 56 = .ok (.aload_n 0, 1) := by decide +kernel
theorem dX11_total_57 : decode cX11_total 57 = .ok (.getfield 26, 3) := by decide +kernel
theorem dX11_total_60 : decode cX11_total 60 = .ok (.getfield 243, 3) := by decide +kernel
theorem dX11_total_63 : decode cX11_total 63 = .ok (.ireturn, 1) := by decide +kernel
theorem dX11_total_64 : decode cX11_total 64 = .ok (.aload_n 0, 1) := by decide +kernel
theorem dX11_total_65 : decode cX11_total 65 = .ok (.getfield 246, 3) := by decide +kernel
theorem dX11_total_68 : decode cX11_total 68 = .ok (.ireturn, 1) := by decide +kernel
theorem dX11_total_69 : decode cX11_total 69 = .ok (.aload_n 0, 1) := by decide +kernel
theorem dX11_total_70 : decode cX11_total 70 = .ok (.invokevirtual 249, 3) := by decide +kernel
theorem dX11_total_73 : decode cX11_total 73 = .ok (.ireturn, 1) := by decide +kernel
theorem dX11_total_74 : decode cX11_total 74 = .ok (.aload_n 0, 1) := by decide +kernel
theorem dX11_total_75 : decode cX11_total 75 = .ok (.getfield 46, 3) := by decide +kernel
theorem dX11_total_78 : decode cX11_total 78 = .ok (.invokevirtual 239, 3) := by decide +kernel
theorem dX11_total_81 : decode cX11_total 81 = .ok (.ireturn, 1) := by decide +kernel
theorem dX11_total_82 : decode cX11_total 82 = .ok (.aload_n 0, 1) := by decide +kernel
theorem dX11_total_83 : decode cX11_total 83 = .ok (.getfield 53, 3) := by decide +kernel
theorem dX11_total_86 : decode cX11_total 86 = .ok (.getfield 220, 3) := by decide +kernel
theorem dX11_total_89 : decode cX11_total 89 = .ok (.ireturn, 1) := by decide +kernel
theorem dX11_total_90 : decode cX11_total 90 = .ok (.aload_n 0, 1) := by decide +kernel
theorem dX11_total_91 : decode cX11_total 91 = .ok (.getfield 53, 3) := by decide +kernel
theorem dX11_total_94 : decode cX11_total 94 = .ok (.getfield 233, 3) := by decide +kernel
theorem dX11_total_97 : decode cX11_total 97 = .ok (.ireturn, 1) := by decide +kernel
theorem dX11_total_98 : decode cX11_total 98 = .ok (.aload_n 0, 1) := by decide +kernel
theorem dX11_total_99 : decode cX11_total 99 = .ok (.getfield 135, 3) := by decide +kernel
theorem dX11_total_102 : decode cX11_total 102 = .ok (.ireturn, 1) := by decide +kernel
theorem dX11_total_103 : decode cX11_total 103 = .ok (.aload_n 0, 1) := by decide +kernel
theorem dX11_total_104 : decode cX11_total 104 = .ok (.getfield 10, 3) := by decide +kernel
theorem dX11_total_107 : decode cX11_total 107 = .ok (.getfield 108, 3) := by decide +kernel
theorem dX11_total_110 : decode cX11_total 110 = .ok (.ireturn, 1) := by decide +kernel
theorem dX11_total_111 : decode cX11_total 111 = .ok (.aload_n 0, 1) := by decide +kernel
theorem dX11_total_112 : decode cX11_total 112 = .ok (.getfield 272, 3) := by decide +kernel
theorem dX11_total_115 : decode cX11_total 115 = .ok (.ireturn, 1) := by decide +kernel
theorem dX11_total_116 : decode cX11_total 116 = .ok (.aload_n 0, 1) := by decide +kernel
theorem dX11_total_117 : decode cX11_total 117 = .ok (.invokevirtual 260, 3) := by decide +kernel
theorem dX11_total_120 : decode cX11_total 120 = .ok (.ifCond .eq 7, 3) := by decide +kernel
theorem dX11_total_123 : decode cX11_total 123 = .ok (.iconst 1, 1) := by decide +kernel
theorem dX11_total_124 : decode cX11_total 124 = .ok (.goto 4, 3) := by decide +kernel
theorem dX11_total_127 : decode cX11_total 127 = .ok (.iconst 0, 1) := by decide +kernel
theorem dX11_total_128 : decode cX11_total 128 = .ok (.ireturn, 1) := by decide +kernel
theorem dX11_total_129 : decode cX11_total 129 = .ok (.iload_n 1, 1) := by decide +kernel
theorem dX11_total_130 : decode cX11_total 130 = .ok (.bipush 10, 2) := by decide +kernel
theorem dX11_total_132 : decode cX11_total 132 = .ok (.isub, 1) := by decide +kernel
theorem dX11_total_133 : decode cX11_total 133 = .ok (.invokestatic 253, 3) := by decide +kernel
theorem dX11_total_136 : decode cX11_total 136 = .ok (.ifCond .eq 15, 3) := by decide +kernel
theorem dX11_total_139 : decode cX11_total 139 = .ok (.aload_n 0, 1) := by decide +kernel
theorem dX11_total_140 : decode cX11_total 140 = .ok (.getfield 70, 3) := by decide +kernel
theorem dX11_total_143 : decode cX11_total 143 = .ok (.iload_n 1, 1) := by decide +kernel
theorem dX11_total_144 : decode cX11_total 144 = .ok (.bipush 10, 2) := by decide +kernel
theorem dX11_total_146 : decode cX11_total 146 = .ok (.isub, 1) := by decide +kernel
theorem dX11_total_147 : decode cX11_total 147 = .ok (.iaload, 1) := by decide +kernel
theorem dX11_total_148 : decode cX11_total 148 = .ok (.goto 4, 3) := by decide +kernel
theorem dX11_total_151 : decode cX11_total 151 = .ok (.iconst (-1), 1) := by decide +kernel
theorem dX11_total_152 : decode cX11_total 152 = .ok (.ireturn, 1) := by decide +kernel
theorem dX11_countedUp_0 : decode cX11_countedUp 0 = .ok (.iload_n 0, 1) := by decide +kernel
theorem dX11_countedUp_1 : decode cX11_countedUp 1 = .ok (.iconst 0, 1) := by decide +kernel
theorem dX11_countedUp_2 : decode cX11_countedUp 2 = .ok (.invokestatic 365, 3) := by decide +kernel
theorem dX11_countedUp_5 : decode cX11_countedUp 5 = .ok (.newarray .int, 2) := by decide +kernel
theorem dX11_countedUp_7 : decode cX11_countedUp 7 = .ok (.astore_n 1, 1) := by decide +kernel
theorem dX11_countedUp_8 : decode cX11_countedUp 8 = .ok (.iconst 0, 1) := by decide +kernel
theorem dX11_countedUp_9 : decode cX11_countedUp 9 = .ok (.istore_n 2, 1) := by decide +kernel
theorem dX11_countedUp_10 : decode cX11_countedUp 10 = .ok (.iload_n 2, 1) := by decide +kernel
theorem dX11_countedUp_11 : decode cX11_countedUp 11 = .ok (.aload_n 1, 1) := by decide +kernel
theorem dX11_countedUp_12 : decode cX11_countedUp 12 = .ok (.arraylength, 1) := by decide +kernel
theorem dX11_countedUp_13 : decode cX11_countedUp 13 = .ok (.if_icmp .ge 15, 3) := by decide +kernel
theorem dX11_countedUp_16 : decode cX11_countedUp 16 = .ok (.aload_n 1, 1) := by decide +kernel
theorem dX11_countedUp_17 : decode cX11_countedUp 17 = .ok (.iload_n 2, 1) := by decide +kernel
theorem dX11_countedUp_18 : decode cX11_countedUp 18 = .ok (.iload_n 2, 1) := by decide +kernel
theorem dX11_countedUp_19 : decode cX11_countedUp 19 = .ok (.iconst 1, 1) := by decide +kernel
theorem dX11_countedUp_20 : decode cX11_countedUp 20 = .ok (.iadd, 1) := by decide +kernel
theorem dX11_countedUp_21 : decode cX11_countedUp 21 = .ok (.iastore, 1) := by decide +kernel
theorem dX11_countedUp_22 : decode cX11_countedUp 22 = .ok (.iinc 2 1, 3) := by decide +kernel
theorem dX11_countedUp_25 : decode cX11_countedUp 25 = .ok (.goto (-15), 3) := by decide +kernel
theorem dX11_countedUp_28 : decode cX11_countedUp 28 = .ok (.aload_n 1, 1) := by decide +kernel
theorem dX11_countedUp_29 : decode cX11_countedUp 29 = .ok (.areturn, 1) := by decide +kernel
set_option maxRecDepth 20000 in
theorem sl_X11_365 : SL RX11 365 mJ9_max_7cf53 2 := ⟨⟨qc_J9_max_7cf53, (gtb_in (List.mem_of_getElem? (i := 326) (by decide +kernel)) (by decide +kernel)), qt_J9_max_7cf53, (gtb_in (List.mem_of_getElem? (i := 5) (by decide +kernel)) (by decide +kernel))⟩, qd_J9_max_7cf53, by decide⟩
theorem dX11_isAxis_0 : decode cX11_isAxis 0 = .ok (.iload_n 0, 1) := by decide +kernel
theorem dX11_isAxis_1 : decode cX11_isAxis 1 = .ok (.ifCond .eq 8, 3) := by decide +kernel
theorem dX11_isAxis_4 : decode cX11_isAxis 4 = .ok (.iload_n 0, 1) := by decide +kernel
theorem dX11_isAxis_5 : decode cX11_isAxis 5 = .ok (.iconst 1, 1) := by decide +kernel
theorem dX11_isAxis_6 : decode cX11_isAxis 6 = .ok (.if_icmp .ne 7, 3) := by decide +kernel
theorem dX11_isAxis_9 : decode cX11_isAxis 9 = .ok (.iconst 1, 1) := by decide +kernel
theorem dX11_isAxis_10 : decode cX11_isAxis 10 = .ok (.goto 4, 3) := by decide +kernel
theorem dX11_isAxis_13 : decode cX11_isAxis 13 = .ok (.iconst 0, 1) := by decide +kernel
theorem dX11_isAxis_14 : decode cX11_isAxis 14 = .ok (.ireturn, 1) := by decide +kernel
theorem dX11_mostOf_0 : decode cX11_mostOf 0 = .ok (.iload_n 0, 1) := by decide +kernel
theorem dX11_mostOf_1 : decode cX11_mostOf 1 = .ok (.ifCond .ne 8, 3) := by decide +kernel
theorem dX11_mostOf_4 : decode cX11_mostOf 4 = .ok (.bipush 32, 2) := by decide +kernel
theorem dX11_mostOf_6 : decode cX11_mostOf 6 = .ok (.goto 5, 3) := by decide +kernel
theorem dX11_mostOf_9 : decode cX11_mostOf 9 = .ok (.bipush 10, 2) := by decide +kernel
theorem dX11_mostOf_11 : decode cX11_mostOf 11 = .ok (.ireturn, 1) := by decide +kernel
theorem dX11_with_0 : decode cX11_with 0 = .ok (.aload_n 0, 1) := by decide +kernel
theorem dX11_with_1 : decode cX11_with 1 = .ok (.arraylength, 1) := by decide +kernel
theorem dX11_with_2 : decode cX11_with 2 = .ok (.iconst 1, 1) := by decide +kernel
theorem dX11_with_3 : decode cX11_with 3 = .ok (.iadd, 1) := by decide +kernel
theorem dX11_with_4 : decode cX11_with 4 = .ok (.newarray .int, 2) := by decide +kernel
theorem dX11_with_6 : decode cX11_with 6 = .ok (.astore_n 3, 1) := by decide +kernel
theorem dX11_with_7 : decode cX11_with 7 = .ok (.iconst 0, 1) := by decide +kernel
theorem dX11_with_8 : decode cX11_with 8 = .ok (.istore 4, 2) := by decide +kernel
theorem dX11_with_10 : decode cX11_with 10 = .ok (.iload 4, 2) := by decide +kernel
theorem dX11_with_12 : decode cX11_with 12 = .ok (.aload_n 3, 1) := by decide +kernel
theorem dX11_with_13 : decode cX11_with 13 = .ok (.arraylength, 1) := by decide +kernel
theorem dX11_with_14 : decode cX11_with 14 = .ok (.if_icmp .ge 53, 3) := by decide +kernel
theorem dX11_with_17 : decode cX11_with 17 = .ok (.iload 4, 2) := by decide +kernel
theorem dX11_with_19 : decode cX11_with 19 = .ok (.iload_n 1, 1) := by decide +kernel
theorem dX11_with_20 : decode cX11_with 20 = .ok (.iconst 1, 1) := by decide +kernel
theorem dX11_with_21 : decode cX11_with 21 = .ok (.isub, 1) := by decide +kernel
theorem dX11_with_22 : decode cX11_with 22 = .ok (.if_icmp .ge 8, 3) := by decide +kernel
theorem dX11_with_25 : decode cX11_with 25 = .ok (.iload 4, 2) := by decide +kernel
theorem dX11_with_27 : decode cX11_with 27 = .ok (.goto 7, 3) := by decide +kernel
theorem dX11_with_30 : decode cX11_with 30 = .ok (.iload 4, 2) := by decide +kernel
theorem dX11_with_32 : decode cX11_with 32 = .ok (.iconst 1, 1) := by decide +kernel
theorem dX11_with_33 : decode cX11_with 33 = .ok (.isub, 1) := by decide +kernel
theorem dX11_with_34 : decode cX11_with 34 = .ok (.istore 5, 2) := by decide +kernel
theorem dX11_with_36 : decode cX11_with 36 = .ok (.aload_n 3, 1) := by decide +kernel
theorem dX11_with_37 : decode cX11_with 37 = .ok (.iload 4, 2) := by decide +kernel
theorem dX11_with_39 : decode cX11_with 39 = .ok (.iload 4, 2) := by decide +kernel
theorem dX11_with_41 : decode cX11_with 41 = .ok (.iload_n 1, 1) := by decide +kernel
theorem dX11_with_42 : decode cX11_with 42 = .ok (.iconst 1, 1) := by decide +kernel
theorem dX11_with_43 : decode cX11_with 43 = .ok (.isub, 1) := by decide +kernel
theorem dX11_with_44 : decode cX11_with 44 = .ok (.if_icmp .eq 8, 3) := by decide +kernel
theorem dX11_with_47 : decode cX11_with 47 = .ok (.iload 5, 2) := by decide +kernel
theorem dX11_with_49 : decode cX11_with 49 = .ok (.ifCond .ge 7, 3) := by decide +kernel
theorem dX11_with_52 : decode cX11_with 52 = .ok (.iload_n 2, 1) := by decide +kernel
theorem dX11_with_53 : decode cX11_with 53 = .ok (.goto 7, 3) := by decide +kernel
theorem dX11_with_56 : decode cX11_with 56 = .ok (.aload_n 0, 1) := by decide +kernel
theorem dX11_with_57 : decode cX11_with 57 = .ok (.iload 5, 2) := by decide +kernel
theorem dX11_with_59 : decode cX11_with 59 = .ok (.iaload, 1) := by decide +kernel
theorem dX11_with_60 : decode cX11_with 60 = .ok (.iastore, 1) := by decide +kernel
theorem dX11_with_61 : decode cX11_with 61 = .ok (.iinc 4 1, 3) := by decide +kernel
theorem dX11_with_64 : decode cX11_with 64 = .ok (.goto (-54), 3) := by decide +kernel
theorem dX11_with_67 : decode cX11_with 67 = .ok (.aload_n 3, 1) := by decide +kernel
theorem dX11_with_68 : decode cX11_with 68 = .ok (.areturn, 1) := by decide +kernel
theorem dX11_without_0 : decode cX11_without 0 = .ok (.aload_n 0, 1) := by decide +kernel
theorem dX11_without_1 : decode cX11_without 1 = .ok (.arraylength, 1) := by decide +kernel
theorem dX11_without_2 : decode cX11_without 2 = .ok (.iconst 1, 1) := by decide +kernel
theorem dX11_without_3 : decode cX11_without 3 = .ok (.isub, 1) := by decide +kernel
theorem dX11_without_4 : decode cX11_without 4 = .ok (.iconst 0, 1) := by decide +kernel
theorem dX11_without_5 : decode cX11_without 5 = .ok (.invokestatic 365, 3) := by decide +kernel
theorem dX11_without_8 : decode cX11_without 8 = .ok (.newarray .int, 2) := by decide +kernel
theorem dX11_without_10 : decode cX11_without 10 = .ok (.astore_n 2, 1) := by decide +kernel
theorem dX11_without_11 : decode cX11_without 11 = .ok (.iconst 0, 1) := by decide +kernel
theorem dX11_without_12 : decode cX11_without 12 = .ok (.istore_n 3, 1) := by decide +kernel
theorem dX11_without_13 : decode cX11_without 13 = .ok (.iload_n 3, 1) := by decide +kernel
theorem dX11_without_14 : decode cX11_without 14 = .ok (.aload_n 2, 1) := by decide +kernel
theorem dX11_without_15 : decode cX11_without 15 = .ok (.arraylength, 1) := by decide +kernel
theorem dX11_without_16 : decode cX11_without 16 = .ok (.if_icmp .ge 28, 3) := by decide +kernel
theorem dX11_without_19 : decode cX11_without 19 = .ok (.aload_n 2, 1) := by decide +kernel
theorem dX11_without_20 : decode cX11_without 20 = .ok (.iload_n 3, 1) := by decide +kernel
theorem dX11_without_21 : decode cX11_without 21 = .ok (.aload_n 0, 1) := by decide +kernel
theorem dX11_without_22 : decode cX11_without 22 = .ok (.iload_n 3, 1) := by decide +kernel
theorem dX11_without_23 : decode cX11_without 23 = .ok (.iload_n 1, 1) := by decide +kernel
theorem dX11_without_24 : decode cX11_without 24 = .ok (.iconst 1, 1) := by decide +kernel
theorem dX11_without_25 : decode cX11_without 25 = .ok (.isub, 1) := by decide +kernel
theorem dX11_without_26 : decode cX11_without 26 = .ok (.if_icmp .ge 7, 3) := by decide +kernel
theorem dX11_without_29 : decode cX11_without 29 = .ok (.iload_n 3, 1) := by decide +kernel
theorem dX11_without_30 : decode cX11_without 30 = .ok (.goto 6, 3) := by decide +kernel
theorem dX11_without_33 : decode cX11_without 33 = .ok (.iload_n 3, 1) := by decide +kernel
theorem dX11_without_34 : decode cX11_without 34 = .ok (.iconst 1, 1) := by decide +kernel
theorem dX11_without_35 : decode cX11_without 35 = .ok (.iadd, 1) := by decide +kernel
theorem dX11_without_36 : decode cX11_without 36 = .ok (.iaload, 1) := by decide +kernel
theorem dX11_without_37 : decode cX11_without 37 = .ok (.iastore, 1) := by decide +kernel
theorem dX11_without_38 : decode cX11_without 38 = .ok (.iinc 3 1, 3) := by decide +kernel
theorem dX11_without_41 : decode cX11_without 41 = .ok (.goto (-28), 3) := by decide +kernel
theorem dX11_without_44 : decode cX11_without 44 = .ok (.aload_n 2, 1) := by decide +kernel
theorem dX11_without_45 : decode cX11_without 45 = .ok (.areturn, 1) := by decide +kernel
theorem dX11_placeIn_0 : decode cX11_placeIn 0 = .ok (.iconst 0, 1) := by decide +kernel
theorem dX11_placeIn_1 : decode cX11_placeIn 1 = .ok (.istore_n 3, 1) := by decide +kernel
theorem dX11_placeIn_2 : decode cX11_placeIn 2 = .ok (.iload_n 3, 1) := by decide +kernel
theorem dX11_placeIn_3 : decode cX11_placeIn 3 = .ok (.iload_n 1, 1) := by decide +kernel
theorem dX11_placeIn_4 : decode cX11_placeIn 4 = .ok (.if_icmp .ge 26, 3) := by decide +kernel
theorem dX11_placeIn_7 : decode cX11_placeIn 7 = .ok (.iload_n 3, 1) := by decide +kernel
theorem dX11_placeIn_8 : decode cX11_placeIn 8 = .ok (.aload_n 0, 1) := by decide +kernel
theorem dX11_placeIn_9 : decode cX11_placeIn 9 = .ok (.arraylength, 1) := by decide +kernel
theorem dX11_placeIn_10 : decode cX11_placeIn 10 = .ok (.if_icmp .ge 20, 3) := by decide +kernel
theorem dX11_placeIn_13 : decode cX11_placeIn 13 = .ok (.aload_n 0, 1) := by decide +kernel
theorem dX11_placeIn_14 : decode cX11_placeIn 14 = .ok (.iload_n 3, 1) := by decide +kernel
theorem dX11_placeIn_15 : decode cX11_placeIn 15 = .ok (.iaload, 1) := by decide +kernel
theorem dX11_placeIn_16 : decode cX11_placeIn 16 = .ok (.iload_n 2, 1) := by decide +kernel
theorem dX11_placeIn_17 : decode cX11_placeIn 17 = .ok (.if_icmp .ne 7, 3) := by decide +kernel
theorem dX11_placeIn_20 : decode cX11_placeIn 20 = .ok (.iload_n 3, 1) := by decide +kernel
theorem dX11_placeIn_21 : decode cX11_placeIn 21 = .ok (.iconst 1, 1) := by decide +kernel
theorem dX11_placeIn_22 : decode cX11_placeIn 22 = .ok (.iadd, 1) := by decide +kernel
theorem dX11_placeIn_23 : decode cX11_placeIn 23 = .ok (.ireturn, 1) := by decide +kernel
theorem dX11_placeIn_24 : decode cX11_placeIn 24 = .ok (.iinc 3 1, 3) := by decide +kernel
theorem dX11_placeIn_27 : decode cX11_placeIn 27 = .ok (.goto (-25), 3) := by decide +kernel
theorem dX11_placeIn_30 : decode cX11_placeIn 30 = .ok (.iconst 0, 1) := by decide +kernel
theorem dX11_placeIn_31 : decode cX11_placeIn 31 = .ok (.ireturn, 1) := by decide +kernel
theorem dX11_inSameOrder_0 : decode cX11_inSameOrder 0 = .ok (.iconst 0, 1) := by decide +kernel
theorem dX11_inSameOrder_1 : decode cX11_inSameOrder 1 = .ok (.istore_n 3, 1) := by decide +kernel
theorem dX11_inSameOrder_2 : decode cX11_inSameOrder 2 = .ok (.iconst 0, 1) := by decide +kernel
theorem dX11_inSameOrder_3 : decode cX11_inSameOrder 3 = .ok (.istore 4, 2) := by decide +kernel
theorem dX11_inSameOrder_5 : decode cX11_inSameOrder 5 = .ok (.iload 4, 2) := by decide +kernel
theorem dX11_inSameOrder_7 : decode cX11_inSameOrder 7 = .ok (.aload_n 0, 1) := by decide +kernel
theorem dX11_inSameOrder_8 : decode cX11_inSameOrder 8 = .ok (.arraylength, 1) := by decide +kernel
theorem dX11_inSameOrder_9 : decode cX11_inSameOrder 9 = .ok (.if_icmp .ge 95, 3) := by decide +kernel
theorem dX11_inSameOrder_12 : decode cX11_inSameOrder 12 = .ok (.aload_n 0, 1) := by decide +kernel
theorem dX11_inSameOrder_13 : decode cX11_inSameOrder 13 = .ok (.iload 4, 2) := by decide +kernel
theorem dX11_inSameOrder_15 : decode cX11_inSameOrder 15 = .ok (.iaload, 1) := by decide +kernel
theorem dX11_inSameOrder_16 : decode cX11_inSameOrder 16 = .ok (.istore 5, 2) := by decide +kernel
theorem dX11_inSameOrder_18 : decode cX11_inSameOrder 18 = .ok (.aload_n 1, 1) := by decide +kernel
theorem dX11_inSameOrder_19 : decode cX11_inSameOrder 19 = .ok (.aload_n 1, 1) := by decide +kernel
theorem dX11_inSameOrder_20 : decode cX11_inSameOrder 20 = .ok (.arraylength, 1) := by decide +kernel
theorem dX11_inSameOrder_21 : decode cX11_inSameOrder 21 = .ok (.iload 5, 2) := by decide +kernel
theorem dX11_inSameOrder_23 : decode cX11_inSameOrder 23 = .ok (.invokestatic 368, 3) := by decide +kernel
theorem dX11_inSameOrder_26 : decode cX11_inSameOrder 26 = .ok (.ifCond .eq 72, 3) := by decide +kernel
theorem dX11_inSameOrder_29 : decode cX11_inSameOrder 29 = .ok (.aload_n 2, 1) := by decide +kernel
theorem dX11_inSameOrder_30 : decode cX11_inSameOrder 30 = .ok (.aload_n 2, 1) := by decide +kernel
theorem dX11_inSameOrder_31 : decode cX11_inSameOrder 31 = .ok (.arraylength, 1) := by decide +kernel
theorem dX11_inSameOrder_32 : decode cX11_inSameOrder 32 = .ok (.iload 5, 2) := by decide +kernel
theorem dX11_inSameOrder_34 : decode cX11_inSameOrder 34 = .ok (.invokestatic 368, 3) := by decide +kernel
theorem dX11_inSameOrder_37 : decode cX11_inSameOrder 37 = .ok (.ifCond .ne 6, 3) := by decide +kernel
theorem dX11_inSameOrder_40 : decode cX11_inSameOrder 40 = .ok (.goto 58, 3) := by decide +kernel
theorem dX11_inSameOrder_43 : decode cX11_inSameOrder 43 = .ok (.iload_n 3, 1) := by decide +kernel
theorem dX11_inSameOrder_44 : decode cX11_inSameOrder 44 = .ok (.aload_n 1, 1) := by decide +kernel
theorem dX11_inSameOrder_45 : decode cX11_inSameOrder 45 = .ok (.arraylength, 1) := by decide +kernel
theorem dX11_inSameOrder_46 : decode cX11_inSameOrder 46 = .ok (.if_icmp .ge 33, 3) := by decide +kernel
theorem dX11_inSameOrder_49 : decode cX11_inSameOrder 49 = .ok (.aload_n 0, 1) := by decide +kernel
theorem dX11_inSameOrder_50 : decode cX11_inSameOrder 50 = .ok (.aload_n 0, 1) := by decide +kernel
theorem dX11_inSameOrder_51 : decode cX11_inSameOrder 51 = .ok (.arraylength, 1) := by decide +kernel
theorem dX11_inSameOrder_52 : decode cX11_inSameOrder 52 = .ok (.aload_n 1, 1) := by decide +kernel
theorem dX11_inSameOrder_53 : decode cX11_inSameOrder 53 = .ok (.iload_n 3, 1) := by decide +kernel
theorem dX11_inSameOrder_54 : decode cX11_inSameOrder 54 = .ok (.iaload, 1) := by decide +kernel
theorem dX11_inSameOrder_55 : decode cX11_inSameOrder 55 = .ok (.invokestatic 368, 3) := by decide +kernel
theorem dX11_inSameOrder_58 : decode cX11_inSameOrder 58 = .ok (.ifCond .eq 15, 3) := by decide +kernel
theorem dX11_inSameOrder_61 : decode cX11_inSameOrder 61 = .ok (.aload_n 2, 1) := by decide +kernel
theorem dX11_inSameOrder_62 : decode cX11_inSameOrder 62 = .ok (.aload_n 2, 1) := by decide +kernel
theorem dX11_inSameOrder_63 : decode cX11_inSameOrder 63 = .ok (.arraylength, 1) := by decide +kernel
theorem dX11_inSameOrder_64 : decode cX11_inSameOrder 64 = .ok (.aload_n 1, 1) := by decide +kernel
theorem dX11_inSameOrder_65 : decode cX11_inSameOrder 65 = .ok (.iload_n 3, 1) := by decide +kernel
theorem dX11_inSameOrder_66 : decode cX11_inSameOrder 66 = .ok (.iaload, 1) := by decide +kernel
theorem dX11_inSameOrder_67 : decode cX11_inSameOrder 67 = .ok (.invokestatic 368, 3) := by decide +kernel
theorem dX11_inSameOrder_70 : decode cX11_inSameOrder 70 = .ok (.ifCond .ne 9, 3) := by decide +kernel
theorem dX11_inSameOrder_73 : decode cX11_inSameOrder 73 = .ok (.iinc 3 1, 3) := by decide +kernel
theorem dX11_inSameOrder_76 : decode cX11_inSameOrder 76 = .ok (.goto (-33), 3) := by decide +kernel
theorem dX11_inSameOrder_79 : decode cX11_inSameOrder 79 = .ok (.iload_n 3, 1) := by decide +kernel
theorem dX11_inSameOrder_80 : decode cX11_inSameOrder 80 = .ok (.aload_n 1, 1) := by decide +kernel
theorem dX11_inSameOrder_81 : decode cX11_inSameOrder 81 = .ok (.arraylength, 1) := by decide +kernel
theorem dX11_inSameOrder_82 : decode cX11_inSameOrder 82 = .ok (.if_icmp .ge 11, 3) := by decide +kernel
theorem dX11_inSameOrder_85 : decode cX11_inSameOrder 85 = .ok (.aload_n 1, 1) := by decide +kernel
theorem dX11_inSameOrder_86 : decode cX11_inSameOrder 86 = .ok (.iload_n 3, 1) := by decide +kernel
theorem dX11_inSameOrder_87 : decode cX11_inSameOrder 87 = .ok (.iaload, 1) := by decide +kernel
theorem dX11_inSameOrder_88 : decode cX11_inSameOrder 88 = .ok (.iload 5, 2) := by decide +kernel
theorem dX11_inSameOrder_90 : decode cX11_inSameOrder 90 = .ok (.if_icmp .eq 5, 3) := by decide +kernel
theorem dX11_inSameOrder_93 : decode cX11_inSameOrder 93 = .ok (.iconst 0, 1) := by decide +kernel
theorem dX11_inSameOrder_94 : decode cX11_inSameOrder 94 = .ok (.ireturn, 1) := by decide +kernel
theorem dX11_inSameOrder_95 : decode cX11_inSameOrder 95 = .ok (.iinc 3 1, 3) := by decide +kernel
theorem dX11_inSameOrder_98 : decode cX11_inSameOrder 98 = .ok (.iinc 4 1, 3) := by decide +kernel
theorem dX11_inSameOrder_101 : decode cX11_inSameOrder 101 = .ok (.goto (-96), 3) := by decide +kernel
theorem dX11_inSameOrder_104 : decode cX11_inSameOrder 104 = .ok (.iconst 1, 1) := by decide +kernel
theorem dX11_inSameOrder_105 : decode cX11_inSameOrder 105 = .ok (.ireturn, 1) := by decide +kernel
set_option maxRecDepth 20000 in
theorem sl_X11_368 : SL RX11 368 mX11_placeIn 3 := ⟨⟨qc_X11_placeIn, (gtb_in (List.mem_of_getElem? (i := 1498) (by decide +kernel)) (by decide +kernel)), qt_X11_placeIn, zw_11⟩, qd_X11_placeIn, by decide⟩
theorem dX11_isFormula_0 : decode cX11_isFormula 0 = .ok (.aload_n 0, 1) := by decide +kernel
theorem dX11_isFormula_1 : decode cX11_isFormula 1 = .ok (.ifnull 15, 3) := by decide +kernel
theorem dX11_isFormula_4 : decode cX11_isFormula 4 = .ok (.aload_n 0, 1) := by decide +kernel
theorem dX11_isFormula_5 : decode cX11_isFormula 5 = .ok (.getfield 372, 3) := by decide +kernel
theorem dX11_isFormula_8 : decode cX11_isFormula 8 = .ok (.iconst 5, 1) := by decide +kernel
theorem dX11_isFormula_9 : decode cX11_isFormula 9 = .ok (.if_icmp .ne 7, 3) := by decide +kernel
theorem dX11_isFormula_12 : decode cX11_isFormula 12 = .ok (.iconst 1, 1) := by decide +kernel
theorem dX11_isFormula_13 : decode cX11_isFormula 13 = .ok (.goto 4, 3) := by decide +kernel
theorem dX11_isFormula_16 : decode cX11_isFormula 16 = .ok (.iconst 0, 1) := by decide +kernel
theorem dX11_isFormula_17 : decode cX11_isFormula 17 = .ok (.ireturn, 1) := by decide +kernel
set_option maxRecDepth 20000 in
theorem fl_X11_372 : FL RX11 372 1 0 true := ⟨RX1, TX1, cl_1, by decide, (gtb_in (List.mem_of_getElem? (i := 1219) (by decide +kernel)) (by decide +kernel)), rfl⟩
theorem dX11_partsOf_0 : decode cX11_partsOf 0 = .ok (.aload_n 0, 1) := by decide +kernel
theorem dX11_partsOf_1 : decode cX11_partsOf 1 = .ok (.ifnull 11, 3) := by decide +kernel
theorem dX11_partsOf_4 : decode cX11_partsOf 4 = .ok (.aload_n 0, 1) := by decide +kernel
theorem dX11_partsOf_5 : decode cX11_partsOf 5 = .ok (.getfield 375, 3) := by decide +kernel
theorem dX11_partsOf_8 : decode cX11_partsOf 8 = .ok (.arraylength, 1) := by decide +kernel
theorem dX11_partsOf_9 : decode cX11_partsOf 9 = .ok (.goto 4, 3) := by decide +kernel
theorem dX11_partsOf_12 : decode cX11_partsOf 12 = .ok (.iconst 0, 1) := by decide +kernel
theorem dX11_partsOf_13 : decode cX11_partsOf 13 = .ok (.ireturn, 1) := by decide +kernel
set_option maxRecDepth 20000 in
theorem fl_X11_375 : FL RX11 375 1 2 true := ⟨RX1, TX1, cl_1, by decide, (gtb_in (List.mem_of_getElem? (i := 1227) (by decide +kernel)) (by decide +kernel)), rfl⟩
theorem dX11_isBranch_0 : decode cX11_isBranch 0 = .ok (.iload_n 0, 1) := by decide +kernel
theorem dX11_isBranch_1 : decode cX11_isBranch 1 = .ok (.ifCond .lt 13, 3) := by decide +kernel
theorem dX11_isBranch_4 : decode cX11_isBranch 4 = .ok (.iload_n 0, 1) := by decide +kernel
theorem dX11_isBranch_5 : decode cX11_isBranch 5 = .ok (.bipush 6, 2) := by decide +kernel
theorem dX11_isBranch_7 : decode cX11_isBranch 7 = .ok (.if_icmp .ge 7, 3) := by decide +kernel
theorem dX11_isBranch_10 : decode cX11_isBranch 10 = .ok (.iconst 1, 1) := by decide +kernel
theorem dX11_isBranch_11 : decode cX11_isBranch 11 = .ok (.goto 4, 3) := by decide +kernel
theorem dX11_isBranch_14 : decode cX11_isBranch 14 = .ok (.iconst 0, 1) := by decide +kernel
theorem dX11_isBranch_15 : decode cX11_isBranch 15 = .ok (.ireturn, 1) := by decide +kernel
theorem dX11_head_0 : decode cX11_head 0 = .ok (.aload_n 0, 1) := by decide +kernel
theorem dX11_head_1 : decode cX11_head 1 = .ok (.getfield 70, 3) := by decide +kernel
theorem dX11_head_4 : decode cX11_head 4 = .ok (.aload_n 0, 1) := by decide +kernel
theorem dX11_head_5 : decode cX11_head 5 = .ok (.getfield 246, 3) := by decide +kernel
theorem dX11_head_8 : decode cX11_head 8 = .ok (.iaload, 1) := by decide +kernel
theorem dX11_head_9 : decode cX11_head 9 = .ok (.ireturn, 1) := by decide +kernel
theorem dX11_newcomer_0 : decode cX11_newcomer 0 = .ok (.iload_n 1, 1) := by decide +kernel
theorem dX11_newcomer_1 : decode cX11_newcomer 1 = .ok (.ifCond .ne 18, 3) := by decide +kernel
theorem dX11_newcomer_4 : decode cX11_newcomer 4 = .ok (.aload_n 0, 1) := by decide +kernel
theorem dX11_newcomer_5 : decode cX11_newcomer 5 = .ok (.dup, 1) := by decide +kernel
theorem dX11_newcomer_6 : decode cX11_newcomer 6 = .ok (.getfield 81, 3) := by decide +kernel
theorem dX11_newcomer_9 : decode cX11_newcomer 9 = .ok (.iconst 1, 1) := by decide +kernel
theorem dX11_newcomer_10 : decode cX11_newcomer 10 = .ok (.iadd, 1) := by decide +kernel
theorem dX11_newcomer_11 : decode cX11_newcomer 11 = .ok (.putfield 81, 3) := by decide +kernel
theorem dX11_newcomer_14 : decode cX11_newcomer 14 = .ok (.aload_n 0, 1) := by decide +kernel
theorem dX11_newcomer_15 : decode cX11_newcomer 15 = .ok (.getfield 81, 3) := by decide +kernel
theorem dX11_newcomer_18 : decode cX11_newcomer 18 = .ok (.ireturn, 1) := by decide +kernel
theorem dX11_newcomer_19 : decode cX11_newcomer 19 = .ok (.aload_n 0, 1) := by decide +kernel
theorem dX11_newcomer_20 : decode cX11_newcomer 20 = .ok (.dup, 1) := by decide +kernel
theorem dX11_newcomer_21 : decode cX11_newcomer 21 = .ok (.getfield 84, 3) := by decide +kernel
theorem dX11_newcomer_24 : decode cX11_newcomer 24 = .ok (.iconst 1, 1) := by decide +kernel
theorem dX11_newcomer_25 : decode cX11_newcomer 25 = .ok (.iadd, 1) := by decide +kernel
theorem dX11_newcomer_26 : decode cX11_newcomer 26 = .ok (.putfield 84, 3) := by decide +kernel
theorem dX11_newcomer_29 : decode cX11_newcomer 29 = .ok (.aload_n 0, 1) := by decide +kernel
theorem dX11_newcomer_30 : decode cX11_newcomer 30 = .ok (.getfield 84, 3) := by decide +kernel
theorem dX11_newcomer_33 : decode cX11_newcomer 33 = .ok (.ireturn, 1) := by decide +kernel
theorem dX11_sheetOf_0 : decode cX11_sheetOf 0 = .ok (.iload_n 1, 1) := by decide +kernel
theorem dX11_sheetOf_1 : decode cX11_sheetOf 1 = .ok (.iconst (-1), 1) := by decide +kernel
theorem dX11_sheetOf_2 : decode cX11_sheetOf 2 = .ok (.if_icmp .ne 10, 3) := by decide +kernel
theorem dX11_sheetOf_5 : decode cX11_sheetOf 5 = .ok (.aload_n 0, 1) := by decide +kernel
theorem dX11_sheetOf_6 : decode cX11_sheetOf 6 = .ok (.getfield 104, 3) := by decide +kernel
theorem dX11_sheetOf_9 : decode cX11_sheetOf 9 = .ok (.goto 11, 3) := by decide +kernel
theorem dX11_sheetOf_12 : decode cX11_sheetOf 12 = .ok (.aload_n 0, 1) := by decide +kernel
theorem dX11_sheetOf_13 : decode cX11_sheetOf 13 = .ok (.getfield 26, 3) := by decide +kernel
theorem dX11_sheetOf_16 : decode cX11_sheetOf 16 = .ok (.iload_n 1, 1) := by decide +kernel
theorem dX11_sheetOf_17 : decode cX11_sheetOf 17 = .ok (.invokevirtual 269, 3) := by decide +kernel
theorem dX11_sheetOf_20 : decode cX11_sheetOf 20 = .ok (.areturn, 1) := by decide +kernel
theorem dX11_isCell_0 : decode cX11_isCell 0 = .ok (.aload_n 0, 1) := by decide +kernel
theorem dX11_isCell_1 : decode cX11_isCell 1 = .ok (.iload_n 1, 1) := by decide +kernel
theorem dX11_isCell_2 : decode cX11_isCell 2 = .ok (.invokevirtual 312, 3) := by decide +kernel
theorem dX11_isCell_5 : decode cX11_isCell 5 = .ok (.astore 4, 2) := by decide +kernel
theorem dX11_isCell_7 : decode cX11_isCell 7 = .ok (.aload 4, 2) := by decide +kernel
theorem dX11_isCell_9 : decode cX11_isCell 9 = .ok (.ifnull 17, 3) := by decide +kernel
theorem dX11_isCell_12 : decode cX11_isCell 12 = .ok (.aload 4, 2) := by decide +kernel
theorem dX11_isCell_14 : decode cX11_isCell 14 = .ok (.iload_n 2, 1) := by decide +kernel
theorem dX11_isCell_15 : decode cX11_isCell 15 = .ok (.iload_n 3, 1) := by decide +kernel
theorem dX11_isCell_16 : decode cX11_isCell 16 = .ok (.invokevirtual 113, 3) := by decide +kernel
theorem dX11_isCell_19 : decode cX11_isCell 19 = .ok (.ifCond .eq 7, 3) := by decide +kernel
theorem dX11_isCell_22 : decode cX11_isCell 22 = .ok (.iconst 1, 1) := by decide +kernel
theorem dX11_isCell_23 : decode cX11_isCell 23 = .ok (.goto 4, 3) := by decide +kernel
theorem dX11_isCell_26 : decode cX11_isCell 26 = .ok (.iconst 0, 1) := by decide +kernel
theorem dX11_isCell_27 : decode cX11_isCell 27 = .ok (.ireturn, 1) := by decide +kernel
theorem dX11_isLikeHead_0 : decode cX11_isLikeHead 0 = .ok (.aload_n 0, 1) := by decide +kernel
theorem dX11_isLikeHead_1 : decode cX11_isLikeHead 1 = .ok (.getfield 26, 3) := by decide +kernel
theorem dX11_isLikeHead_4 : decode cX11_isLikeHead 4 = .ok (.aload_n 0, 1) := by decide +kernel
theorem dX11_isLikeHead_5 : decode cX11_isLikeHead 5 = .ok (.invokevirtual 249, 3) := by decide +kernel
theorem dX11_isLikeHead_8 : decode cX11_isLikeHead 8 = .ok (.invokevirtual 269, 3) := by decide +kernel
theorem dX11_isLikeHead_11 : decode cX11_isLikeHead 11 = .ok (.astore_n 1, 1) := by decide +kernel
theorem dX11_isLikeHead_12 : decode cX11_isLikeHead 12 = .ok (.aload_n 1, 1) := by decide +kernel
theorem dX11_isLikeHead_13 : decode cX11_isLikeHead 13 = .ok (.ifnull 18, 3) := by decide +kernel
theorem dX11_isLikeHead_16 : decode cX11_isLikeHead 16 = .ok (.aload_n 0, 1) := by decide +kernel
theorem dX11_isLikeHead_17 : decode cX11_isLikeHead 17 = .ok (.getfield 104, 3) := by decide +kernel
theorem dX11_isLikeHead_20 : decode cX11_isLikeHead 20 = .ok (.aload_n 1, 1) := by decide +kernel
theorem dX11_isLikeHead_21 : decode cX11_isLikeHead 21 = .ok (.invokevirtual 398, 3) := by decide +kernel
theorem dX11_isLikeHead_24 : decode cX11_isLikeHead 24 = .ok (.ifCond .eq 7, 3) := by decide +kernel
theorem dX11_isLikeHead_27 : decode cX11_isLikeHead 27 = .ok (.iconst 1, 1) := by decide +kernel
theorem dX11_isLikeHead_28 : decode cX11_isLikeHead 28 = .ok (.goto 4, 3) := by decide +kernel
theorem dX11_isLikeHead_31 : decode cX11_isLikeHead 31 = .ok (.iconst 0, 1) := by decide +kernel
theorem dX11_isLikeHead_32 : decode cX11_isLikeHead 32 = .ok (.ireturn, 1) := by decide +kernel
set_option maxRecDepth 20000 in
theorem vl_X11_398 : VL RX11 398 6 mX6_isLike 1 := ⟨⟨qc_X6_isLike, (gtb_in (List.mem_of_getElem? (i := 926) (by decide +kernel)) (by decide +kernel)), qi_X6_isLike, qs_X6_isLike, zw_6⟩, ⟨_, _, rfl⟩, by decide, qd_X6_isLike, by decide⟩
theorem dX11_isBusy_0 : decode cX11_isBusy 0 = .ok (.aload_n 0, 1) := by decide +kernel
theorem dX11_isBusy_1 : decode cX11_isBusy 1 = .ok (.getfield 77, 3) := by decide +kernel
theorem dX11_isBusy_4 : decode cX11_isBusy 4 = .ok (.iconst (-1), 1) := by decide +kernel
theorem dX11_isBusy_5 : decode cX11_isBusy 5 = .ok (.if_icmp .ne 13, 3) := by decide +kernel
theorem dX11_isBusy_8 : decode cX11_isBusy 8 = .ok (.aload_n 0, 1) := by decide +kernel
theorem dX11_isBusy_9 : decode cX11_isBusy 9 = .ok (.getfield 46, 3) := by decide +kernel
theorem dX11_isBusy_12 : decode cX11_isBusy 12 = .ok (.invokevirtual 239, 3) := by decide +kernel
theorem dX11_isBusy_15 : decode cX11_isBusy 15 = .ok (.ifCond .le 7, 3) := by decide +kernel
theorem dX11_isBusy_18 : decode cX11_isBusy 18 = .ok (.iconst 1, 1) := by decide +kernel
theorem dX11_isBusy_19 : decode cX11_isBusy 19 = .ok (.goto 4, 3) := by decide +kernel
theorem dX11_isBusy_22 : decode cX11_isBusy 22 = .ok (.iconst 0, 1) := by decide +kernel
theorem dX11_isBusy_23 : decode cX11_isBusy 23 = .ok (.ireturn, 1) := by decide +kernel
theorem dX11_step_0 : decode cX11_step 0 = .ok (.aload_n 0, 1) := by decide +kernel
theorem dX11_step_1 : decode cX11_step 1 = .ok (.getfield 53, 3) := by decide +kernel
theorem dX11_step_4 : decode cX11_step 4 = .ok (.aload_n 0, 1) := by decide +kernel
theorem dX11_step_5 : decode cX11_step 5 = .ok (.getfield 104, 3) := by decide +kernel
theorem dX11_step_8 : decode cX11_step 8 = .ok (.invokevirtual 402, 3) := by decide +kernel
theorem dX11_step_11 : decode cX11_step 11 = .ok (.aload_n 0, 1) := by decide +kernel
theorem dX11_step_12 : decode cX11_step 12 = .ok (.aload_n 1, 1) := by decide +kernel
theorem dX11_step_13 : decode cX11_step 13 = .ok (.invokevirtual 230, 3) := by decide +kernel
theorem dX11_step_16 : decode cX11_step 16 = .ok (.return_, 1) := by decide +kernel
set_option maxRecDepth 20000 in
theorem vl_X11_402 : VL RX11 402 7 mX7_add 1 := ⟨⟨qc_X7_add, (gtb_in (List.mem_of_getElem? (i := 1284) (by decide +kernel)) (by decide +kernel)), qi_X7_add, qs_X7_add, zw_7⟩, ⟨_, _, rfl⟩, by decide, qd_X7_add, by decide⟩
theorem dX11_show_0 : decode cX11_show 0 = .ok (.aload_n 0, 1) := by decide +kernel
theorem dX11_show_1 : decode cX11_show 1 = .ok (.getfield 104, 3) := by decide +kernel
theorem dX11_show_4 : decode cX11_show 4 = .ok (.aconst_null, 1) := by decide +kernel
theorem dX11_show_5 : decode cX11_show 5 = .ok (.putfield 404, 3) := by decide +kernel
theorem dX11_show_8 : decode cX11_show 8 = .ok (.aload_n 0, 1) := by decide +kernel
theorem dX11_show_9 : decode cX11_show 9 = .ok (.aload_n 1, 1) := by decide +kernel
theorem dX11_show_10 : decode cX11_show 10 = .ok (.putfield 104, 3) := by decide +kernel
theorem dX11_show_13 : decode cX11_show 13 = .ok (.return_, 1) := by decide +kernel
set_option maxRecDepth 20000 in
theorem fl_X11_404 : FL RX11 404 6 3 false := ⟨RX6, TX6, cl_6, by decide, (gtb_in (List.mem_of_getElem? (i := 345) (by decide +kernel)) (by decide +kernel)), rfl⟩
theorem dX11_partsWithin_0 : decode cX11_partsWithin 0 = .ok (.iconst 0, 1) := by decide +kernel
theorem dX11_partsWithin_1 : decode cX11_partsWithin 1 = .ok (.istore 5, 2) := by decide +kernel
theorem dX11_partsWithin_3 : decode cX11_partsWithin 3 = .ok (.iconst 0, 1) := by decide +kernel
theorem dX11_partsWithin_4 : decode cX11_partsWithin 4 = .ok (.istore 6, 2) := by decide +kernel
theorem dX11_partsWithin_6 : decode cX11_partsWithin 6 = .ok (.iload 6, 2) := by decide +kernel
theorem dX11_partsWithin_8 : decode cX11_partsWithin 8 = .ok (.iload_n 3, 1) := by decide +kernel
theorem dX11_partsWithin_9 : decode cX11_partsWithin 9 = .ok (.if_icmp .ge 48, 3) := by decide +kernel
theorem dX11_partsWithin_12 : decode cX11_partsWithin 12 = .ok (.iconst 0, 1) := by decide +kernel
theorem dX11_partsWithin_13 : decode cX11_partsWithin 13 = .ok (.istore 7, 2) := by decide +kernel
theorem dX11_partsWithin_15 : decode cX11_partsWithin 15 = .ok (.iload 7, 2) := by decide +kernel
theorem dX11_partsWithin_17 : decode cX11_partsWithin 17 = .ok (.iload 4, 2) := by decide +kernel
theorem dX11_partsWithin_19 : decode cX11_partsWithin 19 = .ok (.if_icmp .ge 32, 3) := by decide +kernel
theorem dX11_partsWithin_22 : decode cX11_partsWithin 22 = .ok (.iload 5, 2) := by decide +kernel
theorem dX11_partsWithin_24 : decode cX11_partsWithin 24 = .ok (.aload_n 0, 1) := by decide +kernel
theorem dX11_partsWithin_25 : decode cX11_partsWithin 25 = .ok (.getfield 104, 3) := by decide +kernel
theorem dX11_partsWithin_28 : decode cX11_partsWithin 28 = .ok (.iload_n 1, 1) := by decide +kernel
theorem dX11_partsWithin_29 : decode cX11_partsWithin 29 = .ok (.iload 6, 2) := by decide +kernel
theorem dX11_partsWithin_31 : decode cX11_partsWithin 31 = .ok (.iadd, 1) := by decide +kernel
theorem dX11_partsWithin_32 : decode cX11_partsWithin 32 = .ok (.iload_n 2, 1) := by decide +kernel
theorem dX11_partsWithin_33 : decode cX11_partsWithin 33 = .ok (.iload 7, 2) := by decide +kernel
theorem dX11_partsWithin_35 : decode cX11_partsWithin 35 = .ok (.iadd, 1) := by decide +kernel
theorem dX11_partsWithin_36 : decode cX11_partsWithin 36 = .ok (.invokevirtual 152, 3) := by decide +kernel
theorem dX11_partsWithin_39 : decode cX11_partsWithin 39 = .ok (.invokestatic 130, 3) := by decide +kernel
theorem dX11_partsWithin_42 : decode cX11_partsWithin 42 = .ok (.iadd, 1) := by decide +kernel
theorem dX11_partsWithin_43 : decode cX11_partsWithin 43 = .ok (.istore 5, 2) := by decide +kernel
theorem dX11_partsWithin_45 : decode cX11_partsWithin 45 = .ok (.iinc 7 1, 3) := by decide +kernel
theorem dX11_partsWithin_48 : decode cX11_partsWithin 48 = .ok (.goto (-33), 3) := by decide +kernel
theorem dX11_partsWithin_51 : decode cX11_partsWithin 51 = .ok (.iinc 6 1, 3) := by decide +kernel
theorem dX11_partsWithin_54 : decode cX11_partsWithin 54 = .ok (.goto (-48), 3) := by decide +kernel
theorem dX11_partsWithin_57 : decode cX11_partsWithin 57 = .ok (.iload 5, 2) := by decide +kernel
theorem dX11_partsWithin_59 : decode cX11_partsWithin 59 = .ok (.ireturn, 1) := by decide +kernel
theorem dX11_shifted_0 : decode cX11_shifted 0 = .ok (.aload_n 1, 1) := by decide +kernel
theorem dX11_shifted_1 : decode cX11_shifted 1 = .ok (.invokestatic 407, 3) := by decide +kernel
theorem dX11_shifted_4 : decode cX11_shifted 4 = .ok (.ifCond .ne 5, 3) := by decide +kernel
theorem dX11_shifted_7 : decode cX11_shifted 7 = .ok (.aload_n 1, 1) := by decide +kernel
theorem dX11_shifted_8 : decode cX11_shifted 8 = .ok (.areturn, 1) := by decide +kernel
theorem dX11_shifted_9 : decode cX11_shifted 9 = .ok (.aload_n 1, 1) := by decide +kernel
theorem dX11_shifted_10 : decode cX11_shifted 10 = .ok (.getfield 375, 3) := by decide +kernel
theorem dX11_shifted_13 : decode cX11_shifted 13 = .ok (.arraylength, 1) := by decide +kernel
theorem dX11_shifted_14 : decode cX11_shifted 14 = .ok (.anewarray 411, 3) := by decide +kernel
theorem dX11_shifted_17 : decode cX11_shifted 17 = .ok (.astore 4, 2) := by decide +kernel
theorem dX11_shifted_19 : decode cX11_shifted 19 = .ok (.iconst 0, 1) := by decide +kernel
theorem dX11_shifted_20 : decode cX11_shifted 20 = .ok (.istore 5, 2) := by decide +kernel
theorem dX11_shifted_22 : decode cX11_shifted 22 = .ok (.iload 5, 2) := by decide +kernel
theorem dX11_shifted_24 : decode cX11_shifted 24 = .ok (.aload 4, 2) := by decide +kernel
theorem dX11_shifted_26 : decode cX11_shifted 26 = .ok (.arraylength, 1) := by decide +kernel
theorem dX11_shifted_27 : decode cX11_shifted 27 = .ok (.if_icmp .ge 61, 3) := by decide +kernel
theorem dX11_shifted_30 : decode cX11_shifted 30 = .ok (.aload_n 1, 1) := by decide +kernel
theorem dX11_shifted_31 : decode cX11_shifted 31 = .ok (.getfield 375, 3) := by decide +kernel
theorem dX11_shifted_34 : decode cX11_shifted 34 = .ok (.iload 5, 2) := by decide +kernel
theorem dX11_shifted_36 : decode cX11_shifted 36 = .ok (.aaload, 1) := by decide +kernel
theorem dX11_shifted_37 : decode cX11_shifted 37 = .ok (.astore 6, 2) := by decide +kernel
theorem dX11_shifted_39 : decode cX11_shifted 39 = .ok (.aload_n 0, 1) := by decide +kernel
theorem dX11_shifted_40 : decode cX11_shifted 40 = .ok (.aload 6, 2) := by decide +kernel
theorem dX11_shifted_42 : decode cX11_shifted 42 = .ok (.getfield 413, 3) := by decide +kernel
theorem dX11_shifted_45 : decode cX11_shifted 45 = .ok (.invokevirtual 312, 3) := by decide +kernel
theorem dX11_shifted_48 : decode cX11_shifted 48 = .ok (.astore 7, 2) := by decide +kernel
theorem dX11_shifted_50 : decode cX11_shifted 50 = .ok (.aload 4, 2) := by decide +kernel
theorem dX11_shifted_52 : decode cX11_shifted 52 = .ok (.iload 5, 2) := by decide +kernel
theorem dX11_shifted_54 : decode cX11_shifted 54 = .ok (.aload 6, 2) := by decide +kernel
theorem dX11_shifted_56 : decode cX11_shifted 56 = .ok (.invokevirtual 416, 3) := by decide +kernel
theorem dX11_shifted_59 : decode cX11_shifted 59 = .ok (.ifCond .eq 20, 3) := by decide +kernel
theorem dX11_shifted_62 : decode cX11_shifted 62 = .ok (.aload 7, 2) := by decide +kernel
theorem dX11_shifted_64 : decode cX11_shifted 64 = .ok (.ifnull 15, 3) := by decide +kernel
theorem dX11_shifted_67 : decode cX11_shifted 67 = .ok (.aload 6, 2) := by decide +kernel
theorem dX11_shifted_69 : decode cX11_shifted 69 = .ok (.aload 7, 2) := by decide +kernel
theorem dX11_shifted_71 : decode cX11_shifted 71 = .ok (.iload_n 2, 1) := by decide +kernel
theorem dX11_shifted_72 : decode cX11_shifted 72 = .ok (.iload_n 3, 1) := by decide +kernel
theorem dX11_shifted_73 : decode cX11_shifted 73 = .ok (.invokevirtual 419, 3) := by decide +kernel
theorem dX11_shifted_76 : decode cX11_shifted 76 = .ok (.goto 5, 3) := by decide +kernel
theorem dX11_shifted_79 : decode cX11_shifted 79 = .ok (.aload 6, 2) := by decide +kernel
theorem dX11_shifted_81 : decode cX11_shifted 81 = .ok (.aastore, 1) := by decide +kernel
theorem dX11_shifted_82 : decode cX11_shifted 82 = .ok (.iinc 5 1, 3) := by decide +kernel
theorem dX11_shifted_85 : decode cX11_shifted 85 = .ok (.goto (-63), 3) := by decide +kernel
theorem dX11_shifted_88 : decode cX11_shifted 88 = .ok (.new 373, 3) := by decide +kernel
theorem dX11_shifted_91 : decode cX11_shifted 91 = .ok (.dup, 1) := by decide +kernel
theorem dX11_shifted_92 : decode cX11_shifted 92 = .ok (.iconst 5, 1) := by decide +kernel
theorem dX11_shifted_93 : decode cX11_shifted 93 = .ok (.aconst_null, 1) := by decide +kernel
theorem dX11_shifted_94 : decode cX11_shifted 94 = .ok (.aload 4, 2) := by decide +kernel
theorem dX11_shifted_96 : decode cX11_shifted 96 = .ok (.invokespecial 422, 3) := by decide +kernel
theorem dX11_shifted_99 : decode cX11_shifted 99 = .ok (.areturn, 1) := by decide +kernel
set_option maxRecDepth 20000 in
theorem sl_X11_407 : SL RX11 407 mX11_isFormula 1 := ⟨⟨qc_X11_isFormula, (gtb_in (List.mem_of_getElem? (i := 1378) (by decide +kernel)) (by decide +kernel)), qt_X11_isFormula, zw_11⟩, qd_X11_isFormula, by decide⟩
set_option maxRecDepth 20000 in
theorem nl_X11_411 : Cond.classLink RX11 411 RX4 ∈ gtb := (gtb_in (List.mem_of_getElem? (i := 1379) (by decide +kernel)) (by decide +kernel))
set_option maxRecDepth 20000 in
theorem fl_X11_413 : FL RX11 413 4 8 false := ⟨RX4, TX4, cl_4, by decide, (gtb_in (List.mem_of_getElem? (i := 1102) (by decide +kernel)) (by decide +kernel)), rfl⟩
def mX4_isPlace : MI := (yX4_isPlace, cX4_isPlace, 1, (some .boolean))
theorem qc_X4_isPlace : Cond.code mX4_isPlace.1 mX4_isPlace.2.1 mX4_isPlace.2.2.1 mX4_isPlace.2.2.2 ∈ gtb := (gtb_in (List.mem_of_getElem? (i := 542) (by decide +kernel)) (by decide +kernel))
theorem qi_X4_isPlace : Cond.instanceMethod mX4_isPlace.1 ∈ gtb := (gtb_in (List.mem_of_getElem? (i := 540) (by decide +kernel)) (by decide +kernel))
theorem qs_X4_isPlace : Cond.selects mX4_isPlace.1.cls mX4_isPlace.1 mX4_isPlace.1 ∈ gtb := (gtb_in (List.mem_of_getElem? (i := 541) (by decide +kernel)) (by decide +kernel))
theorem qd_X4_isPlace : dsc mX4_isPlace.1 0 := ⟨by decide +kernel, by decide +kernel, by decide +kernel⟩
set_option maxRecDepth 20000 in
theorem vl_X11_416 : VL RX11 416 4 mX4_isPlace 0 := ⟨⟨qc_X4_isPlace, (gtb_in (List.mem_of_getElem? (i := 1380) (by decide +kernel)) (by decide +kernel)), qi_X4_isPlace, qs_X4_isPlace, zw_4⟩, ⟨_, _, rfl⟩, by decide, qd_X4_isPlace, by decide⟩
def mX4_shifted : MI := (yX4_shifted, cX4_shifted, 9, (some ((.object "SheetBranches$Part"))))
theorem qc_X4_shifted : Cond.code mX4_shifted.1 mX4_shifted.2.1 mX4_shifted.2.2.1 mX4_shifted.2.2.2 ∈ gtb := (gtb_in (List.mem_of_getElem? (i := 1384) (by decide +kernel)) (by decide +kernel))
theorem qi_X4_shifted : Cond.instanceMethod mX4_shifted.1 ∈ gtb := (gtb_in (List.mem_of_getElem? (i := 1382) (by decide +kernel)) (by decide +kernel))
theorem qs_X4_shifted : Cond.selects mX4_shifted.1.cls mX4_shifted.1 mX4_shifted.1 ∈ gtb := (gtb_in (List.mem_of_getElem? (i := 1383) (by decide +kernel)) (by decide +kernel))
theorem qd_X4_shifted : dsc mX4_shifted.1 3 := ⟨by decide +kernel, by decide +kernel, by decide +kernel⟩
set_option maxRecDepth 20000 in
theorem vl_X11_419 : VL RX11 419 4 mX4_shifted 3 := ⟨⟨qc_X4_shifted, (gtb_in (List.mem_of_getElem? (i := 1381) (by decide +kernel)) (by decide +kernel)), qi_X4_shifted, qs_X4_shifted, zw_4⟩, ⟨_, _, rfl⟩, by decide, qd_X4_shifted, by decide⟩
set_option maxRecDepth 20000 in
theorem nl_X11_373 : Cond.classLink RX11 373 RX1 ∈ gtb := (gtb_in (List.mem_of_getElem? (i := 1391) (by decide +kernel)) (by decide +kernel))
set_option maxRecDepth 20000 in
theorem il_X11_422 : IL RX11 422 mX1_init 3 := ⟨⟨qc_X1_init, (gtb_in (List.mem_of_getElem? (i := 1392) (by decide +kernel)) (by decide +kernel)), qi_X1_init, zw_1⟩, rfl, rfl, qd_X1_init, by decide⟩
theorem dX11_placesInOrder_0 : decode cX11_placesInOrder 0 = .ok (.iload_n 3, 1) := by decide +kernel
theorem dX11_placesInOrder_1 : decode cX11_placesInOrder 1 = .ok (.iload_n 2, 1) := by decide +kernel
theorem dX11_placesInOrder_2 : decode cX11_placesInOrder 2 = .ok (.isub, 1) := by decide +kernel
theorem dX11_placesInOrder_3 : decode cX11_placesInOrder 3 = .ok (.iconst 1, 1) := by decide +kernel
theorem dX11_placesInOrder_4 : decode cX11_placesInOrder 4 = .ok (.iadd, 1) := by decide +kernel
theorem dX11_placesInOrder_5 : decode cX11_placesInOrder 5 = .ok (.iconst 0, 1) := by decide +kernel
theorem dX11_placesInOrder_6 : decode cX11_placesInOrder 6 = .ok (.invokestatic 365, 3) := by decide +kernel
theorem dX11_placesInOrder_9 : decode cX11_placesInOrder 9 = .ok (.newarray .int, 2) := by decide +kernel
theorem dX11_placesInOrder_11 : decode cX11_placesInOrder 11 = .ok (.astore 5, 2) := by decide +kernel
theorem dX11_placesInOrder_13 : decode cX11_placesInOrder 13 = .ok (.iconst 0, 1) := by decide +kernel
theorem dX11_placesInOrder_14 : decode cX11_placesInOrder 14 = .ok (.istore 6, 2) := by decide +kernel
theorem dX11_placesInOrder_16 : decode cX11_placesInOrder 16 = .ok (.iload 6, 2) := by decide +kernel
theorem dX11_placesInOrder_18 : decode cX11_placesInOrder 18 = .ok (.aload 5, 2) := by decide +kernel
theorem dX11_placesInOrder_20 : decode cX11_placesInOrder 20 = .ok (.arraylength, 1) := by decide +kernel
theorem dX11_placesInOrder_21 : decode cX11_placesInOrder 21 = .ok (.if_icmp .ge 80, 3) := by decide +kernel
theorem dX11_placesInOrder_24 : decode cX11_placesInOrder 24 = .ok (.aload_n 0, 1) := by decide +kernel
theorem dX11_placesInOrder_25 : decode cX11_placesInOrder 25 = .ok (.iconst (-1), 1) := by decide +kernel
theorem dX11_placesInOrder_26 : decode cX11_placesInOrder 26 = .ok (.iload_n 2, 1) := by decide +kernel
theorem dX11_placesInOrder_27 : decode cX11_placesInOrder 27 = .ok (.iload 6, 2) := by decide +kernel
theorem dX11_placesInOrder_29 : decode cX11_placesInOrder 29 = .ok (.iadd, 1) := by decide +kernel
theorem dX11_placesInOrder_30 : decode cX11_placesInOrder 30 = .ok (.iload_n 1, 1) := by decide +kernel
theorem dX11_placesInOrder_31 : decode cX11_placesInOrder 31 = .ok (.invokevirtual 345, 3) := by decide +kernel
theorem dX11_placesInOrder_34 : decode cX11_placesInOrder 34 = .ok (.astore 7, 2) := by decide +kernel
theorem dX11_placesInOrder_36 : decode cX11_placesInOrder 36 = .ok (.iload 6, 2) := by decide +kernel
theorem dX11_placesInOrder_38 : decode cX11_placesInOrder 38 = .ok (.istore 8, 2) := by decide +kernel
theorem dX11_placesInOrder_40 : decode cX11_placesInOrder 40 = .ok (.iload 8, 2) := by decide +kernel
theorem dX11_placesInOrder_42 : decode cX11_placesInOrder 42 = .ok (.ifCond .le 44, 3) := by decide +kernel
theorem dX11_placesInOrder_45 : decode cX11_placesInOrder 45 = .ok (.aload_n 0, 1) := by decide +kernel
theorem dX11_placesInOrder_46 : decode cX11_placesInOrder 46 = .ok (.iconst (-1), 1) := by decide +kernel
theorem dX11_placesInOrder_47 : decode cX11_placesInOrder 47 = .ok (.aload 5, 2) := by decide +kernel
theorem dX11_placesInOrder_49 : decode cX11_placesInOrder 49 = .ok (.iload 8, 2) := by decide +kernel
theorem dX11_placesInOrder_51 : decode cX11_placesInOrder 51 = .ok (.iconst 1, 1) := by decide +kernel
theorem dX11_placesInOrder_52 : decode cX11_placesInOrder 52 = .ok (.isub, 1) := by decide +kernel
theorem dX11_placesInOrder_53 : decode cX11_placesInOrder 53 = .ok (.iaload, 1) := by decide +kernel
theorem dX11_placesInOrder_54 : decode cX11_placesInOrder 54 = .ok (.iload_n 1, 1) := by decide +kernel
theorem dX11_placesInOrder_55 : decode cX11_placesInOrder 55 = .ok (.invokevirtual 345, 3) := by decide +kernel
theorem dX11_placesInOrder_58 : decode cX11_placesInOrder 58 = .ok (.aload 7, 2) := by decide +kernel
theorem dX11_placesInOrder_60 : decode cX11_placesInOrder 60 = .ok (.iload 4, 2) := by decide +kernel
theorem dX11_placesInOrder_62 : decode cX11_placesInOrder 62 = .ok (.invokestatic 425, 3) := by decide +kernel
theorem dX11_placesInOrder_65 : decode cX11_placesInOrder 65 = .ok (.ifCond .le 21, 3) := by decide +kernel
theorem dX11_placesInOrder_68 : decode cX11_placesInOrder 68 = .ok (.aload 5, 2) := by decide +kernel
theorem dX11_placesInOrder_70 : decode cX11_placesInOrder 70 = .ok (.iload 8, 2) := by decide +kernel
theorem dX11_placesInOrder_72 : decode cX11_placesInOrder 72 = .ok (.aload 5, 2) := by decide +kernel
theorem dX11_placesInOrder_74 : decode cX11_placesInOrder 74 = .ok (.iload 8, 2) := by decide +kernel
theorem dX11_placesInOrder_76 : decode cX11_placesInOrder 76 = .ok (.iconst 1, 1) := by decide +kernel
theorem dX11_placesInOrder_77 : decode cX11_placesInOrder 77 = .ok (.isub, 1) := by decide +kernel
theorem dX11_placesInOrder_78 : decode cX11_placesInOrder 78 = .ok (.iaload, 1) := by decide +kernel
theorem dX11_placesInOrder_79 : decode cX11_placesInOrder 79 = .ok (.iastore, 1) := by decide +kernel
theorem dX11_placesInOrder_80 : decode cX11_placesInOrder 80 = .ok (.iinc 8 (-1), 3) := by decide +kernel
theorem dX11_placesInOrder_83 : decode cX11_placesInOrder 83 = .ok (.goto (-43), 3) := by decide +kernel
theorem dX11_placesInOrder_86 : decode cX11_placesInOrder 86 = .ok (.aload 5, 2) := by decide +kernel
theorem dX11_placesInOrder_88 : decode cX11_placesInOrder 88 = .ok (.iload 8, 2) := by decide +kernel
theorem dX11_placesInOrder_90 : decode cX11_placesInOrder 90 = .ok (.iload_n 2, 1) := by decide +kernel
theorem dX11_placesInOrder_91 : decode cX11_placesInOrder 91 = .ok (.iload 6, 2) := by decide +kernel
theorem dX11_placesInOrder_93 : decode cX11_placesInOrder 93 = .ok (.iadd, 1) := by decide +kernel
theorem dX11_placesInOrder_94 : decode cX11_placesInOrder 94 = .ok (.iastore, 1) := by decide +kernel
theorem dX11_placesInOrder_95 : decode cX11_placesInOrder 95 = .ok (.iinc 6 1, 3) := by decide +kernel
theorem dX11_placesInOrder_98 : decode cX11_placesInOrder 98 = .ok (.goto (-82), 3) := by decide +kernel
theorem dX11_placesInOrder_101 : decode cX11_placesInOrder 101 = .ok (.aload 5, 2) := by decide +kernel
theorem dX11_placesInOrder_103 : decode cX11_placesInOrder 103 = .ok (.areturn, 1) := by decide +kernel
set_option maxRecDepth 20000 in
theorem sl_X11_425 : SL RX11 425 mX11_orderOf 3 := ⟨⟨qc_X11_orderOf, (gtb_in (List.mem_of_getElem? (i := 1404) (by decide +kernel)) (by decide +kernel)), qt_X11_orderOf, zw_11⟩, qd_X11_orderOf, by decide⟩
theorem dX11_orderOf_0 : decode cX11_orderOf 0 = .ok (.aload_n 0, 1) := by decide +kernel
theorem dX11_orderOf_1 : decode cX11_orderOf 1 = .ok (.getfield 349, 3) := by decide +kernel
theorem dX11_orderOf_4 : decode cX11_orderOf 4 = .ok (.ifCond .eq 10, 3) := by decide +kernel
theorem dX11_orderOf_7 : decode cX11_orderOf 7 = .ok (.aload_n 1, 1) := by decide +kernel
theorem dX11_orderOf_8 : decode cX11_orderOf 8 = .ok (.getfield 349, 3) := by decide +kernel
theorem dX11_orderOf_11 : decode cX11_orderOf 11 = .ok (.ifCond .ne 29, 3) := by decide +kernel
theorem dX11_orderOf_14 : decode cX11_orderOf 14 = .ok (.aload_n 0, 1) := by decide +kernel
theorem dX11_orderOf_15 : decode cX11_orderOf 15 = .ok (.getfield 349, 3) := by decide +kernel
theorem dX11_orderOf_18 : decode cX11_orderOf 18 = .ok (.ifCond .ne 7, 3) := by decide +kernel
theorem dX11_orderOf_21 : decode cX11_orderOf 21 = .ok (.iconst 1, 1) := by decide +kernel
theorem dX11_orderOf_22 : decode cX11_orderOf 22 = .ok (.goto 4, 3) := by decide +kernel
theorem dX11_orderOf_25 : decode cX11_orderOf 25 = .ok (.iconst 0, 1) := by decide +kernel
theorem dX11_orderOf_26 : decode cX11_orderOf 26 = .ok (.aload_n 1, 1) := by decide +kernel
theorem dX11_orderOf_27 : decode cX11_orderOf 27 = .ok (.getfield 349, 3) := by decide +kernel
theorem dX11_orderOf_30 : decode cX11_orderOf 30 = .ok (.ifCond .ne 7, 3) := by decide +kernel
theorem dX11_orderOf_33 : decode cX11_orderOf 33 = .ok (.iconst 1, 1) := by decide +kernel
theorem dX11_orderOf_34 : decode cX11_orderOf 34 = .ok (.goto 4, 3) := by decide +kernel
theorem dX11_orderOf_37 : decode cX11_orderOf 37 = .ok (.iconst 0, 1) := by decide +kernel
theorem dX11_orderOf_38 : decode cX11_orderOf 38 = .ok (.isub, 1) := by decide +kernel
theorem dX11_orderOf_39 : decode cX11_orderOf 39 = .ok (.ireturn, 1) := by decide +kernel
theorem dX11_orderOf_40 : decode cX11_orderOf 40 = .ok (.aload_n 0, 1) := by decide +kernel
theorem dX11_orderOf_41 : decode cX11_orderOf 41 = .ok (.getfield 349, 3) := by decide +kernel
theorem dX11_orderOf_44 : decode cX11_orderOf 44 = .ok (.aload_n 1, 1) := by decide +kernel
theorem dX11_orderOf_45 : decode cX11_orderOf 45 = .ok (.getfield 349, 3) := by decide +kernel
theorem dX11_orderOf_48 : decode cX11_orderOf 48 = .ok (.isub, 1) := by decide +kernel
theorem dX11_orderOf_49 : decode cX11_orderOf 49 = .ok (.istore_n 3, 1) := by decide +kernel
theorem dX11_orderOf_50 : decode cX11_orderOf 50 = .ok (.iload_n 3, 1) := by decide +kernel
theorem dX11_orderOf_51 : decode cX11_orderOf 51 = .ok (.ifCond .ne 17, 3) := by decide +kernel
theorem dX11_orderOf_54 : decode cX11_orderOf 54 = .ok (.aload_n 0, 1) := by decide +kernel
theorem dX11_orderOf_55 : decode cX11_orderOf 55 = .ok (.getfield 349, 3) := by decide +kernel
theorem dX11_orderOf_58 : decode cX11_orderOf 58 = .ok (.iconst 4, 1) := by decide +kernel
theorem dX11_orderOf_59 : decode cX11_orderOf 59 = .ok (.if_icmp .eq 9, 3) := by decide +kernel
theorem dX11_orderOf_62 : decode cX11_orderOf 62 = .ok (.aload_n 0, 1) := by decide +kernel
theorem dX11_orderOf_63 : decode cX11_orderOf 63 = .ok (.aload_n 1, 1) := by decide +kernel
theorem dX11_orderOf_64 : decode cX11_orderOf 64 = .ok (.invokevirtual 429, 3) := by decide +kernel
theorem dX11_orderOf_67 : decode cX11_orderOf 67 = .ok (.istore_n 3, 1) := by decide +kernel
theorem dX11_orderOf_68 : decode cX11_orderOf 68 = .ok (.iload_n 2, 1) := by decide +kernel
theorem dX11_orderOf_69 : decode cX11_orderOf 69 = .ok (.ifCond .eq 8, 3) := by decide +kernel
theorem dX11_orderOf_72 : decode cX11_orderOf 72 = .ok (.iload_n 3, 1) := by decide +kernel
theorem dX11_orderOf_73 : decode cX11_orderOf 73 = .ok (.ineg, 1) := by decide +kernel
theorem dX11_orderOf_74 : decode cX11_orderOf 74 = .ok (.goto 4, 3) := by decide +kernel
theorem dX11_orderOf_77 : decode cX11_orderOf 77 = .ok (.iload_n 3, 1) := by decide +kernel
theorem dX11_orderOf_78 : decode cX11_orderOf 78 = .ok (.ireturn, 1) := by decide +kernel
set_option maxRecDepth 20000 in
theorem vl_X11_429 : VL RX11 429 8 mX8_compared 1 := ⟨⟨qc_X8_compared, (gtb_in (List.mem_of_getElem? (i := 1407) (by decide +kernel)) (by decide +kernel)), qi_X8_compared, qs_X8_compared, zw_8⟩, ⟨_, _, rfl⟩, by decide, qd_X8_compared, by decide⟩
theorem dX11_noteOnly_0 : decode cX11_noteOnly 0 = .ok (.aload_n 3, 1) := by decide +kernel
theorem dX11_noteOnly_1 : decode cX11_noteOnly 1 = .ok (.iload_n 2, 1) := by decide +kernel
theorem dX11_noteOnly_2 : decode cX11_noteOnly 2 = .ok (.invokevirtual 160, 3) := by decide +kernel
theorem dX11_noteOnly_5 : decode cX11_noteOnly 5 = .ok (.astore 5, 2) := by decide +kernel
theorem dX11_noteOnly_7 : decode cX11_noteOnly 7 = .ok (.iconst 0, 1) := by decide +kernel
theorem dX11_noteOnly_8 : decode cX11_noteOnly 8 = .ok (.istore 6, 2) := by decide +kernel
theorem dX11_noteOnly_10 : decode cX11_noteOnly 10 = .ok (.iload 6, 2) := by decide +kernel
theorem dX11_noteOnly_12 : decode cX11_noteOnly 12 = .ok (.aload 5, 2) := by decide +kernel
theorem dX11_noteOnly_14 : decode cX11_noteOnly 14 = .ok (.arraylength, 1) := by decide +kernel
theorem dX11_noteOnly_15 : decode cX11_noteOnly 15 = .ok (.if_icmp .ge 52, 3) := by decide +kernel
theorem dX11_noteOnly_18 : decode cX11_noteOnly 18 = .ok (.aload 4, 2) := by decide +kernel
theorem dX11_noteOnly_20 : decode cX11_noteOnly 20 = .ok (.iload_n 2, 1) := by decide +kernel
theorem dX11_noteOnly_21 : decode cX11_noteOnly 21 = .ok (.aload 5, 2) := by decide +kernel
theorem dX11_noteOnly_23 : decode cX11_noteOnly 23 = .ok (.iload 6, 2) := by decide +kernel
theorem dX11_noteOnly_25 : decode cX11_noteOnly 25 = .ok (.iaload, 1) := by decide +kernel
theorem dX11_noteOnly_26 : decode cX11_noteOnly 26 = .ok (.invokevirtual 299, 3) := by decide +kernel
theorem dX11_noteOnly_29 : decode cX11_noteOnly 29 = .ok (.ifCond .ne 32, 3) := by decide +kernel
theorem dX11_noteOnly_32 : decode cX11_noteOnly 32 = .ok (.aload_n 0, 1) := by decide +kernel
theorem dX11_noteOnly_33 : decode cX11_noteOnly 33 = .ok (.iload_n 1, 1) := by decide +kernel
theorem dX11_noteOnly_34 : decode cX11_noteOnly 34 = .ok (.iload_n 2, 1) := by decide +kernel
theorem dX11_noteOnly_35 : decode cX11_noteOnly 35 = .ok (.ifCond .ne 10, 3) := by decide +kernel
theorem dX11_noteOnly_38 : decode cX11_noteOnly 38 = .ok (.iload 6, 2) := by decide +kernel
theorem dX11_noteOnly_40 : decode cX11_noteOnly 40 = .ok (.iconst 1, 1) := by decide +kernel
theorem dX11_noteOnly_41 : decode cX11_noteOnly 41 = .ok (.iadd, 1) := by decide +kernel
theorem dX11_noteOnly_42 : decode cX11_noteOnly 42 = .ok (.goto 4, 3) := by decide +kernel
theorem dX11_noteOnly_45 : decode cX11_noteOnly 45 = .ok (.iconst 0, 1) := by decide +kernel
theorem dX11_noteOnly_46 : decode cX11_noteOnly 46 = .ok (.iload_n 2, 1) := by decide +kernel
theorem dX11_noteOnly_47 : decode cX11_noteOnly 47 = .ok (.ifCond .ne 7, 3) := by decide +kernel
theorem dX11_noteOnly_50 : decode cX11_noteOnly 50 = .ok (.iconst 0, 1) := by decide +kernel
theorem dX11_noteOnly_51 : decode cX11_noteOnly 51 = .ok (.goto 7, 3) := by decide +kernel
theorem dX11_noteOnly_54 : decode cX11_noteOnly 54 = .ok (.iload 6, 2) := by decide +kernel
theorem dX11_noteOnly_56 : decode cX11_noteOnly 56 = .ok (.iconst 1, 1) := by decide +kernel
theorem dX11_noteOnly_57 : decode cX11_noteOnly 57 = .ok (.iadd, 1) := by decide +kernel
theorem dX11_noteOnly_58 : decode cX11_noteOnly 58 = .ok (.invokevirtual 326, 3) := by decide +kernel
theorem dX11_noteOnly_61 : decode cX11_noteOnly 61 = .ok (.iinc 6 1, 3) := by decide +kernel
theorem dX11_noteOnly_64 : decode cX11_noteOnly 64 = .ok (.goto (-54), 3) := by decide +kernel
theorem dX11_noteOnly_67 : decode cX11_noteOnly 67 = .ok (.return_, 1) := by decide +kernel
theorem dX11_noteCells_0 : decode cX11_noteCells 0 = .ok (.iconst 1, 1) := by decide +kernel
theorem dX11_noteCells_1 : decode cX11_noteCells 1 = .ok (.istore_n 3, 1) := by decide +kernel
theorem dX11_noteCells_2 : decode cX11_noteCells 2 = .ok (.iload_n 3, 1) := by decide +kernel
theorem dX11_noteCells_3 : decode cX11_noteCells 3 = .ok (.aload_n 2, 1) := by decide +kernel
theorem dX11_noteCells_4 : decode cX11_noteCells 4 = .ok (.getfield 190, 3) := by decide +kernel
theorem dX11_noteCells_7 : decode cX11_noteCells 7 = .ok (.arraylength, 1) := by decide +kernel
theorem dX11_noteCells_8 : decode cX11_noteCells 8 = .ok (.if_icmp .gt 100, 3) := by decide +kernel
theorem dX11_noteCells_11 : decode cX11_noteCells 11 = .ok (.iconst 1, 1) := by decide +kernel
theorem dX11_noteCells_12 : decode cX11_noteCells 12 = .ok (.istore 4, 2) := by decide +kernel
theorem dX11_noteCells_14 : decode cX11_noteCells 14 = .ok (.iload 4, 2) := by decide +kernel
theorem dX11_noteCells_16 : decode cX11_noteCells 16 = .ok (.aload_n 2, 1) := by decide +kernel
theorem dX11_noteCells_17 : decode cX11_noteCells 17 = .ok (.getfield 197, 3) := by decide +kernel
theorem dX11_noteCells_20 : decode cX11_noteCells 20 = .ok (.arraylength, 1) := by decide +kernel
theorem dX11_noteCells_21 : decode cX11_noteCells 21 = .ok (.if_icmp .gt 81, 3) := by decide +kernel
theorem dX11_noteCells_24 : decode cX11_noteCells 24 = .ok (.aload_n 1, 1) := by decide +kernel
theorem dX11_noteCells_25 : decode cX11_noteCells 25 = .ok (.iconst 0, 1) := by decide +kernel
theorem dX11_noteCells_26 : decode cX11_noteCells 26 = .ok (.aload_n 2, 1) := by decide +kernel
theorem dX11_noteCells_27 : decode cX11_noteCells 27 = .ok (.getfield 190, 3) := by decide +kernel
theorem dX11_noteCells_30 : decode cX11_noteCells 30 = .ok (.iload_n 3, 1) := by decide +kernel
theorem dX11_noteCells_31 : decode cX11_noteCells 31 = .ok (.iconst 1, 1) := by decide +kernel
theorem dX11_noteCells_32 : decode cX11_noteCells 32 = .ok (.isub, 1) := by decide +kernel
theorem dX11_noteCells_33 : decode cX11_noteCells 33 = .ok (.iaload, 1) := by decide +kernel
theorem dX11_noteCells_34 : decode cX11_noteCells 34 = .ok (.invokevirtual 299, 3) := by decide +kernel
theorem dX11_noteCells_37 : decode cX11_noteCells 37 = .ok (.istore 5, 2) := by decide +kernel
theorem dX11_noteCells_39 : decode cX11_noteCells 39 = .ok (.aload_n 1, 1) := by decide +kernel
theorem dX11_noteCells_40 : decode cX11_noteCells 40 = .ok (.iconst 1, 1) := by decide +kernel
theorem dX11_noteCells_41 : decode cX11_noteCells 41 = .ok (.aload_n 2, 1) := by decide +kernel
theorem dX11_noteCells_42 : decode cX11_noteCells 42 = .ok (.getfield 197, 3) := by decide +kernel
theorem dX11_noteCells_45 : decode cX11_noteCells 45 = .ok (.iload 4, 2) := by decide +kernel
theorem dX11_noteCells_47 : decode cX11_noteCells 47 = .ok (.iconst 1, 1) := by decide +kernel
theorem dX11_noteCells_48 : decode cX11_noteCells 48 = .ok (.isub, 1) := by decide +kernel
theorem dX11_noteCells_49 : decode cX11_noteCells 49 = .ok (.iaload, 1) := by decide +kernel
theorem dX11_noteCells_50 : decode cX11_noteCells 50 = .ok (.invokevirtual 299, 3) := by decide +kernel
theorem dX11_noteCells_53 : decode cX11_noteCells 53 = .ok (.istore 6, 2) := by decide +kernel
theorem dX11_noteCells_55 : decode cX11_noteCells 55 = .ok (.aload_n 1, 1) := by decide +kernel
theorem dX11_noteCells_56 : decode cX11_noteCells 56 = .ok (.iload 5, 2) := by decide +kernel
theorem dX11_noteCells_58 : decode cX11_noteCells 58 = .ok (.iload 6, 2) := by decide +kernel
theorem dX11_noteCells_60 : decode cX11_noteCells 60 = .ok (.invokevirtual 113, 3) := by decide +kernel
theorem dX11_noteCells_63 : decode cX11_noteCells 63 = .ok (.ifCond .eq 33, 3) := by decide +kernel
theorem dX11_noteCells_66 : decode cX11_noteCells 66 = .ok (.aload_n 1, 1) := by decide +kernel
theorem dX11_noteCells_67 : decode cX11_noteCells 67 = .ok (.iload 5, 2) := by decide +kernel
theorem dX11_noteCells_69 : decode cX11_noteCells 69 = .ok (.iload 6, 2) := by decide +kernel
theorem dX11_noteCells_71 : decode cX11_noteCells 71 = .ok (.invokevirtual 152, 3) := by decide +kernel
theorem dX11_noteCells_74 : decode cX11_noteCells 74 = .ok (.aload_n 2, 1) := by decide +kernel
theorem dX11_noteCells_75 : decode cX11_noteCells 75 = .ok (.iload_n 3, 1) := by decide +kernel
theorem dX11_noteCells_76 : decode cX11_noteCells 76 = .ok (.iload 4, 2) := by decide +kernel
theorem dX11_noteCells_78 : decode cX11_noteCells 78 = .ok (.invokevirtual 152, 3) := by decide +kernel
theorem dX11_noteCells_81 : decode cX11_noteCells 81 = .ok (.invokestatic 443, 3) := by decide +kernel
theorem dX11_noteCells_84 : decode cX11_noteCells 84 = .ok (.ifCond .ne 12, 3) := by decide +kernel
theorem dX11_noteCells_87 : decode cX11_noteCells 87 = .ok (.aload_n 0, 1) := by decide +kernel
theorem dX11_noteCells_88 : decode cX11_noteCells 88 = .ok (.bipush 7, 2) := by decide +kernel
theorem dX11_noteCells_90 : decode cX11_noteCells 90 = .ok (.iload_n 3, 1) := by decide +kernel
theorem dX11_noteCells_91 : decode cX11_noteCells 91 = .ok (.iload 4, 2) := by decide +kernel
theorem dX11_noteCells_93 : decode cX11_noteCells 93 = .ok (.invokevirtual 326, 3) := by decide +kernel
theorem dX11_noteCells_96 : decode cX11_noteCells 96 = .ok (.iinc 4 1, 3) := by decide +kernel
theorem dX11_noteCells_99 : decode cX11_noteCells 99 = .ok (.goto (-85), 3) := by decide +kernel
theorem dX11_noteCells_102 : decode cX11_noteCells 102 = .ok (.iinc 3 1, 3) := by decide +kernel
theorem dX11_noteCells_105 : decode cX11_noteCells 105 = .ok (.goto (-103), 3) := by decide +kernel
theorem dX11_noteCells_108 : decode cX11_noteCells 108 = .ok (.return_, 1) := by decide +kernel
set_option maxRecDepth 20000 in
theorem sl_X11_443 : SL RX11 443 mX1_alike 2 := ⟨⟨qc_X1_alike, (gtb_in (List.mem_of_getElem? (i := 1615) (by decide +kernel)) (by decide +kernel)), qt_X1_alike, zw_1⟩, qd_X1_alike, by decide⟩
theorem dX11_ready_0 : decode cX11_ready 0 = .ok (.aload_n 0, 1) := by decide +kernel
theorem dX11_ready_1 : decode cX11_ready 1 = .ok (.iload_n 1, 1) := by decide +kernel
theorem dX11_ready_2 : decode cX11_ready 2 = .ok (.invokevirtual 312, 3) := by decide +kernel
theorem dX11_ready_5 : decode cX11_ready 5 = .ok (.astore_n 2, 1) := by decide +kernel
theorem dX11_ready_6 : decode cX11_ready 6 = .ok (.aload_n 2, 1) := by decide +kernel
theorem dX11_ready_7 : decode cX11_ready 7 = .ok (.ifnull 10, 3) := by decide +kernel
theorem dX11_ready_10 : decode cX11_ready 10 = .ok (.aload_n 2, 1) := by decide +kernel
theorem dX11_ready_11 : decode cX11_ready 11 = .ok (.getfield 404, 3) := by decide +kernel
theorem dX11_ready_14 : decode cX11_ready 14 = .ok (.ifnull 4, 3) := by decide +kernel
theorem dX11_ready_17 : decode cX11_ready 17 = .ok (.return_, 1) := by decide +kernel
theorem dX11_ready_18 : decode cX11_ready 18 = .ok (.aload_n 2, 1) := by decide +kernel
theorem dX11_ready_19 : decode cX11_ready 19 = .ok (.invokevirtual 447, 3) := by decide +kernel
theorem dX11_ready_22 : decode cX11_ready 22 = .ok (.lstore_n 3, 1) := by decide +kernel
theorem dX11_ready_23 : decode cX11_ready 23 = .ok (.aload_n 0, 1) := by decide +kernel
theorem dX11_ready_24 : decode cX11_ready 24 = .ok (.getfield 26, 3) := by decide +kernel
theorem dX11_ready_27 : decode cX11_ready 27 = .ok (.getfield 243, 3) := by decide +kernel
theorem dX11_ready_30 : decode cX11_ready 30 = .ok (.iconst 1, 1) := by decide +kernel
theorem dX11_ready_31 : decode cX11_ready 31 = .ok (.isub, 1) := by decide +kernel
theorem dX11_ready_32 : decode cX11_ready 32 = .ok (.istore 5, 2) := by decide +kernel
theorem dX11_ready_34 : decode cX11_ready 34 = .ok (.iload 5, 2) := by decide +kernel
theorem dX11_ready_36 : decode cX11_ready 36 = .ok (.ifCond .lt 52, 3) := by decide +kernel
theorem dX11_ready_39 : decode cX11_ready 39 = .ok (.aload_n 0, 1) := by decide +kernel
theorem dX11_ready_40 : decode cX11_ready 40 = .ok (.getfield 26, 3) := by decide +kernel
theorem dX11_ready_43 : decode cX11_ready 43 = .ok (.iload 5, 2) := by decide +kernel
theorem dX11_ready_45 : decode cX11_ready 45 = .ok (.invokevirtual 269, 3) := by decide +kernel
theorem dX11_ready_48 : decode cX11_ready 48 = .ok (.astore 6, 2) := by decide +kernel
theorem dX11_ready_50 : decode cX11_ready 50 = .ok (.aload 6, 2) := by decide +kernel
theorem dX11_ready_52 : decode cX11_ready 52 = .ok (.ifnull 30, 3) := by decide +kernel
theorem dX11_ready_55 : decode cX11_ready 55 = .ok (.aload 6, 2) := by decide +kernel
theorem dX11_ready_57 : decode cX11_ready 57 = .ok (.getfield 404, 3) := by decide +kernel
theorem dX11_ready_60 : decode cX11_ready 60 = .ok (.ifnonnull 22, 3) := by decide +kernel
theorem dX11_ready_63 : decode cX11_ready 63 = .ok (.lload_n 3, 1) := by decide +kernel
theorem dX11_ready_64 : decode cX11_ready 64 = .ok (.iload 5, 2) := by decide +kernel
theorem dX11_ready_66 : decode cX11_ready 66 = .ok (.lshr, 1) := by decide +kernel
theorem dX11_ready_67 : decode cX11_ready 67 = .ok (.lconst 1, 1) := by decide +kernel
theorem dX11_ready_68 : decode cX11_ready 68 = .ok (.land, 1) := by decide +kernel
theorem dX11_ready_69 : decode cX11_ready 69 = .ok (.lconst 0, 1) := by decide +kernel
theorem dX11_ready_70 : decode cX11_ready 70 = .ok (.lcmp, 1) := by decide +kernel
theorem dX11_ready_71 : decode cX11_ready 71 = .ok (.ifCond .eq 11, 3) := by decide +kernel
theorem dX11_ready_74 : decode cX11_ready 74 = .ok (.lload_n 3, 1) := by decide +kernel
theorem dX11_ready_75 : decode cX11_ready 75 = .ok (.aload 6, 2) := by decide +kernel
theorem dX11_ready_77 : decode cX11_ready 77 = .ok (.invokevirtual 447, 3) := by decide +kernel
theorem dX11_ready_80 : decode cX11_ready 80 = .ok (.lor, 1) := by decide +kernel
theorem dX11_ready_81 : decode cX11_ready 81 = .ok (.lstore_n 3, 1) := by decide +kernel
theorem dX11_ready_82 : decode cX11_ready 82 = .ok (.iinc 5 (-1), 3) := by decide +kernel
theorem dX11_ready_85 : decode cX11_ready 85 = .ok (.goto (-51), 3) := by decide +kernel
theorem dX11_ready_88 : decode cX11_ready 88 = .ok (.iconst 0, 1) := by decide +kernel
theorem dX11_ready_89 : decode cX11_ready 89 = .ok (.istore 5, 2) := by decide +kernel
theorem dX11_ready_91 : decode cX11_ready 91 = .ok (.iload 5, 2) := by decide +kernel
theorem dX11_ready_93 : decode cX11_ready 93 = .ok (.aload_n 0, 1) := by decide +kernel
theorem dX11_ready_94 : decode cX11_ready 94 = .ok (.getfield 26, 3) := by decide +kernel
theorem dX11_ready_97 : decode cX11_ready 97 = .ok (.getfield 243, 3) := by decide +kernel
theorem dX11_ready_100 : decode cX11_ready 100 = .ok (.if_icmp .ge 62, 3) := by decide +kernel
theorem dX11_ready_103 : decode cX11_ready 103 = .ok (.aload_n 0, 1) := by decide +kernel
theorem dX11_ready_104 : decode cX11_ready 104 = .ok (.getfield 26, 3) := by decide +kernel
theorem dX11_ready_107 : decode cX11_ready 107 = .ok (.iload 5, 2) := by decide +kernel
theorem dX11_ready_109 : decode cX11_ready 109 = .ok (.invokevirtual 269, 3) := by decide +kernel
theorem dX11_ready_112 : decode cX11_ready 112 = .ok (.astore 6, 2) := by decide +kernel
theorem dX11_ready_114 : decode cX11_ready 114 = .ok (.aload 6, 2) := by decide +kernel
theorem dX11_ready_116 : decode cX11_ready 116 = .ok (.ifnull 40, 3) := by decide +kernel
theorem dX11_ready_119 : decode cX11_ready 119 = .ok (.aload 6, 2) := by decide +kernel
theorem dX11_ready_121 : decode cX11_ready 121 = .ok (.getfield 404, 3) := by decide +kernel
theorem dX11_ready_124 : decode cX11_ready 124 = .ok (.ifnonnull 32, 3) := by decide +kernel
theorem dX11_ready_127 : decode cX11_ready 127 = .ok (.lload_n 3, 1) := by decide +kernel
theorem dX11_ready_128 : decode cX11_ready 128 = .ok (.iload 5, 2) := by decide +kernel
theorem dX11_ready_130 : decode cX11_ready 130 = .ok (.lshr, 1) := by decide +kernel
theorem dX11_ready_131 : decode cX11_ready 131 = .ok (.lconst 1, 1) := by decide +kernel
theorem dX11_ready_132 : decode cX11_ready 132 = .ok (.land, 1) := by decide +kernel
theorem dX11_ready_133 : decode cX11_ready 133 = .ok (.lconst 0, 1) := by decide +kernel
theorem dX11_ready_134 : decode cX11_ready 134 = .ok (.lcmp, 1) := by decide +kernel
theorem dX11_ready_135 : decode cX11_ready 135 = .ok (.ifCond .eq 21, 3) := by decide +kernel
theorem dX11_ready_138 : decode cX11_ready 138 = .ok (.aload_n 0, 1) := by decide +kernel
theorem dX11_ready_139 : decode cX11_ready 139 = .ok (.getfield 39, 3) := by decide +kernel
theorem dX11_ready_142 : decode cX11_ready 142 = .ok (.aload 6, 2) := by decide +kernel
theorem dX11_ready_144 : decode cX11_ready 144 = .ok (.aload 6, 2) := by decide +kernel
theorem dX11_ready_146 : decode cX11_ready 146 = .ok (.getfield 451, 3) := by decide +kernel
theorem dX11_ready_149 : decode cX11_ready 149 = .ok (.arraylength, 1) := by decide +kernel
theorem dX11_ready_150 : decode cX11_ready 150 = .ok (.anewarray 57, 3) := by decide +kernel
theorem dX11_ready_153 : decode cX11_ready 153 = .ok (.invokevirtual 455, 3) := by decide +kernel
theorem dX11_ready_156 : decode cX11_ready 156 = .ok (.iinc 5 1, 3) := by decide +kernel
theorem dX11_ready_159 : decode cX11_ready 159 = .ok (.goto (-68), 3) := by decide +kernel
theorem dX11_ready_162 : decode cX11_ready 162 = .ok (.aload_n 0, 1) := by decide +kernel
theorem dX11_ready_163 : decode cX11_ready 163 = .ok (.getfield 39, 3) := by decide +kernel
theorem dX11_ready_166 : decode cX11_ready 166 = .ok (.aload_n 2, 1) := by decide +kernel
theorem dX11_ready_167 : decode cX11_ready 167 = .ok (.iload_n 1, 1) := by decide +kernel
theorem dX11_ready_168 : decode cX11_ready 168 = .ok (.iconst (-1), 1) := by decide +kernel
theorem dX11_ready_169 : decode cX11_ready 169 = .ok (.if_icmp .ne 10, 3) := by decide +kernel
theorem dX11_ready_172 : decode cX11_ready 172 = .ok (.aload_n 0, 1) := by decide +kernel
theorem dX11_ready_173 : decode cX11_ready 173 = .ok (.getfield 66, 3) := by decide +kernel
theorem dX11_ready_176 : decode cX11_ready 176 = .ok (.goto 11, 3) := by decide +kernel
theorem dX11_ready_179 : decode cX11_ready 179 = .ok (.aload_n 2, 1) := by decide +kernel
theorem dX11_ready_180 : decode cX11_ready 180 = .ok (.getfield 451, 3) := by decide +kernel
theorem dX11_ready_183 : decode cX11_ready 183 = .ok (.arraylength, 1) := by decide +kernel
theorem dX11_ready_184 : decode cX11_ready 184 = .ok (.anewarray 57, 3) := by decide +kernel
theorem dX11_ready_187 : decode cX11_ready 187 = .ok (.invokevirtual 455, 3) := by decide +kernel
theorem dX11_ready_190 : decode cX11_ready 190 = .ok (.return_, 1) := by decide +kernel
set_option maxRecDepth 20000 in
theorem vl_X11_447 : VL RX11 447 6 mX6_versionsLookedAt 0 := ⟨⟨qc_X6_versionsLookedAt, (gtb_in (List.mem_of_getElem? (i := 515) (by decide +kernel)) (by decide +kernel)), qi_X6_versionsLookedAt, qs_X6_versionsLookedAt, zw_6⟩, ⟨_, _, rfl⟩, by decide, qd_X6_versionsLookedAt, by decide⟩
set_option maxRecDepth 20000 in
theorem fl_X11_451 : FL RX11 451 6 2 true := ⟨RX6, TX6, cl_6, by decide, (gtb_in (List.mem_of_getElem? (i := 342) (by decide +kernel)) (by decide +kernel)), rfl⟩
set_option maxRecDepth 20000 in
theorem vl_X11_455 : VL RX11 455 9 mX9_work 2 := ⟨⟨qc_X9_work, (gtb_in (List.mem_of_getElem? (i := 522) (by decide +kernel)) (by decide +kernel)), qi_X9_work, qs_X9_work, zw_9⟩, ⟨_, _, rfl⟩, by decide, qd_X9_work, by decide⟩
theorem dX11_seen_0 : decode cX11_seen 0 = .ok (.aload_n 0, 1) := by decide +kernel
theorem dX11_seen_1 : decode cX11_seen 1 = .ok (.iload_n 1, 1) := by decide +kernel
theorem dX11_seen_2 : decode cX11_seen 2 = .ok (.invokevirtual 312, 3) := by decide +kernel
theorem dX11_seen_5 : decode cX11_seen 5 = .ok (.astore 4, 2) := by decide +kernel
theorem dX11_seen_7 : decode cX11_seen 7 = .ok (.aload 4, 2) := by decide +kernel
theorem dX11_seen_9 : decode cX11_seen 9 = .ok (.ifnull 13, 3) := by decide +kernel
theorem dX11_seen_12 : decode cX11_seen 12 = .ok (.aload 4, 2) := by decide +kernel
theorem dX11_seen_14 : decode cX11_seen 14 = .ok (.iload_n 2, 1) := by decide +kernel
theorem dX11_seen_15 : decode cX11_seen 15 = .ok (.iload_n 3, 1) := by decide +kernel
theorem dX11_seen_16 : decode cX11_seen 16 = .ok (.invokevirtual 459, 3) := by decide +kernel
theorem dX11_seen_19 : decode cX11_seen 19 = .ok (.goto 7, 3) := by decide +kernel
theorem dX11_seen_22 : decode cX11_seen 22 = .ok (.aload_n 0, 1) := by decide +kernel
theorem dX11_seen_23 : decode cX11_seen 23 = .ok (.getfield 62, 3) := by decide +kernel
theorem dX11_seen_26 : decode cX11_seen 26 = .ok (.astore 5, 2) := by decide +kernel
theorem dX11_seen_28 : decode cX11_seen 28 = .ok (.aload 5, 2) := by decide +kernel
theorem dX11_seen_30 : decode cX11_seen 30 = .ok (.ifnull 8, 3) := by decide +kernel
theorem dX11_seen_33 : decode cX11_seen 33 = .ok (.aload 5, 2) := by decide +kernel
theorem dX11_seen_35 : decode cX11_seen 35 = .ok (.goto 7, 3) := by decide +kernel
theorem dX11_seen_38 : decode cX11_seen 38 = .ok (.aload_n 0, 1) := by decide +kernel
theorem dX11_seen_39 : decode cX11_seen 39 = .ok (.getfield 62, 3) := by decide +kernel
theorem dX11_seen_42 : decode cX11_seen 42 = .ok (.areturn, 1) := by decide +kernel
set_option maxRecDepth 20000 in
theorem vl_X11_459 : VL RX11 459 6 mX6_valueAt 2 := ⟨⟨qc_X6_valueAt, (gtb_in (List.mem_of_getElem? (i := 803) (by decide +kernel)) (by decide +kernel)), qi_X6_valueAt, qs_X6_valueAt, zw_6⟩, ⟨_, _, rfl⟩, by decide, qd_X6_valueAt, by decide⟩
