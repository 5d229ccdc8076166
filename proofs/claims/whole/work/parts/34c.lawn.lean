/-! ===== names of the law and its helpers ===== -/
def mL_enter : MI := (yL_enter, cL_enter, 5, (some .int))
theorem qd_L_enter : dsc mL_enter.1 4 := ⟨by decide +kernel, by decide +kernel, by decide +kernel⟩
theorem dL_enter_0 : decode cL_enter 0 = .ok (.aload_n 3, 1) := by decide +kernel
theorem dL_enter_1 : decode cL_enter 1 = .ok (.iconst 0, 1) := by decide +kernel
theorem dL_enter_2 : decode cL_enter 2 = .ok (.aload_n 0, 1) := by decide +kernel
theorem dL_enter_3 : decode cL_enter 3 = .ok (.iload_n 1, 1) := by decide +kernel
theorem dL_enter_4 : decode cL_enter 4 = .ok (.iload_n 2, 1) := by decide +kernel
theorem dL_enter_5 : decode cL_enter 5 = .ok (.invokevirtual 7, 3) := by decide +kernel
theorem dL_enter_8 : decode cL_enter 8 = .ok (.i2l, 1) := by decide +kernel
theorem dL_enter_9 : decode cL_enter 9 = .ok (.lastore, 1) := by decide +kernel
theorem dL_enter_10 : decode cL_enter 10 = .ok (.goto 15, 3) := by decide +kernel
theorem dL_enter_13 : decode cL_enter 13 = .ok (.astore 4, 2) := by decide +kernel
theorem dL_enter_15 : decode cL_enter 15 = .ok (.iconst 1, 1) := by decide +kernel
theorem dL_enter_16 : decode cL_enter 16 = .ok (.ireturn, 1) := by decide +kernel
theorem dL_enter_17 : decode cL_enter 17 = .ok (.astore 4, 2) := by decide +kernel
theorem dL_enter_19 : decode cL_enter 19 = .ok (.iconst 2, 1) := by decide +kernel
theorem dL_enter_20 : decode cL_enter 20 = .ok (.ireturn, 1) := by decide +kernel
theorem dL_enter_21 : decode cL_enter 21 = .ok (.astore 4, 2) := by decide +kernel
theorem dL_enter_23 : decode cL_enter 23 = .ok (.iconst 3, 1) := by decide +kernel
theorem dL_enter_24 : decode cL_enter 24 = .ok (.ireturn, 1) := by decide +kernel
theorem dL_enter_25 : decode cL_enter 25 = .ok (.iconst 0, 1) := by decide +kernel
theorem dL_enter_26 : decode cL_enter 26 = .ok (.ireturn, 1) := by decide +kernel
set_option maxRecDepth 20000 in
theorem vl_L_7 : VL RL 7 11 mX11_enter 2 := ⟨⟨qc_X11_enter, (gtb_in (List.mem_of_getElem? (i := 948) (by decide +kernel)) (by decide +kernel)), qi_X11_enter, qs_X11_enter, zw_11⟩, ⟨_, _, rfl⟩, by decide, qd_X11_enter, by decide⟩
def mL_erase : MI := (yL_erase, cL_erase, 7, (some .int))
theorem qd_L_erase : dsc mL_erase.1 6 := ⟨by decide +kernel, by decide +kernel, by decide +kernel⟩
theorem dL_erase_0 : decode cL_erase 0 = .ok (.aload 5, 2) := by decide +kernel
theorem dL_erase_2 : decode cL_erase 2 = .ok (.iconst 0, 1) := by decide +kernel
theorem dL_erase_3 : decode cL_erase 3 = .ok (.aload_n 0, 1) := by decide +kernel
theorem dL_erase_4 : decode cL_erase 4 = .ok (.iload_n 1, 1) := by decide +kernel
theorem dL_erase_5 : decode cL_erase 5 = .ok (.iload_n 2, 1) := by decide +kernel
theorem dL_erase_6 : decode cL_erase 6 = .ok (.iload_n 3, 1) := by decide +kernel
theorem dL_erase_7 : decode cL_erase 7 = .ok (.iload 4, 2) := by decide +kernel
theorem dL_erase_9 : decode cL_erase 9 = .ok (.invokevirtual 19, 3) := by decide +kernel
theorem dL_erase_12 : decode cL_erase 12 = .ok (.i2l, 1) := by decide +kernel
theorem dL_erase_13 : decode cL_erase 13 = .ok (.lastore, 1) := by decide +kernel
theorem dL_erase_14 : decode cL_erase 14 = .ok (.goto 11, 3) := by decide +kernel
theorem dL_erase_17 : decode cL_erase 17 = .ok (.astore 6, 2) := by decide +kernel
theorem dL_erase_19 : decode cL_erase 19 = .ok (.iconst 1, 1) := by decide +kernel
theorem dL_erase_20 : decode cL_erase 20 = .ok (.ireturn, 1) := by decide +kernel
theorem dL_erase_21 : decode cL_erase 21 = .ok (.astore 6, 2) := by decide +kernel
theorem dL_erase_23 : decode cL_erase 23 = .ok (.iconst 2, 1) := by decide +kernel
theorem dL_erase_24 : decode cL_erase 24 = .ok (.ireturn, 1) := by decide +kernel
theorem dL_erase_25 : decode cL_erase 25 = .ok (.iconst 0, 1) := by decide +kernel
theorem dL_erase_26 : decode cL_erase 26 = .ok (.ireturn, 1) := by decide +kernel
set_option maxRecDepth 20000 in
theorem vl_L_19 : VL RL 19 11 mX11_erase 4 := ⟨⟨qc_X11_erase, (gtb_in (List.mem_of_getElem? (i := 1291) (by decide +kernel)) (by decide +kernel)), qi_X11_erase, qs_X11_erase, zw_11⟩, ⟨_, _, rfl⟩, by decide, qd_X11_erase, by decide⟩
def mL_insert : MI := (yL_insert, cL_insert, 5, (some .int))
theorem qd_L_insert : dsc mL_insert.1 4 := ⟨by decide +kernel, by decide +kernel, by decide +kernel⟩
theorem dL_insert_0 : decode cL_insert 0 = .ok (.aload_n 3, 1) := by decide +kernel
theorem dL_insert_1 : decode cL_insert 1 = .ok (.iconst 0, 1) := by decide +kernel
theorem dL_insert_2 : decode cL_insert 2 = .ok (.aload_n 0, 1) := by decide +kernel
theorem dL_insert_3 : decode cL_insert 3 = .ok (.iload_n 1, 1) := by decide +kernel
theorem dL_insert_4 : decode cL_insert 4 = .ok (.iload_n 2, 1) := by decide +kernel
theorem dL_insert_5 : decode cL_insert 5 = .ok (.invokevirtual 23, 3) := by decide +kernel
theorem dL_insert_8 : decode cL_insert 8 = .ok (.i2l, 1) := by decide +kernel
theorem dL_insert_9 : decode cL_insert 9 = .ok (.lastore, 1) := by decide +kernel
theorem dL_insert_10 : decode cL_insert 10 = .ok (.goto 15, 3) := by decide +kernel
theorem dL_insert_13 : decode cL_insert 13 = .ok (.astore 4, 2) := by decide +kernel
theorem dL_insert_15 : decode cL_insert 15 = .ok (.iconst 1, 1) := by decide +kernel
theorem dL_insert_16 : decode cL_insert 16 = .ok (.ireturn, 1) := by decide +kernel
theorem dL_insert_17 : decode cL_insert 17 = .ok (.astore 4, 2) := by decide +kernel
theorem dL_insert_19 : decode cL_insert 19 = .ok (.iconst 2, 1) := by decide +kernel
theorem dL_insert_20 : decode cL_insert 20 = .ok (.ireturn, 1) := by decide +kernel
theorem dL_insert_21 : decode cL_insert 21 = .ok (.astore 4, 2) := by decide +kernel
theorem dL_insert_23 : decode cL_insert 23 = .ok (.iconst 3, 1) := by decide +kernel
theorem dL_insert_24 : decode cL_insert 24 = .ok (.ireturn, 1) := by decide +kernel
theorem dL_insert_25 : decode cL_insert 25 = .ok (.iconst 0, 1) := by decide +kernel
theorem dL_insert_26 : decode cL_insert 26 = .ok (.ireturn, 1) := by decide +kernel
set_option maxRecDepth 20000 in
theorem vl_L_23 : VL RL 23 11 mX11_insert 2 := ⟨⟨qc_X11_insert, (gtb_in (List.mem_of_getElem? (i := 1299) (by decide +kernel)) (by decide +kernel)), qi_X11_insert, qs_X11_insert, zw_11⟩, ⟨_, _, rfl⟩, by decide, qd_X11_insert, by decide⟩
def mL_remove : MI := (yL_remove, cL_remove, 5, (some .int))
theorem qd_L_remove : dsc mL_remove.1 4 := ⟨by decide +kernel, by decide +kernel, by decide +kernel⟩
theorem dL_remove_0 : decode cL_remove 0 = .ok (.aload_n 3, 1) := by decide +kernel
theorem dL_remove_1 : decode cL_remove 1 = .ok (.iconst 0, 1) := by decide +kernel
theorem dL_remove_2 : decode cL_remove 2 = .ok (.aload_n 0, 1) := by decide +kernel
theorem dL_remove_3 : decode cL_remove 3 = .ok (.iload_n 1, 1) := by decide +kernel
theorem dL_remove_4 : decode cL_remove 4 = .ok (.iload_n 2, 1) := by decide +kernel
theorem dL_remove_5 : decode cL_remove 5 = .ok (.invokevirtual 28, 3) := by decide +kernel
theorem dL_remove_8 : decode cL_remove 8 = .ok (.i2l, 1) := by decide +kernel
theorem dL_remove_9 : decode cL_remove 9 = .ok (.lastore, 1) := by decide +kernel
theorem dL_remove_10 : decode cL_remove 10 = .ok (.goto 15, 3) := by decide +kernel
theorem dL_remove_13 : decode cL_remove 13 = .ok (.astore 4, 2) := by decide +kernel
theorem dL_remove_15 : decode cL_remove 15 = .ok (.iconst 1, 1) := by decide +kernel
theorem dL_remove_16 : decode cL_remove 16 = .ok (.ireturn, 1) := by decide +kernel
theorem dL_remove_17 : decode cL_remove 17 = .ok (.astore 4, 2) := by decide +kernel
theorem dL_remove_19 : decode cL_remove 19 = .ok (.iconst 2, 1) := by decide +kernel
theorem dL_remove_20 : decode cL_remove 20 = .ok (.ireturn, 1) := by decide +kernel
theorem dL_remove_21 : decode cL_remove 21 = .ok (.astore 4, 2) := by decide +kernel
theorem dL_remove_23 : decode cL_remove 23 = .ok (.iconst 3, 1) := by decide +kernel
theorem dL_remove_24 : decode cL_remove 24 = .ok (.ireturn, 1) := by decide +kernel
theorem dL_remove_25 : decode cL_remove 25 = .ok (.iconst 0, 1) := by decide +kernel
theorem dL_remove_26 : decode cL_remove 26 = .ok (.ireturn, 1) := by decide +kernel
set_option maxRecDepth 20000 in
theorem vl_L_28 : VL RL 28 11 mX11_remove 2 := ⟨⟨qc_X11_remove, (gtb_in (List.mem_of_getElem? (i := 1345) (by decide +kernel)) (by decide +kernel)), qi_X11_remove, qs_X11_remove, zw_11⟩, ⟨_, _, rfl⟩, by decide, qd_X11_remove, by decide⟩
def mL_move : MI := (yL_move, cL_move, 6, (some .int))
theorem qd_L_move : dsc mL_move.1 5 := ⟨by decide +kernel, by decide +kernel, by decide +kernel⟩
theorem dL_move_0 : decode cL_move 0 = .ok (.aload 4, 2) := by decide +kernel
theorem dL_move_2 : decode cL_move 2 = .ok (.iconst 0, 1) := by decide +kernel
theorem dL_move_3 : decode cL_move 3 = .ok (.aload_n 0, 1) := by decide +kernel
theorem dL_move_4 : decode cL_move 4 = .ok (.iload_n 1, 1) := by decide +kernel
theorem dL_move_5 : decode cL_move 5 = .ok (.iload_n 2, 1) := by decide +kernel
theorem dL_move_6 : decode cL_move 6 = .ok (.iload_n 3, 1) := by decide +kernel
theorem dL_move_7 : decode cL_move 7 = .ok (.invokevirtual 31, 3) := by decide +kernel
theorem dL_move_10 : decode cL_move 10 = .ok (.i2l, 1) := by decide +kernel
theorem dL_move_11 : decode cL_move 11 = .ok (.lastore, 1) := by decide +kernel
theorem dL_move_12 : decode cL_move 12 = .ok (.goto 11, 3) := by decide +kernel
theorem dL_move_15 : decode cL_move 15 = .ok (.astore 5, 2) := by decide +kernel
theorem dL_move_17 : decode cL_move 17 = .ok (.iconst 1, 1) := by decide +kernel
theorem dL_move_18 : decode cL_move 18 = .ok (.ireturn, 1) := by decide +kernel
theorem dL_move_19 : decode cL_move 19 = .ok (.astore 5, 2) := by decide +kernel
theorem dL_move_21 : decode cL_move 21 = .ok (.iconst 2, 1) := by decide +kernel
theorem dL_move_22 : decode cL_move 22 = .ok (.ireturn, 1) := by decide +kernel
theorem dL_move_23 : decode cL_move 23 = .ok (.iconst 0, 1) := by decide +kernel
theorem dL_move_24 : decode cL_move 24 = .ok (.ireturn, 1) := by decide +kernel
set_option maxRecDepth 20000 in
theorem vl_L_31 : VL RL 31 11 mX11_move 3 := ⟨⟨qc_X11_move, (gtb_in (List.mem_of_getElem? (i := 1355) (by decide +kernel)) (by decide +kernel)), qi_X11_move, qs_X11_move, zw_11⟩, ⟨_, _, rfl⟩, by decide, qd_X11_move, by decide⟩
def mL_copy : MI := (yL_copy, cL_copy, 9, (some .int))
theorem qd_L_copy : dsc mL_copy.1 8 := ⟨by decide +kernel, by decide +kernel, by decide +kernel⟩
theorem dL_copy_0 : decode cL_copy 0 = .ok (.aload 7, 2) := by decide +kernel
theorem dL_copy_2 : decode cL_copy 2 = .ok (.iconst 0, 1) := by decide +kernel
theorem dL_copy_3 : decode cL_copy 3 = .ok (.aload_n 0, 1) := by decide +kernel
theorem dL_copy_4 : decode cL_copy 4 = .ok (.iload_n 1, 1) := by decide +kernel
theorem dL_copy_5 : decode cL_copy 5 = .ok (.iload_n 2, 1) := by decide +kernel
theorem dL_copy_6 : decode cL_copy 6 = .ok (.iload_n 3, 1) := by decide +kernel
theorem dL_copy_7 : decode cL_copy 7 = .ok (.iload 4, 2) := by decide +kernel
theorem dL_copy_9 : decode cL_copy 9 = .ok (.iload 5, 2) := by decide +kernel
theorem dL_copy_11 : decode cL_copy 11 = .ok (.iload 6, 2) := by decide +kernel
theorem dL_copy_13 : decode cL_copy 13 = .ok (.invokevirtual 35, 3) := by decide +kernel
theorem dL_copy_16 : decode cL_copy 16 = .ok (.i2l, 1) := by decide +kernel
theorem dL_copy_17 : decode cL_copy 17 = .ok (.lastore, 1) := by decide +kernel
theorem dL_copy_18 : decode cL_copy 18 = .ok (.goto 15, 3) := by decide +kernel
theorem dL_copy_21 : decode cL_copy 21 = .ok (.astore 8, 2) := by decide +kernel
theorem dL_copy_23 : decode cL_copy 23 = .ok (.iconst 1, 1) := by decide +kernel
theorem dL_copy_24 : decode cL_copy 24 = .ok (.ireturn, 1) := by decide +kernel
theorem dL_copy_25 : decode cL_copy 25 = .ok (.astore 8, 2) := by decide +kernel
theorem dL_copy_27 : decode cL_copy 27 = .ok (.iconst 2, 1) := by decide +kernel
theorem dL_copy_28 : decode cL_copy 28 = .ok (.ireturn, 1) := by decide +kernel
theorem dL_copy_29 : decode cL_copy 29 = .ok (.astore 8, 2) := by decide +kernel
theorem dL_copy_31 : decode cL_copy 31 = .ok (.iconst 3, 1) := by decide +kernel
theorem dL_copy_32 : decode cL_copy 32 = .ok (.ireturn, 1) := by decide +kernel
theorem dL_copy_33 : decode cL_copy 33 = .ok (.iconst 0, 1) := by decide +kernel
theorem dL_copy_34 : decode cL_copy 34 = .ok (.ireturn, 1) := by decide +kernel
set_option maxRecDepth 20000 in
theorem vl_L_35 : VL RL 35 11 mX11_copy 6 := ⟨⟨qc_X11_copy, (gtb_in (List.mem_of_getElem? (i := 1365) (by decide +kernel)) (by decide +kernel)), qi_X11_copy, qs_X11_copy, zw_11⟩, ⟨_, _, rfl⟩, by decide, qd_X11_copy, by decide⟩
def mL_sort : MI := (yL_sort, cL_sort, 7, (some .int))
theorem qd_L_sort : dsc mL_sort.1 6 := ⟨by decide +kernel, by decide +kernel, by decide +kernel⟩
theorem dL_sort_0 : decode cL_sort 0 = .ok (.aload 5, 2) := by decide +kernel
theorem dL_sort_2 : decode cL_sort 2 = .ok (.iconst 0, 1) := by decide +kernel
theorem dL_sort_3 : decode cL_sort 3 = .ok (.aload_n 0, 1) := by decide +kernel
theorem dL_sort_4 : decode cL_sort 4 = .ok (.iload_n 1, 1) := by decide +kernel
theorem dL_sort_5 : decode cL_sort 5 = .ok (.iload_n 2, 1) := by decide +kernel
theorem dL_sort_6 : decode cL_sort 6 = .ok (.iload_n 3, 1) := by decide +kernel
theorem dL_sort_7 : decode cL_sort 7 = .ok (.iload 4, 2) := by decide +kernel
theorem dL_sort_9 : decode cL_sort 9 = .ok (.invokevirtual 39, 3) := by decide +kernel
theorem dL_sort_12 : decode cL_sort 12 = .ok (.i2l, 1) := by decide +kernel
theorem dL_sort_13 : decode cL_sort 13 = .ok (.lastore, 1) := by decide +kernel
theorem dL_sort_14 : decode cL_sort 14 = .ok (.goto 11, 3) := by decide +kernel
theorem dL_sort_17 : decode cL_sort 17 = .ok (.astore 6, 2) := by decide +kernel
theorem dL_sort_19 : decode cL_sort 19 = .ok (.iconst 1, 1) := by decide +kernel
theorem dL_sort_20 : decode cL_sort 20 = .ok (.ireturn, 1) := by decide +kernel
theorem dL_sort_21 : decode cL_sort 21 = .ok (.astore 6, 2) := by decide +kernel
theorem dL_sort_23 : decode cL_sort 23 = .ok (.iconst 2, 1) := by decide +kernel
theorem dL_sort_24 : decode cL_sort 24 = .ok (.ireturn, 1) := by decide +kernel
theorem dL_sort_25 : decode cL_sort 25 = .ok (.iconst 0, 1) := by decide +kernel
theorem dL_sort_26 : decode cL_sort 26 = .ok (.ireturn, 1) := by decide +kernel
set_option maxRecDepth 20000 in
theorem vl_L_39 : VL RL 39 11 mX11_sort 4 := ⟨⟨qc_X11_sort, (gtb_in (List.mem_of_getElem? (i := 1396) (by decide +kernel)) (by decide +kernel)), qi_X11_sort, qs_X11_sort, zw_11⟩, ⟨_, _, rfl⟩, by decide, qd_X11_sort, by decide⟩
def mL_undo : MI := (yL_undo, cL_undo, 3, (some .int))
theorem qd_L_undo : dsc mL_undo.1 2 := ⟨by decide +kernel, by decide +kernel, by decide +kernel⟩
theorem dL_undo_0 : decode cL_undo 0 = .ok (.aload_n 1, 1) := by decide +kernel
theorem dL_undo_1 : decode cL_undo 1 = .ok (.iconst 0, 1) := by decide +kernel
theorem dL_undo_2 : decode cL_undo 2 = .ok (.aload_n 0, 1) := by decide +kernel
theorem dL_undo_3 : decode cL_undo 3 = .ok (.invokevirtual 43, 3) := by decide +kernel
theorem dL_undo_6 : decode cL_undo 6 = .ok (.i2l, 1) := by decide +kernel
theorem dL_undo_7 : decode cL_undo 7 = .ok (.lastore, 1) := by decide +kernel
theorem dL_undo_8 : decode cL_undo 8 = .ok (.goto 6, 3) := by decide +kernel
theorem dL_undo_11 : decode cL_undo 11 = .ok (.astore_n 2, 1) := by decide +kernel
theorem dL_undo_12 : decode cL_undo 12 = .ok (.iconst 1, 1) := by decide +kernel
theorem dL_undo_13 : decode cL_undo 13 = .ok (.ireturn, 1) := by decide +kernel
theorem dL_undo_14 : decode cL_undo 14 = .ok (.iconst 0, 1) := by decide +kernel
theorem dL_undo_15 : decode cL_undo 15 = .ok (.ireturn, 1) := by decide +kernel
set_option maxRecDepth 20000 in
theorem vl_L_43 : VL RL 43 11 mX11_undo 0 := ⟨⟨qc_X11_undo, (gtb_in (List.mem_of_getElem? (i := 1419) (by decide +kernel)) (by decide +kernel)), qi_X11_undo, qs_X11_undo, zw_11⟩, ⟨_, _, rfl⟩, by decide, qd_X11_undo, by decide⟩
def mL_redo : MI := (yL_redo, cL_redo, 3, (some .int))
theorem qd_L_redo : dsc mL_redo.1 2 := ⟨by decide +kernel, by decide +kernel, by decide +kernel⟩
theorem dL_redo_0 : decode cL_redo 0 = .ok (.aload_n 1, 1) := by decide +kernel
theorem dL_redo_1 : decode cL_redo 1 = .ok (.iconst 0, 1) := by decide +kernel
theorem dL_redo_2 : decode cL_redo 2 = .ok (.aload_n 0, 1) := by decide +kernel
theorem dL_redo_3 : decode cL_redo 3 = .ok (.invokevirtual 49, 3) := by decide +kernel
theorem dL_redo_6 : decode cL_redo 6 = .ok (.i2l, 1) := by decide +kernel
theorem dL_redo_7 : decode cL_redo 7 = .ok (.lastore, 1) := by decide +kernel
theorem dL_redo_8 : decode cL_redo 8 = .ok (.goto 6, 3) := by decide +kernel
theorem dL_redo_11 : decode cL_redo 11 = .ok (.astore_n 2, 1) := by decide +kernel
theorem dL_redo_12 : decode cL_redo 12 = .ok (.iconst 1, 1) := by decide +kernel
theorem dL_redo_13 : decode cL_redo 13 = .ok (.ireturn, 1) := by decide +kernel
theorem dL_redo_14 : decode cL_redo 14 = .ok (.iconst 0, 1) := by decide +kernel
theorem dL_redo_15 : decode cL_redo 15 = .ok (.ireturn, 1) := by decide +kernel
set_option maxRecDepth 20000 in
theorem vl_L_49 : VL RL 49 11 mX11_redo 0 := ⟨⟨qc_X11_redo, (gtb_in (List.mem_of_getElem? (i := 1445) (by decide +kernel)) (by decide +kernel)), qi_X11_redo, qs_X11_redo, zw_11⟩, ⟨_, _, rfl⟩, by decide, qd_X11_redo, by decide⟩
def mL_commit : MI := (yL_commit, cL_commit, 3, (some .int))
theorem qd_L_commit : dsc mL_commit.1 2 := ⟨by decide +kernel, by decide +kernel, by decide +kernel⟩
theorem dL_commit_0 : decode cL_commit 0 = .ok (.aload_n 1, 1) := by decide +kernel
theorem dL_commit_1 : decode cL_commit 1 = .ok (.iconst 0, 1) := by decide +kernel
theorem dL_commit_2 : decode cL_commit 2 = .ok (.aload_n 0, 1) := by decide +kernel
theorem dL_commit_3 : decode cL_commit 3 = .ok (.invokevirtual 52, 3) := by decide +kernel
theorem dL_commit_6 : decode cL_commit 6 = .ok (.i2l, 1) := by decide +kernel
theorem dL_commit_7 : decode cL_commit 7 = .ok (.lastore, 1) := by decide +kernel
theorem dL_commit_8 : decode cL_commit 8 = .ok (.goto 9, 3) := by decide +kernel
theorem dL_commit_11 : decode cL_commit 11 = .ok (.astore_n 2, 1) := by decide +kernel
theorem dL_commit_12 : decode cL_commit 12 = .ok (.iconst 1, 1) := by decide +kernel
theorem dL_commit_13 : decode cL_commit 13 = .ok (.ireturn, 1) := by decide +kernel
theorem dL_commit_14 : decode cL_commit 14 = .ok (.astore_n 2, 1) := by decide +kernel
theorem dL_commit_15 : decode cL_commit 15 = .ok (.iconst 2, 1) := by decide +kernel
theorem dL_commit_16 : decode cL_commit 16 = .ok (.ireturn, 1) := by decide +kernel
theorem dL_commit_17 : decode cL_commit 17 = .ok (.iconst 0, 1) := by decide +kernel
theorem dL_commit_18 : decode cL_commit 18 = .ok (.ireturn, 1) := by decide +kernel
set_option maxRecDepth 20000 in
theorem vl_L_52 : VL RL 52 11 mX11_commit 0 := ⟨⟨qc_X11_commit, (gtb_in (List.mem_of_getElem? (i := 1456) (by decide +kernel)) (by decide +kernel)), qi_X11_commit, qs_X11_commit, zw_11⟩, ⟨_, _, rfl⟩, by decide, qd_X11_commit, by decide⟩
def mL_branch : MI := (yL_branch, cL_branch, 4, (some .int))
theorem qd_L_branch : dsc mL_branch.1 3 := ⟨by decide +kernel, by decide +kernel, by decide +kernel⟩
theorem dL_branch_0 : decode cL_branch 0 = .ok (.aload_n 2, 1) := by decide +kernel
theorem dL_branch_1 : decode cL_branch 1 = .ok (.iconst 0, 1) := by decide +kernel
theorem dL_branch_2 : decode cL_branch 2 = .ok (.aload_n 0, 1) := by decide +kernel
theorem dL_branch_3 : decode cL_branch 3 = .ok (.iload_n 1, 1) := by decide +kernel
theorem dL_branch_4 : decode cL_branch 4 = .ok (.invokevirtual 55, 3) := by decide +kernel
theorem dL_branch_7 : decode cL_branch 7 = .ok (.i2l, 1) := by decide +kernel
theorem dL_branch_8 : decode cL_branch 8 = .ok (.lastore, 1) := by decide +kernel
theorem dL_branch_9 : decode cL_branch 9 = .ok (.goto 9, 3) := by decide +kernel
theorem dL_branch_12 : decode cL_branch 12 = .ok (.astore_n 3, 1) := by decide +kernel
theorem dL_branch_13 : decode cL_branch 13 = .ok (.iconst 1, 1) := by decide +kernel
theorem dL_branch_14 : decode cL_branch 14 = .ok (.ireturn, 1) := by decide +kernel
theorem dL_branch_15 : decode cL_branch 15 = .ok (.astore_n 3, 1) := by decide +kernel
theorem dL_branch_16 : decode cL_branch 16 = .ok (.iconst 2, 1) := by decide +kernel
theorem dL_branch_17 : decode cL_branch 17 = .ok (.ireturn, 1) := by decide +kernel
theorem dL_branch_18 : decode cL_branch 18 = .ok (.iconst 0, 1) := by decide +kernel
theorem dL_branch_19 : decode cL_branch 19 = .ok (.ireturn, 1) := by decide +kernel
set_option maxRecDepth 20000 in
theorem vl_L_55 : VL RL 55 11 mX11_branch 1 := ⟨⟨qc_X11_branch, (gtb_in (List.mem_of_getElem? (i := 1463) (by decide +kernel)) (by decide +kernel)), qi_X11_branch, qs_X11_branch, zw_11⟩, ⟨_, _, rfl⟩, by decide, qd_X11_branch, by decide⟩
def mL_go : MI := (yL_go, cL_go, 4, (some .int))
theorem qd_L_go : dsc mL_go.1 3 := ⟨by decide +kernel, by decide +kernel, by decide +kernel⟩
theorem dL_go_0 : decode cL_go 0 = .ok (.aload_n 2, 1) := by decide +kernel
theorem dL_go_1 : decode cL_go 1 = .ok (.iconst 0, 1) := by decide +kernel
theorem dL_go_2 : decode cL_go 2 = .ok (.aload_n 0, 1) := by decide +kernel
theorem dL_go_3 : decode cL_go 3 = .ok (.iload_n 1, 1) := by decide +kernel
theorem dL_go_4 : decode cL_go 4 = .ok (.invokevirtual 59, 3) := by decide +kernel
theorem dL_go_7 : decode cL_go 7 = .ok (.i2l, 1) := by decide +kernel
theorem dL_go_8 : decode cL_go 8 = .ok (.lastore, 1) := by decide +kernel
theorem dL_go_9 : decode cL_go 9 = .ok (.goto 12, 3) := by decide +kernel
theorem dL_go_12 : decode cL_go 12 = .ok (.astore_n 3, 1) := by decide +kernel
theorem dL_go_13 : decode cL_go 13 = .ok (.iconst 1, 1) := by decide +kernel
theorem dL_go_14 : decode cL_go 14 = .ok (.ireturn, 1) := by decide +kernel
theorem dL_go_15 : decode cL_go 15 = .ok (.astore_n 3, 1) := by decide +kernel
theorem dL_go_16 : decode cL_go 16 = .ok (.iconst 2, 1) := by decide +kernel
theorem dL_go_17 : decode cL_go 17 = .ok (.ireturn, 1) := by decide +kernel
theorem dL_go_18 : decode cL_go 18 = .ok (.astore_n 3, 1) := by decide +kernel
theorem dL_go_19 : decode cL_go 19 = .ok (.iconst 3, 1) := by decide +kernel
theorem dL_go_20 : decode cL_go 20 = .ok (.ireturn, 1) := by decide +kernel
theorem dL_go_21 : decode cL_go 21 = .ok (.iconst 0, 1) := by decide +kernel
theorem dL_go_22 : decode cL_go 22 = .ok (.ireturn, 1) := by decide +kernel
set_option maxRecDepth 20000 in
theorem vl_L_59 : VL RL 59 11 mX11_go 1 := ⟨⟨qc_X11_go, (gtb_in (List.mem_of_getElem? (i := 1470) (by decide +kernel)) (by decide +kernel)), qi_X11_go, qs_X11_go, zw_11⟩, ⟨_, _, rfl⟩, by decide, qd_X11_go, by decide⟩
def mL_merge : MI := (yL_merge, cL_merge, 4, (some .int))
theorem qd_L_merge : dsc mL_merge.1 3 := ⟨by decide +kernel, by decide +kernel, by decide +kernel⟩
theorem dL_merge_0 : decode cL_merge 0 = .ok (.aload_n 2, 1) := by decide +kernel
theorem dL_merge_1 : decode cL_merge 1 = .ok (.iconst 0, 1) := by decide +kernel
theorem dL_merge_2 : decode cL_merge 2 = .ok (.aload_n 0, 1) := by decide +kernel
theorem dL_merge_3 : decode cL_merge 3 = .ok (.iload_n 1, 1) := by decide +kernel
theorem dL_merge_4 : decode cL_merge 4 = .ok (.invokevirtual 62, 3) := by decide +kernel
theorem dL_merge_7 : decode cL_merge 7 = .ok (.i2l, 1) := by decide +kernel
theorem dL_merge_8 : decode cL_merge 8 = .ok (.lastore, 1) := by decide +kernel
theorem dL_merge_9 : decode cL_merge 9 = .ok (.goto 15, 3) := by decide +kernel
theorem dL_merge_12 : decode cL_merge 12 = .ok (.astore_n 3, 1) := by decide +kernel
theorem dL_merge_13 : decode cL_merge 13 = .ok (.iconst 1, 1) := by decide +kernel
theorem dL_merge_14 : decode cL_merge 14 = .ok (.ireturn, 1) := by decide +kernel
theorem dL_merge_15 : decode cL_merge 15 = .ok (.astore_n 3, 1) := by decide +kernel
theorem dL_merge_16 : decode cL_merge 16 = .ok (.iconst 2, 1) := by decide +kernel
theorem dL_merge_17 : decode cL_merge 17 = .ok (.ireturn, 1) := by decide +kernel
theorem dL_merge_18 : decode cL_merge 18 = .ok (.astore_n 3, 1) := by decide +kernel
theorem dL_merge_19 : decode cL_merge 19 = .ok (.iconst 3, 1) := by decide +kernel
theorem dL_merge_20 : decode cL_merge 20 = .ok (.ireturn, 1) := by decide +kernel
theorem dL_merge_21 : decode cL_merge 21 = .ok (.astore_n 3, 1) := by decide +kernel
theorem dL_merge_22 : decode cL_merge 22 = .ok (.iconst 4, 1) := by decide +kernel
theorem dL_merge_23 : decode cL_merge 23 = .ok (.ireturn, 1) := by decide +kernel
theorem dL_merge_24 : decode cL_merge 24 = .ok (.iconst 0, 1) := by decide +kernel
theorem dL_merge_25 : decode cL_merge 25 = .ok (.ireturn, 1) := by decide +kernel
set_option maxRecDepth 20000 in
theorem vl_L_62 : VL RL 62 11 mX11_merge 1 := ⟨⟨qc_X11_merge, (gtb_in (List.mem_of_getElem? (i := 1482) (by decide +kernel)) (by decide +kernel)), qi_X11_merge, qs_X11_merge, zw_11⟩, ⟨_, _, rfl⟩, by decide, qd_X11_merge, by decide⟩
def mL_pick : MI := (yL_pick, cL_pick, 4, (some .int))
theorem qd_L_pick : dsc mL_pick.1 3 := ⟨by decide +kernel, by decide +kernel, by decide +kernel⟩
theorem dL_pick_0 : decode cL_pick 0 = .ok (.aload_n 2, 1) := by decide +kernel
theorem dL_pick_1 : decode cL_pick 1 = .ok (.iconst 0, 1) := by decide +kernel
theorem dL_pick_2 : decode cL_pick 2 = .ok (.aload_n 0, 1) := by decide +kernel
theorem dL_pick_3 : decode cL_pick 3 = .ok (.iload_n 1, 1) := by decide +kernel
theorem dL_pick_4 : decode cL_pick 4 = .ok (.invokevirtual 65, 3) := by decide +kernel
theorem dL_pick_7 : decode cL_pick 7 = .ok (.i2l, 1) := by decide +kernel
theorem dL_pick_8 : decode cL_pick 8 = .ok (.lastore, 1) := by decide +kernel
theorem dL_pick_9 : decode cL_pick 9 = .ok (.goto 12, 3) := by decide +kernel
theorem dL_pick_12 : decode cL_pick 12 = .ok (.astore_n 3, 1) := by decide +kernel
theorem dL_pick_13 : decode cL_pick 13 = .ok (.iconst 1, 1) := by decide +kernel
theorem dL_pick_14 : decode cL_pick 14 = .ok (.ireturn, 1) := by decide +kernel
theorem dL_pick_15 : decode cL_pick 15 = .ok (.astore_n 3, 1) := by decide +kernel
theorem dL_pick_16 : decode cL_pick 16 = .ok (.iconst 2, 1) := by decide +kernel
theorem dL_pick_17 : decode cL_pick 17 = .ok (.ireturn, 1) := by decide +kernel
theorem dL_pick_18 : decode cL_pick 18 = .ok (.astore_n 3, 1) := by decide +kernel
theorem dL_pick_19 : decode cL_pick 19 = .ok (.iconst 3, 1) := by decide +kernel
theorem dL_pick_20 : decode cL_pick 20 = .ok (.ireturn, 1) := by decide +kernel
theorem dL_pick_21 : decode cL_pick 21 = .ok (.iconst 0, 1) := by decide +kernel
theorem dL_pick_22 : decode cL_pick 22 = .ok (.ireturn, 1) := by decide +kernel
set_option maxRecDepth 20000 in
theorem vl_L_65 : VL RL 65 11 mX11_pick 1 := ⟨⟨qc_X11_pick, (gtb_in (List.mem_of_getElem? (i := 1580) (by decide +kernel)) (by decide +kernel)), qi_X11_pick, qs_X11_pick, zw_11⟩, ⟨_, _, rfl⟩, by decide, qd_X11_pick, by decide⟩
def mL_choose : MI := (yL_choose, cL_choose, 5, (some .int))
theorem qd_L_choose : dsc mL_choose.1 4 := ⟨by decide +kernel, by decide +kernel, by decide +kernel⟩
theorem dL_choose_0 : decode cL_choose 0 = .ok (.aload_n 3, 1) := by decide +kernel
theorem dL_choose_1 : decode cL_choose 1 = .ok (.iconst 0, 1) := by decide +kernel
theorem dL_choose_2 : decode cL_choose 2 = .ok (.aload_n 0, 1) := by decide +kernel
theorem dL_choose_3 : decode cL_choose 3 = .ok (.iload_n 1, 1) := by decide +kernel
theorem dL_choose_4 : decode cL_choose 4 = .ok (.iload_n 2, 1) := by decide +kernel
theorem dL_choose_5 : decode cL_choose 5 = .ok (.invokevirtual 68, 3) := by decide +kernel
theorem dL_choose_8 : decode cL_choose 8 = .ok (.i2l, 1) := by decide +kernel
theorem dL_choose_9 : decode cL_choose 9 = .ok (.lastore, 1) := by decide +kernel
theorem dL_choose_10 : decode cL_choose 10 = .ok (.goto 7, 3) := by decide +kernel
theorem dL_choose_13 : decode cL_choose 13 = .ok (.astore 4, 2) := by decide +kernel
theorem dL_choose_15 : decode cL_choose 15 = .ok (.iconst 1, 1) := by decide +kernel
theorem dL_choose_16 : decode cL_choose 16 = .ok (.ireturn, 1) := by decide +kernel
theorem dL_choose_17 : decode cL_choose 17 = .ok (.iconst 0, 1) := by decide +kernel
theorem dL_choose_18 : decode cL_choose 18 = .ok (.ireturn, 1) := by decide +kernel
set_option maxRecDepth 20000 in
theorem vl_L_68 : VL RL 68 11 mX11_choose 2 := ⟨⟨qc_X11_choose, (gtb_in (List.mem_of_getElem? (i := 1587) (by decide +kernel)) (by decide +kernel)), qi_X11_choose, qs_X11_choose, zw_11⟩, ⟨_, _, rfl⟩, by decide, qd_X11_choose, by decide⟩
def mL_diff : MI := (yL_diff, cL_diff, 5, (some .int))
theorem qd_L_diff : dsc mL_diff.1 4 := ⟨by decide +kernel, by decide +kernel, by decide +kernel⟩
theorem dL_diff_0 : decode cL_diff 0 = .ok (.aload_n 3, 1) := by decide +kernel
theorem dL_diff_1 : decode cL_diff 1 = .ok (.iconst 0, 1) := by decide +kernel
theorem dL_diff_2 : decode cL_diff 2 = .ok (.aload_n 0, 1) := by decide +kernel
theorem dL_diff_3 : decode cL_diff 3 = .ok (.iload_n 1, 1) := by decide +kernel
theorem dL_diff_4 : decode cL_diff 4 = .ok (.iload_n 2, 1) := by decide +kernel
theorem dL_diff_5 : decode cL_diff 5 = .ok (.invokevirtual 72, 3) := by decide +kernel
theorem dL_diff_8 : decode cL_diff 8 = .ok (.i2l, 1) := by decide +kernel
theorem dL_diff_9 : decode cL_diff 9 = .ok (.lastore, 1) := by decide +kernel
theorem dL_diff_10 : decode cL_diff 10 = .ok (.goto 7, 3) := by decide +kernel
theorem dL_diff_13 : decode cL_diff 13 = .ok (.astore 4, 2) := by decide +kernel
theorem dL_diff_15 : decode cL_diff 15 = .ok (.iconst 1, 1) := by decide +kernel
theorem dL_diff_16 : decode cL_diff 16 = .ok (.ireturn, 1) := by decide +kernel
theorem dL_diff_17 : decode cL_diff 17 = .ok (.iconst 0, 1) := by decide +kernel
theorem dL_diff_18 : decode cL_diff 18 = .ok (.ireturn, 1) := by decide +kernel
set_option maxRecDepth 20000 in
theorem vl_L_72 : VL RL 72 11 mX11_diff 2 := ⟨⟨qc_X11_diff, (gtb_in (List.mem_of_getElem? (i := 1598) (by decide +kernel)) (by decide +kernel)), qi_X11_diff, qs_X11_diff, zw_11⟩, ⟨_, _, rfl⟩, by decide, qd_X11_diff, by decide⟩
def mL_blame : MI := (yL_blame, cL_blame, 5, (some .int))
theorem qd_L_blame : dsc mL_blame.1 4 := ⟨by decide +kernel, by decide +kernel, by decide +kernel⟩
theorem dL_blame_0 : decode cL_blame 0 = .ok (.aload_n 3, 1) := by decide +kernel
theorem dL_blame_1 : decode cL_blame 1 = .ok (.iconst 0, 1) := by decide +kernel
theorem dL_blame_2 : decode cL_blame 2 = .ok (.aload_n 0, 1) := by decide +kernel
theorem dL_blame_3 : decode cL_blame 3 = .ok (.iload_n 1, 1) := by decide +kernel
theorem dL_blame_4 : decode cL_blame 4 = .ok (.iload_n 2, 1) := by decide +kernel
theorem dL_blame_5 : decode cL_blame 5 = .ok (.invokevirtual 75, 3) := by decide +kernel
theorem dL_blame_8 : decode cL_blame 8 = .ok (.i2l, 1) := by decide +kernel
theorem dL_blame_9 : decode cL_blame 9 = .ok (.lastore, 1) := by decide +kernel
theorem dL_blame_10 : decode cL_blame 10 = .ok (.goto 7, 3) := by decide +kernel
theorem dL_blame_13 : decode cL_blame 13 = .ok (.astore 4, 2) := by decide +kernel
theorem dL_blame_15 : decode cL_blame 15 = .ok (.iconst 1, 1) := by decide +kernel
theorem dL_blame_16 : decode cL_blame 16 = .ok (.ireturn, 1) := by decide +kernel
theorem dL_blame_17 : decode cL_blame 17 = .ok (.iconst 0, 1) := by decide +kernel
theorem dL_blame_18 : decode cL_blame 18 = .ok (.ireturn, 1) := by decide +kernel
set_option maxRecDepth 20000 in
theorem vl_L_75 : VL RL 75 11 mX11_blame 2 := ⟨⟨qc_X11_blame, (gtb_in (List.mem_of_getElem? (i := 1619) (by decide +kernel)) (by decide +kernel)), qi_X11_blame, qs_X11_blame, zw_11⟩, ⟨_, _, rfl⟩, by decide, qd_X11_blame, by decide⟩
