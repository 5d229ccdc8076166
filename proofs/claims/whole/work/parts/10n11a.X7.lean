def nX7_0_2_0l : List Cond := [(Jvm.Cond.instanceMethod ({ cls := "SheetBranches$Steps", name := "<init>", desc := "()V" } : Jvm.MethodName)), (Jvm.Cond.code ({ cls := "SheetBranches$Steps", name := "<init>", desc := "()V" } : Jvm.MethodName) prog_9_method_1_code (1 : Nat) (Option.none : Option Jvm.ClassFile.FieldType)), (Jvm.Cond.methodLink "SheetBranches$Steps" (3 : Nat) ({ cls := "java/lang/Object", name := "<init>", desc := "()V" } : Jvm.MethodName)), (Jvm.Cond.classLink "SheetBranches$Steps" (9 : Nat) "SheetBranches$Sheet"), (Jvm.Cond.fieldLink "SheetBranches$Steps" (11 : Nat) "SheetBranches$Steps" "done" "[LSheetBranches$Sheet;"), (Jvm.Cond.fieldLink "SheetBranches$Steps" (17 : Nat) "SheetBranches$Steps" "undone" "[LSheetBranches$Sheet;"), (Jvm.Cond.fieldLink "SheetBranches$Steps" (20 : Nat) "SheetBranches$Steps" "doneCount" "I"), (Jvm.Cond.fieldLink "SheetBranches$Steps" (24 : Nat) "SheetBranches$Steps" "undoneCount" "I"), (Jvm.Cond.instanceMethod ({ cls := "SheetBranches$Steps", name := "forget", desc := "()V" } : Jvm.MethodName)), (Jvm.Cond.selects "SheetBranches$Steps" ({ cls := "SheetBranches$Steps", name := "forget", desc := "()V" } : Jvm.MethodName) ({ cls := "SheetBranches$Steps", name := "forget", desc := "()V" } : Jvm.MethodName)), (Jvm.Cond.code ({ cls := "SheetBranches$Steps", name := "forget", desc := "()V" } : Jvm.MethodName) prog_9_method_2_code (1 : Nat) (Option.none : Option Jvm.ClassFile.FieldType))]
set_option maxRecDepth 100000 in
theorem nX7_0_2_0 : pickL [60, 0, 0, 0, 0, 0, 0, 1, 136, 0, 0] tables_1_2 = nX7_0_2_0l := by rfl
def nX7_0_6_0l : List Cond := [(Jvm.Cond.instanceMethod ({ cls := "SheetBranches$Steps", name := "add", desc := "(LSheetBranches$Sheet;)V" } : Jvm.MethodName)), (Jvm.Cond.selects "SheetBranches$Steps" ({ cls := "SheetBranches$Steps", name := "add", desc := "(LSheetBranches$Sheet;)V" } : Jvm.MethodName) ({ cls := "SheetBranches$Steps", name := "add", desc := "(LSheetBranches$Sheet;)V" } : Jvm.MethodName)), (Jvm.Cond.code ({ cls := "SheetBranches$Steps", name := "add", desc := "(LSheetBranches$Sheet;)V" } : Jvm.MethodName) prog_9_method_3_code (3 : Nat) (Option.none : Option Jvm.ClassFile.FieldType)), (Jvm.Cond.instanceMethod ({ cls := "SheetBranches$Steps", name := "back", desc := "(LSheetBranches$Sheet;)LSheetBranches$Sheet;" } : Jvm.MethodName))]
set_option maxRecDepth 100000 in
theorem nX7_0_6_0 : pickL [85, 0, 0, 151] tables_1_6 = nX7_0_6_0l := by rfl
def nX7_0_7_0l : List Cond := [(Jvm.Cond.selects "SheetBranches$Steps" ({ cls := "SheetBranches$Steps", name := "back", desc := "(LSheetBranches$Sheet;)LSheetBranches$Sheet;" } : Jvm.MethodName) ({ cls := "SheetBranches$Steps", name := "back", desc := "(LSheetBranches$Sheet;)LSheetBranches$Sheet;" } : Jvm.MethodName)), (Jvm.Cond.code ({ cls := "SheetBranches$Steps", name := "back", desc := "(LSheetBranches$Sheet;)LSheetBranches$Sheet;" } : Jvm.MethodName) prog_9_method_4_code (2 : Nat) (Option.some (Jvm.ClassFile.FieldType.object "SheetBranches$Sheet"))), (Jvm.Cond.instanceMethod ({ cls := "SheetBranches$Steps", name := "again", desc := "(LSheetBranches$Sheet;)LSheetBranches$Sheet;" } : Jvm.MethodName)), (Jvm.Cond.selects "SheetBranches$Steps" ({ cls := "SheetBranches$Steps", name := "again", desc := "(LSheetBranches$Sheet;)LSheetBranches$Sheet;" } : Jvm.MethodName) ({ cls := "SheetBranches$Steps", name := "again", desc := "(LSheetBranches$Sheet;)LSheetBranches$Sheet;" } : Jvm.MethodName)), (Jvm.Cond.code ({ cls := "SheetBranches$Steps", name := "again", desc := "(LSheetBranches$Sheet;)LSheetBranches$Sheet;" } : Jvm.MethodName) prog_9_method_5_code (2 : Nat) (Option.some (Jvm.ClassFile.FieldType.object "SheetBranches$Sheet")))]
set_option maxRecDepth 100000 in
theorem nX7_0_7_0 : pickL [0, 0, 8, 0, 0] tables_1_7 = nX7_0_7_0l := by rfl
def mX7_init : MI := (yX7_init, cX7_init, 1, none)
theorem qc_X7_init : Cond.code mX7_init.1 mX7_init.2.1 mX7_init.2.2.1 mX7_init.2.2.2 ∈ gtb := (gk2 tin_2 nX7_0_2_0 1 rfl (by decide +kernel))
theorem qi_X7_init : Cond.instanceMethod mX7_init.1 ∈ gtb := (gk2 tin_2 nX7_0_2_0 0 rfl (by decide +kernel))
theorem qd_X7_init : dsc mX7_init.1 0 := ⟨by decide +kernel, by decide +kernel, by decide +kernel⟩
def mX7_forget : MI := (yX7_forget, cX7_forget, 1, none)
theorem qc_X7_forget : Cond.code mX7_forget.1 mX7_forget.2.1 mX7_forget.2.2.1 mX7_forget.2.2.2 ∈ gtb := (gk2 tin_2 nX7_0_2_0 10 rfl (by decide +kernel))
theorem qi_X7_forget : Cond.instanceMethod mX7_forget.1 ∈ gtb := (gk2 tin_2 nX7_0_2_0 8 rfl (by decide +kernel))
theorem qs_X7_forget : Cond.selects mX7_forget.1.cls mX7_forget.1 mX7_forget.1 ∈ gtb := (gk2 tin_2 nX7_0_2_0 9 rfl (by decide +kernel))
theorem qd_X7_forget : dsc mX7_forget.1 0 := ⟨by decide +kernel, by decide +kernel, by decide +kernel⟩
def mX7_add : MI := (yX7_add, cX7_add, 3, none)
theorem qc_X7_add : Cond.code mX7_add.1 mX7_add.2.1 mX7_add.2.2.1 mX7_add.2.2.2 ∈ gtb := (gk2 tin_6 nX7_0_6_0 2 rfl (by decide +kernel))
theorem qi_X7_add : Cond.instanceMethod mX7_add.1 ∈ gtb := (gk2 tin_6 nX7_0_6_0 0 rfl (by decide +kernel))
theorem qs_X7_add : Cond.selects mX7_add.1.cls mX7_add.1 mX7_add.1 ∈ gtb := (gk2 tin_6 nX7_0_6_0 1 rfl (by decide +kernel))
theorem qd_X7_add : dsc mX7_add.1 1 := ⟨by decide +kernel, by decide +kernel, by decide +kernel⟩
def mX7_back : MI := (yX7_back, cX7_back, 2, (some ((.object "SheetBranches$Sheet"))))
theorem qc_X7_back : Cond.code mX7_back.1 mX7_back.2.1 mX7_back.2.2.1 mX7_back.2.2.2 ∈ gtb := (gk2 tin_7 nX7_0_7_0 1 rfl (by decide +kernel))
theorem qi_X7_back : Cond.instanceMethod mX7_back.1 ∈ gtb := (gk2 tin_6 nX7_0_6_0 3 rfl (by decide +kernel))
theorem qs_X7_back : Cond.selects mX7_back.1.cls mX7_back.1 mX7_back.1 ∈ gtb := (gk2 tin_7 nX7_0_7_0 0 rfl (by decide +kernel))
theorem qd_X7_back : dsc mX7_back.1 1 := ⟨by decide +kernel, by decide +kernel, by decide +kernel⟩
def mX7_again : MI := (yX7_again, cX7_again, 2, (some ((.object "SheetBranches$Sheet"))))
theorem qc_X7_again : Cond.code mX7_again.1 mX7_again.2.1 mX7_again.2.2.1 mX7_again.2.2.2 ∈ gtb := (gk2 tin_7 nX7_0_7_0 4 rfl (by decide +kernel))
theorem qi_X7_again : Cond.instanceMethod mX7_again.1 ∈ gtb := (gk2 tin_7 nX7_0_7_0 2 rfl (by decide +kernel))
theorem qs_X7_again : Cond.selects mX7_again.1.cls mX7_again.1 mX7_again.1 ∈ gtb := (gk2 tin_7 nX7_0_7_0 3 rfl (by decide +kernel))
theorem qd_X7_again : dsc mX7_again.1 1 := ⟨by decide +kernel, by decide +kernel, by decide +kernel⟩
theorem ol_X7_3 : Cond.methodLink RX7 3 objectInit ∈ gtb := (gk2 tin_2 nX7_0_2_0 2 rfl (by decide +kernel))
theorem nl_X7_9 : Cond.classLink RX7 9 RX6 ∈ gtb := (gk2 tin_2 nX7_0_2_0 3 rfl (by decide +kernel))
theorem fl_X7_11 : FL RX7 11 7 0 true := ⟨RX7, TX7, cl_7, by decide, (gk2 tin_2 nX7_0_2_0 4 rfl (by decide +kernel)), rfl⟩
theorem fl_X7_17 : FL RX7 17 7 1 true := ⟨RX7, TX7, cl_7, by decide, (gk2 tin_2 nX7_0_2_0 5 rfl (by decide +kernel)), rfl⟩
theorem fl_X7_20 : FL RX7 20 7 2 false := ⟨RX7, TX7, cl_7, by decide, (gk2 tin_2 nX7_0_2_0 6 rfl (by decide +kernel)), rfl⟩
theorem fl_X7_24 : FL RX7 24 7 3 false := ⟨RX7, TX7, cl_7, by decide, (gk2 tin_2 nX7_0_2_0 7 rfl (by decide +kernel)), rfl⟩
def tl_X7_init : List (Nat × Instr × Nat) := [(0, .aload_n 0, 1), (1, .invokespecial 3, 3), (4, .aload_n 0, 1), (5, .bipush 40, 2), (7, .anewarray 9, 3), (10, .putfield 11, 3), (13, .aload_n 0, 1), (14, .bipush 40, 2), (16, .anewarray 9, 3), (19, .putfield 17, 3), (22, .return_, 1)]
set_option maxRecDepth 100000 in
theorem dt_X7_init : tl_X7_init.all (fun q => decide (decode cX7_init q.1 = .ok (q.2.1, q.2.2))) = true := by decide +kernel
def tl_X7_forget : List (Nat × Instr × Nat) := [(0, .aload_n 0, 1), (1, .iconst 0, 1), (2, .putfield 20, 3), (5, .aload_n 0, 1), (6, .iconst 0, 1), (7, .putfield 24, 3), (10, .return_, 1)]
set_option maxRecDepth 100000 in
theorem dt_X7_forget : tl_X7_forget.all (fun q => decide (decode cX7_forget q.1 = .ok (q.2.1, q.2.2))) = true := by decide +kernel
def tl_X7_add : List (Nat × Instr × Nat) := [(0, .aload_n 0, 1), (1, .iconst 0, 1), (2, .putfield 24, 3), (5, .aload_n 0, 1), (6, .getfield 20, 3), (9, .bipush 40, 2), (11, .if_icmp .lt 37, 3), (14, .iconst 1, 1), (15, .istore_n 2, 1), (16, .iload_n 2, 1), (17, .bipush 40, 2), (19, .if_icmp .ge 23, 3), (22, .aload_n 0, 1), (23, .getfield 11, 3), (26, .iload_n 2, 1), (27, .iconst 1, 1), (28, .isub, 1), (29, .aload_n 0, 1), (30, .getfield 11, 3), (33, .iload_n 2, 1), (34, .aaload, 1), (35, .aastore, 1), (36, .iinc 2 1, 3), (39, .goto (-23), 3), (42, .aload_n 0, 1), (43, .bipush 39, 2), (45, .putfield 20, 3), (48, .aload_n 0, 1), (49, .getfield 11, 3), (52, .aload_n 0, 1), (53, .getfield 20, 3), (56, .aload_n 1, 1), (57, .aastore, 1), (58, .aload_n 0, 1), (59, .dup, 1), (60, .getfield 20, 3), (63, .iconst 1, 1), (64, .iadd, 1), (65, .putfield 20, 3), (68, .return_, 1)]
set_option maxRecDepth 100000 in
theorem dt_X7_add : tl_X7_add.all (fun q => decide (decode cX7_add q.1 = .ok (q.2.1, q.2.2))) = true := by decide +kernel
def tl_X7_back : List (Nat × Instr × Nat) := [(0, .aload_n 0, 1), (1, .getfield 20, 3), (4, .iconst 1, 1), (5, .if_icmp .lt 12, 3), (8, .aload_n 0, 1), (9, .getfield 24, 3), (12, .bipush 40, 2), (14, .if_icmp .lt 5, 3), (17, .aload_n 1, 1), (18, .areturn, 1), (19, .aload_n 0, 1), (20, .dup, 1), (21, .getfield 20, 3), (24, .iconst 1, 1), (25, .isub, 1), (26, .putfield 20, 3), (29, .aload_n 0, 1), (30, .getfield 17, 3), (33, .aload_n 0, 1), (34, .getfield 24, 3), (37, .aload_n 1, 1), (38, .aastore, 1), (39, .aload_n 0, 1), (40, .dup, 1), (41, .getfield 24, 3), (44, .iconst 1, 1), (45, .iadd, 1), (46, .putfield 24, 3), (49, .aload_n 0, 1), (50, .getfield 11, 3), (53, .aload_n 0, 1), (54, .getfield 20, 3), (57, .aaload, 1), (58, .areturn, 1)]
set_option maxRecDepth 100000 in
theorem dt_X7_back : tl_X7_back.all (fun q => decide (decode cX7_back q.1 = .ok (q.2.1, q.2.2))) = true := by decide +kernel
def tl_X7_again : List (Nat × Instr × Nat) := [(0, .aload_n 0, 1), (1, .getfield 24, 3), (4, .iconst 1, 1), (5, .if_icmp .lt 12, 3), (8, .aload_n 0, 1), (9, .getfield 20, 3), (12, .bipush 40, 2), (14, .if_icmp .lt 5, 3), (17, .aload_n 1, 1), (18, .areturn, 1), (19, .aload_n 0, 1), (20, .dup, 1), (21, .getfield 24, 3), (24, .iconst 1, 1), (25, .isub, 1), (26, .putfield 24, 3), (29, .aload_n 0, 1), (30, .getfield 11, 3), (33, .aload_n 0, 1), (34, .getfield 20, 3), (37, .aload_n 1, 1), (38, .aastore, 1), (39, .aload_n 0, 1), (40, .dup, 1), (41, .getfield 20, 3), (44, .iconst 1, 1), (45, .iadd, 1), (46, .putfield 20, 3), (49, .aload_n 0, 1), (50, .getfield 17, 3), (53, .aload_n 0, 1), (54, .getfield 24, 3), (57, .aaload, 1), (58, .areturn, 1)]
set_option maxRecDepth 100000 in
theorem dt_X7_again : tl_X7_again.all (fun q => decide (decode cX7_again q.1 = .ok (q.2.1, q.2.2))) = true := by decide +kernel
