def nX0_0_7_0l : List Cond := [(Jvm.Cond.instanceMethod ({ cls := "SheetBranches$Conflict", name := "<init>", desc := "(IIIZLSheetBranches$Content;LSheetBranches$Content;)V" } : Jvm.MethodName)), (Jvm.Cond.code ({ cls := "SheetBranches$Conflict", name := "<init>", desc := "(IIIZLSheetBranches$Content;LSheetBranches$Content;)V" } : Jvm.MethodName) prog_2_method_1_code (7 : Nat) (Option.none : Option Jvm.ClassFile.FieldType)), (Jvm.Cond.methodLink "SheetBranches$Conflict" (1 : Nat) ({ cls := "java/lang/Object", name := "<init>", desc := "()V" } : Jvm.MethodName)), (Jvm.Cond.fieldLink "SheetBranches$Conflict" (7 : Nat) "SheetBranches$Conflict" "kind" "I"), (Jvm.Cond.fieldLink "SheetBranches$Conflict" (13 : Nat) "SheetBranches$Conflict" "row" "I"), (Jvm.Cond.fieldLink "SheetBranches$Conflict" (16 : Nat) "SheetBranches$Conflict" "column" "I"), (Jvm.Cond.fieldLink "SheetBranches$Conflict" (19 : Nat) "SheetBranches$Conflict" "isOurs" "Z"), (Jvm.Cond.fieldLink "SheetBranches$Conflict" (23 : Nat) "SheetBranches$Conflict" "our" "LSheetBranches$Content;"), (Jvm.Cond.fieldLink "SheetBranches$Conflict" (27 : Nat) "SheetBranches$Conflict" "their" "LSheetBranches$Content;")]
set_option maxRecDepth 100000 in
theorem nX0_0_7_0 : pickL [89, 0, 0, 0, 1, 1, 1, 1, 1] tables_1_7 = nX0_0_7_0l := by rfl
def mX0_init : MI := (yX0_init, cX0_init, 7, none)
theorem qc_X0_init : Cond.code mX0_init.1 mX0_init.2.1 mX0_init.2.2.1 mX0_init.2.2.2 ∈ gtb := (gk2 tin_7 nX0_0_7_0 1 rfl (by decide +kernel))
theorem qi_X0_init : Cond.instanceMethod mX0_init.1 ∈ gtb := (gk2 tin_7 nX0_0_7_0 0 rfl (by decide +kernel))
theorem qd_X0_init : dsc mX0_init.1 6 := ⟨by decide +kernel, by decide +kernel, by decide +kernel⟩
theorem ol_X0_1 : Cond.methodLink RX0 1 objectInit ∈ gtb := (gk2 tin_7 nX0_0_7_0 2 rfl (by decide +kernel))
theorem fl_X0_7 : FL RX0 7 0 0 true := ⟨RX0, TX0, cl_0, by decide, (gk2 tin_7 nX0_0_7_0 3 rfl (by decide +kernel)), rfl⟩
theorem fl_X0_13 : FL RX0 13 0 1 true := ⟨RX0, TX0, cl_0, by decide, (gk2 tin_7 nX0_0_7_0 4 rfl (by decide +kernel)), rfl⟩
theorem fl_X0_16 : FL RX0 16 0 2 true := ⟨RX0, TX0, cl_0, by decide, (gk2 tin_7 nX0_0_7_0 5 rfl (by decide +kernel)), rfl⟩
theorem fl_X0_19 : FL RX0 19 0 3 true := ⟨RX0, TX0, cl_0, by decide, (gk2 tin_7 nX0_0_7_0 6 rfl (by decide +kernel)), rfl⟩
theorem fl_X0_23 : FL RX0 23 0 4 true := ⟨RX0, TX0, cl_0, by decide, (gk2 tin_7 nX0_0_7_0 7 rfl (by decide +kernel)), rfl⟩
theorem fl_X0_27 : FL RX0 27 0 5 true := ⟨RX0, TX0, cl_0, by decide, (gk2 tin_7 nX0_0_7_0 8 rfl (by decide +kernel)), rfl⟩
def tl_X0_init : List (Nat × Instr × Nat) := [(0, .aload_n 0, 1), (1, .invokespecial 1, 3), (4, .aload_n 0, 1), (5, .iload_n 1, 1), (6, .putfield 7, 3), (9, .aload_n 0, 1), (10, .iload_n 2, 1), (11, .putfield 13, 3), (14, .aload_n 0, 1), (15, .iload_n 3, 1), (16, .putfield 16, 3), (19, .aload_n 0, 1), (20, .iload 4, 2), (22, .putfield 19, 3), (25, .aload_n 0, 1), (26, .aload 5, 2), (28, .putfield 23, 3), (31, .aload_n 0, 1), (32, .aload 6, 2), (34, .putfield 27, 3), (37, .return_, 1)]
set_option maxRecDepth 100000 in
theorem dt_X0_init : tl_X0_init.all (fun q => decide (decode cX0_init q.1 = .ok (q.2.1, q.2.2))) = true := by decide +kernel
