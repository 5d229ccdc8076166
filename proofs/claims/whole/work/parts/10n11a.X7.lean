def nX7_0_2_0l : List (Nat × Cond) := [(61, (Jvm.Cond.code ({ cls := "SheetBranches$Steps", name := "<init>", desc := "()V" } : Jvm.MethodName) prog_9_method_1_code (1 : Nat) (Option.none : Option Jvm.ClassFile.FieldType))), (60, (Jvm.Cond.instanceMethod ({ cls := "SheetBranches$Steps", name := "<init>", desc := "()V" } : Jvm.MethodName))), (207, (Jvm.Cond.code ({ cls := "SheetBranches$Steps", name := "forget", desc := "()V" } : Jvm.MethodName) prog_9_method_2_code (1 : Nat) (Option.none : Option Jvm.ClassFile.FieldType))), (205, (Jvm.Cond.instanceMethod ({ cls := "SheetBranches$Steps", name := "forget", desc := "()V" } : Jvm.MethodName))), (206, (Jvm.Cond.selects "SheetBranches$Steps" ({ cls := "SheetBranches$Steps", name := "forget", desc := "()V" } : Jvm.MethodName) ({ cls := "SheetBranches$Steps", name := "forget", desc := "()V" } : Jvm.MethodName))), (62, (Jvm.Cond.methodLink "SheetBranches$Steps" (3 : Nat) ({ cls := "java/lang/Object", name := "<init>", desc := "()V" } : Jvm.MethodName))), (63, (Jvm.Cond.classLink "SheetBranches$Steps" (9 : Nat) "SheetBranches$Sheet")), (64, (Jvm.Cond.fieldLink "SheetBranches$Steps" (11 : Nat) "SheetBranches$Steps" "done" "[LSheetBranches$Sheet;")), (65, (Jvm.Cond.fieldLink "SheetBranches$Steps" (17 : Nat) "SheetBranches$Steps" "undone" "[LSheetBranches$Sheet;")), (66, (Jvm.Cond.fieldLink "SheetBranches$Steps" (20 : Nat) "SheetBranches$Steps" "doneCount" "I")), (68, (Jvm.Cond.fieldLink "SheetBranches$Steps" (24 : Nat) "SheetBranches$Steps" "undoneCount" "I"))]
set_option maxRecDepth 100000 in
theorem nX7_0_2_0 : nX7_0_2_0l.all (fun q => decide (tables_1_2[q.1]? = some q.2)) = true := by decide +kernel
def nX7_0_6_0l : List (Nat × Cond) := [(87, (Jvm.Cond.code ({ cls := "SheetBranches$Steps", name := "add", desc := "(LSheetBranches$Sheet;)V" } : Jvm.MethodName) prog_9_method_3_code (3 : Nat) (Option.none : Option Jvm.ClassFile.FieldType))), (85, (Jvm.Cond.instanceMethod ({ cls := "SheetBranches$Steps", name := "add", desc := "(LSheetBranches$Sheet;)V" } : Jvm.MethodName))), (86, (Jvm.Cond.selects "SheetBranches$Steps" ({ cls := "SheetBranches$Steps", name := "add", desc := "(LSheetBranches$Sheet;)V" } : Jvm.MethodName) ({ cls := "SheetBranches$Steps", name := "add", desc := "(LSheetBranches$Sheet;)V" } : Jvm.MethodName))), (239, (Jvm.Cond.instanceMethod ({ cls := "SheetBranches$Steps", name := "back", desc := "(LSheetBranches$Sheet;)LSheetBranches$Sheet;" } : Jvm.MethodName)))]
set_option maxRecDepth 100000 in
theorem nX7_0_6_0 : nX7_0_6_0l.all (fun q => decide (tables_1_6[q.1]? = some q.2)) = true := by decide +kernel
def nX7_0_7_0l : List (Nat × Cond) := [(1, (Jvm.Cond.code ({ cls := "SheetBranches$Steps", name := "back", desc := "(LSheetBranches$Sheet;)LSheetBranches$Sheet;" } : Jvm.MethodName) prog_9_method_4_code (2 : Nat) (Option.some (Jvm.ClassFile.FieldType.object "SheetBranches$Sheet")))), (0, (Jvm.Cond.selects "SheetBranches$Steps" ({ cls := "SheetBranches$Steps", name := "back", desc := "(LSheetBranches$Sheet;)LSheetBranches$Sheet;" } : Jvm.MethodName) ({ cls := "SheetBranches$Steps", name := "back", desc := "(LSheetBranches$Sheet;)LSheetBranches$Sheet;" } : Jvm.MethodName))), (12, (Jvm.Cond.code ({ cls := "SheetBranches$Steps", name := "again", desc := "(LSheetBranches$Sheet;)LSheetBranches$Sheet;" } : Jvm.MethodName) prog_9_method_5_code (2 : Nat) (Option.some (Jvm.ClassFile.FieldType.object "SheetBranches$Sheet")))), (10, (Jvm.Cond.instanceMethod ({ cls := "SheetBranches$Steps", name := "again", desc := "(LSheetBranches$Sheet;)LSheetBranches$Sheet;" } : Jvm.MethodName))), (11, (Jvm.Cond.selects "SheetBranches$Steps" ({ cls := "SheetBranches$Steps", name := "again", desc := "(LSheetBranches$Sheet;)LSheetBranches$Sheet;" } : Jvm.MethodName) ({ cls := "SheetBranches$Steps", name := "again", desc := "(LSheetBranches$Sheet;)LSheetBranches$Sheet;" } : Jvm.MethodName)))]
set_option maxRecDepth 100000 in
theorem nX7_0_7_0 : nX7_0_7_0l.all (fun q => decide (tables_1_7[q.1]? = some q.2)) = true := by decide +kernel
def mX7_init : MI := (yX7_init, cX7_init, 1, none)
theorem qc_X7_init : Cond.code mX7_init.1 mX7_init.2.1 mX7_init.2.2.1 mX7_init.2.2.2 ∈ gtb := (gk tin_2 nX7_0_2_0 0 rfl (by decide +kernel))
theorem qi_X7_init : Cond.instanceMethod mX7_init.1 ∈ gtb := (gk tin_2 nX7_0_2_0 1 rfl (by decide +kernel))
theorem qd_X7_init : dsc mX7_init.1 0 := ⟨by decide +kernel, by decide +kernel, by decide +kernel⟩
def mX7_forget : MI := (yX7_forget, cX7_forget, 1, none)
theorem qc_X7_forget : Cond.code mX7_forget.1 mX7_forget.2.1 mX7_forget.2.2.1 mX7_forget.2.2.2 ∈ gtb := (gk tin_2 nX7_0_2_0 2 rfl (by decide +kernel))
theorem qi_X7_forget : Cond.instanceMethod mX7_forget.1 ∈ gtb := (gk tin_2 nX7_0_2_0 3 rfl (by decide +kernel))
theorem qs_X7_forget : Cond.selects mX7_forget.1.cls mX7_forget.1 mX7_forget.1 ∈ gtb := (gk tin_2 nX7_0_2_0 4 rfl (by decide +kernel))
theorem qd_X7_forget : dsc mX7_forget.1 0 := ⟨by decide +kernel, by decide +kernel, by decide +kernel⟩
def mX7_add : MI := (yX7_add, cX7_add, 3, none)
theorem qc_X7_add : Cond.code mX7_add.1 mX7_add.2.1 mX7_add.2.2.1 mX7_add.2.2.2 ∈ gtb := (gk tin_6 nX7_0_6_0 0 rfl (by decide +kernel))
theorem qi_X7_add : Cond.instanceMethod mX7_add.1 ∈ gtb := (gk tin_6 nX7_0_6_0 1 rfl (by decide +kernel))
theorem qs_X7_add : Cond.selects mX7_add.1.cls mX7_add.1 mX7_add.1 ∈ gtb := (gk tin_6 nX7_0_6_0 2 rfl (by decide +kernel))
theorem qd_X7_add : dsc mX7_add.1 1 := ⟨by decide +kernel, by decide +kernel, by decide +kernel⟩
def mX7_back : MI := (yX7_back, cX7_back, 2, (some ((.object "SheetBranches$Sheet"))))
theorem qc_X7_back : Cond.code mX7_back.1 mX7_back.2.1 mX7_back.2.2.1 mX7_back.2.2.2 ∈ gtb := (gk tin_7 nX7_0_7_0 0 rfl (by decide +kernel))
theorem qi_X7_back : Cond.instanceMethod mX7_back.1 ∈ gtb := (gk tin_6 nX7_0_6_0 3 rfl (by decide +kernel))
theorem qs_X7_back : Cond.selects mX7_back.1.cls mX7_back.1 mX7_back.1 ∈ gtb := (gk tin_7 nX7_0_7_0 1 rfl (by decide +kernel))
theorem qd_X7_back : dsc mX7_back.1 1 := ⟨by decide +kernel, by decide +kernel, by decide +kernel⟩
def mX7_again : MI := (yX7_again, cX7_again, 2, (some ((.object "SheetBranches$Sheet"))))
theorem qc_X7_again : Cond.code mX7_again.1 mX7_again.2.1 mX7_again.2.2.1 mX7_again.2.2.2 ∈ gtb := (gk tin_7 nX7_0_7_0 2 rfl (by decide +kernel))
theorem qi_X7_again : Cond.instanceMethod mX7_again.1 ∈ gtb := (gk tin_7 nX7_0_7_0 3 rfl (by decide +kernel))
theorem qs_X7_again : Cond.selects mX7_again.1.cls mX7_again.1 mX7_again.1 ∈ gtb := (gk tin_7 nX7_0_7_0 4 rfl (by decide +kernel))
theorem qd_X7_again : dsc mX7_again.1 1 := ⟨by decide +kernel, by decide +kernel, by decide +kernel⟩
theorem ol_X7_3 : Cond.methodLink RX7 3 objectInit ∈ gtb := (gk tin_2 nX7_0_2_0 5 rfl (by decide +kernel))
theorem nl_X7_9 : Cond.classLink RX7 9 RX6 ∈ gtb := (gk tin_2 nX7_0_2_0 6 rfl (by decide +kernel))
theorem fl_X7_11 : FL RX7 11 7 0 true := ⟨RX7, TX7, cl_7, by decide, (gk tin_2 nX7_0_2_0 7 rfl (by decide +kernel)), rfl⟩
theorem fl_X7_17 : FL RX7 17 7 1 true := ⟨RX7, TX7, cl_7, by decide, (gk tin_2 nX7_0_2_0 8 rfl (by decide +kernel)), rfl⟩
theorem fl_X7_20 : FL RX7 20 7 2 false := ⟨RX7, TX7, cl_7, by decide, (gk tin_2 nX7_0_2_0 9 rfl (by decide +kernel)), rfl⟩
theorem fl_X7_24 : FL RX7 24 7 3 false := ⟨RX7, TX7, cl_7, by decide, (gk tin_2 nX7_0_2_0 10 rfl (by decide +kernel)), rfl⟩
def tl_X7_init : List (Nat × Instr × Nat) := [(0, .aload_n 0, 1), (1, .invokespecial 3, 3), (4, .aload_n 0, 1), (5, .bipush 40, 2), (7, .anewarray 9, 3), (10, .putfield 11, 3), (13, .aload_n 0, 1), (14, .bipush 40, 2), (16, .anewarray 9, 3), (19, .putfield 17, 3), (22, .return_, 1)]
set_option maxRecDepth 100000 in
theorem dt_X7_init : tl_X7_init.all (fun q => decide (decode cX7_init q.1 = .ok (q.2.1, q.2.2))) = true := by decide +kernel
theorem dX7_init_0 : decode cX7_init 0 = .ok (.aload_n 0, 1) := dk dt_X7_init 0 rfl
theorem dX7_init_1 : decode cX7_init 1 = .ok (.invokespecial 3, 3) := dk dt_X7_init 1 rfl
theorem dX7_init_4 : decode cX7_init 4 = .ok (.aload_n 0, 1) := dk dt_X7_init 2 rfl
theorem dX7_init_5 : decode cX7_init 5 = .ok (.bipush 40, 2) := dk dt_X7_init 3 rfl
theorem dX7_init_7 : decode cX7_init 7 = .ok (.anewarray 9, 3) := dk dt_X7_init 4 rfl
theorem dX7_init_10 : decode cX7_init 10 = .ok (.putfield 11, 3) := dk dt_X7_init 5 rfl
theorem dX7_init_13 : decode cX7_init 13 = .ok (.aload_n 0, 1) := dk dt_X7_init 6 rfl
theorem dX7_init_14 : decode cX7_init 14 = .ok (.bipush 40, 2) := dk dt_X7_init 7 rfl
theorem dX7_init_16 : decode cX7_init 16 = .ok (.anewarray 9, 3) := dk dt_X7_init 8 rfl
theorem dX7_init_19 : decode cX7_init 19 = .ok (.putfield 17, 3) := dk dt_X7_init 9 rfl
theorem dX7_init_22 : decode cX7_init 22 = .ok (.return_, 1) := dk dt_X7_init 10 rfl
def tl_X7_forget : List (Nat × Instr × Nat) := [(0, .aload_n 0, 1), (1, .iconst 0, 1), (2, .putfield 20, 3), (5, .aload_n 0, 1), (6, .iconst 0, 1), (7, .putfield 24, 3), (10, .return_, 1)]
set_option maxRecDepth 100000 in
theorem dt_X7_forget : tl_X7_forget.all (fun q => decide (decode cX7_forget q.1 = .ok (q.2.1, q.2.2))) = true := by decide +kernel
theorem dX7_forget_0 : decode cX7_forget 0 = .ok (.aload_n 0, 1) := dk dt_X7_forget 0 rfl
theorem dX7_forget_1 : decode cX7_forget 1 = .ok (.iconst 0, 1) := dk dt_X7_forget 1 rfl
theorem dX7_forget_2 : decode cX7_forget 2 = .ok (.putfield 20, 3) := dk dt_X7_forget 2 rfl
theorem dX7_forget_5 : decode cX7_forget 5 = .ok (.aload_n 0, 1) := dk dt_X7_forget 3 rfl
theorem dX7_forget_6 : decode cX7_forget 6 = .ok (.iconst 0, 1) := dk dt_X7_forget 4 rfl
theorem dX7_forget_7 : decode cX7_forget 7 = .ok (.putfield 24, 3) := dk dt_X7_forget 5 rfl
theorem dX7_forget_10 : decode cX7_forget 10 = .ok (.return_, 1) := dk dt_X7_forget 6 rfl
def tl_X7_add : List (Nat × Instr × Nat) := [(0, .aload_n 0, 1), (1, .iconst 0, 1), (2, .putfield 24, 3), (5, .aload_n 0, 1), (6, .getfield 20, 3), (9, .bipush 40, 2), (11, .if_icmp .lt 37, 3), (14, .iconst 1, 1), (15, .istore_n 2, 1), (16, .iload_n 2, 1), (17, .bipush 40, 2), (19, .if_icmp .ge 23, 3), (22, .aload_n 0, 1), (23, .getfield 11, 3), (26, .iload_n 2, 1), (27, .iconst 1, 1), (28, .isub, 1), (29, .aload_n 0, 1), (30, .getfield 11, 3), (33, .iload_n 2, 1), (34, .aaload, 1), (35, .aastore, 1), (36, .iinc 2 1, 3), (39, .goto (-23), 3), (42, .aload_n 0, 1), (43, .bipush 39, 2), (45, .putfield 20, 3), (48, .aload_n 0, 1), (49, .getfield 11, 3), (52, .aload_n 0, 1), (53, .getfield 20, 3), (56, .aload_n 1, 1), (57, .aastore, 1), (58, .aload_n 0, 1), (59, .dup, 1), (60, .getfield 20, 3), (63, .iconst 1, 1), (64, .iadd, 1), (65, .putfield 20, 3), (68, .return_, 1)]
set_option maxRecDepth 100000 in
theorem dt_X7_add : tl_X7_add.all (fun q => decide (decode cX7_add q.1 = .ok (q.2.1, q.2.2))) = true := by decide +kernel
theorem dX7_add_0 : decode cX7_add 0 = .ok (.aload_n 0, 1) := dk dt_X7_add 0 rfl
theorem dX7_add_1 : decode cX7_add 1 = .ok (.iconst 0, 1) := dk dt_X7_add 1 rfl
theorem dX7_add_2 : decode cX7_add 2 = .ok (.putfield 24, 3) := dk dt_X7_add 2 rfl
theorem dX7_add_5 : decode cX7_add 5 = .ok (.aload_n 0, 1) := dk dt_X7_add 3 rfl
theorem dX7_add_6 : decode cX7_add 6 = .ok (.getfield 20, 3) := dk dt_X7_add 4 rfl
theorem dX7_add_9 : decode cX7_add 9 = .ok (.bipush 40, 2) := dk dt_X7_add 5 rfl
theorem dX7_add_11 : decode cX7_add 11 = .ok (.if_icmp .lt 37, 3) := dk dt_X7_add 6 rfl
theorem dX7_add_14 : decode cX7_add 14 = .ok (.iconst 1, 1) := dk dt_X7_add 7 rfl
theorem dX7_add_15 : decode cX7_add 15 = .ok (.istore_n 2, 1) := dk dt_X7_add 8 rfl
theorem dX7_add_16 : decode cX7_add 16 = .ok (.iload_n 2, 1) := dk dt_X7_add 9 rfl
theorem dX7_add_17 : decode cX7_add 17 = .ok (.bipush 40, 2) := dk dt_X7_add 10 rfl
theorem dX7_add_19 : decode cX7_add 19 = .ok (.if_icmp .ge 23, 3) := dk dt_X7_add 11 rfl
theorem dX7_add_22 : decode cX7_add 22 = .ok (.aload_n 0, 1) := dk dt_X7_add 12 rfl
theorem dX7_add_23 : decode cX7_add 23 = .ok (.getfield 11, 3) := dk dt_X7_add 13 rfl
theorem dX7_add_26 : decode cX7_add 26 = .ok (.iload_n 2, 1) := dk dt_X7_add 14 rfl
theorem dX7_add_27 : decode cX7_add 27 = .ok (.iconst 1, 1) := dk dt_X7_add 15 rfl
theorem dX7_add_28 : decode cX7_add 28 = .ok (.isub, 1) := dk dt_X7_add 16 rfl
theorem dX7_add_29 : decode cX7_add 29 = .ok (.aload_n 0, 1) := dk dt_X7_add 17 rfl
theorem dX7_add_30 : decode cX7_add 30 = .ok (.getfield 11, 3) := dk dt_X7_add 18 rfl
theorem dX7_add_33 : decode cX7_add 33 = .ok (.iload_n 2, 1) := dk dt_X7_add 19 rfl
theorem dX7_add_34 : decode cX7_add 34 = .ok (.aaload, 1) := dk dt_X7_add 20 rfl
theorem dX7_add_35 : decode cX7_add 35 = .ok (.aastore, 1) := dk dt_X7_add 21 rfl
theorem dX7_add_36 : decode cX7_add 36 = .ok (.iinc 2 1, 3) := dk dt_X7_add 22 rfl
theorem dX7_add_39 : decode cX7_add 39 = .ok (.goto (-23), 3) := dk dt_X7_add 23 rfl
theorem dX7_add_42 : decode cX7_add 42 = .ok (.aload_n 0, 1) := dk dt_X7_add 24 rfl
theorem dX7_add_43 : decode cX7_add 43 = .ok (.bipush 39, 2) := dk dt_X7_add 25 rfl
theorem dX7_add_45 : decode cX7_add 45 = .ok (.putfield 20, 3) := dk dt_X7_add 26 rfl
theorem dX7_add_48 : decode cX7_add 48 = .ok (.aload_n 0, 1) := dk dt_X7_add 27 rfl
theorem dX7_add_49 : decode cX7_add 49 = .ok (.getfield 11, 3) := dk dt_X7_add 28 rfl
theorem dX7_add_52 : decode cX7_add 52 = .ok (.aload_n 0, 1) := dk dt_X7_add 29 rfl
theorem dX7_add_53 : decode cX7_add 53 = .ok (.getfield 20, 3) := dk dt_X7_add 30 rfl
theorem dX7_add_56 : decode cX7_add 56 = .ok (.aload_n 1, 1) := dk dt_X7_add 31 rfl
theorem dX7_add_57 : decode cX7_add 57 = .ok (.aastore, 1) := dk dt_X7_add 32 rfl
theorem dX7_add_58 : decode cX7_add 58 = .ok (.aload_n 0, 1) := dk dt_X7_add 33 rfl
theorem dX7_add_59 : decode cX7_add 59 = .ok (.dup, 1) := dk dt_X7_add 34 rfl
theorem dX7_add_60 : decode cX7_add 60 = .ok (.getfield 20, 3) := dk dt_X7_add 35 rfl
theorem dX7_add_63 : decode cX7_add 63 = .ok (.iconst 1, 1) := dk dt_X7_add 36 rfl
theorem dX7_add_64 : decode cX7_add 64 = .ok (.iadd, 1) := dk dt_X7_add 37 rfl
theorem dX7_add_65 : decode cX7_add 65 = .ok (.putfield 20, 3) := dk dt_X7_add 38 rfl
theorem dX7_add_68 : decode cX7_add 68 = .ok (.return_, 1) := dk dt_X7_add 39 rfl
def tl_X7_back : List (Nat × Instr × Nat) := [(0, .aload_n 0, 1), (1, .getfield 20, 3), (4, .iconst 1, 1), (5, .if_icmp .lt 12, 3), (8, .aload_n 0, 1), (9, .getfield 24, 3), (12, .bipush 40, 2), (14, .if_icmp .lt 5, 3), (17, .aload_n 1, 1), (18, .areturn, 1), (19, .aload_n 0, 1), (20, .dup, 1), (21, .getfield 20, 3), (24, .iconst 1, 1), (25, .isub, 1), (26, .putfield 20, 3), (29, .aload_n 0, 1), (30, .getfield 17, 3), (33, .aload_n 0, 1), (34, .getfield 24, 3), (37, .aload_n 1, 1), (38, .aastore, 1), (39, .aload_n 0, 1), (40, .dup, 1), (41, .getfield 24, 3), (44, .iconst 1, 1), (45, .iadd, 1), (46, .putfield 24, 3), (49, .aload_n 0, 1), (50, .getfield 11, 3), (53, .aload_n 0, 1), (54, .getfield 20, 3), (57, .aaload, 1), (58, .areturn, 1)]
set_option maxRecDepth 100000 in
theorem dt_X7_back : tl_X7_back.all (fun q => decide (decode cX7_back q.1 = .ok (q.2.1, q.2.2))) = true := by decide +kernel
def tl_X7_again : List (Nat × Instr × Nat) := [(0, .aload_n 0, 1), (1, .getfield 24, 3), (4, .iconst 1, 1), (5, .if_icmp .lt 12, 3), (8, .aload_n 0, 1), (9, .getfield 20, 3), (12, .bipush 40, 2), (14, .if_icmp .lt 5, 3), (17, .aload_n 1, 1), (18, .areturn, 1), (19, .aload_n 0, 1), (20, .dup, 1), (21, .getfield 24, 3), (24, .iconst 1, 1), (25, .isub, 1), (26, .putfield 24, 3), (29, .aload_n 0, 1), (30, .getfield 11, 3), (33, .aload_n 0, 1), (34, .getfield 20, 3), (37, .aload_n 1, 1), (38, .aastore, 1), (39, .aload_n 0, 1), (40, .dup, 1), (41, .getfield 20, 3), (44, .iconst 1, 1), (45, .iadd, 1), (46, .putfield 20, 3), (49, .aload_n 0, 1), (50, .getfield 17, 3), (53, .aload_n 0, 1), (54, .getfield 24, 3), (57, .aaload, 1), (58, .areturn, 1)]
set_option maxRecDepth 100000 in
theorem dt_X7_again : tl_X7_again.all (fun q => decide (decode cX7_again q.1 = .ok (q.2.1, q.2.2))) = true := by decide +kernel
