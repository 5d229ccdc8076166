def nX2_0_1_0l : List Cond := [(Jvm.Cond.initialized "java/lang/Long"), (Jvm.Cond.instanceMethod ({ cls := "SheetBranches$Log", name := "<init>", desc := "()V" } : Jvm.MethodName)), (Jvm.Cond.code ({ cls := "SheetBranches$Log", name := "<init>", desc := "()V" } : Jvm.MethodName) prog_4_method_1_code (1 : Nat) (Option.none : Option Jvm.ClassFile.FieldType)), (Jvm.Cond.methodLink "SheetBranches$Log" (3 : Nat) ({ cls := "java/lang/Object", name := "<init>", desc := "()V" } : Jvm.MethodName)), (Jvm.Cond.classLink "SheetBranches$Log" (9 : Nat) "SheetBranches$Sheet"), (Jvm.Cond.fieldLink "SheetBranches$Log" (11 : Nat) "SheetBranches$Log" "sheets" "[LSheetBranches$Sheet;"), (Jvm.Cond.fieldLink "SheetBranches$Log" (17 : Nat) "SheetBranches$Log" "parents" "[I"), (Jvm.Cond.fieldLink "SheetBranches$Log" (21 : Nat) "SheetBranches$Log" "others" "[I"), (Jvm.Cond.fieldLink "SheetBranches$Log" (24 : Nat) "SheetBranches$Log" "ancestors" "[J"), (Jvm.Cond.fieldLink "SheetBranches$Log" (28 : Nat) "SheetBranches$Log" "count" "I")]
set_option maxRecDepth 100000 in
theorem nX2_0_1_0 : pickL [26, 143, 0, 0, 0, 1, 1, 1, 1, 0] tables_1_1 = nX2_0_1_0l := by rfl
def nX2_0_2_0l : List Cond := [(Jvm.Cond.instanceMethod ({ cls := "SheetBranches$Log", name := "add", desc := "(LSheetBranches$Sheet;II)I" } : Jvm.MethodName)), (Jvm.Cond.selects "SheetBranches$Log" ({ cls := "SheetBranches$Log", name := "add", desc := "(LSheetBranches$Sheet;II)I" } : Jvm.MethodName) ({ cls := "SheetBranches$Log", name := "add", desc := "(LSheetBranches$Sheet;II)I" } : Jvm.MethodName)), (Jvm.Cond.code ({ cls := "SheetBranches$Log", name := "add", desc := "(LSheetBranches$Sheet;II)I" } : Jvm.MethodName) prog_4_method_4_code (4 : Nat) (Option.some Jvm.ClassFile.FieldType.int)), (Jvm.Cond.methodLink "SheetBranches$Log" (32 : Nat) ({ cls := "SheetBranches$Log", name := "ancestorsOf", desc := "(I)J" } : Jvm.MethodName)), (Jvm.Cond.instanceMethod ({ cls := "SheetBranches$Log", name := "ancestorsOf", desc := "(I)J" } : Jvm.MethodName)), (Jvm.Cond.code ({ cls := "SheetBranches$Log", name := "ancestorsOf", desc := "(I)J" } : Jvm.MethodName) prog_4_method_3_code (2 : Nat) (Option.some Jvm.ClassFile.FieldType.long)), (Jvm.Cond.instanceMethod ({ cls := "SheetBranches$Log", name := "at", desc := "(I)LSheetBranches$Sheet;" } : Jvm.MethodName)), (Jvm.Cond.selects "SheetBranches$Log" ({ cls := "SheetBranches$Log", name := "at", desc := "(I)LSheetBranches$Sheet;" } : Jvm.MethodName) ({ cls := "SheetBranches$Log", name := "at", desc := "(I)LSheetBranches$Sheet;" } : Jvm.MethodName)), (Jvm.Cond.code ({ cls := "SheetBranches$Log", name := "at", desc := "(I)LSheetBranches$Sheet;" } : Jvm.MethodName) prog_4_method_2_code (2 : Nat) (Option.some (Jvm.ClassFile.FieldType.object "SheetBranches$Sheet"))), (Jvm.Cond.instanceMethod ({ cls := "SheetBranches$Log", name := "commonOf", desc := "(II)I" } : Jvm.MethodName)), (Jvm.Cond.selects "SheetBranches$Log" ({ cls := "SheetBranches$Log", name := "commonOf", desc := "(II)I" } : Jvm.MethodName) ({ cls := "SheetBranches$Log", name := "commonOf", desc := "(II)I" } : Jvm.MethodName)), (Jvm.Cond.code ({ cls := "SheetBranches$Log", name := "commonOf", desc := "(II)I" } : Jvm.MethodName) prog_4_method_5_code (3 : Nat) (Option.some Jvm.ClassFile.FieldType.int))]
set_option maxRecDepth 100000 in
theorem nX2_0_2_0 : pickL [116, 0, 0, 0, 1, 0, 90, 0, 0, 21, 0, 0] tables_1_2 = nX2_0_2_0l := by rfl
def nX2_0_3_0l : List Cond := [(Jvm.Cond.methodLink "SheetBranches$Log" (36 : Nat) ({ cls := "java/lang/Long", name := "numberOfLeadingZeros", desc := "(J)I" } : Jvm.MethodName))]
set_option maxRecDepth 100000 in
theorem nX2_0_3_0 : pickL [0] tables_1_3 = nX2_0_3_0l := by rfl
def nX2_0_7_0l : List Cond := [(Jvm.Cond.instanceMethod ({ cls := "SheetBranches$Log", name := "holds", desc := "(IIILSheetBranches$Content;)Z" } : Jvm.MethodName)), (Jvm.Cond.selects "SheetBranches$Log" ({ cls := "SheetBranches$Log", name := "holds", desc := "(IIILSheetBranches$Content;)Z" } : Jvm.MethodName) ({ cls := "SheetBranches$Log", name := "holds", desc := "(IIILSheetBranches$Content;)Z" } : Jvm.MethodName)), (Jvm.Cond.code ({ cls := "SheetBranches$Log", name := "holds", desc := "(IIILSheetBranches$Content;)Z" } : Jvm.MethodName) prog_4_method_6_code (6 : Nat) (Option.some Jvm.ClassFile.FieldType.boolean)), (Jvm.Cond.methodLink "SheetBranches$Log" (42 : Nat) ({ cls := "SheetBranches$Log", name := "at", desc := "(I)LSheetBranches$Sheet;" } : Jvm.MethodName)), (Jvm.Cond.methodLink "SheetBranches$Log" (46 : Nat) ({ cls := "SheetBranches$Sheet", name := "knows", desc := "(II)Z" } : Jvm.MethodName)), (Jvm.Cond.methodLink "SheetBranches$Log" (50 : Nat) ({ cls := "SheetBranches$Sheet", name := "of", desc := "(II)LSheetBranches$Content;" } : Jvm.MethodName)), (Jvm.Cond.methodLink "SheetBranches$Log" (54 : Nat) ({ cls := "SheetBranches$Content", name := "alike", desc := "(LSheetBranches$Content;LSheetBranches$Content;)Z" } : Jvm.MethodName))]
set_option maxRecDepth 100000 in
theorem nX2_0_7_0 : pickL [184, 0, 0, 0, 0, 0, 0] tables_1_7 = nX2_0_7_0l := by rfl
def nX2_0_s0l : List (Nat × (MethodName × Nat)) := [(0, (⟨"SheetBranches$Log", "ancestorsOf", "(I)J"⟩, 5))]
set_option maxRecDepth 100000 in
theorem nX2_0_s0 : nX2_0_s0l.all (fun q => decide (lw_privs[q.1]? = some q.2) && goodWord (Cond.selects q.2.1.cls q.2.1 q.2.1)) = true := by decide +kernel
def mX2_init : MI := (yX2_init, cX2_init, 1, none)
theorem qc_X2_init : Cond.code mX2_init.1 mX2_init.2.1 mX2_init.2.2.1 mX2_init.2.2.2 ∈ gtb := (gk2 tin_1 nX2_0_1_0 2 rfl (by decide +kernel))
theorem qi_X2_init : Cond.instanceMethod mX2_init.1 ∈ gtb := (gk2 tin_1 nX2_0_1_0 1 rfl (by decide +kernel))
theorem qd_X2_init : dsc mX2_init.1 0 := ⟨by decide +kernel, by decide +kernel, by decide +kernel⟩
def mX2_at : MI := (yX2_at, cX2_at, 2, (some ((.object "SheetBranches$Sheet"))))
theorem qc_X2_at : Cond.code mX2_at.1 mX2_at.2.1 mX2_at.2.2.1 mX2_at.2.2.2 ∈ gtb := (gk2 tin_2 nX2_0_2_0 8 rfl (by decide +kernel))
theorem qi_X2_at : Cond.instanceMethod mX2_at.1 ∈ gtb := (gk2 tin_2 nX2_0_2_0 6 rfl (by decide +kernel))
theorem qs_X2_at : Cond.selects mX2_at.1.cls mX2_at.1 mX2_at.1 ∈ gtb := (gk2 tin_2 nX2_0_2_0 7 rfl (by decide +kernel))
theorem qd_X2_at : dsc mX2_at.1 1 := ⟨by decide +kernel, by decide +kernel, by decide +kernel⟩
def mX2_ancestorsOf : MI := (yX2_ancestorsOf, cX2_ancestorsOf, 2, (some .long))
theorem qc_X2_ancestorsOf : Cond.code mX2_ancestorsOf.1 mX2_ancestorsOf.2.1 mX2_ancestorsOf.2.2.1 mX2_ancestorsOf.2.2.2 ∈ gtb := (gk2 tin_2 nX2_0_2_0 5 rfl (by decide +kernel))
theorem qi_X2_ancestorsOf : Cond.instanceMethod mX2_ancestorsOf.1 ∈ gtb := (gk2 tin_2 nX2_0_2_0 4 rfl (by decide +kernel))
theorem qs_X2_ancestorsOf : Cond.selects mX2_ancestorsOf.1.cls mX2_ancestorsOf.1 mX2_ancestorsOf.1 ∈ gtb := (sk nX2_0_s0 0 rfl)
theorem qd_X2_ancestorsOf : dsc mX2_ancestorsOf.1 1 := ⟨by decide +kernel, by decide +kernel, by decide +kernel⟩
def mX2_add : MI := (yX2_add, cX2_add, 4, (some .int))
theorem qc_X2_add : Cond.code mX2_add.1 mX2_add.2.1 mX2_add.2.2.1 mX2_add.2.2.2 ∈ gtb := (gk2 tin_2 nX2_0_2_0 2 rfl (by decide +kernel))
theorem qi_X2_add : Cond.instanceMethod mX2_add.1 ∈ gtb := (gk2 tin_2 nX2_0_2_0 0 rfl (by decide +kernel))
theorem qs_X2_add : Cond.selects mX2_add.1.cls mX2_add.1 mX2_add.1 ∈ gtb := (gk2 tin_2 nX2_0_2_0 1 rfl (by decide +kernel))
theorem qd_X2_add : dsc mX2_add.1 3 := ⟨by decide +kernel, by decide +kernel, by decide +kernel⟩
def mX2_commonOf : MI := (yX2_commonOf, cX2_commonOf, 3, (some .int))
theorem qc_X2_commonOf : Cond.code mX2_commonOf.1 mX2_commonOf.2.1 mX2_commonOf.2.2.1 mX2_commonOf.2.2.2 ∈ gtb := (gk2 tin_2 nX2_0_2_0 11 rfl (by decide +kernel))
theorem qi_X2_commonOf : Cond.instanceMethod mX2_commonOf.1 ∈ gtb := (gk2 tin_2 nX2_0_2_0 9 rfl (by decide +kernel))
theorem qs_X2_commonOf : Cond.selects mX2_commonOf.1.cls mX2_commonOf.1 mX2_commonOf.1 ∈ gtb := (gk2 tin_2 nX2_0_2_0 10 rfl (by decide +kernel))
theorem qd_X2_commonOf : dsc mX2_commonOf.1 2 := ⟨by decide +kernel, by decide +kernel, by decide +kernel⟩
def mX2_holds : MI := (yX2_holds, cX2_holds, 6, (some .boolean))
theorem qc_X2_holds : Cond.code mX2_holds.1 mX2_holds.2.1 mX2_holds.2.2.1 mX2_holds.2.2.2 ∈ gtb := (gk2 tin_7 nX2_0_7_0 2 rfl (by decide +kernel))
theorem qi_X2_holds : Cond.instanceMethod mX2_holds.1 ∈ gtb := (gk2 tin_7 nX2_0_7_0 0 rfl (by decide +kernel))
theorem qs_X2_holds : Cond.selects mX2_holds.1.cls mX2_holds.1 mX2_holds.1 ∈ gtb := (gk2 tin_7 nX2_0_7_0 1 rfl (by decide +kernel))
theorem qd_X2_holds : dsc mX2_holds.1 4 := ⟨by decide +kernel, by decide +kernel, by decide +kernel⟩
theorem ol_X2_3 : Cond.methodLink RX2 3 objectInit ∈ gtb := (gk2 tin_1 nX2_0_1_0 3 rfl (by decide +kernel))
theorem nl_X2_9 : Cond.classLink RX2 9 RX6 ∈ gtb := (gk2 tin_1 nX2_0_1_0 4 rfl (by decide +kernel))
theorem fl_X2_11 : FL RX2 11 2 0 true := ⟨RX2, TX2, cl_2, by decide, (gk2 tin_1 nX2_0_1_0 5 rfl (by decide +kernel)), rfl⟩
theorem fl_X2_17 : FL RX2 17 2 1 true := ⟨RX2, TX2, cl_2, by decide, (gk2 tin_1 nX2_0_1_0 6 rfl (by decide +kernel)), rfl⟩
theorem fl_X2_21 : FL RX2 21 2 2 true := ⟨RX2, TX2, cl_2, by decide, (gk2 tin_1 nX2_0_1_0 7 rfl (by decide +kernel)), rfl⟩
theorem fl_X2_24 : FL RX2 24 2 3 true := ⟨RX2, TX2, cl_2, by decide, (gk2 tin_1 nX2_0_1_0 8 rfl (by decide +kernel)), rfl⟩
theorem fl_X2_28 : FL RX2 28 2 4 false := ⟨RX2, TX2, cl_2, by decide, (gk2 tin_1 nX2_0_1_0 9 rfl (by decide +kernel)), rfl⟩
theorem vl_X2_32 : VL RX2 32 2 mX2_ancestorsOf 1 := ⟨⟨qc_X2_ancestorsOf, (gk2 tin_2 nX2_0_2_0 3 rfl (by decide +kernel)), qi_X2_ancestorsOf, qs_X2_ancestorsOf, zw_2⟩, ⟨_, _, rfl⟩, by decide, qd_X2_ancestorsOf, by decide⟩
theorem sl_X2_36 : SL RX2 36 mJ13_numberOfLeadingZeros_95d88 1 := ⟨⟨qc_J13_numberOfLeadingZeros_95d88, (gk2 tin_3 nX2_0_3_0 0 rfl (by decide +kernel)), qt_J13_numberOfLeadingZeros_95d88, (gk2 tin_1 nX2_0_1_0 0 rfl (by decide +kernel))⟩, qd_J13_numberOfLeadingZeros_95d88, by decide⟩
theorem vl_X2_42 : VL RX2 42 2 mX2_at 1 := ⟨⟨qc_X2_at, (gk2 tin_7 nX2_0_7_0 3 rfl (by decide +kernel)), qi_X2_at, qs_X2_at, zw_2⟩, ⟨_, _, rfl⟩, by decide, qd_X2_at, by decide⟩
theorem vl_X2_46 : VL RX2 46 6 mX6_knows 2 := ⟨⟨qc_X6_knows, (gk2 tin_7 nX2_0_7_0 4 rfl (by decide +kernel)), qi_X6_knows, qs_X6_knows, zw_6⟩, ⟨_, _, rfl⟩, by decide, qd_X6_knows, by decide⟩
theorem vl_X2_50 : VL RX2 50 6 mX6_of 2 := ⟨⟨qc_X6_of, (gk2 tin_7 nX2_0_7_0 5 rfl (by decide +kernel)), qi_X6_of, qs_X6_of, zw_6⟩, ⟨_, _, rfl⟩, by decide, qd_X6_of, by decide⟩
theorem sl_X2_54 : SL RX2 54 mX1_alike 2 := ⟨⟨qc_X1_alike, (gk2 tin_7 nX2_0_7_0 6 rfl (by decide +kernel)), qt_X1_alike, zw_1⟩, qd_X1_alike, by decide⟩
def tl_X2_init : List (Nat × Instr × Nat) := [(0, .aload_n 0, 1), (1, .invokespecial 3, 3), (4, .aload_n 0, 1), (5, .bipush 40, 2), (7, .anewarray 9, 3), (10, .putfield 11, 3), (13, .aload_n 0, 1), (14, .bipush 40, 2), (16, .newarray .int, 2), (18, .putfield 17, 3), (21, .aload_n 0, 1), (22, .bipush 40, 2), (24, .newarray .int, 2), (26, .putfield 21, 3), (29, .aload_n 0, 1), (30, .bipush 40, 2), (32, .newarray .long, 2), (34, .putfield 24, 3), (37, .return_, 1)]
set_option maxRecDepth 100000 in
theorem dt_X2_init : tl_X2_init.all (fun q => decide (decode cX2_init q.1 = .ok (q.2.1, q.2.2))) = true := by decide +kernel
def tl_X2_at : List (Nat × Instr × Nat) := [(0, .iload_n 1, 1), (1, .ifCond .lt 20, 3), (4, .iload_n 1, 1), (5, .aload_n 0, 1), (6, .getfield 28, 3), (9, .if_icmp .ge 12, 3), (12, .aload_n 0, 1), (13, .getfield 11, 3), (16, .iload_n 1, 1), (17, .aaload, 1), (18, .goto 4, 3), (21, .aconst_null, 1), (22, .areturn, 1)]
set_option maxRecDepth 100000 in
theorem dt_X2_at : tl_X2_at.all (fun q => decide (decode cX2_at q.1 = .ok (q.2.1, q.2.2))) = true := by decide +kernel
def tl_X2_ancestorsOf : List (Nat × Instr × Nat) := [(0, .iload_n 1, 1), (1, .ifCond .lt 20, 3), (4, .iload_n 1, 1), (5, .aload_n 0, 1), (6, .getfield 28, 3), (9, .if_icmp .ge 12, 3), (12, .aload_n 0, 1), (13, .getfield 24, 3), (16, .iload_n 1, 1), (17, .laload, 1), (18, .goto 4, 3), (21, .lconst 0, 1), (22, .lreturn, 1)]
set_option maxRecDepth 100000 in
theorem dt_X2_ancestorsOf : tl_X2_ancestorsOf.all (fun q => decide (decode cX2_ancestorsOf q.1 = .ok (q.2.1, q.2.2))) = true := by decide +kernel
def tl_X2_add : List (Nat × Instr × Nat) := [(0, .aload_n 0, 1), (1, .getfield 28, 3), (4, .bipush 40, 2), (6, .if_icmp .lt 5, 3), (9, .iconst (-1), 1), (10, .ireturn, 1), (11, .aload_n 0, 1), (12, .getfield 11, 3), (15, .aload_n 0, 1), (16, .getfield 28, 3), (19, .aload_n 1, 1), (20, .aastore, 1), (21, .aload_n 0, 1), (22, .getfield 17, 3), (25, .aload_n 0, 1), (26, .getfield 28, 3), (29, .iload_n 2, 1), (30, .iastore, 1), (31, .aload_n 0, 1), (32, .getfield 21, 3), (35, .aload_n 0, 1), (36, .getfield 28, 3), (39, .iload_n 3, 1), (40, .iastore, 1), (41, .aload_n 0, 1), (42, .getfield 24, 3), (45, .aload_n 0, 1), (46, .getfield 28, 3), (49, .lconst 1, 1), (50, .aload_n 0, 1), (51, .getfield 28, 3), (54, .lshl, 1), (55, .aload_n 0, 1), (56, .iload_n 2, 1), (57, .invokevirtual 32, 3), (60, .lor, 1), (61, .aload_n 0, 1), (62, .iload_n 3, 1), (63, .invokevirtual 32, 3), (66, .lor, 1), (67, .lastore, 1), (68, .aload_n 0, 1), (69, .dup, 1), (70, .getfield 28, 3), (73, .iconst 1, 1), (74, .iadd, 1), (75, .putfield 28, 3), (78, .aload_n 0, 1), (79, .getfield 28, 3), (82, .iconst 1, 1), (83, .isub, 1), (84, .ireturn, 1)]
set_option maxRecDepth 100000 in
theorem dt_X2_add : tl_X2_add.all (fun q => decide (decode cX2_add q.1 = .ok (q.2.1, q.2.2))) = true := by decide +kernel
def tl_X2_commonOf : List (Nat × Instr × Nat) := [(0, .bipush 63, 2), (2, .aload_n 0, 1), (3, .iload_n 1, 1), (4, .invokevirtual 32, 3), (7, .aload_n 0, 1), (8, .iload_n 2, 1), (9, .invokevirtual 32, 3), (12, .land, 1), (13, .invokestatic 36, 3), (16, .isub, 1), (17, .ireturn, 1)]
set_option maxRecDepth 100000 in
theorem dt_X2_commonOf : tl_X2_commonOf.all (fun q => decide (decode cX2_commonOf q.1 = .ok (q.2.1, q.2.2))) = true := by decide +kernel
def tl_X2_holds : List (Nat × Instr × Nat) := [(0, .aload_n 0, 1), (1, .iload_n 1, 1), (2, .invokevirtual 42, 3), (5, .astore 5, 2), (7, .aload 5, 2), (9, .ifnull 32, 3), (12, .aload 5, 2), (14, .iload_n 2, 1), (15, .iload_n 3, 1), (16, .invokevirtual 46, 3), (19, .ifCond .eq 22, 3), (22, .aload 5, 2), (24, .iload_n 2, 1), (25, .iload_n 3, 1), (26, .invokevirtual 50, 3), (29, .aload 4, 2), (31, .invokestatic 54, 3), (34, .ifCond .eq 7, 3), (37, .iconst 1, 1), (38, .goto 4, 3), (41, .iconst 0, 1), (42, .ireturn, 1)]
set_option maxRecDepth 100000 in
theorem dt_X2_holds : tl_X2_holds.all (fun q => decide (decode cX2_holds q.1 = .ok (q.2.1, q.2.2))) = true := by decide +kernel
