def nX1_0_4_0l : List (Nat × Cond) := [(212, (Jvm.Cond.code ({ cls := "SheetBranches$Content", name := "alike", desc := "(LSheetBranches$Content;LSheetBranches$Content;)Z" } : Jvm.MethodName) prog_3_method_2_code (3 : Nat) (Option.some Jvm.ClassFile.FieldType.boolean))), (211, (Jvm.Cond.static ({ cls := "SheetBranches$Content", name := "alike", desc := "(LSheetBranches$Content;LSheetBranches$Content;)Z" } : Jvm.MethodName))), (213, (Jvm.Cond.methodLink "SheetBranches$Content" (21 : Nat) ({ cls := "SheetBranches$Part", name := "isLike", desc := "(LSheetBranches$Part;)Z" } : Jvm.MethodName))), (218, (Jvm.Cond.methodLink "SheetBranches$Content" (27 : Nat) ({ cls := "SheetBranches$Value", name := "compared", desc := "(LSheetBranches$Value;)I" } : Jvm.MethodName)))]
set_option maxRecDepth 100000 in
theorem nX1_0_4_0 : nX1_0_4_0l.all (fun q => decide (tables_1_4[q.1]? = some q.2)) = true := by decide +kernel
def nX1_0_6_0l : List (Nat × Cond) := [(14, (Jvm.Cond.code ({ cls := "SheetBranches$Content", name := "<init>", desc := "(ILSheetBranches$Value;[LSheetBranches$Part;)V" } : Jvm.MethodName) prog_3_method_1_code (4 : Nat) (Option.none : Option Jvm.ClassFile.FieldType))), (13, (Jvm.Cond.instanceMethod ({ cls := "SheetBranches$Content", name := "<init>", desc := "(ILSheetBranches$Value;[LSheetBranches$Part;)V" } : Jvm.MethodName))), (15, (Jvm.Cond.methodLink "SheetBranches$Content" (1 : Nat) ({ cls := "java/lang/Object", name := "<init>", desc := "()V" } : Jvm.MethodName))), (16, (Jvm.Cond.fieldLink "SheetBranches$Content" (7 : Nat) "SheetBranches$Content" "kind" "I")), (20, (Jvm.Cond.fieldLink "SheetBranches$Content" (13 : Nat) "SheetBranches$Content" "literal" "LSheetBranches$Value;")), (23, (Jvm.Cond.fieldLink "SheetBranches$Content" (17 : Nat) "SheetBranches$Content" "parts" "[LSheetBranches$Part;"))]
set_option maxRecDepth 100000 in
theorem nX1_0_6_0 : nX1_0_6_0l.all (fun q => decide (tables_1_6[q.1]? = some q.2)) = true := by decide +kernel
def mX1_init : MI := (yX1_init, cX1_init, 4, none)
theorem qc_X1_init : Cond.code mX1_init.1 mX1_init.2.1 mX1_init.2.2.1 mX1_init.2.2.2 ∈ gtb := (gk tin_6 nX1_0_6_0 0 rfl (by decide +kernel))
theorem qi_X1_init : Cond.instanceMethod mX1_init.1 ∈ gtb := (gk tin_6 nX1_0_6_0 1 rfl (by decide +kernel))
theorem qd_X1_init : dsc mX1_init.1 3 := ⟨by decide +kernel, by decide +kernel, by decide +kernel⟩
def mX1_alike : MI := (yX1_alike, cX1_alike, 3, (some .boolean))
theorem qc_X1_alike : Cond.code mX1_alike.1 mX1_alike.2.1 mX1_alike.2.2.1 mX1_alike.2.2.2 ∈ gtb := (gk tin_4 nX1_0_4_0 0 rfl (by decide +kernel))
theorem qt_X1_alike : Cond.static mX1_alike.1 ∈ gtb := (gk tin_4 nX1_0_4_0 1 rfl (by decide +kernel))
theorem qd_X1_alike : dsc mX1_alike.1 2 := ⟨by decide +kernel, by decide +kernel, by decide +kernel⟩
theorem ol_X1_1 : Cond.methodLink RX1 1 objectInit ∈ gtb := (gk tin_6 nX1_0_6_0 2 rfl (by decide +kernel))
theorem fl_X1_7 : FL RX1 7 1 0 true := ⟨RX1, TX1, cl_1, by decide, (gk tin_6 nX1_0_6_0 3 rfl (by decide +kernel)), rfl⟩
theorem fl_X1_13 : FL RX1 13 1 1 true := ⟨RX1, TX1, cl_1, by decide, (gk tin_6 nX1_0_6_0 4 rfl (by decide +kernel)), rfl⟩
theorem fl_X1_17 : FL RX1 17 1 2 true := ⟨RX1, TX1, cl_1, by decide, (gk tin_6 nX1_0_6_0 5 rfl (by decide +kernel)), rfl⟩
theorem vl_X1_21 : VL RX1 21 4 mX4_isLike 1 := ⟨⟨qc_X4_isLike, (gk tin_4 nX1_0_4_0 2 rfl (by decide +kernel)), qi_X4_isLike, qs_X4_isLike, zw_4⟩, ⟨_, _, rfl⟩, by decide, qd_X4_isLike, by decide⟩
theorem vl_X1_27 : VL RX1 27 8 mX8_compared 1 := ⟨⟨qc_X8_compared, (gk tin_4 nX1_0_4_0 3 rfl (by decide +kernel)), qi_X8_compared, qs_X8_compared, zw_8⟩, ⟨_, _, rfl⟩, by decide, qd_X8_compared, by decide⟩
def tl_X1_init : List (Nat × Instr × Nat) := [(0, .aload_n 0, 1), (1, .invokespecial 1, 3), (4, .aload_n 0, 1), (5, .iload_n 1, 1), (6, .putfield 7, 3), (9, .aload_n 0, 1), (10, .aload_n 2, 1), (11, .putfield 13, 3), (14, .aload_n 0, 1), (15, .aload_n 3, 1), (16, .putfield 17, 3), (19, .return_, 1)]
set_option maxRecDepth 100000 in
theorem dt_X1_init : tl_X1_init.all (fun q => decide (decode cX1_init q.1 = .ok (q.2.1, q.2.2))) = true := by decide +kernel
def tl_X1_alike : List (Nat × Instr × Nat) := [(0, .aload_n 0, 1), (1, .ifnull 12, 3), (4, .aload_n 1, 1), (5, .ifnull 8, 3), (8, .aload_n 0, 1), (9, .aload_n 1, 1), (10, .if_acmp .ne 14, 3), (13, .aload_n 0, 1), (14, .aload_n 1, 1), (15, .if_acmp .ne 7, 3), (18, .iconst 1, 1), (19, .goto 4, 3), (22, .iconst 0, 1), (23, .ireturn, 1), (24, .aload_n 0, 1), (25, .getfield 7, 3), (28, .aload_n 1, 1), (29, .getfield 7, 3), (32, .if_icmp .ne 16, 3), (35, .aload_n 0, 1), (36, .getfield 17, 3), (39, .arraylength, 1), (40, .aload_n 1, 1), (41, .getfield 17, 3), (44, .arraylength, 1), (45, .if_icmp .eq 5, 3), (48, .iconst 0, 1), (49, .ireturn, 1), (50, .iconst 0, 1), (51, .istore_n 2, 1), (52, .iload_n 2, 1), (53, .aload_n 0, 1), (54, .getfield 17, 3), (57, .arraylength, 1), (58, .if_icmp .ge 29, 3), (61, .aload_n 0, 1), (62, .getfield 17, 3), (65, .iload_n 2, 1), (66, .aaload, 1), (67, .aload_n 1, 1), (68, .getfield 17, 3), (71, .iload_n 2, 1), (72, .aaload, 1), (73, .invokevirtual 21, 3), (76, .ifCond .ne 5, 3), (79, .iconst 0, 1), (80, .ireturn, 1), (81, .iinc 2 1, 3), (84, .goto (-32), 3), (87, .aload_n 0, 1), (88, .getfield 13, 3), (91, .ifnull 24, 3), (94, .aload_n 1, 1), (95, .getfield 13, 3), (98, .ifnull 17, 3), (101, .aload_n 0, 1), (102, .getfield 13, 3), (105, .aload_n 1, 1), (106, .getfield 13, 3), (109, .invokevirtual 27, 3), (112, .ifCond .ne 7, 3), (115, .iconst 1, 1), (116, .goto 4, 3), (119, .iconst 0, 1), (120, .ireturn, 1)]
set_option maxRecDepth 100000 in
theorem dt_X1_alike : tl_X1_alike.all (fun q => decide (decode cX1_alike q.1 = .ok (q.2.1, q.2.2))) = true := by decide +kernel
theorem dX1_alike_0 : decode cX1_alike 0 = .ok (.aload_n 0, 1) := dk dt_X1_alike 0 rfl
theorem dX1_alike_1 : decode cX1_alike 1 = .ok (.ifnull 12, 3) := dk dt_X1_alike 1 rfl
theorem dX1_alike_4 : decode cX1_alike 4 = .ok (.aload_n 1, 1) := dk dt_X1_alike 2 rfl
theorem dX1_alike_5 : decode cX1_alike 5 = .ok (.ifnull 8, 3) := dk dt_X1_alike 3 rfl
theorem dX1_alike_8 : decode cX1_alike 8 = .ok (.aload_n 0, 1) := dk dt_X1_alike 4 rfl
theorem dX1_alike_9 : decode cX1_alike 9 = .ok (.aload_n 1, 1) := dk dt_X1_alike 5 rfl
theorem dX1_alike_10 : decode cX1_alike 10 = .ok (.if_acmp .ne 14, 3) := dk dt_X1_alike 6 rfl
theorem dX1_alike_13 : decode cX1_alike 13 = .ok (.aload_n 0, 1) := dk dt_X1_alike 7 rfl
theorem dX1_alike_14 : decode cX1_alike 14 = .ok (.aload_n 1, 1) := dk dt_X1_alike 8 rfl
theorem dX1_alike_15 : decode cX1_alike 15 = .ok (.if_acmp .ne 7, 3) := dk dt_X1_alike 9 rfl
theorem dX1_alike_18 : decode cX1_alike 18 = .ok (.iconst 1, 1) := dk dt_X1_alike 10 rfl
theorem dX1_alike_19 : decode cX1_alike 19 = .ok (.goto 4, 3) := dk dt_X1_alike 11 rfl
theorem dX1_alike_22 : decode cX1_alike 22 = .ok (.iconst 0, 1) := dk dt_X1_alike 12 rfl
theorem dX1_alike_23 : decode cX1_alike 23 = .ok (.ireturn, 1) := dk dt_X1_alike 13 rfl
theorem dX1_alike_24 : decode cX1_alike 24 = .ok (.aload_n 0, 1) := dk dt_X1_alike 14 rfl
theorem dX1_alike_25 : decode cX1_alike 25 = .ok (.getfield 7, 3) := dk dt_X1_alike 15 rfl
theorem dX1_alike_28 : decode cX1_alike 28 = .ok (.aload_n 1, 1) := dk dt_X1_alike 16 rfl
theorem dX1_alike_29 : decode cX1_alike 29 = .ok (.getfield 7, 3) := dk dt_X1_alike 17 rfl
theorem dX1_alike_32 : decode cX1_alike 32 = .ok (.if_icmp .ne 16, 3) := dk dt_X1_alike 18 rfl
theorem dX1_alike_35 : decode cX1_alike 35 = .ok (.aload_n 0, 1) := dk dt_X1_alike 19 rfl
theorem dX1_alike_36 : decode cX1_alike 36 = .ok (.getfield 17, 3) := dk dt_X1_alike 20 rfl
theorem dX1_alike_39 : decode cX1_alike 39 = .ok (.arraylength, 1) := dk dt_X1_alike 21 rfl
theorem dX1_alike_40 : decode cX1_alike 40 = .ok (.aload_n 1, 1) := dk dt_X1_alike 22 rfl
theorem dX1_alike_41 : decode cX1_alike 41 = .ok (.getfield 17, 3) := dk dt_X1_alike 23 rfl
theorem dX1_alike_44 : decode cX1_alike 44 = .ok (.arraylength, 1) := dk dt_X1_alike 24 rfl
theorem dX1_alike_45 : decode cX1_alike 45 = .ok (.if_icmp .eq 5, 3) := dk dt_X1_alike 25 rfl
theorem dX1_alike_48 : decode cX1_alike 48 = .ok (.iconst 0, 1) := dk dt_X1_alike 26 rfl
theorem dX1_alike_49 : decode cX1_alike 49 = .ok (.ireturn, 1) := dk dt_X1_alike 27 rfl
theorem dX1_alike_50 : decode cX1_alike 50 = .ok (.iconst 0, 1) := dk dt_X1_alike 28 rfl
theorem dX1_alike_51 : decode cX1_alike 51 = .ok (.istore_n 2, 1) := dk dt_X1_alike 29 rfl
theorem dX1_alike_52 : decode cX1_alike 52 = .ok (.iload_n 2, 1) := dk dt_X1_alike 30 rfl
theorem dX1_alike_53 : decode cX1_alike 53 = .ok (.aload_n 0, 1) := dk dt_X1_alike 31 rfl
theorem dX1_alike_54 : decode cX1_alike 54 = .ok (.getfield 17, 3) := dk dt_X1_alike 32 rfl
theorem dX1_alike_57 : decode cX1_alike 57 = .ok (.arraylength, 1) := dk dt_X1_alike 33 rfl
theorem dX1_alike_58 : decode cX1_alike 58 = .ok (.if_icmp .ge 29, 3) := dk dt_X1_alike 34 rfl
theorem dX1_alike_61 : decode cX1_alike 61 = .ok (.aload_n 0, 1) := dk dt_X1_alike 35 rfl
theorem dX1_alike_62 : decode cX1_alike 62 = .ok (.getfield 17, 3) := dk dt_X1_alike 36 rfl
theorem dX1_alike_65 : decode cX1_alike 65 = .ok (.iload_n 2, 1) := dk dt_X1_alike 37 rfl
theorem dX1_alike_66 : decode cX1_alike 66 = .ok (.aaload, 1) := dk dt_X1_alike 38 rfl
theorem dX1_alike_67 : decode cX1_alike 67 = .ok (.aload_n 1, 1) := dk dt_X1_alike 39 rfl
theorem dX1_alike_68 : decode cX1_alike 68 = .ok (.getfield 17, 3) := dk dt_X1_alike 40 rfl
theorem dX1_alike_71 : decode cX1_alike 71 = .ok (.iload_n 2, 1) := dk dt_X1_alike 41 rfl
theorem dX1_alike_72 : decode cX1_alike 72 = .ok (.aaload, 1) := dk dt_X1_alike 42 rfl
theorem dX1_alike_73 : decode cX1_alike 73 = .ok (.invokevirtual 21, 3) := dk dt_X1_alike 43 rfl
theorem dX1_alike_76 : decode cX1_alike 76 = .ok (.ifCond .ne 5, 3) := dk dt_X1_alike 44 rfl
theorem dX1_alike_79 : decode cX1_alike 79 = .ok (.iconst 0, 1) := dk dt_X1_alike 45 rfl
theorem dX1_alike_80 : decode cX1_alike 80 = .ok (.ireturn, 1) := dk dt_X1_alike 46 rfl
theorem dX1_alike_81 : decode cX1_alike 81 = .ok (.iinc 2 1, 3) := dk dt_X1_alike 47 rfl
theorem dX1_alike_84 : decode cX1_alike 84 = .ok (.goto (-32), 3) := dk dt_X1_alike 48 rfl
theorem dX1_alike_87 : decode cX1_alike 87 = .ok (.aload_n 0, 1) := dk dt_X1_alike 49 rfl
theorem dX1_alike_88 : decode cX1_alike 88 = .ok (.getfield 13, 3) := dk dt_X1_alike 50 rfl
theorem dX1_alike_91 : decode cX1_alike 91 = .ok (.ifnull 24, 3) := dk dt_X1_alike 51 rfl
theorem dX1_alike_94 : decode cX1_alike 94 = .ok (.aload_n 1, 1) := dk dt_X1_alike 52 rfl
theorem dX1_alike_95 : decode cX1_alike 95 = .ok (.getfield 13, 3) := dk dt_X1_alike 53 rfl
theorem dX1_alike_98 : decode cX1_alike 98 = .ok (.ifnull 17, 3) := dk dt_X1_alike 54 rfl
theorem dX1_alike_101 : decode cX1_alike 101 = .ok (.aload_n 0, 1) := dk dt_X1_alike 55 rfl
theorem dX1_alike_102 : decode cX1_alike 102 = .ok (.getfield 13, 3) := dk dt_X1_alike 56 rfl
theorem dX1_alike_105 : decode cX1_alike 105 = .ok (.aload_n 1, 1) := dk dt_X1_alike 57 rfl
theorem dX1_alike_106 : decode cX1_alike 106 = .ok (.getfield 13, 3) := dk dt_X1_alike 58 rfl
theorem dX1_alike_109 : decode cX1_alike 109 = .ok (.invokevirtual 27, 3) := dk dt_X1_alike 59 rfl
theorem dX1_alike_112 : decode cX1_alike 112 = .ok (.ifCond .ne 7, 3) := dk dt_X1_alike 60 rfl
theorem dX1_alike_115 : decode cX1_alike 115 = .ok (.iconst 1, 1) := dk dt_X1_alike 61 rfl
theorem dX1_alike_116 : decode cX1_alike 116 = .ok (.goto 4, 3) := dk dt_X1_alike 62 rfl
theorem dX1_alike_119 : decode cX1_alike 119 = .ok (.iconst 0, 1) := dk dt_X1_alike 63 rfl
theorem dX1_alike_120 : decode cX1_alike 120 = .ok (.ireturn, 1) := dk dt_X1_alike 64 rfl
