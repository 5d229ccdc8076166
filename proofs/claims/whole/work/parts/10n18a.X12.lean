def nX12_0_7_0l : List (Nat × Cond) := [(195, (Jvm.Cond.code ({ cls := "SheetBranchesModel", name := "<init>", desc := "()V" } : Jvm.MethodName) prog_14_method_1_code (2 : Nat) (Option.none : Option Jvm.ClassFile.FieldType))), (194, (Jvm.Cond.instanceMethod ({ cls := "SheetBranchesModel", name := "<init>", desc := "()V" } : Jvm.MethodName))), (204, (Jvm.Cond.code ({ cls := "SheetBranchesModel", name := "copySheet", desc := "(II)V" } : Jvm.MethodName) prog_14_method_5_code (4 : Nat) (Option.none : Option Jvm.ClassFile.FieldType))), (203, (Jvm.Cond.instanceMethod ({ cls := "SheetBranchesModel", name := "copySheet", desc := "(II)V" } : Jvm.MethodName))), (196, (Jvm.Cond.methodLink "SheetBranchesModel" (1 : Nat) ({ cls := "java/lang/Object", name := "<init>", desc := "()V" } : Jvm.MethodName))), (206, (Jvm.Cond.fieldLink "SheetBranchesModel" (7 : Nat) "SheetBranchesModel" "rowsOf" "[I")), (207, (Jvm.Cond.fieldLink "SheetBranchesModel" (13 : Nat) "SheetBranchesModel" "colsOf" "[I")), (208, (Jvm.Cond.fieldLink "SheetBranchesModel" (16 : Nat) "SheetBranchesModel" "rowIds" "[I")), (209, (Jvm.Cond.fieldLink "SheetBranchesModel" (19 : Nat) "SheetBranchesModel" "colIds" "[I")), (197, (Jvm.Cond.constant "SheetBranchesModel" (22 : Nat) (39040 : Int32))), (210, (Jvm.Cond.fieldLink "SheetBranchesModel" (23 : Nat) "SheetBranchesModel" "cells" "[I")), (211, (Jvm.Cond.fieldLink "SheetBranchesModel" (26 : Nat) "SheetBranchesModel" "newRow" "I")), (212, (Jvm.Cond.fieldLink "SheetBranchesModel" (30 : Nat) "SheetBranchesModel" "newCol" "I")), (213, (Jvm.Cond.fieldLink "SheetBranchesModel" (33 : Nat) "SheetBranchesModel" "versions" "I")), (214, (Jvm.Cond.fieldLink "SheetBranchesModel" (36 : Nat) "SheetBranchesModel" "parent" "[I")), (215, (Jvm.Cond.fieldLink "SheetBranchesModel" (39 : Nat) "SheetBranchesModel" "otherParent" "[I")), (216, (Jvm.Cond.fieldLink "SheetBranchesModel" (42 : Nat) "SheetBranchesModel" "branchAt" "[I")), (218, (Jvm.Cond.fieldLink "SheetBranchesModel" (45 : Nat) "SheetBranchesModel" "merging" "I")), (198, (Jvm.Cond.constant "SheetBranchesModel" (48 : Nat) (82400 : Int32))), (223, (Jvm.Cond.fieldLink "SheetBranchesModel" (49 : Nat) "SheetBranchesModel" "letters" "[B")), (225, (Jvm.Cond.fieldLink "SheetBranchesModel" (53 : Nat) "SheetBranchesModel" "plainKind" "[I")), (226, (Jvm.Cond.fieldLink "SheetBranchesModel" (56 : Nat) "SheetBranchesModel" "plainNumber" "[J")), (227, (Jvm.Cond.fieldLink "SheetBranchesModel" (60 : Nat) "SheetBranchesModel" "plainAt" "[I")), (228, (Jvm.Cond.fieldLink "SheetBranchesModel" (63 : Nat) "SheetBranchesModel" "plainLong" "[I")), (199, (Jvm.Cond.constant "SheetBranchesModel" (66 : Nat) (60420 : Int32))), (231, (Jvm.Cond.fieldLink "SheetBranchesModel" (67 : Nat) "SheetBranchesModel" "partKind" "[I")), (232, (Jvm.Cond.fieldLink "SheetBranchesModel" (70 : Nat) "SheetBranchesModel" "partArgs" "[I")), (233, (Jvm.Cond.fieldLink "SheetBranchesModel" (73 : Nat) "SheetBranchesModel" "partSpan" "[I")), (234, (Jvm.Cond.fieldLink "SheetBranchesModel" (76 : Nat) "SheetBranchesModel" "partNumber" "[J")), (235, (Jvm.Cond.fieldLink "SheetBranchesModel" (79 : Nat) "SheetBranchesModel" "partAt" "[I")), (236, (Jvm.Cond.fieldLink "SheetBranchesModel" (82 : Nat) "SheetBranchesModel" "partLong" "[I")), (237, (Jvm.Cond.fieldLink "SheetBranchesModel" (85 : Nat) "SheetBranchesModel" "rowOne" "[I")), (238, (Jvm.Cond.fieldLink "SheetBranchesModel" (88 : Nat) "SheetBranchesModel" "colOne" "[I")), (239, (Jvm.Cond.fieldLink "SheetBranchesModel" (91 : Nat) "SheetBranchesModel" "rowTwo" "[I")), (200, (Jvm.Cond.constant "SheetBranchesModel" (118 : Nat) (314880 : Int32))), (201, (Jvm.Cond.methodLink "SheetBranchesModel" (198 : Nat) ({ cls := "SheetBranchesModel", name := "copySheet", desc := "(II)V" } : Jvm.MethodName))), (205, (Jvm.Cond.fieldLink "SheetBranchesModel" (202 : Nat) "SheetBranchesModel" "thrown" "I")), (220, (Jvm.Cond.fieldLink "SheetBranchesModel" (224 : Nat) "SheetBranchesModel" "firstStep" "I")), (221, (Jvm.Cond.fieldLink "SheetBranchesModel" (227 : Nat) "SheetBranchesModel" "undos" "I")), (222, (Jvm.Cond.fieldLink "SheetBranchesModel" (230 : Nat) "SheetBranchesModel" "redos" "I")), (229, (Jvm.Cond.fieldLink "SheetBranchesModel" (252 : Nat) "SheetBranchesModel" "plains" "I")), (224, (Jvm.Cond.fieldLink "SheetBranchesModel" (255 : Nat) "SheetBranchesModel" "lettersUsed" "I"))]
set_option maxRecDepth 100000 in
theorem nX12_0_7_0 : nX12_0_7_0l.all (fun q => decide (tables_1_7[q.1]? = some q.2)) = true := by decide +kernel
def nX12_0_8_0l : List (Nat × Cond) := [(0, (Jvm.Cond.fieldLink "SheetBranchesModel" (94 : Nat) "SheetBranchesModel" "colTwo" "[I")), (1, (Jvm.Cond.fieldLink "SheetBranchesModel" (97 : Nat) "SheetBranchesModel" "partFixed" "[I")), (2, (Jvm.Cond.fieldLink "SheetBranchesModel" (100 : Nat) "SheetBranchesModel" "partVersion" "[I")), (3, (Jvm.Cond.fieldLink "SheetBranchesModel" (103 : Nat) "SheetBranchesModel" "formulaSize" "[I")), (4, (Jvm.Cond.fieldLink "SheetBranchesModel" (106 : Nat) "SheetBranchesModel" "tape" "[I")), (25, (Jvm.Cond.fieldLink "SheetBranchesModel" (109 : Nat) "SheetBranchesModel" "cellKind" "[I")), (26, (Jvm.Cond.fieldLink "SheetBranchesModel" (112 : Nat) "SheetBranchesModel" "cellNumber" "[J")), (27, (Jvm.Cond.fieldLink "SheetBranchesModel" (115 : Nat) "SheetBranchesModel" "cellLong" "[I")), (28, (Jvm.Cond.fieldLink "SheetBranchesModel" (119 : Nat) "SheetBranchesModel" "cellText" "[B")), (29, (Jvm.Cond.fieldLink "SheetBranchesModel" (122 : Nat) "SheetBranchesModel" "valued" "[Z")), (31, (Jvm.Cond.fieldLink "SheetBranchesModel" (126 : Nat) "SheetBranchesModel" "handKind" "[I")), (32, (Jvm.Cond.fieldLink "SheetBranchesModel" (129 : Nat) "SheetBranchesModel" "handNumber" "[J")), (33, (Jvm.Cond.fieldLink "SheetBranchesModel" (132 : Nat) "SheetBranchesModel" "handLong" "[I")), (34, (Jvm.Cond.fieldLink "SheetBranchesModel" (135 : Nat) "SheetBranchesModel" "handText" "[B")), (35, (Jvm.Cond.fieldLink "SheetBranchesModel" (138 : Nat) "SheetBranchesModel" "digits" "[B")), (47, (Jvm.Cond.fieldLink "SheetBranchesModel" (141 : Nat) "SheetBranchesModel" "leads" "[J")), (48, (Jvm.Cond.fieldLink "SheetBranchesModel" (144 : Nat) "SheetBranchesModel" "comes" "[J")), (49, (Jvm.Cond.fieldLink "SheetBranchesModel" (147 : Nat) "SheetBranchesModel" "through" "[Z")), (50, (Jvm.Cond.fieldLink "SheetBranchesModel" (150 : Nat) "SheetBranchesModel" "throughBits" "[J")), (51, (Jvm.Cond.fieldLink "SheetBranchesModel" (153 : Nat) "SheetBranchesModel" "page" "[B")), (53, (Jvm.Cond.fieldLink "SheetBranchesModel" (156 : Nat) "SheetBranchesModel" "sorted" "[I")), (54, (Jvm.Cond.fieldLink "SheetBranchesModel" (159 : Nat) "SheetBranchesModel" "before" "[Z")), (55, (Jvm.Cond.fieldLink "SheetBranchesModel" (162 : Nat) "SheetBranchesModel" "beforeToo" "[Z")), (56, (Jvm.Cond.fieldLink "SheetBranchesModel" (165 : Nat) "SheetBranchesModel" "conflictKind" "[I")), (57, (Jvm.Cond.fieldLink "SheetBranchesModel" (168 : Nat) "SheetBranchesModel" "conflictRow" "[I")), (58, (Jvm.Cond.fieldLink "SheetBranchesModel" (171 : Nat) "SheetBranchesModel" "conflictCol" "[I")), (59, (Jvm.Cond.fieldLink "SheetBranchesModel" (174 : Nat) "SheetBranchesModel" "ours" "[I")), (60, (Jvm.Cond.fieldLink "SheetBranchesModel" (177 : Nat) "SheetBranchesModel" "theirs" "[I")), (61, (Jvm.Cond.fieldLink "SheetBranchesModel" (180 : Nat) "SheetBranchesModel" "hadOurs" "[Z")), (62, (Jvm.Cond.fieldLink "SheetBranchesModel" (183 : Nat) "SheetBranchesModel" "settled" "[Z")), (64, (Jvm.Cond.fieldLink "SheetBranchesModel" (186 : Nat) "SheetBranchesModel" "line" "[I")), (66, (Jvm.Cond.fieldLink "SheetBranchesModel" (189 : Nat) "SheetBranchesModel" "unlike" "[I")), (67, (Jvm.Cond.fieldLink "SheetBranchesModel" (192 : Nat) "SheetBranchesModel" "unlikeRow" "[I")), (68, (Jvm.Cond.fieldLink "SheetBranchesModel" (195 : Nat) "SheetBranchesModel" "unlikeCol" "[I")), (30, (Jvm.Cond.fieldLink "SheetBranchesModel" (205 : Nat) "SheetBranchesModel" "fresh" "Z")), (5, (Jvm.Cond.fieldLink "SheetBranchesModel" (258 : Nat) "SheetBranchesModel" "taped" "I")), (9, (Jvm.Cond.fieldLink "SheetBranchesModel" (261 : Nat) "SheetBranchesModel" "textTo" "I")), (6, (Jvm.Cond.fieldLink "SheetBranchesModel" (277 : Nat) "SheetBranchesModel" "faultKind" "I")), (7, (Jvm.Cond.fieldLink "SheetBranchesModel" (280 : Nat) "SheetBranchesModel" "faultPlace" "I"))]
set_option maxRecDepth 100000 in
theorem nX12_0_8_0 : nX12_0_8_0l.all (fun q => decide (tables_1_8[q.1]? = some q.2)) = true := by decide +kernel
def nX12_0_9_0l : List (Nat × Cond) := [(45, (Jvm.Cond.code ({ cls := "SheetBranchesModel", name := "thrown", desc := "()I" } : Jvm.MethodName) prog_14_method_2_code (1 : Nat) (Option.some Jvm.ClassFile.FieldType.int))), (43, (Jvm.Cond.instanceMethod ({ cls := "SheetBranchesModel", name := "thrown", desc := "()I" } : Jvm.MethodName))), (44, (Jvm.Cond.selects "SheetBranchesModel" ({ cls := "SheetBranchesModel", name := "thrown", desc := "()I" } : Jvm.MethodName) ({ cls := "SheetBranchesModel", name := "thrown", desc := "()I" } : Jvm.MethodName))), (53, (Jvm.Cond.code ({ cls := "SheetBranchesModel", name := "throwing", desc := "(I)I" } : Jvm.MethodName) prog_14_method_3_code (2 : Nat) (Option.some Jvm.ClassFile.FieldType.int))), (52, (Jvm.Cond.instanceMethod ({ cls := "SheetBranchesModel", name := "throwing", desc := "(I)I" } : Jvm.MethodName))), (72, (Jvm.Cond.code ({ cls := "SheetBranchesModel", name := "in", desc := "(III)Z" } : Jvm.MethodName) prog_14_method_4_code (3 : Nat) (Option.some Jvm.ClassFile.FieldType.boolean))), (71, (Jvm.Cond.static ({ cls := "SheetBranchesModel", name := "in", desc := "(III)Z" } : Jvm.MethodName))), (80, (Jvm.Cond.code ({ cls := "SheetBranchesModel", name := "isCell", desc := "(III)Z" } : Jvm.MethodName) prog_14_method_10_code (4 : Nat) (Option.some Jvm.ClassFile.FieldType.boolean))), (79, (Jvm.Cond.instanceMethod ({ cls := "SheetBranchesModel", name := "isCell", desc := "(III)Z" } : Jvm.MethodName))), (57, (Jvm.Cond.code ({ cls := "SheetBranchesModel", name := "stepAt", desc := "(I)I" } : Jvm.MethodName) prog_14_method_13_code (2 : Nat) (Option.some Jvm.ClassFile.FieldType.int))), (56, (Jvm.Cond.instanceMethod ({ cls := "SheetBranchesModel", name := "stepAt", desc := "(I)I" } : Jvm.MethodName))), (49, (Jvm.Cond.code ({ cls := "SheetBranchesModel", name := "undo", desc := "()I" } : Jvm.MethodName) prog_14_method_16_code (1 : Nat) (Option.some Jvm.ClassFile.FieldType.int))), (47, (Jvm.Cond.instanceMethod ({ cls := "SheetBranchesModel", name := "undo", desc := "()I" } : Jvm.MethodName))), (48, (Jvm.Cond.selects "SheetBranchesModel" ({ cls := "SheetBranchesModel", name := "undo", desc := "()I" } : Jvm.MethodName) ({ cls := "SheetBranchesModel", name := "undo", desc := "()I" } : Jvm.MethodName))), (61, (Jvm.Cond.code ({ cls := "SheetBranchesModel", name := "redo", desc := "()I" } : Jvm.MethodName) prog_14_method_17_code (1 : Nat) (Option.some Jvm.ClassFile.FieldType.int))), (59, (Jvm.Cond.instanceMethod ({ cls := "SheetBranchesModel", name := "redo", desc := "()I" } : Jvm.MethodName))), (60, (Jvm.Cond.selects "SheetBranchesModel" ({ cls := "SheetBranchesModel", name := "redo", desc := "()I" } : Jvm.MethodName) ({ cls := "SheetBranchesModel", name := "redo", desc := "()I" } : Jvm.MethodName))), (186, (Jvm.Cond.code ({ cls := "SheetBranchesModel", name := "kept", desc := "(II)I" } : Jvm.MethodName) prog_14_method_24_code (5 : Nat) (Option.some Jvm.ClassFile.FieldType.int))), (185, (Jvm.Cond.instanceMethod ({ cls := "SheetBranchesModel", name := "kept", desc := "(II)I" } : Jvm.MethodName))), (65, (Jvm.Cond.code ({ cls := "SheetBranchesModel", name := "feed", desc := "(IIIII)I" } : Jvm.MethodName) prog_14_method_25_code (8 : Nat) (Option.some Jvm.ClassFile.FieldType.int))), (63, (Jvm.Cond.instanceMethod ({ cls := "SheetBranchesModel", name := "feed", desc := "(IIIII)I" } : Jvm.MethodName))), (64, (Jvm.Cond.selects "SheetBranchesModel" ({ cls := "SheetBranchesModel", name := "feed", desc := "(IIIII)I" } : Jvm.MethodName) ({ cls := "SheetBranchesModel", name := "feed", desc := "(IIIII)I" } : Jvm.MethodName))), (69, (Jvm.Cond.code ({ cls := "SheetBranchesModel", name := "end", desc := "(I)Z" } : Jvm.MethodName) prog_14_method_26_code (3 : Nat) (Option.some Jvm.ClassFile.FieldType.boolean))), (67, (Jvm.Cond.instanceMethod ({ cls := "SheetBranchesModel", name := "end", desc := "(I)Z" } : Jvm.MethodName))), (68, (Jvm.Cond.selects "SheetBranchesModel" ({ cls := "SheetBranchesModel", name := "end", desc := "(I)Z" } : Jvm.MethodName) ({ cls := "SheetBranchesModel", name := "end", desc := "(I)Z" } : Jvm.MethodName))), (99, (Jvm.Cond.code ({ cls := "SheetBranchesModel", name := "isDigit", desc := "(I)Z" } : Jvm.MethodName) prog_14_method_27_code (1 : Nat) (Option.some Jvm.ClassFile.FieldType.boolean))), (98, (Jvm.Cond.static ({ cls := "SheetBranchesModel", name := "isDigit", desc := "(I)Z" } : Jvm.MethodName))), (113, (Jvm.Cond.code ({ cls := "SheetBranchesModel", name := "isLetter", desc := "(I)Z" } : Jvm.MethodName) prog_14_method_28_code (1 : Nat) (Option.some Jvm.ClassFile.FieldType.boolean))), (112, (Jvm.Cond.static ({ cls := "SheetBranchesModel", name := "isLetter", desc := "(I)Z" } : Jvm.MethodName))), (110, (Jvm.Cond.code ({ cls := "SheetBranchesModel", name := "isSign", desc := "(I)Z" } : Jvm.MethodName) prog_14_method_29_code (1 : Nat) (Option.some Jvm.ClassFile.FieldType.boolean))), (109, (Jvm.Cond.static ({ cls := "SheetBranchesModel", name := "isSign", desc := "(I)Z" } : Jvm.MethodName))), (92, (Jvm.Cond.code ({ cls := "SheetBranchesModel", name := "byteAt", desc := "(I)I" } : Jvm.MethodName) prog_14_method_30_code (2 : Nat) (Option.some Jvm.ClassFile.FieldType.int))), (91, (Jvm.Cond.instanceMethod ({ cls := "SheetBranchesModel", name := "byteAt", desc := "(I)I" } : Jvm.MethodName))), (126, (Jvm.Cond.code ({ cls := "SheetBranchesModel", name := "isWord", desc := "(IILjava/lang/String;)Z" } : Jvm.MethodName) prog_14_method_31_code (5 : Nat) (Option.some Jvm.ClassFile.FieldType.boolean))), (125, (Jvm.Cond.instanceMethod ({ cls := "SheetBranchesModel", name := "isWord", desc := "(IILjava/lang/String;)Z" } : Jvm.MethodName))), (172, (Jvm.Cond.code ({ cls := "SheetBranchesModel", name := "fail", desc := "(II)V" } : Jvm.MethodName) prog_14_method_32_code (3 : Nat) (Option.none : Option Jvm.ClassFile.FieldType))), (171, (Jvm.Cond.instanceMethod ({ cls := "SheetBranchesModel", name := "fail", desc := "(II)V" } : Jvm.MethodName))), (238, (Jvm.Cond.methodLink "SheetBranchesModel" (213 : Nat) ({ cls := "SheetBranchesModel", name := "lineAt", desc := "(III)I" } : Jvm.MethodName))), (70, (Jvm.Cond.methodLink "SheetBranchesModel" (220 : Nat) ({ cls := "SheetBranchesModel", name := "in", desc := "(III)Z" } : Jvm.MethodName))), (54, (Jvm.Cond.methodLink "SheetBranchesModel" (233 : Nat) ({ cls := "SheetBranchesModel", name := "stepAt", desc := "(I)I" } : Jvm.MethodName))), (50, (Jvm.Cond.methodLink "SheetBranchesModel" (237 : Nat) ({ cls := "SheetBranchesModel", name := "throwing", desc := "(I)I" } : Jvm.MethodName))), (89, (Jvm.Cond.methodLink "SheetBranchesModel" (270 : Nat) ({ cls := "SheetBranchesModel", name := "byteAt", desc := "(I)I" } : Jvm.MethodName)))]
set_option maxRecDepth 100000 in
theorem nX12_0_9_0 : nX12_0_9_0l.all (fun q => decide (tables_1_9[q.1]? = some q.2)) = true := by decide +kernel
def nX12_0_10_0l : List (Nat × Cond) := [(98, (Jvm.Cond.code ({ cls := "SheetBranchesModel", name := "linesOf", desc := "(II)I" } : Jvm.MethodName) prog_14_method_6_code (3 : Nat) (Option.some Jvm.ClassFile.FieldType.int))), (97, (Jvm.Cond.instanceMethod ({ cls := "SheetBranchesModel", name := "linesOf", desc := "(II)I" } : Jvm.MethodName))), (1, (Jvm.Cond.code ({ cls := "SheetBranchesModel", name := "lineAt", desc := "(III)I" } : Jvm.MethodName) prog_14_method_7_code (4 : Nat) (Option.some Jvm.ClassFile.FieldType.int))), (0, (Jvm.Cond.instanceMethod ({ cls := "SheetBranchesModel", name := "lineAt", desc := "(III)I" } : Jvm.MethodName))), (94, (Jvm.Cond.code ({ cls := "SheetBranchesModel", name := "placeOf", desc := "(III)I" } : Jvm.MethodName) prog_14_method_8_code (5 : Nat) (Option.some Jvm.ClassFile.FieldType.int))), (93, (Jvm.Cond.instanceMethod ({ cls := "SheetBranchesModel", name := "placeOf", desc := "(III)I" } : Jvm.MethodName))), (48, (Jvm.Cond.code ({ cls := "SheetBranchesModel", name := "setCell", desc := "(III)V" } : Jvm.MethodName) prog_14_method_12_code (4 : Nat) (Option.none : Option Jvm.ClassFile.FieldType))), (47, (Jvm.Cond.instanceMethod ({ cls := "SheetBranchesModel", name := "setCell", desc := "(III)V" } : Jvm.MethodName))), (44, (Jvm.Cond.code ({ cls := "SheetBranchesModel", name := "step", desc := "()I" } : Jvm.MethodName) prog_14_method_14_code (2 : Nat) (Option.some Jvm.ClassFile.FieldType.int))), (43, (Jvm.Cond.instanceMethod ({ cls := "SheetBranchesModel", name := "step", desc := "()I" } : Jvm.MethodName))), (78, (Jvm.Cond.code ({ cls := "SheetBranchesModel", name := "isFormula", desc := "(I)Z" } : Jvm.MethodName) prog_14_method_18_code (1 : Nat) (Option.some Jvm.ClassFile.FieldType.boolean))), (77, (Jvm.Cond.static ({ cls := "SheetBranchesModel", name := "isFormula", desc := "(I)Z" } : Jvm.MethodName))), (160, (Jvm.Cond.code ({ cls := "SheetBranchesModel", name := "wholeOf", desc := "(I)I" } : Jvm.MethodName) prog_14_method_19_code (2 : Nat) (Option.some Jvm.ClassFile.FieldType.int))), (159, (Jvm.Cond.instanceMethod ({ cls := "SheetBranchesModel", name := "wholeOf", desc := "(I)I" } : Jvm.MethodName))), (38, (Jvm.Cond.code ({ cls := "SheetBranchesModel", name := "plain", desc := "(IJII)I" } : Jvm.MethodName) prog_14_method_23_code (6 : Nat) (Option.some Jvm.ClassFile.FieldType.int))), (37, (Jvm.Cond.instanceMethod ({ cls := "SheetBranchesModel", name := "plain", desc := "(IJII)I" } : Jvm.MethodName))), (95, (Jvm.Cond.methodLink "SheetBranchesModel" (209 : Nat) ({ cls := "SheetBranchesModel", name := "linesOf", desc := "(II)I" } : Jvm.MethodName))), (91, (Jvm.Cond.methodLink "SheetBranchesModel" (217 : Nat) ({ cls := "SheetBranchesModel", name := "placeOf", desc := "(III)I" } : Jvm.MethodName))), (39, (Jvm.Cond.constant "SheetBranchesModel" (240 : Nat) (100000 : Int32))), (76, (Jvm.Cond.methodLink "SheetBranchesModel" (244 : Nat) ({ cls := "SheetBranchesModel", name := "isFormula", desc := "(I)Z" } : Jvm.MethodName)))]
set_option maxRecDepth 100000 in
theorem nX12_0_10_0 : nX12_0_10_0l.all (fun q => decide (tables_1_10[q.1]? = some q.2)) = true := by decide +kernel
def nX12_0_11_0l : List (Nat × Cond) := [(66, (Jvm.Cond.code ({ cls := "SheetBranchesModel", name := "cellAt", desc := "(III)I" } : Jvm.MethodName) prog_14_method_11_code (4 : Nat) (Option.some Jvm.ClassFile.FieldType.int))), (65, (Jvm.Cond.instanceMethod ({ cls := "SheetBranchesModel", name := "cellAt", desc := "(III)I" } : Jvm.MethodName))), (237, (Jvm.Cond.code ({ cls := "SheetBranchesModel", name := "sameLetters", desc := "(III)Z" } : Jvm.MethodName) prog_14_method_20_code (5 : Nat) (Option.some Jvm.ClassFile.FieldType.boolean))), (236, (Jvm.Cond.instanceMethod ({ cls := "SheetBranchesModel", name := "sameLetters", desc := "(III)Z" } : Jvm.MethodName))), (233, (Jvm.Cond.code ({ cls := "SheetBranchesModel", name := "sameParts", desc := "(II)Z" } : Jvm.MethodName) prog_14_method_21_code (4 : Nat) (Option.some Jvm.ClassFile.FieldType.boolean))), (232, (Jvm.Cond.instanceMethod ({ cls := "SheetBranchesModel", name := "sameParts", desc := "(II)Z" } : Jvm.MethodName))), (229, (Jvm.Cond.code ({ cls := "SheetBranchesModel", name := "alike", desc := "(II)Z" } : Jvm.MethodName) prog_14_method_22_code (6 : Nat) (Option.some Jvm.ClassFile.FieldType.boolean))), (228, (Jvm.Cond.instanceMethod ({ cls := "SheetBranchesModel", name := "alike", desc := "(II)Z" } : Jvm.MethodName))), (234, (Jvm.Cond.methodLink "SheetBranchesModel" (241 : Nat) ({ cls := "SheetBranchesModel", name := "sameLetters", desc := "(III)Z" } : Jvm.MethodName))), (230, (Jvm.Cond.methodLink "SheetBranchesModel" (248 : Nat) ({ cls := "SheetBranchesModel", name := "sameParts", desc := "(II)Z" } : Jvm.MethodName)))]
set_option maxRecDepth 100000 in
theorem nX12_0_11_0 : nX12_0_11_0l.all (fun q => decide (tables_1_11[q.1]? = some q.2)) = true := by decide +kernel
def nX12_0_12_0l : List (Nat × Cond) := [(54, (Jvm.Cond.code ({ cls := "SheetBranchesModel", name := "contentOf", desc := "(III)I" } : Jvm.MethodName) prog_14_method_9_code (6 : Nat) (Option.some Jvm.ClassFile.FieldType.int))), (53, (Jvm.Cond.instanceMethod ({ cls := "SheetBranchesModel", name := "contentOf", desc := "(III)I" } : Jvm.MethodName))), (5, (Jvm.Cond.code ({ cls := "SheetBranchesModel", name := "forgetSteps", desc := "()V" } : Jvm.MethodName) prog_14_method_15_code (1 : Nat) (Option.none : Option Jvm.ClassFile.FieldType))), (4, (Jvm.Cond.instanceMethod ({ cls := "SheetBranchesModel", name := "forgetSteps", desc := "()V" } : Jvm.MethodName)))]
set_option maxRecDepth 100000 in
theorem nX12_0_12_0 : nX12_0_12_0l.all (fun q => decide (tables_1_12[q.1]? = some q.2)) = true := by decide +kernel
def nX12_0_s0l : List (Nat × (MethodName × Nat)) := [(97, (⟨"SheetBranchesModel", "throwing", "(I)I"⟩, 105)), (96, (⟨"SheetBranchesModel", "copySheet", "(II)V"⟩, 105)), (148, (⟨"SheetBranchesModel", "linesOf", "(II)I"⟩, 105)), (130, (⟨"SheetBranchesModel", "lineAt", "(III)I"⟩, 105)), (147, (⟨"SheetBranchesModel", "placeOf", "(III)I"⟩, 105)), (230, (⟨"SheetBranchesModel", "contentOf", "(III)I"⟩, 105)), (99, (⟨"SheetBranchesModel", "isCell", "(III)Z"⟩, 105)), (192, (⟨"SheetBranchesModel", "cellAt", "(III)I"⟩, 105)), (139, (⟨"SheetBranchesModel", "setCell", "(III)V"⟩, 105)), (98, (⟨"SheetBranchesModel", "stepAt", "(I)I"⟩, 105)), (138, (⟨"SheetBranchesModel", "step", "()I"⟩, 105)), (221, (⟨"SheetBranchesModel", "forgetSteps", "()V"⟩, 105)), (161, (⟨"SheetBranchesModel", "wholeOf", "(I)I"⟩, 105)), (219, (⟨"SheetBranchesModel", "sameLetters", "(III)Z"⟩, 105)), (218, (⟨"SheetBranchesModel", "sameParts", "(II)Z"⟩, 105)), (217, (⟨"SheetBranchesModel", "alike", "(II)Z"⟩, 105)), (137, (⟨"SheetBranchesModel", "plain", "(IJII)I"⟩, 105)), (122, (⟨"SheetBranchesModel", "kept", "(II)I"⟩, 105)), (102, (⟨"SheetBranchesModel", "byteAt", "(I)I"⟩, 105)), (108, (⟨"SheetBranchesModel", "isWord", "(IILjava/lang/String;)Z"⟩, 105)), (119, (⟨"SheetBranchesModel", "fail", "(II)V"⟩, 105))]
set_option maxRecDepth 100000 in
theorem nX12_0_s0 : nX12_0_s0l.all (fun q => decide (lw_privs[q.1]? = some q.2) && goodWord (Cond.selects q.2.1.cls q.2.1 q.2.1)) = true := by decide +kernel
def mX12_init : MI := (yX12_init, cX12_init, 2, none)
theorem qc_X12_init : Cond.code mX12_init.1 mX12_init.2.1 mX12_init.2.2.1 mX12_init.2.2.2 ∈ gtb := (gk tin_7 nX12_0_7_0 0 rfl (by decide +kernel))
theorem qi_X12_init : Cond.instanceMethod mX12_init.1 ∈ gtb := (gk tin_7 nX12_0_7_0 1 rfl (by decide +kernel))
theorem qd_X12_init : dsc mX12_init.1 0 := ⟨by decide +kernel, by decide +kernel, by decide +kernel⟩
def mX12_thrown : MI := (yX12_thrown, cX12_thrown, 1, (some .int))
theorem qc_X12_thrown : Cond.code mX12_thrown.1 mX12_thrown.2.1 mX12_thrown.2.2.1 mX12_thrown.2.2.2 ∈ gtb := (gk tin_9 nX12_0_9_0 0 rfl (by decide +kernel))
theorem qi_X12_thrown : Cond.instanceMethod mX12_thrown.1 ∈ gtb := (gk tin_9 nX12_0_9_0 1 rfl (by decide +kernel))
theorem qs_X12_thrown : Cond.selects mX12_thrown.1.cls mX12_thrown.1 mX12_thrown.1 ∈ gtb := (gk tin_9 nX12_0_9_0 2 rfl (by decide +kernel))
theorem qd_X12_thrown : dsc mX12_thrown.1 0 := ⟨by decide +kernel, by decide +kernel, by decide +kernel⟩
def mX12_throwing : MI := (yX12_throwing, cX12_throwing, 2, (some .int))
theorem qc_X12_throwing : Cond.code mX12_throwing.1 mX12_throwing.2.1 mX12_throwing.2.2.1 mX12_throwing.2.2.2 ∈ gtb := (gk tin_9 nX12_0_9_0 3 rfl (by decide +kernel))
theorem qi_X12_throwing : Cond.instanceMethod mX12_throwing.1 ∈ gtb := (gk tin_9 nX12_0_9_0 4 rfl (by decide +kernel))
theorem qs_X12_throwing : Cond.selects mX12_throwing.1.cls mX12_throwing.1 mX12_throwing.1 ∈ gtb := (sk nX12_0_s0 0 rfl)
theorem qd_X12_throwing : dsc mX12_throwing.1 1 := ⟨by decide +kernel, by decide +kernel, by decide +kernel⟩
def mX12_in : MI := (yX12_in, cX12_in, 3, (some .boolean))
theorem qc_X12_in : Cond.code mX12_in.1 mX12_in.2.1 mX12_in.2.2.1 mX12_in.2.2.2 ∈ gtb := (gk tin_9 nX12_0_9_0 5 rfl (by decide +kernel))
theorem qt_X12_in : Cond.static mX12_in.1 ∈ gtb := (gk tin_9 nX12_0_9_0 6 rfl (by decide +kernel))
theorem qd_X12_in : dsc mX12_in.1 3 := ⟨by decide +kernel, by decide +kernel, by decide +kernel⟩
def mX12_copySheet : MI := (yX12_copySheet, cX12_copySheet, 4, none)
theorem qc_X12_copySheet : Cond.code mX12_copySheet.1 mX12_copySheet.2.1 mX12_copySheet.2.2.1 mX12_copySheet.2.2.2 ∈ gtb := (gk tin_7 nX12_0_7_0 2 rfl (by decide +kernel))
theorem qi_X12_copySheet : Cond.instanceMethod mX12_copySheet.1 ∈ gtb := (gk tin_7 nX12_0_7_0 3 rfl (by decide +kernel))
theorem qs_X12_copySheet : Cond.selects mX12_copySheet.1.cls mX12_copySheet.1 mX12_copySheet.1 ∈ gtb := (sk nX12_0_s0 1 rfl)
theorem qd_X12_copySheet : dsc mX12_copySheet.1 2 := ⟨by decide +kernel, by decide +kernel, by decide +kernel⟩
def mX12_linesOf : MI := (yX12_linesOf, cX12_linesOf, 3, (some .int))
theorem qc_X12_linesOf : Cond.code mX12_linesOf.1 mX12_linesOf.2.1 mX12_linesOf.2.2.1 mX12_linesOf.2.2.2 ∈ gtb := (gk tin_10 nX12_0_10_0 0 rfl (by decide +kernel))
theorem qi_X12_linesOf : Cond.instanceMethod mX12_linesOf.1 ∈ gtb := (gk tin_10 nX12_0_10_0 1 rfl (by decide +kernel))
theorem qs_X12_linesOf : Cond.selects mX12_linesOf.1.cls mX12_linesOf.1 mX12_linesOf.1 ∈ gtb := (sk nX12_0_s0 2 rfl)
theorem qd_X12_linesOf : dsc mX12_linesOf.1 2 := ⟨by decide +kernel, by decide +kernel, by decide +kernel⟩
def mX12_lineAt : MI := (yX12_lineAt, cX12_lineAt, 4, (some .int))
theorem qc_X12_lineAt : Cond.code mX12_lineAt.1 mX12_lineAt.2.1 mX12_lineAt.2.2.1 mX12_lineAt.2.2.2 ∈ gtb := (gk tin_10 nX12_0_10_0 2 rfl (by decide +kernel))
theorem qi_X12_lineAt : Cond.instanceMethod mX12_lineAt.1 ∈ gtb := (gk tin_10 nX12_0_10_0 3 rfl (by decide +kernel))
theorem qs_X12_lineAt : Cond.selects mX12_lineAt.1.cls mX12_lineAt.1 mX12_lineAt.1 ∈ gtb := (sk nX12_0_s0 3 rfl)
theorem qd_X12_lineAt : dsc mX12_lineAt.1 3 := ⟨by decide +kernel, by decide +kernel, by decide +kernel⟩
def mX12_placeOf : MI := (yX12_placeOf, cX12_placeOf, 5, (some .int))
theorem qc_X12_placeOf : Cond.code mX12_placeOf.1 mX12_placeOf.2.1 mX12_placeOf.2.2.1 mX12_placeOf.2.2.2 ∈ gtb := (gk tin_10 nX12_0_10_0 4 rfl (by decide +kernel))
theorem qi_X12_placeOf : Cond.instanceMethod mX12_placeOf.1 ∈ gtb := (gk tin_10 nX12_0_10_0 5 rfl (by decide +kernel))
theorem qs_X12_placeOf : Cond.selects mX12_placeOf.1.cls mX12_placeOf.1 mX12_placeOf.1 ∈ gtb := (sk nX12_0_s0 4 rfl)
theorem qd_X12_placeOf : dsc mX12_placeOf.1 3 := ⟨by decide +kernel, by decide +kernel, by decide +kernel⟩
def mX12_contentOf : MI := (yX12_contentOf, cX12_contentOf, 6, (some .int))
theorem qc_X12_contentOf : Cond.code mX12_contentOf.1 mX12_contentOf.2.1 mX12_contentOf.2.2.1 mX12_contentOf.2.2.2 ∈ gtb := (gk tin_12 nX12_0_12_0 0 rfl (by decide +kernel))
theorem qi_X12_contentOf : Cond.instanceMethod mX12_contentOf.1 ∈ gtb := (gk tin_12 nX12_0_12_0 1 rfl (by decide +kernel))
theorem qs_X12_contentOf : Cond.selects mX12_contentOf.1.cls mX12_contentOf.1 mX12_contentOf.1 ∈ gtb := (sk nX12_0_s0 5 rfl)
theorem qd_X12_contentOf : dsc mX12_contentOf.1 3 := ⟨by decide +kernel, by decide +kernel, by decide +kernel⟩
def mX12_isCell : MI := (yX12_isCell, cX12_isCell, 4, (some .boolean))
theorem qc_X12_isCell : Cond.code mX12_isCell.1 mX12_isCell.2.1 mX12_isCell.2.2.1 mX12_isCell.2.2.2 ∈ gtb := (gk tin_9 nX12_0_9_0 7 rfl (by decide +kernel))
theorem qi_X12_isCell : Cond.instanceMethod mX12_isCell.1 ∈ gtb := (gk tin_9 nX12_0_9_0 8 rfl (by decide +kernel))
theorem qs_X12_isCell : Cond.selects mX12_isCell.1.cls mX12_isCell.1 mX12_isCell.1 ∈ gtb := (sk nX12_0_s0 6 rfl)
theorem qd_X12_isCell : dsc mX12_isCell.1 3 := ⟨by decide +kernel, by decide +kernel, by decide +kernel⟩
def mX12_cellAt : MI := (yX12_cellAt, cX12_cellAt, 4, (some .int))
theorem qc_X12_cellAt : Cond.code mX12_cellAt.1 mX12_cellAt.2.1 mX12_cellAt.2.2.1 mX12_cellAt.2.2.2 ∈ gtb := (gk tin_11 nX12_0_11_0 0 rfl (by decide +kernel))
theorem qi_X12_cellAt : Cond.instanceMethod mX12_cellAt.1 ∈ gtb := (gk tin_11 nX12_0_11_0 1 rfl (by decide +kernel))
theorem qs_X12_cellAt : Cond.selects mX12_cellAt.1.cls mX12_cellAt.1 mX12_cellAt.1 ∈ gtb := (sk nX12_0_s0 7 rfl)
theorem qd_X12_cellAt : dsc mX12_cellAt.1 3 := ⟨by decide +kernel, by decide +kernel, by decide +kernel⟩
def mX12_setCell : MI := (yX12_setCell, cX12_setCell, 4, none)
theorem qc_X12_setCell : Cond.code mX12_setCell.1 mX12_setCell.2.1 mX12_setCell.2.2.1 mX12_setCell.2.2.2 ∈ gtb := (gk tin_10 nX12_0_10_0 6 rfl (by decide +kernel))
theorem qi_X12_setCell : Cond.instanceMethod mX12_setCell.1 ∈ gtb := (gk tin_10 nX12_0_10_0 7 rfl (by decide +kernel))
theorem qs_X12_setCell : Cond.selects mX12_setCell.1.cls mX12_setCell.1 mX12_setCell.1 ∈ gtb := (sk nX12_0_s0 8 rfl)
theorem qd_X12_setCell : dsc mX12_setCell.1 3 := ⟨by decide +kernel, by decide +kernel, by decide +kernel⟩
def mX12_stepAt : MI := (yX12_stepAt, cX12_stepAt, 2, (some .int))
theorem qc_X12_stepAt : Cond.code mX12_stepAt.1 mX12_stepAt.2.1 mX12_stepAt.2.2.1 mX12_stepAt.2.2.2 ∈ gtb := (gk tin_9 nX12_0_9_0 9 rfl (by decide +kernel))
theorem qi_X12_stepAt : Cond.instanceMethod mX12_stepAt.1 ∈ gtb := (gk tin_9 nX12_0_9_0 10 rfl (by decide +kernel))
theorem qs_X12_stepAt : Cond.selects mX12_stepAt.1.cls mX12_stepAt.1 mX12_stepAt.1 ∈ gtb := (sk nX12_0_s0 9 rfl)
theorem qd_X12_stepAt : dsc mX12_stepAt.1 1 := ⟨by decide +kernel, by decide +kernel, by decide +kernel⟩
def mX12_step : MI := (yX12_step, cX12_step, 2, (some .int))
theorem qc_X12_step : Cond.code mX12_step.1 mX12_step.2.1 mX12_step.2.2.1 mX12_step.2.2.2 ∈ gtb := (gk tin_10 nX12_0_10_0 8 rfl (by decide +kernel))
theorem qi_X12_step : Cond.instanceMethod mX12_step.1 ∈ gtb := (gk tin_10 nX12_0_10_0 9 rfl (by decide +kernel))
theorem qs_X12_step : Cond.selects mX12_step.1.cls mX12_step.1 mX12_step.1 ∈ gtb := (sk nX12_0_s0 10 rfl)
theorem qd_X12_step : dsc mX12_step.1 0 := ⟨by decide +kernel, by decide +kernel, by decide +kernel⟩
def mX12_forgetSteps : MI := (yX12_forgetSteps, cX12_forgetSteps, 1, none)
theorem qc_X12_forgetSteps : Cond.code mX12_forgetSteps.1 mX12_forgetSteps.2.1 mX12_forgetSteps.2.2.1 mX12_forgetSteps.2.2.2 ∈ gtb := (gk tin_12 nX12_0_12_0 2 rfl (by decide +kernel))
theorem qi_X12_forgetSteps : Cond.instanceMethod mX12_forgetSteps.1 ∈ gtb := (gk tin_12 nX12_0_12_0 3 rfl (by decide +kernel))
theorem qs_X12_forgetSteps : Cond.selects mX12_forgetSteps.1.cls mX12_forgetSteps.1 mX12_forgetSteps.1 ∈ gtb := (sk nX12_0_s0 11 rfl)
theorem qd_X12_forgetSteps : dsc mX12_forgetSteps.1 0 := ⟨by decide +kernel, by decide +kernel, by decide +kernel⟩
def mX12_undo : MI := (yX12_undo, cX12_undo, 1, (some .int))
theorem qc_X12_undo : Cond.code mX12_undo.1 mX12_undo.2.1 mX12_undo.2.2.1 mX12_undo.2.2.2 ∈ gtb := (gk tin_9 nX12_0_9_0 11 rfl (by decide +kernel))
theorem qi_X12_undo : Cond.instanceMethod mX12_undo.1 ∈ gtb := (gk tin_9 nX12_0_9_0 12 rfl (by decide +kernel))
theorem qs_X12_undo : Cond.selects mX12_undo.1.cls mX12_undo.1 mX12_undo.1 ∈ gtb := (gk tin_9 nX12_0_9_0 13 rfl (by decide +kernel))
theorem qd_X12_undo : dsc mX12_undo.1 0 := ⟨by decide +kernel, by decide +kernel, by decide +kernel⟩
def mX12_redo : MI := (yX12_redo, cX12_redo, 1, (some .int))
theorem qc_X12_redo : Cond.code mX12_redo.1 mX12_redo.2.1 mX12_redo.2.2.1 mX12_redo.2.2.2 ∈ gtb := (gk tin_9 nX12_0_9_0 14 rfl (by decide +kernel))
theorem qi_X12_redo : Cond.instanceMethod mX12_redo.1 ∈ gtb := (gk tin_9 nX12_0_9_0 15 rfl (by decide +kernel))
theorem qs_X12_redo : Cond.selects mX12_redo.1.cls mX12_redo.1 mX12_redo.1 ∈ gtb := (gk tin_9 nX12_0_9_0 16 rfl (by decide +kernel))
theorem qd_X12_redo : dsc mX12_redo.1 0 := ⟨by decide +kernel, by decide +kernel, by decide +kernel⟩
def mX12_isFormula : MI := (yX12_isFormula, cX12_isFormula, 1, (some .boolean))
theorem qc_X12_isFormula : Cond.code mX12_isFormula.1 mX12_isFormula.2.1 mX12_isFormula.2.2.1 mX12_isFormula.2.2.2 ∈ gtb := (gk tin_10 nX12_0_10_0 10 rfl (by decide +kernel))
theorem qt_X12_isFormula : Cond.static mX12_isFormula.1 ∈ gtb := (gk tin_10 nX12_0_10_0 11 rfl (by decide +kernel))
theorem qd_X12_isFormula : dsc mX12_isFormula.1 1 := ⟨by decide +kernel, by decide +kernel, by decide +kernel⟩
def mX12_wholeOf : MI := (yX12_wholeOf, cX12_wholeOf, 2, (some .int))
theorem qc_X12_wholeOf : Cond.code mX12_wholeOf.1 mX12_wholeOf.2.1 mX12_wholeOf.2.2.1 mX12_wholeOf.2.2.2 ∈ gtb := (gk tin_10 nX12_0_10_0 12 rfl (by decide +kernel))
theorem qi_X12_wholeOf : Cond.instanceMethod mX12_wholeOf.1 ∈ gtb := (gk tin_10 nX12_0_10_0 13 rfl (by decide +kernel))
theorem qs_X12_wholeOf : Cond.selects mX12_wholeOf.1.cls mX12_wholeOf.1 mX12_wholeOf.1 ∈ gtb := (sk nX12_0_s0 12 rfl)
theorem qd_X12_wholeOf : dsc mX12_wholeOf.1 1 := ⟨by decide +kernel, by decide +kernel, by decide +kernel⟩
def mX12_sameLetters : MI := (yX12_sameLetters, cX12_sameLetters, 5, (some .boolean))
theorem qc_X12_sameLetters : Cond.code mX12_sameLetters.1 mX12_sameLetters.2.1 mX12_sameLetters.2.2.1 mX12_sameLetters.2.2.2 ∈ gtb := (gk tin_11 nX12_0_11_0 2 rfl (by decide +kernel))
theorem qi_X12_sameLetters : Cond.instanceMethod mX12_sameLetters.1 ∈ gtb := (gk tin_11 nX12_0_11_0 3 rfl (by decide +kernel))
theorem qs_X12_sameLetters : Cond.selects mX12_sameLetters.1.cls mX12_sameLetters.1 mX12_sameLetters.1 ∈ gtb := (sk nX12_0_s0 13 rfl)
theorem qd_X12_sameLetters : dsc mX12_sameLetters.1 3 := ⟨by decide +kernel, by decide +kernel, by decide +kernel⟩
def mX12_sameParts : MI := (yX12_sameParts, cX12_sameParts, 4, (some .boolean))
theorem qc_X12_sameParts : Cond.code mX12_sameParts.1 mX12_sameParts.2.1 mX12_sameParts.2.2.1 mX12_sameParts.2.2.2 ∈ gtb := (gk tin_11 nX12_0_11_0 4 rfl (by decide +kernel))
theorem qi_X12_sameParts : Cond.instanceMethod mX12_sameParts.1 ∈ gtb := (gk tin_11 nX12_0_11_0 5 rfl (by decide +kernel))
theorem qs_X12_sameParts : Cond.selects mX12_sameParts.1.cls mX12_sameParts.1 mX12_sameParts.1 ∈ gtb := (sk nX12_0_s0 14 rfl)
theorem qd_X12_sameParts : dsc mX12_sameParts.1 2 := ⟨by decide +kernel, by decide +kernel, by decide +kernel⟩
def mX12_alike : MI := (yX12_alike, cX12_alike, 6, (some .boolean))
theorem qc_X12_alike : Cond.code mX12_alike.1 mX12_alike.2.1 mX12_alike.2.2.1 mX12_alike.2.2.2 ∈ gtb := (gk tin_11 nX12_0_11_0 6 rfl (by decide +kernel))
theorem qi_X12_alike : Cond.instanceMethod mX12_alike.1 ∈ gtb := (gk tin_11 nX12_0_11_0 7 rfl (by decide +kernel))
theorem qs_X12_alike : Cond.selects mX12_alike.1.cls mX12_alike.1 mX12_alike.1 ∈ gtb := (sk nX12_0_s0 15 rfl)
theorem qd_X12_alike : dsc mX12_alike.1 2 := ⟨by decide +kernel, by decide +kernel, by decide +kernel⟩
def mX12_plain : MI := (yX12_plain, cX12_plain, 6, (some .int))
theorem qc_X12_plain : Cond.code mX12_plain.1 mX12_plain.2.1 mX12_plain.2.2.1 mX12_plain.2.2.2 ∈ gtb := (gk tin_10 nX12_0_10_0 14 rfl (by decide +kernel))
theorem qi_X12_plain : Cond.instanceMethod mX12_plain.1 ∈ gtb := (gk tin_10 nX12_0_10_0 15 rfl (by decide +kernel))
theorem qs_X12_plain : Cond.selects mX12_plain.1.cls mX12_plain.1 mX12_plain.1 ∈ gtb := (sk nX12_0_s0 16 rfl)
theorem qd_X12_plain : dsc mX12_plain.1 4 := ⟨by decide +kernel, by decide +kernel, by decide +kernel⟩
def mX12_kept : MI := (yX12_kept, cX12_kept, 5, (some .int))
theorem qc_X12_kept : Cond.code mX12_kept.1 mX12_kept.2.1 mX12_kept.2.2.1 mX12_kept.2.2.2 ∈ gtb := (gk tin_9 nX12_0_9_0 17 rfl (by decide +kernel))
theorem qi_X12_kept : Cond.instanceMethod mX12_kept.1 ∈ gtb := (gk tin_9 nX12_0_9_0 18 rfl (by decide +kernel))
theorem qs_X12_kept : Cond.selects mX12_kept.1.cls mX12_kept.1 mX12_kept.1 ∈ gtb := (sk nX12_0_s0 17 rfl)
theorem qd_X12_kept : dsc mX12_kept.1 2 := ⟨by decide +kernel, by decide +kernel, by decide +kernel⟩
def mX12_feed : MI := (yX12_feed, cX12_feed, 8, (some .int))
theorem qc_X12_feed : Cond.code mX12_feed.1 mX12_feed.2.1 mX12_feed.2.2.1 mX12_feed.2.2.2 ∈ gtb := (gk tin_9 nX12_0_9_0 19 rfl (by decide +kernel))
theorem qi_X12_feed : Cond.instanceMethod mX12_feed.1 ∈ gtb := (gk tin_9 nX12_0_9_0 20 rfl (by decide +kernel))
theorem qs_X12_feed : Cond.selects mX12_feed.1.cls mX12_feed.1 mX12_feed.1 ∈ gtb := (gk tin_9 nX12_0_9_0 21 rfl (by decide +kernel))
theorem qd_X12_feed : dsc mX12_feed.1 5 := ⟨by decide +kernel, by decide +kernel, by decide +kernel⟩
def mX12_end : MI := (yX12_end, cX12_end, 3, (some .boolean))
theorem qc_X12_end : Cond.code mX12_end.1 mX12_end.2.1 mX12_end.2.2.1 mX12_end.2.2.2 ∈ gtb := (gk tin_9 nX12_0_9_0 22 rfl (by decide +kernel))
theorem qi_X12_end : Cond.instanceMethod mX12_end.1 ∈ gtb := (gk tin_9 nX12_0_9_0 23 rfl (by decide +kernel))
theorem qs_X12_end : Cond.selects mX12_end.1.cls mX12_end.1 mX12_end.1 ∈ gtb := (gk tin_9 nX12_0_9_0 24 rfl (by decide +kernel))
theorem qd_X12_end : dsc mX12_end.1 1 := ⟨by decide +kernel, by decide +kernel, by decide +kernel⟩
def mX12_isDigit : MI := (yX12_isDigit, cX12_isDigit, 1, (some .boolean))
theorem qc_X12_isDigit : Cond.code mX12_isDigit.1 mX12_isDigit.2.1 mX12_isDigit.2.2.1 mX12_isDigit.2.2.2 ∈ gtb := (gk tin_9 nX12_0_9_0 25 rfl (by decide +kernel))
theorem qt_X12_isDigit : Cond.static mX12_isDigit.1 ∈ gtb := (gk tin_9 nX12_0_9_0 26 rfl (by decide +kernel))
theorem qd_X12_isDigit : dsc mX12_isDigit.1 1 := ⟨by decide +kernel, by decide +kernel, by decide +kernel⟩
def mX12_isLetter : MI := (yX12_isLetter, cX12_isLetter, 1, (some .boolean))
theorem qc_X12_isLetter : Cond.code mX12_isLetter.1 mX12_isLetter.2.1 mX12_isLetter.2.2.1 mX12_isLetter.2.2.2 ∈ gtb := (gk tin_9 nX12_0_9_0 27 rfl (by decide +kernel))
theorem qt_X12_isLetter : Cond.static mX12_isLetter.1 ∈ gtb := (gk tin_9 nX12_0_9_0 28 rfl (by decide +kernel))
theorem qd_X12_isLetter : dsc mX12_isLetter.1 1 := ⟨by decide +kernel, by decide +kernel, by decide +kernel⟩
def mX12_isSign : MI := (yX12_isSign, cX12_isSign, 1, (some .boolean))
theorem qc_X12_isSign : Cond.code mX12_isSign.1 mX12_isSign.2.1 mX12_isSign.2.2.1 mX12_isSign.2.2.2 ∈ gtb := (gk tin_9 nX12_0_9_0 29 rfl (by decide +kernel))
theorem qt_X12_isSign : Cond.static mX12_isSign.1 ∈ gtb := (gk tin_9 nX12_0_9_0 30 rfl (by decide +kernel))
theorem qd_X12_isSign : dsc mX12_isSign.1 1 := ⟨by decide +kernel, by decide +kernel, by decide +kernel⟩
def mX12_byteAt : MI := (yX12_byteAt, cX12_byteAt, 2, (some .int))
theorem qc_X12_byteAt : Cond.code mX12_byteAt.1 mX12_byteAt.2.1 mX12_byteAt.2.2.1 mX12_byteAt.2.2.2 ∈ gtb := (gk tin_9 nX12_0_9_0 31 rfl (by decide +kernel))
theorem qi_X12_byteAt : Cond.instanceMethod mX12_byteAt.1 ∈ gtb := (gk tin_9 nX12_0_9_0 32 rfl (by decide +kernel))
theorem qs_X12_byteAt : Cond.selects mX12_byteAt.1.cls mX12_byteAt.1 mX12_byteAt.1 ∈ gtb := (sk nX12_0_s0 18 rfl)
theorem qd_X12_byteAt : dsc mX12_byteAt.1 1 := ⟨by decide +kernel, by decide +kernel, by decide +kernel⟩
def mX12_isWord : MI := (yX12_isWord, cX12_isWord, 5, (some .boolean))
theorem qc_X12_isWord : Cond.code mX12_isWord.1 mX12_isWord.2.1 mX12_isWord.2.2.1 mX12_isWord.2.2.2 ∈ gtb := (gk tin_9 nX12_0_9_0 33 rfl (by decide +kernel))
theorem qi_X12_isWord : Cond.instanceMethod mX12_isWord.1 ∈ gtb := (gk tin_9 nX12_0_9_0 34 rfl (by decide +kernel))
theorem qs_X12_isWord : Cond.selects mX12_isWord.1.cls mX12_isWord.1 mX12_isWord.1 ∈ gtb := (sk nX12_0_s0 19 rfl)
theorem qd_X12_isWord : dsc mX12_isWord.1 3 := ⟨by decide +kernel, by decide +kernel, by decide +kernel⟩
def mX12_fail : MI := (yX12_fail, cX12_fail, 3, none)
theorem qc_X12_fail : Cond.code mX12_fail.1 mX12_fail.2.1 mX12_fail.2.2.1 mX12_fail.2.2.2 ∈ gtb := (gk tin_9 nX12_0_9_0 35 rfl (by decide +kernel))
theorem qi_X12_fail : Cond.instanceMethod mX12_fail.1 ∈ gtb := (gk tin_9 nX12_0_9_0 36 rfl (by decide +kernel))
theorem qs_X12_fail : Cond.selects mX12_fail.1.cls mX12_fail.1 mX12_fail.1 ∈ gtb := (sk nX12_0_s0 20 rfl)
theorem qd_X12_fail : dsc mX12_fail.1 2 := ⟨by decide +kernel, by decide +kernel, by decide +kernel⟩
theorem ol_X12_1 : Cond.methodLink RX12 1 objectInit ∈ gtb := (gk tin_7 nX12_0_7_0 4 rfl (by decide +kernel))
theorem fl_X12_7 : FL RX12 7 12 1 true := ⟨RX12, TX12, cl_12, by decide, (gk tin_7 nX12_0_7_0 5 rfl (by decide +kernel)), rfl⟩
theorem fl_X12_13 : FL RX12 13 12 2 true := ⟨RX12, TX12, cl_12, by decide, (gk tin_7 nX12_0_7_0 6 rfl (by decide +kernel)), rfl⟩
theorem fl_X12_16 : FL RX12 16 12 3 true := ⟨RX12, TX12, cl_12, by decide, (gk tin_7 nX12_0_7_0 7 rfl (by decide +kernel)), rfl⟩
theorem fl_X12_19 : FL RX12 19 12 4 true := ⟨RX12, TX12, cl_12, by decide, (gk tin_7 nX12_0_7_0 8 rfl (by decide +kernel)), rfl⟩
theorem kl_X12_22 : Cond.constant RX12 22 (39040) ∈ gtb := (gk tin_7 nX12_0_7_0 9 rfl (by decide +kernel))
theorem fl_X12_23 : FL RX12 23 12 5 true := ⟨RX12, TX12, cl_12, by decide, (gk tin_7 nX12_0_7_0 10 rfl (by decide +kernel)), rfl⟩
theorem fl_X12_26 : FL RX12 26 12 6 false := ⟨RX12, TX12, cl_12, by decide, (gk tin_7 nX12_0_7_0 11 rfl (by decide +kernel)), rfl⟩
theorem fl_X12_30 : FL RX12 30 12 7 false := ⟨RX12, TX12, cl_12, by decide, (gk tin_7 nX12_0_7_0 12 rfl (by decide +kernel)), rfl⟩
theorem fl_X12_33 : FL RX12 33 12 8 false := ⟨RX12, TX12, cl_12, by decide, (gk tin_7 nX12_0_7_0 13 rfl (by decide +kernel)), rfl⟩
theorem fl_X12_36 : FL RX12 36 12 9 true := ⟨RX12, TX12, cl_12, by decide, (gk tin_7 nX12_0_7_0 14 rfl (by decide +kernel)), rfl⟩
theorem fl_X12_39 : FL RX12 39 12 10 true := ⟨RX12, TX12, cl_12, by decide, (gk tin_7 nX12_0_7_0 15 rfl (by decide +kernel)), rfl⟩
theorem fl_X12_42 : FL RX12 42 12 11 true := ⟨RX12, TX12, cl_12, by decide, (gk tin_7 nX12_0_7_0 16 rfl (by decide +kernel)), rfl⟩
theorem fl_X12_45 : FL RX12 45 12 13 false := ⟨RX12, TX12, cl_12, by decide, (gk tin_7 nX12_0_7_0 17 rfl (by decide +kernel)), rfl⟩
theorem kl_X12_48 : Cond.constant RX12 48 (82400) ∈ gtb := (gk tin_7 nX12_0_7_0 18 rfl (by decide +kernel))
theorem fl_X12_49 : FL RX12 49 12 18 true := ⟨RX12, TX12, cl_12, by decide, (gk tin_7 nX12_0_7_0 19 rfl (by decide +kernel)), rfl⟩
theorem fl_X12_53 : FL RX12 53 12 20 true := ⟨RX12, TX12, cl_12, by decide, (gk tin_7 nX12_0_7_0 20 rfl (by decide +kernel)), rfl⟩
theorem fl_X12_56 : FL RX12 56 12 21 true := ⟨RX12, TX12, cl_12, by decide, (gk tin_7 nX12_0_7_0 21 rfl (by decide +kernel)), rfl⟩
theorem fl_X12_60 : FL RX12 60 12 22 true := ⟨RX12, TX12, cl_12, by decide, (gk tin_7 nX12_0_7_0 22 rfl (by decide +kernel)), rfl⟩
theorem fl_X12_63 : FL RX12 63 12 23 true := ⟨RX12, TX12, cl_12, by decide, (gk tin_7 nX12_0_7_0 23 rfl (by decide +kernel)), rfl⟩
theorem kl_X12_66 : Cond.constant RX12 66 (60420) ∈ gtb := (gk tin_7 nX12_0_7_0 24 rfl (by decide +kernel))
theorem fl_X12_67 : FL RX12 67 12 26 true := ⟨RX12, TX12, cl_12, by decide, (gk tin_7 nX12_0_7_0 25 rfl (by decide +kernel)), rfl⟩
theorem fl_X12_70 : FL RX12 70 12 27 true := ⟨RX12, TX12, cl_12, by decide, (gk tin_7 nX12_0_7_0 26 rfl (by decide +kernel)), rfl⟩
theorem fl_X12_73 : FL RX12 73 12 28 true := ⟨RX12, TX12, cl_12, by decide, (gk tin_7 nX12_0_7_0 27 rfl (by decide +kernel)), rfl⟩
theorem fl_X12_76 : FL RX12 76 12 29 true := ⟨RX12, TX12, cl_12, by decide, (gk tin_7 nX12_0_7_0 28 rfl (by decide +kernel)), rfl⟩
theorem fl_X12_79 : FL RX12 79 12 30 true := ⟨RX12, TX12, cl_12, by decide, (gk tin_7 nX12_0_7_0 29 rfl (by decide +kernel)), rfl⟩
theorem fl_X12_82 : FL RX12 82 12 31 true := ⟨RX12, TX12, cl_12, by decide, (gk tin_7 nX12_0_7_0 30 rfl (by decide +kernel)), rfl⟩
theorem fl_X12_85 : FL RX12 85 12 32 true := ⟨RX12, TX12, cl_12, by decide, (gk tin_7 nX12_0_7_0 31 rfl (by decide +kernel)), rfl⟩
theorem fl_X12_88 : FL RX12 88 12 33 true := ⟨RX12, TX12, cl_12, by decide, (gk tin_7 nX12_0_7_0 32 rfl (by decide +kernel)), rfl⟩
theorem fl_X12_91 : FL RX12 91 12 34 true := ⟨RX12, TX12, cl_12, by decide, (gk tin_7 nX12_0_7_0 33 rfl (by decide +kernel)), rfl⟩
theorem fl_X12_94 : FL RX12 94 12 35 true := ⟨RX12, TX12, cl_12, by decide, (gk tin_8 nX12_0_8_0 0 rfl (by decide +kernel)), rfl⟩
theorem fl_X12_97 : FL RX12 97 12 36 true := ⟨RX12, TX12, cl_12, by decide, (gk tin_8 nX12_0_8_0 1 rfl (by decide +kernel)), rfl⟩
theorem fl_X12_100 : FL RX12 100 12 37 true := ⟨RX12, TX12, cl_12, by decide, (gk tin_8 nX12_0_8_0 2 rfl (by decide +kernel)), rfl⟩
theorem fl_X12_103 : FL RX12 103 12 38 true := ⟨RX12, TX12, cl_12, by decide, (gk tin_8 nX12_0_8_0 3 rfl (by decide +kernel)), rfl⟩
theorem fl_X12_106 : FL RX12 106 12 39 true := ⟨RX12, TX12, cl_12, by decide, (gk tin_8 nX12_0_8_0 4 rfl (by decide +kernel)), rfl⟩
theorem fl_X12_109 : FL RX12 109 12 60 true := ⟨RX12, TX12, cl_12, by decide, (gk tin_8 nX12_0_8_0 5 rfl (by decide +kernel)), rfl⟩
theorem fl_X12_112 : FL RX12 112 12 61 true := ⟨RX12, TX12, cl_12, by decide, (gk tin_8 nX12_0_8_0 6 rfl (by decide +kernel)), rfl⟩
theorem fl_X12_115 : FL RX12 115 12 62 true := ⟨RX12, TX12, cl_12, by decide, (gk tin_8 nX12_0_8_0 7 rfl (by decide +kernel)), rfl⟩
theorem kl_X12_118 : Cond.constant RX12 118 (314880) ∈ gtb := (gk tin_7 nX12_0_7_0 34 rfl (by decide +kernel))
theorem fl_X12_119 : FL RX12 119 12 63 true := ⟨RX12, TX12, cl_12, by decide, (gk tin_8 nX12_0_8_0 8 rfl (by decide +kernel)), rfl⟩
theorem fl_X12_122 : FL RX12 122 12 64 true := ⟨RX12, TX12, cl_12, by decide, (gk tin_8 nX12_0_8_0 9 rfl (by decide +kernel)), rfl⟩
theorem fl_X12_126 : FL RX12 126 12 66 true := ⟨RX12, TX12, cl_12, by decide, (gk tin_8 nX12_0_8_0 10 rfl (by decide +kernel)), rfl⟩
theorem fl_X12_129 : FL RX12 129 12 67 true := ⟨RX12, TX12, cl_12, by decide, (gk tin_8 nX12_0_8_0 11 rfl (by decide +kernel)), rfl⟩
theorem fl_X12_132 : FL RX12 132 12 68 true := ⟨RX12, TX12, cl_12, by decide, (gk tin_8 nX12_0_8_0 12 rfl (by decide +kernel)), rfl⟩
theorem fl_X12_135 : FL RX12 135 12 69 true := ⟨RX12, TX12, cl_12, by decide, (gk tin_8 nX12_0_8_0 13 rfl (by decide +kernel)), rfl⟩
theorem fl_X12_138 : FL RX12 138 12 70 true := ⟨RX12, TX12, cl_12, by decide, (gk tin_8 nX12_0_8_0 14 rfl (by decide +kernel)), rfl⟩
theorem fl_X12_141 : FL RX12 141 12 82 true := ⟨RX12, TX12, cl_12, by decide, (gk tin_8 nX12_0_8_0 15 rfl (by decide +kernel)), rfl⟩
theorem fl_X12_144 : FL RX12 144 12 83 true := ⟨RX12, TX12, cl_12, by decide, (gk tin_8 nX12_0_8_0 16 rfl (by decide +kernel)), rfl⟩
theorem fl_X12_147 : FL RX12 147 12 84 true := ⟨RX12, TX12, cl_12, by decide, (gk tin_8 nX12_0_8_0 17 rfl (by decide +kernel)), rfl⟩
theorem fl_X12_150 : FL RX12 150 12 85 true := ⟨RX12, TX12, cl_12, by decide, (gk tin_8 nX12_0_8_0 18 rfl (by decide +kernel)), rfl⟩
theorem fl_X12_153 : FL RX12 153 12 86 true := ⟨RX12, TX12, cl_12, by decide, (gk tin_8 nX12_0_8_0 19 rfl (by decide +kernel)), rfl⟩
theorem fl_X12_156 : FL RX12 156 12 88 true := ⟨RX12, TX12, cl_12, by decide, (gk tin_8 nX12_0_8_0 20 rfl (by decide +kernel)), rfl⟩
theorem fl_X12_159 : FL RX12 159 12 89 true := ⟨RX12, TX12, cl_12, by decide, (gk tin_8 nX12_0_8_0 21 rfl (by decide +kernel)), rfl⟩
theorem fl_X12_162 : FL RX12 162 12 90 true := ⟨RX12, TX12, cl_12, by decide, (gk tin_8 nX12_0_8_0 22 rfl (by decide +kernel)), rfl⟩
theorem fl_X12_165 : FL RX12 165 12 91 true := ⟨RX12, TX12, cl_12, by decide, (gk tin_8 nX12_0_8_0 23 rfl (by decide +kernel)), rfl⟩
theorem fl_X12_168 : FL RX12 168 12 92 true := ⟨RX12, TX12, cl_12, by decide, (gk tin_8 nX12_0_8_0 24 rfl (by decide +kernel)), rfl⟩
theorem fl_X12_171 : FL RX12 171 12 93 true := ⟨RX12, TX12, cl_12, by decide, (gk tin_8 nX12_0_8_0 25 rfl (by decide +kernel)), rfl⟩
theorem fl_X12_174 : FL RX12 174 12 94 true := ⟨RX12, TX12, cl_12, by decide, (gk tin_8 nX12_0_8_0 26 rfl (by decide +kernel)), rfl⟩
theorem fl_X12_177 : FL RX12 177 12 95 true := ⟨RX12, TX12, cl_12, by decide, (gk tin_8 nX12_0_8_0 27 rfl (by decide +kernel)), rfl⟩
theorem fl_X12_180 : FL RX12 180 12 96 true := ⟨RX12, TX12, cl_12, by decide, (gk tin_8 nX12_0_8_0 28 rfl (by decide +kernel)), rfl⟩
theorem fl_X12_183 : FL RX12 183 12 97 true := ⟨RX12, TX12, cl_12, by decide, (gk tin_8 nX12_0_8_0 29 rfl (by decide +kernel)), rfl⟩
theorem fl_X12_186 : FL RX12 186 12 99 true := ⟨RX12, TX12, cl_12, by decide, (gk tin_8 nX12_0_8_0 30 rfl (by decide +kernel)), rfl⟩
theorem fl_X12_189 : FL RX12 189 12 101 true := ⟨RX12, TX12, cl_12, by decide, (gk tin_8 nX12_0_8_0 31 rfl (by decide +kernel)), rfl⟩
theorem fl_X12_192 : FL RX12 192 12 102 true := ⟨RX12, TX12, cl_12, by decide, (gk tin_8 nX12_0_8_0 32 rfl (by decide +kernel)), rfl⟩
theorem fl_X12_195 : FL RX12 195 12 103 true := ⟨RX12, TX12, cl_12, by decide, (gk tin_8 nX12_0_8_0 33 rfl (by decide +kernel)), rfl⟩
theorem vl_X12_198 : VL RX12 198 12 mX12_copySheet 2 := ⟨⟨qc_X12_copySheet, (gk tin_7 nX12_0_7_0 35 rfl (by decide +kernel)), qi_X12_copySheet, qs_X12_copySheet, zw_12⟩, ⟨_, _, rfl⟩, by decide, qd_X12_copySheet, by decide⟩
theorem fl_X12_202 : FL RX12 202 12 0 false := ⟨RX12, TX12, cl_12, by decide, (gk tin_7 nX12_0_7_0 36 rfl (by decide +kernel)), rfl⟩
theorem fl_X12_205 : FL RX12 205 12 65 false := ⟨RX12, TX12, cl_12, by decide, (gk tin_8 nX12_0_8_0 34 rfl (by decide +kernel)), rfl⟩
theorem vl_X12_209 : VL RX12 209 12 mX12_linesOf 2 := ⟨⟨qc_X12_linesOf, (gk tin_10 nX12_0_10_0 16 rfl (by decide +kernel)), qi_X12_linesOf, qs_X12_linesOf, zw_12⟩, ⟨_, _, rfl⟩, by decide, qd_X12_linesOf, by decide⟩
theorem vl_X12_213 : VL RX12 213 12 mX12_lineAt 3 := ⟨⟨qc_X12_lineAt, (gk tin_9 nX12_0_9_0 37 rfl (by decide +kernel)), qi_X12_lineAt, qs_X12_lineAt, zw_12⟩, ⟨_, _, rfl⟩, by decide, qd_X12_lineAt, by decide⟩
theorem vl_X12_217 : VL RX12 217 12 mX12_placeOf 3 := ⟨⟨qc_X12_placeOf, (gk tin_10 nX12_0_10_0 17 rfl (by decide +kernel)), qi_X12_placeOf, qs_X12_placeOf, zw_12⟩, ⟨_, _, rfl⟩, by decide, qd_X12_placeOf, by decide⟩
theorem sl_X12_220 : SL RX12 220 mX12_in 3 := ⟨⟨qc_X12_in, (gk tin_9 nX12_0_9_0 38 rfl (by decide +kernel)), qt_X12_in, zw_12⟩, qd_X12_in, by decide⟩
theorem fl_X12_224 : FL RX12 224 12 15 false := ⟨RX12, TX12, cl_12, by decide, (gk tin_7 nX12_0_7_0 37 rfl (by decide +kernel)), rfl⟩
theorem fl_X12_227 : FL RX12 227 12 16 false := ⟨RX12, TX12, cl_12, by decide, (gk tin_7 nX12_0_7_0 38 rfl (by decide +kernel)), rfl⟩
theorem fl_X12_230 : FL RX12 230 12 17 false := ⟨RX12, TX12, cl_12, by decide, (gk tin_7 nX12_0_7_0 39 rfl (by decide +kernel)), rfl⟩
theorem vl_X12_233 : VL RX12 233 12 mX12_stepAt 1 := ⟨⟨qc_X12_stepAt, (gk tin_9 nX12_0_9_0 39 rfl (by decide +kernel)), qi_X12_stepAt, qs_X12_stepAt, zw_12⟩, ⟨_, _, rfl⟩, by decide, qd_X12_stepAt, by decide⟩
theorem vl_X12_237 : VL RX12 237 12 mX12_throwing 1 := ⟨⟨qc_X12_throwing, (gk tin_9 nX12_0_9_0 40 rfl (by decide +kernel)), qi_X12_throwing, qs_X12_throwing, zw_12⟩, ⟨_, _, rfl⟩, by decide, qd_X12_throwing, by decide⟩
theorem kl_X12_240 : Cond.constant RX12 240 (100000) ∈ gtb := (gk tin_10 nX12_0_10_0 18 rfl (by decide +kernel))
theorem vl_X12_241 : VL RX12 241 12 mX12_sameLetters 3 := ⟨⟨qc_X12_sameLetters, (gk tin_11 nX12_0_11_0 8 rfl (by decide +kernel)), qi_X12_sameLetters, qs_X12_sameLetters, zw_12⟩, ⟨_, _, rfl⟩, by decide, qd_X12_sameLetters, by decide⟩
theorem sl_X12_244 : SL RX12 244 mX12_isFormula 1 := ⟨⟨qc_X12_isFormula, (gk tin_10 nX12_0_10_0 19 rfl (by decide +kernel)), qt_X12_isFormula, zw_12⟩, qd_X12_isFormula, by decide⟩
theorem vl_X12_248 : VL RX12 248 12 mX12_sameParts 2 := ⟨⟨qc_X12_sameParts, (gk tin_11 nX12_0_11_0 9 rfl (by decide +kernel)), qi_X12_sameParts, qs_X12_sameParts, zw_12⟩, ⟨_, _, rfl⟩, by decide, qd_X12_sameParts, by decide⟩
theorem fl_X12_252 : FL RX12 252 12 24 false := ⟨RX12, TX12, cl_12, by decide, (gk tin_7 nX12_0_7_0 40 rfl (by decide +kernel)), rfl⟩
theorem fl_X12_255 : FL RX12 255 12 19 false := ⟨RX12, TX12, cl_12, by decide, (gk tin_7 nX12_0_7_0 41 rfl (by decide +kernel)), rfl⟩
theorem fl_X12_258 : FL RX12 258 12 40 false := ⟨RX12, TX12, cl_12, by decide, (gk tin_8 nX12_0_8_0 35 rfl (by decide +kernel)), rfl⟩
theorem fl_X12_261 : FL RX12 261 12 44 false := ⟨RX12, TX12, cl_12, by decide, (gk tin_8 nX12_0_8_0 36 rfl (by decide +kernel)), rfl⟩
theorem vl_X12_270 : VL RX12 270 12 mX12_byteAt 1 := ⟨⟨qc_X12_byteAt, (gk tin_9 nX12_0_9_0 41 rfl (by decide +kernel)), qi_X12_byteAt, qs_X12_byteAt, zw_12⟩, ⟨_, _, rfl⟩, by decide, qd_X12_byteAt, by decide⟩
theorem fl_X12_277 : FL RX12 277 12 41 false := ⟨RX12, TX12, cl_12, by decide, (gk tin_8 nX12_0_8_0 37 rfl (by decide +kernel)), rfl⟩
theorem fl_X12_280 : FL RX12 280 12 42 false := ⟨RX12, TX12, cl_12, by decide, (gk tin_8 nX12_0_8_0 38 rfl (by decide +kernel)), rfl⟩
def tl_X12_init : List (Nat × Instr × Nat) := [(0, .aload_n 0, 1), (1, .invokespecial 1, 3), (4, .aload_n 0, 1), (5, .bipush 122, 2), (7, .newarray .int, 2), (9, .putfield 7, 3), (12, .aload_n 0, 1), (13, .bipush 122, 2), (15, .newarray .int, 2), (17, .putfield 13, 3), (20, .aload_n 0, 1), (21, .sipush 3904, 3), (24, .newarray .int, 2), (26, .putfield 16, 3), (29, .aload_n 0, 1), (30, .sipush 1220, 3), (33, .newarray .int, 2), (35, .putfield 19, 3), (38, .aload_n 0, 1), (39, .ldc 22, 2), (41, .newarray .int, 2), (43, .putfield 23, 3), (46, .aload_n 0, 1), (47, .bipush 8, 2), (49, .putfield 26, 3), (52, .aload_n 0, 1), (53, .bipush 6, 2), (55, .putfield 30, 3), (58, .aload_n 0, 1), (59, .iconst 1, 1), (60, .putfield 33, 3), (63, .aload_n 0, 1), (64, .bipush 40, 2), (66, .newarray .int, 2), (68, .putfield 36, 3), (71, .aload_n 0, 1), (72, .bipush 40, 2), (74, .newarray .int, 2), (76, .putfield 39, 3), (79, .aload_n 0, 1), (80, .bipush 6, 2), (82, .newarray .int, 2), (84, .putfield 42, 3), (87, .aload_n 0, 1), (88, .iconst (-1), 1), (89, .putfield 45, 3), (92, .aload_n 0, 1), (93, .ldc 48, 2), (95, .newarray .byte, 2), (97, .putfield 49, 3), (100, .aload_n 0, 1), (101, .sipush 4200, 3), (104, .newarray .int, 2), (106, .putfield 53, 3), (109, .aload_n 0, 1), (110, .sipush 4200, 3), (113, .newarray .long, 2), (115, .putfield 56, 3), (118, .aload_n 0, 1), (119, .sipush 4200, 3), (122, .newarray .int, 2), (124, .putfield 60, 3), (127, .aload_n 0, 1), (128, .sipush 4200, 3), (131, .newarray .int, 2), (133, .putfield 63, 3), (136, .aload_n 0, 1), (137, .ldc 66, 2), (139, .newarray .int, 2), (141, .putfield 67, 3), (144, .aload_n 0, 1), (145, .ldc 66, 2), (147, .newarray .int, 2), (149, .putfield 70, 3), (152, .aload_n 0, 1), (153, .ldc 66, 2), (155, .newarray .int, 2), (157, .putfield 73, 3), (160, .aload_n 0, 1), (161, .ldc 66, 2), (163, .newarray .long, 2), (165, .putfield 76, 3), (168, .aload_n 0, 1), (169, .ldc 66, 2), (171, .newarray .int, 2), (173, .putfield 79, 3), (176, .aload_n 0, 1), (177, .ldc 66, 2), (179, .newarray .int, 2), (181, .putfield 82, 3), (184, .aload_n 0, 1), (185, .ldc 66, 2), (187, .newarray .int, 2), (189, .putfield 85, 3), (192, .aload_n 0, 1), (193, .ldc 66, 2), (195, .newarray .int, 2), (197, .putfield 88, 3), (200, .aload_n 0, 1), (201, .ldc 66, 2), (203, .newarray .int, 2), (205, .putfield 91, 3), (208, .aload_n 0, 1), (209, .ldc 66, 2), (211, .newarray .int, 2), (213, .putfield 94, 3), (216, .aload_n 0, 1), (217, .ldc 66, 2), (219, .newarray .int, 2), (221, .putfield 97, 3), (224, .aload_n 0, 1), (225, .ldc 66, 2), (227, .newarray .int, 2), (229, .putfield 100, 3), (232, .aload_n 0, 1), (233, .ldc 66, 2), (235, .newarray .int, 2), (237, .putfield 103, 3), (240, .aload_n 0, 1), (241, .sipush 400, 3), (244, .newarray .int, 2), (246, .putfield 106, 3), (249, .aload_n 0, 1), (250, .sipush 13120, 3), (253, .newarray .int, 2), (255, .putfield 109, 3), (258, .aload_n 0, 1), (259, .sipush 13120, 3), (262, .newarray .long, 2), (264, .putfield 112, 3), (267, .aload_n 0, 1), (268, .sipush 13120, 3), (271, .newarray .int, 2), (273, .putfield 115, 3), (276, .aload_n 0, 1), (277, .ldc 118, 2), (279, .newarray .byte, 2), (281, .putfield 119, 3), (284, .aload_n 0, 1), (285, .bipush 40, 2), (287, .newarray .boolean, 2), (289, .putfield 122, 3), (292, .aload_n 0, 1), (293, .sipush 200, 3), (296, .newarray .int, 2), (298, .putfield 126, 3), (301, .aload_n 0, 1), (302, .sipush 200, 3), (305, .newarray .long, 2), (307, .putfield 129, 3), (310, .aload_n 0, 1), (311, .sipush 200, 3), (314, .newarray .int, 2), (316, .putfield 132, 3), (319, .aload_n 0, 1), (320, .sipush 4800, 3), (323, .newarray .byte, 2), (325, .putfield 135, 3), (328, .aload_n 0, 1), (329, .bipush 20, 2), (331, .newarray .byte, 2), (333, .putfield 138, 3), (336, .aload_n 0, 1), (337, .sipush 1600, 3), (340, .newarray .long, 2), (342, .putfield 141, 3), (345, .aload_n 0, 1), (346, .sipush 1600, 3), (349, .newarray .long, 2), (351, .putfield 144, 3), (354, .aload_n 0, 1), (355, .sipush 320, 3), (358, .newarray .boolean, 2), (360, .putfield 147, 3), (363, .aload_n 0, 1), (364, .iconst 5, 1), (365, .newarray .long, 2), (367, .putfield 150, 3), (370, .aload_n 0, 1), (371, .sipush 2000, 3), (374, .newarray .byte, 2), (376, .putfield 153, 3), (379, .aload_n 0, 1), (380, .bipush 32, 2), (382, .newarray .int, 2), (384, .putfield 156, 3), (387, .aload_n 0, 1), (388, .bipush 40, 2), (390, .newarray .boolean, 2), (392, .putfield 159, 3), (395, .aload_n 0, 1), (396, .bipush 40, 2), (398, .newarray .boolean, 2), (400, .putfield 162, 3), (403, .aload_n 0, 1), (404, .sipush 370, 3), (407, .newarray .int, 2), (409, .putfield 165, 3), (412, .aload_n 0, 1), (413, .sipush 370, 3), (416, .newarray .int, 2), (418, .putfield 168, 3), (421, .aload_n 0, 1), (422, .sipush 370, 3), (425, .newarray .int, 2), (427, .putfield 171, 3), (430, .aload_n 0, 1), (431, .sipush 370, 3), (434, .newarray .int, 2), (436, .putfield 174, 3), (439, .aload_n 0, 1), (440, .sipush 370, 3), (443, .newarray .int, 2), (445, .putfield 177, 3), (448, .aload_n 0, 1), (449, .sipush 370, 3), (452, .newarray .boolean, 2), (454, .putfield 180, 3), (457, .aload_n 0, 1), (458, .sipush 370, 3), (461, .newarray .boolean, 2), (463, .putfield 183, 3), (466, .aload_n 0, 1), (467, .bipush 64, 2), (469, .newarray .int, 2), (471, .putfield 186, 3), (474, .aload_n 0, 1), (475, .sipush 410, 3), (478, .newarray .int, 2), (480, .putfield 189, 3), (483, .aload_n 0, 1), (484, .sipush 410, 3), (487, .newarray .int, 2), (489, .putfield 192, 3), (492, .aload_n 0, 1), (493, .sipush 410, 3), (496, .newarray .int, 2), (498, .putfield 195, 3), (501, .iconst 1, 1), (502, .istore_n 1, 1), (503, .iload_n 1, 1), (504, .bipush 6, 2), (506, .if_icmp .ge 16, 3), (509, .aload_n 0, 1), (510, .getfield 42, 3), (513, .iload_n 1, 1), (514, .iconst (-1), 1), (515, .iastore, 1), (516, .iinc 1 1, 3), (519, .goto (-16), 3), (522, .aload_n 0, 1), (523, .getfield 36, 3), (526, .iconst 0, 1), (527, .iconst (-1), 1), (528, .iastore, 1), (529, .aload_n 0, 1), (530, .getfield 39, 3), (533, .iconst 0, 1), (534, .iconst (-1), 1), (535, .iastore, 1), (536, .aload_n 0, 1), (537, .getfield 7, 3), (540, .iconst 0, 1), (541, .bipush 8, 2), (543, .iastore, 1), (544, .aload_n 0, 1), (545, .getfield 13, 3), (548, .iconst 0, 1), (549, .bipush 6, 2), (551, .iastore, 1), (552, .iconst 0, 1), (553, .istore_n 1, 1), (554, .iload_n 1, 1), (555, .bipush 8, 2), (557, .if_icmp .ge 16, 3), (560, .aload_n 0, 1), (561, .getfield 16, 3), (564, .iload_n 1, 1), (565, .iload_n 1, 1), (566, .iastore, 1), (567, .iinc 1 1, 3), (570, .goto (-16), 3), (573, .iconst 0, 1), (574, .istore_n 1, 1), (575, .iload_n 1, 1), (576, .bipush 6, 2), (578, .if_icmp .ge 16, 3), (581, .aload_n 0, 1), (582, .getfield 19, 3), (585, .iload_n 1, 1), (586, .iload_n 1, 1), (587, .iastore, 1), (588, .iinc 1 1, 3), (591, .goto (-16), 3), (594, .aload_n 0, 1), (595, .iconst 0, 1), (596, .bipush 40, 2), (598, .invokevirtual 198, 3), (601, .return_, 1)]
set_option maxRecDepth 100000 in
theorem dt_X12_init : tl_X12_init.all (fun q => decide (decode cX12_init q.1 = .ok (q.2.1, q.2.2))) = true := by decide +kernel
theorem dX12_init_0 : decode cX12_init 0 = .ok (.aload_n 0, 1) := dk dt_X12_init 0 rfl
theorem dX12_init_1 : decode cX12_init 1 = .ok (.invokespecial 1, 3) := dk dt_X12_init 1 rfl
theorem dX12_init_4 : decode cX12_init 4 = .ok (.aload_n 0, 1) := dk dt_X12_init 2 rfl
theorem dX12_init_5 : decode cX12_init 5 = .ok (.bipush 122, 2) := dk dt_X12_init 3 rfl
theorem dX12_init_7 : decode cX12_init 7 = .ok (.newarray .int, 2) := dk dt_X12_init 4 rfl
theorem dX12_init_9 : decode cX12_init 9 = .ok (.putfield 7, 3) := dk dt_X12_init 5 rfl
theorem dX12_init_12 : decode cX12_init 12 = .ok (.aload_n 0, 1) := dk dt_X12_init 6 rfl
theorem dX12_init_13 : decode cX12_init 13 = .ok (.bipush 122, 2) := dk dt_X12_init 7 rfl
theorem dX12_init_15 : decode cX12_init 15 = .ok (.newarray .int, 2) := dk dt_X12_init 8 rfl
theorem dX12_init_17 : decode cX12_init 17 = .ok (.putfield 13, 3) := dk dt_X12_init 9 rfl
theorem dX12_init_20 : decode cX12_init 20 = .ok (.aload_n 0, 1) := dk dt_X12_init 10 rfl
theorem dX12_init_21 : decode cX12_init 21 = .ok (.sipush 3904, 3) := dk dt_X12_init 11 rfl
theorem dX12_init_24 : decode cX12_init 24 = .ok (.newarray .int, 2) := dk dt_X12_init 12 rfl
theorem dX12_init_26 : decode cX12_init 26 = .ok (.putfield 16, 3) := dk dt_X12_init 13 rfl
theorem dX12_init_29 : decode cX12_init 29 = .ok (.aload_n 0, 1) := dk dt_X12_init 14 rfl
theorem dX12_init_30 : decode cX12_init 30 = .ok (.sipush 1220, 3) := dk dt_X12_init 15 rfl
theorem dX12_init_33 : decode cX12_init 33 = .ok (.newarray .int, 2) := dk dt_X12_init 16 rfl
theorem dX12_init_35 : decode cX12_init 35 = .ok (.putfield 19, 3) := dk dt_X12_init 17 rfl
theorem dX12_init_38 : decode cX12_init 38 = .ok (.aload_n 0, 1) := dk dt_X12_init 18 rfl
theorem dX12_init_39 : decode cX12_init 39 = .ok (.ldc 22, 2) := dk dt_X12_init 19 rfl
theorem dX12_init_41 : decode cX12_init 41 = .ok (.newarray .int, 2) := dk dt_X12_init 20 rfl
theorem dX12_init_43 : decode cX12_init 43 = .ok (.putfield 23, 3) := dk dt_X12_init 21 rfl
theorem dX12_init_46 : decode cX12_init 46 = .ok (.aload_n 0, 1) := dk dt_X12_init 22 rfl
theorem dX12_init_47 : decode cX12_init 47 = .ok (.bipush 8, 2) := dk dt_X12_init 23 rfl
theorem dX12_init_49 : decode cX12_init 49 = .ok (.putfield 26, 3) := dk dt_X12_init 24 rfl
theorem dX12_init_52 : decode cX12_init 52 = .ok (.aload_n 0, 1) := dk dt_X12_init 25 rfl
theorem dX12_init_53 : decode cX12_init 53 = .ok (.bipush 6, 2) := dk dt_X12_init 26 rfl
theorem dX12_init_55 : decode cX12_init 55 = .ok (.putfield 30, 3) := dk dt_X12_init 27 rfl
theorem dX12_init_58 : decode cX12_init 58 = .ok (.aload_n 0, 1) := dk dt_X12_init 28 rfl
theorem dX12_init_59 : decode cX12_init 59 = .ok (.iconst 1, 1) := dk dt_X12_init 29 rfl
theorem dX12_init_60 : decode cX12_init 60 = .ok (.putfield 33, 3) := dk dt_X12_init 30 rfl
theorem dX12_init_63 : decode cX12_init 63 = .ok (.aload_n 0, 1) := dk dt_X12_init 31 rfl
theorem dX12_init_64 : decode cX12_init 64 = .ok (.bipush 40, 2) := dk dt_X12_init 32 rfl
theorem dX12_init_66 : decode cX12_init 66 = .ok (.newarray .int, 2) := dk dt_X12_init 33 rfl
theorem dX12_init_68 : decode cX12_init 68 = .ok (.putfield 36, 3) := dk dt_X12_init 34 rfl
theorem dX12_init_71 : decode cX12_init 71 = .ok (.aload_n 0, 1) := dk dt_X12_init 35 rfl
theorem dX12_init_72 : decode cX12_init 72 = .ok (.bipush 40, 2) := dk dt_X12_init 36 rfl
theorem dX12_init_74 : decode cX12_init 74 = .ok (.newarray .int, 2) := dk dt_X12_init 37 rfl
theorem dX12_init_76 : decode cX12_init 76 = .ok (.putfield 39, 3) := dk dt_X12_init 38 rfl
theorem dX12_init_79 : decode cX12_init 79 = .ok (.aload_n 0, 1) := dk dt_X12_init 39 rfl
theorem dX12_init_80 : decode cX12_init 80 = .ok (.bipush 6, 2) := dk dt_X12_init 40 rfl
theorem dX12_init_82 : decode cX12_init 82 = .ok (.newarray .int, 2) := dk dt_X12_init 41 rfl
theorem dX12_init_84 : decode cX12_init 84 = .ok (.putfield 42, 3) := dk dt_X12_init 42 rfl
theorem dX12_init_87 : decode cX12_init 87 = .ok (.aload_n 0, 1) := dk dt_X12_init 43 rfl
theorem dX12_init_88 : decode cX12_init 88 = .ok (.iconst (-1), 1) := dk dt_X12_init 44 rfl
theorem dX12_init_89 : decode cX12_init 89 = .ok (.putfield 45, 3) := dk dt_X12_init 45 rfl
theorem dX12_init_92 : decode cX12_init 92 = .ok (.aload_n 0, 1) := dk dt_X12_init 46 rfl
theorem dX12_init_93 : decode cX12_init 93 = .ok (.ldc 48, 2) := dk dt_X12_init 47 rfl
theorem dX12_init_95 : decode cX12_init 95 = .ok (.newarray .byte, 2) := dk dt_X12_init 48 rfl
theorem dX12_init_97 : decode cX12_init 97 = .ok (.putfield 49, 3) := dk dt_X12_init 49 rfl
theorem dX12_init_100 : decode cX12_init 100 = .ok (.aload_n 0, 1) := dk dt_X12_init 50 rfl
theorem dX12_init_101 : decode cX12_init 101 = .ok (.sipush 4200, 3) := dk dt_X12_init 51 rfl
theorem dX12_init_104 : decode cX12_init 104 = .ok (.newarray .int, 2) := dk dt_X12_init 52 rfl
theorem dX12_init_106 : decode cX12_init 106 = .ok (.putfield 53, 3) := dk dt_X12_init 53 rfl
theorem dX12_init_109 : decode cX12_init 109 = .ok (.aload_n 0, 1) := dk dt_X12_init 54 rfl
theorem dX12_init_110 : decode cX12_init 110 = .ok (.sipush 4200, 3) := dk dt_X12_init 55 rfl
theorem dX12_init_113 : decode cX12_init 113 = .ok (.newarray .long, 2) := dk dt_X12_init 56 rfl
theorem dX12_init_115 : decode cX12_init 115 = .ok (.putfield 56, 3) := dk dt_X12_init 57 rfl
theorem dX12_init_118 : decode cX12_init 118 = .ok (.aload_n 0, 1) := dk dt_X12_init 58 rfl
theorem dX12_init_119 : decode cX12_init 119 = .ok (.sipush 4200, 3) := dk dt_X12_init 59 rfl
theorem dX12_init_122 : decode cX12_init 122 = .ok (.newarray .int, 2) := dk dt_X12_init 60 rfl
theorem dX12_init_124 : decode cX12_init 124 = .ok (.putfield 60, 3) := dk dt_X12_init 61 rfl
theorem dX12_init_127 : decode cX12_init 127 = .ok (.aload_n 0, 1) := dk dt_X12_init 62 rfl
theorem dX12_init_128 : decode cX12_init 128 = .ok (.sipush 4200, 3) := dk dt_X12_init 63 rfl
theorem dX12_init_131 : decode cX12_init 131 = .ok (.newarray .int, 2) := dk dt_X12_init 64 rfl
theorem dX12_init_133 : decode cX12_init 133 = .ok (.putfield 63, 3) := dk dt_X12_init 65 rfl
theorem dX12_init_136 : decode cX12_init 136 = .ok (.aload_n 0, 1) := dk dt_X12_init 66 rfl
theorem dX12_init_137 : decode cX12_init 137 = .ok (.ldc 66, 2) := dk dt_X12_init 67 rfl
theorem dX12_init_139 : decode cX12_init 139 = .ok (.newarray .int, 2) := dk dt_X12_init 68 rfl
theorem dX12_init_141 : decode cX12_init 141 = .ok (.putfield 67, 3) := dk dt_X12_init 69 rfl
theorem dX12_init_144 : decode cX12_init 144 = .ok (.aload_n 0, 1) := dk dt_X12_init 70 rfl
theorem dX12_init_145 : decode cX12_init 145 = .ok (.ldc 66, 2) := dk dt_X12_init 71 rfl
theorem dX12_init_147 : decode cX12_init 147 = .ok (.newarray .int, 2) := dk dt_X12_init 72 rfl
theorem dX12_init_149 : decode cX12_init 149 = .ok (.putfield 70, 3) := dk dt_X12_init 73 rfl
theorem dX12_init_152 : decode cX12_init 152 = .ok (.aload_n 0, 1) := dk dt_X12_init 74 rfl
theorem dX12_init_153 : decode cX12_init 153 = .ok (.ldc 66, 2) := dk dt_X12_init 75 rfl
theorem dX12_init_155 : decode cX12_init 155 = .ok (.newarray .int, 2) := dk dt_X12_init 76 rfl
theorem dX12_init_157 : decode cX12_init 157 = .ok (.putfield 73, 3) := dk dt_X12_init 77 rfl
theorem dX12_init_160 : decode cX12_init 160 = .ok (.aload_n 0, 1) := dk dt_X12_init 78 rfl
theorem dX12_init_161 : decode cX12_init 161 = .ok (.ldc 66, 2) := dk dt_X12_init 79 rfl
theorem dX12_init_163 : decode cX12_init 163 = .ok (.newarray .long, 2) := dk dt_X12_init 80 rfl
theorem dX12_init_165 : decode cX12_init 165 = .ok (.putfield 76, 3) := dk dt_X12_init 81 rfl
theorem dX12_init_168 : decode cX12_init 168 = .ok (.aload_n 0, 1) := dk dt_X12_init 82 rfl
theorem dX12_init_169 : decode cX12_init 169 = .ok (.ldc 66, 2) := dk dt_X12_init 83 rfl
theorem dX12_init_171 : decode cX12_init 171 = .ok (.newarray .int, 2) := dk dt_X12_init 84 rfl
theorem dX12_init_173 : decode cX12_init 173 = .ok (.putfield 79, 3) := dk dt_X12_init 85 rfl
theorem dX12_init_176 : decode cX12_init 176 = .ok (.aload_n 0, 1) := dk dt_X12_init 86 rfl
theorem dX12_init_177 : decode cX12_init 177 = .ok (.ldc 66, 2) := dk dt_X12_init 87 rfl
theorem dX12_init_179 : decode cX12_init 179 = .ok (.newarray .int, 2) := dk dt_X12_init 88 rfl
theorem dX12_init_181 : decode cX12_init 181 = .ok (.putfield 82, 3) := dk dt_X12_init 89 rfl
theorem dX12_init_184 : decode cX12_init 184 = .ok (.aload_n 0, 1) := dk dt_X12_init 90 rfl
theorem dX12_init_185 : decode cX12_init 185 = .ok (.ldc 66, 2) := dk dt_X12_init 91 rfl
theorem dX12_init_187 : decode cX12_init 187 = .ok (.newarray .int, 2) := dk dt_X12_init 92 rfl
theorem dX12_init_189 : decode cX12_init 189 = .ok (.putfield 85, 3) := dk dt_X12_init 93 rfl
theorem dX12_init_192 : decode cX12_init 192 = .ok (.aload_n 0, 1) := dk dt_X12_init 94 rfl
theorem dX12_init_193 : decode cX12_init 193 = .ok (.ldc 66, 2) := dk dt_X12_init 95 rfl
theorem dX12_init_195 : decode cX12_init 195 = .ok (.newarray .int, 2) := dk dt_X12_init 96 rfl
theorem dX12_init_197 : decode cX12_init 197 = .ok (.putfield 88, 3) := dk dt_X12_init 97 rfl
theorem dX12_init_200 : decode cX12_init 200 = .ok (.aload_n 0, 1) := dk dt_X12_init 98 rfl
theorem dX12_init_201 : decode cX12_init 201 = .ok (.ldc 66, 2) := dk dt_X12_init 99 rfl
theorem dX12_init_203 : decode cX12_init 203 = .ok (.newarray .int, 2) := dk dt_X12_init 100 rfl
theorem dX12_init_205 : decode cX12_init 205 = .ok (.putfield 91, 3) := dk dt_X12_init 101 rfl
theorem dX12_init_208 : decode cX12_init 208 = .ok (.aload_n 0, 1) := dk dt_X12_init 102 rfl
theorem dX12_init_209 : decode cX12_init 209 = .ok (.ldc 66, 2) := dk dt_X12_init 103 rfl
theorem dX12_init_211 : decode cX12_init 211 = .ok (.newarray .int, 2) := dk dt_X12_init 104 rfl
theorem dX12_init_213 : decode cX12_init 213 = .ok (.putfield 94, 3) := dk dt_X12_init 105 rfl
theorem dX12_init_216 : decode cX12_init 216 = .ok (.aload_n 0, 1) := dk dt_X12_init 106 rfl
theorem dX12_init_217 : decode cX12_init 217 = .ok (.ldc 66, 2) := dk dt_X12_init 107 rfl
theorem dX12_init_219 : decode cX12_init 219 = .ok (.newarray .int, 2) := dk dt_X12_init 108 rfl
theorem dX12_init_221 : decode cX12_init 221 = .ok (.putfield 97, 3) := dk dt_X12_init 109 rfl
theorem dX12_init_224 : decode cX12_init 224 = .ok (.aload_n 0, 1) := dk dt_X12_init 110 rfl
theorem dX12_init_225 : decode cX12_init 225 = .ok (.ldc 66, 2) := dk dt_X12_init 111 rfl
theorem dX12_init_227 : decode cX12_init 227 = .ok (.newarray .int, 2) := dk dt_X12_init 112 rfl
theorem dX12_init_229 : decode cX12_init 229 = .ok (.putfield 100, 3) := dk dt_X12_init 113 rfl
theorem dX12_init_232 : decode cX12_init 232 = .ok (.aload_n 0, 1) := dk dt_X12_init 114 rfl
theorem dX12_init_233 : decode cX12_init 233 = .ok (.ldc 66, 2) := dk dt_X12_init 115 rfl
theorem dX12_init_235 : decode cX12_init 235 = .ok (.newarray .int, 2) := dk dt_X12_init 116 rfl
theorem dX12_init_237 : decode cX12_init 237 = .ok (.putfield 103, 3) := dk dt_X12_init 117 rfl
theorem dX12_init_240 : decode cX12_init 240 = .ok (.aload_n 0, 1) := dk dt_X12_init 118 rfl
theorem dX12_init_241 : decode cX12_init 241 = .ok (.sipush 400, 3) := dk dt_X12_init 119 rfl
theorem dX12_init_244 : decode cX12_init 244 = .ok (.newarray .int, 2) := dk dt_X12_init 120 rfl
theorem dX12_init_246 : decode cX12_init 246 = .ok (.putfield 106, 3) := dk dt_X12_init 121 rfl
theorem dX12_init_249 : decode cX12_init 249 = .ok (.aload_n 0, 1) := dk dt_X12_init 122 rfl
theorem dX12_init_250 : decode cX12_init 250 = .ok (.sipush 13120, 3) := dk dt_X12_init 123 rfl
theorem dX12_init_253 : decode cX12_init 253 = .ok (.newarray .int, 2) := dk dt_X12_init 124 rfl
theorem dX12_init_255 : decode cX12_init 255 = .ok (.putfield 109, 3) := dk dt_X12_init 125 rfl
theorem dX12_init_258 : decode cX12_init 258 = .ok (.aload_n 0, 1) := dk dt_X12_init 126 rfl
theorem dX12_init_259 : decode cX12_init 259 = .ok (.sipush 13120, 3) := dk dt_X12_init 127 rfl
theorem dX12_init_262 : decode cX12_init 262 = .ok (.newarray .long, 2) := dk dt_X12_init 128 rfl
theorem dX12_init_264 : decode cX12_init 264 = .ok (.putfield 112, 3) := dk dt_X12_init 129 rfl
theorem dX12_init_267 : decode cX12_init 267 = .ok (.aload_n 0, 1) := dk dt_X12_init 130 rfl
theorem dX12_init_268 : decode cX12_init 268 = .ok (.sipush 13120, 3) := dk dt_X12_init 131 rfl
theorem dX12_init_271 : decode cX12_init 271 = .ok (.newarray .int, 2) := dk dt_X12_init 132 rfl
theorem dX12_init_273 : decode cX12_init 273 = .ok (.putfield 115, 3) := dk dt_X12_init 133 rfl
theorem dX12_init_276 : decode cX12_init 276 = .ok (.aload_n 0, 1) := dk dt_X12_init 134 rfl
theorem dX12_init_277 : decode cX12_init 277 = .ok (.ldc 118, 2) := dk dt_X12_init 135 rfl
theorem dX12_init_279 : decode cX12_init 279 = .ok (.newarray .byte, 2) := dk dt_X12_init 136 rfl
theorem dX12_init_281 : decode cX12_init 281 = .ok (.putfield 119, 3) := dk dt_X12_init 137 rfl
theorem dX12_init_284 : decode cX12_init 284 = .ok (.aload_n 0, 1) := dk dt_X12_init 138 rfl
theorem dX12_init_285 : decode cX12_init 285 = .ok (.bipush 40, 2) := dk dt_X12_init 139 rfl
theorem dX12_init_287 : decode cX12_init 287 = .ok (.newarray .boolean, 2) := dk dt_X12_init 140 rfl
theorem dX12_init_289 : decode cX12_init 289 = .ok (.putfield 122, 3) := dk dt_X12_init 141 rfl
theorem dX12_init_292 : decode cX12_init 292 = .ok (.aload_n 0, 1) := dk dt_X12_init 142 rfl
theorem dX12_init_293 : decode cX12_init 293 = .ok (.sipush 200, 3) := dk dt_X12_init 143 rfl
theorem dX12_init_296 : decode cX12_init 296 = .ok (.newarray .int, 2) := dk dt_X12_init 144 rfl
theorem dX12_init_298 : decode cX12_init 298 = .ok (.putfield 126, 3) := dk dt_X12_init 145 rfl
theorem dX12_init_301 : decode cX12_init 301 = .ok (.aload_n 0, 1) := dk dt_X12_init 146 rfl
theorem dX12_init_302 : decode cX12_init 302 = .ok (.sipush 200, 3) := dk dt_X12_init 147 rfl
theorem dX12_init_305 : decode cX12_init 305 = .ok (.newarray .long, 2) := dk dt_X12_init 148 rfl
theorem dX12_init_307 : decode cX12_init 307 = .ok (.putfield 129, 3) := dk dt_X12_init 149 rfl
theorem dX12_init_310 : decode cX12_init 310 = .ok (.aload_n 0, 1) := dk dt_X12_init 150 rfl
theorem dX12_init_311 : decode cX12_init 311 = .ok (.sipush 200, 3) := dk dt_X12_init 151 rfl
theorem dX12_init_314 : decode cX12_init 314 = .ok (.newarray .int, 2) := dk dt_X12_init 152 rfl
theorem dX12_init_316 : decode cX12_init 316 = .ok (.putfield 132, 3) := dk dt_X12_init 153 rfl
theorem dX12_init_319 : decode cX12_init 319 = .ok (.aload_n 0, 1) := dk dt_X12_init 154 rfl
theorem dX12_init_320 : decode cX12_init 320 = .ok (.sipush 4800, 3) := dk dt_X12_init 155 rfl
theorem dX12_init_323 : decode cX12_init 323 = .ok (.newarray .byte, 2) := dk dt_X12_init 156 rfl
theorem dX12_init_325 : decode cX12_init 325 = .ok (.putfield 135, 3) := dk dt_X12_init 157 rfl
theorem dX12_init_328 : decode cX12_init 328 = .ok (.aload_n 0, 1) := dk dt_X12_init 158 rfl
theorem dX12_init_329 : decode cX12_init 329 = .ok (.bipush 20, 2) := dk dt_X12_init 159 rfl
theorem dX12_init_331 : decode cX12_init 331 = .ok (.newarray .byte, 2) := dk dt_X12_init 160 rfl
theorem dX12_init_333 : decode cX12_init 333 = .ok (.putfield 138, 3) := dk dt_X12_init 161 rfl
theorem dX12_init_336 : decode cX12_init 336 = .ok (.aload_n 0, 1) := dk dt_X12_init 162 rfl
theorem dX12_init_337 : decode cX12_init 337 = .ok (.sipush 1600, 3) := dk dt_X12_init 163 rfl
theorem dX12_init_340 : decode cX12_init 340 = .ok (.newarray .long, 2) := dk dt_X12_init 164 rfl
theorem dX12_init_342 : decode cX12_init 342 = .ok (.putfield 141, 3) := dk dt_X12_init 165 rfl
theorem dX12_init_345 : decode cX12_init 345 = .ok (.aload_n 0, 1) := dk dt_X12_init 166 rfl
theorem dX12_init_346 : decode cX12_init 346 = .ok (.sipush 1600, 3) := dk dt_X12_init 167 rfl
theorem dX12_init_349 : decode cX12_init 349 = .ok (.newarray .long, 2) := dk dt_X12_init 168 rfl
theorem dX12_init_351 : decode cX12_init 351 = .ok (.putfield 144, 3) := dk dt_X12_init 169 rfl
theorem dX12_init_354 : decode cX12_init 354 = .ok (.aload_n 0, 1) := dk dt_X12_init 170 rfl
theorem dX12_init_355 : decode cX12_init 355 = .ok (.sipush 320, 3) := dk dt_X12_init 171 rfl
theorem dX12_init_358 : decode cX12_init 358 = .ok (.newarray .boolean, 2) := dk dt_X12_init 172 rfl
theorem dX12_init_360 : decode cX12_init 360 = .ok (.putfield 147, 3) := dk dt_X12_init 173 rfl
theorem dX12_init_363 : decode cX12_init 363 = .ok (.aload_n 0, 1) := dk dt_X12_init 174 rfl
theorem dX12_init_364 : decode cX12_init 364 = .ok (.iconst 5, 1) := dk dt_X12_init 175 rfl
theorem dX12_init_365 : decode cX12_init 365 = .ok (.newarray .long, 2) := dk dt_X12_init 176 rfl
theorem dX12_init_367 : decode cX12_init 367 = .ok (.putfield 150, 3) := dk dt_X12_init 177 rfl
theorem dX12_init_370 : decode cX12_init 370 = .ok (.aload_n 0, 1) := dk dt_X12_init 178 rfl
theorem dX12_init_371 : decode cX12_init 371 = .ok (.sipush 2000, 3) := dk dt_X12_init 179 rfl
theorem dX12_init_374 : decode cX12_init 374 = .ok (.newarray .byte, 2) := dk dt_X12_init 180 rfl
theorem dX12_init_376 : decode cX12_init 376 = .ok (.putfield 153, 3) := dk dt_X12_init 181 rfl
theorem dX12_init_379 : decode cX12_init 379 = .ok (.aload_n 0, 1) := dk dt_X12_init 182 rfl
theorem dX12_init_380 : decode cX12_init 380 = .ok (.bipush 32, 2) := dk dt_X12_init 183 rfl
theorem dX12_init_382 : decode cX12_init 382 = .ok (.newarray .int, 2) := dk dt_X12_init 184 rfl
theorem dX12_init_384 : decode cX12_init 384 = .ok (.putfield 156, 3) := dk dt_X12_init 185 rfl
theorem dX12_init_387 : decode cX12_init 387 = .ok (.aload_n 0, 1) := dk dt_X12_init 186 rfl
theorem dX12_init_388 : decode cX12_init 388 = .ok (.bipush 40, 2) := dk dt_X12_init 187 rfl
theorem dX12_init_390 : decode cX12_init 390 = .ok (.newarray .boolean, 2) := dk dt_X12_init 188 rfl
theorem dX12_init_392 : decode cX12_init 392 = .ok (.putfield 159, 3) := dk dt_X12_init 189 rfl
theorem dX12_init_395 : decode cX12_init 395 = .ok (.aload_n 0, 1) := dk dt_X12_init 190 rfl
theorem dX12_init_396 : decode cX12_init 396 = .ok (.bipush 40, 2) := dk dt_X12_init 191 rfl
theorem dX12_init_398 : decode cX12_init 398 = .ok (.newarray .boolean, 2) := dk dt_X12_init 192 rfl
theorem dX12_init_400 : decode cX12_init 400 = .ok (.putfield 162, 3) := dk dt_X12_init 193 rfl
theorem dX12_init_403 : decode cX12_init 403 = .ok (.aload_n 0, 1) := dk dt_X12_init 194 rfl
theorem dX12_init_404 : decode cX12_init 404 = .ok (.sipush 370, 3) := dk dt_X12_init 195 rfl
theorem dX12_init_407 : decode cX12_init 407 = .ok (.newarray .int, 2) := dk dt_X12_init 196 rfl
theorem dX12_init_409 : decode cX12_init 409 = .ok (.putfield 165, 3) := dk dt_X12_init 197 rfl
theorem dX12_init_412 : decode cX12_init 412 = .ok (.aload_n 0, 1) := dk dt_X12_init 198 rfl
theorem dX12_init_413 : decode cX12_init 413 = .ok (.sipush 370, 3) := dk dt_X12_init 199 rfl
theorem dX12_init_416 : decode cX12_init 416 = .ok (.newarray .int, 2) := dk dt_X12_init 200 rfl
theorem dX12_init_418 : decode cX12_init 418 = .ok (.putfield 168, 3) := dk dt_X12_init 201 rfl
theorem dX12_init_421 : decode cX12_init 421 = .ok (.aload_n 0, 1) := dk dt_X12_init 202 rfl
theorem dX12_init_422 : decode cX12_init 422 = .ok (.sipush 370, 3) := dk dt_X12_init 203 rfl
theorem dX12_init_425 : decode cX12_init 425 = .ok (.newarray .int, 2) := dk dt_X12_init 204 rfl
theorem dX12_init_427 : decode cX12_init 427 = .ok (.putfield 171, 3) := dk dt_X12_init 205 rfl
theorem dX12_init_430 : decode cX12_init 430 = .ok (.aload_n 0, 1) := dk dt_X12_init 206 rfl
theorem dX12_init_431 : decode cX12_init 431 = .ok (.sipush 370, 3) := dk dt_X12_init 207 rfl
theorem dX12_init_434 : decode cX12_init 434 = .ok (.newarray .int, 2) := dk dt_X12_init 208 rfl
theorem dX12_init_436 : decode cX12_init 436 = .ok (.putfield 174, 3) := dk dt_X12_init 209 rfl
theorem dX12_init_439 : decode cX12_init 439 = .ok (.aload_n 0, 1) := dk dt_X12_init 210 rfl
theorem dX12_init_440 : decode cX12_init 440 = .ok (.sipush 370, 3) := dk dt_X12_init 211 rfl
theorem dX12_init_443 : decode cX12_init 443 = .ok (.newarray .int, 2) := dk dt_X12_init 212 rfl
theorem dX12_init_445 : decode cX12_init 445 = .ok (.putfield 177, 3) := dk dt_X12_init 213 rfl
theorem dX12_init_448 : decode cX12_init 448 = .ok (.aload_n 0, 1) := dk dt_X12_init 214 rfl
theorem dX12_init_449 : decode cX12_init 449 = .ok (.sipush 370, 3) := dk dt_X12_init 215 rfl
theorem dX12_init_452 : decode cX12_init 452 = .ok (.newarray .boolean, 2) := dk dt_X12_init 216 rfl
theorem dX12_init_454 : decode cX12_init 454 = .ok (.putfield 180, 3) := dk dt_X12_init 217 rfl
theorem dX12_init_457 : decode cX12_init 457 = .ok (.aload_n 0, 1) := dk dt_X12_init 218 rfl
theorem dX12_init_458 : decode cX12_init 458 = .ok (.sipush 370, 3) := dk dt_X12_init 219 rfl
theorem dX12_init_461 : decode cX12_init 461 = .ok (.newarray .boolean, 2) := dk dt_X12_init 220 rfl
theorem dX12_init_463 : decode cX12_init 463 = .ok (.putfield 183, 3) := dk dt_X12_init 221 rfl
theorem dX12_init_466 : decode cX12_init 466 = .ok (.aload_n 0, 1) := dk dt_X12_init 222 rfl
theorem dX12_init_467 : decode cX12_init 467 = .ok (.bipush 64, 2) := dk dt_X12_init 223 rfl
theorem dX12_init_469 : decode cX12_init 469 = .ok (.newarray .int, 2) := dk dt_X12_init 224 rfl
theorem dX12_init_471 : decode cX12_init 471 = .ok (.putfield 186, 3) := dk dt_X12_init 225 rfl
theorem dX12_init_474 : decode cX12_init 474 = .ok (.aload_n 0, 1) := dk dt_X12_init 226 rfl
theorem dX12_init_475 : decode cX12_init 475 = .ok (.sipush 410, 3) := dk dt_X12_init 227 rfl
theorem dX12_init_478 : decode cX12_init 478 = .ok (.newarray .int, 2) := dk dt_X12_init 228 rfl
theorem dX12_init_480 : decode cX12_init 480 = .ok (.putfield 189, 3) := dk dt_X12_init 229 rfl
theorem dX12_init_483 : decode cX12_init 483 = .ok (.aload_n 0, 1) := dk dt_X12_init 230 rfl
theorem dX12_init_484 : decode cX12_init 484 = .ok (.sipush 410, 3) := dk dt_X12_init 231 rfl
theorem dX12_init_487 : decode cX12_init 487 = .ok (.newarray .int, 2) := dk dt_X12_init 232 rfl
theorem dX12_init_489 : decode cX12_init 489 = .ok (.putfield 192, 3) := dk dt_X12_init 233 rfl
theorem dX12_init_492 : decode cX12_init 492 = .ok (.aload_n 0, 1) := dk dt_X12_init 234 rfl
theorem dX12_init_493 : decode cX12_init 493 = .ok (.sipush 410, 3) := dk dt_X12_init 235 rfl
theorem dX12_init_496 : decode cX12_init 496 = .ok (.newarray .int, 2) := dk dt_X12_init 236 rfl
theorem dX12_init_498 : decode cX12_init 498 = .ok (.putfield 195, 3) := dk dt_X12_init 237 rfl
theorem dX12_init_501 : decode cX12_init 501 = .ok (.iconst 1, 1) := dk dt_X12_init 238 rfl
theorem dX12_init_502 : decode cX12_init 502 = .ok (.istore_n 1, 1) := dk dt_X12_init 239 rfl
theorem dX12_init_503 : decode cX12_init 503 = .ok (.iload_n 1, 1) := dk dt_X12_init 240 rfl
theorem dX12_init_504 : decode cX12_init 504 = .ok (.bipush 6, 2) := dk dt_X12_init 241 rfl
theorem dX12_init_506 : decode cX12_init 506 = .ok (.if_icmp .ge 16, 3) := dk dt_X12_init 242 rfl
theorem dX12_init_509 : decode cX12_init 509 = .ok (.aload_n 0, 1) := dk dt_X12_init 243 rfl
theorem dX12_init_510 : decode cX12_init 510 = .ok (.getfield 42, 3) := dk dt_X12_init 244 rfl
theorem dX12_init_513 : decode cX12_init 513 = .ok (.iload_n 1, 1) := dk dt_X12_init 245 rfl
theorem dX12_init_514 : decode cX12_init 514 = .ok (.iconst (-1), 1) := dk dt_X12_init 246 rfl
theorem dX12_init_515 : decode cX12_init 515 = .ok (.iastore, 1) := dk dt_X12_init 247 rfl
theorem dX12_init_516 : decode cX12_init 516 = .ok (.iinc 1 1, 3) := dk dt_X12_init 248 rfl
theorem dX12_init_519 : decode cX12_init 519 = .ok (.goto (-16), 3) := dk dt_X12_init 249 rfl
theorem dX12_init_522 : decode cX12_init 522 = .ok (.aload_n 0, 1) := dk dt_X12_init 250 rfl
theorem dX12_init_523 : decode cX12_init 523 = .ok (.getfield 36, 3) := dk dt_X12_init 251 rfl
theorem dX12_init_526 : decode cX12_init 526 = .ok (.iconst 0, 1) := dk dt_X12_init 252 rfl
theorem dX12_init_527 : decode cX12_init 527 = .ok (.iconst (-1), 1) := dk dt_X12_init 253 rfl
theorem dX12_init_528 : decode cX12_init 528 = .ok (.iastore, 1) := dk dt_X12_init 254 rfl
theorem dX12_init_529 : decode cX12_init 529 = .ok (.aload_n 0, 1) := dk dt_X12_init 255 rfl
theorem dX12_init_530 : decode cX12_init 530 = .ok (.getfield 39, 3) := dk dt_X12_init 256 rfl
theorem dX12_init_533 : decode cX12_init 533 = .ok (.iconst 0, 1) := dk dt_X12_init 257 rfl
theorem dX12_init_534 : decode cX12_init 534 = .ok (.iconst (-1), 1) := dk dt_X12_init 258 rfl
theorem dX12_init_535 : decode cX12_init 535 = .ok (.iastore, 1) := dk dt_X12_init 259 rfl
theorem dX12_init_536 : decode cX12_init 536 = .ok (.aload_n 0, 1) := dk dt_X12_init 260 rfl
theorem dX12_init_537 : decode cX12_init 537 = .ok (.getfield 7, 3) := dk dt_X12_init 261 rfl
theorem dX12_init_540 : decode cX12_init 540 = .ok (.iconst 0, 1) := dk dt_X12_init 262 rfl
theorem dX12_init_541 : decode cX12_init 541 = .ok (.bipush 8, 2) := dk dt_X12_init 263 rfl
theorem dX12_init_543 : decode cX12_init 543 = .ok (.iastore, 1) := dk dt_X12_init 264 rfl
theorem dX12_init_544 : decode cX12_init 544 = .ok (.aload_n 0, 1) := dk dt_X12_init 265 rfl
theorem dX12_init_545 : decode cX12_init 545 = .ok (.getfield 13, 3) := dk dt_X12_init 266 rfl
theorem dX12_init_548 : decode cX12_init 548 = .ok (.iconst 0, 1) := dk dt_X12_init 267 rfl
theorem dX12_init_549 : decode cX12_init 549 = .ok (.bipush 6, 2) := dk dt_X12_init 268 rfl
theorem dX12_init_551 : decode cX12_init 551 = .ok (.iastore, 1) := dk dt_X12_init 269 rfl
theorem dX12_init_552 : decode cX12_init 552 = .ok (.iconst 0, 1) := dk dt_X12_init 270 rfl
theorem dX12_init_553 : decode cX12_init 553 = .ok (.istore_n 1, 1) := dk dt_X12_init 271 rfl
theorem dX12_init_554 : decode cX12_init 554 = .ok (.iload_n 1, 1) := dk dt_X12_init 272 rfl
theorem dX12_init_555 : decode cX12_init 555 = .ok (.bipush 8, 2) := dk dt_X12_init 273 rfl
theorem dX12_init_557 : decode cX12_init 557 = .ok (.if_icmp .ge 16, 3) := dk dt_X12_init 274 rfl
theorem dX12_init_560 : decode cX12_init 560 = .ok (.aload_n 0, 1) := dk dt_X12_init 275 rfl
theorem dX12_init_561 : decode cX12_init 561 = .ok (.getfield 16, 3) := dk dt_X12_init 276 rfl
theorem dX12_init_564 : decode cX12_init 564 = .ok (.iload_n 1, 1) := dk dt_X12_init 277 rfl
theorem dX12_init_565 : decode cX12_init 565 = .ok (.iload_n 1, 1) := dk dt_X12_init 278 rfl
theorem dX12_init_566 : decode cX12_init 566 = .ok (.iastore, 1) := dk dt_X12_init 279 rfl
theorem dX12_init_567 : decode cX12_init 567 = .ok (.iinc 1 1, 3) := dk dt_X12_init 280 rfl
theorem dX12_init_570 : decode cX12_init 570 = .ok (.goto (-16), 3) := dk dt_X12_init 281 rfl
theorem dX12_init_573 : decode cX12_init 573 = .ok (.iconst 0, 1) := dk dt_X12_init 282 rfl
theorem dX12_init_574 : decode cX12_init 574 = .ok (.istore_n 1, 1) := dk dt_X12_init 283 rfl
theorem dX12_init_575 : decode cX12_init 575 = .ok (.iload_n 1, 1) := dk dt_X12_init 284 rfl
theorem dX12_init_576 : decode cX12_init 576 = .ok (.bipush 6, 2) := dk dt_X12_init 285 rfl
theorem dX12_init_578 : decode cX12_init 578 = .ok (.if_icmp .ge 16, 3) := dk dt_X12_init 286 rfl
theorem dX12_init_581 : decode cX12_init 581 = .ok (.aload_n 0, 1) := dk dt_X12_init 287 rfl
theorem dX12_init_582 : decode cX12_init 582 = .ok (.getfield 19, 3) := dk dt_X12_init 288 rfl
theorem dX12_init_585 : decode cX12_init 585 = .ok (.iload_n 1, 1) := dk dt_X12_init 289 rfl
theorem dX12_init_586 : decode cX12_init 586 = .ok (.iload_n 1, 1) := dk dt_X12_init 290 rfl
theorem dX12_init_587 : decode cX12_init 587 = .ok (.iastore, 1) := dk dt_X12_init 291 rfl
theorem dX12_init_588 : decode cX12_init 588 = .ok (.iinc 1 1, 3) := dk dt_X12_init 292 rfl
theorem dX12_init_591 : decode cX12_init 591 = .ok (.goto (-16), 3) := dk dt_X12_init 293 rfl
theorem dX12_init_594 : decode cX12_init 594 = .ok (.aload_n 0, 1) := dk dt_X12_init 294 rfl
theorem dX12_init_595 : decode cX12_init 595 = .ok (.iconst 0, 1) := dk dt_X12_init 295 rfl
theorem dX12_init_596 : decode cX12_init 596 = .ok (.bipush 40, 2) := dk dt_X12_init 296 rfl
theorem dX12_init_598 : decode cX12_init 598 = .ok (.invokevirtual 198, 3) := dk dt_X12_init 297 rfl
theorem dX12_init_601 : decode cX12_init 601 = .ok (.return_, 1) := dk dt_X12_init 298 rfl
def tl_X12_thrown : List (Nat × Instr × Nat) := [(0, .aload_n 0, 1), (1, .getfield 202, 3), (4, .ireturn, 1)]
set_option maxRecDepth 100000 in
theorem dt_X12_thrown : tl_X12_thrown.all (fun q => decide (decode cX12_thrown q.1 = .ok (q.2.1, q.2.2))) = true := by decide +kernel
def tl_X12_throwing : List (Nat × Instr × Nat) := [(0, .aload_n 0, 1), (1, .iload_n 1, 1), (2, .putfield 202, 3), (5, .iconst 0, 1), (6, .ireturn, 1)]
set_option maxRecDepth 100000 in
theorem dt_X12_throwing : tl_X12_throwing.all (fun q => decide (decode cX12_throwing q.1 = .ok (q.2.1, q.2.2))) = true := by decide +kernel
def tl_X12_in : List (Nat × Instr × Nat) := [(0, .iload_n 0, 1), (1, .iload_n 1, 1), (2, .if_icmp .lt 12, 3), (5, .iload_n 0, 1), (6, .iload_n 2, 1), (7, .if_icmp .gt 7, 3), (10, .iconst 1, 1), (11, .goto 4, 3), (14, .iconst 0, 1), (15, .ireturn, 1)]
set_option maxRecDepth 100000 in
theorem dt_X12_in : tl_X12_in.all (fun q => decide (decode cX12_in q.1 = .ok (q.2.1, q.2.2))) = true := by decide +kernel
def tl_X12_copySheet : List (Nat × Instr × Nat) := [(0, .aload_n 0, 1), (1, .getfield 7, 3), (4, .iload_n 2, 1), (5, .aload_n 0, 1), (6, .getfield 7, 3), (9, .iload_n 1, 1), (10, .iaload, 1), (11, .iastore, 1), (12, .aload_n 0, 1), (13, .getfield 13, 3), (16, .iload_n 2, 1), (17, .aload_n 0, 1), (18, .getfield 13, 3), (21, .iload_n 1, 1), (22, .iaload, 1), (23, .iastore, 1), (24, .iconst 0, 1), (25, .istore_n 3, 1), (26, .iload_n 3, 1), (27, .bipush 32, 2), (29, .if_icmp .ge 31, 3), (32, .aload_n 0, 1), (33, .getfield 16, 3), (36, .bipush 32, 2), (38, .iload_n 2, 1), (39, .imul, 1), (40, .iload_n 3, 1), (41, .iadd, 1), (42, .aload_n 0, 1), (43, .getfield 16, 3), (46, .bipush 32, 2), (48, .iload_n 1, 1), (49, .imul, 1), (50, .iload_n 3, 1), (51, .iadd, 1), (52, .iaload, 1), (53, .iastore, 1), (54, .iinc 3 1, 3), (57, .goto (-31), 3), (60, .iconst 0, 1), (61, .istore_n 3, 1), (62, .iload_n 3, 1), (63, .bipush 10, 2), (65, .if_icmp .ge 31, 3), (68, .aload_n 0, 1), (69, .getfield 19, 3), (72, .bipush 10, 2), (74, .iload_n 2, 1), (75, .imul, 1), (76, .iload_n 3, 1), (77, .iadd, 1), (78, .aload_n 0, 1), (79, .getfield 19, 3), (82, .bipush 10, 2), (84, .iload_n 1, 1), (85, .imul, 1), (86, .iload_n 3, 1), (87, .iadd, 1), (88, .iaload, 1), (89, .iastore, 1), (90, .iinc 3 1, 3), (93, .goto (-31), 3), (96, .iconst 0, 1), (97, .istore_n 3, 1), (98, .iload_n 3, 1), (99, .sipush 320, 3), (102, .if_icmp .ge 33, 3), (105, .aload_n 0, 1), (106, .getfield 23, 3), (109, .sipush 320, 3), (112, .iload_n 2, 1), (113, .imul, 1), (114, .iload_n 3, 1), (115, .iadd, 1), (116, .aload_n 0, 1), (117, .getfield 23, 3), (120, .sipush 320, 3), (123, .iload_n 1, 1), (124, .imul, 1), (125, .iload_n 3, 1), (126, .iadd, 1), (127, .iaload, 1), (128, .iastore, 1), (129, .iinc 3 1, 3), (132, .goto (-34), 3), (135, .iload_n 2, 1), (136, .bipush 40, 2), (138, .if_icmp .ne 8, 3), (141, .aload_n 0, 1), (142, .iconst 0, 1), (143, .putfield 205, 3), (146, .return_, 1)]
set_option maxRecDepth 100000 in
theorem dt_X12_copySheet : tl_X12_copySheet.all (fun q => decide (decode cX12_copySheet q.1 = .ok (q.2.1, q.2.2))) = true := by decide +kernel
def tl_X12_linesOf : List (Nat × Instr × Nat) := [(0, .iload_n 2, 1), (1, .ifCond .ne 12, 3), (4, .aload_n 0, 1), (5, .getfield 7, 3), (8, .iload_n 1, 1), (9, .iaload, 1), (10, .goto 9, 3), (13, .aload_n 0, 1), (14, .getfield 13, 3), (17, .iload_n 1, 1), (18, .iaload, 1), (19, .ireturn, 1)]
set_option maxRecDepth 100000 in
theorem dt_X12_linesOf : tl_X12_linesOf.all (fun q => decide (decode cX12_linesOf q.1 = .ok (q.2.1, q.2.2))) = true := by decide +kernel
def tl_X12_lineAt : List (Nat × Instr × Nat) := [(0, .iload_n 2, 1), (1, .ifCond .ne 17, 3), (4, .aload_n 0, 1), (5, .getfield 16, 3), (8, .bipush 32, 2), (10, .iload_n 1, 1), (11, .imul, 1), (12, .iload_n 3, 1), (13, .iadd, 1), (14, .iaload, 1), (15, .goto 14, 3), (18, .aload_n 0, 1), (19, .getfield 19, 3), (22, .bipush 10, 2), (24, .iload_n 1, 1), (25, .imul, 1), (26, .iload_n 3, 1), (27, .iadd, 1), (28, .iaload, 1), (29, .ireturn, 1)]
set_option maxRecDepth 100000 in
theorem dt_X12_lineAt : tl_X12_lineAt.all (fun q => decide (decode cX12_lineAt q.1 = .ok (q.2.1, q.2.2))) = true := by decide +kernel
def tl_X12_placeOf : List (Nat × Instr × Nat) := [(0, .iconst 0, 1), (1, .istore 4, 2), (3, .iload 4, 2), (5, .aload_n 0, 1), (6, .iload_n 1, 1), (7, .iload_n 2, 1), (8, .invokevirtual 209, 3), (11, .if_icmp .ge 24, 3), (14, .aload_n 0, 1), (15, .iload_n 1, 1), (16, .iload_n 2, 1), (17, .iload 4, 2), (19, .invokevirtual 213, 3), (22, .iload_n 3, 1), (23, .if_icmp .ne 6, 3), (26, .iload 4, 2), (28, .ireturn, 1), (29, .iinc 4 1, 3), (32, .goto (-29), 3), (35, .iconst (-1), 1), (36, .ireturn, 1)]
set_option maxRecDepth 100000 in
theorem dt_X12_placeOf : tl_X12_placeOf.all (fun q => decide (decode cX12_placeOf q.1 = .ok (q.2.1, q.2.2))) = true := by decide +kernel
def tl_X12_contentOf : List (Nat × Instr × Nat) := [(0, .aload_n 0, 1), (1, .iload_n 1, 1), (2, .iconst 0, 1), (3, .iload_n 2, 1), (4, .invokevirtual 217, 3), (7, .istore 4, 2), (9, .aload_n 0, 1), (10, .iload_n 1, 1), (11, .iconst 1, 1), (12, .iload_n 3, 1), (13, .invokevirtual 217, 3), (16, .istore 5, 2), (18, .iload 4, 2), (20, .ifCond .lt 8, 3), (23, .iload 5, 2), (25, .ifCond .ge 7, 3), (28, .iconst (-1), 1), (29, .goto 22, 3), (32, .aload_n 0, 1), (33, .getfield 23, 3), (36, .sipush 320, 3), (39, .iload_n 1, 1), (40, .imul, 1), (41, .bipush 10, 2), (43, .iload 4, 2), (45, .imul, 1), (46, .iadd, 1), (47, .iload 5, 2), (49, .iadd, 1), (50, .iaload, 1), (51, .ireturn, 1)]
set_option maxRecDepth 100000 in
theorem dt_X12_contentOf : tl_X12_contentOf.all (fun q => decide (decode cX12_contentOf q.1 = .ok (q.2.1, q.2.2))) = true := by decide +kernel
def tl_X12_isCell : List (Nat × Instr × Nat) := [(0, .iload_n 2, 1), (1, .iconst 1, 1), (2, .aload_n 0, 1), (3, .getfield 7, 3), (6, .iload_n 1, 1), (7, .iaload, 1), (8, .invokestatic 220, 3), (11, .ifCond .eq 21, 3), (14, .iload_n 3, 1), (15, .iconst 1, 1), (16, .aload_n 0, 1), (17, .getfield 13, 3), (20, .iload_n 1, 1), (21, .iaload, 1), (22, .invokestatic 220, 3), (25, .ifCond .eq 7, 3), (28, .iconst 1, 1), (29, .goto 4, 3), (32, .iconst 0, 1), (33, .ireturn, 1)]
set_option maxRecDepth 100000 in
theorem dt_X12_isCell : tl_X12_isCell.all (fun q => decide (decode cX12_isCell q.1 = .ok (q.2.1, q.2.2))) = true := by decide +kernel
def tl_X12_cellAt : List (Nat × Instr × Nat) := [(0, .aload_n 0, 1), (1, .getfield 23, 3), (4, .sipush 320, 3), (7, .iload_n 1, 1), (8, .imul, 1), (9, .bipush 10, 2), (11, .iload_n 2, 1), (12, .iconst 1, 1), (13, .isub, 1), (14, .imul, 1), (15, .iadd, 1), (16, .iload_n 3, 1), (17, .iadd, 1), (18, .iconst 1, 1), (19, .isub, 1), (20, .iaload, 1), (21, .ireturn, 1)]
set_option maxRecDepth 100000 in
theorem dt_X12_cellAt : tl_X12_cellAt.all (fun q => decide (decode cX12_cellAt q.1 = .ok (q.2.1, q.2.2))) = true := by decide +kernel
def tl_X12_setCell : List (Nat × Instr × Nat) := [(0, .aload_n 0, 1), (1, .getfield 23, 3), (4, .sipush 12800, 3), (7, .bipush 10, 2), (9, .iload_n 1, 1), (10, .iconst 1, 1), (11, .isub, 1), (12, .imul, 1), (13, .iadd, 1), (14, .iload_n 2, 1), (15, .iadd, 1), (16, .iconst 1, 1), (17, .isub, 1), (18, .iload_n 3, 1), (19, .iastore, 1), (20, .return_, 1)]
set_option maxRecDepth 100000 in
theorem dt_X12_setCell : tl_X12_setCell.all (fun q => decide (decode cX12_setCell q.1 = .ok (q.2.1, q.2.2))) = true := by decide +kernel
def tl_X12_stepAt : List (Nat × Instr × Nat) := [(0, .bipush 41, 2), (2, .aload_n 0, 1), (3, .getfield 224, 3), (6, .iload_n 1, 1), (7, .iadd, 1), (8, .bipush 40, 2), (10, .irem, 1), (11, .iadd, 1), (12, .ireturn, 1)]
set_option maxRecDepth 100000 in
theorem dt_X12_stepAt : tl_X12_stepAt.all (fun q => decide (decode cX12_stepAt q.1 = .ok (q.2.1, q.2.2))) = true := by decide +kernel
def tl_X12_step : List (Nat × Instr × Nat) := [(0, .aload_n 0, 1), (1, .getfield 227, 3), (4, .bipush 40, 2), (6, .if_icmp .ne 19, 3), (9, .aload_n 0, 1), (10, .aload_n 0, 1), (11, .getfield 224, 3), (14, .iconst 1, 1), (15, .iadd, 1), (16, .bipush 40, 2), (18, .irem, 1), (19, .putfield 224, 3), (22, .goto 13, 3), (25, .aload_n 0, 1), (26, .dup, 1), (27, .getfield 227, 3), (30, .iconst 1, 1), (31, .iadd, 1), (32, .putfield 227, 3), (35, .aload_n 0, 1), (36, .iconst 0, 1), (37, .putfield 230, 3), (40, .aload_n 0, 1), (41, .aload_n 0, 1), (42, .getfield 227, 3), (45, .iconst 1, 1), (46, .isub, 1), (47, .invokevirtual 233, 3), (50, .istore_n 1, 1), (51, .aload_n 0, 1), (52, .bipush 40, 2), (54, .iload_n 1, 1), (55, .invokevirtual 198, 3), (58, .aload_n 0, 1), (59, .iconst 0, 1), (60, .putfield 205, 3), (63, .iload_n 1, 1), (64, .ireturn, 1)]
set_option maxRecDepth 100000 in
theorem dt_X12_step : tl_X12_step.all (fun q => decide (decode cX12_step q.1 = .ok (q.2.1, q.2.2))) = true := by decide +kernel
def tl_X12_forgetSteps : List (Nat × Instr × Nat) := [(0, .aload_n 0, 1), (1, .iconst 0, 1), (2, .putfield 227, 3), (5, .aload_n 0, 1), (6, .iconst 0, 1), (7, .putfield 230, 3), (10, .return_, 1)]
set_option maxRecDepth 100000 in
theorem dt_X12_forgetSteps : tl_X12_forgetSteps.all (fun q => decide (decode cX12_forgetSteps q.1 = .ok (q.2.1, q.2.2))) = true := by decide +kernel
def tl_X12_undo : List (Nat × Instr × Nat) := [(0, .aload_n 0, 1), (1, .iconst 0, 1), (2, .putfield 202, 3), (5, .aload_n 0, 1), (6, .getfield 227, 3), (9, .ifCond .ne 9, 3), (12, .aload_n 0, 1), (13, .iconst 1, 1), (14, .invokevirtual 237, 3), (17, .ireturn, 1), (18, .aload_n 0, 1), (19, .bipush 40, 2), (21, .bipush 81, 2), (23, .aload_n 0, 1), (24, .getfield 230, 3), (27, .iadd, 1), (28, .invokevirtual 198, 3), (31, .aload_n 0, 1), (32, .dup, 1), (33, .getfield 230, 3), (36, .iconst 1, 1), (37, .iadd, 1), (38, .putfield 230, 3), (41, .aload_n 0, 1), (42, .dup, 1), (43, .getfield 227, 3), (46, .iconst 1, 1), (47, .isub, 1), (48, .putfield 227, 3), (51, .aload_n 0, 1), (52, .aload_n 0, 1), (53, .aload_n 0, 1), (54, .getfield 227, 3), (57, .invokevirtual 233, 3), (60, .bipush 40, 2), (62, .invokevirtual 198, 3), (65, .aload_n 0, 1), (66, .getfield 227, 3), (69, .ireturn, 1)]
set_option maxRecDepth 100000 in
theorem dt_X12_undo : tl_X12_undo.all (fun q => decide (decode cX12_undo q.1 = .ok (q.2.1, q.2.2))) = true := by decide +kernel
def tl_X12_redo : List (Nat × Instr × Nat) := [(0, .aload_n 0, 1), (1, .iconst 0, 1), (2, .putfield 202, 3), (5, .aload_n 0, 1), (6, .getfield 230, 3), (9, .ifCond .ne 9, 3), (12, .aload_n 0, 1), (13, .iconst 1, 1), (14, .invokevirtual 237, 3), (17, .ireturn, 1), (18, .aload_n 0, 1), (19, .dup, 1), (20, .getfield 227, 3), (23, .iconst 1, 1), (24, .iadd, 1), (25, .putfield 227, 3), (28, .aload_n 0, 1), (29, .bipush 40, 2), (31, .aload_n 0, 1), (32, .aload_n 0, 1), (33, .getfield 227, 3), (36, .iconst 1, 1), (37, .isub, 1), (38, .invokevirtual 233, 3), (41, .invokevirtual 198, 3), (44, .aload_n 0, 1), (45, .dup, 1), (46, .getfield 230, 3), (49, .iconst 1, 1), (50, .isub, 1), (51, .putfield 230, 3), (54, .aload_n 0, 1), (55, .bipush 81, 2), (57, .aload_n 0, 1), (58, .getfield 230, 3), (61, .iadd, 1), (62, .bipush 40, 2), (64, .invokevirtual 198, 3), (67, .aload_n 0, 1), (68, .getfield 230, 3), (71, .ireturn, 1)]
set_option maxRecDepth 100000 in
theorem dt_X12_redo : tl_X12_redo.all (fun q => decide (decode cX12_redo q.1 = .ok (q.2.1, q.2.2))) = true := by decide +kernel
def tl_X12_isFormula : List (Nat × Instr × Nat) := [(0, .iload_n 0, 1), (1, .ifCond .le 13, 3), (4, .iload_n 0, 1), (5, .ldc 240, 2), (7, .if_icmp .ge 7, 3), (10, .iconst 1, 1), (11, .goto 4, 3), (14, .iconst 0, 1), (15, .ireturn, 1)]
set_option maxRecDepth 100000 in
theorem dt_X12_isFormula : tl_X12_isFormula.all (fun q => decide (decode cX12_isFormula q.1 = .ok (q.2.1, q.2.2))) = true := by decide +kernel
def tl_X12_wholeOf : List (Nat × Instr × Nat) := [(0, .iload_n 1, 1), (1, .iconst 1, 1), (2, .isub, 1), (3, .aload_n 0, 1), (4, .getfield 103, 3), (7, .iload_n 1, 1), (8, .iconst 1, 1), (9, .isub, 1), (10, .iaload, 1), (11, .iadd, 1), (12, .iconst 1, 1), (13, .isub, 1), (14, .ireturn, 1)]
set_option maxRecDepth 100000 in
theorem dt_X12_wholeOf : tl_X12_wholeOf.all (fun q => decide (decode cX12_wholeOf q.1 = .ok (q.2.1, q.2.2))) = true := by decide +kernel
def tl_X12_sameLetters : List (Nat × Instr × Nat) := [(0, .iconst 0, 1), (1, .istore 4, 2), (3, .iload 4, 2), (5, .iload_n 3, 1), (6, .if_icmp .ge 32, 3), (9, .aload_n 0, 1), (10, .getfield 49, 3), (13, .iload_n 1, 1), (14, .iload 4, 2), (16, .iadd, 1), (17, .baload, 1), (18, .aload_n 0, 1), (19, .getfield 49, 3), (22, .iload_n 2, 1), (23, .iload 4, 2), (25, .iadd, 1), (26, .baload, 1), (27, .if_icmp .eq 5, 3), (30, .iconst 0, 1), (31, .ireturn, 1), (32, .iinc 4 1, 3), (35, .goto (-32), 3), (38, .iconst 1, 1), (39, .ireturn, 1)]
set_option maxRecDepth 100000 in
theorem dt_X12_sameLetters : tl_X12_sameLetters.all (fun q => decide (decode cX12_sameLetters q.1 = .ok (q.2.1, q.2.2))) = true := by decide +kernel
def tl_X12_sameParts : List (Nat × Instr × Nat) := [(0, .aload_n 0, 1), (1, .getfield 67, 3), (4, .iload_n 1, 1), (5, .iaload, 1), (6, .aload_n 0, 1), (7, .getfield 67, 3), (10, .iload_n 2, 1), (11, .iaload, 1), (12, .if_icmp .ne 53, 3), (15, .aload_n 0, 1), (16, .getfield 70, 3), (19, .iload_n 1, 1), (20, .iaload, 1), (21, .aload_n 0, 1), (22, .getfield 70, 3), (25, .iload_n 2, 1), (26, .iaload, 1), (27, .if_icmp .ne 38, 3), (30, .aload_n 0, 1), (31, .getfield 76, 3), (34, .iload_n 1, 1), (35, .laload, 1), (36, .aload_n 0, 1), (37, .getfield 76, 3), (40, .iload_n 2, 1), (41, .laload, 1), (42, .lcmp, 1), (43, .ifCond .ne 22, 3), (46, .aload_n 0, 1), (47, .getfield 82, 3), (50, .iload_n 1, 1), (51, .iaload, 1), (52, .aload_n 0, 1), (53, .getfield 82, 3), (56, .iload_n 2, 1), (57, .iaload, 1), (58, .if_icmp .ne 7, 3), (61, .iconst 1, 1), (62, .goto 4, 3), (65, .iconst 0, 1), (66, .istore_n 3, 1), (67, .iload_n 3, 1), (68, .ifCond .eq 67, 3), (71, .aload_n 0, 1), (72, .getfield 85, 3), (75, .iload_n 1, 1), (76, .iaload, 1), (77, .aload_n 0, 1), (78, .getfield 85, 3), (81, .iload_n 2, 1), (82, .iaload, 1), (83, .if_icmp .ne 52, 3), (86, .aload_n 0, 1), (87, .getfield 88, 3), (90, .iload_n 1, 1), (91, .iaload, 1), (92, .aload_n 0, 1), (93, .getfield 88, 3), (96, .iload_n 2, 1), (97, .iaload, 1), (98, .if_icmp .ne 37, 3), (101, .aload_n 0, 1), (102, .getfield 91, 3), (105, .iload_n 1, 1), (106, .iaload, 1), (107, .aload_n 0, 1), (108, .getfield 91, 3), (111, .iload_n 2, 1), (112, .iaload, 1), (113, .if_icmp .ne 22, 3), (116, .aload_n 0, 1), (117, .getfield 94, 3), (120, .iload_n 1, 1), (121, .iaload, 1), (122, .aload_n 0, 1), (123, .getfield 94, 3), (126, .iload_n 2, 1), (127, .iaload, 1), (128, .if_icmp .ne 7, 3), (131, .iconst 1, 1), (132, .goto 4, 3), (135, .iconst 0, 1), (136, .istore_n 3, 1), (137, .iload_n 3, 1), (138, .ifCond .eq 37, 3), (141, .aload_n 0, 1), (142, .getfield 97, 3), (145, .iload_n 1, 1), (146, .iaload, 1), (147, .aload_n 0, 1), (148, .getfield 97, 3), (151, .iload_n 2, 1), (152, .iaload, 1), (153, .if_icmp .ne 22, 3), (156, .aload_n 0, 1), (157, .getfield 100, 3), (160, .iload_n 1, 1), (161, .iaload, 1), (162, .aload_n 0, 1), (163, .getfield 100, 3), (166, .iload_n 2, 1), (167, .iaload, 1), (168, .if_icmp .ne 7, 3), (171, .iconst 1, 1), (172, .goto 4, 3), (175, .iconst 0, 1), (176, .istore_n 3, 1), (177, .iload_n 3, 1), (178, .ifCond .eq 32, 3), (181, .aload_n 0, 1), (182, .aload_n 0, 1), (183, .getfield 79, 3), (186, .iload_n 1, 1), (187, .iaload, 1), (188, .aload_n 0, 1), (189, .getfield 79, 3), (192, .iload_n 2, 1), (193, .iaload, 1), (194, .aload_n 0, 1), (195, .getfield 82, 3), (198, .iload_n 1, 1), (199, .iaload, 1), (200, .invokevirtual 241, 3), (203, .ifCond .eq 7, 3), (206, .iconst 1, 1), (207, .goto 4, 3), (210, .iconst 0, 1), (211, .ireturn, 1)]
set_option maxRecDepth 100000 in
theorem dt_X12_sameParts : tl_X12_sameParts.all (fun q => decide (decode cX12_sameParts q.1 = .ok (q.2.1, q.2.2))) = true := by decide +kernel
def tl_X12_alike : List (Nat × Instr × Nat) := [(0, .iload_n 1, 1), (1, .iload_n 2, 1), (2, .if_icmp .ne 5, 3), (5, .iconst 1, 1), (6, .ireturn, 1), (7, .iload_n 1, 1), (8, .ifCond .eq 18, 3), (11, .iload_n 2, 1), (12, .ifCond .eq 14, 3), (15, .iload_n 1, 1), (16, .invokestatic 244, 3), (19, .iload_n 2, 1), (20, .invokestatic 244, 3), (23, .if_icmp .eq 5, 3), (26, .iconst 0, 1), (27, .ireturn, 1), (28, .iload_n 1, 1), (29, .invokestatic 244, 3), (32, .ifCond .eq 72, 3), (35, .aload_n 0, 1), (36, .getfield 103, 3), (39, .iload_n 1, 1), (40, .iconst 1, 1), (41, .isub, 1), (42, .iaload, 1), (43, .istore_n 3, 1), (44, .aload_n 0, 1), (45, .getfield 103, 3), (48, .iload_n 2, 1), (49, .iconst 1, 1), (50, .isub, 1), (51, .iaload, 1), (52, .iload_n 3, 1), (53, .if_icmp .ne 7, 3), (56, .iconst 1, 1), (57, .goto 4, 3), (60, .iconst 0, 1), (61, .istore 4, 2), (63, .iconst 0, 1), (64, .istore 5, 2), (66, .iload 5, 2), (68, .iload_n 3, 1), (69, .if_icmp .ge 32, 3), (72, .iload 4, 2), (74, .ifCond .eq 27, 3), (77, .aload_n 0, 1), (78, .iload_n 1, 1), (79, .iconst 1, 1), (80, .isub, 1), (81, .iload 5, 2), (83, .iadd, 1), (84, .iload_n 2, 1), (85, .iconst 1, 1), (86, .isub, 1), (87, .iload 5, 2), (89, .iadd, 1), (90, .invokevirtual 248, 3), (93, .istore 4, 2), (95, .iinc 5 1, 3), (98, .goto (-32), 3), (101, .iload 4, 2), (103, .ireturn, 1), (104, .iload_n 1, 1), (105, .ldc 240, 2), (107, .isub, 1), (108, .istore_n 3, 1), (109, .iload_n 2, 1), (110, .ldc 240, 2), (112, .isub, 1), (113, .istore 4, 2), (115, .aload_n 0, 1), (116, .getfield 53, 3), (119, .iload_n 3, 1), (120, .iaload, 1), (121, .aload_n 0, 1), (122, .getfield 53, 3), (125, .iload 4, 2), (127, .iaload, 1), (128, .if_icmp .ne 36, 3), (131, .aload_n 0, 1), (132, .getfield 56, 3), (135, .iload_n 3, 1), (136, .laload, 1), (137, .aload_n 0, 1), (138, .getfield 56, 3), (141, .iload 4, 2), (143, .laload, 1), (144, .lcmp, 1), (145, .ifCond .ne 19, 3), (148, .aload_n 0, 1), (149, .getfield 63, 3), (152, .iload_n 3, 1), (153, .iaload, 1), (154, .aload_n 0, 1), (155, .getfield 63, 3), (158, .iload 4, 2), (160, .iaload, 1), (161, .if_icmp .eq 5, 3), (164, .iconst 0, 1), (165, .ireturn, 1), (166, .aload_n 0, 1), (167, .aload_n 0, 1), (168, .getfield 60, 3), (171, .iload_n 3, 1), (172, .iaload, 1), (173, .aload_n 0, 1), (174, .getfield 60, 3), (177, .iload 4, 2), (179, .iaload, 1), (180, .aload_n 0, 1), (181, .getfield 63, 3), (184, .iload_n 3, 1), (185, .iaload, 1), (186, .invokevirtual 241, 3), (189, .ireturn, 1)]
set_option maxRecDepth 100000 in
theorem dt_X12_alike : tl_X12_alike.all (fun q => decide (decode cX12_alike q.1 = .ok (q.2.1, q.2.2))) = true := by decide +kernel
def tl_X12_plain : List (Nat × Instr × Nat) := [(0, .aload_n 0, 1), (1, .getfield 53, 3), (4, .aload_n 0, 1), (5, .getfield 252, 3), (8, .iload_n 1, 1), (9, .iastore, 1), (10, .aload_n 0, 1), (11, .getfield 56, 3), (14, .aload_n 0, 1), (15, .getfield 252, 3), (18, .lload_n 2, 1), (19, .lastore, 1), (20, .aload_n 0, 1), (21, .getfield 60, 3), (24, .aload_n 0, 1), (25, .getfield 252, 3), (28, .iload 4, 2), (30, .iastore, 1), (31, .aload_n 0, 1), (32, .getfield 63, 3), (35, .aload_n 0, 1), (36, .getfield 252, 3), (39, .iload 5, 2), (41, .iastore, 1), (42, .aload_n 0, 1), (43, .dup, 1), (44, .getfield 252, 3), (47, .iconst 1, 1), (48, .iadd, 1), (49, .putfield 252, 3), (52, .ldc 240, 2), (54, .aload_n 0, 1), (55, .getfield 252, 3), (58, .iadd, 1), (59, .iconst 1, 1), (60, .isub, 1), (61, .ireturn, 1)]
set_option maxRecDepth 100000 in
theorem dt_X12_plain : tl_X12_plain.all (fun q => decide (decode cX12_plain q.1 = .ok (q.2.1, q.2.2))) = true := by decide +kernel
def tl_X12_kept : List (Nat × Instr × Nat) := [(0, .aload_n 0, 1), (1, .getfield 255, 3), (4, .istore_n 3, 1), (5, .iload_n 1, 1), (6, .istore 4, 2), (8, .iload 4, 2), (10, .iload_n 2, 1), (11, .if_icmp .ge 36, 3), (14, .aload_n 0, 1), (15, .getfield 49, 3), (18, .aload_n 0, 1), (19, .getfield 255, 3), (22, .aload_n 0, 1), (23, .getfield 106, 3), (26, .iload 4, 2), (28, .iaload, 1), (29, .i2b, 1), (30, .bastore, 1), (31, .aload_n 0, 1), (32, .dup, 1), (33, .getfield 255, 3), (36, .iconst 1, 1), (37, .iadd, 1), (38, .putfield 255, 3), (41, .iinc 4 1, 3), (44, .goto (-36), 3), (47, .iload_n 3, 1), (48, .ireturn, 1)]
set_option maxRecDepth 100000 in
theorem dt_X12_kept : tl_X12_kept.all (fun q => decide (decode cX12_kept q.1 = .ok (q.2.1, q.2.2))) = true := by decide +kernel
def tl_X12_feed : List (Nat × Instr × Nat) := [(0, .aload_n 0, 1), (1, .iconst 0, 1), (2, .putfield 202, 3), (5, .aload_n 0, 1), (6, .getfield 258, 3), (9, .bipush 20, 2), (11, .iadd, 1), (12, .sipush 400, 3), (15, .if_icmp .le 5, 3), (18, .iconst (-1), 1), (19, .ireturn, 1), (20, .iconst 0, 1), (21, .istore 6, 2), (23, .iload 6, 2), (25, .bipush 20, 2), (27, .if_icmp .ge 86, 3), (30, .iload 6, 2), (32, .iconst 4, 1), (33, .if_icmp .ge 7, 3), (36, .iload_n 1, 1), (37, .goto 39, 3), (40, .iload 6, 2), (42, .bipush 8, 2), (44, .if_icmp .ge 7, 3), (47, .iload_n 2, 1), (48, .goto 28, 3), (51, .iload 6, 2), (53, .bipush 12, 2), (55, .if_icmp .ge 7, 3), (58, .iload_n 3, 1), (59, .goto 17, 3), (62, .iload 6, 2), (64, .bipush 16, 2), (66, .if_icmp .ge 8, 3), (69, .iload 4, 2), (71, .goto 5, 3), (74, .iload 5, 2), (76, .istore 7, 2), (78, .aload_n 0, 1), (79, .getfield 106, 3), (82, .aload_n 0, 1), (83, .getfield 258, 3), (86, .iload 6, 2), (88, .iadd, 1), (89, .iload 7, 2), (91, .bipush 24, 2), (93, .bipush 8, 2), (95, .iload 6, 2), (97, .iconst 3, 1), (98, .iand, 1), (99, .imul, 1), (100, .isub, 1), (101, .ishr, 1), (102, .sipush 255, 3), (105, .iand, 1), (106, .iastore, 1), (107, .iinc 6 1, 3), (110, .goto (-87), 3), (113, .aload_n 0, 1), (114, .aload_n 0, 1), (115, .getfield 258, 3), (118, .bipush 20, 2), (120, .iadd, 1), (121, .putfield 258, 3), (124, .aload_n 0, 1), (125, .getfield 258, 3), (128, .ireturn, 1)]
set_option maxRecDepth 100000 in
theorem dt_X12_feed : tl_X12_feed.all (fun q => decide (decode cX12_feed q.1 = .ok (q.2.1, q.2.2))) = true := by decide +kernel
def tl_X12_end : List (Nat × Instr × Nat) := [(0, .aload_n 0, 1), (1, .iconst 0, 1), (2, .putfield 202, 3), (5, .iload_n 1, 1), (6, .iconst 0, 1), (7, .aload_n 0, 1), (8, .getfield 258, 3), (11, .invokestatic 220, 3), (14, .istore_n 2, 1), (15, .iload_n 2, 1), (16, .ifCond .eq 8, 3), (19, .aload_n 0, 1), (20, .iload_n 1, 1), (21, .putfield 258, 3), (24, .iload_n 2, 1), (25, .ireturn, 1)]
set_option maxRecDepth 100000 in
theorem dt_X12_end : tl_X12_end.all (fun q => decide (decode cX12_end q.1 = .ok (q.2.1, q.2.2))) = true := by decide +kernel
def tl_X12_isDigit : List (Nat × Instr × Nat) := [(0, .iload_n 0, 1), (1, .bipush 48, 2), (3, .bipush 57, 2), (5, .invokestatic 220, 3), (8, .ireturn, 1)]
set_option maxRecDepth 100000 in
theorem dt_X12_isDigit : tl_X12_isDigit.all (fun q => decide (decode cX12_isDigit q.1 = .ok (q.2.1, q.2.2))) = true := by decide +kernel
def tl_X12_isLetter : List (Nat × Instr × Nat) := [(0, .iload_n 0, 1), (1, .bipush 65, 2), (3, .bipush 90, 2), (5, .invokestatic 220, 3), (8, .ireturn, 1)]
set_option maxRecDepth 100000 in
theorem dt_X12_isLetter : tl_X12_isLetter.all (fun q => decide (decode cX12_isLetter q.1 = .ok (q.2.1, q.2.2))) = true := by decide +kernel
def tl_X12_isSign : List (Nat × Instr × Nat) := [(0, .iload_n 0, 1), (1, .bipush 32, 2), (3, .bipush 126, 2), (5, .invokestatic 220, 3), (8, .ireturn, 1)]
set_option maxRecDepth 100000 in
theorem dt_X12_isSign : tl_X12_isSign.all (fun q => decide (decode cX12_isSign q.1 = .ok (q.2.1, q.2.2))) = true := by decide +kernel
def tl_X12_byteAt : List (Nat × Instr × Nat) := [(0, .iload_n 1, 1), (1, .aload_n 0, 1), (2, .getfield 261, 3), (5, .if_icmp .ge 12, 3), (8, .aload_n 0, 1), (9, .getfield 106, 3), (12, .iload_n 1, 1), (13, .iaload, 1), (14, .goto 4, 3), (17, .iconst (-1), 1), (18, .ireturn, 1)]
set_option maxRecDepth 100000 in
theorem dt_X12_byteAt : tl_X12_byteAt.all (fun q => decide (decode cX12_byteAt q.1 = .ok (q.2.1, q.2.2))) = true := by decide +kernel
def tl_X12_isWord : List (Nat × Instr × Nat) := [(0, .aload_n 3, 1), (1, .invokevirtual 264, 3), (4, .iload_n 2, 1), (5, .if_icmp .eq 5, 3), (8, .iconst 0, 1), (9, .ireturn, 1), (10, .iconst 0, 1), (11, .istore 4, 2), (13, .iload 4, 2), (15, .iload_n 2, 1), (16, .if_icmp .ge 28, 3), (19, .aload_n 0, 1), (20, .iload_n 1, 1), (21, .iload 4, 2), (23, .iadd, 1), (24, .invokevirtual 270, 3), (27, .aload_n 3, 1), (28, .iload 4, 2), (30, .invokevirtual 273, 3), (33, .if_icmp .eq 5, 3), (36, .iconst 0, 1), (37, .ireturn, 1), (38, .iinc 4 1, 3), (41, .goto (-28), 3), (44, .iconst 1, 1), (45, .ireturn, 1)]
set_option maxRecDepth 100000 in
theorem dt_X12_isWord : tl_X12_isWord.all (fun q => decide (decode cX12_isWord q.1 = .ok (q.2.1, q.2.2))) = true := by decide +kernel
def tl_X12_fail : List (Nat × Instr × Nat) := [(0, .aload_n 0, 1), (1, .getfield 277, 3), (4, .ifCond .ne 13, 3), (7, .aload_n 0, 1), (8, .iload_n 1, 1), (9, .putfield 277, 3), (12, .aload_n 0, 1), (13, .iload_n 2, 1), (14, .putfield 280, 3), (17, .return_, 1)]
set_option maxRecDepth 100000 in
theorem dt_X12_fail : tl_X12_fail.all (fun q => decide (decode cX12_fail q.1 = .ok (q.2.1, q.2.2))) = true := by decide +kernel
