def nX6_0_2_0l : List (Nat × Cond) := [(89, (Jvm.Cond.code ({ cls := "SheetBranches$Sheet", name := "<init>", desc := "([I[I)V" } : Jvm.MethodName) prog_8_method_1_code (3 : Nat) (Option.none : Option Jvm.ClassFile.FieldType))), (88, (Jvm.Cond.instanceMethod ({ cls := "SheetBranches$Sheet", name := "<init>", desc := "([I[I)V" } : Jvm.MethodName))), (231, (Jvm.Cond.code ({ cls := "SheetBranches$Sheet", name := "placeOf", desc := "(II)I" } : Jvm.MethodName) prog_8_method_6_code (5 : Nat) (Option.some Jvm.ClassFile.FieldType.int))), (229, (Jvm.Cond.instanceMethod ({ cls := "SheetBranches$Sheet", name := "placeOf", desc := "(II)I" } : Jvm.MethodName))), (230, (Jvm.Cond.selects "SheetBranches$Sheet" ({ cls := "SheetBranches$Sheet", name := "placeOf", desc := "(II)I" } : Jvm.MethodName) ({ cls := "SheetBranches$Sheet", name := "placeOf", desc := "(II)I" } : Jvm.MethodName))), (126, (Jvm.Cond.code ({ cls := "SheetBranches$Sheet", name := "twin", desc := "()LSheetBranches$Sheet;" } : Jvm.MethodName) prog_8_method_10_code (3 : Nat) (Option.some (Jvm.ClassFile.FieldType.object "SheetBranches$Sheet")))), (124, (Jvm.Cond.instanceMethod ({ cls := "SheetBranches$Sheet", name := "twin", desc := "()LSheetBranches$Sheet;" } : Jvm.MethodName))), (125, (Jvm.Cond.selects "SheetBranches$Sheet" ({ cls := "SheetBranches$Sheet", name := "twin", desc := "()LSheetBranches$Sheet;" } : Jvm.MethodName) ({ cls := "SheetBranches$Sheet", name := "twin", desc := "()LSheetBranches$Sheet;" } : Jvm.MethodName))), (90, (Jvm.Cond.methodLink "SheetBranches$Sheet" (3 : Nat) ({ cls := "java/lang/Object", name := "<init>", desc := "()V" } : Jvm.MethodName))), (93, (Jvm.Cond.fieldLink "SheetBranches$Sheet" (9 : Nat) "SheetBranches$Sheet" "rows" "[I")), (96, (Jvm.Cond.fieldLink "SheetBranches$Sheet" (15 : Nat) "SheetBranches$Sheet" "columns" "[I")), (91, (Jvm.Cond.classLink "SheetBranches$Sheet" (18 : Nat) "SheetBranches$Content")), (100, (Jvm.Cond.fieldLink "SheetBranches$Sheet" (20 : Nat) "SheetBranches$Sheet" "cells" "[LSheetBranches$Content;")), (127, (Jvm.Cond.classLink "SheetBranches$Sheet" (10 : Nat) "SheetBranches$Sheet")), (128, (Jvm.Cond.methodLink "SheetBranches$Sheet" (40 : Nat) ({ cls := "SheetBranches$Sheet", name := "<init>", desc := "([I[I)V" } : Jvm.MethodName))), (104, (Jvm.Cond.fieldLink "SheetBranches$Sheet" (72 : Nat) "SheetBranches$Sheet" "values" "[LSheetBranches$Value;"))]
set_option maxRecDepth 100000 in
theorem nX6_0_2_0 : nX6_0_2_0l.all (fun q => decide (tables_1_2[q.1]? = some q.2)) = true := by decide +kernel
def nX6_0_3_0l : List (Nat × Cond) := [(30, (Jvm.Cond.code ({ cls := "SheetBranches$Sheet", name := "has", desc := "(II)Z" } : Jvm.MethodName) prog_8_method_3_code (3 : Nat) (Option.some Jvm.ClassFile.FieldType.boolean))), (28, (Jvm.Cond.instanceMethod ({ cls := "SheetBranches$Sheet", name := "has", desc := "(II)Z" } : Jvm.MethodName))), (29, (Jvm.Cond.selects "SheetBranches$Sheet" ({ cls := "SheetBranches$Sheet", name := "has", desc := "(II)Z" } : Jvm.MethodName) ({ cls := "SheetBranches$Sheet", name := "has", desc := "(II)Z" } : Jvm.MethodName))), (38, (Jvm.Cond.code ({ cls := "SheetBranches$Sheet", name := "versionsLookedAt", desc := "()J" } : Jvm.MethodName) prog_8_method_13_code (6 : Nat) (Option.some Jvm.ClassFile.FieldType.long))), (36, (Jvm.Cond.instanceMethod ({ cls := "SheetBranches$Sheet", name := "versionsLookedAt", desc := "()J" } : Jvm.MethodName))), (37, (Jvm.Cond.selects "SheetBranches$Sheet" ({ cls := "SheetBranches$Sheet", name := "versionsLookedAt", desc := "()J" } : Jvm.MethodName) ({ cls := "SheetBranches$Sheet", name := "versionsLookedAt", desc := "()J" } : Jvm.MethodName))), (138, (Jvm.Cond.code ({ cls := "SheetBranches$Sheet", name := "valueAt", desc := "(II)LSheetBranches$Value;" } : Jvm.MethodName) prog_8_method_14_code (5 : Nat) (Option.some (Jvm.ClassFile.FieldType.object "SheetBranches$Value")))), (136, (Jvm.Cond.instanceMethod ({ cls := "SheetBranches$Sheet", name := "valueAt", desc := "(II)LSheetBranches$Value;" } : Jvm.MethodName))), (137, (Jvm.Cond.selects "SheetBranches$Sheet" ({ cls := "SheetBranches$Sheet", name := "valueAt", desc := "(II)LSheetBranches$Value;" } : Jvm.MethodName) ({ cls := "SheetBranches$Sheet", name := "valueAt", desc := "(II)LSheetBranches$Value;" } : Jvm.MethodName))), (39, (Jvm.Cond.methodLinkNest "SheetBranches$Sheet" (51 : Nat) ({ cls := "SheetBranches", name := "partsOf", desc := "(LSheetBranches$Content;)I" } : Jvm.MethodName) "SheetBranches")), (41, (Jvm.Cond.code ({ cls := "SheetBranches", name := "partsOf", desc := "(LSheetBranches$Content;)I" } : Jvm.MethodName) prog_1_method_40_code (1 : Nat) (Option.some Jvm.ClassFile.FieldType.int))), (40, (Jvm.Cond.static ({ cls := "SheetBranches", name := "partsOf", desc := "(LSheetBranches$Content;)I" } : Jvm.MethodName)))]
set_option maxRecDepth 100000 in
theorem nX6_0_3_0 : nX6_0_3_0l.all (fun q => decide (tables_1_3[q.1]? = some q.2)) = true := by decide +kernel
def nX6_0_4_0l : List (Nat × Cond) := [(99, (Jvm.Cond.code ({ cls := "SheetBranches$Sheet", name := "at", desc := "(II)LSheetBranches$Content;" } : Jvm.MethodName) prog_8_method_4_code (3 : Nat) (Option.some (Jvm.ClassFile.FieldType.object "SheetBranches$Content")))), (97, (Jvm.Cond.instanceMethod ({ cls := "SheetBranches$Sheet", name := "at", desc := "(II)LSheetBranches$Content;" } : Jvm.MethodName))), (98, (Jvm.Cond.selects "SheetBranches$Sheet" ({ cls := "SheetBranches$Sheet", name := "at", desc := "(II)LSheetBranches$Content;" } : Jvm.MethodName) ({ cls := "SheetBranches$Sheet", name := "at", desc := "(II)LSheetBranches$Content;" } : Jvm.MethodName))), (147, (Jvm.Cond.code ({ cls := "SheetBranches$Sheet", name := "knows", desc := "(II)Z" } : Jvm.MethodName) prog_8_method_7_code (3 : Nat) (Option.some Jvm.ClassFile.FieldType.boolean))), (145, (Jvm.Cond.instanceMethod ({ cls := "SheetBranches$Sheet", name := "knows", desc := "(II)Z" } : Jvm.MethodName))), (146, (Jvm.Cond.selects "SheetBranches$Sheet" ({ cls := "SheetBranches$Sheet", name := "knows", desc := "(II)Z" } : Jvm.MethodName) ({ cls := "SheetBranches$Sheet", name := "knows", desc := "(II)Z" } : Jvm.MethodName))), (209, (Jvm.Cond.code ({ cls := "SheetBranches$Sheet", name := "isLike", desc := "(LSheetBranches$Sheet;)Z" } : Jvm.MethodName) prog_8_method_12_code (3 : Nat) (Option.some Jvm.ClassFile.FieldType.boolean))), (207, (Jvm.Cond.instanceMethod ({ cls := "SheetBranches$Sheet", name := "isLike", desc := "(LSheetBranches$Sheet;)Z" } : Jvm.MethodName))), (208, (Jvm.Cond.selects "SheetBranches$Sheet" ({ cls := "SheetBranches$Sheet", name := "isLike", desc := "(LSheetBranches$Sheet;)Z" } : Jvm.MethodName) ({ cls := "SheetBranches$Sheet", name := "isLike", desc := "(LSheetBranches$Sheet;)Z" } : Jvm.MethodName))), (100, (Jvm.Cond.methodLink "SheetBranches$Sheet" (24 : Nat) ({ cls := "SheetBranches$Sheet", name := "has", desc := "(II)Z" } : Jvm.MethodName))), (148, (Jvm.Cond.methodLink "SheetBranches$Sheet" (28 : Nat) ({ cls := "SheetBranches$Sheet", name := "placeOf", desc := "(II)I" } : Jvm.MethodName))), (210, (Jvm.Cond.methodLink "SheetBranches$Sheet" (47 : Nat) ({ cls := "SheetBranches$Content", name := "alike", desc := "(LSheetBranches$Content;LSheetBranches$Content;)Z" } : Jvm.MethodName)))]
set_option maxRecDepth 100000 in
theorem nX6_0_4_0 : nX6_0_4_0l.all (fun q => decide (tables_1_4[q.1]? = some q.2)) = true := by decide +kernel
def nX6_0_5_0l : List (Nat × Cond) := [(139, (Jvm.Cond.fieldLink "SheetBranches$Sheet" (59 : Nat) "SheetBranches$Part" "version" "I"))]
set_option maxRecDepth 100000 in
theorem nX6_0_5_0 : nX6_0_5_0l.all (fun q => decide (tables_1_5[q.1]? = some q.2)) = true := by decide +kernel
def nX6_0_6_0l : List (Nat × Cond) := [(109, (Jvm.Cond.code ({ cls := "SheetBranches$Sheet", name := "line", desc := "(I)[I" } : Jvm.MethodName) prog_8_method_2_code (2 : Nat) (Option.some (Jvm.ClassFile.FieldType.array Jvm.ClassFile.FieldType.int)))), (107, (Jvm.Cond.instanceMethod ({ cls := "SheetBranches$Sheet", name := "line", desc := "(I)[I" } : Jvm.MethodName))), (108, (Jvm.Cond.selects "SheetBranches$Sheet" ({ cls := "SheetBranches$Sheet", name := "line", desc := "(I)[I" } : Jvm.MethodName) ({ cls := "SheetBranches$Sheet", name := "line", desc := "(I)[I" } : Jvm.MethodName))), (79, (Jvm.Cond.code ({ cls := "SheetBranches$Sheet", name := "put", desc := "(IILSheetBranches$Content;)V" } : Jvm.MethodName) prog_8_method_5_code (4 : Nat) (Option.none : Option Jvm.ClassFile.FieldType))), (77, (Jvm.Cond.instanceMethod ({ cls := "SheetBranches$Sheet", name := "put", desc := "(IILSheetBranches$Content;)V" } : Jvm.MethodName))), (78, (Jvm.Cond.selects "SheetBranches$Sheet" ({ cls := "SheetBranches$Sheet", name := "put", desc := "(IILSheetBranches$Content;)V" } : Jvm.MethodName) ({ cls := "SheetBranches$Sheet", name := "put", desc := "(IILSheetBranches$Content;)V" } : Jvm.MethodName))), (138, (Jvm.Cond.code ({ cls := "SheetBranches$Sheet", name := "shapedAlong", desc := "(I[I)LSheetBranches$Sheet;" } : Jvm.MethodName) prog_8_method_11_code (7 : Nat) (Option.some (Jvm.ClassFile.FieldType.object "SheetBranches$Sheet")))), (136, (Jvm.Cond.instanceMethod ({ cls := "SheetBranches$Sheet", name := "shapedAlong", desc := "(I[I)LSheetBranches$Sheet;" } : Jvm.MethodName))), (137, (Jvm.Cond.selects "SheetBranches$Sheet" ({ cls := "SheetBranches$Sheet", name := "shapedAlong", desc := "(I[I)LSheetBranches$Sheet;" } : Jvm.MethodName) ({ cls := "SheetBranches$Sheet", name := "shapedAlong", desc := "(I[I)LSheetBranches$Sheet;" } : Jvm.MethodName))), (140, (Jvm.Cond.methodLink "SheetBranches$Sheet" (32 : Nat) ({ cls := "SheetBranches$Sheet", name := "at", desc := "(II)LSheetBranches$Content;" } : Jvm.MethodName))), (139, (Jvm.Cond.methodLink "SheetBranches$Sheet" (36 : Nat) ({ cls := "SheetBranches$Sheet", name := "line", desc := "(I)[I" } : Jvm.MethodName))), (141, (Jvm.Cond.methodLink "SheetBranches$Sheet" (43 : Nat) ({ cls := "SheetBranches$Sheet", name := "put", desc := "(IILSheetBranches$Content;)V" } : Jvm.MethodName))), (26, (Jvm.Cond.fieldLink "SheetBranches$Sheet" (55 : Nat) "SheetBranches$Content" "parts" "[LSheetBranches$Part;")), (18, (Jvm.Cond.fieldLink "SheetBranches$Sheet" (65 : Nat) "SheetBranches$Content" "kind" "I")), (22, (Jvm.Cond.fieldLink "SheetBranches$Sheet" (68 : Nat) "SheetBranches$Content" "literal" "LSheetBranches$Value;"))]
set_option maxRecDepth 100000 in
theorem nX6_0_6_0 : nX6_0_6_0l.all (fun q => decide (tables_1_6[q.1]? = some q.2)) = true := by decide +kernel
def nX6_0_7_0l : List (Nat × Cond) := [(73, (Jvm.Cond.code ({ cls := "SheetBranches$Sheet", name := "of", desc := "(II)LSheetBranches$Content;" } : Jvm.MethodName) prog_8_method_8_code (3 : Nat) (Option.some (Jvm.ClassFile.FieldType.object "SheetBranches$Content")))), (71, (Jvm.Cond.instanceMethod ({ cls := "SheetBranches$Sheet", name := "of", desc := "(II)LSheetBranches$Content;" } : Jvm.MethodName))), (72, (Jvm.Cond.selects "SheetBranches$Sheet" ({ cls := "SheetBranches$Sheet", name := "of", desc := "(II)LSheetBranches$Content;" } : Jvm.MethodName) ({ cls := "SheetBranches$Sheet", name := "of", desc := "(II)LSheetBranches$Content;" } : Jvm.MethodName)))]
set_option maxRecDepth 100000 in
theorem nX6_0_7_0 : nX6_0_7_0l.all (fun q => decide (tables_1_7[q.1]? = some q.2)) = true := by decide +kernel
def mX6_init : MI := (yX6_init, cX6_init, 3, none)
theorem qc_X6_init : Cond.code mX6_init.1 mX6_init.2.1 mX6_init.2.2.1 mX6_init.2.2.2 ∈ gtb := (gk tin_2 nX6_0_2_0 0 rfl (by decide +kernel))
theorem qi_X6_init : Cond.instanceMethod mX6_init.1 ∈ gtb := (gk tin_2 nX6_0_2_0 1 rfl (by decide +kernel))
theorem qd_X6_init : dsc mX6_init.1 2 := ⟨by decide +kernel, by decide +kernel, by decide +kernel⟩
def mX6_line : MI := (yX6_line, cX6_line, 2, (some ((.array .int))))
theorem qc_X6_line : Cond.code mX6_line.1 mX6_line.2.1 mX6_line.2.2.1 mX6_line.2.2.2 ∈ gtb := (gk tin_6 nX6_0_6_0 0 rfl (by decide +kernel))
theorem qi_X6_line : Cond.instanceMethod mX6_line.1 ∈ gtb := (gk tin_6 nX6_0_6_0 1 rfl (by decide +kernel))
theorem qs_X6_line : Cond.selects mX6_line.1.cls mX6_line.1 mX6_line.1 ∈ gtb := (gk tin_6 nX6_0_6_0 2 rfl (by decide +kernel))
theorem qd_X6_line : dsc mX6_line.1 1 := ⟨by decide +kernel, by decide +kernel, by decide +kernel⟩
def mX6_has : MI := (yX6_has, cX6_has, 3, (some .boolean))
theorem qc_X6_has : Cond.code mX6_has.1 mX6_has.2.1 mX6_has.2.2.1 mX6_has.2.2.2 ∈ gtb := (gk tin_3 nX6_0_3_0 0 rfl (by decide +kernel))
theorem qi_X6_has : Cond.instanceMethod mX6_has.1 ∈ gtb := (gk tin_3 nX6_0_3_0 1 rfl (by decide +kernel))
theorem qs_X6_has : Cond.selects mX6_has.1.cls mX6_has.1 mX6_has.1 ∈ gtb := (gk tin_3 nX6_0_3_0 2 rfl (by decide +kernel))
theorem qd_X6_has : dsc mX6_has.1 2 := ⟨by decide +kernel, by decide +kernel, by decide +kernel⟩
def mX6_at : MI := (yX6_at, cX6_at, 3, (some ((.object "SheetBranches$Content"))))
theorem qc_X6_at : Cond.code mX6_at.1 mX6_at.2.1 mX6_at.2.2.1 mX6_at.2.2.2 ∈ gtb := (gk tin_4 nX6_0_4_0 0 rfl (by decide +kernel))
theorem qi_X6_at : Cond.instanceMethod mX6_at.1 ∈ gtb := (gk tin_4 nX6_0_4_0 1 rfl (by decide +kernel))
theorem qs_X6_at : Cond.selects mX6_at.1.cls mX6_at.1 mX6_at.1 ∈ gtb := (gk tin_4 nX6_0_4_0 2 rfl (by decide +kernel))
theorem qd_X6_at : dsc mX6_at.1 2 := ⟨by decide +kernel, by decide +kernel, by decide +kernel⟩
def mX6_put : MI := (yX6_put, cX6_put, 4, none)
theorem qc_X6_put : Cond.code mX6_put.1 mX6_put.2.1 mX6_put.2.2.1 mX6_put.2.2.2 ∈ gtb := (gk tin_6 nX6_0_6_0 3 rfl (by decide +kernel))
theorem qi_X6_put : Cond.instanceMethod mX6_put.1 ∈ gtb := (gk tin_6 nX6_0_6_0 4 rfl (by decide +kernel))
theorem qs_X6_put : Cond.selects mX6_put.1.cls mX6_put.1 mX6_put.1 ∈ gtb := (gk tin_6 nX6_0_6_0 5 rfl (by decide +kernel))
theorem qd_X6_put : dsc mX6_put.1 3 := ⟨by decide +kernel, by decide +kernel, by decide +kernel⟩
def mX6_placeOf : MI := (yX6_placeOf, cX6_placeOf, 5, (some .int))
theorem qc_X6_placeOf : Cond.code mX6_placeOf.1 mX6_placeOf.2.1 mX6_placeOf.2.2.1 mX6_placeOf.2.2.2 ∈ gtb := (gk tin_2 nX6_0_2_0 2 rfl (by decide +kernel))
theorem qi_X6_placeOf : Cond.instanceMethod mX6_placeOf.1 ∈ gtb := (gk tin_2 nX6_0_2_0 3 rfl (by decide +kernel))
theorem qs_X6_placeOf : Cond.selects mX6_placeOf.1.cls mX6_placeOf.1 mX6_placeOf.1 ∈ gtb := (gk tin_2 nX6_0_2_0 4 rfl (by decide +kernel))
theorem qd_X6_placeOf : dsc mX6_placeOf.1 2 := ⟨by decide +kernel, by decide +kernel, by decide +kernel⟩
def mX6_knows : MI := (yX6_knows, cX6_knows, 3, (some .boolean))
theorem qc_X6_knows : Cond.code mX6_knows.1 mX6_knows.2.1 mX6_knows.2.2.1 mX6_knows.2.2.2 ∈ gtb := (gk tin_4 nX6_0_4_0 3 rfl (by decide +kernel))
theorem qi_X6_knows : Cond.instanceMethod mX6_knows.1 ∈ gtb := (gk tin_4 nX6_0_4_0 4 rfl (by decide +kernel))
theorem qs_X6_knows : Cond.selects mX6_knows.1.cls mX6_knows.1 mX6_knows.1 ∈ gtb := (gk tin_4 nX6_0_4_0 5 rfl (by decide +kernel))
theorem qd_X6_knows : dsc mX6_knows.1 2 := ⟨by decide +kernel, by decide +kernel, by decide +kernel⟩
def mX6_of : MI := (yX6_of, cX6_of, 3, (some ((.object "SheetBranches$Content"))))
theorem qc_X6_of : Cond.code mX6_of.1 mX6_of.2.1 mX6_of.2.2.1 mX6_of.2.2.2 ∈ gtb := (gk tin_7 nX6_0_7_0 0 rfl (by decide +kernel))
theorem qi_X6_of : Cond.instanceMethod mX6_of.1 ∈ gtb := (gk tin_7 nX6_0_7_0 1 rfl (by decide +kernel))
theorem qs_X6_of : Cond.selects mX6_of.1.cls mX6_of.1 mX6_of.1 ∈ gtb := (gk tin_7 nX6_0_7_0 2 rfl (by decide +kernel))
theorem qd_X6_of : dsc mX6_of.1 2 := ⟨by decide +kernel, by decide +kernel, by decide +kernel⟩
def mX6_twin : MI := (yX6_twin, cX6_twin, 3, (some ((.object "SheetBranches$Sheet"))))
theorem qc_X6_twin : Cond.code mX6_twin.1 mX6_twin.2.1 mX6_twin.2.2.1 mX6_twin.2.2.2 ∈ gtb := (gk tin_2 nX6_0_2_0 5 rfl (by decide +kernel))
theorem qi_X6_twin : Cond.instanceMethod mX6_twin.1 ∈ gtb := (gk tin_2 nX6_0_2_0 6 rfl (by decide +kernel))
theorem qs_X6_twin : Cond.selects mX6_twin.1.cls mX6_twin.1 mX6_twin.1 ∈ gtb := (gk tin_2 nX6_0_2_0 7 rfl (by decide +kernel))
theorem qd_X6_twin : dsc mX6_twin.1 0 := ⟨by decide +kernel, by decide +kernel, by decide +kernel⟩
def mX6_shapedAlong : MI := (yX6_shapedAlong, cX6_shapedAlong, 7, (some ((.object "SheetBranches$Sheet"))))
theorem qc_X6_shapedAlong : Cond.code mX6_shapedAlong.1 mX6_shapedAlong.2.1 mX6_shapedAlong.2.2.1 mX6_shapedAlong.2.2.2 ∈ gtb := (gk tin_6 nX6_0_6_0 6 rfl (by decide +kernel))
theorem qi_X6_shapedAlong : Cond.instanceMethod mX6_shapedAlong.1 ∈ gtb := (gk tin_6 nX6_0_6_0 7 rfl (by decide +kernel))
theorem qs_X6_shapedAlong : Cond.selects mX6_shapedAlong.1.cls mX6_shapedAlong.1 mX6_shapedAlong.1 ∈ gtb := (gk tin_6 nX6_0_6_0 8 rfl (by decide +kernel))
theorem qd_X6_shapedAlong : dsc mX6_shapedAlong.1 2 := ⟨by decide +kernel, by decide +kernel, by decide +kernel⟩
def mX6_isLike : MI := (yX6_isLike, cX6_isLike, 3, (some .boolean))
theorem qc_X6_isLike : Cond.code mX6_isLike.1 mX6_isLike.2.1 mX6_isLike.2.2.1 mX6_isLike.2.2.2 ∈ gtb := (gk tin_4 nX6_0_4_0 6 rfl (by decide +kernel))
theorem qi_X6_isLike : Cond.instanceMethod mX6_isLike.1 ∈ gtb := (gk tin_4 nX6_0_4_0 7 rfl (by decide +kernel))
theorem qs_X6_isLike : Cond.selects mX6_isLike.1.cls mX6_isLike.1 mX6_isLike.1 ∈ gtb := (gk tin_4 nX6_0_4_0 8 rfl (by decide +kernel))
theorem qd_X6_isLike : dsc mX6_isLike.1 1 := ⟨by decide +kernel, by decide +kernel, by decide +kernel⟩
def mX6_versionsLookedAt : MI := (yX6_versionsLookedAt, cX6_versionsLookedAt, 6, (some .long))
theorem qc_X6_versionsLookedAt : Cond.code mX6_versionsLookedAt.1 mX6_versionsLookedAt.2.1 mX6_versionsLookedAt.2.2.1 mX6_versionsLookedAt.2.2.2 ∈ gtb := (gk tin_3 nX6_0_3_0 3 rfl (by decide +kernel))
theorem qi_X6_versionsLookedAt : Cond.instanceMethod mX6_versionsLookedAt.1 ∈ gtb := (gk tin_3 nX6_0_3_0 4 rfl (by decide +kernel))
theorem qs_X6_versionsLookedAt : Cond.selects mX6_versionsLookedAt.1.cls mX6_versionsLookedAt.1 mX6_versionsLookedAt.1 ∈ gtb := (gk tin_3 nX6_0_3_0 5 rfl (by decide +kernel))
theorem qd_X6_versionsLookedAt : dsc mX6_versionsLookedAt.1 0 := ⟨by decide +kernel, by decide +kernel, by decide +kernel⟩
def mX6_valueAt : MI := (yX6_valueAt, cX6_valueAt, 5, (some ((.object "SheetBranches$Value"))))
theorem qc_X6_valueAt : Cond.code mX6_valueAt.1 mX6_valueAt.2.1 mX6_valueAt.2.2.1 mX6_valueAt.2.2.2 ∈ gtb := (gk tin_3 nX6_0_3_0 6 rfl (by decide +kernel))
theorem qi_X6_valueAt : Cond.instanceMethod mX6_valueAt.1 ∈ gtb := (gk tin_3 nX6_0_3_0 7 rfl (by decide +kernel))
theorem qs_X6_valueAt : Cond.selects mX6_valueAt.1.cls mX6_valueAt.1 mX6_valueAt.1 ∈ gtb := (gk tin_3 nX6_0_3_0 8 rfl (by decide +kernel))
theorem qd_X6_valueAt : dsc mX6_valueAt.1 2 := ⟨by decide +kernel, by decide +kernel, by decide +kernel⟩
theorem ol_X6_3 : Cond.methodLink RX6 3 objectInit ∈ gtb := (gk tin_2 nX6_0_2_0 8 rfl (by decide +kernel))
theorem fl_X6_9 : FL RX6 9 6 0 true := ⟨RX6, TX6, cl_6, by decide, (gk tin_2 nX6_0_2_0 9 rfl (by decide +kernel)), rfl⟩
theorem fl_X6_15 : FL RX6 15 6 1 true := ⟨RX6, TX6, cl_6, by decide, (gk tin_2 nX6_0_2_0 10 rfl (by decide +kernel)), rfl⟩
theorem nl_X6_18 : Cond.classLink RX6 18 RX1 ∈ gtb := (gk tin_2 nX6_0_2_0 11 rfl (by decide +kernel))
theorem fl_X6_20 : FL RX6 20 6 2 true := ⟨RX6, TX6, cl_6, by decide, (gk tin_2 nX6_0_2_0 12 rfl (by decide +kernel)), rfl⟩
theorem vl_X6_24 : VL RX6 24 6 mX6_has 2 := ⟨⟨qc_X6_has, (gk tin_4 nX6_0_4_0 9 rfl (by decide +kernel)), qi_X6_has, qs_X6_has, zw_6⟩, ⟨_, _, rfl⟩, by decide, qd_X6_has, by decide⟩
theorem vl_X6_28 : VL RX6 28 6 mX6_placeOf 2 := ⟨⟨qc_X6_placeOf, (gk tin_4 nX6_0_4_0 10 rfl (by decide +kernel)), qi_X6_placeOf, qs_X6_placeOf, zw_6⟩, ⟨_, _, rfl⟩, by decide, qd_X6_placeOf, by decide⟩
theorem vl_X6_32 : VL RX6 32 6 mX6_at 2 := ⟨⟨qc_X6_at, (gk tin_6 nX6_0_6_0 9 rfl (by decide +kernel)), qi_X6_at, qs_X6_at, zw_6⟩, ⟨_, _, rfl⟩, by decide, qd_X6_at, by decide⟩
theorem vl_X6_36 : VL RX6 36 6 mX6_line 1 := ⟨⟨qc_X6_line, (gk tin_6 nX6_0_6_0 10 rfl (by decide +kernel)), qi_X6_line, qs_X6_line, zw_6⟩, ⟨_, _, rfl⟩, by decide, qd_X6_line, by decide⟩
theorem nl_X6_10 : Cond.classLink RX6 10 RX6 ∈ gtb := (gk tin_2 nX6_0_2_0 13 rfl (by decide +kernel))
theorem il_X6_40 : IL RX6 40 mX6_init 2 := ⟨⟨qc_X6_init, (gk tin_2 nX6_0_2_0 14 rfl (by decide +kernel)), qi_X6_init, zw_6⟩, rfl, rfl, qd_X6_init, by decide⟩
theorem vl_X6_43 : VL RX6 43 6 mX6_put 3 := ⟨⟨qc_X6_put, (gk tin_6 nX6_0_6_0 11 rfl (by decide +kernel)), qi_X6_put, qs_X6_put, zw_6⟩, ⟨_, _, rfl⟩, by decide, qd_X6_put, by decide⟩
theorem sl_X6_47 : SL RX6 47 mX1_alike 2 := ⟨⟨qc_X1_alike, (gk tin_4 nX6_0_4_0 11 rfl (by decide +kernel)), qt_X1_alike, zw_1⟩, qd_X1_alike, by decide⟩
def mX11_partsOf : MI := (yX11_partsOf, cX11_partsOf, 1, (some .int))
theorem qc_X11_partsOf : Cond.code mX11_partsOf.1 mX11_partsOf.2.1 mX11_partsOf.2.2.1 mX11_partsOf.2.2.2 ∈ gtb := (gk tin_3 nX6_0_3_0 10 rfl (by decide +kernel))
theorem qt_X11_partsOf : Cond.static mX11_partsOf.1 ∈ gtb := (gk tin_3 nX6_0_3_0 11 rfl (by decide +kernel))
theorem qd_X11_partsOf : dsc mX11_partsOf.1 1 := ⟨by decide +kernel, by decide +kernel, by decide +kernel⟩
theorem snl_X6_51 : SNL RX6 51 "SheetBranches" mX11_partsOf 1 := ⟨⟨qc_X11_partsOf, (tk tin_3 nX6_0_3_0 9 rfl), qt_X11_partsOf, zw_11⟩, qd_X11_partsOf, by decide⟩
theorem fl_X6_55 : FL RX6 55 1 2 true := ⟨RX1, TX1, cl_1, by decide, (gk tin_6 nX6_0_6_0 12 rfl (by decide +kernel)), rfl⟩
theorem fl_X6_59 : FL RX6 59 4 8 false := ⟨RX4, TX4, cl_4, by decide, (gk tin_5 nX6_0_5_0 0 rfl (by decide +kernel)), rfl⟩
theorem fl_X6_65 : FL RX6 65 1 0 true := ⟨RX1, TX1, cl_1, by decide, (gk tin_6 nX6_0_6_0 13 rfl (by decide +kernel)), rfl⟩
theorem fl_X6_68 : FL RX6 68 1 1 true := ⟨RX1, TX1, cl_1, by decide, (gk tin_6 nX6_0_6_0 14 rfl (by decide +kernel)), rfl⟩
theorem fl_X6_72 : FL RX6 72 6 3 false := ⟨RX6, TX6, cl_6, by decide, (gk tin_2 nX6_0_2_0 15 rfl (by decide +kernel)), rfl⟩
def tl_X6_init : List (Nat × Instr × Nat) := [(0, .aload_n 0, 1), (1, .invokespecial 3, 3), (4, .aload_n 0, 1), (5, .aload_n 1, 1), (6, .putfield 9, 3), (9, .aload_n 0, 1), (10, .aload_n 2, 1), (11, .putfield 15, 3), (14, .aload_n 0, 1), (15, .aload_n 1, 1), (16, .arraylength, 1), (17, .aload_n 2, 1), (18, .arraylength, 1), (19, .imul, 1), (20, .anewarray 18, 3), (23, .putfield 20, 3), (26, .return_, 1)]
set_option maxRecDepth 100000 in
theorem dt_X6_init : tl_X6_init.all (fun q => decide (decode cX6_init q.1 = .ok (q.2.1, q.2.2))) = true := by decide +kernel
theorem dX6_init_0 : decode cX6_init 0 = .ok (.aload_n 0, 1) := dk dt_X6_init 0 rfl
theorem dX6_init_1 : decode cX6_init 1 = .ok (.invokespecial 3, 3) := dk dt_X6_init 1 rfl
theorem dX6_init_4 : decode cX6_init 4 = .ok (.aload_n 0, 1) := dk dt_X6_init 2 rfl
theorem dX6_init_5 : decode cX6_init 5 = .ok (.aload_n 1, 1) := dk dt_X6_init 3 rfl
theorem dX6_init_6 : decode cX6_init 6 = .ok (.putfield 9, 3) := dk dt_X6_init 4 rfl
theorem dX6_init_9 : decode cX6_init 9 = .ok (.aload_n 0, 1) := dk dt_X6_init 5 rfl
theorem dX6_init_10 : decode cX6_init 10 = .ok (.aload_n 2, 1) := dk dt_X6_init 6 rfl
theorem dX6_init_11 : decode cX6_init 11 = .ok (.putfield 15, 3) := dk dt_X6_init 7 rfl
theorem dX6_init_14 : decode cX6_init 14 = .ok (.aload_n 0, 1) := dk dt_X6_init 8 rfl
theorem dX6_init_15 : decode cX6_init 15 = .ok (.aload_n 1, 1) := dk dt_X6_init 9 rfl
theorem dX6_init_16 : decode cX6_init 16 = .ok (.arraylength, 1) := dk dt_X6_init 10 rfl
theorem dX6_init_17 : decode cX6_init 17 = .ok (.aload_n 2, 1) := dk dt_X6_init 11 rfl
theorem dX6_init_18 : decode cX6_init 18 = .ok (.arraylength, 1) := dk dt_X6_init 12 rfl
theorem dX6_init_19 : decode cX6_init 19 = .ok (.imul, 1) := dk dt_X6_init 13 rfl
theorem dX6_init_20 : decode cX6_init 20 = .ok (.anewarray 18, 3) := dk dt_X6_init 14 rfl
theorem dX6_init_23 : decode cX6_init 23 = .ok (.putfield 20, 3) := dk dt_X6_init 15 rfl
theorem dX6_init_26 : decode cX6_init 26 = .ok (.return_, 1) := dk dt_X6_init 16 rfl
def tl_X6_line : List (Nat × Instr × Nat) := [(0, .iload_n 1, 1), (1, .ifCond .ne 10, 3), (4, .aload_n 0, 1), (5, .getfield 9, 3), (8, .goto 7, 3), (11, .aload_n 0, 1), (12, .getfield 15, 3), (15, .areturn, 1)]
set_option maxRecDepth 100000 in
theorem dt_X6_line : tl_X6_line.all (fun q => decide (decode cX6_line q.1 = .ok (q.2.1, q.2.2))) = true := by decide +kernel
theorem dX6_line_0 : decode cX6_line 0 = .ok (.iload_n 1, 1) := dk dt_X6_line 0 rfl
theorem dX6_line_1 : decode cX6_line 1 = .ok (.ifCond .ne 10, 3) := dk dt_X6_line 1 rfl
theorem dX6_line_4 : decode cX6_line 4 = .ok (.aload_n 0, 1) := dk dt_X6_line 2 rfl
theorem dX6_line_5 : decode cX6_line 5 = .ok (.getfield 9, 3) := dk dt_X6_line 3 rfl
theorem dX6_line_8 : decode cX6_line 8 = .ok (.goto 7, 3) := dk dt_X6_line 4 rfl
theorem dX6_line_11 : decode cX6_line 11 = .ok (.aload_n 0, 1) := dk dt_X6_line 5 rfl
theorem dX6_line_12 : decode cX6_line 12 = .ok (.getfield 15, 3) := dk dt_X6_line 6 rfl
theorem dX6_line_15 : decode cX6_line 15 = .ok (.areturn, 1) := dk dt_X6_line 7 rfl
def tl_X6_has : List (Nat × Instr × Nat) := [(0, .iload_n 1, 1), (1, .iconst 1, 1), (2, .if_icmp .lt 30, 3), (5, .iload_n 1, 1), (6, .aload_n 0, 1), (7, .getfield 9, 3), (10, .arraylength, 1), (11, .if_icmp .gt 21, 3), (14, .iload_n 2, 1), (15, .iconst 1, 1), (16, .if_icmp .lt 16, 3), (19, .iload_n 2, 1), (20, .aload_n 0, 1), (21, .getfield 15, 3), (24, .arraylength, 1), (25, .if_icmp .gt 7, 3), (28, .iconst 1, 1), (29, .goto 4, 3), (32, .iconst 0, 1), (33, .ireturn, 1)]
set_option maxRecDepth 100000 in
theorem dt_X6_has : tl_X6_has.all (fun q => decide (decode cX6_has q.1 = .ok (q.2.1, q.2.2))) = true := by decide +kernel
theorem dX6_has_0 : decode cX6_has 0 = .ok (.iload_n 1, 1) := dk dt_X6_has 0 rfl
theorem dX6_has_1 : decode cX6_has 1 = .ok (.iconst 1, 1) := dk dt_X6_has 1 rfl
theorem dX6_has_2 : decode cX6_has 2 = .ok (.if_icmp .lt 30, 3) := dk dt_X6_has 2 rfl
theorem dX6_has_5 : decode cX6_has 5 = .ok (.iload_n 1, 1) := dk dt_X6_has 3 rfl
theorem dX6_has_6 : decode cX6_has 6 = .ok (.aload_n 0, 1) := dk dt_X6_has 4 rfl
theorem dX6_has_7 : decode cX6_has 7 = .ok (.getfield 9, 3) := dk dt_X6_has 5 rfl
theorem dX6_has_10 : decode cX6_has 10 = .ok (.arraylength, 1) := dk dt_X6_has 6 rfl
theorem dX6_has_11 : decode cX6_has 11 = .ok (.if_icmp .gt 21, 3) := dk dt_X6_has 7 rfl
theorem dX6_has_14 : decode cX6_has 14 = .ok (.iload_n 2, 1) := dk dt_X6_has 8 rfl
theorem dX6_has_15 : decode cX6_has 15 = .ok (.iconst 1, 1) := dk dt_X6_has 9 rfl
theorem dX6_has_16 : decode cX6_has 16 = .ok (.if_icmp .lt 16, 3) := dk dt_X6_has 10 rfl
theorem dX6_has_19 : decode cX6_has 19 = .ok (.iload_n 2, 1) := dk dt_X6_has 11 rfl
theorem dX6_has_20 : decode cX6_has 20 = .ok (.aload_n 0, 1) := dk dt_X6_has 12 rfl
theorem dX6_has_21 : decode cX6_has 21 = .ok (.getfield 15, 3) := dk dt_X6_has 13 rfl
theorem dX6_has_24 : decode cX6_has 24 = .ok (.arraylength, 1) := dk dt_X6_has 14 rfl
theorem dX6_has_25 : decode cX6_has 25 = .ok (.if_icmp .gt 7, 3) := dk dt_X6_has 15 rfl
theorem dX6_has_28 : decode cX6_has 28 = .ok (.iconst 1, 1) := dk dt_X6_has 16 rfl
theorem dX6_has_29 : decode cX6_has 29 = .ok (.goto 4, 3) := dk dt_X6_has 17 rfl
theorem dX6_has_32 : decode cX6_has 32 = .ok (.iconst 0, 1) := dk dt_X6_has 18 rfl
theorem dX6_has_33 : decode cX6_has 33 = .ok (.ireturn, 1) := dk dt_X6_has 19 rfl
def tl_X6_at : List (Nat × Instr × Nat) := [(0, .aload_n 0, 1), (1, .iload_n 1, 1), (2, .iload_n 2, 1), (3, .invokevirtual 24, 3), (6, .ifCond .eq 24, 3), (9, .aload_n 0, 1), (10, .getfield 20, 3), (13, .iload_n 1, 1), (14, .iconst 1, 1), (15, .isub, 1), (16, .aload_n 0, 1), (17, .getfield 15, 3), (20, .arraylength, 1), (21, .imul, 1), (22, .iload_n 2, 1), (23, .iadd, 1), (24, .iconst 1, 1), (25, .isub, 1), (26, .aaload, 1), (27, .goto 4, 3), (30, .aconst_null, 1), (31, .areturn, 1)]
set_option maxRecDepth 100000 in
theorem dt_X6_at : tl_X6_at.all (fun q => decide (decode cX6_at q.1 = .ok (q.2.1, q.2.2))) = true := by decide +kernel
theorem dX6_at_0 : decode cX6_at 0 = .ok (.aload_n 0, 1) := dk dt_X6_at 0 rfl
theorem dX6_at_1 : decode cX6_at 1 = .ok (.iload_n 1, 1) := dk dt_X6_at 1 rfl
theorem dX6_at_2 : decode cX6_at 2 = .ok (.iload_n 2, 1) := dk dt_X6_at 2 rfl
theorem dX6_at_3 : decode cX6_at 3 = .ok (.invokevirtual 24, 3) := dk dt_X6_at 3 rfl
theorem dX6_at_6 : decode cX6_at 6 = .ok (.ifCond .eq 24, 3) := dk dt_X6_at 4 rfl
theorem dX6_at_9 : decode cX6_at 9 = .ok (.aload_n 0, 1) := dk dt_X6_at 5 rfl
theorem dX6_at_10 : decode cX6_at 10 = .ok (.getfield 20, 3) := dk dt_X6_at 6 rfl
theorem dX6_at_13 : decode cX6_at 13 = .ok (.iload_n 1, 1) := dk dt_X6_at 7 rfl
theorem dX6_at_14 : decode cX6_at 14 = .ok (.iconst 1, 1) := dk dt_X6_at 8 rfl
theorem dX6_at_15 : decode cX6_at 15 = .ok (.isub, 1) := dk dt_X6_at 9 rfl
theorem dX6_at_16 : decode cX6_at 16 = .ok (.aload_n 0, 1) := dk dt_X6_at 10 rfl
theorem dX6_at_17 : decode cX6_at 17 = .ok (.getfield 15, 3) := dk dt_X6_at 11 rfl
theorem dX6_at_20 : decode cX6_at 20 = .ok (.arraylength, 1) := dk dt_X6_at 12 rfl
theorem dX6_at_21 : decode cX6_at 21 = .ok (.imul, 1) := dk dt_X6_at 13 rfl
theorem dX6_at_22 : decode cX6_at 22 = .ok (.iload_n 2, 1) := dk dt_X6_at 14 rfl
theorem dX6_at_23 : decode cX6_at 23 = .ok (.iadd, 1) := dk dt_X6_at 15 rfl
theorem dX6_at_24 : decode cX6_at 24 = .ok (.iconst 1, 1) := dk dt_X6_at 16 rfl
theorem dX6_at_25 : decode cX6_at 25 = .ok (.isub, 1) := dk dt_X6_at 17 rfl
theorem dX6_at_26 : decode cX6_at 26 = .ok (.aaload, 1) := dk dt_X6_at 18 rfl
theorem dX6_at_27 : decode cX6_at 27 = .ok (.goto 4, 3) := dk dt_X6_at 19 rfl
theorem dX6_at_30 : decode cX6_at 30 = .ok (.aconst_null, 1) := dk dt_X6_at 20 rfl
theorem dX6_at_31 : decode cX6_at 31 = .ok (.areturn, 1) := dk dt_X6_at 21 rfl
def tl_X6_put : List (Nat × Instr × Nat) := [(0, .aload_n 0, 1), (1, .iload_n 1, 1), (2, .iload_n 2, 1), (3, .invokevirtual 24, 3), (6, .ifCond .eq 22, 3), (9, .aload_n 0, 1), (10, .getfield 20, 3), (13, .iload_n 1, 1), (14, .iconst 1, 1), (15, .isub, 1), (16, .aload_n 0, 1), (17, .getfield 15, 3), (20, .arraylength, 1), (21, .imul, 1), (22, .iload_n 2, 1), (23, .iadd, 1), (24, .iconst 1, 1), (25, .isub, 1), (26, .aload_n 3, 1), (27, .aastore, 1), (28, .return_, 1)]
set_option maxRecDepth 100000 in
theorem dt_X6_put : tl_X6_put.all (fun q => decide (decode cX6_put q.1 = .ok (q.2.1, q.2.2))) = true := by decide +kernel
theorem dX6_put_0 : decode cX6_put 0 = .ok (.aload_n 0, 1) := dk dt_X6_put 0 rfl
theorem dX6_put_1 : decode cX6_put 1 = .ok (.iload_n 1, 1) := dk dt_X6_put 1 rfl
theorem dX6_put_2 : decode cX6_put 2 = .ok (.iload_n 2, 1) := dk dt_X6_put 2 rfl
theorem dX6_put_3 : decode cX6_put 3 = .ok (.invokevirtual 24, 3) := dk dt_X6_put 3 rfl
theorem dX6_put_6 : decode cX6_put 6 = .ok (.ifCond .eq 22, 3) := dk dt_X6_put 4 rfl
theorem dX6_put_9 : decode cX6_put 9 = .ok (.aload_n 0, 1) := dk dt_X6_put 5 rfl
theorem dX6_put_10 : decode cX6_put 10 = .ok (.getfield 20, 3) := dk dt_X6_put 6 rfl
theorem dX6_put_13 : decode cX6_put 13 = .ok (.iload_n 1, 1) := dk dt_X6_put 7 rfl
theorem dX6_put_14 : decode cX6_put 14 = .ok (.iconst 1, 1) := dk dt_X6_put 8 rfl
theorem dX6_put_15 : decode cX6_put 15 = .ok (.isub, 1) := dk dt_X6_put 9 rfl
theorem dX6_put_16 : decode cX6_put 16 = .ok (.aload_n 0, 1) := dk dt_X6_put 10 rfl
theorem dX6_put_17 : decode cX6_put 17 = .ok (.getfield 15, 3) := dk dt_X6_put 11 rfl
theorem dX6_put_20 : decode cX6_put 20 = .ok (.arraylength, 1) := dk dt_X6_put 12 rfl
theorem dX6_put_21 : decode cX6_put 21 = .ok (.imul, 1) := dk dt_X6_put 13 rfl
theorem dX6_put_22 : decode cX6_put 22 = .ok (.iload_n 2, 1) := dk dt_X6_put 14 rfl
theorem dX6_put_23 : decode cX6_put 23 = .ok (.iadd, 1) := dk dt_X6_put 15 rfl
theorem dX6_put_24 : decode cX6_put 24 = .ok (.iconst 1, 1) := dk dt_X6_put 16 rfl
theorem dX6_put_25 : decode cX6_put 25 = .ok (.isub, 1) := dk dt_X6_put 17 rfl
theorem dX6_put_26 : decode cX6_put 26 = .ok (.aload_n 3, 1) := dk dt_X6_put 18 rfl
theorem dX6_put_27 : decode cX6_put 27 = .ok (.aastore, 1) := dk dt_X6_put 19 rfl
theorem dX6_put_28 : decode cX6_put 28 = .ok (.return_, 1) := dk dt_X6_put 20 rfl
def tl_X6_placeOf : List (Nat × Instr × Nat) := [(0, .iload_n 1, 1), (1, .ifCond .ne 10, 3), (4, .aload_n 0, 1), (5, .getfield 9, 3), (8, .goto 7, 3), (11, .aload_n 0, 1), (12, .getfield 15, 3), (15, .astore_n 3, 1), (16, .iconst 0, 1), (17, .istore 4, 2), (19, .iload 4, 2), (21, .aload_n 3, 1), (22, .arraylength, 1), (23, .if_icmp .ge 22, 3), (26, .aload_n 3, 1), (27, .iload 4, 2), (29, .iaload, 1), (30, .iload_n 2, 1), (31, .if_icmp .ne 8, 3), (34, .iload 4, 2), (36, .iconst 1, 1), (37, .iadd, 1), (38, .ireturn, 1), (39, .iinc 4 1, 3), (42, .goto (-23), 3), (45, .iconst 0, 1), (46, .ireturn, 1)]
set_option maxRecDepth 100000 in
theorem dt_X6_placeOf : tl_X6_placeOf.all (fun q => decide (decode cX6_placeOf q.1 = .ok (q.2.1, q.2.2))) = true := by decide +kernel
theorem dX6_placeOf_0 : decode cX6_placeOf 0 = .ok (.iload_n 1, 1) := dk dt_X6_placeOf 0 rfl
theorem dX6_placeOf_1 : decode cX6_placeOf 1 = .ok (.ifCond .ne 10, 3) := dk dt_X6_placeOf 1 rfl
theorem dX6_placeOf_4 : decode cX6_placeOf 4 = .ok (.aload_n 0, 1) := dk dt_X6_placeOf 2 rfl
theorem dX6_placeOf_5 : decode cX6_placeOf 5 = .ok (.getfield 9, 3) := dk dt_X6_placeOf 3 rfl
theorem dX6_placeOf_8 : decode cX6_placeOf 8 = .ok (.goto 7, 3) := dk dt_X6_placeOf 4 rfl
theorem dX6_placeOf_11 : decode cX6_placeOf 11 = .ok (.aload_n 0, 1) := dk dt_X6_placeOf 5 rfl
theorem dX6_placeOf_12 : decode cX6_placeOf 12 = .ok (.getfield 15, 3) := dk dt_X6_placeOf 6 rfl
theorem dX6_placeOf_15 : decode cX6_placeOf 15 = .ok (.astore_n 3, 1) := dk dt_X6_placeOf 7 rfl
theorem dX6_placeOf_16 : decode cX6_placeOf 16 = .ok (.iconst 0, 1) := dk dt_X6_placeOf 8 rfl
theorem dX6_placeOf_17 : decode cX6_placeOf 17 = .ok (.istore 4, 2) := dk dt_X6_placeOf 9 rfl
theorem dX6_placeOf_19 : decode cX6_placeOf 19 = .ok (.iload 4, 2) := dk dt_X6_placeOf 10 rfl
theorem dX6_placeOf_21 : decode cX6_placeOf 21 = .ok (.aload_n 3, 1) := dk dt_X6_placeOf 11 rfl
theorem dX6_placeOf_22 : decode cX6_placeOf 22 = .ok (.arraylength, 1) := dk dt_X6_placeOf 12 rfl
theorem dX6_placeOf_23 : decode cX6_placeOf 23 = .ok (.if_icmp .ge 22, 3) := dk dt_X6_placeOf 13 rfl
theorem dX6_placeOf_26 : decode cX6_placeOf 26 = .ok (.aload_n 3, 1) := dk dt_X6_placeOf 14 rfl
theorem dX6_placeOf_27 : decode cX6_placeOf 27 = .ok (.iload 4, 2) := dk dt_X6_placeOf 15 rfl
theorem dX6_placeOf_29 : decode cX6_placeOf 29 = .ok (.iaload, 1) := dk dt_X6_placeOf 16 rfl
theorem dX6_placeOf_30 : decode cX6_placeOf 30 = .ok (.iload_n 2, 1) := dk dt_X6_placeOf 17 rfl
theorem dX6_placeOf_31 : decode cX6_placeOf 31 = .ok (.if_icmp .ne 8, 3) := dk dt_X6_placeOf 18 rfl
theorem dX6_placeOf_34 : decode cX6_placeOf 34 = .ok (.iload 4, 2) := dk dt_X6_placeOf 19 rfl
theorem dX6_placeOf_36 : decode cX6_placeOf 36 = .ok (.iconst 1, 1) := dk dt_X6_placeOf 20 rfl
theorem dX6_placeOf_37 : decode cX6_placeOf 37 = .ok (.iadd, 1) := dk dt_X6_placeOf 21 rfl
theorem dX6_placeOf_38 : decode cX6_placeOf 38 = .ok (.ireturn, 1) := dk dt_X6_placeOf 22 rfl
theorem dX6_placeOf_39 : decode cX6_placeOf 39 = .ok (.iinc 4 1, 3) := dk dt_X6_placeOf 23 rfl
theorem dX6_placeOf_42 : decode cX6_placeOf 42 = .ok (.goto (-23), 3) := dk dt_X6_placeOf 24 rfl
theorem dX6_placeOf_45 : decode cX6_placeOf 45 = .ok (.iconst 0, 1) := dk dt_X6_placeOf 25 rfl
theorem dX6_placeOf_46 : decode cX6_placeOf 46 = .ok (.ireturn, 1) := dk dt_X6_placeOf 26 rfl
def tl_X6_knows : List (Nat × Instr × Nat) := [(0, .aload_n 0, 1), (1, .iconst 0, 1), (2, .iload_n 1, 1), (3, .invokevirtual 28, 3), (6, .ifCond .le 16, 3), (9, .aload_n 0, 1), (10, .iconst 1, 1), (11, .iload_n 2, 1), (12, .invokevirtual 28, 3), (15, .ifCond .le 7, 3), (18, .iconst 1, 1), (19, .goto 4, 3), (22, .iconst 0, 1), (23, .ireturn, 1)]
set_option maxRecDepth 100000 in
theorem dt_X6_knows : tl_X6_knows.all (fun q => decide (decode cX6_knows q.1 = .ok (q.2.1, q.2.2))) = true := by decide +kernel
theorem dX6_knows_0 : decode cX6_knows 0 = .ok (.aload_n 0, 1) := dk dt_X6_knows 0 rfl
theorem dX6_knows_1 : decode cX6_knows 1 = .ok (.iconst 0, 1) := dk dt_X6_knows 1 rfl
theorem dX6_knows_2 : decode cX6_knows 2 = .ok (.iload_n 1, 1) := dk dt_X6_knows 2 rfl
theorem dX6_knows_3 : decode cX6_knows 3 = .ok (.invokevirtual 28, 3) := dk dt_X6_knows 3 rfl
theorem dX6_knows_6 : decode cX6_knows 6 = .ok (.ifCond .le 16, 3) := dk dt_X6_knows 4 rfl
theorem dX6_knows_9 : decode cX6_knows 9 = .ok (.aload_n 0, 1) := dk dt_X6_knows 5 rfl
theorem dX6_knows_10 : decode cX6_knows 10 = .ok (.iconst 1, 1) := dk dt_X6_knows 6 rfl
theorem dX6_knows_11 : decode cX6_knows 11 = .ok (.iload_n 2, 1) := dk dt_X6_knows 7 rfl
theorem dX6_knows_12 : decode cX6_knows 12 = .ok (.invokevirtual 28, 3) := dk dt_X6_knows 8 rfl
theorem dX6_knows_15 : decode cX6_knows 15 = .ok (.ifCond .le 7, 3) := dk dt_X6_knows 9 rfl
theorem dX6_knows_18 : decode cX6_knows 18 = .ok (.iconst 1, 1) := dk dt_X6_knows 10 rfl
theorem dX6_knows_19 : decode cX6_knows 19 = .ok (.goto 4, 3) := dk dt_X6_knows 11 rfl
theorem dX6_knows_22 : decode cX6_knows 22 = .ok (.iconst 0, 1) := dk dt_X6_knows 12 rfl
theorem dX6_knows_23 : decode cX6_knows 23 = .ok (.ireturn, 1) := dk dt_X6_knows 13 rfl
def tl_X6_of : List (Nat × Instr × Nat) := [(0, .aload_n 0, 1), (1, .aload_n 0, 1), (2, .iconst 0, 1), (3, .iload_n 1, 1), (4, .invokevirtual 28, 3), (7, .aload_n 0, 1), (8, .iconst 1, 1), (9, .iload_n 2, 1), (10, .invokevirtual 28, 3), (13, .invokevirtual 32, 3), (16, .areturn, 1)]
set_option maxRecDepth 100000 in
theorem dt_X6_of : tl_X6_of.all (fun q => decide (decode cX6_of q.1 = .ok (q.2.1, q.2.2))) = true := by decide +kernel
theorem dX6_of_0 : decode cX6_of 0 = .ok (.aload_n 0, 1) := dk dt_X6_of 0 rfl
theorem dX6_of_1 : decode cX6_of 1 = .ok (.aload_n 0, 1) := dk dt_X6_of 1 rfl
theorem dX6_of_2 : decode cX6_of 2 = .ok (.iconst 0, 1) := dk dt_X6_of 2 rfl
theorem dX6_of_3 : decode cX6_of 3 = .ok (.iload_n 1, 1) := dk dt_X6_of 3 rfl
theorem dX6_of_4 : decode cX6_of 4 = .ok (.invokevirtual 28, 3) := dk dt_X6_of 4 rfl
theorem dX6_of_7 : decode cX6_of 7 = .ok (.aload_n 0, 1) := dk dt_X6_of 5 rfl
theorem dX6_of_8 : decode cX6_of 8 = .ok (.iconst 1, 1) := dk dt_X6_of 6 rfl
theorem dX6_of_9 : decode cX6_of 9 = .ok (.iload_n 2, 1) := dk dt_X6_of 7 rfl
theorem dX6_of_10 : decode cX6_of 10 = .ok (.invokevirtual 28, 3) := dk dt_X6_of 8 rfl
theorem dX6_of_13 : decode cX6_of 13 = .ok (.invokevirtual 32, 3) := dk dt_X6_of 9 rfl
theorem dX6_of_16 : decode cX6_of 16 = .ok (.areturn, 1) := dk dt_X6_of 10 rfl
def tl_X6_further : List (Nat × Instr × Nat) := [(0, .aload_n 0, 1), (1, .iload_n 1, 1), (2, .invokevirtual 36, 3), (5, .astore 4, 2), (7, .aload_n 0, 1), (8, .iload_n 1, 1), (9, .iload_n 2, 1), (10, .invokevirtual 28, 3), (13, .istore 5, 2), (15, .iload 5, 2), (17, .iload_n 3, 1), (18, .iadd, 1), (19, .istore 6, 2), (21, .iload 5, 2), (23, .ifCond .le 27, 3), (26, .iload 6, 2), (28, .iconst 1, 1), (29, .if_icmp .lt 21, 3), (32, .iload 6, 2), (34, .aload 4, 2), (36, .arraylength, 1), (37, .if_icmp .gt 13, 3), (40, .aload 4, 2), (42, .iload 6, 2), (44, .iconst 1, 1), (45, .isub, 1), (46, .iaload, 1), (47, .goto 4, 3), (50, .iconst 0, 1), (51, .ireturn, 1)]
set_option maxRecDepth 100000 in
theorem dt_X6_further : tl_X6_further.all (fun q => decide (decode cX6_further q.1 = .ok (q.2.1, q.2.2))) = true := by decide +kernel
def tl_X6_twin : List (Nat × Instr × Nat) := [(0, .new 10, 3), (3, .dup, 1), (4, .aload_n 0, 1), (5, .getfield 9, 3), (8, .aload_n 0, 1), (9, .getfield 15, 3), (12, .invokespecial 40, 3), (15, .astore_n 1, 1), (16, .iconst 0, 1), (17, .istore_n 2, 1), (18, .iload_n 2, 1), (19, .aload_n 0, 1), (20, .getfield 20, 3), (23, .arraylength, 1), (24, .if_icmp .ge 21, 3), (27, .aload_n 1, 1), (28, .getfield 20, 3), (31, .iload_n 2, 1), (32, .aload_n 0, 1), (33, .getfield 20, 3), (36, .iload_n 2, 1), (37, .aaload, 1), (38, .aastore, 1), (39, .iinc 2 1, 3), (42, .goto (-24), 3), (45, .aload_n 1, 1), (46, .areturn, 1)]
set_option maxRecDepth 100000 in
theorem dt_X6_twin : tl_X6_twin.all (fun q => decide (decode cX6_twin q.1 = .ok (q.2.1, q.2.2))) = true := by decide +kernel
theorem dX6_twin_0 : decode cX6_twin 0 = .ok (.new 10, 3) := dk dt_X6_twin 0 rfl
theorem dX6_twin_3 : decode cX6_twin 3 = .ok (.dup, 1) := dk dt_X6_twin 1 rfl
theorem dX6_twin_4 : decode cX6_twin 4 = .ok (.aload_n 0, 1) := dk dt_X6_twin 2 rfl
theorem dX6_twin_5 : decode cX6_twin 5 = .ok (.getfield 9, 3) := dk dt_X6_twin 3 rfl
theorem dX6_twin_8 : decode cX6_twin 8 = .ok (.aload_n 0, 1) := dk dt_X6_twin 4 rfl
theorem dX6_twin_9 : decode cX6_twin 9 = .ok (.getfield 15, 3) := dk dt_X6_twin 5 rfl
theorem dX6_twin_12 : decode cX6_twin 12 = .ok (.invokespecial 40, 3) := dk dt_X6_twin 6 rfl
theorem dX6_twin_15 : decode cX6_twin 15 = .ok (.astore_n 1, 1) := dk dt_X6_twin 7 rfl
theorem dX6_twin_16 : decode cX6_twin 16 = .ok (.iconst 0, 1) := dk dt_X6_twin 8 rfl
theorem dX6_twin_17 : decode cX6_twin 17 = .ok (.istore_n 2, 1) := dk dt_X6_twin 9 rfl
theorem dX6_twin_18 : decode cX6_twin 18 = .ok (.iload_n 2, 1) := dk dt_X6_twin 10 rfl
theorem dX6_twin_19 : decode cX6_twin 19 = .ok (.aload_n 0, 1) := dk dt_X6_twin 11 rfl
theorem dX6_twin_20 : decode cX6_twin 20 = .ok (.getfield 20, 3) := dk dt_X6_twin 12 rfl
theorem dX6_twin_23 : decode cX6_twin 23 = .ok (.arraylength, 1) := dk dt_X6_twin 13 rfl
theorem dX6_twin_24 : decode cX6_twin 24 = .ok (.if_icmp .ge 21, 3) := dk dt_X6_twin 14 rfl
theorem dX6_twin_27 : decode cX6_twin 27 = .ok (.aload_n 1, 1) := dk dt_X6_twin 15 rfl
theorem dX6_twin_28 : decode cX6_twin 28 = .ok (.getfield 20, 3) := dk dt_X6_twin 16 rfl
theorem dX6_twin_31 : decode cX6_twin 31 = .ok (.iload_n 2, 1) := dk dt_X6_twin 17 rfl
theorem dX6_twin_32 : decode cX6_twin 32 = .ok (.aload_n 0, 1) := dk dt_X6_twin 18 rfl
theorem dX6_twin_33 : decode cX6_twin 33 = .ok (.getfield 20, 3) := dk dt_X6_twin 19 rfl
theorem dX6_twin_36 : decode cX6_twin 36 = .ok (.iload_n 2, 1) := dk dt_X6_twin 20 rfl
theorem dX6_twin_37 : decode cX6_twin 37 = .ok (.aaload, 1) := dk dt_X6_twin 21 rfl
theorem dX6_twin_38 : decode cX6_twin 38 = .ok (.aastore, 1) := dk dt_X6_twin 22 rfl
theorem dX6_twin_39 : decode cX6_twin 39 = .ok (.iinc 2 1, 3) := dk dt_X6_twin 23 rfl
theorem dX6_twin_42 : decode cX6_twin 42 = .ok (.goto (-24), 3) := dk dt_X6_twin 24 rfl
theorem dX6_twin_45 : decode cX6_twin 45 = .ok (.aload_n 1, 1) := dk dt_X6_twin 25 rfl
theorem dX6_twin_46 : decode cX6_twin 46 = .ok (.areturn, 1) := dk dt_X6_twin 26 rfl
def tl_X6_shapedAlong : List (Nat × Instr × Nat) := [(0, .new 10, 3), (3, .dup, 1), (4, .iload_n 1, 1), (5, .ifCond .ne 7, 3), (8, .aload_n 2, 1), (9, .goto 7, 3), (12, .aload_n 0, 1), (13, .getfield 9, 3), (16, .iload_n 1, 1), (17, .ifCond .ne 10, 3), (20, .aload_n 0, 1), (21, .getfield 15, 3), (24, .goto 4, 3), (27, .aload_n 2, 1), (28, .invokespecial 40, 3), (31, .astore_n 3, 1), (32, .iconst 0, 1), (33, .istore 4, 2), (35, .iload 4, 2), (37, .aload_n 2, 1), (38, .arraylength, 1), (39, .if_icmp .ge 85, 3), (42, .aload_n 0, 1), (43, .iload_n 1, 1), (44, .aload_n 2, 1), (45, .iload 4, 2), (47, .iaload, 1), (48, .invokevirtual 28, 3), (51, .istore 5, 2), (53, .iconst 1, 1), (54, .istore 6, 2), (56, .iload 6, 2), (58, .aload_n 0, 1), (59, .iconst 1, 1), (60, .iload_n 1, 1), (61, .isub, 1), (62, .invokevirtual 36, 3), (65, .arraylength, 1), (66, .if_icmp .gt 52, 3), (69, .iload_n 1, 1), (70, .ifCond .ne 24, 3), (73, .aload_n 3, 1), (74, .iload 4, 2), (76, .iconst 1, 1), (77, .iadd, 1), (78, .iload 6, 2), (80, .aload_n 0, 1), (81, .iload 5, 2), (83, .iload 6, 2), (85, .invokevirtual 32, 3), (88, .invokevirtual 43, 3), (91, .goto 21, 3), (94, .aload_n 3, 1), (95, .iload 6, 2), (97, .iload 4, 2), (99, .iconst 1, 1), (100, .iadd, 1), (101, .aload_n 0, 1), (102, .iload 6, 2), (104, .iload 5, 2), (106, .invokevirtual 32, 3), (109, .invokevirtual 43, 3), (112, .iinc 6 1, 3), (115, .goto (-59), 3), (118, .iinc 4 1, 3), (121, .goto (-86), 3), (124, .aload_n 3, 1), (125, .areturn, 1)]
set_option maxRecDepth 100000 in
theorem dt_X6_shapedAlong : tl_X6_shapedAlong.all (fun q => decide (decode cX6_shapedAlong q.1 = .ok (q.2.1, q.2.2))) = true := by decide +kernel
def tl_X6_isLike : List (Nat × Instr × Nat) := [(0, .aload_n 0, 1), (1, .getfield 9, 3), (4, .arraylength, 1), (5, .aload_n 1, 1), (6, .getfield 9, 3), (9, .arraylength, 1), (10, .if_icmp .ne 16, 3), (13, .aload_n 0, 1), (14, .getfield 15, 3), (17, .arraylength, 1), (18, .aload_n 1, 1), (19, .getfield 15, 3), (22, .arraylength, 1), (23, .if_icmp .eq 5, 3), (26, .iconst 0, 1), (27, .ireturn, 1), (28, .iconst 0, 1), (29, .istore_n 2, 1), (30, .iload_n 2, 1), (31, .aload_n 0, 1), (32, .getfield 9, 3), (35, .arraylength, 1), (36, .if_icmp .ge 26, 3), (39, .aload_n 0, 1), (40, .getfield 9, 3), (43, .iload_n 2, 1), (44, .iaload, 1), (45, .aload_n 1, 1), (46, .getfield 9, 3), (49, .iload_n 2, 1), (50, .iaload, 1), (51, .if_icmp .eq 5, 3), (54, .iconst 0, 1), (55, .ireturn, 1), (56, .iinc 2 1, 3), (59, .goto (-29), 3), (62, .iconst 0, 1), (63, .istore_n 2, 1), (64, .iload_n 2, 1), (65, .aload_n 0, 1), (66, .getfield 15, 3), (69, .arraylength, 1), (70, .if_icmp .ge 26, 3), (73, .aload_n 0, 1), (74, .getfield 15, 3), (77, .iload_n 2, 1), (78, .iaload, 1), (79, .aload_n 1, 1), (80, .getfield 15, 3), (83, .iload_n 2, 1), (84, .iaload, 1), (85, .if_icmp .eq 5, 3), (88, .iconst 0, 1), (89, .ireturn, 1), (90, .iinc 2 1, 3), (93, .goto (-29), 3), (96, .iconst 0, 1), (97, .istore_n 2, 1), (98, .iload_n 2, 1), (99, .aload_n 0, 1), (100, .getfield 20, 3), (103, .arraylength, 1), (104, .if_icmp .ge 29, 3), (107, .aload_n 0, 1), (108, .getfield 20, 3), (111, .iload_n 2, 1), (112, .aaload, 1), (113, .aload_n 1, 1), (114, .getfield 20, 3), (117, .iload_n 2, 1), (118, .aaload, 1), (119, .invokestatic 47, 3), (122, .ifCond .ne 5, 3), (125, .iconst 0, 1), (126, .ireturn, 1), (127, .iinc 2 1, 3), (130, .goto (-32), 3), (133, .iconst 1, 1), (134, .ireturn, 1)]
set_option maxRecDepth 100000 in
theorem dt_X6_isLike : tl_X6_isLike.all (fun q => decide (decode cX6_isLike q.1 = .ok (q.2.1, q.2.2))) = true := by decide +kernel
theorem dX6_isLike_0 : decode cX6_isLike 0 = .ok (.aload_n 0, 1) := dk dt_X6_isLike 0 rfl
theorem dX6_isLike_1 : decode cX6_isLike 1 = .ok (.getfield 9, 3) := dk dt_X6_isLike 1 rfl
theorem dX6_isLike_4 : decode cX6_isLike 4 = .ok (.arraylength, 1) := dk dt_X6_isLike 2 rfl
theorem dX6_isLike_5 : decode cX6_isLike 5 = .ok (.aload_n 1, 1) := dk dt_X6_isLike 3 rfl
theorem dX6_isLike_6 : decode cX6_isLike 6 = .ok (.getfield 9, 3) := dk dt_X6_isLike 4 rfl
theorem dX6_isLike_9 : decode cX6_isLike 9 = .ok (.arraylength, 1) := dk dt_X6_isLike 5 rfl
theorem dX6_isLike_10 : decode cX6_isLike 10 = .ok (.if_icmp .ne 16, 3) := dk dt_X6_isLike 6 rfl
theorem dX6_isLike_13 : decode cX6_isLike 13 = .ok (.aload_n 0, 1) := dk dt_X6_isLike 7 rfl
theorem dX6_isLike_14 : decode cX6_isLike 14 = .ok (.getfield 15, 3) := dk dt_X6_isLike 8 rfl
theorem dX6_isLike_17 : decode cX6_isLike 17 = .ok (.arraylength, 1) := dk dt_X6_isLike 9 rfl
theorem dX6_isLike_18 : decode cX6_isLike 18 = .ok (.aload_n 1, 1) := dk dt_X6_isLike 10 rfl
theorem dX6_isLike_19 : decode cX6_isLike 19 = .ok (.getfield 15, 3) := dk dt_X6_isLike 11 rfl
theorem dX6_isLike_22 : decode cX6_isLike 22 = .ok (.arraylength, 1) := dk dt_X6_isLike 12 rfl
theorem dX6_isLike_23 : decode cX6_isLike 23 = .ok (.if_icmp .eq 5, 3) := dk dt_X6_isLike 13 rfl
theorem dX6_isLike_26 : decode cX6_isLike 26 = .ok (.iconst 0, 1) := dk dt_X6_isLike 14 rfl
theorem dX6_isLike_27 : decode cX6_isLike 27 = .ok (.ireturn, 1) := dk dt_X6_isLike 15 rfl
theorem dX6_isLike_28 : decode cX6_isLike 28 = .ok (.iconst 0, 1) := dk dt_X6_isLike 16 rfl
theorem dX6_isLike_29 : decode cX6_isLike 29 = .ok (.istore_n 2, 1) := dk dt_X6_isLike 17 rfl
theorem dX6_isLike_30 : decode cX6_isLike 30 = .ok (.iload_n 2, 1) := dk dt_X6_isLike 18 rfl
theorem dX6_isLike_31 : decode cX6_isLike 31 = .ok (.aload_n 0, 1) := dk dt_X6_isLike 19 rfl
theorem dX6_isLike_32 : decode cX6_isLike 32 = .ok (.getfield 9, 3) := dk dt_X6_isLike 20 rfl
theorem dX6_isLike_35 : decode cX6_isLike 35 = .ok (.arraylength, 1) := dk dt_X6_isLike 21 rfl
theorem dX6_isLike_36 : decode cX6_isLike 36 = .ok (.if_icmp .ge 26, 3) := dk dt_X6_isLike 22 rfl
theorem dX6_isLike_39 : decode cX6_isLike 39 = .ok (.aload_n 0, 1) := dk dt_X6_isLike 23 rfl
theorem dX6_isLike_40 : decode cX6_isLike 40 = .ok (.getfield 9, 3) := dk dt_X6_isLike 24 rfl
theorem dX6_isLike_43 : decode cX6_isLike 43 = .ok (.iload_n 2, 1) := dk dt_X6_isLike 25 rfl
theorem dX6_isLike_44 : decode cX6_isLike 44 = .ok (.iaload, 1) := dk dt_X6_isLike 26 rfl
theorem dX6_isLike_45 : decode cX6_isLike 45 = .ok (.aload_n 1, 1) := dk dt_X6_isLike 27 rfl
theorem dX6_isLike_46 : decode cX6_isLike 46 = .ok (.getfield 9, 3) := dk dt_X6_isLike 28 rfl
theorem dX6_isLike_49 : decode cX6_isLike 49 = .ok (.iload_n 2, 1) := dk dt_X6_isLike 29 rfl
theorem dX6_isLike_50 : decode cX6_isLike 50 = .ok (.iaload, 1) := dk dt_X6_isLike 30 rfl
theorem dX6_isLike_51 : decode cX6_isLike 51 = .ok (.if_icmp .eq 5, 3) := dk dt_X6_isLike 31 rfl
theorem dX6_isLike_54 : decode cX6_isLike 54 = .ok (.iconst 0, 1) := dk dt_X6_isLike 32 rfl
theorem dX6_isLike_55 : decode cX6_isLike 55 = .ok (.ireturn, 1) := dk dt_X6_isLike 33 rfl
theorem dX6_isLike_56 : decode cX6_isLike 56 = .ok (.iinc 2 1, 3) := dk dt_X6_isLike 34 rfl
theorem dX6_isLike_59 : decode cX6_isLike 59 = .ok (.goto (-29), 3) := dk dt_X6_isLike 35 rfl
theorem dX6_isLike_62 : decode cX6_isLike 62 = .ok (.iconst 0, 1) := dk dt_X6_isLike 36 rfl
theorem dX6_isLike_63 : decode cX6_isLike 63 = .ok (.istore_n 2, 1) := dk dt_X6_isLike 37 rfl
theorem dX6_isLike_64 : decode cX6_isLike 64 = .ok (.iload_n 2, 1) := dk dt_X6_isLike 38 rfl
theorem dX6_isLike_65 : decode cX6_isLike 65 = .ok (.aload_n 0, 1) := dk dt_X6_isLike 39 rfl
theorem dX6_isLike_66 : decode cX6_isLike 66 = .ok (.getfield 15, 3) := dk dt_X6_isLike 40 rfl
theorem dX6_isLike_69 : decode cX6_isLike 69 = .ok (.arraylength, 1) := dk dt_X6_isLike 41 rfl
theorem dX6_isLike_70 : decode cX6_isLike 70 = .ok (.if_icmp .ge 26, 3) := dk dt_X6_isLike 42 rfl
theorem dX6_isLike_73 : decode cX6_isLike 73 = .ok (.aload_n 0, 1) := dk dt_X6_isLike 43 rfl
theorem dX6_isLike_74 : decode cX6_isLike 74 = .ok (.getfield 15, 3) := dk dt_X6_isLike 44 rfl
theorem dX6_isLike_77 : decode cX6_isLike 77 = .ok (.iload_n 2, 1) := dk dt_X6_isLike 45 rfl
theorem dX6_isLike_78 : decode cX6_isLike 78 = .ok (.iaload, 1) := dk dt_X6_isLike 46 rfl
theorem dX6_isLike_79 : decode cX6_isLike 79 = .ok (.aload_n 1, 1) := dk dt_X6_isLike 47 rfl
theorem dX6_isLike_80 : decode cX6_isLike 80 = .ok (.getfield 15, 3) := dk dt_X6_isLike 48 rfl
theorem dX6_isLike_83 : decode cX6_isLike 83 = .ok (.iload_n 2, 1) := dk dt_X6_isLike 49 rfl
theorem dX6_isLike_84 : decode cX6_isLike 84 = .ok (.iaload, 1) := dk dt_X6_isLike 50 rfl
theorem dX6_isLike_85 : decode cX6_isLike 85 = .ok (.if_icmp .eq 5, 3) := dk dt_X6_isLike 51 rfl
theorem dX6_isLike_88 : decode cX6_isLike 88 = .ok (.iconst 0, 1) := dk dt_X6_isLike 52 rfl
theorem dX6_isLike_89 : decode cX6_isLike 89 = .ok (.ireturn, 1) := dk dt_X6_isLike 53 rfl
theorem dX6_isLike_90 : decode cX6_isLike 90 = .ok (.iinc 2 1, 3) := dk dt_X6_isLike 54 rfl
theorem dX6_isLike_93 : decode cX6_isLike 93 = .ok (.goto (-29), 3) := dk dt_X6_isLike 55 rfl
theorem dX6_isLike_96 : decode cX6_isLike 96 = .ok (.iconst 0, 1) := dk dt_X6_isLike 56 rfl
theorem dX6_isLike_97 : decode cX6_isLike 97 = .ok (.istore_n 2, 1) := dk dt_X6_isLike 57 rfl
theorem dX6_isLike_98 : decode cX6_isLike 98 = .ok (.iload_n 2, 1) := dk dt_X6_isLike 58 rfl
theorem dX6_isLike_99 : decode cX6_isLike 99 = .ok (.aload_n 0, 1) := dk dt_X6_isLike 59 rfl
theorem dX6_isLike_100 : decode cX6_isLike 100 = .ok (.getfield 20, 3) := dk dt_X6_isLike 60 rfl
theorem dX6_isLike_103 : decode cX6_isLike 103 = .ok (.arraylength, 1) := dk dt_X6_isLike 61 rfl
theorem dX6_isLike_104 : decode cX6_isLike 104 = .ok (.if_icmp .ge 29, 3) := dk dt_X6_isLike 62 rfl
theorem dX6_isLike_107 : decode cX6_isLike 107 = .ok (.aload_n 0, 1) := dk dt_X6_isLike 63 rfl
theorem dX6_isLike_108 : decode cX6_isLike 108 = .ok (.getfield 20, 3) := dk dt_X6_isLike 64 rfl
theorem dX6_isLike_111 : decode cX6_isLike 111 = .ok (.iload_n 2, 1) := dk dt_X6_isLike 65 rfl
theorem dX6_isLike_112 : decode cX6_isLike 112 = .ok (.aaload, 1) := dk dt_X6_isLike 66 rfl
theorem dX6_isLike_113 : decode cX6_isLike 113 = .ok (.aload_n 1, 1) := dk dt_X6_isLike 67 rfl
theorem dX6_isLike_114 : decode cX6_isLike 114 = .ok (.getfield 20, 3) := dk dt_X6_isLike 68 rfl
theorem dX6_isLike_117 : decode cX6_isLike 117 = .ok (.iload_n 2, 1) := dk dt_X6_isLike 69 rfl
theorem dX6_isLike_118 : decode cX6_isLike 118 = .ok (.aaload, 1) := dk dt_X6_isLike 70 rfl
theorem dX6_isLike_119 : decode cX6_isLike 119 = .ok (.invokestatic 47, 3) := dk dt_X6_isLike 71 rfl
theorem dX6_isLike_122 : decode cX6_isLike 122 = .ok (.ifCond .ne 5, 3) := dk dt_X6_isLike 72 rfl
theorem dX6_isLike_125 : decode cX6_isLike 125 = .ok (.iconst 0, 1) := dk dt_X6_isLike 73 rfl
theorem dX6_isLike_126 : decode cX6_isLike 126 = .ok (.ireturn, 1) := dk dt_X6_isLike 74 rfl
theorem dX6_isLike_127 : decode cX6_isLike 127 = .ok (.iinc 2 1, 3) := dk dt_X6_isLike 75 rfl
theorem dX6_isLike_130 : decode cX6_isLike 130 = .ok (.goto (-32), 3) := dk dt_X6_isLike 76 rfl
theorem dX6_isLike_133 : decode cX6_isLike 133 = .ok (.iconst 1, 1) := dk dt_X6_isLike 77 rfl
theorem dX6_isLike_134 : decode cX6_isLike 134 = .ok (.ireturn, 1) := dk dt_X6_isLike 78 rfl
def tl_X6_versionsLookedAt : List (Nat × Instr × Nat) := [(0, .lconst 0, 1), (1, .lstore_n 1, 1), (2, .iconst 0, 1), (3, .istore_n 3, 1), (4, .iload_n 3, 1), (5, .aload_n 0, 1), (6, .getfield 20, 3), (9, .arraylength, 1), (10, .if_icmp .ge 69, 3), (13, .iconst 0, 1), (14, .istore 4, 2), (16, .iload 4, 2), (18, .aload_n 0, 1), (19, .getfield 20, 3), (22, .iload_n 3, 1), (23, .aaload, 1), (24, .invokestatic 51, 3), (27, .if_icmp .ge 46, 3), (30, .aload_n 0, 1), (31, .getfield 20, 3), (34, .iload_n 3, 1), (35, .aaload, 1), (36, .getfield 55, 3), (39, .iload 4, 2), (41, .aaload, 1), (42, .astore 5, 2), (44, .lload_n 1, 1), (45, .aload 5, 2), (47, .getfield 59, 3), (50, .iconst (-1), 1), (51, .if_icmp .eq 13, 3), (54, .lconst 1, 1), (55, .aload 5, 2), (57, .getfield 59, 3), (60, .lshl, 1), (61, .goto 4, 3), (64, .lconst 0, 1), (65, .lor, 1), (66, .lstore_n 1, 1), (67, .iinc 4 1, 3), (70, .goto (-54), 3), (73, .iinc 3 1, 3), (76, .goto (-72), 3), (79, .lload_n 1, 1), (80, .lreturn, 1)]
set_option maxRecDepth 100000 in
theorem dt_X6_versionsLookedAt : tl_X6_versionsLookedAt.all (fun q => decide (decode cX6_versionsLookedAt q.1 = .ok (q.2.1, q.2.2))) = true := by decide +kernel
def tl_X6_valueAt : List (Nat × Instr × Nat) := [(0, .iload_n 1, 1), (1, .iconst 1, 1), (2, .if_icmp .lt 26, 3), (5, .iload_n 1, 1), (6, .aload_n 0, 1), (7, .getfield 9, 3), (10, .arraylength, 1), (11, .if_icmp .gt 17, 3), (14, .iload_n 2, 1), (15, .iconst 1, 1), (16, .if_icmp .lt 12, 3), (19, .iload_n 2, 1), (20, .aload_n 0, 1), (21, .getfield 15, 3), (24, .arraylength, 1), (25, .if_icmp .le 5, 3), (28, .aconst_null, 1), (29, .areturn, 1), (30, .iload_n 1, 1), (31, .iconst 1, 1), (32, .isub, 1), (33, .aload_n 0, 1), (34, .getfield 15, 3), (37, .arraylength, 1), (38, .imul, 1), (39, .iload_n 2, 1), (40, .iadd, 1), (41, .iconst 1, 1), (42, .isub, 1), (43, .istore_n 3, 1), (44, .aload_n 0, 1), (45, .getfield 20, 3), (48, .iload_n 3, 1), (49, .aaload, 1), (50, .astore 4, 2), (52, .aload 4, 2), (54, .ifnull 12, 3), (57, .aload 4, 2), (59, .getfield 65, 3), (62, .iconst 5, 1), (63, .if_icmp .eq 18, 3), (66, .aload 4, 2), (68, .ifnull 11, 3), (71, .aload 4, 2), (73, .getfield 68, 3), (76, .goto 4, 3), (79, .aconst_null, 1), (80, .areturn, 1), (81, .aload_n 0, 1), (82, .getfield 72, 3), (85, .ifnull 21, 3), (88, .iload_n 3, 1), (89, .aload_n 0, 1), (90, .getfield 72, 3), (93, .arraylength, 1), (94, .if_icmp .ge 12, 3), (97, .aload_n 0, 1), (98, .getfield 72, 3), (101, .iload_n 3, 1), (102, .aaload, 1), (103, .goto 4, 3), (106, .aconst_null, 1), (107, .areturn, 1)]
set_option maxRecDepth 100000 in
theorem dt_X6_valueAt : tl_X6_valueAt.all (fun q => decide (decode cX6_valueAt q.1 = .ok (q.2.1, q.2.2))) = true := by decide +kernel
