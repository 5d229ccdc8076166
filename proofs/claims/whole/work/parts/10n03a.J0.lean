def nJ0_0_3_0l : List Cond := [(Jvm.Cond.instanceMethod ({ cls := "java/lang/String", name := "length", desc := "()I" } : Jvm.MethodName)), (Jvm.Cond.selects "java/lang/String" ({ cls := "java/lang/String", name := "length", desc := "()I" } : Jvm.MethodName) ({ cls := "java/lang/String", name := "length", desc := "()I" } : Jvm.MethodName)), (Jvm.Cond.code ({ cls := "java/lang/String", name := "length", desc := "()I" } : Jvm.MethodName) prog_24_method_54_code (1 : Nat) (Option.some Jvm.ClassFile.FieldType.int)), (Jvm.Cond.instanceMethod ({ cls := "java/lang/String", name := "coder", desc := "()B" } : Jvm.MethodName)), (Jvm.Cond.selects "java/lang/String" ({ cls := "java/lang/String", name := "coder", desc := "()B" } : Jvm.MethodName) ({ cls := "java/lang/String", name := "coder", desc := "()B" } : Jvm.MethodName)), (Jvm.Cond.code ({ cls := "java/lang/String", name := "coder", desc := "()B" } : Jvm.MethodName) prog_24_method_152_code (1 : Nat) (Option.some Jvm.ClassFile.FieldType.byte)), (Jvm.Cond.fieldLink "java/lang/String" (38 : Nat) "java/lang/String" "COMPACT_STRINGS" "Z"), (Jvm.Cond.instanceMethod ({ cls := "java/lang/String", name := "charAt", desc := "(I)C" } : Jvm.MethodName)), (Jvm.Cond.selects "java/lang/String" ({ cls := "java/lang/String", name := "charAt", desc := "(I)C" } : Jvm.MethodName) ({ cls := "java/lang/String", name := "charAt", desc := "(I)C" } : Jvm.MethodName)), (Jvm.Cond.code ({ cls := "java/lang/String", name := "charAt", desc := "(I)C" } : Jvm.MethodName) prog_24_method_56_code (2 : Nat) (Option.some Jvm.ClassFile.FieldType.char)), (Jvm.Cond.instanceMethod ({ cls := "java/lang/String", name := "isLatin1", desc := "()Z" } : Jvm.MethodName)), (Jvm.Cond.selects "java/lang/String" ({ cls := "java/lang/String", name := "isLatin1", desc := "()Z" } : Jvm.MethodName) ({ cls := "java/lang/String", name := "isLatin1", desc := "()Z" } : Jvm.MethodName)), (Jvm.Cond.code ({ cls := "java/lang/String", name := "isLatin1", desc := "()Z" } : Jvm.MethodName) prog_24_method_154_code (1 : Nat) (Option.some Jvm.ClassFile.FieldType.boolean)), (Jvm.Cond.static ({ cls := "java/lang/String", name := "checkIndex", desc := "(II)V" } : Jvm.MethodName)), (Jvm.Cond.code ({ cls := "java/lang/String", name := "checkIndex", desc := "(II)V" } : Jvm.MethodName) prog_24_method_155_code (2 : Nat) (Option.none : Option Jvm.ClassFile.FieldType)), (Jvm.Cond.fieldLink "java/lang/String" (1053 : Nat) "jdk/internal/util/Preconditions" "SIOOBE_FORMATTER" "Ljava/util/function/BiFunction;")]
set_option maxRecDepth 100000 in
theorem nJ0_0_3_0 : pickL [189, 0, 0, 1, 0, 0, 0, 2, 0, 0, 1, 0, 0, 4, 0, 0] tables_1_3 = nJ0_0_3_0l := by rfl
def nJ0_0_12_0l : List Cond := [(Jvm.Cond.fieldLink "java/lang/String" (9 : Nat) "java/lang/String" "value" "[B"), (Jvm.Cond.fieldLink "java/lang/String" (15 : Nat) "java/lang/String" "coder" "B")]
set_option maxRecDepth 100000 in
theorem nJ0_0_12_0 : pickL [121, 0] tables_1_12 = nJ0_0_12_0l := by rfl
def mJ0_length_8abf5 : MI := (yJ0_length_8abf5, cJ0_length_8abf5, 1, (some .int))
theorem qc_J0_length_8abf5 : Cond.code mJ0_length_8abf5.1 mJ0_length_8abf5.2.1 mJ0_length_8abf5.2.2.1 mJ0_length_8abf5.2.2.2 ∈ gtb := (gk2 tin_3 nJ0_0_3_0 2 rfl (by decide +kernel))
theorem qi_J0_length_8abf5 : Cond.instanceMethod mJ0_length_8abf5.1 ∈ gtb := (gk2 tin_3 nJ0_0_3_0 0 rfl (by decide +kernel))
theorem qs_J0_length_8abf5 : Cond.selects mJ0_length_8abf5.1.cls mJ0_length_8abf5.1 mJ0_length_8abf5.1 ∈ gtb := (gk2 tin_3 nJ0_0_3_0 1 rfl (by decide +kernel))
theorem qd_J0_length_8abf5 : dsc mJ0_length_8abf5.1 0 := ⟨by decide +kernel, by decide +kernel, by decide +kernel⟩
def mJ0_charAt_5068e : MI := (yJ0_charAt_5068e, cJ0_charAt_5068e, 2, (some .char))
theorem qc_J0_charAt_5068e : Cond.code mJ0_charAt_5068e.1 mJ0_charAt_5068e.2.1 mJ0_charAt_5068e.2.2.1 mJ0_charAt_5068e.2.2.2 ∈ gtb := (gk2 tin_3 nJ0_0_3_0 9 rfl (by decide +kernel))
theorem qi_J0_charAt_5068e : Cond.instanceMethod mJ0_charAt_5068e.1 ∈ gtb := (gk2 tin_3 nJ0_0_3_0 7 rfl (by decide +kernel))
theorem qs_J0_charAt_5068e : Cond.selects mJ0_charAt_5068e.1.cls mJ0_charAt_5068e.1 mJ0_charAt_5068e.1 ∈ gtb := (gk2 tin_3 nJ0_0_3_0 8 rfl (by decide +kernel))
theorem qd_J0_charAt_5068e : dsc mJ0_charAt_5068e.1 1 := ⟨by decide +kernel, by decide +kernel, by decide +kernel⟩
def mJ0_coder_7d493 : MI := (yJ0_coder_7d493, cJ0_coder_7d493, 1, (some .byte))
theorem qc_J0_coder_7d493 : Cond.code mJ0_coder_7d493.1 mJ0_coder_7d493.2.1 mJ0_coder_7d493.2.2.1 mJ0_coder_7d493.2.2.2 ∈ gtb := (gk2 tin_3 nJ0_0_3_0 5 rfl (by decide +kernel))
theorem qi_J0_coder_7d493 : Cond.instanceMethod mJ0_coder_7d493.1 ∈ gtb := (gk2 tin_3 nJ0_0_3_0 3 rfl (by decide +kernel))
theorem qs_J0_coder_7d493 : Cond.selects mJ0_coder_7d493.1.cls mJ0_coder_7d493.1 mJ0_coder_7d493.1 ∈ gtb := (gk2 tin_3 nJ0_0_3_0 4 rfl (by decide +kernel))
theorem qd_J0_coder_7d493 : dsc mJ0_coder_7d493.1 0 := ⟨by decide +kernel, by decide +kernel, by decide +kernel⟩
def mJ0_isLatin1_aae02 : MI := (yJ0_isLatin1_aae02, cJ0_isLatin1_aae02, 1, (some .boolean))
theorem qc_J0_isLatin1_aae02 : Cond.code mJ0_isLatin1_aae02.1 mJ0_isLatin1_aae02.2.1 mJ0_isLatin1_aae02.2.2.1 mJ0_isLatin1_aae02.2.2.2 ∈ gtb := (gk2 tin_3 nJ0_0_3_0 12 rfl (by decide +kernel))
theorem qi_J0_isLatin1_aae02 : Cond.instanceMethod mJ0_isLatin1_aae02.1 ∈ gtb := (gk2 tin_3 nJ0_0_3_0 10 rfl (by decide +kernel))
theorem qs_J0_isLatin1_aae02 : Cond.selects mJ0_isLatin1_aae02.1.cls mJ0_isLatin1_aae02.1 mJ0_isLatin1_aae02.1 ∈ gtb := (gk2 tin_3 nJ0_0_3_0 11 rfl (by decide +kernel))
theorem qd_J0_isLatin1_aae02 : dsc mJ0_isLatin1_aae02.1 0 := ⟨by decide +kernel, by decide +kernel, by decide +kernel⟩
def mJ0_checkIndex_df160 : MI := (yJ0_checkIndex_df160, cJ0_checkIndex_df160, 2, none)
theorem qc_J0_checkIndex_df160 : Cond.code mJ0_checkIndex_df160.1 mJ0_checkIndex_df160.2.1 mJ0_checkIndex_df160.2.2.1 mJ0_checkIndex_df160.2.2.2 ∈ gtb := (gk2 tin_3 nJ0_0_3_0 14 rfl (by decide +kernel))
theorem qt_J0_checkIndex_df160 : Cond.static mJ0_checkIndex_df160.1 ∈ gtb := (gk2 tin_3 nJ0_0_3_0 13 rfl (by decide +kernel))
theorem qd_J0_checkIndex_df160 : dsc mJ0_checkIndex_df160.1 2 := ⟨by decide +kernel, by decide +kernel, by decide +kernel⟩
theorem fs_J0_9 : Cond.fieldLink RJ0 9 "java/lang/String" "value" "[B" ∈ gtb := (gk2 tin_12 nJ0_0_12_0 0 rfl (by decide +kernel))
theorem fs_J0_38 : Cond.fieldLink RJ0 38 "java/lang/String" "COMPACT_STRINGS" "Z" ∈ gtb := (gk2 tin_3 nJ0_0_3_0 6 rfl (by decide +kernel))
theorem fs_J0_15 : Cond.fieldLink RJ0 15 "java/lang/String" "coder" "B" ∈ gtb := (gk2 tin_12 nJ0_0_12_0 1 rfl (by decide +kernel))
theorem fs_J0_1053 : Cond.fieldLink RJ0 1053 "jdk/internal/util/Preconditions" "SIOOBE_FORMATTER" "Ljava/util/function/BiFunction;" ∈ gtb := (gk2 tin_3 nJ0_0_3_0 15 rfl (by decide +kernel))
def tl_J0_length_8abf5 : List (Nat × Instr × Nat) := [(0, .aload_n 0, 1), (1, .getfield 9, 3), (4, .arraylength, 1), (5, .aload_n 0, 1), (6, .invokevirtual 335, 3), (9, .ishr, 1), (10, .ireturn, 1)]
set_option maxRecDepth 100000 in
theorem dt_J0_length_8abf5 : tl_J0_length_8abf5.all (fun q => decide (decode cJ0_length_8abf5 q.1 = .ok (q.2.1, q.2.2))) = true := by decide +kernel
def tl_J0_charAt_5068e : List (Nat × Instr × Nat) := [(0, .aload_n 0, 1), (1, .invokevirtual 492, 3), (4, .ifCond .eq 12, 3), (7, .aload_n 0, 1), (8, .getfield 9, 3), (11, .iload_n 1, 1), (12, .invokestatic 495, 3), (15, .ireturn, 1), (16, .aload_n 0, 1), (17, .getfield 9, 3), (20, .iload_n 1, 1), (21, .invokestatic 498, 3), (24, .ireturn, 1)]
set_option maxRecDepth 100000 in
theorem dt_J0_charAt_5068e : tl_J0_charAt_5068e.all (fun q => decide (decode cJ0_charAt_5068e q.1 = .ok (q.2.1, q.2.2))) = true := by decide +kernel
def tl_J0_coder_7d493 : List (Nat × Instr × Nat) := [(0, .getstatic 38, 3), (3, .ifCond .eq 10, 3), (6, .aload_n 0, 1), (7, .getfield 15, 3), (10, .goto 4, 3), (13, .iconst 1, 1), (14, .ireturn, 1)]
set_option maxRecDepth 100000 in
theorem dt_J0_coder_7d493 : tl_J0_coder_7d493.all (fun q => decide (decode cJ0_coder_7d493 q.1 = .ok (q.2.1, q.2.2))) = true := by decide +kernel
def tl_J0_isLatin1_aae02 : List (Nat × Instr × Nat) := [(0, .getstatic 38, 3), (3, .ifCond .eq 14, 3), (6, .aload_n 0, 1), (7, .getfield 15, 3), (10, .ifCond .ne 7, 3), (13, .iconst 1, 1), (14, .goto 4, 3), (17, .iconst 0, 1), (18, .ireturn, 1)]
set_option maxRecDepth 100000 in
theorem dt_J0_isLatin1_aae02 : tl_J0_isLatin1_aae02.all (fun q => decide (decode cJ0_isLatin1_aae02 q.1 = .ok (q.2.1, q.2.2))) = true := by decide +kernel
def tl_J0_checkIndex_df160 : List (Nat × Instr × Nat) := [(0, .iload_n 0, 1), (1, .iload_n 1, 1), (2, .getstatic 1053, 3), (5, .invokestatic 1059, 3), (8, .pop, 1), (9, .return_, 1)]
set_option maxRecDepth 100000 in
theorem dt_J0_checkIndex_df160 : tl_J0_checkIndex_df160.all (fun q => decide (decode cJ0_checkIndex_df160 q.1 = .ok (q.2.1, q.2.2))) = true := by decide +kernel
