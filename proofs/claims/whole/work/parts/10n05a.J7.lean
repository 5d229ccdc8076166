def nJ7_0_1_0l : List Cond := [(Jvm.Cond.initialized "java/lang/Math")]
set_option maxRecDepth 100000 in
theorem nJ7_0_1_0 : pickL [5] tables_1_1 = nJ7_0_1_0l := by rfl
def nJ7_0_3_0l : List Cond := [(Jvm.Cond.static ({ cls := "java/lang/Math", name := "min", desc := "(II)I" } : Jvm.MethodName)), (Jvm.Cond.code ({ cls := "java/lang/Math", name := "min", desc := "(II)I" } : Jvm.MethodName) prog_22_method_69_code (2 : Nat) (Option.some Jvm.ClassFile.FieldType.int))]
set_option maxRecDepth 100000 in
theorem nJ7_0_3_0 : pickL [50, 0] tables_1_3 = nJ7_0_3_0l := by rfl
def nJ7_0_7_0l : List Cond := [(Jvm.Cond.static ({ cls := "java/util/Arrays", name := "copyOf", desc := "([II)[I" } : Jvm.MethodName)), (Jvm.Cond.code ({ cls := "java/util/Arrays", name := "copyOf", desc := "([II)[I" } : Jvm.MethodName) prog_30_method_123_code (3 : Nat) (Option.some (Jvm.ClassFile.FieldType.array Jvm.ClassFile.FieldType.int))), (Jvm.Cond.methodLink "java/util/Arrays" (304 : Nat) ({ cls := "java/lang/Math", name := "min", desc := "(II)I" } : Jvm.MethodName))]
set_option maxRecDepth 100000 in
theorem nJ7_0_7_0 : pickL [77, 0, 2] tables_1_7 = nJ7_0_7_0l := by rfl
def mJ7_copyOf_59c91 : MI := (yJ7_copyOf_59c91, cJ7_copyOf_59c91, 3, (some ((.array .int))))
theorem qc_J7_copyOf_59c91 : Cond.code mJ7_copyOf_59c91.1 mJ7_copyOf_59c91.2.1 mJ7_copyOf_59c91.2.2.1 mJ7_copyOf_59c91.2.2.2 ∈ gtb := (gk2 tin_7 nJ7_0_7_0 1 rfl (by decide +kernel))
theorem qt_J7_copyOf_59c91 : Cond.static mJ7_copyOf_59c91.1 ∈ gtb := (gk2 tin_7 nJ7_0_7_0 0 rfl (by decide +kernel))
theorem qd_J7_copyOf_59c91 : dsc mJ7_copyOf_59c91.1 2 := ⟨by decide +kernel, by decide +kernel, by decide +kernel⟩
def mJ9_min_7cf53 : MI := (yJ9_min_7cf53, cJ9_min_7cf53, 2, (some .int))
theorem qc_J9_min_7cf53 : Cond.code mJ9_min_7cf53.1 mJ9_min_7cf53.2.1 mJ9_min_7cf53.2.2.1 mJ9_min_7cf53.2.2.2 ∈ gtb := (gk2 tin_3 nJ7_0_3_0 1 rfl (by decide +kernel))
theorem qt_J9_min_7cf53 : Cond.static mJ9_min_7cf53.1 ∈ gtb := (gk2 tin_3 nJ7_0_3_0 0 rfl (by decide +kernel))
theorem qd_J9_min_7cf53 : dsc mJ9_min_7cf53.1 2 := ⟨by decide +kernel, by decide +kernel, by decide +kernel⟩
theorem sl_J7_304 : SL RJ7 304 mJ9_min_7cf53 2 := ⟨⟨qc_J9_min_7cf53, (gk2 tin_7 nJ7_0_7_0 2 rfl (by decide +kernel)), qt_J9_min_7cf53, (gk2 tin_1 nJ7_0_1_0 0 rfl (by decide +kernel))⟩, qd_J9_min_7cf53, by decide⟩
def tl_J7_copyOf_59c91 : List (Nat × Instr × Nat) := [(0, .iload_n 1, 1), (1, .aload_n 0, 1), (2, .arraylength, 1), (3, .if_icmp .ne 11, 3), (6, .aload_n 0, 1), (7, .invokevirtual 316, 3), (10, .checkcast 317, 3), (13, .areturn, 1), (14, .iload_n 1, 1), (15, .newarray .int, 2), (17, .astore_n 2, 1), (18, .aload_n 0, 1), (19, .iconst 0, 1), (20, .aload_n 2, 1), (21, .iconst 0, 1), (22, .aload_n 0, 1), (23, .arraylength, 1), (24, .iload_n 1, 1), (25, .invokestatic 304, 3), (28, .invokestatic 150, 3), (31, .aload_n 2, 1), (32, .areturn, 1)]
set_option maxRecDepth 100000 in
theorem dt_J7_copyOf_59c91 : tl_J7_copyOf_59c91.all (fun q => decide (decode cJ7_copyOf_59c91 q.1 = .ok (q.2.1, q.2.2))) = true := by decide +kernel
