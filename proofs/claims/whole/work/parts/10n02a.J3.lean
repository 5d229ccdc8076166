def nJ3_0_3_0l : List Cond := [(Jvm.Cond.static ({ cls := "jdk/internal/util/Preconditions", name := "checkIndex", desc := "(IILjava/util/function/BiFunction;)I" } : Jvm.MethodName)), (Jvm.Cond.code ({ cls := "jdk/internal/util/Preconditions", name := "checkIndex", desc := "(IILjava/util/function/BiFunction;)I" } : Jvm.MethodName) prog_32_method_11_code (3 : Nat) (Option.some Jvm.ClassFile.FieldType.int))]
set_option maxRecDepth 100000 in
theorem nJ3_0_3_0 : pickL [215, 0] tables_1_3 = nJ3_0_3_0l := by rfl
def mJ3_checkIndex_8e157 : MI := (yJ3_checkIndex_8e157, cJ3_checkIndex_8e157, 3, (some .int))
theorem qc_J3_checkIndex_8e157 : Cond.code mJ3_checkIndex_8e157.1 mJ3_checkIndex_8e157.2.1 mJ3_checkIndex_8e157.2.2.1 mJ3_checkIndex_8e157.2.2.2 ∈ gtb := (gk2 tin_3 nJ3_0_3_0 1 rfl (by decide +kernel))
theorem qt_J3_checkIndex_8e157 : Cond.static mJ3_checkIndex_8e157.1 ∈ gtb := (gk2 tin_3 nJ3_0_3_0 0 rfl (by decide +kernel))
theorem qd_J3_checkIndex_8e157 : dsc mJ3_checkIndex_8e157.1 3 := ⟨by decide +kernel, by decide +kernel, by decide +kernel⟩
def tl_J3_checkIndex_8e157 : List (Nat × Instr × Nat) := [(0, .iload_n 0, 1), (1, .ifCond .lt 8, 3), (4, .iload_n 0, 1), (5, .iload_n 1, 1), (6, .if_icmp .lt 10, 3), (9, .aload_n 2, 1), (10, .iload_n 0, 1), (11, .iload_n 1, 1), (12, .invokestatic 95, 3), (15, .athrow, 1), (16, .iload_n 0, 1), (17, .ireturn, 1)]
set_option maxRecDepth 100000 in
theorem dt_J3_checkIndex_8e157 : tl_J3_checkIndex_8e157.all (fun q => decide (decode cJ3_checkIndex_8e157 q.1 = .ok (q.2.1, q.2.2))) = true := by decide +kernel
