def nJ1_0_3_0l : List Cond := [(Jvm.Cond.static ({ cls := "java/lang/StringLatin1", name := "charAt", desc := "([BI)C" } : Jvm.MethodName)), (Jvm.Cond.code ({ cls := "java/lang/StringLatin1", name := "charAt", desc := "([BI)C" } : Jvm.MethodName) prog_25_method_2_code (2 : Nat) (Option.some Jvm.ClassFile.FieldType.char))]
set_option maxRecDepth 100000 in
theorem nJ1_0_3_0 : pickL [207, 0] tables_1_3 = nJ1_0_3_0l := by rfl
def mJ1_charAt_3b067 : MI := (yJ1_charAt_3b067, cJ1_charAt_3b067, 2, (some .char))
theorem qc_J1_charAt_3b067 : Cond.code mJ1_charAt_3b067.1 mJ1_charAt_3b067.2.1 mJ1_charAt_3b067.2.2.1 mJ1_charAt_3b067.2.2.2 ∈ gtb := (gk2 tin_3 nJ1_0_3_0 1 rfl (by decide +kernel))
theorem qt_J1_charAt_3b067 : Cond.static mJ1_charAt_3b067.1 ∈ gtb := (gk2 tin_3 nJ1_0_3_0 0 rfl (by decide +kernel))
theorem qd_J1_charAt_3b067 : dsc mJ1_charAt_3b067.1 2 := ⟨by decide +kernel, by decide +kernel, by decide +kernel⟩
def tl_J1_charAt_3b067 : List (Nat × Instr × Nat) := [(0, .iload_n 1, 1), (1, .aload_n 0, 1), (2, .arraylength, 1), (3, .invokestatic 9, 3), (6, .aload_n 0, 1), (7, .iload_n 1, 1), (8, .baload, 1), (9, .sipush 255, 3), (12, .iand, 1), (13, .i2c, 1), (14, .ireturn, 1)]
set_option maxRecDepth 100000 in
theorem dt_J1_charAt_3b067 : tl_J1_charAt_3b067.all (fun q => decide (decode cJ1_charAt_3b067 q.1 = .ok (q.2.1, q.2.2))) = true := by decide +kernel
