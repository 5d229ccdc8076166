theorem tin_1 : ∀ w ∈ tables_1_1, w ∈ tables_1 := fun w h => List.mem_append_left _ h
theorem tin_2 : ∀ w ∈ tables_1_2, w ∈ tables_1 := fun w h => List.mem_append_right _ (List.mem_append_left _ h)
theorem tin_3 : ∀ w ∈ tables_1_3, w ∈ tables_1 := fun w h => List.mem_append_right _ (List.mem_append_right _ (List.mem_append_left _ h))
theorem tin_4 : ∀ w ∈ tables_1_4, w ∈ tables_1 := fun w h => List.mem_append_right _ (List.mem_append_right _ (List.mem_append_right _ (List.mem_append_left _ h)))
theorem tin_5 : ∀ w ∈ tables_1_5, w ∈ tables_1 := fun w h => List.mem_append_right _ (List.mem_append_right _ (List.mem_append_right _ (List.mem_append_right _ (List.mem_append_left _ h))))
theorem tin_6 : ∀ w ∈ tables_1_6, w ∈ tables_1 := fun w h => List.mem_append_right _ (List.mem_append_right _ (List.mem_append_right _ (List.mem_append_right _ (List.mem_append_right _ (List.mem_append_left _ h)))))
theorem tin_7 : ∀ w ∈ tables_1_7, w ∈ tables_1 := fun w h => List.mem_append_right _ (List.mem_append_right _ (List.mem_append_right _ (List.mem_append_right _ (List.mem_append_right _ (List.mem_append_right _ (List.mem_append_left _ h))))))
theorem tin_8 : ∀ w ∈ tables_1_8, w ∈ tables_1 := fun w h => List.mem_append_right _ (List.mem_append_right _ (List.mem_append_right _ (List.mem_append_right _ (List.mem_append_right _ (List.mem_append_right _ (List.mem_append_right _ (List.mem_append_left _ h)))))))
theorem tin_9 : ∀ w ∈ tables_1_9, w ∈ tables_1 := fun w h => List.mem_append_right _ (List.mem_append_right _ (List.mem_append_right _ (List.mem_append_right _ (List.mem_append_right _ (List.mem_append_right _ (List.mem_append_right _ (List.mem_append_right _ (List.mem_append_left _ h))))))))
theorem tin_10 : ∀ w ∈ tables_1_10, w ∈ tables_1 := fun w h => List.mem_append_right _ (List.mem_append_right _ (List.mem_append_right _ (List.mem_append_right _ (List.mem_append_right _ (List.mem_append_right _ (List.mem_append_right _ (List.mem_append_right _ (List.mem_append_right _ (List.mem_append_left _ h)))))))))
theorem tin_11 : ∀ w ∈ tables_1_11, w ∈ tables_1 := fun w h => List.mem_append_right _ (List.mem_append_right _ (List.mem_append_right _ (List.mem_append_right _ (List.mem_append_right _ (List.mem_append_right _ (List.mem_append_right _ (List.mem_append_right _ (List.mem_append_right _ (List.mem_append_right _ (List.mem_append_left _ h))))))))))
theorem tin_12 : ∀ w ∈ tables_1_12, w ∈ tables_1 := fun w h => List.mem_append_right _ (List.mem_append_right _ (List.mem_append_right _ (List.mem_append_right _ (List.mem_append_right _ (List.mem_append_right _ (List.mem_append_right _ (List.mem_append_right _ (List.mem_append_right _ (List.mem_append_right _ (List.mem_append_right _ (h)))))))))))
theorem tk {T : List Cond} {L : List (Nat × Cond)} (hT : ∀ w ∈ T, w ∈ tables_1) (h : L.all (fun q => decide (T[q.1]? = some q.2)) = true) (k : Nat) {i : Nat} {w : Cond} (e : L[k]? = some (i, w)) : w ∈ tables_1 := hT _ (List.mem_of_getElem? (of_decide_eq_true (List.all_eq_true.mp h _ (List.mem_of_getElem? e))))
theorem gk {T : List Cond} {L : List (Nat × Cond)} (hT : ∀ w ∈ T, w ∈ tables_1) (h : L.all (fun q => decide (T[q.1]? = some q.2)) = true) (k : Nat) {i : Nat} {w : Cond} (e : L[k]? = some (i, w)) (g : goodWord w = true) : w ∈ gtb := gtb_in (tk hT h k e) g
theorem dk {c : ByteArray} {l : List (Nat × Instr × Nat)} (h : l.all (fun q => decide (decode c q.1 = .ok (q.2.1, q.2.2))) = true) (i : Nat) {pc n : Nat} {ins : Instr} (e : l[i]? = some (pc, ins, n)) : decode c pc = .ok (ins, n) := by
  have h1 := List.all_eq_true.mp h _ (List.mem_of_getElem? e)
  exact of_decide_eq_true h1
theorem sk {L : List (Nat × (MethodName × Nat))} (h : L.all (fun q => decide (lw_privs[q.1]? = some q.2) && goodWord (Cond.selects q.2.1.cls q.2.1 q.2.1)) = true) (k : Nat) {i : Nat} {w : MethodName × Nat} (e : L[k]? = some (i, w)) : Cond.selects w.1.cls w.1 w.1 ∈ gtb := by
  have h1 := List.all_eq_true.mp h _ (List.mem_of_getElem? e)
  rw [Bool.and_eq_true] at h1
  exact gtb_sel (List.mem_of_getElem? (of_decide_eq_true h1.1)) h1.2
def pickL {α : Type} : List Nat → List α → List α
  | [], _ => []
  | n :: ns, T => match T.drop n with
    | [] => []
    | x :: t => x :: pickL ns t
theorem pickL_in {α : Type} : ∀ (ns : List Nat) (T : List α) (w : α), w ∈ pickL ns T → w ∈ T
  | [], _, _, h => by simp [pickL] at h
  | n :: ns, T, w, h => by
    rw [pickL] at h
    cases hd : T.drop n with
    | nil => rw [hd] at h; simp at h
    | cons x t =>
      rw [hd] at h
      have hx : ∀ y, y ∈ x :: t → y ∈ T := fun y hy => List.mem_of_mem_drop (i := n) (by rw [hd]; exact hy)
      rcases List.mem_cons.mp h with rfl | h
      · exact hx _ List.mem_cons_self
      · exact hx _ (List.mem_cons_of_mem _ (pickL_in ns t w h))
theorem tk2 {T L : List Cond} {ns : List Nat} (hT : ∀ w ∈ T, w ∈ tables_1) (h : pickL ns T = L) (k : Nat) {w : Cond} (e : L[k]? = some w) : w ∈ tables_1 := hT _ (pickL_in ns T w (by rw [h]; exact List.mem_of_getElem? e))
theorem gk2 {T L : List Cond} {ns : List Nat} (hT : ∀ w ∈ T, w ∈ tables_1) (h : pickL ns T = L) (k : Nat) {w : Cond} (e : L[k]? = some w) (g : goodWord w = true) : w ∈ gtb := gtb_in (tk2 hT h k e) g
def nJ6_0_3_0l : List Cond := [(Jvm.Cond.static ({ cls := "java/lang/Integer", name := "numberOfLeadingZeros", desc := "(I)I" } : Jvm.MethodName)), (Jvm.Cond.code ({ cls := "java/lang/Integer", name := "numberOfLeadingZeros", desc := "(I)I" } : Jvm.MethodName) prog_20_method_47_code (2 : Nat) (Option.some Jvm.ClassFile.FieldType.int)), (Jvm.Cond.constant "java/lang/Integer" (264 : Nat) (65536 : Int32)), (Jvm.Cond.static ({ cls := "java/lang/Integer", name := "numberOfTrailingZeros", desc := "(I)I" } : Jvm.MethodName)), (Jvm.Cond.code ({ cls := "java/lang/Integer", name := "numberOfTrailingZeros", desc := "(I)I" } : Jvm.MethodName) prog_20_method_48_code (2 : Nat) (Option.some Jvm.ClassFile.FieldType.int))]
set_option maxRecDepth 100000 in
theorem nJ6_0_3_0 : pickL [4, 0, 0, 103, 0] tables_1_3 = nJ6_0_3_0l := by rfl
def mJ6_numberOfLeadingZeros_0f7a4 : MI := (yJ6_numberOfLeadingZeros_0f7a4, cJ6_numberOfLeadingZeros_0f7a4, 2, (some .int))
theorem qc_J6_numberOfLeadingZeros_0f7a4 : Cond.code mJ6_numberOfLeadingZeros_0f7a4.1 mJ6_numberOfLeadingZeros_0f7a4.2.1 mJ6_numberOfLeadingZeros_0f7a4.2.2.1 mJ6_numberOfLeadingZeros_0f7a4.2.2.2 ∈ gtb := (gk2 tin_3 nJ6_0_3_0 1 rfl (by decide +kernel))
theorem qt_J6_numberOfLeadingZeros_0f7a4 : Cond.static mJ6_numberOfLeadingZeros_0f7a4.1 ∈ gtb := (gk2 tin_3 nJ6_0_3_0 0 rfl (by decide +kernel))
theorem qd_J6_numberOfLeadingZeros_0f7a4 : dsc mJ6_numberOfLeadingZeros_0f7a4.1 1 := ⟨by decide +kernel, by decide +kernel, by decide +kernel⟩
def mJ6_numberOfTrailingZeros_0f7a4 : MI := (yJ6_numberOfTrailingZeros_0f7a4, cJ6_numberOfTrailingZeros_0f7a4, 2, (some .int))
theorem qc_J6_numberOfTrailingZeros_0f7a4 : Cond.code mJ6_numberOfTrailingZeros_0f7a4.1 mJ6_numberOfTrailingZeros_0f7a4.2.1 mJ6_numberOfTrailingZeros_0f7a4.2.2.1 mJ6_numberOfTrailingZeros_0f7a4.2.2.2 ∈ gtb := (gk2 tin_3 nJ6_0_3_0 4 rfl (by decide +kernel))
theorem qt_J6_numberOfTrailingZeros_0f7a4 : Cond.static mJ6_numberOfTrailingZeros_0f7a4.1 ∈ gtb := (gk2 tin_3 nJ6_0_3_0 3 rfl (by decide +kernel))
theorem qd_J6_numberOfTrailingZeros_0f7a4 : dsc mJ6_numberOfTrailingZeros_0f7a4.1 1 := ⟨by decide +kernel, by decide +kernel, by decide +kernel⟩
theorem kl_J6_264 : Cond.constant RJ6 264 (65536) ∈ gtb := (gk2 tin_3 nJ6_0_3_0 2 rfl (by decide +kernel))
def tl_J6_numberOfLeadingZeros_0f7a4 : List (Nat × Instr × Nat) := [(0, .iload_n 0, 1), (1, .ifCond .gt 14, 3), (4, .iload_n 0, 1), (5, .ifCond .ne 8, 3), (8, .bipush 32, 2), (10, .goto 4, 3), (13, .iconst 0, 1), (14, .ireturn, 1), (15, .bipush 31, 2), (17, .istore_n 1, 1), (18, .iload_n 0, 1), (19, .ldc_w 264, 3), (22, .if_icmp .lt 11, 3), (25, .iinc 1 (-16), 3), (28, .iload_n 0, 1), (29, .bipush 16, 2), (31, .iushr, 1), (32, .istore_n 0, 1), (33, .iload_n 0, 1), (34, .sipush 256, 3), (37, .if_icmp .lt 11, 3), (40, .iinc 1 (-8), 3), (43, .iload_n 0, 1), (44, .bipush 8, 2), (46, .iushr, 1), (47, .istore_n 0, 1), (48, .iload_n 0, 1), (49, .bipush 16, 2), (51, .if_icmp .lt 10, 3), (54, .iinc 1 (-4), 3), (57, .iload_n 0, 1), (58, .iconst 4, 1), (59, .iushr, 1), (60, .istore_n 0, 1), (61, .iload_n 0, 1), (62, .iconst 4, 1), (63, .if_icmp .lt 10, 3), (66, .iinc 1 (-2), 3), (69, .iload_n 0, 1), (70, .iconst 2, 1), (71, .iushr, 1), (72, .istore_n 0, 1), (73, .iload_n 1, 1), (74, .iload_n 0, 1), (75, .iconst 1, 1), (76, .iushr, 1), (77, .isub, 1), (78, .ireturn, 1)]
set_option maxRecDepth 100000 in
theorem dt_J6_numberOfLeadingZeros_0f7a4 : tl_J6_numberOfLeadingZeros_0f7a4.all (fun q => decide (decode cJ6_numberOfLeadingZeros_0f7a4 q.1 = .ok (q.2.1, q.2.2))) = true := by decide +kernel
def tl_J6_numberOfTrailingZeros_0f7a4 : List (Nat × Instr × Nat) := [(0, .iload_n 0, 1), (1, .iconst (-1), 1), (2, .ixor, 1), (3, .iload_n 0, 1), (4, .iconst 1, 1), (5, .isub, 1), (6, .iand, 1), (7, .istore_n 0, 1), (8, .iload_n 0, 1), (9, .ifCond .gt 8, 3), (12, .iload_n 0, 1), (13, .bipush 32, 2), (15, .iand, 1), (16, .ireturn, 1), (17, .iconst 1, 1), (18, .istore_n 1, 1), (19, .iload_n 0, 1), (20, .ldc_w 264, 3), (23, .if_icmp .le 11, 3), (26, .iinc 1 16, 3), (29, .iload_n 0, 1), (30, .bipush 16, 2), (32, .iushr, 1), (33, .istore_n 0, 1), (34, .iload_n 0, 1), (35, .sipush 256, 3), (38, .if_icmp .le 11, 3), (41, .iinc 1 8, 3), (44, .iload_n 0, 1), (45, .bipush 8, 2), (47, .iushr, 1), (48, .istore_n 0, 1), (49, .iload_n 0, 1), (50, .bipush 16, 2), (52, .if_icmp .le 10, 3), (55, .iinc 1 4, 3), (58, .iload_n 0, 1), (59, .iconst 4, 1), (60, .iushr, 1), (61, .istore_n 0, 1), (62, .iload_n 0, 1), (63, .iconst 4, 1), (64, .if_icmp .le 10, 3), (67, .iinc 1 2, 3), (70, .iload_n 0, 1), (71, .iconst 2, 1), (72, .iushr, 1), (73, .istore_n 0, 1), (74, .iload_n 1, 1), (75, .iload_n 0, 1), (76, .iconst 1, 1), (77, .iushr, 1), (78, .iadd, 1), (79, .ireturn, 1)]
set_option maxRecDepth 100000 in
theorem dt_J6_numberOfTrailingZeros_0f7a4 : tl_J6_numberOfTrailingZeros_0f7a4.all (fun q => decide (decode cJ6_numberOfTrailingZeros_0f7a4 q.1 = .ok (q.2.1, q.2.2))) = true := by decide +kernel
