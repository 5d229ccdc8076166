def mX12_alike : MI := (yX12_alike, cX12_alike, 6, (some .boolean))
theorem qc_X12_alike : Cond.code mX12_alike.1 mX12_alike.2.1 mX12_alike.2.2.1 mX12_alike.2.2.2 ∈ gtb := (gtb_in (List.mem_of_getElem? (i := 2629) (by decide +kernel)) (by decide +kernel))
theorem qi_X12_alike : Cond.instanceMethod mX12_alike.1 ∈ gtb := (gtb_in (List.mem_of_getElem? (i := 2628) (by decide +kernel)) (by decide +kernel))
theorem qs_X12_alike : Cond.selects mX12_alike.1.cls mX12_alike.1 mX12_alike.1 ∈ gtb := (gtb_sel (q := (⟨"SheetBranchesModel", "alike", "(II)Z"⟩, 105)) (List.mem_of_getElem? (i := 217) (by decide +kernel)) (by decide +kernel))
theorem qd_X12_alike : dsc mX12_alike.1 2 := ⟨by decide +kernel, by decide +kernel, by decide +kernel⟩
def mX12_isLike_ : MI := (yX12_isLike_, cX12_isLike_, 6, (some .boolean))
theorem qc_X12_isLike_ : Cond.code mX12_isLike_.1 mX12_isLike_.2.1 mX12_isLike_.2.2.1 mX12_isLike_.2.2.2 ∈ gtb := (gtb_in (List.mem_of_getElem? (i := 2625) (by decide +kernel)) (by decide +kernel))
theorem qi_X12_isLike_ : Cond.instanceMethod mX12_isLike_.1 ∈ gtb := (gtb_in (List.mem_of_getElem? (i := 2624) (by decide +kernel)) (by decide +kernel))
theorem qs_X12_isLike_ : Cond.selects mX12_isLike_.1.cls mX12_isLike_.1 mX12_isLike_.1 ∈ gtb := (gtb_sel (q := (⟨"SheetBranchesModel", "isLike", "(III)Z"⟩, 105)) (List.mem_of_getElem? (i := 216) (by decide +kernel)) (by decide +kernel))
theorem qd_X12_isLike_ : dsc mX12_isLike_.1 3 := ⟨by decide +kernel, by decide +kernel, by decide +kernel⟩
def mX12_isLikeHead : MI := (yX12_isLikeHead, cX12_isLikeHead, 4, (some .boolean))
theorem qc_X12_isLikeHead : Cond.code mX12_isLikeHead.1 mX12_isLikeHead.2.1 mX12_isLikeHead.2.2.1 mX12_isLikeHead.2.2.2 ∈ gtb := (gtb_in (List.mem_of_getElem? (i := 2621) (by decide +kernel)) (by decide +kernel))
theorem qi_X12_isLikeHead : Cond.instanceMethod mX12_isLikeHead.1 ∈ gtb := (gtb_in (List.mem_of_getElem? (i := 2620) (by decide +kernel)) (by decide +kernel))
theorem qs_X12_isLikeHead : Cond.selects mX12_isLikeHead.1.cls mX12_isLikeHead.1 mX12_isLikeHead.1 ∈ gtb := (gtb_sel (q := (⟨"SheetBranchesModel", "isLikeHead", "()Z"⟩, 105)) (List.mem_of_getElem? (i := 215) (by decide +kernel)) (by decide +kernel))
theorem qd_X12_isLikeHead : dsc mX12_isLikeHead.1 0 := ⟨by decide +kernel, by decide +kernel, by decide +kernel⟩
def mX12_go : MI := (yX12_go, cX12_go, 2, (some .int))
theorem qc_X12_go : Cond.code mX12_go.1 mX12_go.2.1 mX12_go.2.2.1 mX12_go.2.2.2 ∈ gtb := (gtb_in (List.mem_of_getElem? (i := 2617) (by decide +kernel)) (by decide +kernel))
theorem qi_X12_go : Cond.instanceMethod mX12_go.1 ∈ gtb := (gtb_in (List.mem_of_getElem? (i := 2615) (by decide +kernel)) (by decide +kernel))
theorem qs_X12_go : Cond.selects mX12_go.1.cls mX12_go.1 mX12_go.1 ∈ gtb := (gtb_in (List.mem_of_getElem? (i := 2616) (by decide +kernel)) (by decide +kernel))
theorem qd_X12_go : dsc mX12_go.1 1 := ⟨by decide +kernel, by decide +kernel, by decide +kernel⟩
def mX12_merge : MI := (yX12_merge, cX12_merge, 5, (some .int))
theorem qc_X12_merge : Cond.code mX12_merge.1 mX12_merge.2.1 mX12_merge.2.2.1 mX12_merge.2.2.2 ∈ gtb := (gtb_in (List.mem_of_getElem? (i := 2661) (by decide +kernel)) (by decide +kernel))
theorem qi_X12_merge : Cond.instanceMethod mX12_merge.1 ∈ gtb := (gtb_in (List.mem_of_getElem? (i := 2659) (by decide +kernel)) (by decide +kernel))
theorem qs_X12_merge : Cond.selects mX12_merge.1.cls mX12_merge.1 mX12_merge.1 ∈ gtb := (gtb_in (List.mem_of_getElem? (i := 2660) (by decide +kernel)) (by decide +kernel))
theorem qd_X12_merge : dsc mX12_merge.1 1 := ⟨by decide +kernel, by decide +kernel, by decide +kernel⟩
def mX12_base : MI := (yX12_base, cX12_base, 4, (some .int))
theorem qc_X12_base : Cond.code mX12_base.1 mX12_base.2.1 mX12_base.2.2.1 mX12_base.2.2.2 ∈ gtb := (gtb_in (List.mem_of_getElem? (i := 2653) (by decide +kernel)) (by decide +kernel))
theorem qi_X12_base : Cond.instanceMethod mX12_base.1 ∈ gtb := (gtb_in (List.mem_of_getElem? (i := 2651) (by decide +kernel)) (by decide +kernel))
theorem qs_X12_base : Cond.selects mX12_base.1.cls mX12_base.1 mX12_base.1 ∈ gtb := (gtb_in (List.mem_of_getElem? (i := 2652) (by decide +kernel)) (by decide +kernel))
theorem qd_X12_base : dsc mX12_base.1 2 := ⟨by decide +kernel, by decide +kernel, by decide +kernel⟩
def mX12_ancestors : MI := (yX12_ancestors, cX12_ancestors, 4, none)
theorem qc_X12_ancestors : Cond.code mX12_ancestors.1 mX12_ancestors.2.1 mX12_ancestors.2.2.1 mX12_ancestors.2.2.2 ∈ gtb := (gtb_in (List.mem_of_getElem? (i := 2657) (by decide +kernel)) (by decide +kernel))
theorem qi_X12_ancestors : Cond.instanceMethod mX12_ancestors.1 ∈ gtb := (gtb_in (List.mem_of_getElem? (i := 2656) (by decide +kernel)) (by decide +kernel))
theorem qs_X12_ancestors : Cond.selects mX12_ancestors.1.cls mX12_ancestors.1 mX12_ancestors.1 ∈ gtb := (gtb_sel (q := (⟨"SheetBranchesModel", "ancestors", "(I[Z)V"⟩, 105)) (List.mem_of_getElem? (i := 222) (by decide +kernel)) (by decide +kernel))
theorem qd_X12_ancestors : dsc mX12_ancestors.1 2 := ⟨by decide +kernel, by decide +kernel, by decide +kernel⟩
def mX12_blame : MI := (yX12_blame, cX12_blame, 8, (some .int))
theorem qc_X12_blame : Cond.code mX12_blame.1 mX12_blame.2.1 mX12_blame.2.2.1 mX12_blame.2.2.2 ∈ gtb := (gtb_in (List.mem_of_getElem? (i := 2747) (by decide +kernel)) (by decide +kernel))
theorem qi_X12_blame : Cond.instanceMethod mX12_blame.1 ∈ gtb := (gtb_in (List.mem_of_getElem? (i := 2745) (by decide +kernel)) (by decide +kernel))
theorem qs_X12_blame : Cond.selects mX12_blame.1.cls mX12_blame.1 mX12_blame.1 ∈ gtb := (gtb_in (List.mem_of_getElem? (i := 2746) (by decide +kernel)) (by decide +kernel))
theorem qd_X12_blame : dsc mX12_blame.1 2 := ⟨by decide +kernel, by decide +kernel, by decide +kernel⟩
def mX12_hasLike : MI := (yX12_hasLike, cX12_hasLike, 6, (some .boolean))
theorem qc_X12_hasLike : Cond.code mX12_hasLike.1 mX12_hasLike.2.1 mX12_hasLike.2.2.1 mX12_hasLike.2.2.2 ∈ gtb := (gtb_in (List.mem_of_getElem? (i := 2751) (by decide +kernel)) (by decide +kernel))
theorem qi_X12_hasLike : Cond.instanceMethod mX12_hasLike.1 ∈ gtb := (gtb_in (List.mem_of_getElem? (i := 2750) (by decide +kernel)) (by decide +kernel))
theorem qs_X12_hasLike : Cond.selects mX12_hasLike.1.cls mX12_hasLike.1 mX12_hasLike.1 ∈ gtb := (gtb_sel (q := (⟨"SheetBranchesModel", "hasLike", "(IIII)Z"⟩, 105)) (List.mem_of_getElem? (i := 238) (by decide +kernel)) (by decide +kernel))
theorem qd_X12_hasLike : dsc mX12_hasLike.1 4 := ⟨by decide +kernel, by decide +kernel, by decide +kernel⟩
def mX12_sheet : MI := (yX12_sheet, cX12_sheet, 3, (some .int))
theorem qc_X12_sheet : Cond.code mX12_sheet.1 mX12_sheet.2.1 mX12_sheet.2.2.1 mX12_sheet.2.2.2 ∈ gtb := (gtb_in (List.mem_of_getElem? (i := 2755) (by decide +kernel)) (by decide +kernel))
theorem qi_X12_sheet : Cond.instanceMethod mX12_sheet.1 ∈ gtb := (gtb_in (List.mem_of_getElem? (i := 2753) (by decide +kernel)) (by decide +kernel))
theorem qs_X12_sheet : Cond.selects mX12_sheet.1.cls mX12_sheet.1 mX12_sheet.1 ∈ gtb := (gtb_in (List.mem_of_getElem? (i := 2754) (by decide +kernel)) (by decide +kernel))
theorem qd_X12_sheet : dsc mX12_sheet.1 2 := ⟨by decide +kernel, by decide +kernel, by decide +kernel⟩
def mX12_total : MI := (yX12_total, cX12_total, 2, (some .int))
theorem qc_X12_total : Cond.code mX12_total.1 mX12_total.2.1 mX12_total.2.2.1 mX12_total.2.2.2 ∈ gtb := (gtb_in (List.mem_of_getElem? (i := 2759) (by decide +kernel)) (by decide +kernel))
theorem qi_X12_total : Cond.instanceMethod mX12_total.1 ∈ gtb := (gtb_in (List.mem_of_getElem? (i := 2757) (by decide +kernel)) (by decide +kernel))
theorem qs_X12_total : Cond.selects mX12_total.1.cls mX12_total.1 mX12_total.1 ∈ gtb := (gtb_in (List.mem_of_getElem? (i := 2758) (by decide +kernel)) (by decide +kernel))
theorem qd_X12_total : dsc mX12_total.1 1 := ⟨by decide +kernel, by decide +kernel, by decide +kernel⟩
def mX12_commit : MI := (yX12_commit, cX12_commit, 2, (some .int))
theorem qc_X12_commit : Cond.code mX12_commit.1 mX12_commit.2.1 mX12_commit.2.2.1 mX12_commit.2.2.2 ∈ gtb := (gtb_in (List.mem_of_getElem? (i := 2601) (by decide +kernel)) (by decide +kernel))
theorem qi_X12_commit : Cond.instanceMethod mX12_commit.1 ∈ gtb := (gtb_in (List.mem_of_getElem? (i := 2599) (by decide +kernel)) (by decide +kernel))
theorem qs_X12_commit : Cond.selects mX12_commit.1.cls mX12_commit.1 mX12_commit.1 ∈ gtb := (gtb_in (List.mem_of_getElem? (i := 2600) (by decide +kernel)) (by decide +kernel))
theorem qd_X12_commit : dsc mX12_commit.1 0 := ⟨by decide +kernel, by decide +kernel, by decide +kernel⟩
def mX12_erase : MI := (yX12_erase, cX12_erase, 8, (some .int))
theorem qc_X12_erase : Cond.code mX12_erase.1 mX12_erase.2.1 mX12_erase.2.2.1 mX12_erase.2.2.2 ∈ gtb := (gtb_in (List.mem_of_getElem? (i := 2532) (by decide +kernel)) (by decide +kernel))
theorem qi_X12_erase : Cond.instanceMethod mX12_erase.1 ∈ gtb := (gtb_in (List.mem_of_getElem? (i := 2530) (by decide +kernel)) (by decide +kernel))
theorem qs_X12_erase : Cond.selects mX12_erase.1.cls mX12_erase.1 mX12_erase.1 ∈ gtb := (gtb_in (List.mem_of_getElem? (i := 2531) (by decide +kernel)) (by decide +kernel))
theorem qd_X12_erase : dsc mX12_erase.1 4 := ⟨by decide +kernel, by decide +kernel, by decide +kernel⟩
theorem dX12_alike_0 : decode cX12_alike 0 = .ok (.iload_n 1, 1) := by decide +kernel
theorem dX12_alike_1 : decode cX12_alike 1 = .ok (.iload_n 2, 1) := by decide +kernel
theorem dX12_alike_2 : decode cX12_alike 2 = .ok (.if_icmp .ne 5, 3) := by decide +kernel
theorem dX12_alike_5 : decode cX12_alike 5 = .ok (.iconst 1, 1) := by decide +kernel
theorem dX12_alike_6 : decode cX12_alike 6 = .ok (.ireturn, 1) := by decide +kernel
theorem dX12_alike_7 : decode cX12_alike 7 = .ok (.iload_n 1, 1) := by decide +kernel
theorem dX12_alike_8 : decode cX12_alike 8 = .ok (.ifCond .eq 18, 3) := by decide +kernel
theorem dX12_alike_11 : decode cX12_alike 11 = .ok (.iload_n 2, 1) := by decide +kernel
theorem dX12_alike_12 : decode cX12_alike 12 = .ok (.ifCond .eq 14, 3) := by decide +kernel
theorem dX12_alike_15 : decode cX12_alike 15 = .ok (.iload_n 1, 1) := by decide +kernel
theorem dX12_alike_16 : decode cX12_alike 16 = .ok (.invokestatic 244, 3) := by decide +kernel
theorem dX12_alike_19 : decode cX12_alike 19 = .ok (.iload_n 2, 1) := by decide +kernel
theorem dX12_alike_20 : decode cX12_alike 20 = .ok (.invokestatic 244, 3) := by decide +kernel
theorem dX12_alike_23 : decode cX12_alike 23 = .ok (.if_icmp .eq 5, 3) := by decide +kernel
theorem dX12_alike_26 : decode cX12_alike 26 = .ok (.iconst 0, 1) := by decide +kernel
theorem dX12_alike_27 : decode cX12_alike 27 = .ok (.ireturn, 1) := by decide +kernel
theorem dX12_alike_28 : decode cX12_alike 28 = .ok (.iload_n 1, 1) := by decide +kernel
theorem dX12_alike_29 : decode cX12_alike 29 = .ok (.invokestatic 244, 3) := by decide +kernel
theorem dX12_alike_32 : decode cX12_alike 32 = .ok (.ifCond .eq 72, 3) := by decide +kernel
theorem dX12_alike_35 : decode cX12_alike 35 = .ok (.aload_n 0, 1) := by decide +kernel
theorem dX12_alike_36 : decode cX12_alike 36 = .ok (.getfield 103, 3) := by decide +kernel
theorem dX12_alike_39 : decode cX12_alike 39 = .ok (.iload_n 1, 1) := by decide +kernel
theorem dX12_alike_40 : decode cX12_alike 40 = .ok (.iconst 1, 1) := by decide +kernel
theorem dX12_alike_41 : decode cX12_alike 41 = .ok (.isub, 1) := by decide +kernel
theorem dX12_alike_42 : decode cX12_alike 42 = .ok (.iaload, 1) := by decide +kernel
theorem dX12_alike_43 : decode cX12_alike 43 = .ok (.istore_n 3, 1) := by decide +kernel
theorem dX12_alike_44 : decode cX12_alike 44 = .ok (.aload_n 0, 1) := by decide +kernel
theorem dX12_alike_45 : decode cX12_alike 45 = .ok (.getfield 103, 3) := by decide +kernel
theorem dX12_alike_48 : decode cX12_alike 48 = .ok (.iload_n 2, 1) := by decide +kernel
theorem dX12_alike_49 : decode cX12_alike 49 = .ok (.iconst 1, 1) := by decide +kernel
theorem dX12_alike_50 : decode cX12_alike 50 = .ok (.isub, 1) := by decide +kernel
theorem dX12_alike_51 : decode cX12_alike 51 = .ok (.iaload, 1) := by decide +kernel
theorem dX12_alike_52 : decode cX12_alike 52 = .ok (.iload_n 3, 1) := by decide +kernel
theorem dX12_alike_53 : decode cX12_alike 53 = .ok (.if_icmp .ne 7, 3) := by decide +kernel
theorem dX12_alike_56 : decode cX12_alike 56 = .ok (.iconst 1, 1) := by decide +kernel
theorem dX12_alike_57 : decode cX12_alike 57 = .ok (.goto 4, 3) := by decide +kernel
theorem dX12_alike_60 : decode cX12_alike 60 = .ok (.iconst 0, 1) := by decide +kernel
theorem dX12_alike_61 : decode cX12_alike 61 = .ok (.istore 4, 2) := by decide +kernel
theorem dX12_alike_63 : decode cX12_alike 63 = .ok (.iconst 0, 1) := by decide +kernel
theorem dX12_alike_64 : decode cX12_alike 64 = .ok (.istore 5, 2) := by decide +kernel
theorem dX12_alike_66 : decode cX12_alike 66 = .ok (.iload 5, 2) := by decide +kernel
theorem dX12_alike_68 : decode cX12_alike 68 = .ok (.iload_n 3, 1) := by decide +kernel
theorem dX12_alike_69 : decode cX12_alike 69 = .ok (.if_icmp .ge 32, 3) := by decide +kernel
theorem dX12_alike_72 : decode cX12_alike 72 = .ok (.iload 4, 2) := by decide +kernel
theorem dX12_alike_74 : decode cX12_alike 74 = .ok (.ifCond .eq 27, 3) := by decide +kernel
theorem dX12_alike_77 : decode cX12_alike 77 = .ok (.aload_n 0, 1) := by decide +kernel
theorem dX12_alike_78 : decode cX12_alike 78 = .ok (.iload_n 1, 1) := by decide +kernel
theorem dX12_alike_79 : decode cX12_alike 79 = .ok (.iconst 1, 1) := by decide +kernel
theorem dX12_alike_80 : decode cX12_alike 80 = .ok (.isub, 1) := by decide +kernel
theorem dX12_alike_81 : decode cX12_alike 81 = .ok (.iload 5, 2) := by decide +kernel
theorem dX12_alike_83 : decode cX12_alike 83 = .ok (.iadd, 1) := by decide +kernel
theorem dX12_alike_84 : decode cX12_alike 84 = .ok (.iload_n 2, 1) := by decide +kernel
theorem dX12_alike_85 : decode cX12_alike 85 = .ok (.iconst 1, 1) := by decide +kernel
theorem dX12_alike_86 : decode cX12_alike 86 = .ok (.isub, 1) := by decide +kernel
theorem dX12_alike_87 : decode cX12_alike 87 = .ok (.iload 5, 2) := by decide +kernel
theorem dX12_alike_89 : decode cX12_alike 89 = .ok (.iadd, 1) := by decide +kernel
theorem dX12_alike_90 : decode cX12_alike 90 = .ok (.invokevirtual 248, 3) := by decide +kernel
theorem dX12_alike_93 : decode cX12_alike 93 = .ok (.istore 4, 2) := by decide +kernel
theorem dX12_alike_95 : decode cX12_alike 95 = .ok (.iinc 5 1, 3) := by decide +kernel
theorem dX12_alike_98 : decode cX12_alike 98 = .ok (.goto (-32), 3) := by decide +kernel
theorem dX12_alike_101 : decode cX12_alike 101 = .ok (.iload 4, 2) := by decide +kernel
theorem dX12_alike_103 : decode cX12_alike 103 = .ok (.ireturn, 1) := by decide +kernel
theorem dX12_alike_104 : decode cX12_alike 104 = .ok (.iload_n 1, 1) := by decide +kernel
theorem dX12_alike_105 : decode cX12_alike 105 = .ok (.ldc 240, 2) := by decide +kernel
theorem dX12_alike_107 : decode cX12_alike 107 = .ok (.isub, 1) := by decide +kernel
theorem dX12_alike_108 : decode cX12_alike 108 = .ok (.istore_n 3, 1) := by decide +kernel
theorem dX12_alike_109 : decode cX12_alike 109 = .ok (.iload_n 2, 1) := by decide +kernel
theorem dX12_alike_110 : decode cX12_alike 110 = .ok (.ldc 240, 2) := by decide +kernel
theorem dX12_alike_112 : decode cX12_alike 112 = .ok (.isub, 1) := by decide +kernel
theorem dX12_alike_113 : decode cX12_alike 113 = .ok (.istore 4, 2) := by decide +kernel
theorem dX12_alike_115 : decode cX12_alike 115 = .ok (.aload_n 0, 1) := by decide +kernel
theorem dX12_alike_116 : decode cX12_alike 116 = .ok (.getfield 53, 3) := by decide +kernel
theorem dX12_alike_119 : decode cX12_alike 119 = .ok (.iload_n 3, 1) := by decide +kernel
theorem dX12_alike_120 : decode cX12_alike 120 = .ok (.iaload, 1) := by decide +kernel
theorem dX12_alike_121 : decode cX12_alike 121 = .ok (.aload_n 0, 1) := by decide +kernel
theorem dX12_alike_122 : decode cX12_alike 122 = .ok (.getfield 53, 3) := by decide +kernel
theorem dX12_alike_125 : decode cX12_alike 125 = .ok (.iload 4, 2) := by decide +kernel
theorem dX12_alike_127 : decode cX12_alike 127 = .ok (.iaload, 1) := by decide +kernel
theorem dX12_alike_128 : decode cX12_alike 128 = .ok (.if_icmp .ne 36, 3) := by decide +kernel
theorem dX12_alike_131 : decode cX12_alike 131 = .ok (.aload_n 0, 1) := by decide +kernel
theorem dX12_alike_132 : decode cX12_alike 132 = .ok (.getfield 56, 3) := by decide +kernel
theorem dX12_alike_135 : decode cX12_alike 135 = .ok (.iload_n 3, 1) := by decide +kernel
theorem dX12_alike_136 : decode cX12_alike 136 = .ok (.laload, 1) := by decide +kernel
theorem dX12_alike_137 : decode cX12_alike 137 = .ok (.aload_n 0, 1) := by decide +kernel
theorem dX12_alike_138 : decode cX12_alike 138 = .ok (.getfield 56, 3) := by decide +kernel
theorem dX12_alike_141 : decode cX12_alike 141 = .ok (.iload 4, 2) := by decide +kernel
theorem dX12_alike_143 : decode cX12_alike 143 = .ok (.laload, 1) := by decide +kernel
theorem dX12_alike_144 : decode cX12_alike 144 = .ok (.lcmp, 1) := by decide +kernel
theorem dX12_alike_145 : decode cX12_alike 145 = .ok (.ifCond .ne 19, 3) := by decide +kernel
theorem dX12_alike_148 : decode cX12_alike 148 = .ok (.aload_n 0, 1) := by decide +kernel
theorem dX12_alike_149 : decode cX12_alike 149 = .ok (.getfield 63, 3) := by decide +kernel
theorem dX12_alike_152 : decode cX12_alike 152 = .ok (.iload_n 3, 1) := by decide +kernel
theorem dX12_alike_153 : decode cX12_alike 153 = .ok (.iaload, 1) := by decide +kernel
theorem dX12_alike_154 : decode cX12_alike 154 = .ok (.aload_n 0, 1) := by decide +kernel
theorem dX12_alike_155 : decode cX12_alike 155 = .ok (.getfield 63, 3) := by decide +kernel
theorem dX12_alike_158 : decode cX12_alike 158 = .ok (.iload 4, 2) := by decide +kernel
theorem dX12_alike_160 : decode cX12_alike 160 = .ok (.iaload, 1) := by decide +kernel
theorem dX12_alike_161 : decode cX12_alike 161 = .ok (.if_icmp .eq 5, 3) := by decide +kernel
theorem dX12_alike_164 : decode cX12_alike 164 = .ok (.iconst 0, 1) := by decide +kernel
theorem dX12_alike_165 : decode cX12_alike 165 = .ok (.ireturn, 1) := by decide +kernel
theorem dX12_alike_166 : decode cX12_alike 166 = .ok (.aload_n 0, 1) := by decide +kernel
theorem dX12_alike_167 : decode cX12_alike 167 = .ok (.aload_n 0, 1) := by decide +kernel
theorem dX12_alike_168 : decode cX12_alike 168 = .ok (.getfield 60, 3) := by decide +kernel
theorem dX12_alike_171 : decode cX12_alike 171 = .ok (.iload_n 3, 1) := by decide +kernel
theorem dX12_alike_172 : decode cX12_alike 172 = .ok (.iaload, 1) := by decide +kernel
theorem dX12_alike_173 : decode cX12_alike 173 = .ok (.aload_n 0, 1) := by decide +kernel
theorem dX12_alike_174 : decode cX12_alike 174 = .ok (.getfield 60, 3) := by decide +kernel
theorem dX12_alike_177 : decode cX12_alike 177 = .ok (.iload 4, 2) := by decide +kernel
theorem dX12_alike_179 : decode cX12_alike 179 = .ok (.iaload, 1) := by decide +kernel
theorem dX12_alike_180 : decode cX12_alike 180 = .ok (.aload_n 0, 1) := by decide +kernel
theorem dX12_alike_181 : decode cX12_alike 181 = .ok (.getfield 63, 3) := by decide +kernel
theorem dX12_alike_184 : decode cX12_alike 184 = .ok (.iload_n 3, 1) := by decide +kernel
theorem dX12_alike_185 : decode cX12_alike 185 = .ok (.iaload, 1) := by decide +kernel
theorem dX12_alike_186 : decode cX12_alike 186 = .ok (.invokevirtual 241, 3) := by decide +kernel
theorem dX12_alike_189 : decode cX12_alike 189 = .ok (.ireturn, 1) := by decide +kernel
set_option maxRecDepth 20000 in
theorem sl_X12_244 : SL RX12 244 mX12_isFormula 1 := ⟨⟨qc_X12_isFormula, (gtb_in (List.mem_of_getElem? (i := 2236) (by decide +kernel)) (by decide +kernel)), qt_X12_isFormula, zw_12⟩, qd_X12_isFormula, by decide⟩
set_option maxRecDepth 20000 in
theorem fl_X12_103 : FL RX12 103 12 38 true := ⟨RX12, TX12, cl_12, by decide, (gtb_in (List.mem_of_getElem? (i := 1683) (by decide +kernel)) (by decide +kernel)), rfl⟩
def mX12_sameParts : MI := (yX12_sameParts, cX12_sameParts, 4, (some .boolean))
theorem qc_X12_sameParts : Cond.code mX12_sameParts.1 mX12_sameParts.2.1 mX12_sameParts.2.2.1 mX12_sameParts.2.2.2 ∈ gtb := (gtb_in (List.mem_of_getElem? (i := 2633) (by decide +kernel)) (by decide +kernel))
theorem qi_X12_sameParts : Cond.instanceMethod mX12_sameParts.1 ∈ gtb := (gtb_in (List.mem_of_getElem? (i := 2632) (by decide +kernel)) (by decide +kernel))
theorem qs_X12_sameParts : Cond.selects mX12_sameParts.1.cls mX12_sameParts.1 mX12_sameParts.1 ∈ gtb := (gtb_sel (q := (⟨"SheetBranchesModel", "sameParts", "(II)Z"⟩, 105)) (List.mem_of_getElem? (i := 218) (by decide +kernel)) (by decide +kernel))
theorem qd_X12_sameParts : dsc mX12_sameParts.1 2 := ⟨by decide +kernel, by decide +kernel, by decide +kernel⟩
set_option maxRecDepth 20000 in
theorem vl_X12_248 : VL RX12 248 12 mX12_sameParts 2 := ⟨⟨qc_X12_sameParts, (gtb_in (List.mem_of_getElem? (i := 2630) (by decide +kernel)) (by decide +kernel)), qi_X12_sameParts, qs_X12_sameParts, zw_12⟩, ⟨_, _, rfl⟩, by decide, qd_X12_sameParts, by decide⟩
set_option maxRecDepth 20000 in
theorem fl_X12_53 : FL RX12 53 12 20 true := ⟨RX12, TX12, cl_12, by decide, (gtb_in (List.mem_of_getElem? (i := 1665) (by decide +kernel)) (by decide +kernel)), rfl⟩
set_option maxRecDepth 20000 in
theorem fl_X12_56 : FL RX12 56 12 21 true := ⟨RX12, TX12, cl_12, by decide, (gtb_in (List.mem_of_getElem? (i := 1666) (by decide +kernel)) (by decide +kernel)), rfl⟩
set_option maxRecDepth 20000 in
theorem fl_X12_63 : FL RX12 63 12 23 true := ⟨RX12, TX12, cl_12, by decide, (gtb_in (List.mem_of_getElem? (i := 1668) (by decide +kernel)) (by decide +kernel)), rfl⟩
set_option maxRecDepth 20000 in
theorem fl_X12_60 : FL RX12 60 12 22 true := ⟨RX12, TX12, cl_12, by decide, (gtb_in (List.mem_of_getElem? (i := 1667) (by decide +kernel)) (by decide +kernel)), rfl⟩
def mX12_sameLetters : MI := (yX12_sameLetters, cX12_sameLetters, 5, (some .boolean))
theorem qc_X12_sameLetters : Cond.code mX12_sameLetters.1 mX12_sameLetters.2.1 mX12_sameLetters.2.2.1 mX12_sameLetters.2.2.2 ∈ gtb := (gtb_in (List.mem_of_getElem? (i := 2637) (by decide +kernel)) (by decide +kernel))
theorem qi_X12_sameLetters : Cond.instanceMethod mX12_sameLetters.1 ∈ gtb := (gtb_in (List.mem_of_getElem? (i := 2636) (by decide +kernel)) (by decide +kernel))
theorem qs_X12_sameLetters : Cond.selects mX12_sameLetters.1.cls mX12_sameLetters.1 mX12_sameLetters.1 ∈ gtb := (gtb_sel (q := (⟨"SheetBranchesModel", "sameLetters", "(III)Z"⟩, 105)) (List.mem_of_getElem? (i := 219) (by decide +kernel)) (by decide +kernel))
theorem qd_X12_sameLetters : dsc mX12_sameLetters.1 3 := ⟨by decide +kernel, by decide +kernel, by decide +kernel⟩
set_option maxRecDepth 20000 in
theorem vl_X12_241 : VL RX12 241 12 mX12_sameLetters 3 := ⟨⟨qc_X12_sameLetters, (gtb_in (List.mem_of_getElem? (i := 2634) (by decide +kernel)) (by decide +kernel)), qi_X12_sameLetters, qs_X12_sameLetters, zw_12⟩, ⟨_, _, rfl⟩, by decide, qd_X12_sameLetters, by decide⟩
theorem dX12_isLike__0 : decode cX12_isLike_ 0 = .ok (.aload_n 0, 1) := by decide +kernel
theorem dX12_isLike__1 : decode cX12_isLike_ 1 = .ok (.iload_n 1, 1) := by decide +kernel
theorem dX12_isLike__2 : decode cX12_isLike_ 2 = .ok (.iload_n 3, 1) := by decide +kernel
theorem dX12_isLike__3 : decode cX12_isLike_ 3 = .ok (.invokevirtual 209, 3) := by decide +kernel
theorem dX12_isLike__6 : decode cX12_isLike_ 6 = .ok (.aload_n 0, 1) := by decide +kernel
theorem dX12_isLike__7 : decode cX12_isLike_ 7 = .ok (.iload_n 2, 1) := by decide +kernel
theorem dX12_isLike__8 : decode cX12_isLike_ 8 = .ok (.iload_n 3, 1) := by decide +kernel
theorem dX12_isLike__9 : decode cX12_isLike_ 9 = .ok (.invokevirtual 209, 3) := by decide +kernel
theorem dX12_isLike__12 : decode cX12_isLike_ 12 = .ok (.if_icmp .ne 7, 3) := by decide +kernel
theorem dX12_isLike__15 : decode cX12_isLike_ 15 = .ok (.iconst 1, 1) := by decide +kernel
theorem dX12_isLike__16 : decode cX12_isLike_ 16 = .ok (.goto 4, 3) := by decide +kernel
theorem dX12_isLike__19 : decode cX12_isLike_ 19 = .ok (.iconst 0, 1) := by decide +kernel
theorem dX12_isLike__20 : decode cX12_isLike_ 20 = .ok (.istore 4, 2) := by decide +kernel
theorem dX12_isLike__22 : decode cX12_isLike_ 22 = .ok (.iconst 0, 1) := by decide +kernel
theorem dX12_isLike__23 : decode cX12_isLike_ 23 = .ok (.istore 5, 2) := by decide +kernel
theorem dX12_isLike__25 : decode cX12_isLike_ 25 = .ok (.iload 5, 2) := by decide +kernel
theorem dX12_isLike__27 : decode cX12_isLike_ 27 = .ok (.aload_n 0, 1) := by decide +kernel
theorem dX12_isLike__28 : decode cX12_isLike_ 28 = .ok (.iload_n 1, 1) := by decide +kernel
theorem dX12_isLike__29 : decode cX12_isLike_ 29 = .ok (.iload_n 3, 1) := by decide +kernel
theorem dX12_isLike__30 : decode cX12_isLike_ 30 = .ok (.invokevirtual 209, 3) := by decide +kernel
theorem dX12_isLike__33 : decode cX12_isLike_ 33 = .ok (.if_icmp .ge 40, 3) := by decide +kernel
theorem dX12_isLike__36 : decode cX12_isLike_ 36 = .ok (.iload 4, 2) := by decide +kernel
theorem dX12_isLike__38 : decode cX12_isLike_ 38 = .ok (.ifCond .eq 35, 3) := by decide +kernel
theorem dX12_isLike__41 : decode cX12_isLike_ 41 = .ok (.aload_n 0, 1) := by decide +kernel
theorem dX12_isLike__42 : decode cX12_isLike_ 42 = .ok (.iload_n 1, 1) := by decide +kernel
theorem dX12_isLike__43 : decode cX12_isLike_ 43 = .ok (.iload_n 3, 1) := by decide +kernel
theorem dX12_isLike__44 : decode cX12_isLike_ 44 = .ok (.iload 5, 2) := by decide +kernel
theorem dX12_isLike__46 : decode cX12_isLike_ 46 = .ok (.invokevirtual 213, 3) := by decide +kernel
theorem dX12_isLike__49 : decode cX12_isLike_ 49 = .ok (.aload_n 0, 1) := by decide +kernel
theorem dX12_isLike__50 : decode cX12_isLike_ 50 = .ok (.iload_n 2, 1) := by decide +kernel
theorem dX12_isLike__51 : decode cX12_isLike_ 51 = .ok (.iload_n 3, 1) := by decide +kernel
theorem dX12_isLike__52 : decode cX12_isLike_ 52 = .ok (.iload 5, 2) := by decide +kernel
theorem dX12_isLike__54 : decode cX12_isLike_ 54 = .ok (.invokevirtual 213, 3) := by decide +kernel
theorem dX12_isLike__57 : decode cX12_isLike_ 57 = .ok (.if_icmp .ne 7, 3) := by decide +kernel
theorem dX12_isLike__60 : decode cX12_isLike_ 60 = .ok (.iconst 1, 1) := by decide +kernel
theorem dX12_isLike__61 : decode cX12_isLike_ 61 = .ok (.goto 4, 3) := by decide +kernel
theorem dX12_isLike__64 : decode cX12_isLike_ 64 = .ok (.iconst 0, 1) := by decide +kernel
theorem dX12_isLike__65 : decode cX12_isLike_ 65 = .ok (.istore 4, 2) := by decide +kernel
theorem dX12_isLike__67 : decode cX12_isLike_ 67 = .ok (.iinc 5 1, 3) := by decide +kernel
theorem dX12_isLike__70 : decode cX12_isLike_ 70 = .ok (.goto (-45), 3) := by decide +kernel
theorem dX12_isLike__73 : decode cX12_isLike_ 73 = .ok (.iload 4, 2) := by decide +kernel
theorem dX12_isLike__75 : decode cX12_isLike_ 75 = .ok (.ireturn, 1) := by decide +kernel
theorem dX12_isLikeHead_0 : decode cX12_isLikeHead 0 = .ok (.aload_n 0, 1) := by decide +kernel
theorem dX12_isLikeHead_1 : decode cX12_isLikeHead 1 = .ok (.invokevirtual 860, 3) := by decide +kernel
theorem dX12_isLikeHead_4 : decode cX12_isLikeHead 4 = .ok (.istore_n 1, 1) := by decide +kernel
theorem dX12_isLikeHead_5 : decode cX12_isLikeHead 5 = .ok (.aload_n 0, 1) := by decide +kernel
theorem dX12_isLikeHead_6 : decode cX12_isLikeHead 6 = .ok (.bipush 40, 2) := by decide +kernel
theorem dX12_isLikeHead_8 : decode cX12_isLikeHead 8 = .ok (.iload_n 1, 1) := by decide +kernel
theorem dX12_isLikeHead_9 : decode cX12_isLikeHead 9 = .ok (.iconst 0, 1) := by decide +kernel
theorem dX12_isLikeHead_10 : decode cX12_isLikeHead 10 = .ok (.invokevirtual 863, 3) := by decide +kernel
theorem dX12_isLikeHead_13 : decode cX12_isLikeHead 13 = .ok (.ifCond .eq 14, 3) := by decide +kernel
theorem dX12_isLikeHead_16 : decode cX12_isLikeHead 16 = .ok (.aload_n 0, 1) := by decide +kernel
theorem dX12_isLikeHead_17 : decode cX12_isLikeHead 17 = .ok (.bipush 40, 2) := by decide +kernel
theorem dX12_isLikeHead_19 : decode cX12_isLikeHead 19 = .ok (.iload_n 1, 1) := by decide +kernel
theorem dX12_isLikeHead_20 : decode cX12_isLikeHead 20 = .ok (.iconst 1, 1) := by decide +kernel
theorem dX12_isLikeHead_21 : decode cX12_isLikeHead 21 = .ok (.invokevirtual 863, 3) := by decide +kernel
theorem dX12_isLikeHead_24 : decode cX12_isLikeHead 24 = .ok (.ifCond .ne 5, 3) := by decide +kernel
theorem dX12_isLikeHead_27 : decode cX12_isLikeHead 27 = .ok (.iconst 0, 1) := by decide +kernel
theorem dX12_isLikeHead_28 : decode cX12_isLikeHead 28 = .ok (.ireturn, 1) := by decide +kernel
theorem dX12_isLikeHead_29 : decode cX12_isLikeHead 29 = .ok (.iconst 0, 1) := by decide +kernel
theorem dX12_isLikeHead_30 : decode cX12_isLikeHead 30 = .ok (.istore_n 2, 1) := by decide +kernel
theorem dX12_isLikeHead_31 : decode cX12_isLikeHead 31 = .ok (.iload_n 2, 1) := by decide +kernel
theorem dX12_isLikeHead_32 : decode cX12_isLikeHead 32 = .ok (.sipush 320, 3) := by decide +kernel
theorem dX12_isLikeHead_35 : decode cX12_isLikeHead 35 = .ok (.if_icmp .ge 76, 3) := by decide +kernel
theorem dX12_isLikeHead_38 : decode cX12_isLikeHead 38 = .ok (.iload_n 2, 1) := by decide +kernel
theorem dX12_isLikeHead_39 : decode cX12_isLikeHead 39 = .ok (.bipush 10, 2) := by decide +kernel
theorem dX12_isLikeHead_41 : decode cX12_isLikeHead 41 = .ok (.idiv, 1) := by decide +kernel
theorem dX12_isLikeHead_42 : decode cX12_isLikeHead 42 = .ok (.aload_n 0, 1) := by decide +kernel
theorem dX12_isLikeHead_43 : decode cX12_isLikeHead 43 = .ok (.getfield 7, 3) := by decide +kernel
theorem dX12_isLikeHead_46 : decode cX12_isLikeHead 46 = .ok (.iload_n 1, 1) := by decide +kernel
theorem dX12_isLikeHead_47 : decode cX12_isLikeHead 47 = .ok (.iaload, 1) := by decide +kernel
theorem dX12_isLikeHead_48 : decode cX12_isLikeHead 48 = .ok (.if_icmp .ge 20, 3) := by decide +kernel
theorem dX12_isLikeHead_51 : decode cX12_isLikeHead 51 = .ok (.iload_n 2, 1) := by decide +kernel
theorem dX12_isLikeHead_52 : decode cX12_isLikeHead 52 = .ok (.bipush 10, 2) := by decide +kernel
theorem dX12_isLikeHead_54 : decode cX12_isLikeHead 54 = .ok (.irem, 1) := by decide +kernel
theorem dX12_isLikeHead_55 : decode cX12_isLikeHead 55 = .ok (.aload_n 0, 1) := by decide +kernel
theorem dX12_isLikeHead_56 : decode cX12_isLikeHead 56 = .ok (.getfield 13, 3) := by decide +kernel
theorem dX12_isLikeHead_59 : decode cX12_isLikeHead 59 = .ok (.iload_n 1, 1) := by decide +kernel
theorem dX12_isLikeHead_60 : decode cX12_isLikeHead 60 = .ok (.iaload, 1) := by decide +kernel
theorem dX12_isLikeHead_61 : decode cX12_isLikeHead 61 = .ok (.if_icmp .ge 7, 3) := by decide +kernel
theorem dX12_isLikeHead_64 : decode cX12_isLikeHead 64 = .ok (.iconst 1, 1) := by decide +kernel
theorem dX12_isLikeHead_65 : decode cX12_isLikeHead 65 = .ok (.goto 4, 3) := by decide +kernel
theorem dX12_isLikeHead_68 : decode cX12_isLikeHead 68 = .ok (.iconst 0, 1) := by decide +kernel
theorem dX12_isLikeHead_69 : decode cX12_isLikeHead 69 = .ok (.istore_n 3, 1) := by decide +kernel
theorem dX12_isLikeHead_70 : decode cX12_isLikeHead 70 = .ok (.iload_n 3, 1) := by decide +kernel
theorem dX12_isLikeHead_71 : decode cX12_isLikeHead 71 = .ok (.ifCond .eq 34, 3) := by decide +kernel
theorem dX12_isLikeHead_74 : decode cX12_isLikeHead 74 = .ok (.aload_n 0, 1) := by decide +kernel
theorem dX12_isLikeHead_75 : decode cX12_isLikeHead 75 = .ok (.aload_n 0, 1) := by decide +kernel
theorem dX12_isLikeHead_76 : decode cX12_isLikeHead 76 = .ok (.getfield 23, 3) := by decide +kernel
theorem dX12_isLikeHead_79 : decode cX12_isLikeHead 79 = .ok (.sipush 12800, 3) := by decide +kernel
theorem dX12_isLikeHead_82 : decode cX12_isLikeHead 82 = .ok (.iload_n 2, 1) := by decide +kernel
theorem dX12_isLikeHead_83 : decode cX12_isLikeHead 83 = .ok (.iadd, 1) := by decide +kernel
theorem dX12_isLikeHead_84 : decode cX12_isLikeHead 84 = .ok (.iaload, 1) := by decide +kernel
theorem dX12_isLikeHead_85 : decode cX12_isLikeHead 85 = .ok (.aload_n 0, 1) := by decide +kernel
theorem dX12_isLikeHead_86 : decode cX12_isLikeHead 86 = .ok (.getfield 23, 3) := by decide +kernel
theorem dX12_isLikeHead_89 : decode cX12_isLikeHead 89 = .ok (.sipush 320, 3) := by decide +kernel
theorem dX12_isLikeHead_92 : decode cX12_isLikeHead 92 = .ok (.iload_n 1, 1) := by decide +kernel
theorem dX12_isLikeHead_93 : decode cX12_isLikeHead 93 = .ok (.imul, 1) := by decide +kernel
theorem dX12_isLikeHead_94 : decode cX12_isLikeHead 94 = .ok (.iload_n 2, 1) := by decide +kernel
theorem dX12_isLikeHead_95 : decode cX12_isLikeHead 95 = .ok (.iadd, 1) := by decide +kernel
theorem dX12_isLikeHead_96 : decode cX12_isLikeHead 96 = .ok (.iaload, 1) := by decide +kernel
theorem dX12_isLikeHead_97 : decode cX12_isLikeHead 97 = .ok (.invokevirtual 865, 3) := by decide +kernel
theorem dX12_isLikeHead_100 : decode cX12_isLikeHead 100 = .ok (.ifCond .ne 5, 3) := by decide +kernel
theorem dX12_isLikeHead_103 : decode cX12_isLikeHead 103 = .ok (.iconst 0, 1) := by decide +kernel
theorem dX12_isLikeHead_104 : decode cX12_isLikeHead 104 = .ok (.ireturn, 1) := by decide +kernel
theorem dX12_isLikeHead_105 : decode cX12_isLikeHead 105 = .ok (.iinc 2 1, 3) := by decide +kernel
theorem dX12_isLikeHead_108 : decode cX12_isLikeHead 108 = .ok (.goto (-77), 3) := by decide +kernel
theorem dX12_isLikeHead_111 : decode cX12_isLikeHead 111 = .ok (.iconst 1, 1) := by decide +kernel
theorem dX12_isLikeHead_112 : decode cX12_isLikeHead 112 = .ok (.ireturn, 1) := by decide +kernel
set_option maxRecDepth 20000 in
theorem vl_X12_863 : VL RX12 863 12 mX12_isLike_ 3 := ⟨⟨qc_X12_isLike_, (gtb_in (List.mem_of_getElem? (i := 2622) (by decide +kernel)) (by decide +kernel)), qi_X12_isLike_, qs_X12_isLike_, zw_12⟩, ⟨_, _, rfl⟩, by decide, qd_X12_isLike_, by decide⟩
set_option maxRecDepth 20000 in
theorem vl_X12_865 : VL RX12 865 12 mX12_alike 2 := ⟨⟨qc_X12_alike, (gtb_in (List.mem_of_getElem? (i := 2626) (by decide +kernel)) (by decide +kernel)), qi_X12_alike, qs_X12_alike, zw_12⟩, ⟨_, _, rfl⟩, by decide, qd_X12_alike, by decide⟩
theorem dX12_go_0 : decode cX12_go 0 = .ok (.aload_n 0, 1) := by decide +kernel
theorem dX12_go_1 : decode cX12_go 1 = .ok (.iconst 0, 1) := by decide +kernel
theorem dX12_go_2 : decode cX12_go 2 = .ok (.putfield 202, 3) := by decide +kernel
theorem dX12_go_5 : decode cX12_go 5 = .ok (.iload_n 1, 1) := by decide +kernel
theorem dX12_go_6 : decode cX12_go 6 = .ok (.iconst 0, 1) := by decide +kernel
theorem dX12_go_7 : decode cX12_go 7 = .ok (.iconst 5, 1) := by decide +kernel
theorem dX12_go_8 : decode cX12_go 8 = .ok (.invokestatic 220, 3) := by decide +kernel
theorem dX12_go_11 : decode cX12_go 11 = .ok (.ifCond .ne 9, 3) := by decide +kernel
theorem dX12_go_14 : decode cX12_go 14 = .ok (.aload_n 0, 1) := by decide +kernel
theorem dX12_go_15 : decode cX12_go 15 = .ok (.iconst 1, 1) := by decide +kernel
theorem dX12_go_16 : decode cX12_go 16 = .ok (.invokevirtual 237, 3) := by decide +kernel
theorem dX12_go_19 : decode cX12_go 19 = .ok (.ireturn, 1) := by decide +kernel
theorem dX12_go_20 : decode cX12_go 20 = .ok (.aload_n 0, 1) := by decide +kernel
theorem dX12_go_21 : decode cX12_go 21 = .ok (.getfield 42, 3) := by decide +kernel
theorem dX12_go_24 : decode cX12_go 24 = .ok (.iload_n 1, 1) := by decide +kernel
theorem dX12_go_25 : decode cX12_go 25 = .ok (.iaload, 1) := by decide +kernel
theorem dX12_go_26 : decode cX12_go 26 = .ok (.ifCond .ge 9, 3) := by decide +kernel
theorem dX12_go_29 : decode cX12_go 29 = .ok (.aload_n 0, 1) := by decide +kernel
theorem dX12_go_30 : decode cX12_go 30 = .ok (.iconst 2, 1) := by decide +kernel
theorem dX12_go_31 : decode cX12_go 31 = .ok (.invokevirtual 237, 3) := by decide +kernel
theorem dX12_go_34 : decode cX12_go 34 = .ok (.ireturn, 1) := by decide +kernel
theorem dX12_go_35 : decode cX12_go 35 = .ok (.aload_n 0, 1) := by decide +kernel
theorem dX12_go_36 : decode cX12_go 36 = .ok (.getfield 45, 3) := by decide +kernel
theorem dX12_go_39 : decode cX12_go 39 = .ok (.ifCond .ge 17, 3) := by decide +kernel
theorem dX12_go_42 : decode cX12_go 42 = .ok (.aload_n 0, 1) := by decide +kernel
theorem dX12_go_43 : decode cX12_go 43 = .ok (.invokevirtual 871, 3) := by decide +kernel
theorem dX12_go_46 : decode cX12_go 46 = .ok (.ifCond .gt 10, 3) := by decide +kernel
theorem dX12_go_49 : decode cX12_go 49 = .ok (.aload_n 0, 1) := by decide +kernel
theorem dX12_go_50 : decode cX12_go 50 = .ok (.invokevirtual 877, 3) := by decide +kernel
theorem dX12_go_53 : decode cX12_go 53 = .ok (.ifCond .ne 9, 3) := by decide +kernel
theorem dX12_go_56 : decode cX12_go 56 = .ok (.aload_n 0, 1) := by decide +kernel
theorem dX12_go_57 : decode cX12_go 57 = .ok (.iconst 3, 1) := by decide +kernel
theorem dX12_go_58 : decode cX12_go 58 = .ok (.invokevirtual 237, 3) := by decide +kernel
theorem dX12_go_61 : decode cX12_go 61 = .ok (.ireturn, 1) := by decide +kernel
theorem dX12_go_62 : decode cX12_go 62 = .ok (.aload_n 0, 1) := by decide +kernel
theorem dX12_go_63 : decode cX12_go 63 = .ok (.iload_n 1, 1) := by decide +kernel
theorem dX12_go_64 : decode cX12_go 64 = .ok (.putfield 857, 3) := by decide +kernel
theorem dX12_go_67 : decode cX12_go 67 = .ok (.aload_n 0, 1) := by decide +kernel
theorem dX12_go_68 : decode cX12_go 68 = .ok (.aload_n 0, 1) := by decide +kernel
theorem dX12_go_69 : decode cX12_go 69 = .ok (.invokevirtual 860, 3) := by decide +kernel
theorem dX12_go_72 : decode cX12_go 72 = .ok (.invokevirtual 880, 3) := by decide +kernel
theorem dX12_go_75 : decode cX12_go 75 = .ok (.aload_n 0, 1) := by decide +kernel
theorem dX12_go_76 : decode cX12_go 76 = .ok (.invokevirtual 860, 3) := by decide +kernel
theorem dX12_go_79 : decode cX12_go 79 = .ok (.ireturn, 1) := by decide +kernel
set_option maxRecDepth 20000 in
theorem vl_X12_877 : VL RX12 877 12 mX12_isLikeHead 0 := ⟨⟨qc_X12_isLikeHead, (gtb_in (List.mem_of_getElem? (i := 2618) (by decide +kernel)) (by decide +kernel)), qi_X12_isLikeHead, qs_X12_isLikeHead, zw_12⟩, ⟨_, _, rfl⟩, by decide, qd_X12_isLikeHead, by decide⟩
theorem dX12_merge_0 : decode cX12_merge 0 = .ok (.aload_n 0, 1) := by decide +kernel
theorem dX12_merge_1 : decode cX12_merge 1 = .ok (.iconst 0, 1) := by decide +kernel
theorem dX12_merge_2 : decode cX12_merge 2 = .ok (.putfield 202, 3) := by decide +kernel
theorem dX12_merge_5 : decode cX12_merge 5 = .ok (.iload_n 1, 1) := by decide +kernel
theorem dX12_merge_6 : decode cX12_merge 6 = .ok (.iconst 0, 1) := by decide +kernel
theorem dX12_merge_7 : decode cX12_merge 7 = .ok (.iconst 5, 1) := by decide +kernel
theorem dX12_merge_8 : decode cX12_merge 8 = .ok (.invokestatic 220, 3) := by decide +kernel
theorem dX12_merge_11 : decode cX12_merge 11 = .ok (.ifCond .ne 9, 3) := by decide +kernel
theorem dX12_merge_14 : decode cX12_merge 14 = .ok (.aload_n 0, 1) := by decide +kernel
theorem dX12_merge_15 : decode cX12_merge 15 = .ok (.iconst 1, 1) := by decide +kernel
theorem dX12_merge_16 : decode cX12_merge 16 = .ok (.invokevirtual 237, 3) := by decide +kernel
theorem dX12_merge_19 : decode cX12_merge 19 = .ok (.ireturn, 1) := by decide +kernel
theorem dX12_merge_20 : decode cX12_merge 20 = .ok (.aload_n 0, 1) := by decide +kernel
theorem dX12_merge_21 : decode cX12_merge 21 = .ok (.getfield 42, 3) := by decide +kernel
theorem dX12_merge_24 : decode cX12_merge 24 = .ok (.iload_n 1, 1) := by decide +kernel
theorem dX12_merge_25 : decode cX12_merge 25 = .ok (.iaload, 1) := by decide +kernel
theorem dX12_merge_26 : decode cX12_merge 26 = .ok (.ifCond .ge 9, 3) := by decide +kernel
theorem dX12_merge_29 : decode cX12_merge 29 = .ok (.aload_n 0, 1) := by decide +kernel
theorem dX12_merge_30 : decode cX12_merge 30 = .ok (.iconst 2, 1) := by decide +kernel
theorem dX12_merge_31 : decode cX12_merge 31 = .ok (.invokevirtual 237, 3) := by decide +kernel
theorem dX12_merge_34 : decode cX12_merge 34 = .ok (.ireturn, 1) := by decide +kernel
theorem dX12_merge_35 : decode cX12_merge 35 = .ok (.aload_n 0, 1) := by decide +kernel
theorem dX12_merge_36 : decode cX12_merge 36 = .ok (.iconst 3, 1) := by decide +kernel
theorem dX12_merge_37 : decode cX12_merge 37 = .ok (.invokevirtual 930, 3) := by decide +kernel
theorem dX12_merge_40 : decode cX12_merge 40 = .ok (.ifCond .le 13, 3) := by decide +kernel
theorem dX12_merge_43 : decode cX12_merge 43 = .ok (.aload_n 0, 1) := by decide +kernel
theorem dX12_merge_44 : decode cX12_merge 44 = .ok (.aload_n 0, 1) := by decide +kernel
theorem dX12_merge_45 : decode cX12_merge 45 = .ok (.iconst 3, 1) := by decide +kernel
theorem dX12_merge_46 : decode cX12_merge 46 = .ok (.invokevirtual 930, 3) := by decide +kernel
theorem dX12_merge_49 : decode cX12_merge 49 = .ok (.invokevirtual 237, 3) := by decide +kernel
theorem dX12_merge_52 : decode cX12_merge 52 = .ok (.ireturn, 1) := by decide +kernel
theorem dX12_merge_53 : decode cX12_merge 53 = .ok (.aload_n 0, 1) := by decide +kernel
theorem dX12_merge_54 : decode cX12_merge 54 = .ok (.getfield 42, 3) := by decide +kernel
theorem dX12_merge_57 : decode cX12_merge 57 = .ok (.iload_n 1, 1) := by decide +kernel
theorem dX12_merge_58 : decode cX12_merge 58 = .ok (.iaload, 1) := by decide +kernel
theorem dX12_merge_59 : decode cX12_merge 59 = .ok (.istore_n 2, 1) := by decide +kernel
theorem dX12_merge_60 : decode cX12_merge 60 = .ok (.aload_n 0, 1) := by decide +kernel
theorem dX12_merge_61 : decode cX12_merge 61 = .ok (.iload_n 2, 1) := by decide +kernel
theorem dX12_merge_62 : decode cX12_merge 62 = .ok (.aload_n 0, 1) := by decide +kernel
theorem dX12_merge_63 : decode cX12_merge 63 = .ok (.invokevirtual 860, 3) := by decide +kernel
theorem dX12_merge_66 : decode cX12_merge 66 = .ok (.invokevirtual 933, 3) := by decide +kernel
theorem dX12_merge_69 : decode cX12_merge 69 = .ok (.istore_n 3, 1) := by decide +kernel
theorem dX12_merge_70 : decode cX12_merge 70 = .ok (.iload_n 3, 1) := by decide +kernel
theorem dX12_merge_71 : decode cX12_merge 71 = .ok (.iload_n 2, 1) := by decide +kernel
theorem dX12_merge_72 : decode cX12_merge 72 = .ok (.if_icmp .ne 5, 3) := by decide +kernel
theorem dX12_merge_75 : decode cX12_merge 75 = .ok (.iconst (-1), 1) := by decide +kernel
theorem dX12_merge_76 : decode cX12_merge 76 = .ok (.ireturn, 1) := by decide +kernel
theorem dX12_merge_77 : decode cX12_merge 77 = .ok (.aload_n 0, 1) := by decide +kernel
theorem dX12_merge_78 : decode cX12_merge 78 = .ok (.iload_n 2, 1) := by decide +kernel
theorem dX12_merge_79 : decode cX12_merge 79 = .ok (.iload_n 3, 1) := by decide +kernel
theorem dX12_merge_80 : decode cX12_merge 80 = .ok (.invokevirtual 936, 3) := by decide +kernel
theorem dX12_merge_83 : decode cX12_merge 83 = .ok (.istore 4, 2) := by decide +kernel
theorem dX12_merge_85 : decode cX12_merge 85 = .ok (.iload 4, 2) := by decide +kernel
theorem dX12_merge_87 : decode cX12_merge 87 = .ok (.ifCond .ge 9, 3) := by decide +kernel
theorem dX12_merge_90 : decode cX12_merge 90 = .ok (.aload_n 0, 1) := by decide +kernel
theorem dX12_merge_91 : decode cX12_merge 91 = .ok (.iconst 4, 1) := by decide +kernel
theorem dX12_merge_92 : decode cX12_merge 92 = .ok (.invokevirtual 237, 3) := by decide +kernel
theorem dX12_merge_95 : decode cX12_merge 95 = .ok (.ireturn, 1) := by decide +kernel
theorem dX12_merge_96 : decode cX12_merge 96 = .ok (.aload_n 0, 1) := by decide +kernel
theorem dX12_merge_97 : decode cX12_merge 97 = .ok (.iload_n 2, 1) := by decide +kernel
theorem dX12_merge_98 : decode cX12_merge 98 = .ok (.putfield 45, 3) := by decide +kernel
theorem dX12_merge_101 : decode cX12_merge 101 = .ok (.iload 4, 2) := by decide +kernel
theorem dX12_merge_103 : decode cX12_merge 103 = .ok (.ireturn, 1) := by decide +kernel
set_option maxRecDepth 20000 in
theorem vl_X12_933 : VL RX12 933 12 mX12_base 2 := ⟨⟨qc_X12_base, (gtb_in (List.mem_of_getElem? (i := 2666) (by decide +kernel)) (by decide +kernel)), qi_X12_base, qs_X12_base, zw_12⟩, ⟨_, _, rfl⟩, by decide, qd_X12_base, by decide⟩
theorem dX12_base_0 : decode cX12_base 0 = .ok (.aload_n 0, 1) := by decide +kernel
theorem dX12_base_1 : decode cX12_base 1 = .ok (.iconst 0, 1) := by decide +kernel
theorem dX12_base_2 : decode cX12_base 2 = .ok (.putfield 202, 3) := by decide +kernel
theorem dX12_base_5 : decode cX12_base 5 = .ok (.iload_n 1, 1) := by decide +kernel
theorem dX12_base_6 : decode cX12_base 6 = .ok (.iconst 0, 1) := by decide +kernel
theorem dX12_base_7 : decode cX12_base 7 = .ok (.aload_n 0, 1) := by decide +kernel
theorem dX12_base_8 : decode cX12_base 8 = .ok (.getfield 33, 3) := by decide +kernel
theorem dX12_base_11 : decode cX12_base 11 = .ok (.iconst 1, 1) := by decide +kernel
theorem dX12_base_12 : decode cX12_base 12 = .ok (.isub, 1) := by decide +kernel
theorem dX12_base_13 : decode cX12_base 13 = .ok (.invokestatic 220, 3) := by decide +kernel
theorem dX12_base_16 : decode cX12_base 16 = .ok (.ifCond .eq 17, 3) := by decide +kernel
theorem dX12_base_19 : decode cX12_base 19 = .ok (.iload_n 2, 1) := by decide +kernel
theorem dX12_base_20 : decode cX12_base 20 = .ok (.iconst 0, 1) := by decide +kernel
theorem dX12_base_21 : decode cX12_base 21 = .ok (.aload_n 0, 1) := by decide +kernel
theorem dX12_base_22 : decode cX12_base 22 = .ok (.getfield 33, 3) := by decide +kernel
theorem dX12_base_25 : decode cX12_base 25 = .ok (.iconst 1, 1) := by decide +kernel
theorem dX12_base_26 : decode cX12_base 26 = .ok (.isub, 1) := by decide +kernel
theorem dX12_base_27 : decode cX12_base 27 = .ok (.invokestatic 220, 3) := by decide +kernel
theorem dX12_base_30 : decode cX12_base 30 = .ok (.ifCond .ne 5, 3) := by decide +kernel
theorem dX12_base_33 : decode cX12_base 33 = .ok (.iconst (-1), 1) := by decide +kernel
theorem dX12_base_34 : decode cX12_base 34 = .ok (.ireturn, 1) := by decide +kernel
theorem dX12_base_35 : decode cX12_base 35 = .ok (.aload_n 0, 1) := by decide +kernel
theorem dX12_base_36 : decode cX12_base 36 = .ok (.iload_n 1, 1) := by decide +kernel
theorem dX12_base_37 : decode cX12_base 37 = .ok (.aload_n 0, 1) := by decide +kernel
theorem dX12_base_38 : decode cX12_base 38 = .ok (.getfield 159, 3) := by decide +kernel
theorem dX12_base_41 : decode cX12_base 41 = .ok (.invokevirtual 883, 3) := by decide +kernel
theorem dX12_base_44 : decode cX12_base 44 = .ok (.aload_n 0, 1) := by decide +kernel
theorem dX12_base_45 : decode cX12_base 45 = .ok (.iload_n 2, 1) := by decide +kernel
theorem dX12_base_46 : decode cX12_base 46 = .ok (.aload_n 0, 1) := by decide +kernel
theorem dX12_base_47 : decode cX12_base 47 = .ok (.getfield 162, 3) := by decide +kernel
theorem dX12_base_50 : decode cX12_base 50 = .ok (.invokevirtual 883, 3) := by decide +kernel
theorem dX12_base_53 : decode cX12_base 53 = .ok (.aload_n 0, 1) := by decide +kernel
theorem dX12_base_54 : decode cX12_base 54 = .ok (.getfield 33, 3) := by decide +kernel
theorem dX12_base_57 : decode cX12_base 57 = .ok (.iconst 1, 1) := by decide +kernel
theorem dX12_base_58 : decode cX12_base 58 = .ok (.isub, 1) := by decide +kernel
theorem dX12_base_59 : decode cX12_base 59 = .ok (.istore_n 3, 1) := by decide +kernel
theorem dX12_base_60 : decode cX12_base 60 = .ok (.aload_n 0, 1) := by decide +kernel
theorem dX12_base_61 : decode cX12_base 61 = .ok (.getfield 159, 3) := by decide +kernel
theorem dX12_base_64 : decode cX12_base 64 = .ok (.iload_n 3, 1) := by decide +kernel
theorem dX12_base_65 : decode cX12_base 65 = .ok (.baload, 1) := by decide +kernel
theorem dX12_base_66 : decode cX12_base 66 = .ok (.ifCond .eq 12, 3) := by decide +kernel
theorem dX12_base_69 : decode cX12_base 69 = .ok (.aload_n 0, 1) := by decide +kernel
theorem dX12_base_70 : decode cX12_base 70 = .ok (.getfield 162, 3) := by decide +kernel
theorem dX12_base_73 : decode cX12_base 73 = .ok (.iload_n 3, 1) := by decide +kernel
theorem dX12_base_74 : decode cX12_base 74 = .ok (.baload, 1) := by decide +kernel
theorem dX12_base_75 : decode cX12_base 75 = .ok (.ifCond .ne 9, 3) := by decide +kernel
theorem dX12_base_78 : decode cX12_base 78 = .ok (.iinc 3 (-1), 3) := by decide +kernel
theorem dX12_base_81 : decode cX12_base 81 = .ok (.goto (-21), 3) := by decide +kernel
theorem dX12_base_84 : decode cX12_base 84 = .ok (.iload_n 3, 1) := by decide +kernel
theorem dX12_base_85 : decode cX12_base 85 = .ok (.ireturn, 1) := by decide +kernel
set_option maxRecDepth 20000 in
theorem fl_X12_159 : FL RX12 159 12 89 true := ⟨RX12, TX12, cl_12, by decide, (gtb_in (List.mem_of_getElem? (i := 1734) (by decide +kernel)) (by decide +kernel)), rfl⟩
set_option maxRecDepth 20000 in
theorem vl_X12_883 : VL RX12 883 12 mX12_ancestors 2 := ⟨⟨qc_X12_ancestors, (gtb_in (List.mem_of_getElem? (i := 2654) (by decide +kernel)) (by decide +kernel)), qi_X12_ancestors, qs_X12_ancestors, zw_12⟩, ⟨_, _, rfl⟩, by decide, qd_X12_ancestors, by decide⟩
set_option maxRecDepth 20000 in
theorem fl_X12_162 : FL RX12 162 12 90 true := ⟨RX12, TX12, cl_12, by decide, (gtb_in (List.mem_of_getElem? (i := 1735) (by decide +kernel)) (by decide +kernel)), rfl⟩
theorem dX12_ancestors_0 : decode cX12_ancestors 0 = .ok (.iconst 0, 1) := by decide +kernel
theorem dX12_ancestors_1 : decode cX12_ancestors 1 = .ok (.istore_n 3, 1) := by decide +kernel
theorem dX12_ancestors_2 : decode cX12_ancestors 2 = .ok (.iload_n 3, 1) := by decide +kernel
theorem dX12_ancestors_3 : decode cX12_ancestors 3 = .ok (.bipush 40, 2) := by decide +kernel
theorem dX12_ancestors_5 : decode cX12_ancestors 5 = .ok (.if_icmp .ge 22, 3) := by decide +kernel
theorem dX12_ancestors_8 : decode cX12_ancestors 8 = .ok (.aload_n 2, 1) := by decide +kernel
theorem dX12_ancestors_9 : decode cX12_ancestors 9 = .ok (.iload_n 3, 1) := by decide +kernel
theorem dX12_ancestors_10 : decode cX12_ancestors 10 = .ok (.iload_n 3, 1) := by decide +kernel
theorem dX12_ancestors_11 : decode cX12_ancestors 11 = .ok (.iload_n 1, 1) := by decide +kernel
theorem dX12_ancestors_12 : decode cX12_ancestors 12 = .ok (.if_icmp .ne 7, 3) := by decide +kernel
theorem dX12_ancestors_15 : decode cX12_ancestors 15 = .ok (.iconst 1, 1) := by decide +kernel
theorem dX12_ancestors_16 : decode cX12_ancestors 16 = .ok (.goto 4, 3) := by decide +kernel
theorem dX12_ancestors_19 : decode cX12_ancestors 19 = .ok (.iconst 0, 1) := by decide +kernel
theorem dX12_ancestors_20 : decode cX12_ancestors 20 = .ok (.bastore, 1) := by decide +kernel
theorem dX12_ancestors_21 : decode cX12_ancestors 21 = .ok (.iinc 3 1, 3) := by decide +kernel
theorem dX12_ancestors_24 : decode cX12_ancestors 24 = .ok (.goto (-22), 3) := by decide +kernel
theorem dX12_ancestors_27 : decode cX12_ancestors 27 = .ok (.iload_n 1, 1) := by decide +kernel
theorem dX12_ancestors_28 : decode cX12_ancestors 28 = .ok (.istore_n 3, 1) := by decide +kernel
theorem dX12_ancestors_29 : decode cX12_ancestors 29 = .ok (.iload_n 3, 1) := by decide +kernel
theorem dX12_ancestors_30 : decode cX12_ancestors 30 = .ok (.ifCond .le 42, 3) := by decide +kernel
theorem dX12_ancestors_33 : decode cX12_ancestors 33 = .ok (.aload_n 2, 1) := by decide +kernel
theorem dX12_ancestors_34 : decode cX12_ancestors 34 = .ok (.iload_n 3, 1) := by decide +kernel
theorem dX12_ancestors_35 : decode cX12_ancestors 35 = .ok (.baload, 1) := by decide +kernel
theorem dX12_ancestors_36 : decode cX12_ancestors 36 = .ok (.ifCond .eq 30, 3) := by decide +kernel
theorem dX12_ancestors_39 : decode cX12_ancestors 39 = .ok (.aload_n 2, 1) := by decide +kernel
theorem dX12_ancestors_40 : decode cX12_ancestors 40 = .ok (.aload_n 0, 1) := by decide +kernel
theorem dX12_ancestors_41 : decode cX12_ancestors 41 = .ok (.getfield 36, 3) := by decide +kernel
theorem dX12_ancestors_44 : decode cX12_ancestors 44 = .ok (.iload_n 3, 1) := by decide +kernel
theorem dX12_ancestors_45 : decode cX12_ancestors 45 = .ok (.iaload, 1) := by decide +kernel
theorem dX12_ancestors_46 : decode cX12_ancestors 46 = .ok (.iconst 1, 1) := by decide +kernel
theorem dX12_ancestors_47 : decode cX12_ancestors 47 = .ok (.bastore, 1) := by decide +kernel
theorem dX12_ancestors_48 : decode cX12_ancestors 48 = .ok (.aload_n 0, 1) := by decide +kernel
theorem dX12_ancestors_49 : decode cX12_ancestors 49 = .ok (.getfield 39, 3) := by decide +kernel
theorem dX12_ancestors_52 : decode cX12_ancestors 52 = .ok (.iload_n 3, 1) := by decide +kernel
theorem dX12_ancestors_53 : decode cX12_ancestors 53 = .ok (.iaload, 1) := by decide +kernel
theorem dX12_ancestors_54 : decode cX12_ancestors 54 = .ok (.ifCond .lt 12, 3) := by decide +kernel
theorem dX12_ancestors_57 : decode cX12_ancestors 57 = .ok (.aload_n 2, 1) := by decide +kernel
theorem dX12_ancestors_58 : decode cX12_ancestors 58 = .ok (.aload_n 0, 1) := by decide +kernel
theorem dX12_ancestors_59 : decode cX12_ancestors 59 = .ok (.getfield 39, 3) := by decide +kernel
theorem dX12_ancestors_62 : decode cX12_ancestors 62 = .ok (.iload_n 3, 1) := by decide +kernel
theorem dX12_ancestors_63 : decode cX12_ancestors 63 = .ok (.iaload, 1) := by decide +kernel
theorem dX12_ancestors_64 : decode cX12_ancestors 64 = .ok (.iconst 1, 1) := by decide +kernel
theorem dX12_ancestors_65 : decode cX12_ancestors 65 = .ok (.bastore, 1) := by decide +kernel
theorem dX12_ancestors_66 : decode cX12_ancestors 66 = .ok (.iinc 3 (-1), 3) := by decide +kernel
theorem dX12_ancestors_69 : decode cX12_ancestors 69 = .ok (.goto (-40), 3) := by decide +kernel
theorem dX12_ancestors_72 : decode cX12_ancestors 72 = .ok (.return_, 1) := by decide +kernel
set_option maxRecDepth 20000 in
theorem fl_X12_39 : FL RX12 39 12 10 true := ⟨RX12, TX12, cl_12, by decide, (gtb_in (List.mem_of_getElem? (i := 1655) (by decide +kernel)) (by decide +kernel)), rfl⟩
theorem dX12_blame_0 : decode cX12_blame 0 = .ok (.aload_n 0, 1) := by decide +kernel
theorem dX12_blame_1 : decode cX12_blame 1 = .ok (.iconst 0, 1) := by decide +kernel
theorem dX12_blame_2 : decode cX12_blame 2 = .ok (.putfield 202, 3) := by decide +kernel
theorem dX12_blame_5 : decode cX12_blame 5 = .ok (.aload_n 0, 1) := by decide +kernel
theorem dX12_blame_6 : decode cX12_blame 6 = .ok (.bipush 40, 2) := by decide +kernel
theorem dX12_blame_8 : decode cX12_blame 8 = .ok (.iload_n 1, 1) := by decide +kernel
theorem dX12_blame_9 : decode cX12_blame 9 = .ok (.iload_n 2, 1) := by decide +kernel
theorem dX12_blame_10 : decode cX12_blame 10 = .ok (.invokevirtual 321, 3) := by decide +kernel
theorem dX12_blame_13 : decode cX12_blame 13 = .ok (.ifCond .ne 9, 3) := by decide +kernel
theorem dX12_blame_16 : decode cX12_blame 16 = .ok (.aload_n 0, 1) := by decide +kernel
theorem dX12_blame_17 : decode cX12_blame 17 = .ok (.iconst 1, 1) := by decide +kernel
theorem dX12_blame_18 : decode cX12_blame 18 = .ok (.invokevirtual 237, 3) := by decide +kernel
theorem dX12_blame_21 : decode cX12_blame 21 = .ok (.ireturn, 1) := by decide +kernel
theorem dX12_blame_22 : decode cX12_blame 22 = .ok (.aload_n 0, 1) := by decide +kernel
theorem dX12_blame_23 : decode cX12_blame 23 = .ok (.bipush 40, 2) := by decide +kernel
theorem dX12_blame_25 : decode cX12_blame 25 = .ok (.iconst 0, 1) := by decide +kernel
theorem dX12_blame_26 : decode cX12_blame 26 = .ok (.iload_n 1, 1) := by decide +kernel
theorem dX12_blame_27 : decode cX12_blame 27 = .ok (.iconst 1, 1) := by decide +kernel
theorem dX12_blame_28 : decode cX12_blame 28 = .ok (.isub, 1) := by decide +kernel
theorem dX12_blame_29 : decode cX12_blame 29 = .ok (.invokevirtual 213, 3) := by decide +kernel
theorem dX12_blame_32 : decode cX12_blame 32 = .ok (.istore_n 3, 1) := by decide +kernel
theorem dX12_blame_33 : decode cX12_blame 33 = .ok (.aload_n 0, 1) := by decide +kernel
theorem dX12_blame_34 : decode cX12_blame 34 = .ok (.bipush 40, 2) := by decide +kernel
theorem dX12_blame_36 : decode cX12_blame 36 = .ok (.iconst 1, 1) := by decide +kernel
theorem dX12_blame_37 : decode cX12_blame 37 = .ok (.iload_n 2, 1) := by decide +kernel
theorem dX12_blame_38 : decode cX12_blame 38 = .ok (.iconst 1, 1) := by decide +kernel
theorem dX12_blame_39 : decode cX12_blame 39 = .ok (.isub, 1) := by decide +kernel
theorem dX12_blame_40 : decode cX12_blame 40 = .ok (.invokevirtual 213, 3) := by decide +kernel
theorem dX12_blame_43 : decode cX12_blame 43 = .ok (.istore 4, 2) := by decide +kernel
theorem dX12_blame_45 : decode cX12_blame 45 = .ok (.aload_n 0, 1) := by decide +kernel
theorem dX12_blame_46 : decode cX12_blame 46 = .ok (.bipush 40, 2) := by decide +kernel
theorem dX12_blame_48 : decode cX12_blame 48 = .ok (.iload_n 1, 1) := by decide +kernel
theorem dX12_blame_49 : decode cX12_blame 49 = .ok (.iload_n 2, 1) := by decide +kernel
theorem dX12_blame_50 : decode cX12_blame 50 = .ok (.invokevirtual 812, 3) := by decide +kernel
theorem dX12_blame_53 : decode cX12_blame 53 = .ok (.istore 5, 2) := by decide +kernel
theorem dX12_blame_55 : decode cX12_blame 55 = .ok (.aload_n 0, 1) := by decide +kernel
theorem dX12_blame_56 : decode cX12_blame 56 = .ok (.invokevirtual 860, 3) := by decide +kernel
theorem dX12_blame_59 : decode cX12_blame 59 = .ok (.istore 6, 2) := by decide +kernel
theorem dX12_blame_61 : decode cX12_blame 61 = .ok (.aload_n 0, 1) := by decide +kernel
theorem dX12_blame_62 : decode cX12_blame 62 = .ok (.iload 6, 2) := by decide +kernel
theorem dX12_blame_64 : decode cX12_blame 64 = .ok (.iload_n 3, 1) := by decide +kernel
theorem dX12_blame_65 : decode cX12_blame 65 = .ok (.iload 4, 2) := by decide +kernel
theorem dX12_blame_67 : decode cX12_blame 67 = .ok (.iload 5, 2) := by decide +kernel
theorem dX12_blame_69 : decode cX12_blame 69 = .ok (.invokevirtual 948, 3) := by decide +kernel
theorem dX12_blame_72 : decode cX12_blame 72 = .ok (.ifCond .ne 5, 3) := by decide +kernel
theorem dX12_blame_75 : decode cX12_blame 75 = .ok (.iconst (-1), 1) := by decide +kernel
theorem dX12_blame_76 : decode cX12_blame 76 = .ok (.ireturn, 1) := by decide +kernel
theorem dX12_blame_77 : decode cX12_blame 77 = .ok (.iconst 1, 1) := by decide +kernel
theorem dX12_blame_78 : decode cX12_blame 78 = .ok (.istore 7, 2) := by decide +kernel
theorem dX12_blame_80 : decode cX12_blame 80 = .ok (.iload 7, 2) := by decide +kernel
theorem dX12_blame_82 : decode cX12_blame 82 = .ok (.ifCond .eq 71, 3) := by decide +kernel
theorem dX12_blame_85 : decode cX12_blame 85 = .ok (.aload_n 0, 1) := by decide +kernel
theorem dX12_blame_86 : decode cX12_blame 86 = .ok (.aload_n 0, 1) := by decide +kernel
theorem dX12_blame_87 : decode cX12_blame 87 = .ok (.getfield 36, 3) := by decide +kernel
theorem dX12_blame_90 : decode cX12_blame 90 = .ok (.iload 6, 2) := by decide +kernel
theorem dX12_blame_92 : decode cX12_blame 92 = .ok (.iaload, 1) := by decide +kernel
theorem dX12_blame_93 : decode cX12_blame 93 = .ok (.iload_n 3, 1) := by decide +kernel
theorem dX12_blame_94 : decode cX12_blame 94 = .ok (.iload 4, 2) := by decide +kernel
theorem dX12_blame_96 : decode cX12_blame 96 = .ok (.iload 5, 2) := by decide +kernel
theorem dX12_blame_98 : decode cX12_blame 98 = .ok (.invokevirtual 948, 3) := by decide +kernel
theorem dX12_blame_101 : decode cX12_blame 101 = .ok (.ifCond .eq 15, 3) := by decide +kernel
theorem dX12_blame_104 : decode cX12_blame 104 = .ok (.aload_n 0, 1) := by decide +kernel
theorem dX12_blame_105 : decode cX12_blame 105 = .ok (.getfield 36, 3) := by decide +kernel
theorem dX12_blame_108 : decode cX12_blame 108 = .ok (.iload 6, 2) := by decide +kernel
theorem dX12_blame_110 : decode cX12_blame 110 = .ok (.iaload, 1) := by decide +kernel
theorem dX12_blame_111 : decode cX12_blame 111 = .ok (.istore 6, 2) := by decide +kernel
theorem dX12_blame_113 : decode cX12_blame 113 = .ok (.goto (-33), 3) := by decide +kernel
theorem dX12_blame_116 : decode cX12_blame 116 = .ok (.aload_n 0, 1) := by decide +kernel
theorem dX12_blame_117 : decode cX12_blame 117 = .ok (.aload_n 0, 1) := by decide +kernel
theorem dX12_blame_118 : decode cX12_blame 118 = .ok (.getfield 39, 3) := by decide +kernel
theorem dX12_blame_121 : decode cX12_blame 121 = .ok (.iload 6, 2) := by decide +kernel
theorem dX12_blame_123 : decode cX12_blame 123 = .ok (.iaload, 1) := by decide +kernel
theorem dX12_blame_124 : decode cX12_blame 124 = .ok (.iload_n 3, 1) := by decide +kernel
theorem dX12_blame_125 : decode cX12_blame 125 = .ok (.iload 4, 2) := by decide +kernel
theorem dX12_blame_127 : decode cX12_blame 127 = .ok (.iload 5, 2) := by decide +kernel
theorem dX12_blame_129 : decode cX12_blame 129 = .ok (.invokevirtual 948, 3) := by decide +kernel
theorem dX12_blame_132 : decode cX12_blame 132 = .ok (.ifCond .eq 15, 3) := by decide +kernel
theorem dX12_blame_135 : decode cX12_blame 135 = .ok (.aload_n 0, 1) := by decide +kernel
theorem dX12_blame_136 : decode cX12_blame 136 = .ok (.getfield 39, 3) := by decide +kernel
theorem dX12_blame_139 : decode cX12_blame 139 = .ok (.iload 6, 2) := by decide +kernel
theorem dX12_blame_141 : decode cX12_blame 141 = .ok (.iaload, 1) := by decide +kernel
theorem dX12_blame_142 : decode cX12_blame 142 = .ok (.istore 6, 2) := by decide +kernel
theorem dX12_blame_144 : decode cX12_blame 144 = .ok (.goto (-64), 3) := by decide +kernel
theorem dX12_blame_147 : decode cX12_blame 147 = .ok (.iconst 0, 1) := by decide +kernel
theorem dX12_blame_148 : decode cX12_blame 148 = .ok (.istore 7, 2) := by decide +kernel
theorem dX12_blame_150 : decode cX12_blame 150 = .ok (.goto (-70), 3) := by decide +kernel
theorem dX12_blame_153 : decode cX12_blame 153 = .ok (.iload 6, 2) := by decide +kernel
theorem dX12_blame_155 : decode cX12_blame 155 = .ok (.ireturn, 1) := by decide +kernel
set_option maxRecDepth 20000 in
theorem vl_X12_812 : VL RX12 812 12 mX12_cellAt 3 := ⟨⟨qc_X12_cellAt, (gtb_in (List.mem_of_getElem? (i := 2463) (by decide +kernel)) (by decide +kernel)), qi_X12_cellAt, qs_X12_cellAt, zw_12⟩, ⟨_, _, rfl⟩, by decide, qd_X12_cellAt, by decide⟩
set_option maxRecDepth 20000 in
theorem vl_X12_948 : VL RX12 948 12 mX12_hasLike 4 := ⟨⟨qc_X12_hasLike, (gtb_in (List.mem_of_getElem? (i := 2748) (by decide +kernel)) (by decide +kernel)), qi_X12_hasLike, qs_X12_hasLike, zw_12⟩, ⟨_, _, rfl⟩, by decide, qd_X12_hasLike, by decide⟩
theorem dX12_hasLike_0 : decode cX12_hasLike 0 = .ok (.iload_n 1, 1) := by decide +kernel
theorem dX12_hasLike_1 : decode cX12_hasLike 1 = .ok (.ifCond .ge 7, 3) := by decide +kernel
theorem dX12_hasLike_4 : decode cX12_hasLike 4 = .ok (.iconst (-1), 1) := by decide +kernel
theorem dX12_hasLike_5 : decode cX12_hasLike 5 = .ok (.goto 10, 3) := by decide +kernel
theorem dX12_hasLike_8 : decode cX12_hasLike 8 = .ok (.aload_n 0, 1) := by decide +kernel
theorem dX12_hasLike_9 : decode cX12_hasLike 9 = .ok (.iload_n 1, 1) := by decide +kernel
theorem dX12_hasLike_10 : decode cX12_hasLike 10 = .ok (.iload_n 2, 1) := by decide +kernel
theorem dX12_hasLike_11 : decode cX12_hasLike 11 = .ok (.iload_n 3, 1) := by decide +kernel
theorem dX12_hasLike_12 : decode cX12_hasLike 12 = .ok (.invokevirtual 887, 3) := by decide +kernel
theorem dX12_hasLike_15 : decode cX12_hasLike 15 = .ok (.istore 5, 2) := by decide +kernel
theorem dX12_hasLike_17 : decode cX12_hasLike 17 = .ok (.iload 5, 2) := by decide +kernel
theorem dX12_hasLike_19 : decode cX12_hasLike 19 = .ok (.ifCond .lt 18, 3) := by decide +kernel
theorem dX12_hasLike_22 : decode cX12_hasLike 22 = .ok (.aload_n 0, 1) := by decide +kernel
theorem dX12_hasLike_23 : decode cX12_hasLike 23 = .ok (.iload 5, 2) := by decide +kernel
theorem dX12_hasLike_25 : decode cX12_hasLike 25 = .ok (.iload 4, 2) := by decide +kernel
theorem dX12_hasLike_27 : decode cX12_hasLike 27 = .ok (.invokevirtual 865, 3) := by decide +kernel
theorem dX12_hasLike_30 : decode cX12_hasLike 30 = .ok (.ifCond .eq 7, 3) := by decide +kernel
theorem dX12_hasLike_33 : decode cX12_hasLike 33 = .ok (.iconst 1, 1) := by decide +kernel
theorem dX12_hasLike_34 : decode cX12_hasLike 34 = .ok (.goto 4, 3) := by decide +kernel
theorem dX12_hasLike_37 : decode cX12_hasLike 37 = .ok (.iconst 0, 1) := by decide +kernel
theorem dX12_hasLike_38 : decode cX12_hasLike 38 = .ok (.ireturn, 1) := by decide +kernel
set_option maxRecDepth 20000 in
theorem vl_X12_887 : VL RX12 887 12 mX12_contentOf 3 := ⟨⟨qc_X12_contentOf, (gtb_in (List.mem_of_getElem? (i := 2691) (by decide +kernel)) (by decide +kernel)), qi_X12_contentOf, qs_X12_contentOf, zw_12⟩, ⟨_, _, rfl⟩, by decide, qd_X12_contentOf, by decide⟩
theorem dX12_sheet_0 : decode cX12_sheet 0 = .ok (.aload_n 0, 1) := by decide +kernel
theorem dX12_sheet_1 : decode cX12_sheet 1 = .ok (.iconst 0, 1) := by decide +kernel
theorem dX12_sheet_2 : decode cX12_sheet 2 = .ok (.putfield 202, 3) := by decide +kernel
theorem dX12_sheet_5 : decode cX12_sheet 5 = .ok (.aload_n 0, 1) := by decide +kernel
theorem dX12_sheet_6 : decode cX12_sheet 6 = .ok (.iload_n 1, 1) := by decide +kernel
theorem dX12_sheet_7 : decode cX12_sheet 7 = .ok (.invokevirtual 734, 3) := by decide +kernel
theorem dX12_sheet_10 : decode cX12_sheet 10 = .ok (.ifCond .ne 5, 3) := by decide +kernel
theorem dX12_sheet_13 : decode cX12_sheet 13 = .ok (.iconst (-1), 1) := by decide +kernel
theorem dX12_sheet_14 : decode cX12_sheet 14 = .ok (.ireturn, 1) := by decide +kernel
theorem dX12_sheet_15 : decode cX12_sheet 15 = .ok (.iload_n 2, 1) := by decide +kernel
theorem dX12_sheet_16 : decode cX12_sheet 16 = .ok (.tableswitch 88 0 3 #[32, 42, 52, 70], 32) := by decide +kernel
theorem dX12_sheet_48 : decode cX12_sheet 48 = .ok (.aload_n 0, 1) := by decide +kernel
theorem dX12_sheet_49 : decode cX12_sheet 49 = .ok (.getfield 7, 3) := by decide +kernel
theorem dX12_sheet_52 : decode cX12_sheet 52 = .ok (.iload_n 1, 1) := by decide +kernel
theorem dX12_sheet_53 : decode cX12_sheet 53 = .ok (.invokestatic 737, 3) := by decide +kernel
theorem dX12_sheet_56 : decode cX12_sheet 56 = .ok (.iaload, 1) := by decide +kernel
theorem dX12_sheet_57 : decode cX12_sheet 57 = .ok (.ireturn, 1) := by decide +kernel
theorem dX12_sheet_58 : decode cX12_sheet 58 = .ok (.aload_n 0, 1) := by decide +kernel
theorem dX12_sheet_59 : decode cX12_sheet 59 = .ok (.getfield 13, 3) := by decide +kernel
theorem dX12_sheet_62 : decode cX12_sheet 62 = .ok (.iload_n 1, 1) := by decide +kernel
theorem dX12_sheet_63 : decode cX12_sheet 63 = .ok (.invokestatic 737, 3) := by decide +kernel
theorem dX12_sheet_66 : decode cX12_sheet 66 = .ok (.iaload, 1) := by decide +kernel
theorem dX12_sheet_67 : decode cX12_sheet 67 = .ok (.ireturn, 1) := by decide +kernel
theorem dX12_sheet_68 : decode cX12_sheet 68 = .ok (.iload_n 1, 1) := by decide +kernel
theorem dX12_sheet_69 : decode cX12_sheet 69 = .ok (.ifCond .ge 10, 3) := by decide +kernel
theorem dX12_sheet_72 : decode cX12_sheet 72 = .ok (.aload_n 0, 1) := by decide +kernel
theorem dX12_sheet_73 : decode cX12_sheet 73 = .ok (.invokevirtual 860, 3) := by decide +kernel
theorem dX12_sheet_76 : decode cX12_sheet 76 = .ok (.goto 9, 3) := by decide +kernel
theorem dX12_sheet_79 : decode cX12_sheet 79 = .ok (.aload_n 0, 1) := by decide +kernel
theorem dX12_sheet_80 : decode cX12_sheet 80 = .ok (.getfield 36, 3) := by decide +kernel
theorem dX12_sheet_83 : decode cX12_sheet 83 = .ok (.iload_n 1, 1) := by decide +kernel
theorem dX12_sheet_84 : decode cX12_sheet 84 = .ok (.iaload, 1) := by decide +kernel
theorem dX12_sheet_85 : decode cX12_sheet 85 = .ok (.ireturn, 1) := by decide +kernel
theorem dX12_sheet_86 : decode cX12_sheet 86 = .ok (.iload_n 1, 1) := by decide +kernel
theorem dX12_sheet_87 : decode cX12_sheet 87 = .ok (.ifCond .ge 10, 3) := by decide +kernel
theorem dX12_sheet_90 : decode cX12_sheet 90 = .ok (.aload_n 0, 1) := by decide +kernel
theorem dX12_sheet_91 : decode cX12_sheet 91 = .ok (.getfield 45, 3) := by decide +kernel
theorem dX12_sheet_94 : decode cX12_sheet 94 = .ok (.goto 9, 3) := by decide +kernel
theorem dX12_sheet_97 : decode cX12_sheet 97 = .ok (.aload_n 0, 1) := by decide +kernel
theorem dX12_sheet_98 : decode cX12_sheet 98 = .ok (.getfield 39, 3) := by decide +kernel
theorem dX12_sheet_101 : decode cX12_sheet 101 = .ok (.iload_n 1, 1) := by decide +kernel
theorem dX12_sheet_102 : decode cX12_sheet 102 = .ok (.iaload, 1) := by decide +kernel
theorem dX12_sheet_103 : decode cX12_sheet 103 = .ok (.ireturn, 1) := by decide +kernel
theorem dX12_sheet_104 : decode cX12_sheet 104 = .ok (.iconst (-1), 1) := by decide +kernel
theorem dX12_sheet_105 : decode cX12_sheet 105 = .ok (.ireturn, 1) := by decide +kernel
theorem dX12_total_0 : decode cX12_total 0 = .ok (.aload_n 0, 1) := by decide +kernel
theorem dX12_total_1 : decode cX12_total 1 = .ok (.iconst 0, 1) := by decide +kernel
theorem dX12_total_2 : decode cX12_total 2 = .ok (.putfield 202, 3) := by decide +kernel
theorem dX12_total_5 : decode cX12_total 5 = .ok (.iload_n 1, 1) := by decide +kernel
theorem dX12_total_6 : decode cX12_total 6 = .ok (.tableswitch 112 0 9 #[54, 59, 64, 69, 74, 79, 84, 89, 94, 99], 54) := by decide +kernel
theorem dX12_total_60 : decode cX12_total 60 = .ok (.aload_n 0, 1) := by decide +kernel
theorem dX12_total_61 : decode cX12_total 61 = .ok (.getfield 33, 3) := by decide +kernel
theorem dX12_total_64 : decode cX12_total 64 = .ok (.ireturn, 1) := by decide +kernel
theorem dX12_total_65 : decode cX12_total 65 = .ok (.aload_n 0, 1) := by decide +kernel
theorem dX12_total_66 : decode cX12_total 66 = .ok (.getfield 857, 3) := by decide +kernel
theorem dX12_total_69 : decode cX12_total 69 = .ok (.ireturn, 1) := by decide +kernel
theorem dX12_total_70 : decode cX12_total 70 = .ok (.aload_n 0, 1) := by decide +kernel
theorem dX12_total_71 : decode cX12_total 71 = .ok (.invokevirtual 860, 3) := by decide +kernel
theorem dX12_total_74 : decode cX12_total 74 = .ok (.ireturn, 1) := by decide +kernel
theorem dX12_total_75 : decode cX12_total 75 = .ok (.aload_n 0, 1) := by decide +kernel
theorem dX12_total_76 : decode cX12_total 76 = .ok (.invokevirtual 871, 3) := by decide +kernel
theorem dX12_total_79 : decode cX12_total 79 = .ok (.ireturn, 1) := by decide +kernel
theorem dX12_total_80 : decode cX12_total 80 = .ok (.aload_n 0, 1) := by decide +kernel
theorem dX12_total_81 : decode cX12_total 81 = .ok (.getfield 227, 3) := by decide +kernel
theorem dX12_total_84 : decode cX12_total 84 = .ok (.ireturn, 1) := by decide +kernel
theorem dX12_total_85 : decode cX12_total 85 = .ok (.aload_n 0, 1) := by decide +kernel
theorem dX12_total_86 : decode cX12_total 86 = .ok (.getfield 230, 3) := by decide +kernel
theorem dX12_total_89 : decode cX12_total 89 = .ok (.ireturn, 1) := by decide +kernel
theorem dX12_total_90 : decode cX12_total 90 = .ok (.aload_n 0, 1) := by decide +kernel
theorem dX12_total_91 : decode cX12_total 91 = .ok (.getfield 336, 3) := by decide +kernel
theorem dX12_total_94 : decode cX12_total 94 = .ok (.ireturn, 1) := by decide +kernel
theorem dX12_total_95 : decode cX12_total 95 = .ok (.aload_n 0, 1) := by decide +kernel
theorem dX12_total_96 : decode cX12_total 96 = .ok (.getfield 258, 3) := by decide +kernel
theorem dX12_total_99 : decode cX12_total 99 = .ok (.ireturn, 1) := by decide +kernel
theorem dX12_total_100 : decode cX12_total 100 = .ok (.aload_n 0, 1) := by decide +kernel
theorem dX12_total_101 : decode cX12_total 101 = .ok (.getfield 927, 3) := by decide +kernel
theorem dX12_total_104 : decode cX12_total 104 = .ok (.ireturn, 1) := by decide +kernel
theorem dX12_total_105 : decode cX12_total 105 = .ok (.aload_n 0, 1) := by decide +kernel
theorem dX12_total_106 : decode cX12_total 106 = .ok (.invokevirtual 877, 3) := by decide +kernel
theorem dX12_total_109 : decode cX12_total 109 = .ok (.ifCond .eq 7, 3) := by decide +kernel
theorem dX12_total_112 : decode cX12_total 112 = .ok (.iconst 1, 1) := by decide +kernel
theorem dX12_total_113 : decode cX12_total 113 = .ok (.goto 4, 3) := by decide +kernel
theorem dX12_total_116 : decode cX12_total 116 = .ok (.iconst 0, 1) := by decide +kernel
theorem dX12_total_117 : decode cX12_total 117 = .ok (.ireturn, 1) := by decide +kernel
theorem dX12_total_118 : decode cX12_total 118 = .ok (.iload_n 1, 1) := by decide +kernel
theorem dX12_total_119 : decode cX12_total 119 = .ok (.bipush 10, 2) := by decide +kernel
theorem dX12_total_121 : decode cX12_total 121 = .ok (.bipush 15, 2) := by decide +kernel
theorem dX12_total_123 : decode cX12_total 123 = .ok (.invokestatic 220, 3) := by decide +kernel
theorem dX12_total_126 : decode cX12_total 126 = .ok (.ifCond .eq 15, 3) := by decide +kernel
theorem dX12_total_129 : decode cX12_total 129 = .ok (.aload_n 0, 1) := by decide +kernel
theorem dX12_total_130 : decode cX12_total 130 = .ok (.getfield 42, 3) := by decide +kernel
theorem dX12_total_133 : decode cX12_total 133 = .ok (.iload_n 1, 1) := by decide +kernel
theorem dX12_total_134 : decode cX12_total 134 = .ok (.bipush 10, 2) := by decide +kernel
theorem dX12_total_136 : decode cX12_total 136 = .ok (.isub, 1) := by decide +kernel
theorem dX12_total_137 : decode cX12_total 137 = .ok (.iaload, 1) := by decide +kernel
theorem dX12_total_138 : decode cX12_total 138 = .ok (.goto 4, 3) := by decide +kernel
theorem dX12_total_141 : decode cX12_total 141 = .ok (.iconst (-1), 1) := by decide +kernel
theorem dX12_total_142 : decode cX12_total 142 = .ok (.ireturn, 1) := by decide +kernel
set_option maxRecDepth 20000 in
theorem fl_X12_336 : FL RX12 336 12 25 false := ⟨RX12, TX12, cl_12, by decide, (gtb_in (List.mem_of_getElem? (i := 1670) (by decide +kernel)) (by decide +kernel)), rfl⟩
theorem dX12_commit_0 : decode cX12_commit 0 = .ok (.aload_n 0, 1) := by decide +kernel
theorem dX12_commit_1 : decode cX12_commit 1 = .ok (.iconst 0, 1) := by decide +kernel
theorem dX12_commit_2 : decode cX12_commit 2 = .ok (.putfield 202, 3) := by decide +kernel
theorem dX12_commit_5 : decode cX12_commit 5 = .ok (.aload_n 0, 1) := by decide +kernel
theorem dX12_commit_6 : decode cX12_commit 6 = .ok (.invokevirtual 871, 3) := by decide +kernel
theorem dX12_commit_9 : decode cX12_commit 9 = .ok (.ifCond .le 9, 3) := by decide +kernel
theorem dX12_commit_12 : decode cX12_commit 12 = .ok (.aload_n 0, 1) := by decide +kernel
theorem dX12_commit_13 : decode cX12_commit 13 = .ok (.iconst 1, 1) := by decide +kernel
theorem dX12_commit_14 : decode cX12_commit 14 = .ok (.invokevirtual 237, 3) := by decide +kernel
theorem dX12_commit_17 : decode cX12_commit 17 = .ok (.ireturn, 1) := by decide +kernel
theorem dX12_commit_18 : decode cX12_commit 18 = .ok (.aload_n 0, 1) := by decide +kernel
theorem dX12_commit_19 : decode cX12_commit 19 = .ok (.getfield 33, 3) := by decide +kernel
theorem dX12_commit_22 : decode cX12_commit 22 = .ok (.bipush 40, 2) := by decide +kernel
theorem dX12_commit_24 : decode cX12_commit 24 = .ok (.if_icmp .ne 9, 3) := by decide +kernel
theorem dX12_commit_27 : decode cX12_commit 27 = .ok (.aload_n 0, 1) := by decide +kernel
theorem dX12_commit_28 : decode cX12_commit 28 = .ok (.iconst 2, 1) := by decide +kernel
theorem dX12_commit_29 : decode cX12_commit 29 = .ok (.invokevirtual 237, 3) := by decide +kernel
theorem dX12_commit_32 : decode cX12_commit 32 = .ok (.ireturn, 1) := by decide +kernel
theorem dX12_commit_33 : decode cX12_commit 33 = .ok (.aload_n 0, 1) := by decide +kernel
theorem dX12_commit_34 : decode cX12_commit 34 = .ok (.getfield 33, 3) := by decide +kernel
theorem dX12_commit_37 : decode cX12_commit 37 = .ok (.istore_n 1, 1) := by decide +kernel
theorem dX12_commit_38 : decode cX12_commit 38 = .ok (.aload_n 0, 1) := by decide +kernel
theorem dX12_commit_39 : decode cX12_commit 39 = .ok (.bipush 40, 2) := by decide +kernel
theorem dX12_commit_41 : decode cX12_commit 41 = .ok (.iload_n 1, 1) := by decide +kernel
theorem dX12_commit_42 : decode cX12_commit 42 = .ok (.invokevirtual 198, 3) := by decide +kernel
theorem dX12_commit_45 : decode cX12_commit 45 = .ok (.aload_n 0, 1) := by decide +kernel
theorem dX12_commit_46 : decode cX12_commit 46 = .ok (.getfield 36, 3) := by decide +kernel
theorem dX12_commit_49 : decode cX12_commit 49 = .ok (.iload_n 1, 1) := by decide +kernel
theorem dX12_commit_50 : decode cX12_commit 50 = .ok (.aload_n 0, 1) := by decide +kernel
theorem dX12_commit_51 : decode cX12_commit 51 = .ok (.invokevirtual 860, 3) := by decide +kernel
theorem dX12_commit_54 : decode cX12_commit 54 = .ok (.iastore, 1) := by decide +kernel
theorem dX12_commit_55 : decode cX12_commit 55 = .ok (.aload_n 0, 1) := by decide +kernel
theorem dX12_commit_56 : decode cX12_commit 56 = .ok (.getfield 39, 3) := by decide +kernel
theorem dX12_commit_59 : decode cX12_commit 59 = .ok (.iload_n 1, 1) := by decide +kernel
theorem dX12_commit_60 : decode cX12_commit 60 = .ok (.aload_n 0, 1) := by decide +kernel
theorem dX12_commit_61 : decode cX12_commit 61 = .ok (.getfield 45, 3) := by decide +kernel
theorem dX12_commit_64 : decode cX12_commit 64 = .ok (.iastore, 1) := by decide +kernel
theorem dX12_commit_65 : decode cX12_commit 65 = .ok (.aload_n 0, 1) := by decide +kernel
theorem dX12_commit_66 : decode cX12_commit 66 = .ok (.iconst (-1), 1) := by decide +kernel
theorem dX12_commit_67 : decode cX12_commit 67 = .ok (.putfield 45, 3) := by decide +kernel
theorem dX12_commit_70 : decode cX12_commit 70 = .ok (.aload_n 0, 1) := by decide +kernel
theorem dX12_commit_71 : decode cX12_commit 71 = .ok (.iconst 0, 1) := by decide +kernel
theorem dX12_commit_72 : decode cX12_commit 72 = .ok (.putfield 868, 3) := by decide +kernel
theorem dX12_commit_75 : decode cX12_commit 75 = .ok (.aload_n 0, 1) := by decide +kernel
theorem dX12_commit_76 : decode cX12_commit 76 = .ok (.getfield 42, 3) := by decide +kernel
theorem dX12_commit_79 : decode cX12_commit 79 = .ok (.aload_n 0, 1) := by decide +kernel
theorem dX12_commit_80 : decode cX12_commit 80 = .ok (.getfield 857, 3) := by decide +kernel
theorem dX12_commit_83 : decode cX12_commit 83 = .ok (.iload_n 1, 1) := by decide +kernel
theorem dX12_commit_84 : decode cX12_commit 84 = .ok (.iastore, 1) := by decide +kernel
theorem dX12_commit_85 : decode cX12_commit 85 = .ok (.aload_n 0, 1) := by decide +kernel
theorem dX12_commit_86 : decode cX12_commit 86 = .ok (.dup, 1) := by decide +kernel
theorem dX12_commit_87 : decode cX12_commit 87 = .ok (.getfield 33, 3) := by decide +kernel
theorem dX12_commit_90 : decode cX12_commit 90 = .ok (.iconst 1, 1) := by decide +kernel
theorem dX12_commit_91 : decode cX12_commit 91 = .ok (.iadd, 1) := by decide +kernel
theorem dX12_commit_92 : decode cX12_commit 92 = .ok (.putfield 33, 3) := by decide +kernel
theorem dX12_commit_95 : decode cX12_commit 95 = .ok (.iload_n 1, 1) := by decide +kernel
theorem dX12_commit_96 : decode cX12_commit 96 = .ok (.ireturn, 1) := by decide +kernel
theorem dX12_erase_0 : decode cX12_erase 0 = .ok (.aload_n 0, 1) := by decide +kernel
theorem dX12_erase_1 : decode cX12_erase 1 = .ok (.iconst 0, 1) := by decide +kernel
theorem dX12_erase_2 : decode cX12_erase 2 = .ok (.putfield 202, 3) := by decide +kernel
theorem dX12_erase_5 : decode cX12_erase 5 = .ok (.aload_n 0, 1) := by decide +kernel
theorem dX12_erase_6 : decode cX12_erase 6 = .ok (.bipush 40, 2) := by decide +kernel
theorem dX12_erase_8 : decode cX12_erase 8 = .ok (.iload_n 1, 1) := by decide +kernel
theorem dX12_erase_9 : decode cX12_erase 9 = .ok (.iload_n 2, 1) := by decide +kernel
theorem dX12_erase_10 : decode cX12_erase 10 = .ok (.invokevirtual 321, 3) := by decide +kernel
theorem dX12_erase_13 : decode cX12_erase 13 = .ok (.ifCond .eq 15, 3) := by decide +kernel
theorem dX12_erase_16 : decode cX12_erase 16 = .ok (.aload_n 0, 1) := by decide +kernel
theorem dX12_erase_17 : decode cX12_erase 17 = .ok (.bipush 40, 2) := by decide +kernel
theorem dX12_erase_19 : decode cX12_erase 19 = .ok (.iload_n 3, 1) := by decide +kernel
theorem dX12_erase_20 : decode cX12_erase 20 = .ok (.iload 4, 2) := by decide +kernel
theorem dX12_erase_22 : decode cX12_erase 22 = .ok (.invokevirtual 321, 3) := by decide +kernel
theorem dX12_erase_25 : decode cX12_erase 25 = .ok (.ifCond .ne 9, 3) := by decide +kernel
theorem dX12_erase_28 : decode cX12_erase 28 = .ok (.aload_n 0, 1) := by decide +kernel
theorem dX12_erase_29 : decode cX12_erase 29 = .ok (.iconst 1, 1) := by decide +kernel
theorem dX12_erase_30 : decode cX12_erase 30 = .ok (.invokevirtual 237, 3) := by decide +kernel
theorem dX12_erase_33 : decode cX12_erase 33 = .ok (.ireturn, 1) := by decide +kernel
theorem dX12_erase_34 : decode cX12_erase 34 = .ok (.iload_n 3, 1) := by decide +kernel
theorem dX12_erase_35 : decode cX12_erase 35 = .ok (.iload_n 1, 1) := by decide +kernel
theorem dX12_erase_36 : decode cX12_erase 36 = .ok (.if_icmp .lt 9, 3) := by decide +kernel
theorem dX12_erase_39 : decode cX12_erase 39 = .ok (.iload 4, 2) := by decide +kernel
theorem dX12_erase_41 : decode cX12_erase 41 = .ok (.iload_n 2, 1) := by decide +kernel
theorem dX12_erase_42 : decode cX12_erase 42 = .ok (.if_icmp .ge 9, 3) := by decide +kernel
theorem dX12_erase_45 : decode cX12_erase 45 = .ok (.aload_n 0, 1) := by decide +kernel
theorem dX12_erase_46 : decode cX12_erase 46 = .ok (.iconst 2, 1) := by decide +kernel
theorem dX12_erase_47 : decode cX12_erase 47 = .ok (.invokevirtual 237, 3) := by decide +kernel
theorem dX12_erase_50 : decode cX12_erase 50 = .ok (.ireturn, 1) := by decide +kernel
theorem dX12_erase_51 : decode cX12_erase 51 = .ok (.aload_n 0, 1) := by decide +kernel
theorem dX12_erase_52 : decode cX12_erase 52 = .ok (.invokevirtual 340, 3) := by decide +kernel
theorem dX12_erase_55 : decode cX12_erase 55 = .ok (.pop, 1) := by decide +kernel
theorem dX12_erase_56 : decode cX12_erase 56 = .ok (.iconst 0, 1) := by decide +kernel
theorem dX12_erase_57 : decode cX12_erase 57 = .ok (.istore 5, 2) := by decide +kernel
theorem dX12_erase_59 : decode cX12_erase 59 = .ok (.iload_n 1, 1) := by decide +kernel
theorem dX12_erase_60 : decode cX12_erase 60 = .ok (.istore 6, 2) := by decide +kernel
theorem dX12_erase_62 : decode cX12_erase 62 = .ok (.iload 6, 2) := by decide +kernel
theorem dX12_erase_64 : decode cX12_erase 64 = .ok (.iload_n 3, 1) := by decide +kernel
theorem dX12_erase_65 : decode cX12_erase 65 = .ok (.if_icmp .gt 57, 3) := by decide +kernel
theorem dX12_erase_68 : decode cX12_erase 68 = .ok (.iload_n 2, 1) := by decide +kernel
theorem dX12_erase_69 : decode cX12_erase 69 = .ok (.istore 7, 2) := by decide +kernel
theorem dX12_erase_71 : decode cX12_erase 71 = .ok (.iload 7, 2) := by decide +kernel
theorem dX12_erase_73 : decode cX12_erase 73 = .ok (.iload 4, 2) := by decide +kernel
theorem dX12_erase_75 : decode cX12_erase 75 = .ok (.if_icmp .gt 41, 3) := by decide +kernel
theorem dX12_erase_78 : decode cX12_erase 78 = .ok (.iload 5, 2) := by decide +kernel
theorem dX12_erase_80 : decode cX12_erase 80 = .ok (.aload_n 0, 1) := by decide +kernel
theorem dX12_erase_81 : decode cX12_erase 81 = .ok (.bipush 40, 2) := by decide +kernel
theorem dX12_erase_83 : decode cX12_erase 83 = .ok (.iload 6, 2) := by decide +kernel
theorem dX12_erase_85 : decode cX12_erase 85 = .ok (.iload 7, 2) := by decide +kernel
theorem dX12_erase_87 : decode cX12_erase 87 = .ok (.invokevirtual 812, 3) := by decide +kernel
theorem dX12_erase_90 : decode cX12_erase 90 = .ok (.ifCond .eq 7, 3) := by decide +kernel
theorem dX12_erase_93 : decode cX12_erase 93 = .ok (.iconst 1, 1) := by decide +kernel
theorem dX12_erase_94 : decode cX12_erase 94 = .ok (.goto 4, 3) := by decide +kernel
theorem dX12_erase_97 : decode cX12_erase 97 = .ok (.iconst 0, 1) := by decide +kernel
theorem dX12_erase_98 : decode cX12_erase 98 = .ok (.iadd, 1) := by decide +kernel
theorem dX12_erase_99 : decode cX12_erase 99 = .ok (.istore 5, 2) := by decide +kernel
theorem dX12_erase_101 : decode cX12_erase 101 = .ok (.aload_n 0, 1) := by decide +kernel
theorem dX12_erase_102 : decode cX12_erase 102 = .ok (.iload 6, 2) := by decide +kernel
theorem dX12_erase_104 : decode cX12_erase 104 = .ok (.iload 7, 2) := by decide +kernel
theorem dX12_erase_106 : decode cX12_erase 106 = .ok (.iconst 0, 1) := by decide +kernel
theorem dX12_erase_107 : decode cX12_erase 107 = .ok (.invokevirtual 343, 3) := by decide +kernel
theorem dX12_erase_110 : decode cX12_erase 110 = .ok (.iinc 7 1, 3) := by decide +kernel
theorem dX12_erase_113 : decode cX12_erase 113 = .ok (.goto (-42), 3) := by decide +kernel
theorem dX12_erase_116 : decode cX12_erase 116 = .ok (.iinc 6 1, 3) := by decide +kernel
theorem dX12_erase_119 : decode cX12_erase 119 = .ok (.goto (-57), 3) := by decide +kernel
theorem dX12_erase_122 : decode cX12_erase 122 = .ok (.iload 5, 2) := by decide +kernel
theorem dX12_erase_124 : decode cX12_erase 124 = .ok (.ireturn, 1) := by decide +kernel
