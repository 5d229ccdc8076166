/-! ===== the calls keep the relation: laid by gensm.py ===== -/
theorem pErase_s {r c r2 c2 : Int} {S : SS} : Stay S (pErase r c r2 c2 S).2.2 := by
  unfold pErase
  repeat' split
  all_goals exact ⟨rfl, rfl, rfl, rfl⟩
theorem pErase_t {r c r2 c2 : Int} {S : SS} : (pErase r c r2 c2 S).1 ≤ 2 := by
  unfold pErase
  repeat' split
  all_goals (dsimp only; omega)
theorem pErase_0 {r c r2 c2 : Int} {S : SS} (h : (pErase r c r2 c2 S).1 ≠ 0) : (pErase r c r2 c2 S).2.2 = S := by
  unfold pErase at h ⊢
  repeat' split at h
  all_goals first | (exact absurd rfl h) | skip
  all_goals (repeat' split)
  all_goals first | rfl | (exfalso; omega) | contradiction
theorem pRemove_s {ax p : Int} {S : SS} : Stay S (pRemove ax p S).2.2 := by
  unfold pRemove
  repeat' split
  all_goals exact ⟨rfl, rfl, rfl, rfl⟩
theorem pRemove_t {ax p : Int} {S : SS} : (pRemove ax p S).1 ≤ 3 := by
  unfold pRemove
  repeat' split
  all_goals (dsimp only; omega)
theorem pRemove_0 {ax p : Int} {S : SS} (h : (pRemove ax p S).1 ≠ 0) : (pRemove ax p S).2.2 = S := by
  unfold pRemove at h ⊢
  repeat' split at h
  all_goals first | (exact absurd rfl h) | skip
  all_goals (repeat' split)
  all_goals first | rfl | (exfalso; omega) | contradiction
theorem pMove_s {ax p t : Int} {S : SS} : Stay S (pMove ax p t S).2.2 := by
  unfold pMove
  repeat' split
  all_goals exact ⟨rfl, rfl, rfl, rfl⟩
theorem pMove_t {ax p t : Int} {S : SS} : (pMove ax p t S).1 ≤ 2 := by
  unfold pMove
  repeat' split
  all_goals (dsimp only; omega)
theorem pMove_0 {ax p t : Int} {S : SS} (h : (pMove ax p t S).1 ≠ 0) : (pMove ax p t S).2.2 = S := by
  unfold pMove at h ⊢
  repeat' split at h
  all_goals first | (exact absurd rfl h) | skip
  all_goals (repeat' split)
  all_goals first | rfl | (exfalso; omega) | contradiction
theorem pUndo_s {S : SS} : Stay S (pUndo S).2.2 := by
  unfold pUndo
  repeat' split
  all_goals exact ⟨rfl, rfl, rfl, rfl⟩
theorem pUndo_t {S : SS} : (pUndo S).1 ≤ 1 := by
  unfold pUndo
  repeat' split
  all_goals (dsimp only; omega)
theorem pUndo_0 {S : SS} (h : (pUndo S).1 ≠ 0) : (pUndo S).2.2 = S := by
  unfold pUndo at h ⊢
  repeat' split at h
  all_goals first | (exact absurd rfl h) | skip
  all_goals (repeat' split)
  all_goals first | rfl | (exfalso; omega) | contradiction
theorem pRedo_s {S : SS} : Stay S (pRedo S).2.2 := by
  unfold pRedo
  repeat' split
  all_goals exact ⟨rfl, rfl, rfl, rfl⟩
theorem pRedo_t {S : SS} : (pRedo S).1 ≤ 1 := by
  unfold pRedo
  repeat' split
  all_goals (dsimp only; omega)
theorem pRedo_0 {S : SS} (h : (pRedo S).1 ≠ 0) : (pRedo S).2.2 = S := by
  unfold pRedo at h ⊢
  repeat' split at h
  all_goals first | (exact absurd rfl h) | skip
  all_goals (repeat' split)
  all_goals first | rfl | (exfalso; omega) | contradiction
theorem pBranch_s {x : Int} {S : SS} : Stay S (pBranch x S).2.2 := by
  unfold pBranch
  repeat' split
  all_goals exact ⟨rfl, rfl, rfl, rfl⟩
theorem pBranch_t {x : Int} {S : SS} : (pBranch x S).1 ≤ 2 := by
  unfold pBranch
  repeat' split
  all_goals (dsimp only; omega)
theorem pBranch_0 {x : Int} {S : SS} (h : (pBranch x S).1 ≠ 0) : (pBranch x S).2.2 = S := by
  unfold pBranch at h ⊢
  repeat' split at h
  all_goals first | (exact absurd rfl h) | skip
  all_goals (repeat' split)
  all_goals first | rfl | (exfalso; omega) | contradiction
theorem pPick_s {x : Int} {S : SS} : Stay S (pPick x S).2.2 := by
  unfold pPick
  repeat' split
  all_goals exact ⟨rfl, rfl, rfl, rfl⟩
theorem pPick_t {x : Int} {S : SS} : (pPick x S).1 ≤ 3 := by
  unfold pPick
  repeat' split
  all_goals (dsimp only; omega)
theorem pPick_0 {x : Int} {S : SS} (h : (pPick x S).1 ≠ 0) : (pPick x S).2.2 = S := by
  unfold pPick at h ⊢
  repeat' split at h
  all_goals first | (exact absurd rfl h) | skip
  all_goals (repeat' split)
  all_goals first | rfl | (exfalso; omega) | contradiction
theorem pMerge_s {x : Int} {S : SS} : Stay S (pMerge x S).2.2 := by
  unfold pMerge
  repeat' split
  all_goals exact ⟨rfl, rfl, rfl, rfl⟩
theorem pMerge_t {x : Int} {S : SS} : (pMerge x S).1 ≤ 4 := by
  unfold pMerge
  repeat' split
  all_goals (dsimp only; omega)
theorem pMerge_0 {x : Int} {S : SS} (h : (pMerge x S).1 ≠ 0) : (pMerge x S).2.2 = S := by
  unfold pMerge at h ⊢
  repeat' split at h
  all_goals first | (exact absurd rfl h) | skip
  all_goals (repeat' split)
  all_goals first | rfl | (exfalso; omega) | contradiction
theorem pChoose_s {i th : Int} {S : SS} : Stay S (pChoose i th S).2.2 := by
  unfold pChoose
  repeat' split
  all_goals exact ⟨rfl, rfl, rfl, rfl⟩
theorem pChoose_t {i th : Int} {S : SS} : (pChoose i th S).1 ≤ 1 := by
  unfold pChoose
  repeat' split
  all_goals (dsimp only; omega)
theorem pChoose_0 {i th : Int} {S : SS} (h : (pChoose i th S).1 ≠ 0) : (pChoose i th S).2.2 = S := by
  unfold pChoose at h ⊢
  repeat' split at h
  all_goals first | (exact absurd rfl h) | skip
  all_goals (repeat' split)
  all_goals first | rfl | (exfalso; omega) | contradiction
theorem pDiff_s {v w : Int} {S : SS} : Stay S (pDiff v w S).2.2 := by
  unfold pDiff
  repeat' split
  all_goals exact ⟨rfl, rfl, rfl, rfl⟩
theorem pDiff_t {v w : Int} {S : SS} : (pDiff v w S).1 ≤ 1 := by
  unfold pDiff
  repeat' split
  all_goals (dsimp only; omega)
theorem pDiff_0 {v w : Int} {S : SS} (h : (pDiff v w S).1 ≠ 0) : (pDiff v w S).2.2 = S := by
  unfold pDiff at h ⊢
  repeat' split at h
  all_goals first | (exact absurd rfl h) | skip
  all_goals (repeat' split)
  all_goals first | rfl | (exfalso; omega) | contradiction
theorem pBlame_s {r c : Int} {S : SS} : Stay S (pBlame r c S).2.2 := by
  unfold pBlame
  repeat' split
  all_goals exact ⟨rfl, rfl, rfl, rfl⟩
theorem pBlame_t {r c : Int} {S : SS} : (pBlame r c S).1 ≤ 1 := by
  unfold pBlame
  repeat' split
  all_goals (dsimp only; omega)
theorem pBlame_0 {r c : Int} {S : SS} (h : (pBlame r c S).1 ≠ 0) : (pBlame r c S).2.2 = S := by
  unfold pBlame at h ⊢
  repeat' split at h
  all_goals first | (exact absurd rfl h) | skip
  all_goals (repeat' split)
  all_goals first | rfl | (exfalso; omega) | contradiction
