set_option maxRecDepth 20000 in
theorem c_thrown {h : Hp} {g : Nat → Nat} (hm : MW h g) : Con mX12_thrown 1 0 0 [vr (some (g 0))] h (fun v u => u = h ∧ v = some (vi (hI h (g 0) 0))) := by
  refine con_of rfl (Nat.le_of_ble_eq_true rfl) (by decide) ?_
  show J mX12_thrown 1 0 0 _ 0 [some (vr (some (g 0)))] [] h
  refine j_aload_n (dk dt_X12_thrown 0 rfl) rfl ?_
  refine j_getI (dk dt_X12_thrown 1 rfl) fl_X12_202 rfl hm.1 ?_
  exact j_ireturn (dk dt_X12_thrown 2 rfl) rfl rfl (⟨rfl, rfl⟩)

