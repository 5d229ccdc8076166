/-! ===== in general: what is unsettled; commit ===== -/
def cntZ (f : Nat → Int32) : Nat → Nat
  | 0 => 0
  | n + 1 => cntZ f n + (if f n = 0 then 1 else 0)
theorem cntZ_le (f : Nat → Int32) : ∀ n, cntZ f n ≤ n
  | 0 => Nat.le_refl 0
  | n + 1 => by
    have := cntZ_le f n
    rw [cntZ]; split <;> omega
theorem cntZ_eq {f f' : Nat → Int32} : ∀ {n : Nat}, (∀ j, j < n → (f j = 0 ↔ f' j = 0)) → cntZ f n = cntZ f' n
  | 0, _ => rfl
  | n + 1, h => by
    rw [cntZ, cntZ, cntZ_eq (fun j hj => h j (by omega))]
    congr 1
    by_cases q : f n = 0
    · rw [if_pos q, if_pos ((h n (by omega)).mp q)]
    · rw [if_neg q, if_neg (fun z => q ((h n (by omega)).mpr z))]
/-- whether conflict j of the row ca is settled -/
def stl (h : Hp) (ca : Nat) : Nat → Int32 := fun j => hI h ((hO h ca j).getD 0) 6
set_option maxRecDepth 20000 in
theorem l_unsC {h : Hp} {x ca n : Nat} (k1 : hK h x = 4) (o1 : hO h x 0 = some ca) (k2 : hK h ca = 18) (k3 : hN h ca = 362) (hc : hI h x 2 = nI n) (hn : n ≤ 362) (hv : ∀ j, j < n → ∃ c, hO h ca j = some c ∧ hK h c = 1) : ∀ (n_ : Nat) (i : Nat), n - i < n_ → (i ≤ n) → J mX3_unsettled 1 0 0 (nx (fun v u => u = h ∧ v = some (vi (nI (cntZ (stl h ca) n))))) 4 [some (vr (some x)), some (vi (nI (cntZ (stl h ca) i))), some (vi (nI i))] [] h := by
  intro n_
  induction n_ with
  | zero => intro i hlt; omega
  | succ n_ ih =>
    intro i hlt hinv
    refine j_iload_n dX3_unsettled_4 rfl ?_
    refine j_aload_n dX3_unsettled_5 rfl ?_
    refine j_getI dX3_unsettled_6 fl_X3_21 rfl k1 ?_
    rw [hc]
    refine j_icmp_ge 38 dX3_unsettled_9 (by decide) (fun c_9 => ?_) (fun c_9 => ?_)
    · have he : i = n := by rw [nI_leI (by omega) (by omega)] at c_9; omega
      subst he
      refine j_iload_n dX3_unsettled_38 rfl ?_
      exact j_ireturn dX3_unsettled_39 rfl rfl (⟨rfl, rfl⟩)
    · have hlt2 : i < n := by rw [nI_leI (by omega) (by omega)] at c_9; omega
      obtain ⟨c, hc1, hc2⟩ := hv i hlt2
      refine j_iload_n dX3_unsettled_12 rfl ?_
      refine j_aload_n dX3_unsettled_13 rfl ?_
      refine j_getR dX3_unsettled_14 fl_X3_11 rfl k1 o1 ?_
      refine j_iload_n dX3_unsettled_17 rfl ?_
      refine j_aald (t := 4) i dX3_unsettled_18 k2 (by decide) (by decide) rfl (by rw [k3]; omega) (by rw [k3]; decide) ?_
      rw [hc1]
      refine j_getI dX3_unsettled_19 fl_X3_25 rfl hc2 ?_
      rw [show hI h c 6 = stl h ca i by rw [stl, hc1]; rfl]
      refine j_if_eq 29 dX3_unsettled_22 (by decide) (fun c_22 => ?_) (fun c_22 => ?_)
      · refine j_iconst (v := 1) dX3_unsettled_29 (by decide) ?_
        refine j_iadd dX3_unsettled_30 ?_
        refine j_istore_n dX3_unsettled_31 (by decide) ?_
        dsimp only [st1, st2, unL, List.set]
        refine j_iinc dX3_unsettled_32 rfl ?_
        dsimp only [st1, st2, unL, List.set]
        refine j_goto 4 dX3_unsettled_35 (by decide) ?_
        have e9 : cntZ (stl h ca) (i + 1) = cntZ (stl h ca) i + (if (stl h ca) i = 0 then 1 else 0) := rfl
        refine j_lle (lv' := [some (vr (some x)), some (vi (nI (cntZ (stl h ca) (i + 1)))), some (vi (nI (i + 1)))]) (by first | (rw [e9, if_pos (by assumption)]; simp [lle, nI_1]; done) | (rw [e9, if_neg (by assumption)]; simp [lle, nI_1]; done)) ?_
        exact ih (i + 1) (by omega) (by omega)
      · refine j_iconst (v := 0) dX3_unsettled_25 (by decide) ?_
        refine j_goto 30 dX3_unsettled_26 (by decide) ?_
        refine j_iadd dX3_unsettled_30 ?_
        refine j_istore_n dX3_unsettled_31 (by decide) ?_
        dsimp only [st1, st2, unL, List.set]
        refine j_iinc dX3_unsettled_32 rfl ?_
        dsimp only [st1, st2, unL, List.set]
        refine j_goto 4 dX3_unsettled_35 (by decide) ?_
        have e9 : cntZ (stl h ca) (i + 1) = cntZ (stl h ca) i + (if (stl h ca) i = 0 then 1 else 0) := rfl
        refine j_lle (lv' := [some (vr (some x)), some (vi (nI (cntZ (stl h ca) (i + 1)))), some (vi (nI (i + 1)))]) (by first | (rw [e9, if_pos (by assumption)]; simp [lle, nI_1]; done) | (rw [e9, if_neg (by assumption)]; simp [lle, nI_1]; done)) ?_
        exact ih (i + 1) (by omega) (by omega)

set_option maxRecDepth 20000 in
theorem g_unsettled {h : Hp} {x ca n : Nat} (k1 : hK h x = 4) (o1 : hO h x 0 = some ca) (k2 : hK h ca = 18) (k3 : hN h ca = 362) (hc : hI h x 2 = nI n) (hn : n ≤ 362) (hv : ∀ j, j < n → ∃ c, hO h ca j = some c ∧ hK h c = 1) : Con mX3_unsettled 1 0 0 [vr (some x)] h (fun v u => u = h ∧ v = some (vi (nI (cntZ (stl h ca) n)))) := by
  refine con_of rfl (Nat.le_of_ble_eq_true rfl) (by decide) ?_
  show J mX3_unsettled 1 0 0 _ 0 [some (vr (some x)), none, none] [] h
  refine j_iconst (v := 0) dX3_unsettled_0 (by decide) ?_
  refine j_istore_n dX3_unsettled_1 (by decide) ?_
  dsimp only [st1, st2, unL, List.set]
  refine j_iconst (v := 0) dX3_unsettled_2 (by decide) ?_
  refine j_istore_n dX3_unsettled_3 (by decide) ?_
  dsimp only [st1, st2, unL, List.set]
  refine j_lle (lv' := [some (vr (some x)), some (vi (nI (cntZ (stl h ca) 0))), some (vi (nI 0))]) (by simp [lle, nI_1]; exact ⟨rfl, rfl⟩) ?_
  exact l_unsC k1 o1 k2 k3 hc hn hv (n + 1) 0 (by omega) (by omega)

set_option maxRecDepth 20000 in
theorem l_unsM {h : Hp} {g : Nat → Nat} {n : Nat} (hm : MW h g) (hc : hI h (g 0) 98 = nI n) (hn : n ≤ 370) : ∀ (n_ : Nat) (i : Nat), n - i < n_ → (i ≤ n) → J mX12_unsettled 1 0 0 (nx (fun v u => u = h ∧ v = some (vi (nI (cntZ (hI h (g 97)) n))))) 4 [some (vr (some (g 0))), some (vi (nI (cntZ (hI h (g 97)) i))), some (vi (nI i))] [] h := by
  intro n_
  induction n_ with
  | zero => intro i hlt; omega
  | succ n_ ih =>
    intro i hlt hinv
    refine j_iload_n dX12_unsettled_4 rfl ?_
    refine j_aload_n dX12_unsettled_5 rfl ?_
    refine j_getI dX12_unsettled_6 fl_X12_868 rfl hm.1 ?_
    rw [hc]
    refine j_icmp_ge 35 dX12_unsettled_9 (by decide) (fun c_9 => ?_) (fun c_9 => ?_)
    · have he : i = n := by rw [nI_leI (by omega) (by omega)] at c_9; omega
      subst he
      refine j_iload_n dX12_unsettled_35 rfl ?_
      exact j_ireturn dX12_unsettled_36 rfl rfl (⟨rfl, rfl⟩)
    · have hlt2 : i < n := by rw [nI_leI (by omega) (by omega)] at c_9; omega
      refine j_iload_n dX12_unsettled_12 rfl ?_
      refine j_aload_n dX12_unsettled_13 rfl ?_
      refine j_getR dX12_unsettled_14 fl_X12_183 rfl hm.1 (mO hm rfl) ?_
      refine j_iload_n dX12_unsettled_17 rfl ?_
      refine j_zald i dX12_unsettled_18 (mK hm rfl) rfl (Nat.lt_of_lt_of_eq (by omega) (mN hm (k := 97) (n := 370) rfl rfl).symm) (Nat.lt_of_le_of_lt (Nat.le_of_eq (mN hm (k := 97) (n := 370) rfl rfl)) (by decide)) ?_
      refine j_if_eq 26 dX12_unsettled_19 (by decide) (fun c_19 => ?_) (fun c_19 => ?_)
      · refine j_iconst (v := 1) dX12_unsettled_26 (by decide) ?_
        refine j_iadd dX12_unsettled_27 ?_
        refine j_istore_n dX12_unsettled_28 (by decide) ?_
        dsimp only [st1, st2, unL, List.set]
        refine j_iinc dX12_unsettled_29 rfl ?_
        dsimp only [st1, st2, unL, List.set]
        refine j_goto 4 dX12_unsettled_32 (by decide) ?_
        have e9 : cntZ (hI h (g 97)) (i + 1) = cntZ (hI h (g 97)) i + (if (hI h (g 97)) i = 0 then 1 else 0) := rfl
        refine j_lle (lv' := [some (vr (some (g 0))), some (vi (nI (cntZ (hI h (g 97)) (i + 1)))), some (vi (nI (i + 1)))]) (by first | (rw [e9, if_pos (by assumption)]; simp [lle, nI_1]; done) | (rw [e9, if_neg (by assumption)]; simp [lle, nI_1]; done)) ?_
        exact ih (i + 1) (by omega) (by omega)
      · refine j_iconst (v := 0) dX12_unsettled_22 (by decide) ?_
        refine j_goto 27 dX12_unsettled_23 (by decide) ?_
        refine j_iadd dX12_unsettled_27 ?_
        refine j_istore_n dX12_unsettled_28 (by decide) ?_
        dsimp only [st1, st2, unL, List.set]
        refine j_iinc dX12_unsettled_29 rfl ?_
        dsimp only [st1, st2, unL, List.set]
        refine j_goto 4 dX12_unsettled_32 (by decide) ?_
        have e9 : cntZ (hI h (g 97)) (i + 1) = cntZ (hI h (g 97)) i + (if (hI h (g 97)) i = 0 then 1 else 0) := rfl
        refine j_lle (lv' := [some (vr (some (g 0))), some (vi (nI (cntZ (hI h (g 97)) (i + 1)))), some (vi (nI (i + 1)))]) (by first | (rw [e9, if_pos (by assumption)]; simp [lle, nI_1]; done) | (rw [e9, if_neg (by assumption)]; simp [lle, nI_1]; done)) ?_
        exact ih (i + 1) (by omega) (by omega)

set_option maxRecDepth 20000 in
theorem f_unsettled {h : Hp} {g : Nat → Nat} {n : Nat} (hm : MW h g) (hc : hI h (g 0) 98 = nI n) (hn : n ≤ 370) : Con mX12_unsettled 1 0 0 [vr (some (g 0))] h (fun v u => u = h ∧ v = some (vi (nI (cntZ (hI h (g 97)) n)))) := by
  refine con_of rfl (Nat.le_of_ble_eq_true rfl) (by decide) ?_
  show J mX12_unsettled 1 0 0 _ 0 [some (vr (some (g 0))), none, none] [] h
  refine j_iconst (v := 0) dX12_unsettled_0 (by decide) ?_
  refine j_istore_n dX12_unsettled_1 (by decide) ?_
  dsimp only [st1, st2, unL, List.set]
  refine j_iconst (v := 0) dX12_unsettled_2 (by decide) ?_
  refine j_istore_n dX12_unsettled_3 (by decide) ?_
  dsimp only [st1, st2, unL, List.set]
  refine j_lle (lv' := [some (vr (some (g 0))), some (vi (nI (cntZ (hI h (g 97)) 0))), some (vi (nI 0))]) (by simp [lle, nI_1]; exact ⟨rfl, rfl⟩) ?_
  exact l_unsM hm hc hn (n + 1) 0 (by omega) (by omega)

