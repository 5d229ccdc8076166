/-! ===== the constructors: laid by tr.py (the reference's as far as its last call) ===== -/
def L_X12_init_503  (t0 : Nat) (x1 : Int) (z : Z) (c : Nat) (s : Nat) (P : (Int × Z) ⊕ ((Z)) → Prop) : Prop :=
  (if 6 ≤ x1 then P (.inr z) else (zK z t0 = 13 ∧ (∃ a_515, zO z t0 11 = some a_515 ∧ zK z a_515 = 15 ∧ (0 ≤ x1 ∧ x1 < zN z a_515 ∧ (∀ z_515, z_515 = wI z a_515 x1 (-1) → P (.inl (w32 (x1 + 1), z_515)))))))
theorem U_X12_init_503  {t0 : Nat} {x1 : Int} {z : Z} {c : Nat} {s : Nat} {P : (Int × Z) ⊕ ((Z)) → Prop} {post : Option Sv ⊕ String → Hp → Prop} (r_x1 : R32 x1) (hw : Wz z)  (hl : ∀ (x1 : Int) (z : Z), P (.inl (x1, z)) → Wz z → R32 x1 → J mX12_init 4 c s post 503 [some (vr (some t0)), some (ii (x1))] [] (cz z)) (he0 : ∀ (z : Z), P (.inr z) → Wz z → J mX12_init 4 c s post 522 [some (vr (some t0)), none] [] (cz z)) (H : L_X12_init_503 t0 x1 z c s P) : J mX12_init 4 c s post 503 [some (vr (some t0)), some (ii (x1))] [] (cz z) := by
  unfold L_X12_init_503 at H
  refine j_iload_n (dk dt_X12_init 240 rfl) rfl ?_
  refine j_bipush (v := Int32.ofInt 6) (dk dt_X12_init 241 rfl) (by decide) ?_
  refine jz_icmp_ge 522 (dk dt_X12_init 242 rfl) (by decide) r_x1 (by decide) H (fun H => ?_) (fun H => ?_)
  · exact j_el (he0 _ H hw) (And.intro rfl trivial)
  · refine j_aload_n (dk dt_X12_init 243 rfl) rfl ?_
    obtain ⟨k_510, H⟩ := H
    refine jz_getO (kz := 11) (dk dt_X12_init 244 rfl) fl_X12_42 rfl rfl rfl k_510 ?_
    refine j_iload_n (dk dt_X12_init 245 rfl) rfl ?_
    refine j_iconst (v := Int32.ofInt (-1)) (dk dt_X12_init 246 rfl) (by decide) ?_
    obtain ⟨a_515, e_515, k_515, H⟩ := H
    obtain ⟨p_515, q_515, H⟩ := H
    refine jz_iast (dk dt_X12_init 247 rfl) e_515 k_515 p_515 q_515 hw (by decide) (fun w_515 => ?_)
    replace H := H _ rfl
    refine jz_iinc (dk dt_X12_init 248 rfl) rfl ?_
    refine j_goto 503 (dk dt_X12_init 249 rfl) (by decide) ?_
    exact j_el (hl _ _ H w_515 (r32_w _)) (And.intro rfl (And.intro rfl trivial))
def L_X12_init_554  (t0 : Nat) (x1 : Int) (z : Z) (c : Nat) (s : Nat) (P : (Int × Z) ⊕ ((Z)) → Prop) : Prop :=
  (if 8 ≤ x1 then P (.inr z) else (zK z t0 = 13 ∧ (∃ a_566, zO z t0 3 = some a_566 ∧ zK z a_566 = 15 ∧ (0 ≤ x1 ∧ x1 < zN z a_566 ∧ (∀ z_566, z_566 = wI z a_566 x1 x1 → P (.inl (w32 (x1 + 1), z_566)))))))
theorem U_X12_init_554  {t0 : Nat} {x1 : Int} {z : Z} {c : Nat} {s : Nat} {P : (Int × Z) ⊕ ((Z)) → Prop} {post : Option Sv ⊕ String → Hp → Prop} (r_x1 : R32 x1) (hw : Wz z)  (hl : ∀ (x1 : Int) (z : Z), P (.inl (x1, z)) → Wz z → R32 x1 → J mX12_init 4 c s post 554 [some (vr (some t0)), some (ii (x1))] [] (cz z)) (he0 : ∀ (z : Z), P (.inr z) → Wz z → J mX12_init 4 c s post 573 [some (vr (some t0)), none] [] (cz z)) (H : L_X12_init_554 t0 x1 z c s P) : J mX12_init 4 c s post 554 [some (vr (some t0)), some (ii (x1))] [] (cz z) := by
  unfold L_X12_init_554 at H
  refine j_iload_n (dk dt_X12_init 272 rfl) rfl ?_
  refine j_bipush (v := Int32.ofInt 8) (dk dt_X12_init 273 rfl) (by decide) ?_
  refine jz_icmp_ge 573 (dk dt_X12_init 274 rfl) (by decide) r_x1 (by decide) H (fun H => ?_) (fun H => ?_)
  · exact j_el (he0 _ H hw) (And.intro rfl trivial)
  · refine j_aload_n (dk dt_X12_init 275 rfl) rfl ?_
    obtain ⟨k_561, H⟩ := H
    refine jz_getO (kz := 3) (dk dt_X12_init 276 rfl) fl_X12_16 rfl rfl rfl k_561 ?_
    refine j_iload_n (dk dt_X12_init 277 rfl) rfl ?_
    refine j_iload_n (dk dt_X12_init 278 rfl) rfl ?_
    obtain ⟨a_566, e_566, k_566, H⟩ := H
    obtain ⟨p_566, q_566, H⟩ := H
    refine jz_iast (dk dt_X12_init 279 rfl) e_566 k_566 p_566 q_566 hw r_x1 (fun w_566 => ?_)
    replace H := H _ rfl
    refine jz_iinc (dk dt_X12_init 280 rfl) rfl ?_
    refine j_goto 554 (dk dt_X12_init 281 rfl) (by decide) ?_
    exact j_el (hl _ _ H w_566 (r32_w _)) (And.intro rfl (And.intro rfl trivial))
def L_X12_init_575  (t0 : Nat) (x1 : Int) (z : Z) (c : Nat) (s : Nat) (P : (Int × Z) ⊕ ((Z)) → Prop) : Prop :=
  (if 6 ≤ x1 then P (.inr z) else (zK z t0 = 13 ∧ (∃ a_587, zO z t0 4 = some a_587 ∧ zK z a_587 = 15 ∧ (0 ≤ x1 ∧ x1 < zN z a_587 ∧ (∀ z_587, z_587 = wI z a_587 x1 x1 → P (.inl (w32 (x1 + 1), z_587)))))))
theorem U_X12_init_575  {t0 : Nat} {x1 : Int} {z : Z} {c : Nat} {s : Nat} {P : (Int × Z) ⊕ ((Z)) → Prop} {post : Option Sv ⊕ String → Hp → Prop} (r_x1 : R32 x1) (hw : Wz z)  (hl : ∀ (x1 : Int) (z : Z), P (.inl (x1, z)) → Wz z → R32 x1 → J mX12_init 4 c s post 575 [some (vr (some t0)), some (ii (x1))] [] (cz z)) (he0 : ∀ (z : Z), P (.inr z) → Wz z → J mX12_init 4 c s post 594 [some (vr (some t0)), none] [] (cz z)) (H : L_X12_init_575 t0 x1 z c s P) : J mX12_init 4 c s post 575 [some (vr (some t0)), some (ii (x1))] [] (cz z) := by
  unfold L_X12_init_575 at H
  refine j_iload_n (dk dt_X12_init 284 rfl) rfl ?_
  refine j_bipush (v := Int32.ofInt 6) (dk dt_X12_init 285 rfl) (by decide) ?_
  refine jz_icmp_ge 594 (dk dt_X12_init 286 rfl) (by decide) r_x1 (by decide) H (fun H => ?_) (fun H => ?_)
  · exact j_el (he0 _ H hw) (And.intro rfl trivial)
  · refine j_aload_n (dk dt_X12_init 287 rfl) rfl ?_
    obtain ⟨k_582, H⟩ := H
    refine jz_getO (kz := 4) (dk dt_X12_init 288 rfl) fl_X12_19 rfl rfl rfl k_582 ?_
    refine j_iload_n (dk dt_X12_init 289 rfl) rfl ?_
    refine j_iload_n (dk dt_X12_init 290 rfl) rfl ?_
    obtain ⟨a_587, e_587, k_587, H⟩ := H
    obtain ⟨p_587, q_587, H⟩ := H
    refine jz_iast (dk dt_X12_init 291 rfl) e_587 k_587 p_587 q_587 hw r_x1 (fun w_587 => ?_)
    replace H := H _ rfl
    refine jz_iinc (dk dt_X12_init 292 rfl) rfl ?_
    refine j_goto 575 (dk dt_X12_init 293 rfl) (by decide) ?_
    exact j_el (hl _ _ H w_587 (r32_w _)) (And.intro rfl (And.intro rfl trivial))
def F_X12_init_575  (t0 : Nat) (x1 : Int) (z : Z) (c : Nat) (s : Nat) (P : Z → Prop) : Prop :=
  lp (S := Int × Z) (E := (Z)) (fun q P_ => L_X12_init_575 t0 q.1 q.2 c s P_) (x1, z) (fun (z : Z) => P z)
theorem T_X12_init_575  {t0 : Nat} {x1 : Int} {z : Z} {c : Nat} {s : Nat} {P : Z → Prop} {post : Option Sv ⊕ String → Hp → Prop} (K : ∀ (z : Z) (c s : Nat), Wz z → P z → J mX12_init 4 c s post 598 [some (vr (some t0)), none] [ii 40, ii 0, vr (some t0)] (cz z)) (r_x1 : R32 x1) (hw : Wz z)   (H : F_X12_init_575 t0 x1 z c s P) : J mX12_init 4 c s post 575 [some (vr (some t0)), some (ii (x1))] [] (cz z) := by
  unfold F_X12_init_575 at H
  refine lp_J (G := fun q => Wz (q.2) → R32 (q.1) → J mX12_init 4 c s post 575 [some (vr (some t0)), some (ii ((q.1)))] [] (cz (q.2))) (fun q P_ hl_ he_ Hb => ?_) (x1, z) H hw r_x1
  obtain ⟨x1, z⟩ := q
  intro hw r_x1
  refine U_X12_init_575 (P := P_) r_x1 hw  (fun x1 z Hp hw r_x1 => hl_ (x1, z) Hp hw r_x1) ?_ Hb
  · intro z Hp hw
    have H := he_ _ Hp
    refine j_aload_n (dk dt_X12_init 294 rfl) rfl ?_
    refine j_iconst (v := Int32.ofInt 0) (dk dt_X12_init 295 rfl) (by decide) ?_
    refine j_bipush (v := Int32.ofInt 40) (dk dt_X12_init 296 rfl) (by decide) ?_
    exact K _ _ _ hw H
def F_X12_init_554  (t0 : Nat) (x1 : Int) (z : Z) (c : Nat) (s : Nat) (P : Z → Prop) : Prop :=
  lp (S := Int × Z) (E := (Z)) (fun q P_ => L_X12_init_554 t0 q.1 q.2 c s P_) (x1, z) (fun (z : Z) => F_X12_init_575 t0 0 z c s P)
theorem T_X12_init_554  {t0 : Nat} {x1 : Int} {z : Z} {c : Nat} {s : Nat} {P : Z → Prop} {post : Option Sv ⊕ String → Hp → Prop} (K : ∀ (z : Z) (c s : Nat), Wz z → P z → J mX12_init 4 c s post 598 [some (vr (some t0)), none] [ii 40, ii 0, vr (some t0)] (cz z)) (r_x1 : R32 x1) (hw : Wz z)   (H : F_X12_init_554 t0 x1 z c s P) : J mX12_init 4 c s post 554 [some (vr (some t0)), some (ii (x1))] [] (cz z) := by
  unfold F_X12_init_554 at H
  refine lp_J (G := fun q => Wz (q.2) → R32 (q.1) → J mX12_init 4 c s post 554 [some (vr (some t0)), some (ii ((q.1)))] [] (cz (q.2))) (fun q P_ hl_ he_ Hb => ?_) (x1, z) H hw r_x1
  obtain ⟨x1, z⟩ := q
  intro hw r_x1
  refine U_X12_init_554 (P := P_) r_x1 hw  (fun x1 z Hp hw r_x1 => hl_ (x1, z) Hp hw r_x1) ?_ Hb
  · intro z Hp hw
    have H := he_ _ Hp
    refine j_iconst (v := Int32.ofInt 0) (dk dt_X12_init 282 rfl) (by decide) ?_
    refine j_istore_n (dk dt_X12_init 283 rfl) (by decide) ?_
    exact j_el (T_X12_init_575 K (by decide) hw   H) (And.intro rfl (And.intro rfl trivial))
def F_X12_init_503  (t0 : Nat) (x1 : Int) (z : Z) (c : Nat) (s : Nat) (P : Z → Prop) : Prop :=
  lp (S := Int × Z) (E := (Z)) (fun q P_ => L_X12_init_503 t0 q.1 q.2 c s P_) (x1, z) (fun (z : Z) => (zK z t0 = 13 ∧ (∃ a_528, zO z t0 9 = some a_528 ∧ zK z a_528 = 15 ∧ ((0 : Int) ≤ 0 ∧ 0 < zN z a_528 ∧ (∀ z_528, z_528 = wI z a_528 0 (-1) → (∃ a_535, zO z_528 t0 10 = some a_535 ∧ zK z_528 a_535 = 15 ∧ ((0 : Int) ≤ 0 ∧ 0 < zN z_528 a_535 ∧ (∀ z_535, z_535 = wI z_528 a_535 0 (-1) → (∃ a_543, zO z_535 t0 1 = some a_543 ∧ zK z_535 a_543 = 15 ∧ ((0 : Int) ≤ 0 ∧ 0 < zN z_535 a_543 ∧ (∀ z_543, z_543 = wI z_535 a_543 0 8 → (∃ a_551, zO z_543 t0 2 = some a_551 ∧ zK z_543 a_551 = 15 ∧ ((0 : Int) ≤ 0 ∧ 0 < zN z_543 a_551 ∧ (∀ z_551, z_551 = wI z_543 a_551 0 6 → F_X12_init_554 t0 0 z_551 c s P))))))))))))))
theorem T_X12_init_503  {t0 : Nat} {x1 : Int} {z : Z} {c : Nat} {s : Nat} {P : Z → Prop} {post : Option Sv ⊕ String → Hp → Prop} (K : ∀ (z : Z) (c s : Nat), Wz z → P z → J mX12_init 4 c s post 598 [some (vr (some t0)), none] [ii 40, ii 0, vr (some t0)] (cz z)) (r_x1 : R32 x1) (hw : Wz z)   (H : F_X12_init_503 t0 x1 z c s P) : J mX12_init 4 c s post 503 [some (vr (some t0)), some (ii (x1))] [] (cz z) := by
  unfold F_X12_init_503 at H
  refine lp_J (G := fun q => Wz (q.2) → R32 (q.1) → J mX12_init 4 c s post 503 [some (vr (some t0)), some (ii ((q.1)))] [] (cz (q.2))) (fun q P_ hl_ he_ Hb => ?_) (x1, z) H hw r_x1
  obtain ⟨x1, z⟩ := q
  intro hw r_x1
  refine U_X12_init_503 (P := P_) r_x1 hw  (fun x1 z Hp hw r_x1 => hl_ (x1, z) Hp hw r_x1) ?_ Hb
  · intro z Hp hw
    have H := he_ _ Hp
    refine j_aload_n (dk dt_X12_init 250 rfl) rfl ?_
    obtain ⟨k_523, H⟩ := H
    refine jz_getO (kz := 9) (dk dt_X12_init 251 rfl) fl_X12_36 rfl rfl rfl k_523 ?_
    refine j_iconst (v := Int32.ofInt 0) (dk dt_X12_init 252 rfl) (by decide) ?_
    refine j_iconst (v := Int32.ofInt (-1)) (dk dt_X12_init 253 rfl) (by decide) ?_
    obtain ⟨a_528, e_528, k_528, H⟩ := H
    obtain ⟨p_528, q_528, H⟩ := H
    refine jz_iast (dk dt_X12_init 254 rfl) e_528 k_528 p_528 q_528 hw (by decide) (fun w_528 => ?_)
    replace H := H _ rfl
    refine j_aload_n (dk dt_X12_init 255 rfl) rfl ?_
    refine jz_getO (kz := 10) (dk dt_X12_init 256 rfl) fl_X12_39 rfl rfl rfl k_523 ?_
    refine j_iconst (v := Int32.ofInt 0) (dk dt_X12_init 257 rfl) (by decide) ?_
    refine j_iconst (v := Int32.ofInt (-1)) (dk dt_X12_init 258 rfl) (by decide) ?_
    obtain ⟨a_535, e_535, k_535, H⟩ := H
    obtain ⟨p_535, q_535, H⟩ := H
    refine jz_iast (dk dt_X12_init 259 rfl) e_535 k_535 p_535 q_535 w_528 (by decide) (fun w_535 => ?_)
    replace H := H _ rfl
    refine j_aload_n (dk dt_X12_init 260 rfl) rfl ?_
    refine jz_getO (kz := 1) (dk dt_X12_init 261 rfl) fl_X12_7 rfl rfl rfl k_523 ?_
    refine j_iconst (v := Int32.ofInt 0) (dk dt_X12_init 262 rfl) (by decide) ?_
    refine j_bipush (v := Int32.ofInt 8) (dk dt_X12_init 263 rfl) (by decide) ?_
    obtain ⟨a_543, e_543, k_543, H⟩ := H
    obtain ⟨p_543, q_543, H⟩ := H
    refine jz_iast (dk dt_X12_init 264 rfl) e_543 k_543 p_543 q_543 w_535 (by decide) (fun w_543 => ?_)
    replace H := H _ rfl
    refine j_aload_n (dk dt_X12_init 265 rfl) rfl ?_
    refine jz_getO (kz := 2) (dk dt_X12_init 266 rfl) fl_X12_13 rfl rfl rfl k_523 ?_
    refine j_iconst (v := Int32.ofInt 0) (dk dt_X12_init 267 rfl) (by decide) ?_
    refine j_bipush (v := Int32.ofInt 6) (dk dt_X12_init 268 rfl) (by decide) ?_
    obtain ⟨a_551, e_551, k_551, H⟩ := H
    obtain ⟨p_551, q_551, H⟩ := H
    refine jz_iast (dk dt_X12_init 269 rfl) e_551 k_551 p_551 q_551 w_543 (by decide) (fun w_551 => ?_)
    replace H := H _ rfl
    refine j_iconst (v := Int32.ofInt 0) (dk dt_X12_init 270 rfl) (by decide) ?_
    refine j_istore_n (dk dt_X12_init 271 rfl) (by decide) ?_
    exact j_el (T_X12_init_554 K (by decide) w_551   H) (And.intro rfl (And.intro rfl trivial))
set_option maxRecDepth 50000 in
def F_X12_init  (t0 : Nat) (z : Z) (c : Nat) (s : Nat) (P : Z → Prop) : Prop :=
  ((0 : Int) ≤ 122 ∧ 122 < (33554432 : Int) ∧ 1 ≤ c ∧ Int.toNat 122 ≤ s ∧ ∀ a_7, zK z a_7 = 0 → (∀ z_7, z_7 = nZ z a_7 15 122 → (zK z_7 t0 = 13 ∧ (∀ z_9, z_9 = wO z_7 t0 1 (some a_7) → ((0 : Int) ≤ 122 ∧ 122 < (33554432 : Int) ∧ 1 ≤ c - 1 ∧ Int.toNat 122 ≤ s - Int.toNat 122 ∧ ∀ a_15, zK z_9 a_15 = 0 → (∀ z_15, z_15 = nZ z_9 a_15 15 122 → (zK z_15 t0 = 13 ∧ (∀ z_17, z_17 = wO z_15 t0 2 (some a_15) → ((0 : Int) ≤ 3904 ∧ 3904 < (33554432 : Int) ∧ 1 ≤ (c - 1) - 1 ∧ Int.toNat 3904 ≤ (s - Int.toNat 122) - Int.toNat 122 ∧ ∀ a_24, zK z_17 a_24 = 0 → (∀ z_24, z_24 = nZ z_17 a_24 15 3904 → (zK z_24 t0 = 13 ∧ (∀ z_26, z_26 = wO z_24 t0 3 (some a_24) → ((0 : Int) ≤ 1220 ∧ 1220 < (33554432 : Int) ∧ 1 ≤ ((c - 1) - 1) - 1 ∧ Int.toNat 1220 ≤ ((s - Int.toNat 122) - Int.toNat 122) - Int.toNat 3904 ∧ ∀ a_33, zK z_26 a_33 = 0 → (∀ z_33, z_33 = nZ z_26 a_33 15 1220 → (zK z_33 t0 = 13 ∧ (∀ z_35, z_35 = wO z_33 t0 4 (some a_33) → ((0 : Int) ≤ 39040 ∧ 39040 < (33554432 : Int) ∧ 1 ≤ (((c - 1) - 1) - 1) - 1 ∧ Int.toNat 39040 ≤ (((s - Int.toNat 122) - Int.toNat 122) - Int.toNat 3904) - Int.toNat 1220 ∧ ∀ a_41, zK z_35 a_41 = 0 → (∀ z_41, z_41 = nZ z_35 a_41 15 39040 → (zK z_41 t0 = 13 ∧ (∀ z_43, z_43 = wO z_41 t0 5 (some a_41) → (∀ z_49, z_49 = wI z_43 t0 6 8 → (∀ z_55, z_55 = wI z_49 t0 7 6 → (∀ z_60, z_60 = wI z_55 t0 8 1 → ((0 : Int) ≤ 40 ∧ 40 < (33554432 : Int) ∧ 1 ≤ ((((c - 1) - 1) - 1) - 1) - 1 ∧ Int.toNat 40 ≤ ((((s - Int.toNat 122) - Int.toNat 122) - Int.toNat 3904) - Int.toNat 1220) - Int.toNat 39040 ∧ ∀ a_66, zK z_60 a_66 = 0 → (∀ z_66, z_66 = nZ z_60 a_66 15 40 → (zK z_66 t0 = 13 ∧ (∀ z_68, z_68 = wO z_66 t0 9 (some a_66) → ((0 : Int) ≤ 40 ∧ 40 < (33554432 : Int) ∧ 1 ≤ (((((c - 1) - 1) - 1) - 1) - 1) - 1 ∧ Int.toNat 40 ≤ (((((s - Int.toNat 122) - Int.toNat 122) - Int.toNat 3904) - Int.toNat 1220) - Int.toNat 39040) - Int.toNat 40 ∧ ∀ a_74, zK z_68 a_74 = 0 → (∀ z_74, z_74 = nZ z_68 a_74 15 40 → (zK z_74 t0 = 13 ∧ (∀ z_76, z_76 = wO z_74 t0 10 (some a_74) → ((0 : Int) ≤ 6 ∧ 6 < (33554432 : Int) ∧ 1 ≤ ((((((c - 1) - 1) - 1) - 1) - 1) - 1) - 1 ∧ Int.toNat 6 ≤ ((((((s - Int.toNat 122) - Int.toNat 122) - Int.toNat 3904) - Int.toNat 1220) - Int.toNat 39040) - Int.toNat 40) - Int.toNat 40 ∧ ∀ a_82, zK z_76 a_82 = 0 → (∀ z_82, z_82 = nZ z_76 a_82 15 6 → (zK z_82 t0 = 13 ∧ (∀ z_84, z_84 = wO z_82 t0 11 (some a_82) → (∀ z_89, z_89 = wI z_84 t0 13 (-1) → ((0 : Int) ≤ 82400 ∧ 82400 < (33554432 : Int) ∧ 1 ≤ (((((((c - 1) - 1) - 1) - 1) - 1) - 1) - 1) - 1 ∧ Int.toNat 82400 ≤ (((((((s - Int.toNat 122) - Int.toNat 122) - Int.toNat 3904) - Int.toNat 1220) - Int.toNat 39040) - Int.toNat 40) - Int.toNat 40) - Int.toNat 6 ∧ ∀ a_95, zK z_89 a_95 = 0 → (∀ z_95, z_95 = nZ z_89 a_95 14 82400 → (zK z_95 t0 = 13 ∧ (∀ z_97, z_97 = wO z_95 t0 18 (some a_95) → ((0 : Int) ≤ 4200 ∧ 4200 < (33554432 : Int) ∧ 1 ≤ ((((((((c - 1) - 1) - 1) - 1) - 1) - 1) - 1) - 1) - 1 ∧ Int.toNat 4200 ≤ ((((((((s - Int.toNat 122) - Int.toNat 122) - Int.toNat 3904) - Int.toNat 1220) - Int.toNat 39040) - Int.toNat 40) - Int.toNat 40) - Int.toNat 6) - Int.toNat 82400 ∧ ∀ a_104, zK z_97 a_104 = 0 → (∀ z_104, z_104 = nZ z_97 a_104 15 4200 → (zK z_104 t0 = 13 ∧ (∀ z_106, z_106 = wO z_104 t0 20 (some a_104) → ((0 : Int) ≤ 4200 ∧ 4200 < (33554432 : Int) ∧ 1 ≤ (((((((((c - 1) - 1) - 1) - 1) - 1) - 1) - 1) - 1) - 1) - 1 ∧ Int.toNat 4200 ≤ (((((((((s - Int.toNat 122) - Int.toNat 122) - Int.toNat 3904) - Int.toNat 1220) - Int.toNat 39040) - Int.toNat 40) - Int.toNat 40) - Int.toNat 6) - Int.toNat 82400) - Int.toNat 4200 ∧ ∀ a_113, zK z_106 a_113 = 0 → (∀ z_113, z_113 = nZ z_106 a_113 16 4200 → (zK z_113 t0 = 13 ∧ (∀ z_115, z_115 = wO z_113 t0 21 (some a_113) → ((0 : Int) ≤ 4200 ∧ 4200 < (33554432 : Int) ∧ 1 ≤ ((((((((((c - 1) - 1) - 1) - 1) - 1) - 1) - 1) - 1) - 1) - 1) - 1 ∧ Int.toNat 4200 ≤ ((((((((((s - Int.toNat 122) - Int.toNat 122) - Int.toNat 3904) - Int.toNat 1220) - Int.toNat 39040) - Int.toNat 40) - Int.toNat 40) - Int.toNat 6) - Int.toNat 82400) - Int.toNat 4200) - Int.toNat 4200 ∧ ∀ a_122, zK z_115 a_122 = 0 → (∀ z_122, z_122 = nZ z_115 a_122 15 4200 → (zK z_122 t0 = 13 ∧ (∀ z_124, z_124 = wO z_122 t0 22 (some a_122) → ((0 : Int) ≤ 4200 ∧ 4200 < (33554432 : Int) ∧ 1 ≤ (((((((((((c - 1) - 1) - 1) - 1) - 1) - 1) - 1) - 1) - 1) - 1) - 1) - 1 ∧ Int.toNat 4200 ≤ (((((((((((s - Int.toNat 122) - Int.toNat 122) - Int.toNat 3904) - Int.toNat 1220) - Int.toNat 39040) - Int.toNat 40) - Int.toNat 40) - Int.toNat 6) - Int.toNat 82400) - Int.toNat 4200) - Int.toNat 4200) - Int.toNat 4200 ∧ ∀ a_131, zK z_124 a_131 = 0 → (∀ z_131, z_131 = nZ z_124 a_131 15 4200 → (zK z_131 t0 = 13 ∧ (∀ z_133, z_133 = wO z_131 t0 23 (some a_131) → ((0 : Int) ≤ 60420 ∧ 60420 < (33554432 : Int) ∧ 1 ≤ ((((((((((((c - 1) - 1) - 1) - 1) - 1) - 1) - 1) - 1) - 1) - 1) - 1) - 1) - 1 ∧ Int.toNat 60420 ≤ ((((((((((((s - Int.toNat 122) - Int.toNat 122) - Int.toNat 3904) - Int.toNat 1220) - Int.toNat 39040) - Int.toNat 40) - Int.toNat 40) - Int.toNat 6) - Int.toNat 82400) - Int.toNat 4200) - Int.toNat 4200) - Int.toNat 4200) - Int.toNat 4200 ∧ ∀ a_139, zK z_133 a_139 = 0 → (∀ z_139, z_139 = nZ z_133 a_139 15 60420 → (zK z_139 t0 = 13 ∧ (∀ z_141, z_141 = wO z_139 t0 26 (some a_139) → ((0 : Int) ≤ 60420 ∧ 60420 < (33554432 : Int) ∧ 1 ≤ (((((((((((((c - 1) - 1) - 1) - 1) - 1) - 1) - 1) - 1) - 1) - 1) - 1) - 1) - 1) - 1 ∧ Int.toNat 60420 ≤ (((((((((((((s - Int.toNat 122) - Int.toNat 122) - Int.toNat 3904) - Int.toNat 1220) - Int.toNat 39040) - Int.toNat 40) - Int.toNat 40) - Int.toNat 6) - Int.toNat 82400) - Int.toNat 4200) - Int.toNat 4200) - Int.toNat 4200) - Int.toNat 4200) - Int.toNat 60420 ∧ ∀ a_147, zK z_141 a_147 = 0 → (∀ z_147, z_147 = nZ z_141 a_147 15 60420 → (zK z_147 t0 = 13 ∧ (∀ z_149, z_149 = wO z_147 t0 27 (some a_147) → ((0 : Int) ≤ 60420 ∧ 60420 < (33554432 : Int) ∧ 1 ≤ ((((((((((((((c - 1) - 1) - 1) - 1) - 1) - 1) - 1) - 1) - 1) - 1) - 1) - 1) - 1) - 1) - 1 ∧ Int.toNat 60420 ≤ ((((((((((((((s - Int.toNat 122) - Int.toNat 122) - Int.toNat 3904) - Int.toNat 1220) - Int.toNat 39040) - Int.toNat 40) - Int.toNat 40) - Int.toNat 6) - Int.toNat 82400) - Int.toNat 4200) - Int.toNat 4200) - Int.toNat 4200) - Int.toNat 4200) - Int.toNat 60420) - Int.toNat 60420 ∧ ∀ a_155, zK z_149 a_155 = 0 → (∀ z_155, z_155 = nZ z_149 a_155 15 60420 → (zK z_155 t0 = 13 ∧ (∀ z_157, z_157 = wO z_155 t0 28 (some a_155) → ((0 : Int) ≤ 60420 ∧ 60420 < (33554432 : Int) ∧ 1 ≤ (((((((((((((((c - 1) - 1) - 1) - 1) - 1) - 1) - 1) - 1) - 1) - 1) - 1) - 1) - 1) - 1) - 1) - 1 ∧ Int.toNat 60420 ≤ (((((((((((((((s - Int.toNat 122) - Int.toNat 122) - Int.toNat 3904) - Int.toNat 1220) - Int.toNat 39040) - Int.toNat 40) - Int.toNat 40) - Int.toNat 6) - Int.toNat 82400) - Int.toNat 4200) - Int.toNat 4200) - Int.toNat 4200) - Int.toNat 4200) - Int.toNat 60420) - Int.toNat 60420) - Int.toNat 60420 ∧ ∀ a_163, zK z_157 a_163 = 0 → (∀ z_163, z_163 = nZ z_157 a_163 16 60420 → (zK z_163 t0 = 13 ∧ (∀ z_165, z_165 = wO z_163 t0 29 (some a_163) → ((0 : Int) ≤ 60420 ∧ 60420 < (33554432 : Int) ∧ 1 ≤ ((((((((((((((((c - 1) - 1) - 1) - 1) - 1) - 1) - 1) - 1) - 1) - 1) - 1) - 1) - 1) - 1) - 1) - 1) - 1 ∧ Int.toNat 60420 ≤ ((((((((((((((((s - Int.toNat 122) - Int.toNat 122) - Int.toNat 3904) - Int.toNat 1220) - Int.toNat 39040) - Int.toNat 40) - Int.toNat 40) - Int.toNat 6) - Int.toNat 82400) - Int.toNat 4200) - Int.toNat 4200) - Int.toNat 4200) - Int.toNat 4200) - Int.toNat 60420) - Int.toNat 60420) - Int.toNat 60420) - Int.toNat 60420 ∧ ∀ a_171, zK z_165 a_171 = 0 → (∀ z_171, z_171 = nZ z_165 a_171 15 60420 → (zK z_171 t0 = 13 ∧ (∀ z_173, z_173 = wO z_171 t0 30 (some a_171) → ((0 : Int) ≤ 60420 ∧ 60420 < (33554432 : Int) ∧ 1 ≤ (((((((((((((((((c - 1) - 1) - 1) - 1) - 1) - 1) - 1) - 1) - 1) - 1) - 1) - 1) - 1) - 1) - 1) - 1) - 1) - 1 ∧ Int.toNat 60420 ≤ (((((((((((((((((s - Int.toNat 122) - Int.toNat 122) - Int.toNat 3904) - Int.toNat 1220) - Int.toNat 39040) - Int.toNat 40) - Int.toNat 40) - Int.toNat 6) - Int.toNat 82400) - Int.toNat 4200) - Int.toNat 4200) - Int.toNat 4200) - Int.toNat 4200) - Int.toNat 60420) - Int.toNat 60420) - Int.toNat 60420) - Int.toNat 60420) - Int.toNat 60420 ∧ ∀ a_179, zK z_173 a_179 = 0 → (∀ z_179, z_179 = nZ z_173 a_179 15 60420 → (zK z_179 t0 = 13 ∧ (∀ z_181, z_181 = wO z_179 t0 31 (some a_179) → ((0 : Int) ≤ 60420 ∧ 60420 < (33554432 : Int) ∧ 1 ≤ ((((((((((((((((((c - 1) - 1) - 1) - 1) - 1) - 1) - 1) - 1) - 1) - 1) - 1) - 1) - 1) - 1) - 1) - 1) - 1) - 1) - 1 ∧ Int.toNat 60420 ≤ ((((((((((((((((((s - Int.toNat 122) - Int.toNat 122) - Int.toNat 3904) - Int.toNat 1220) - Int.toNat 39040) - Int.toNat 40) - Int.toNat 40) - Int.toNat 6) - Int.toNat 82400) - Int.toNat 4200) - Int.toNat 4200) - Int.toNat 4200) - Int.toNat 4200) - Int.toNat 60420) - Int.toNat 60420) - Int.toNat 60420) - Int.toNat 60420) - Int.toNat 60420) - Int.toNat 60420 ∧ ∀ a_187, zK z_181 a_187 = 0 → (∀ z_187, z_187 = nZ z_181 a_187 15 60420 → (zK z_187 t0 = 13 ∧ (∀ z_189, z_189 = wO z_187 t0 32 (some a_187) → ((0 : Int) ≤ 60420 ∧ 60420 < (33554432 : Int) ∧ 1 ≤ (((((((((((((((((((c - 1) - 1) - 1) - 1) - 1) - 1) - 1) - 1) - 1) - 1) - 1) - 1) - 1) - 1) - 1) - 1) - 1) - 1) - 1) - 1 ∧ Int.toNat 60420 ≤ (((((((((((((((((((s - Int.toNat 122) - Int.toNat 122) - Int.toNat 3904) - Int.toNat 1220) - Int.toNat 39040) - Int.toNat 40) - Int.toNat 40) - Int.toNat 6) - Int.toNat 82400) - Int.toNat 4200) - Int.toNat 4200) - Int.toNat 4200) - Int.toNat 4200) - Int.toNat 60420) - Int.toNat 60420) - Int.toNat 60420) - Int.toNat 60420) - Int.toNat 60420) - Int.toNat 60420) - Int.toNat 60420 ∧ ∀ a_195, zK z_189 a_195 = 0 → (∀ z_195, z_195 = nZ z_189 a_195 15 60420 → (zK z_195 t0 = 13 ∧ (∀ z_197, z_197 = wO z_195 t0 33 (some a_195) → ((0 : Int) ≤ 60420 ∧ 60420 < (33554432 : Int) ∧ 1 ≤ ((((((((((((((((((((c - 1) - 1) - 1) - 1) - 1) - 1) - 1) - 1) - 1) - 1) - 1) - 1) - 1) - 1) - 1) - 1) - 1) - 1) - 1) - 1) - 1 ∧ Int.toNat 60420 ≤ ((((((((((((((((((((s - Int.toNat 122) - Int.toNat 122) - Int.toNat 3904) - Int.toNat 1220) - Int.toNat 39040) - Int.toNat 40) - Int.toNat 40) - Int.toNat 6) - Int.toNat 82400) - Int.toNat 4200) - Int.toNat 4200) - Int.toNat 4200) - Int.toNat 4200) - Int.toNat 60420) - Int.toNat 60420) - Int.toNat 60420) - Int.toNat 60420) - Int.toNat 60420) - Int.toNat 60420) - Int.toNat 60420) - Int.toNat 60420 ∧ ∀ a_203, zK z_197 a_203 = 0 → (∀ z_203, z_203 = nZ z_197 a_203 15 60420 → (zK z_203 t0 = 13 ∧ (∀ z_205, z_205 = wO z_203 t0 34 (some a_203) → ((0 : Int) ≤ 60420 ∧ 60420 < (33554432 : Int) ∧ 1 ≤ (((((((((((((((((((((c - 1) - 1) - 1) - 1) - 1) - 1) - 1) - 1) - 1) - 1) - 1) - 1) - 1) - 1) - 1) - 1) - 1) - 1) - 1) - 1) - 1) - 1 ∧ Int.toNat 60420 ≤ (((((((((((((((((((((s - Int.toNat 122) - Int.toNat 122) - Int.toNat 3904) - Int.toNat 1220) - Int.toNat 39040) - Int.toNat 40) - Int.toNat 40) - Int.toNat 6) - Int.toNat 82400) - Int.toNat 4200) - Int.toNat 4200) - Int.toNat 4200) - Int.toNat 4200) - Int.toNat 60420) - Int.toNat 60420) - Int.toNat 60420) - Int.toNat 60420) - Int.toNat 60420) - Int.toNat 60420) - Int.toNat 60420) - Int.toNat 60420) - Int.toNat 60420 ∧ ∀ a_211, zK z_205 a_211 = 0 → (∀ z_211, z_211 = nZ z_205 a_211 15 60420 → (zK z_211 t0 = 13 ∧ (∀ z_213, z_213 = wO z_211 t0 35 (some a_211) → ((0 : Int) ≤ 60420 ∧ 60420 < (33554432 : Int) ∧ 1 ≤ ((((((((((((((((((((((c - 1) - 1) - 1) - 1) - 1) - 1) - 1) - 1) - 1) - 1) - 1) - 1) - 1) - 1) - 1) - 1) - 1) - 1) - 1) - 1) - 1) - 1) - 1 ∧ Int.toNat 60420 ≤ ((((((((((((((((((((((s - Int.toNat 122) - Int.toNat 122) - Int.toNat 3904) - Int.toNat 1220) - Int.toNat 39040) - Int.toNat 40) - Int.toNat 40) - Int.toNat 6) - Int.toNat 82400) - Int.toNat 4200) - Int.toNat 4200) - Int.toNat 4200) - Int.toNat 4200) - Int.toNat 60420) - Int.toNat 60420) - Int.toNat 60420) - Int.toNat 60420) - Int.toNat 60420) - Int.toNat 60420) - Int.toNat 60420) - Int.toNat 60420) - Int.toNat 60420) - Int.toNat 60420 ∧ ∀ a_219, zK z_213 a_219 = 0 → (∀ z_219, z_219 = nZ z_213 a_219 15 60420 → (zK z_219 t0 = 13 ∧ (∀ z_221, z_221 = wO z_219 t0 36 (some a_219) → ((0 : Int) ≤ 60420 ∧ 60420 < (33554432 : Int) ∧ 1 ≤ (((((((((((((((((((((((c - 1) - 1) - 1) - 1) - 1) - 1) - 1) - 1) - 1) - 1) - 1) - 1) - 1) - 1) - 1) - 1) - 1) - 1) - 1) - 1) - 1) - 1) - 1) - 1 ∧ Int.toNat 60420 ≤ (((((((((((((((((((((((s - Int.toNat 122) - Int.toNat 122) - Int.toNat 3904) - Int.toNat 1220) - Int.toNat 39040) - Int.toNat 40) - Int.toNat 40) - Int.toNat 6) - Int.toNat 82400) - Int.toNat 4200) - Int.toNat 4200) - Int.toNat 4200) - Int.toNat 4200) - Int.toNat 60420) - Int.toNat 60420) - Int.toNat 60420) - Int.toNat 60420) - Int.toNat 60420) - Int.toNat 60420) - Int.toNat 60420) - Int.toNat 60420) - Int.toNat 60420) - Int.toNat 60420) - Int.toNat 60420 ∧ ∀ a_227, zK z_221 a_227 = 0 → (∀ z_227, z_227 = nZ z_221 a_227 15 60420 → (zK z_227 t0 = 13 ∧ (∀ z_229, z_229 = wO z_227 t0 37 (some a_227) → ((0 : Int) ≤ 60420 ∧ 60420 < (33554432 : Int) ∧ 1 ≤ ((((((((((((((((((((((((c - 1) - 1) - 1) - 1) - 1) - 1) - 1) - 1) - 1) - 1) - 1) - 1) - 1) - 1) - 1) - 1) - 1) - 1) - 1) - 1) - 1) - 1) - 1) - 1) - 1 ∧ Int.toNat 60420 ≤ ((((((((((((((((((((((((s - Int.toNat 122) - Int.toNat 122) - Int.toNat 3904) - Int.toNat 1220) - Int.toNat 39040) - Int.toNat 40) - Int.toNat 40) - Int.toNat 6) - Int.toNat 82400) - Int.toNat 4200) - Int.toNat 4200) - Int.toNat 4200) - Int.toNat 4200) - Int.toNat 60420) - Int.toNat 60420) - Int.toNat 60420) - Int.toNat 60420) - Int.toNat 60420) - Int.toNat 60420) - Int.toNat 60420) - Int.toNat 60420) - Int.toNat 60420) - Int.toNat 60420) - Int.toNat 60420) - Int.toNat 60420 ∧ ∀ a_235, zK z_229 a_235 = 0 → (∀ z_235, z_235 = nZ z_229 a_235 15 60420 → (zK z_235 t0 = 13 ∧ (∀ z_237, z_237 = wO z_235 t0 38 (some a_235) → ((0 : Int) ≤ 400 ∧ 400 < (33554432 : Int) ∧ 1 ≤ (((((((((((((((((((((((((c - 1) - 1) - 1) - 1) - 1) - 1) - 1) - 1) - 1) - 1) - 1) - 1) - 1) - 1) - 1) - 1) - 1) - 1) - 1) - 1) - 1) - 1) - 1) - 1) - 1) - 1 ∧ Int.toNat 400 ≤ (((((((((((((((((((((((((s - Int.toNat 122) - Int.toNat 122) - Int.toNat 3904) - Int.toNat 1220) - Int.toNat 39040) - Int.toNat 40) - Int.toNat 40) - Int.toNat 6) - Int.toNat 82400) - Int.toNat 4200) - Int.toNat 4200) - Int.toNat 4200) - Int.toNat 4200) - Int.toNat 60420) - Int.toNat 60420) - Int.toNat 60420) - Int.toNat 60420) - Int.toNat 60420) - Int.toNat 60420) - Int.toNat 60420) - Int.toNat 60420) - Int.toNat 60420) - Int.toNat 60420) - Int.toNat 60420) - Int.toNat 60420) - Int.toNat 60420 ∧ ∀ a_244, zK z_237 a_244 = 0 → (∀ z_244, z_244 = nZ z_237 a_244 15 400 → (zK z_244 t0 = 13 ∧ (∀ z_246, z_246 = wO z_244 t0 39 (some a_244) → ((0 : Int) ≤ 13120 ∧ 13120 < (33554432 : Int) ∧ 1 ≤ ((((((((((((((((((((((((((c - 1) - 1) - 1) - 1) - 1) - 1) - 1) - 1) - 1) - 1) - 1) - 1) - 1) - 1) - 1) - 1) - 1) - 1) - 1) - 1) - 1) - 1) - 1) - 1) - 1) - 1) - 1 ∧ Int.toNat 13120 ≤ ((((((((((((((((((((((((((s - Int.toNat 122) - Int.toNat 122) - Int.toNat 3904) - Int.toNat 1220) - Int.toNat 39040) - Int.toNat 40) - Int.toNat 40) - Int.toNat 6) - Int.toNat 82400) - Int.toNat 4200) - Int.toNat 4200) - Int.toNat 4200) - Int.toNat 4200) - Int.toNat 60420) - Int.toNat 60420) - Int.toNat 60420) - Int.toNat 60420) - Int.toNat 60420) - Int.toNat 60420) - Int.toNat 60420) - Int.toNat 60420) - Int.toNat 60420) - Int.toNat 60420) - Int.toNat 60420) - Int.toNat 60420) - Int.toNat 60420) - Int.toNat 400 ∧ ∀ a_253, zK z_246 a_253 = 0 → (∀ z_253, z_253 = nZ z_246 a_253 15 13120 → (zK z_253 t0 = 13 ∧ (∀ z_255, z_255 = wO z_253 t0 60 (some a_253) → ((0 : Int) ≤ 13120 ∧ 13120 < (33554432 : Int) ∧ 1 ≤ (((((((((((((((((((((((((((c - 1) - 1) - 1) - 1) - 1) - 1) - 1) - 1) - 1) - 1) - 1) - 1) - 1) - 1) - 1) - 1) - 1) - 1) - 1) - 1) - 1) - 1) - 1) - 1) - 1) - 1) - 1) - 1 ∧ Int.toNat 13120 ≤ (((((((((((((((((((((((((((s - Int.toNat 122) - Int.toNat 122) - Int.toNat 3904) - Int.toNat 1220) - Int.toNat 39040) - Int.toNat 40) - Int.toNat 40) - Int.toNat 6) - Int.toNat 82400) - Int.toNat 4200) - Int.toNat 4200) - Int.toNat 4200) - Int.toNat 4200) - Int.toNat 60420) - Int.toNat 60420) - Int.toNat 60420) - Int.toNat 60420) - Int.toNat 60420) - Int.toNat 60420) - Int.toNat 60420) - Int.toNat 60420) - Int.toNat 60420) - Int.toNat 60420) - Int.toNat 60420) - Int.toNat 60420) - Int.toNat 60420) - Int.toNat 400) - Int.toNat 13120 ∧ ∀ a_262, zK z_255 a_262 = 0 → (∀ z_262, z_262 = nZ z_255 a_262 16 13120 → (zK z_262 t0 = 13 ∧ (∀ z_264, z_264 = wO z_262 t0 61 (some a_262) → ((0 : Int) ≤ 13120 ∧ 13120 < (33554432 : Int) ∧ 1 ≤ ((((((((((((((((((((((((((((c - 1) - 1) - 1) - 1) - 1) - 1) - 1) - 1) - 1) - 1) - 1) - 1) - 1) - 1) - 1) - 1) - 1) - 1) - 1) - 1) - 1) - 1) - 1) - 1) - 1) - 1) - 1) - 1) - 1 ∧ Int.toNat 13120 ≤ ((((((((((((((((((((((((((((s - Int.toNat 122) - Int.toNat 122) - Int.toNat 3904) - Int.toNat 1220) - Int.toNat 39040) - Int.toNat 40) - Int.toNat 40) - Int.toNat 6) - Int.toNat 82400) - Int.toNat 4200) - Int.toNat 4200) - Int.toNat 4200) - Int.toNat 4200) - Int.toNat 60420) - Int.toNat 60420) - Int.toNat 60420) - Int.toNat 60420) - Int.toNat 60420) - Int.toNat 60420) - Int.toNat 60420) - Int.toNat 60420) - Int.toNat 60420) - Int.toNat 60420) - Int.toNat 60420) - Int.toNat 60420) - Int.toNat 60420) - Int.toNat 400) - Int.toNat 13120) - Int.toNat 13120 ∧ ∀ a_271, zK z_264 a_271 = 0 → (∀ z_271, z_271 = nZ z_264 a_271 15 13120 → (zK z_271 t0 = 13 ∧ (∀ z_273, z_273 = wO z_271 t0 62 (some a_271) → ((0 : Int) ≤ 314880 ∧ 314880 < (33554432 : Int) ∧ 1 ≤ (((((((((((((((((((((((((((((c - 1) - 1) - 1) - 1) - 1) - 1) - 1) - 1) - 1) - 1) - 1) - 1) - 1) - 1) - 1) - 1) - 1) - 1) - 1) - 1) - 1) - 1) - 1) - 1) - 1) - 1) - 1) - 1) - 1) - 1 ∧ Int.toNat 314880 ≤ (((((((((((((((((((((((((((((s - Int.toNat 122) - Int.toNat 122) - Int.toNat 3904) - Int.toNat 1220) - Int.toNat 39040) - Int.toNat 40) - Int.toNat 40) - Int.toNat 6) - Int.toNat 82400) - Int.toNat 4200) - Int.toNat 4200) - Int.toNat 4200) - Int.toNat 4200) - Int.toNat 60420) - Int.toNat 60420) - Int.toNat 60420) - Int.toNat 60420) - Int.toNat 60420) - Int.toNat 60420) - Int.toNat 60420) - Int.toNat 60420) - Int.toNat 60420) - Int.toNat 60420) - Int.toNat 60420) - Int.toNat 60420) - Int.toNat 60420) - Int.toNat 400) - Int.toNat 13120) - Int.toNat 13120) - Int.toNat 13120 ∧ ∀ a_279, zK z_273 a_279 = 0 → (∀ z_279, z_279 = nZ z_273 a_279 14 314880 → (zK z_279 t0 = 13 ∧ (∀ z_281, z_281 = wO z_279 t0 63 (some a_279) → ((0 : Int) ≤ 40 ∧ 40 < (33554432 : Int) ∧ 1 ≤ ((((((((((((((((((((((((((((((c - 1) - 1) - 1) - 1) - 1) - 1) - 1) - 1) - 1) - 1) - 1) - 1) - 1) - 1) - 1) - 1) - 1) - 1) - 1) - 1) - 1) - 1) - 1) - 1) - 1) - 1) - 1) - 1) - 1) - 1) - 1 ∧ Int.toNat 40 ≤ ((((((((((((((((((((((((((((((s - Int.toNat 122) - Int.toNat 122) - Int.toNat 3904) - Int.toNat 1220) - Int.toNat 39040) - Int.toNat 40) - Int.toNat 40) - Int.toNat 6) - Int.toNat 82400) - Int.toNat 4200) - Int.toNat 4200) - Int.toNat 4200) - Int.toNat 4200) - Int.toNat 60420) - Int.toNat 60420) - Int.toNat 60420) - Int.toNat 60420) - Int.toNat 60420) - Int.toNat 60420) - Int.toNat 60420) - Int.toNat 60420) - Int.toNat 60420) - Int.toNat 60420) - Int.toNat 60420) - Int.toNat 60420) - Int.toNat 60420) - Int.toNat 400) - Int.toNat 13120) - Int.toNat 13120) - Int.toNat 13120) - Int.toNat 314880 ∧ ∀ a_287, zK z_281 a_287 = 0 → (∀ z_287, z_287 = nZ z_281 a_287 17 40 → (zK z_287 t0 = 13 ∧ (∀ z_289, z_289 = wO z_287 t0 64 (some a_287) → ((0 : Int) ≤ 200 ∧ 200 < (33554432 : Int) ∧ 1 ≤ (((((((((((((((((((((((((((((((c - 1) - 1) - 1) - 1) - 1) - 1) - 1) - 1) - 1) - 1) - 1) - 1) - 1) - 1) - 1) - 1) - 1) - 1) - 1) - 1) - 1) - 1) - 1) - 1) - 1) - 1) - 1) - 1) - 1) - 1) - 1) - 1 ∧ Int.toNat 200 ≤ (((((((((((((((((((((((((((((((s - Int.toNat 122) - Int.toNat 122) - Int.toNat 3904) - Int.toNat 1220) - Int.toNat 39040) - Int.toNat 40) - Int.toNat 40) - Int.toNat 6) - Int.toNat 82400) - Int.toNat 4200) - Int.toNat 4200) - Int.toNat 4200) - Int.toNat 4200) - Int.toNat 60420) - Int.toNat 60420) - Int.toNat 60420) - Int.toNat 60420) - Int.toNat 60420) - Int.toNat 60420) - Int.toNat 60420) - Int.toNat 60420) - Int.toNat 60420) - Int.toNat 60420) - Int.toNat 60420) - Int.toNat 60420) - Int.toNat 60420) - Int.toNat 400) - Int.toNat 13120) - Int.toNat 13120) - Int.toNat 13120) - Int.toNat 314880) - Int.toNat 40 ∧ ∀ a_296, zK z_289 a_296 = 0 → (∀ z_296, z_296 = nZ z_289 a_296 15 200 → (zK z_296 t0 = 13 ∧ (∀ z_298, z_298 = wO z_296 t0 66 (some a_296) → ((0 : Int) ≤ 200 ∧ 200 < (33554432 : Int) ∧ 1 ≤ ((((((((((((((((((((((((((((((((c - 1) - 1) - 1) - 1) - 1) - 1) - 1) - 1) - 1) - 1) - 1) - 1) - 1) - 1) - 1) - 1) - 1) - 1) - 1) - 1) - 1) - 1) - 1) - 1) - 1) - 1) - 1) - 1) - 1) - 1) - 1) - 1) - 1 ∧ Int.toNat 200 ≤ ((((((((((((((((((((((((((((((((s - Int.toNat 122) - Int.toNat 122) - Int.toNat 3904) - Int.toNat 1220) - Int.toNat 39040) - Int.toNat 40) - Int.toNat 40) - Int.toNat 6) - Int.toNat 82400) - Int.toNat 4200) - Int.toNat 4200) - Int.toNat 4200) - Int.toNat 4200) - Int.toNat 60420) - Int.toNat 60420) - Int.toNat 60420) - Int.toNat 60420) - Int.toNat 60420) - Int.toNat 60420) - Int.toNat 60420) - Int.toNat 60420) - Int.toNat 60420) - Int.toNat 60420) - Int.toNat 60420) - Int.toNat 60420) - Int.toNat 60420) - Int.toNat 400) - Int.toNat 13120) - Int.toNat 13120) - Int.toNat 13120) - Int.toNat 314880) - Int.toNat 40) - Int.toNat 200 ∧ ∀ a_305, zK z_298 a_305 = 0 → (∀ z_305, z_305 = nZ z_298 a_305 16 200 → (zK z_305 t0 = 13 ∧ (∀ z_307, z_307 = wO z_305 t0 67 (some a_305) → ((0 : Int) ≤ 200 ∧ 200 < (33554432 : Int) ∧ 1 ≤ (((((((((((((((((((((((((((((((((c - 1) - 1) - 1) - 1) - 1) - 1) - 1) - 1) - 1) - 1) - 1) - 1) - 1) - 1) - 1) - 1) - 1) - 1) - 1) - 1) - 1) - 1) - 1) - 1) - 1) - 1) - 1) - 1) - 1) - 1) - 1) - 1) - 1) - 1 ∧ Int.toNat 200 ≤ (((((((((((((((((((((((((((((((((s - Int.toNat 122) - Int.toNat 122) - Int.toNat 3904) - Int.toNat 1220) - Int.toNat 39040) - Int.toNat 40) - Int.toNat 40) - Int.toNat 6) - Int.toNat 82400) - Int.toNat 4200) - Int.toNat 4200) - Int.toNat 4200) - Int.toNat 4200) - Int.toNat 60420) - Int.toNat 60420) - Int.toNat 60420) - Int.toNat 60420) - Int.toNat 60420) - Int.toNat 60420) - Int.toNat 60420) - Int.toNat 60420) - Int.toNat 60420) - Int.toNat 60420) - Int.toNat 60420) - Int.toNat 60420) - Int.toNat 60420) - Int.toNat 400) - Int.toNat 13120) - Int.toNat 13120) - Int.toNat 13120) - Int.toNat 314880) - Int.toNat 40) - Int.toNat 200) - Int.toNat 200 ∧ ∀ a_314, zK z_307 a_314 = 0 → (∀ z_314, z_314 = nZ z_307 a_314 15 200 → (zK z_314 t0 = 13 ∧ (∀ z_316, z_316 = wO z_314 t0 68 (some a_314) → ((0 : Int) ≤ 4800 ∧ 4800 < (33554432 : Int) ∧ 1 ≤ ((((((((((((((((((((((((((((((((((c - 1) - 1) - 1) - 1) - 1) - 1) - 1) - 1) - 1) - 1) - 1) - 1) - 1) - 1) - 1) - 1) - 1) - 1) - 1) - 1) - 1) - 1) - 1) - 1) - 1) - 1) - 1) - 1) - 1) - 1) - 1) - 1) - 1) - 1) - 1 ∧ Int.toNat 4800 ≤ ((((((((((((((((((((((((((((((((((s - Int.toNat 122) - Int.toNat 122) - Int.toNat 3904) - Int.toNat 1220) - Int.toNat 39040) - Int.toNat 40) - Int.toNat 40) - Int.toNat 6) - Int.toNat 82400) - Int.toNat 4200) - Int.toNat 4200) - Int.toNat 4200) - Int.toNat 4200) - Int.toNat 60420) - Int.toNat 60420) - Int.toNat 60420) - Int.toNat 60420) - Int.toNat 60420) - Int.toNat 60420) - Int.toNat 60420) - Int.toNat 60420) - Int.toNat 60420) - Int.toNat 60420) - Int.toNat 60420) - Int.toNat 60420) - Int.toNat 60420) - Int.toNat 400) - Int.toNat 13120) - Int.toNat 13120) - Int.toNat 13120) - Int.toNat 314880) - Int.toNat 40) - Int.toNat 200) - Int.toNat 200) - Int.toNat 200 ∧ ∀ a_323, zK z_316 a_323 = 0 → (∀ z_323, z_323 = nZ z_316 a_323 14 4800 → (zK z_323 t0 = 13 ∧ (∀ z_325, z_325 = wO z_323 t0 69 (some a_323) → ((0 : Int) ≤ 20 ∧ 20 < (33554432 : Int) ∧ 1 ≤ (((((((((((((((((((((((((((((((((((c - 1) - 1) - 1) - 1) - 1) - 1) - 1) - 1) - 1) - 1) - 1) - 1) - 1) - 1) - 1) - 1) - 1) - 1) - 1) - 1) - 1) - 1) - 1) - 1) - 1) - 1) - 1) - 1) - 1) - 1) - 1) - 1) - 1) - 1) - 1) - 1 ∧ Int.toNat 20 ≤ (((((((((((((((((((((((((((((((((((s - Int.toNat 122) - Int.toNat 122) - Int.toNat 3904) - Int.toNat 1220) - Int.toNat 39040) - Int.toNat 40) - Int.toNat 40) - Int.toNat 6) - Int.toNat 82400) - Int.toNat 4200) - Int.toNat 4200) - Int.toNat 4200) - Int.toNat 4200) - Int.toNat 60420) - Int.toNat 60420) - Int.toNat 60420) - Int.toNat 60420) - Int.toNat 60420) - Int.toNat 60420) - Int.toNat 60420) - Int.toNat 60420) - Int.toNat 60420) - Int.toNat 60420) - Int.toNat 60420) - Int.toNat 60420) - Int.toNat 60420) - Int.toNat 400) - Int.toNat 13120) - Int.toNat 13120) - Int.toNat 13120) - Int.toNat 314880) - Int.toNat 40) - Int.toNat 200) - Int.toNat 200) - Int.toNat 200) - Int.toNat 4800 ∧ ∀ a_331, zK z_325 a_331 = 0 → (∀ z_331, z_331 = nZ z_325 a_331 14 20 → (zK z_331 t0 = 13 ∧ (∀ z_333, z_333 = wO z_331 t0 70 (some a_331) → ((0 : Int) ≤ 1600 ∧ 1600 < (33554432 : Int) ∧ 1 ≤ ((((((((((((((((((((((((((((((((((((c - 1) - 1) - 1) - 1) - 1) - 1) - 1) - 1) - 1) - 1) - 1) - 1) - 1) - 1) - 1) - 1) - 1) - 1) - 1) - 1) - 1) - 1) - 1) - 1) - 1) - 1) - 1) - 1) - 1) - 1) - 1) - 1) - 1) - 1) - 1) - 1) - 1 ∧ Int.toNat 1600 ≤ ((((((((((((((((((((((((((((((((((((s - Int.toNat 122) - Int.toNat 122) - Int.toNat 3904) - Int.toNat 1220) - Int.toNat 39040) - Int.toNat 40) - Int.toNat 40) - Int.toNat 6) - Int.toNat 82400) - Int.toNat 4200) - Int.toNat 4200) - Int.toNat 4200) - Int.toNat 4200) - Int.toNat 60420) - Int.toNat 60420) - Int.toNat 60420) - Int.toNat 60420) - Int.toNat 60420) - Int.toNat 60420) - Int.toNat 60420) - Int.toNat 60420) - Int.toNat 60420) - Int.toNat 60420) - Int.toNat 60420) - Int.toNat 60420) - Int.toNat 60420) - Int.toNat 400) - Int.toNat 13120) - Int.toNat 13120) - Int.toNat 13120) - Int.toNat 314880) - Int.toNat 40) - Int.toNat 200) - Int.toNat 200) - Int.toNat 200) - Int.toNat 4800) - Int.toNat 20 ∧ ∀ a_340, zK z_333 a_340 = 0 → (∀ z_340, z_340 = nZ z_333 a_340 16 1600 → (zK z_340 t0 = 13 ∧ (∀ z_342, z_342 = wO z_340 t0 82 (some a_340) → ((0 : Int) ≤ 1600 ∧ 1600 < (33554432 : Int) ∧ 1 ≤ (((((((((((((((((((((((((((((((((((((c - 1) - 1) - 1) - 1) - 1) - 1) - 1) - 1) - 1) - 1) - 1) - 1) - 1) - 1) - 1) - 1) - 1) - 1) - 1) - 1) - 1) - 1) - 1) - 1) - 1) - 1) - 1) - 1) - 1) - 1) - 1) - 1) - 1) - 1) - 1) - 1) - 1) - 1 ∧ Int.toNat 1600 ≤ (((((((((((((((((((((((((((((((((((((s - Int.toNat 122) - Int.toNat 122) - Int.toNat 3904) - Int.toNat 1220) - Int.toNat 39040) - Int.toNat 40) - Int.toNat 40) - Int.toNat 6) - Int.toNat 82400) - Int.toNat 4200) - Int.toNat 4200) - Int.toNat 4200) - Int.toNat 4200) - Int.toNat 60420) - Int.toNat 60420) - Int.toNat 60420) - Int.toNat 60420) - Int.toNat 60420) - Int.toNat 60420) - Int.toNat 60420) - Int.toNat 60420) - Int.toNat 60420) - Int.toNat 60420) - Int.toNat 60420) - Int.toNat 60420) - Int.toNat 60420) - Int.toNat 400) - Int.toNat 13120) - Int.toNat 13120) - Int.toNat 13120) - Int.toNat 314880) - Int.toNat 40) - Int.toNat 200) - Int.toNat 200) - Int.toNat 200) - Int.toNat 4800) - Int.toNat 20) - Int.toNat 1600 ∧ ∀ a_349, zK z_342 a_349 = 0 → (∀ z_349, z_349 = nZ z_342 a_349 16 1600 → (zK z_349 t0 = 13 ∧ (∀ z_351, z_351 = wO z_349 t0 83 (some a_349) → ((0 : Int) ≤ 320 ∧ 320 < (33554432 : Int) ∧ 1 ≤ ((((((((((((((((((((((((((((((((((((((c - 1) - 1) - 1) - 1) - 1) - 1) - 1) - 1) - 1) - 1) - 1) - 1) - 1) - 1) - 1) - 1) - 1) - 1) - 1) - 1) - 1) - 1) - 1) - 1) - 1) - 1) - 1) - 1) - 1) - 1) - 1) - 1) - 1) - 1) - 1) - 1) - 1) - 1) - 1 ∧ Int.toNat 320 ≤ ((((((((((((((((((((((((((((((((((((((s - Int.toNat 122) - Int.toNat 122) - Int.toNat 3904) - Int.toNat 1220) - Int.toNat 39040) - Int.toNat 40) - Int.toNat 40) - Int.toNat 6) - Int.toNat 82400) - Int.toNat 4200) - Int.toNat 4200) - Int.toNat 4200) - Int.toNat 4200) - Int.toNat 60420) - Int.toNat 60420) - Int.toNat 60420) - Int.toNat 60420) - Int.toNat 60420) - Int.toNat 60420) - Int.toNat 60420) - Int.toNat 60420) - Int.toNat 60420) - Int.toNat 60420) - Int.toNat 60420) - Int.toNat 60420) - Int.toNat 60420) - Int.toNat 400) - Int.toNat 13120) - Int.toNat 13120) - Int.toNat 13120) - Int.toNat 314880) - Int.toNat 40) - Int.toNat 200) - Int.toNat 200) - Int.toNat 200) - Int.toNat 4800) - Int.toNat 20) - Int.toNat 1600) - Int.toNat 1600 ∧ ∀ a_358, zK z_351 a_358 = 0 → (∀ z_358, z_358 = nZ z_351 a_358 17 320 → (zK z_358 t0 = 13 ∧ (∀ z_360, z_360 = wO z_358 t0 84 (some a_358) → ((0 : Int) ≤ 5 ∧ 5 < (33554432 : Int) ∧ 1 ≤ (((((((((((((((((((((((((((((((((((((((c - 1) - 1) - 1) - 1) - 1) - 1) - 1) - 1) - 1) - 1) - 1) - 1) - 1) - 1) - 1) - 1) - 1) - 1) - 1) - 1) - 1) - 1) - 1) - 1) - 1) - 1) - 1) - 1) - 1) - 1) - 1) - 1) - 1) - 1) - 1) - 1) - 1) - 1) - 1) - 1 ∧ Int.toNat 5 ≤ (((((((((((((((((((((((((((((((((((((((s - Int.toNat 122) - Int.toNat 122) - Int.toNat 3904) - Int.toNat 1220) - Int.toNat 39040) - Int.toNat 40) - Int.toNat 40) - Int.toNat 6) - Int.toNat 82400) - Int.toNat 4200) - Int.toNat 4200) - Int.toNat 4200) - Int.toNat 4200) - Int.toNat 60420) - Int.toNat 60420) - Int.toNat 60420) - Int.toNat 60420) - Int.toNat 60420) - Int.toNat 60420) - Int.toNat 60420) - Int.toNat 60420) - Int.toNat 60420) - Int.toNat 60420) - Int.toNat 60420) - Int.toNat 60420) - Int.toNat 60420) - Int.toNat 400) - Int.toNat 13120) - Int.toNat 13120) - Int.toNat 13120) - Int.toNat 314880) - Int.toNat 40) - Int.toNat 200) - Int.toNat 200) - Int.toNat 200) - Int.toNat 4800) - Int.toNat 20) - Int.toNat 1600) - Int.toNat 1600) - Int.toNat 320 ∧ ∀ a_365, zK z_360 a_365 = 0 → (∀ z_365, z_365 = nZ z_360 a_365 16 5 → (zK z_365 t0 = 13 ∧ (∀ z_367, z_367 = wO z_365 t0 85 (some a_365) → ((0 : Int) ≤ 2000 ∧ 2000 < (33554432 : Int) ∧ 1 ≤ ((((((((((((((((((((((((((((((((((((((((c - 1) - 1) - 1) - 1) - 1) - 1) - 1) - 1) - 1) - 1) - 1) - 1) - 1) - 1) - 1) - 1) - 1) - 1) - 1) - 1) - 1) - 1) - 1) - 1) - 1) - 1) - 1) - 1) - 1) - 1) - 1) - 1) - 1) - 1) - 1) - 1) - 1) - 1) - 1) - 1) - 1 ∧ Int.toNat 2000 ≤ ((((((((((((((((((((((((((((((((((((((((s - Int.toNat 122) - Int.toNat 122) - Int.toNat 3904) - Int.toNat 1220) - Int.toNat 39040) - Int.toNat 40) - Int.toNat 40) - Int.toNat 6) - Int.toNat 82400) - Int.toNat 4200) - Int.toNat 4200) - Int.toNat 4200) - Int.toNat 4200) - Int.toNat 60420) - Int.toNat 60420) - Int.toNat 60420) - Int.toNat 60420) - Int.toNat 60420) - Int.toNat 60420) - Int.toNat 60420) - Int.toNat 60420) - Int.toNat 60420) - Int.toNat 60420) - Int.toNat 60420) - Int.toNat 60420) - Int.toNat 60420) - Int.toNat 400) - Int.toNat 13120) - Int.toNat 13120) - Int.toNat 13120) - Int.toNat 314880) - Int.toNat 40) - Int.toNat 200) - Int.toNat 200) - Int.toNat 200) - Int.toNat 4800) - Int.toNat 20) - Int.toNat 1600) - Int.toNat 1600) - Int.toNat 320) - Int.toNat 5 ∧ ∀ a_374, zK z_367 a_374 = 0 → (∀ z_374, z_374 = nZ z_367 a_374 14 2000 → (zK z_374 t0 = 13 ∧ (∀ z_376, z_376 = wO z_374 t0 86 (some a_374) → ((0 : Int) ≤ 32 ∧ 32 < (33554432 : Int) ∧ 1 ≤ (((((((((((((((((((((((((((((((((((((((((c - 1) - 1) - 1) - 1) - 1) - 1) - 1) - 1) - 1) - 1) - 1) - 1) - 1) - 1) - 1) - 1) - 1) - 1) - 1) - 1) - 1) - 1) - 1) - 1) - 1) - 1) - 1) - 1) - 1) - 1) - 1) - 1) - 1) - 1) - 1) - 1) - 1) - 1) - 1) - 1) - 1) - 1 ∧ Int.toNat 32 ≤ (((((((((((((((((((((((((((((((((((((((((s - Int.toNat 122) - Int.toNat 122) - Int.toNat 3904) - Int.toNat 1220) - Int.toNat 39040) - Int.toNat 40) - Int.toNat 40) - Int.toNat 6) - Int.toNat 82400) - Int.toNat 4200) - Int.toNat 4200) - Int.toNat 4200) - Int.toNat 4200) - Int.toNat 60420) - Int.toNat 60420) - Int.toNat 60420) - Int.toNat 60420) - Int.toNat 60420) - Int.toNat 60420) - Int.toNat 60420) - Int.toNat 60420) - Int.toNat 60420) - Int.toNat 60420) - Int.toNat 60420) - Int.toNat 60420) - Int.toNat 60420) - Int.toNat 400) - Int.toNat 13120) - Int.toNat 13120) - Int.toNat 13120) - Int.toNat 314880) - Int.toNat 40) - Int.toNat 200) - Int.toNat 200) - Int.toNat 200) - Int.toNat 4800) - Int.toNat 20) - Int.toNat 1600) - Int.toNat 1600) - Int.toNat 320) - Int.toNat 5) - Int.toNat 2000 ∧ ∀ a_382, zK z_376 a_382 = 0 → (∀ z_382, z_382 = nZ z_376 a_382 15 32 → (zK z_382 t0 = 13 ∧ (∀ z_384, z_384 = wO z_382 t0 88 (some a_382) → ((0 : Int) ≤ 40 ∧ 40 < (33554432 : Int) ∧ 1 ≤ ((((((((((((((((((((((((((((((((((((((((((c - 1) - 1) - 1) - 1) - 1) - 1) - 1) - 1) - 1) - 1) - 1) - 1) - 1) - 1) - 1) - 1) - 1) - 1) - 1) - 1) - 1) - 1) - 1) - 1) - 1) - 1) - 1) - 1) - 1) - 1) - 1) - 1) - 1) - 1) - 1) - 1) - 1) - 1) - 1) - 1) - 1) - 1) - 1 ∧ Int.toNat 40 ≤ ((((((((((((((((((((((((((((((((((((((((((s - Int.toNat 122) - Int.toNat 122) - Int.toNat 3904) - Int.toNat 1220) - Int.toNat 39040) - Int.toNat 40) - Int.toNat 40) - Int.toNat 6) - Int.toNat 82400) - Int.toNat 4200) - Int.toNat 4200) - Int.toNat 4200) - Int.toNat 4200) - Int.toNat 60420) - Int.toNat 60420) - Int.toNat 60420) - Int.toNat 60420) - Int.toNat 60420) - Int.toNat 60420) - Int.toNat 60420) - Int.toNat 60420) - Int.toNat 60420) - Int.toNat 60420) - Int.toNat 60420) - Int.toNat 60420) - Int.toNat 60420) - Int.toNat 400) - Int.toNat 13120) - Int.toNat 13120) - Int.toNat 13120) - Int.toNat 314880) - Int.toNat 40) - Int.toNat 200) - Int.toNat 200) - Int.toNat 200) - Int.toNat 4800) - Int.toNat 20) - Int.toNat 1600) - Int.toNat 1600) - Int.toNat 320) - Int.toNat 5) - Int.toNat 2000) - Int.toNat 32 ∧ ∀ a_390, zK z_384 a_390 = 0 → (∀ z_390, z_390 = nZ z_384 a_390 17 40 → (zK z_390 t0 = 13 ∧ (∀ z_392, z_392 = wO z_390 t0 89 (some a_390) → ((0 : Int) ≤ 40 ∧ 40 < (33554432 : Int) ∧ 1 ≤ (((((((((((((((((((((((((((((((((((((((((((c - 1) - 1) - 1) - 1) - 1) - 1) - 1) - 1) - 1) - 1) - 1) - 1) - 1) - 1) - 1) - 1) - 1) - 1) - 1) - 1) - 1) - 1) - 1) - 1) - 1) - 1) - 1) - 1) - 1) - 1) - 1) - 1) - 1) - 1) - 1) - 1) - 1) - 1) - 1) - 1) - 1) - 1) - 1) - 1 ∧ Int.toNat 40 ≤ (((((((((((((((((((((((((((((((((((((((((((s - Int.toNat 122) - Int.toNat 122) - Int.toNat 3904) - Int.toNat 1220) - Int.toNat 39040) - Int.toNat 40) - Int.toNat 40) - Int.toNat 6) - Int.toNat 82400) - Int.toNat 4200) - Int.toNat 4200) - Int.toNat 4200) - Int.toNat 4200) - Int.toNat 60420) - Int.toNat 60420) - Int.toNat 60420) - Int.toNat 60420) - Int.toNat 60420) - Int.toNat 60420) - Int.toNat 60420) - Int.toNat 60420) - Int.toNat 60420) - Int.toNat 60420) - Int.toNat 60420) - Int.toNat 60420) - Int.toNat 60420) - Int.toNat 400) - Int.toNat 13120) - Int.toNat 13120) - Int.toNat 13120) - Int.toNat 314880) - Int.toNat 40) - Int.toNat 200) - Int.toNat 200) - Int.toNat 200) - Int.toNat 4800) - Int.toNat 20) - Int.toNat 1600) - Int.toNat 1600) - Int.toNat 320) - Int.toNat 5) - Int.toNat 2000) - Int.toNat 32) - Int.toNat 40 ∧ ∀ a_398, zK z_392 a_398 = 0 → (∀ z_398, z_398 = nZ z_392 a_398 17 40 → (zK z_398 t0 = 13 ∧ (∀ z_400, z_400 = wO z_398 t0 90 (some a_398) → ((0 : Int) ≤ 370 ∧ 370 < (33554432 : Int) ∧ 1 ≤ ((((((((((((((((((((((((((((((((((((((((((((c - 1) - 1) - 1) - 1) - 1) - 1) - 1) - 1) - 1) - 1) - 1) - 1) - 1) - 1) - 1) - 1) - 1) - 1) - 1) - 1) - 1) - 1) - 1) - 1) - 1) - 1) - 1) - 1) - 1) - 1) - 1) - 1) - 1) - 1) - 1) - 1) - 1) - 1) - 1) - 1) - 1) - 1) - 1) - 1) - 1 ∧ Int.toNat 370 ≤ ((((((((((((((((((((((((((((((((((((((((((((s - Int.toNat 122) - Int.toNat 122) - Int.toNat 3904) - Int.toNat 1220) - Int.toNat 39040) - Int.toNat 40) - Int.toNat 40) - Int.toNat 6) - Int.toNat 82400) - Int.toNat 4200) - Int.toNat 4200) - Int.toNat 4200) - Int.toNat 4200) - Int.toNat 60420) - Int.toNat 60420) - Int.toNat 60420) - Int.toNat 60420) - Int.toNat 60420) - Int.toNat 60420) - Int.toNat 60420) - Int.toNat 60420) - Int.toNat 60420) - Int.toNat 60420) - Int.toNat 60420) - Int.toNat 60420) - Int.toNat 60420) - Int.toNat 400) - Int.toNat 13120) - Int.toNat 13120) - Int.toNat 13120) - Int.toNat 314880) - Int.toNat 40) - Int.toNat 200) - Int.toNat 200) - Int.toNat 200) - Int.toNat 4800) - Int.toNat 20) - Int.toNat 1600) - Int.toNat 1600) - Int.toNat 320) - Int.toNat 5) - Int.toNat 2000) - Int.toNat 32) - Int.toNat 40) - Int.toNat 40 ∧ ∀ a_407, zK z_400 a_407 = 0 → (∀ z_407, z_407 = nZ z_400 a_407 15 370 → (zK z_407 t0 = 13 ∧ (∀ z_409, z_409 = wO z_407 t0 91 (some a_407) → ((0 : Int) ≤ 370 ∧ 370 < (33554432 : Int) ∧ 1 ≤ (((((((((((((((((((((((((((((((((((((((((((((c - 1) - 1) - 1) - 1) - 1) - 1) - 1) - 1) - 1) - 1) - 1) - 1) - 1) - 1) - 1) - 1) - 1) - 1) - 1) - 1) - 1) - 1) - 1) - 1) - 1) - 1) - 1) - 1) - 1) - 1) - 1) - 1) - 1) - 1) - 1) - 1) - 1) - 1) - 1) - 1) - 1) - 1) - 1) - 1) - 1) - 1 ∧ Int.toNat 370 ≤ (((((((((((((((((((((((((((((((((((((((((((((s - Int.toNat 122) - Int.toNat 122) - Int.toNat 3904) - Int.toNat 1220) - Int.toNat 39040) - Int.toNat 40) - Int.toNat 40) - Int.toNat 6) - Int.toNat 82400) - Int.toNat 4200) - Int.toNat 4200) - Int.toNat 4200) - Int.toNat 4200) - Int.toNat 60420) - Int.toNat 60420) - Int.toNat 60420) - Int.toNat 60420) - Int.toNat 60420) - Int.toNat 60420) - Int.toNat 60420) - Int.toNat 60420) - Int.toNat 60420) - Int.toNat 60420) - Int.toNat 60420) - Int.toNat 60420) - Int.toNat 60420) - Int.toNat 400) - Int.toNat 13120) - Int.toNat 13120) - Int.toNat 13120) - Int.toNat 314880) - Int.toNat 40) - Int.toNat 200) - Int.toNat 200) - Int.toNat 200) - Int.toNat 4800) - Int.toNat 20) - Int.toNat 1600) - Int.toNat 1600) - Int.toNat 320) - Int.toNat 5) - Int.toNat 2000) - Int.toNat 32) - Int.toNat 40) - Int.toNat 40) - Int.toNat 370 ∧ ∀ a_416, zK z_409 a_416 = 0 → (∀ z_416, z_416 = nZ z_409 a_416 15 370 → (zK z_416 t0 = 13 ∧ (∀ z_418, z_418 = wO z_416 t0 92 (some a_416) → ((0 : Int) ≤ 370 ∧ 370 < (33554432 : Int) ∧ 1 ≤ ((((((((((((((((((((((((((((((((((((((((((((((c - 1) - 1) - 1) - 1) - 1) - 1) - 1) - 1) - 1) - 1) - 1) - 1) - 1) - 1) - 1) - 1) - 1) - 1) - 1) - 1) - 1) - 1) - 1) - 1) - 1) - 1) - 1) - 1) - 1) - 1) - 1) - 1) - 1) - 1) - 1) - 1) - 1) - 1) - 1) - 1) - 1) - 1) - 1) - 1) - 1) - 1) - 1 ∧ Int.toNat 370 ≤ ((((((((((((((((((((((((((((((((((((((((((((((s - Int.toNat 122) - Int.toNat 122) - Int.toNat 3904) - Int.toNat 1220) - Int.toNat 39040) - Int.toNat 40) - Int.toNat 40) - Int.toNat 6) - Int.toNat 82400) - Int.toNat 4200) - Int.toNat 4200) - Int.toNat 4200) - Int.toNat 4200) - Int.toNat 60420) - Int.toNat 60420) - Int.toNat 60420) - Int.toNat 60420) - Int.toNat 60420) - Int.toNat 60420) - Int.toNat 60420) - Int.toNat 60420) - Int.toNat 60420) - Int.toNat 60420) - Int.toNat 60420) - Int.toNat 60420) - Int.toNat 60420) - Int.toNat 400) - Int.toNat 13120) - Int.toNat 13120) - Int.toNat 13120) - Int.toNat 314880) - Int.toNat 40) - Int.toNat 200) - Int.toNat 200) - Int.toNat 200) - Int.toNat 4800) - Int.toNat 20) - Int.toNat 1600) - Int.toNat 1600) - Int.toNat 320) - Int.toNat 5) - Int.toNat 2000) - Int.toNat 32) - Int.toNat 40) - Int.toNat 40) - Int.toNat 370) - Int.toNat 370 ∧ ∀ a_425, zK z_418 a_425 = 0 → (∀ z_425, z_425 = nZ z_418 a_425 15 370 → (zK z_425 t0 = 13 ∧ (∀ z_427, z_427 = wO z_425 t0 93 (some a_425) → ((0 : Int) ≤ 370 ∧ 370 < (33554432 : Int) ∧ 1 ≤ (((((((((((((((((((((((((((((((((((((((((((((((c - 1) - 1) - 1) - 1) - 1) - 1) - 1) - 1) - 1) - 1) - 1) - 1) - 1) - 1) - 1) - 1) - 1) - 1) - 1) - 1) - 1) - 1) - 1) - 1) - 1) - 1) - 1) - 1) - 1) - 1) - 1) - 1) - 1) - 1) - 1) - 1) - 1) - 1) - 1) - 1) - 1) - 1) - 1) - 1) - 1) - 1) - 1) - 1 ∧ Int.toNat 370 ≤ (((((((((((((((((((((((((((((((((((((((((((((((s - Int.toNat 122) - Int.toNat 122) - Int.toNat 3904) - Int.toNat 1220) - Int.toNat 39040) - Int.toNat 40) - Int.toNat 40) - Int.toNat 6) - Int.toNat 82400) - Int.toNat 4200) - Int.toNat 4200) - Int.toNat 4200) - Int.toNat 4200) - Int.toNat 60420) - Int.toNat 60420) - Int.toNat 60420) - Int.toNat 60420) - Int.toNat 60420) - Int.toNat 60420) - Int.toNat 60420) - Int.toNat 60420) - Int.toNat 60420) - Int.toNat 60420) - Int.toNat 60420) - Int.toNat 60420) - Int.toNat 60420) - Int.toNat 400) - Int.toNat 13120) - Int.toNat 13120) - Int.toNat 13120) - Int.toNat 314880) - Int.toNat 40) - Int.toNat 200) - Int.toNat 200) - Int.toNat 200) - Int.toNat 4800) - Int.toNat 20) - Int.toNat 1600) - Int.toNat 1600) - Int.toNat 320) - Int.toNat 5) - Int.toNat 2000) - Int.toNat 32) - Int.toNat 40) - Int.toNat 40) - Int.toNat 370) - Int.toNat 370) - Int.toNat 370 ∧ ∀ a_434, zK z_427 a_434 = 0 → (∀ z_434, z_434 = nZ z_427 a_434 15 370 → (zK z_434 t0 = 13 ∧ (∀ z_436, z_436 = wO z_434 t0 94 (some a_434) → ((0 : Int) ≤ 370 ∧ 370 < (33554432 : Int) ∧ 1 ≤ ((((((((((((((((((((((((((((((((((((((((((((((((c - 1) - 1) - 1) - 1) - 1) - 1) - 1) - 1) - 1) - 1) - 1) - 1) - 1) - 1) - 1) - 1) - 1) - 1) - 1) - 1) - 1) - 1) - 1) - 1) - 1) - 1) - 1) - 1) - 1) - 1) - 1) - 1) - 1) - 1) - 1) - 1) - 1) - 1) - 1) - 1) - 1) - 1) - 1) - 1) - 1) - 1) - 1) - 1) - 1 ∧ Int.toNat 370 ≤ ((((((((((((((((((((((((((((((((((((((((((((((((s - Int.toNat 122) - Int.toNat 122) - Int.toNat 3904) - Int.toNat 1220) - Int.toNat 39040) - Int.toNat 40) - Int.toNat 40) - Int.toNat 6) - Int.toNat 82400) - Int.toNat 4200) - Int.toNat 4200) - Int.toNat 4200) - Int.toNat 4200) - Int.toNat 60420) - Int.toNat 60420) - Int.toNat 60420) - Int.toNat 60420) - Int.toNat 60420) - Int.toNat 60420) - Int.toNat 60420) - Int.toNat 60420) - Int.toNat 60420) - Int.toNat 60420) - Int.toNat 60420) - Int.toNat 60420) - Int.toNat 60420) - Int.toNat 400) - Int.toNat 13120) - Int.toNat 13120) - Int.toNat 13120) - Int.toNat 314880) - Int.toNat 40) - Int.toNat 200) - Int.toNat 200) - Int.toNat 200) - Int.toNat 4800) - Int.toNat 20) - Int.toNat 1600) - Int.toNat 1600) - Int.toNat 320) - Int.toNat 5) - Int.toNat 2000) - Int.toNat 32) - Int.toNat 40) - Int.toNat 40) - Int.toNat 370) - Int.toNat 370) - Int.toNat 370) - Int.toNat 370 ∧ ∀ a_443, zK z_436 a_443 = 0 → (∀ z_443, z_443 = nZ z_436 a_443 15 370 → (zK z_443 t0 = 13 ∧ (∀ z_445, z_445 = wO z_443 t0 95 (some a_443) → ((0 : Int) ≤ 370 ∧ 370 < (33554432 : Int) ∧ 1 ≤ (((((((((((((((((((((((((((((((((((((((((((((((((c - 1) - 1) - 1) - 1) - 1) - 1) - 1) - 1) - 1) - 1) - 1) - 1) - 1) - 1) - 1) - 1) - 1) - 1) - 1) - 1) - 1) - 1) - 1) - 1) - 1) - 1) - 1) - 1) - 1) - 1) - 1) - 1) - 1) - 1) - 1) - 1) - 1) - 1) - 1) - 1) - 1) - 1) - 1) - 1) - 1) - 1) - 1) - 1) - 1) - 1 ∧ Int.toNat 370 ≤ (((((((((((((((((((((((((((((((((((((((((((((((((s - Int.toNat 122) - Int.toNat 122) - Int.toNat 3904) - Int.toNat 1220) - Int.toNat 39040) - Int.toNat 40) - Int.toNat 40) - Int.toNat 6) - Int.toNat 82400) - Int.toNat 4200) - Int.toNat 4200) - Int.toNat 4200) - Int.toNat 4200) - Int.toNat 60420) - Int.toNat 60420) - Int.toNat 60420) - Int.toNat 60420) - Int.toNat 60420) - Int.toNat 60420) - Int.toNat 60420) - Int.toNat 60420) - Int.toNat 60420) - Int.toNat 60420) - Int.toNat 60420) - Int.toNat 60420) - Int.toNat 60420) - Int.toNat 400) - Int.toNat 13120) - Int.toNat 13120) - Int.toNat 13120) - Int.toNat 314880) - Int.toNat 40) - Int.toNat 200) - Int.toNat 200) - Int.toNat 200) - Int.toNat 4800) - Int.toNat 20) - Int.toNat 1600) - Int.toNat 1600) - Int.toNat 320) - Int.toNat 5) - Int.toNat 2000) - Int.toNat 32) - Int.toNat 40) - Int.toNat 40) - Int.toNat 370) - Int.toNat 370) - Int.toNat 370) - Int.toNat 370) - Int.toNat 370 ∧ ∀ a_452, zK z_445 a_452 = 0 → (∀ z_452, z_452 = nZ z_445 a_452 17 370 → (zK z_452 t0 = 13 ∧ (∀ z_454, z_454 = wO z_452 t0 96 (some a_452) → ((0 : Int) ≤ 370 ∧ 370 < (33554432 : Int) ∧ 1 ≤ ((((((((((((((((((((((((((((((((((((((((((((((((((c - 1) - 1) - 1) - 1) - 1) - 1) - 1) - 1) - 1) - 1) - 1) - 1) - 1) - 1) - 1) - 1) - 1) - 1) - 1) - 1) - 1) - 1) - 1) - 1) - 1) - 1) - 1) - 1) - 1) - 1) - 1) - 1) - 1) - 1) - 1) - 1) - 1) - 1) - 1) - 1) - 1) - 1) - 1) - 1) - 1) - 1) - 1) - 1) - 1) - 1) - 1 ∧ Int.toNat 370 ≤ ((((((((((((((((((((((((((((((((((((((((((((((((((s - Int.toNat 122) - Int.toNat 122) - Int.toNat 3904) - Int.toNat 1220) - Int.toNat 39040) - Int.toNat 40) - Int.toNat 40) - Int.toNat 6) - Int.toNat 82400) - Int.toNat 4200) - Int.toNat 4200) - Int.toNat 4200) - Int.toNat 4200) - Int.toNat 60420) - Int.toNat 60420) - Int.toNat 60420) - Int.toNat 60420) - Int.toNat 60420) - Int.toNat 60420) - Int.toNat 60420) - Int.toNat 60420) - Int.toNat 60420) - Int.toNat 60420) - Int.toNat 60420) - Int.toNat 60420) - Int.toNat 60420) - Int.toNat 400) - Int.toNat 13120) - Int.toNat 13120) - Int.toNat 13120) - Int.toNat 314880) - Int.toNat 40) - Int.toNat 200) - Int.toNat 200) - Int.toNat 200) - Int.toNat 4800) - Int.toNat 20) - Int.toNat 1600) - Int.toNat 1600) - Int.toNat 320) - Int.toNat 5) - Int.toNat 2000) - Int.toNat 32) - Int.toNat 40) - Int.toNat 40) - Int.toNat 370) - Int.toNat 370) - Int.toNat 370) - Int.toNat 370) - Int.toNat 370) - Int.toNat 370 ∧ ∀ a_461, zK z_454 a_461 = 0 → (∀ z_461, z_461 = nZ z_454 a_461 17 370 → (zK z_461 t0 = 13 ∧ (∀ z_463, z_463 = wO z_461 t0 97 (some a_461) → ((0 : Int) ≤ 64 ∧ 64 < (33554432 : Int) ∧ 1 ≤ (((((((((((((((((((((((((((((((((((((((((((((((((((c - 1) - 1) - 1) - 1) - 1) - 1) - 1) - 1) - 1) - 1) - 1) - 1) - 1) - 1) - 1) - 1) - 1) - 1) - 1) - 1) - 1) - 1) - 1) - 1) - 1) - 1) - 1) - 1) - 1) - 1) - 1) - 1) - 1) - 1) - 1) - 1) - 1) - 1) - 1) - 1) - 1) - 1) - 1) - 1) - 1) - 1) - 1) - 1) - 1) - 1) - 1) - 1 ∧ Int.toNat 64 ≤ (((((((((((((((((((((((((((((((((((((((((((((((((((s - Int.toNat 122) - Int.toNat 122) - Int.toNat 3904) - Int.toNat 1220) - Int.toNat 39040) - Int.toNat 40) - Int.toNat 40) - Int.toNat 6) - Int.toNat 82400) - Int.toNat 4200) - Int.toNat 4200) - Int.toNat 4200) - Int.toNat 4200) - Int.toNat 60420) - Int.toNat 60420) - Int.toNat 60420) - Int.toNat 60420) - Int.toNat 60420) - Int.toNat 60420) - Int.toNat 60420) - Int.toNat 60420) - Int.toNat 60420) - Int.toNat 60420) - Int.toNat 60420) - Int.toNat 60420) - Int.toNat 60420) - Int.toNat 400) - Int.toNat 13120) - Int.toNat 13120) - Int.toNat 13120) - Int.toNat 314880) - Int.toNat 40) - Int.toNat 200) - Int.toNat 200) - Int.toNat 200) - Int.toNat 4800) - Int.toNat 20) - Int.toNat 1600) - Int.toNat 1600) - Int.toNat 320) - Int.toNat 5) - Int.toNat 2000) - Int.toNat 32) - Int.toNat 40) - Int.toNat 40) - Int.toNat 370) - Int.toNat 370) - Int.toNat 370) - Int.toNat 370) - Int.toNat 370) - Int.toNat 370) - Int.toNat 370 ∧ ∀ a_469, zK z_463 a_469 = 0 → (∀ z_469, z_469 = nZ z_463 a_469 15 64 → (zK z_469 t0 = 13 ∧ (∀ z_471, z_471 = wO z_469 t0 99 (some a_469) → ((0 : Int) ≤ 410 ∧ 410 < (33554432 : Int) ∧ 1 ≤ ((((((((((((((((((((((((((((((((((((((((((((((((((((c - 1) - 1) - 1) - 1) - 1) - 1) - 1) - 1) - 1) - 1) - 1) - 1) - 1) - 1) - 1) - 1) - 1) - 1) - 1) - 1) - 1) - 1) - 1) - 1) - 1) - 1) - 1) - 1) - 1) - 1) - 1) - 1) - 1) - 1) - 1) - 1) - 1) - 1) - 1) - 1) - 1) - 1) - 1) - 1) - 1) - 1) - 1) - 1) - 1) - 1) - 1) - 1) - 1 ∧ Int.toNat 410 ≤ ((((((((((((((((((((((((((((((((((((((((((((((((((((s - Int.toNat 122) - Int.toNat 122) - Int.toNat 3904) - Int.toNat 1220) - Int.toNat 39040) - Int.toNat 40) - Int.toNat 40) - Int.toNat 6) - Int.toNat 82400) - Int.toNat 4200) - Int.toNat 4200) - Int.toNat 4200) - Int.toNat 4200) - Int.toNat 60420) - Int.toNat 60420) - Int.toNat 60420) - Int.toNat 60420) - Int.toNat 60420) - Int.toNat 60420) - Int.toNat 60420) - Int.toNat 60420) - Int.toNat 60420) - Int.toNat 60420) - Int.toNat 60420) - Int.toNat 60420) - Int.toNat 60420) - Int.toNat 400) - Int.toNat 13120) - Int.toNat 13120) - Int.toNat 13120) - Int.toNat 314880) - Int.toNat 40) - Int.toNat 200) - Int.toNat 200) - Int.toNat 200) - Int.toNat 4800) - Int.toNat 20) - Int.toNat 1600) - Int.toNat 1600) - Int.toNat 320) - Int.toNat 5) - Int.toNat 2000) - Int.toNat 32) - Int.toNat 40) - Int.toNat 40) - Int.toNat 370) - Int.toNat 370) - Int.toNat 370) - Int.toNat 370) - Int.toNat 370) - Int.toNat 370) - Int.toNat 370) - Int.toNat 64 ∧ ∀ a_478, zK z_471 a_478 = 0 → (∀ z_478, z_478 = nZ z_471 a_478 15 410 → (zK z_478 t0 = 13 ∧ (∀ z_480, z_480 = wO z_478 t0 101 (some a_478) → ((0 : Int) ≤ 410 ∧ 410 < (33554432 : Int) ∧ 1 ≤ (((((((((((((((((((((((((((((((((((((((((((((((((((((c - 1) - 1) - 1) - 1) - 1) - 1) - 1) - 1) - 1) - 1) - 1) - 1) - 1) - 1) - 1) - 1) - 1) - 1) - 1) - 1) - 1) - 1) - 1) - 1) - 1) - 1) - 1) - 1) - 1) - 1) - 1) - 1) - 1) - 1) - 1) - 1) - 1) - 1) - 1) - 1) - 1) - 1) - 1) - 1) - 1) - 1) - 1) - 1) - 1) - 1) - 1) - 1) - 1) - 1 ∧ Int.toNat 410 ≤ (((((((((((((((((((((((((((((((((((((((((((((((((((((s - Int.toNat 122) - Int.toNat 122) - Int.toNat 3904) - Int.toNat 1220) - Int.toNat 39040) - Int.toNat 40) - Int.toNat 40) - Int.toNat 6) - Int.toNat 82400) - Int.toNat 4200) - Int.toNat 4200) - Int.toNat 4200) - Int.toNat 4200) - Int.toNat 60420) - Int.toNat 60420) - Int.toNat 60420) - Int.toNat 60420) - Int.toNat 60420) - Int.toNat 60420) - Int.toNat 60420) - Int.toNat 60420) - Int.toNat 60420) - Int.toNat 60420) - Int.toNat 60420) - Int.toNat 60420) - Int.toNat 60420) - Int.toNat 400) - Int.toNat 13120) - Int.toNat 13120) - Int.toNat 13120) - Int.toNat 314880) - Int.toNat 40) - Int.toNat 200) - Int.toNat 200) - Int.toNat 200) - Int.toNat 4800) - Int.toNat 20) - Int.toNat 1600) - Int.toNat 1600) - Int.toNat 320) - Int.toNat 5) - Int.toNat 2000) - Int.toNat 32) - Int.toNat 40) - Int.toNat 40) - Int.toNat 370) - Int.toNat 370) - Int.toNat 370) - Int.toNat 370) - Int.toNat 370) - Int.toNat 370) - Int.toNat 370) - Int.toNat 64) - Int.toNat 410 ∧ ∀ a_487, zK z_480 a_487 = 0 → (∀ z_487, z_487 = nZ z_480 a_487 15 410 → (zK z_487 t0 = 13 ∧ (∀ z_489, z_489 = wO z_487 t0 102 (some a_487) → ((0 : Int) ≤ 410 ∧ 410 < (33554432 : Int) ∧ 1 ≤ ((((((((((((((((((((((((((((((((((((((((((((((((((((((c - 1) - 1) - 1) - 1) - 1) - 1) - 1) - 1) - 1) - 1) - 1) - 1) - 1) - 1) - 1) - 1) - 1) - 1) - 1) - 1) - 1) - 1) - 1) - 1) - 1) - 1) - 1) - 1) - 1) - 1) - 1) - 1) - 1) - 1) - 1) - 1) - 1) - 1) - 1) - 1) - 1) - 1) - 1) - 1) - 1) - 1) - 1) - 1) - 1) - 1) - 1) - 1) - 1) - 1) - 1 ∧ Int.toNat 410 ≤ ((((((((((((((((((((((((((((((((((((((((((((((((((((((s - Int.toNat 122) - Int.toNat 122) - Int.toNat 3904) - Int.toNat 1220) - Int.toNat 39040) - Int.toNat 40) - Int.toNat 40) - Int.toNat 6) - Int.toNat 82400) - Int.toNat 4200) - Int.toNat 4200) - Int.toNat 4200) - Int.toNat 4200) - Int.toNat 60420) - Int.toNat 60420) - Int.toNat 60420) - Int.toNat 60420) - Int.toNat 60420) - Int.toNat 60420) - Int.toNat 60420) - Int.toNat 60420) - Int.toNat 60420) - Int.toNat 60420) - Int.toNat 60420) - Int.toNat 60420) - Int.toNat 60420) - Int.toNat 400) - Int.toNat 13120) - Int.toNat 13120) - Int.toNat 13120) - Int.toNat 314880) - Int.toNat 40) - Int.toNat 200) - Int.toNat 200) - Int.toNat 200) - Int.toNat 4800) - Int.toNat 20) - Int.toNat 1600) - Int.toNat 1600) - Int.toNat 320) - Int.toNat 5) - Int.toNat 2000) - Int.toNat 32) - Int.toNat 40) - Int.toNat 40) - Int.toNat 370) - Int.toNat 370) - Int.toNat 370) - Int.toNat 370) - Int.toNat 370) - Int.toNat 370) - Int.toNat 370) - Int.toNat 64) - Int.toNat 410) - Int.toNat 410 ∧ ∀ a_496, zK z_489 a_496 = 0 → (∀ z_496, z_496 = nZ z_489 a_496 15 410 → (zK z_496 t0 = 13 ∧ (∀ z_498, z_498 = wO z_496 t0 103 (some a_496) → F_X12_init_503 t0 1 z_498 ((((((((((((((((((((((((((((((((((((((((((((((((((((((((c - 1) - 1) - 1) - 1) - 1) - 1) - 1) - 1) - 1) - 1) - 1) - 1) - 1) - 1) - 1) - 1) - 1) - 1) - 1) - 1) - 1) - 1) - 1) - 1) - 1) - 1) - 1) - 1) - 1) - 1) - 1) - 1) - 1) - 1) - 1) - 1) - 1) - 1) - 1) - 1) - 1) - 1) - 1) - 1) - 1) - 1) - 1) - 1) - 1) - 1) - 1) - 1) - 1) - 1) - 1) - 1) ((((((((((((((((((((((((((((((((((((((((((((((((((((((((s - Int.toNat 122) - Int.toNat 122) - Int.toNat 3904) - Int.toNat 1220) - Int.toNat 39040) - Int.toNat 40) - Int.toNat 40) - Int.toNat 6) - Int.toNat 82400) - Int.toNat 4200) - Int.toNat 4200) - Int.toNat 4200) - Int.toNat 4200) - Int.toNat 60420) - Int.toNat 60420) - Int.toNat 60420) - Int.toNat 60420) - Int.toNat 60420) - Int.toNat 60420) - Int.toNat 60420) - Int.toNat 60420) - Int.toNat 60420) - Int.toNat 60420) - Int.toNat 60420) - Int.toNat 60420) - Int.toNat 60420) - Int.toNat 400) - Int.toNat 13120) - Int.toNat 13120) - Int.toNat 13120) - Int.toNat 314880) - Int.toNat 40) - Int.toNat 200) - Int.toNat 200) - Int.toNat 200) - Int.toNat 4800) - Int.toNat 20) - Int.toNat 1600) - Int.toNat 1600) - Int.toNat 320) - Int.toNat 5) - Int.toNat 2000) - Int.toNat 32) - Int.toNat 40) - Int.toNat 40) - Int.toNat 370) - Int.toNat 370) - Int.toNat 370) - Int.toNat 370) - Int.toNat 370) - Int.toNat 370) - Int.toNat 370) - Int.toNat 64) - Int.toNat 410) - Int.toNat 410) - Int.toNat 410) P))))))))))))))))))))))))))))))))))))))))))))))))))))))))))))))))))))))))))))))))))))))))))))))))))))))))))))))))))))))))))))))))))))))))))))))))))))))))))))))))))))))))))))))))))))))))))))))))))))))))))))))))))))))))))))))))))))
set_option maxRecDepth 50000 in
theorem T_X12_init  {t0 : Nat} {z : Z} {c : Nat} {s : Nat} {P : Z → Prop} {post0 : Option Sv → Hp → Prop} (K : ∀ (z : Z) (c s : Nat), Wz z → P z → J mX12_init 4 c s (nx post0) 598 [some (vr (some t0)), none] [ii 40, ii 0, vr (some t0)] (cz z)) (hw : Wz z)  (H : F_X12_init t0 z c s P) : Con mX12_init 4 c s [vr (some t0)] (cz z) post0 := by
  refine con_of rfl (Nat.le_of_ble_eq_true rfl) (by decide) ?_
  show J mX12_init 4 c s _ 0 [some (vr (some t0)), none] [] (cz z)
  unfold F_X12_init at H
  refine j_aload_n (dk dt_X12_init 0 rfl) rfl ?_
  refine j_objInit (dk dt_X12_init 1 rfl) ol_X12_1 ob_1 ob_2 (by decide) (Nat.le_of_ble_eq_true rfl) ?_
  refine j_aload_n (dk dt_X12_init 2 rfl) rfl ?_
  refine j_bipush (v := Int32.ofInt 122) (dk dt_X12_init 3 rfl) (by decide) ?_
  obtain ⟨p_7, q_7, hc_7, hs_7, H⟩ := H
  refine jz_newI (dk dt_X12_init 4 rfl) p_7 q_7 hc_7 hs_7 hw (fun a_7 e_7 w_7 => ?_)
  replace H := H a_7 e_7
  replace H := H _ rfl
  obtain ⟨k_9, H⟩ := H
  refine jz_putOF (kz := 1) (dk dt_X12_init 5 rfl) fl_X12_7 rfl (fun _ _ q => by cases q; rfl) rfl rfl rfl k_9 w_7 (fun w_9 => ?_)
  replace H := H _ rfl
  refine j_aload_n (dk dt_X12_init 6 rfl) rfl ?_
  refine j_bipush (v := Int32.ofInt 122) (dk dt_X12_init 7 rfl) (by decide) ?_
  obtain ⟨p_15, q_15, hc_15, hs_15, H⟩ := H
  refine jz_newI (dk dt_X12_init 8 rfl) p_15 q_15 hc_15 hs_15 w_9 (fun a_15 e_15 w_15 => ?_)
  replace H := H a_15 e_15
  replace H := H _ rfl
  obtain ⟨k_17, H⟩ := H
  refine jz_putOF (kz := 2) (dk dt_X12_init 9 rfl) fl_X12_13 rfl (fun _ _ q => by cases q; rfl) rfl rfl rfl k_17 w_15 (fun w_17 => ?_)
  replace H := H _ rfl
  refine j_aload_n (dk dt_X12_init 10 rfl) rfl ?_
  refine j_sipush (v := Int32.ofInt 3904) (dk dt_X12_init 11 rfl) (by decide) ?_
  obtain ⟨p_24, q_24, hc_24, hs_24, H⟩ := H
  refine jz_newI (dk dt_X12_init 12 rfl) p_24 q_24 hc_24 hs_24 w_17 (fun a_24 e_24 w_24 => ?_)
  replace H := H a_24 e_24
  replace H := H _ rfl
  obtain ⟨k_26, H⟩ := H
  refine jz_putOF (kz := 3) (dk dt_X12_init 13 rfl) fl_X12_16 rfl (fun _ _ q => by cases q; rfl) rfl rfl rfl k_26 w_24 (fun w_26 => ?_)
  replace H := H _ rfl
  refine j_aload_n (dk dt_X12_init 14 rfl) rfl ?_
  refine j_sipush (v := Int32.ofInt 1220) (dk dt_X12_init 15 rfl) (by decide) ?_
  obtain ⟨p_33, q_33, hc_33, hs_33, H⟩ := H
  refine jz_newI (dk dt_X12_init 16 rfl) p_33 q_33 hc_33 hs_33 w_26 (fun a_33 e_33 w_33 => ?_)
  replace H := H a_33 e_33
  replace H := H _ rfl
  obtain ⟨k_35, H⟩ := H
  refine jz_putOF (kz := 4) (dk dt_X12_init 17 rfl) fl_X12_19 rfl (fun _ _ q => by cases q; rfl) rfl rfl rfl k_35 w_33 (fun w_35 => ?_)
  replace H := H _ rfl
  refine j_aload_n (dk dt_X12_init 18 rfl) rfl ?_
  refine j_ldc (v := Int32.ofInt (39040)) (dk dt_X12_init 19 rfl) (by exact kl_X12_22) ?_
  obtain ⟨p_41, q_41, hc_41, hs_41, H⟩ := H
  refine jz_newI (dk dt_X12_init 20 rfl) p_41 q_41 hc_41 hs_41 w_35 (fun a_41 e_41 w_41 => ?_)
  replace H := H a_41 e_41
  replace H := H _ rfl
  obtain ⟨k_43, H⟩ := H
  refine jz_putOF (kz := 5) (dk dt_X12_init 21 rfl) fl_X12_23 rfl (fun _ _ q => by cases q; rfl) rfl rfl rfl k_43 w_41 (fun w_43 => ?_)
  replace H := H _ rfl
  refine j_aload_n (dk dt_X12_init 22 rfl) rfl ?_
  refine j_bipush (v := Int32.ofInt 8) (dk dt_X12_init 23 rfl) (by decide) ?_
  refine jz_putI (kz := 6) (dk dt_X12_init 24 rfl) fl_X12_26 rfl rfl rfl rfl rfl k_43 w_43 (by decide) (fun w_49 => ?_)
  replace H := H _ rfl
  refine j_aload_n (dk dt_X12_init 25 rfl) rfl ?_
  refine j_bipush (v := Int32.ofInt 6) (dk dt_X12_init 26 rfl) (by decide) ?_
  refine jz_putI (kz := 7) (dk dt_X12_init 27 rfl) fl_X12_30 rfl rfl rfl rfl rfl k_43 w_49 (by decide) (fun w_55 => ?_)
  replace H := H _ rfl
  refine j_aload_n (dk dt_X12_init 28 rfl) rfl ?_
  refine j_iconst (v := Int32.ofInt 1) (dk dt_X12_init 29 rfl) (by decide) ?_
  refine jz_putI (kz := 8) (dk dt_X12_init 30 rfl) fl_X12_33 rfl rfl rfl rfl rfl k_43 w_55 (by decide) (fun w_60 => ?_)
  replace H := H _ rfl
  refine j_aload_n (dk dt_X12_init 31 rfl) rfl ?_
  refine j_bipush (v := Int32.ofInt 40) (dk dt_X12_init 32 rfl) (by decide) ?_
  obtain ⟨p_66, q_66, hc_66, hs_66, H⟩ := H
  refine jz_newI (dk dt_X12_init 33 rfl) p_66 q_66 hc_66 hs_66 w_60 (fun a_66 e_66 w_66 => ?_)
  replace H := H a_66 e_66
  replace H := H _ rfl
  obtain ⟨k_68, H⟩ := H
  refine jz_putOF (kz := 9) (dk dt_X12_init 34 rfl) fl_X12_36 rfl (fun _ _ q => by cases q; rfl) rfl rfl rfl k_68 w_66 (fun w_68 => ?_)
  replace H := H _ rfl
  refine j_aload_n (dk dt_X12_init 35 rfl) rfl ?_
  refine j_bipush (v := Int32.ofInt 40) (dk dt_X12_init 36 rfl) (by decide) ?_
  obtain ⟨p_74, q_74, hc_74, hs_74, H⟩ := H
  refine jz_newI (dk dt_X12_init 37 rfl) p_74 q_74 hc_74 hs_74 w_68 (fun a_74 e_74 w_74 => ?_)
  replace H := H a_74 e_74
  replace H := H _ rfl
  obtain ⟨k_76, H⟩ := H
  refine jz_putOF (kz := 10) (dk dt_X12_init 38 rfl) fl_X12_39 rfl (fun _ _ q => by cases q; rfl) rfl rfl rfl k_76 w_74 (fun w_76 => ?_)
  replace H := H _ rfl
  refine j_aload_n (dk dt_X12_init 39 rfl) rfl ?_
  refine j_bipush (v := Int32.ofInt 6) (dk dt_X12_init 40 rfl) (by decide) ?_
  obtain ⟨p_82, q_82, hc_82, hs_82, H⟩ := H
  refine jz_newI (dk dt_X12_init 41 rfl) p_82 q_82 hc_82 hs_82 w_76 (fun a_82 e_82 w_82 => ?_)
  replace H := H a_82 e_82
  replace H := H _ rfl
  obtain ⟨k_84, H⟩ := H
  refine jz_putOF (kz := 11) (dk dt_X12_init 42 rfl) fl_X12_42 rfl (fun _ _ q => by cases q; rfl) rfl rfl rfl k_84 w_82 (fun w_84 => ?_)
  replace H := H _ rfl
  refine j_aload_n (dk dt_X12_init 43 rfl) rfl ?_
  refine j_iconst (v := Int32.ofInt (-1)) (dk dt_X12_init 44 rfl) (by decide) ?_
  refine jz_putI (kz := 13) (dk dt_X12_init 45 rfl) fl_X12_45 rfl rfl rfl rfl rfl k_84 w_84 (by decide) (fun w_89 => ?_)
  replace H := H _ rfl
  refine j_aload_n (dk dt_X12_init 46 rfl) rfl ?_
  refine j_ldc (v := Int32.ofInt (82400)) (dk dt_X12_init 47 rfl) (by exact kl_X12_48) ?_
  obtain ⟨p_95, q_95, hc_95, hs_95, H⟩ := H
  refine jz_newB (dk dt_X12_init 48 rfl) p_95 q_95 hc_95 hs_95 w_89 (fun a_95 e_95 w_95 => ?_)
  replace H := H a_95 e_95
  replace H := H _ rfl
  obtain ⟨k_97, H⟩ := H
  refine jz_putOF (kz := 18) (dk dt_X12_init 49 rfl) fl_X12_49 rfl (fun _ _ q => by cases q; rfl) rfl rfl rfl k_97 w_95 (fun w_97 => ?_)
  replace H := H _ rfl
  refine j_aload_n (dk dt_X12_init 50 rfl) rfl ?_
  refine j_sipush (v := Int32.ofInt 4200) (dk dt_X12_init 51 rfl) (by decide) ?_
  obtain ⟨p_104, q_104, hc_104, hs_104, H⟩ := H
  refine jz_newI (dk dt_X12_init 52 rfl) p_104 q_104 hc_104 hs_104 w_97 (fun a_104 e_104 w_104 => ?_)
  replace H := H a_104 e_104
  replace H := H _ rfl
  obtain ⟨k_106, H⟩ := H
  refine jz_putOF (kz := 20) (dk dt_X12_init 53 rfl) fl_X12_53 rfl (fun _ _ q => by cases q; rfl) rfl rfl rfl k_106 w_104 (fun w_106 => ?_)
  replace H := H _ rfl
  refine j_aload_n (dk dt_X12_init 54 rfl) rfl ?_
  refine j_sipush (v := Int32.ofInt 4200) (dk dt_X12_init 55 rfl) (by decide) ?_
  obtain ⟨p_113, q_113, hc_113, hs_113, H⟩ := H
  refine jz_newJ (dk dt_X12_init 56 rfl) p_113 q_113 hc_113 hs_113 w_106 (fun a_113 e_113 w_113 => ?_)
  replace H := H a_113 e_113
  replace H := H _ rfl
  obtain ⟨k_115, H⟩ := H
  refine jz_putOF (kz := 21) (dk dt_X12_init 57 rfl) fl_X12_56 rfl (fun _ _ q => by cases q; rfl) rfl rfl rfl k_115 w_113 (fun w_115 => ?_)
  replace H := H _ rfl
  refine j_aload_n (dk dt_X12_init 58 rfl) rfl ?_
  refine j_sipush (v := Int32.ofInt 4200) (dk dt_X12_init 59 rfl) (by decide) ?_
  obtain ⟨p_122, q_122, hc_122, hs_122, H⟩ := H
  refine jz_newI (dk dt_X12_init 60 rfl) p_122 q_122 hc_122 hs_122 w_115 (fun a_122 e_122 w_122 => ?_)
  replace H := H a_122 e_122
  replace H := H _ rfl
  obtain ⟨k_124, H⟩ := H
  refine jz_putOF (kz := 22) (dk dt_X12_init 61 rfl) fl_X12_60 rfl (fun _ _ q => by cases q; rfl) rfl rfl rfl k_124 w_122 (fun w_124 => ?_)
  replace H := H _ rfl
  refine j_aload_n (dk dt_X12_init 62 rfl) rfl ?_
  refine j_sipush (v := Int32.ofInt 4200) (dk dt_X12_init 63 rfl) (by decide) ?_
  obtain ⟨p_131, q_131, hc_131, hs_131, H⟩ := H
  refine jz_newI (dk dt_X12_init 64 rfl) p_131 q_131 hc_131 hs_131 w_124 (fun a_131 e_131 w_131 => ?_)
  replace H := H a_131 e_131
  replace H := H _ rfl
  obtain ⟨k_133, H⟩ := H
  refine jz_putOF (kz := 23) (dk dt_X12_init 65 rfl) fl_X12_63 rfl (fun _ _ q => by cases q; rfl) rfl rfl rfl k_133 w_131 (fun w_133 => ?_)
  replace H := H _ rfl
  refine j_aload_n (dk dt_X12_init 66 rfl) rfl ?_
  refine j_ldc (v := Int32.ofInt (60420)) (dk dt_X12_init 67 rfl) (by exact kl_X12_66) ?_
  obtain ⟨p_139, q_139, hc_139, hs_139, H⟩ := H
  refine jz_newI (dk dt_X12_init 68 rfl) p_139 q_139 hc_139 hs_139 w_133 (fun a_139 e_139 w_139 => ?_)
  replace H := H a_139 e_139
  replace H := H _ rfl
  obtain ⟨k_141, H⟩ := H
  refine jz_putOF (kz := 26) (dk dt_X12_init 69 rfl) fl_X12_67 rfl (fun _ _ q => by cases q; rfl) rfl rfl rfl k_141 w_139 (fun w_141 => ?_)
  replace H := H _ rfl
  refine j_aload_n (dk dt_X12_init 70 rfl) rfl ?_
  refine j_ldc (v := Int32.ofInt (60420)) (dk dt_X12_init 71 rfl) (by exact kl_X12_66) ?_
  obtain ⟨p_147, q_147, hc_147, hs_147, H⟩ := H
  refine jz_newI (dk dt_X12_init 72 rfl) p_147 q_147 hc_147 hs_147 w_141 (fun a_147 e_147 w_147 => ?_)
  replace H := H a_147 e_147
  replace H := H _ rfl
  obtain ⟨k_149, H⟩ := H
  refine jz_putOF (kz := 27) (dk dt_X12_init 73 rfl) fl_X12_70 rfl (fun _ _ q => by cases q; rfl) rfl rfl rfl k_149 w_147 (fun w_149 => ?_)
  replace H := H _ rfl
  refine j_aload_n (dk dt_X12_init 74 rfl) rfl ?_
  refine j_ldc (v := Int32.ofInt (60420)) (dk dt_X12_init 75 rfl) (by exact kl_X12_66) ?_
  obtain ⟨p_155, q_155, hc_155, hs_155, H⟩ := H
  refine jz_newI (dk dt_X12_init 76 rfl) p_155 q_155 hc_155 hs_155 w_149 (fun a_155 e_155 w_155 => ?_)
  replace H := H a_155 e_155
  replace H := H _ rfl
  obtain ⟨k_157, H⟩ := H
  refine jz_putOF (kz := 28) (dk dt_X12_init 77 rfl) fl_X12_73 rfl (fun _ _ q => by cases q; rfl) rfl rfl rfl k_157 w_155 (fun w_157 => ?_)
  replace H := H _ rfl
  refine j_aload_n (dk dt_X12_init 78 rfl) rfl ?_
  refine j_ldc (v := Int32.ofInt (60420)) (dk dt_X12_init 79 rfl) (by exact kl_X12_66) ?_
  obtain ⟨p_163, q_163, hc_163, hs_163, H⟩ := H
  refine jz_newJ (dk dt_X12_init 80 rfl) p_163 q_163 hc_163 hs_163 w_157 (fun a_163 e_163 w_163 => ?_)
  replace H := H a_163 e_163
  replace H := H _ rfl
  obtain ⟨k_165, H⟩ := H
  refine jz_putOF (kz := 29) (dk dt_X12_init 81 rfl) fl_X12_76 rfl (fun _ _ q => by cases q; rfl) rfl rfl rfl k_165 w_163 (fun w_165 => ?_)
  replace H := H _ rfl
  refine j_aload_n (dk dt_X12_init 82 rfl) rfl ?_
  refine j_ldc (v := Int32.ofInt (60420)) (dk dt_X12_init 83 rfl) (by exact kl_X12_66) ?_
  obtain ⟨p_171, q_171, hc_171, hs_171, H⟩ := H
  refine jz_newI (dk dt_X12_init 84 rfl) p_171 q_171 hc_171 hs_171 w_165 (fun a_171 e_171 w_171 => ?_)
  replace H := H a_171 e_171
  replace H := H _ rfl
  obtain ⟨k_173, H⟩ := H
  refine jz_putOF (kz := 30) (dk dt_X12_init 85 rfl) fl_X12_79 rfl (fun _ _ q => by cases q; rfl) rfl rfl rfl k_173 w_171 (fun w_173 => ?_)
  replace H := H _ rfl
  refine j_aload_n (dk dt_X12_init 86 rfl) rfl ?_
  refine j_ldc (v := Int32.ofInt (60420)) (dk dt_X12_init 87 rfl) (by exact kl_X12_66) ?_
  obtain ⟨p_179, q_179, hc_179, hs_179, H⟩ := H
  refine jz_newI (dk dt_X12_init 88 rfl) p_179 q_179 hc_179 hs_179 w_173 (fun a_179 e_179 w_179 => ?_)
  replace H := H a_179 e_179
  replace H := H _ rfl
  obtain ⟨k_181, H⟩ := H
  refine jz_putOF (kz := 31) (dk dt_X12_init 89 rfl) fl_X12_82 rfl (fun _ _ q => by cases q; rfl) rfl rfl rfl k_181 w_179 (fun w_181 => ?_)
  replace H := H _ rfl
  refine j_aload_n (dk dt_X12_init 90 rfl) rfl ?_
  refine j_ldc (v := Int32.ofInt (60420)) (dk dt_X12_init 91 rfl) (by exact kl_X12_66) ?_
  obtain ⟨p_187, q_187, hc_187, hs_187, H⟩ := H
  refine jz_newI (dk dt_X12_init 92 rfl) p_187 q_187 hc_187 hs_187 w_181 (fun a_187 e_187 w_187 => ?_)
  replace H := H a_187 e_187
  replace H := H _ rfl
  obtain ⟨k_189, H⟩ := H
  refine jz_putOF (kz := 32) (dk dt_X12_init 93 rfl) fl_X12_85 rfl (fun _ _ q => by cases q; rfl) rfl rfl rfl k_189 w_187 (fun w_189 => ?_)
  replace H := H _ rfl
  refine j_aload_n (dk dt_X12_init 94 rfl) rfl ?_
  refine j_ldc (v := Int32.ofInt (60420)) (dk dt_X12_init 95 rfl) (by exact kl_X12_66) ?_
  obtain ⟨p_195, q_195, hc_195, hs_195, H⟩ := H
  refine jz_newI (dk dt_X12_init 96 rfl) p_195 q_195 hc_195 hs_195 w_189 (fun a_195 e_195 w_195 => ?_)
  replace H := H a_195 e_195
  replace H := H _ rfl
  obtain ⟨k_197, H⟩ := H
  refine jz_putOF (kz := 33) (dk dt_X12_init 97 rfl) fl_X12_88 rfl (fun _ _ q => by cases q; rfl) rfl rfl rfl k_197 w_195 (fun w_197 => ?_)
  replace H := H _ rfl
  refine j_aload_n (dk dt_X12_init 98 rfl) rfl ?_
  refine j_ldc (v := Int32.ofInt (60420)) (dk dt_X12_init 99 rfl) (by exact kl_X12_66) ?_
  obtain ⟨p_203, q_203, hc_203, hs_203, H⟩ := H
  refine jz_newI (dk dt_X12_init 100 rfl) p_203 q_203 hc_203 hs_203 w_197 (fun a_203 e_203 w_203 => ?_)
  replace H := H a_203 e_203
  replace H := H _ rfl
  obtain ⟨k_205, H⟩ := H
  refine jz_putOF (kz := 34) (dk dt_X12_init 101 rfl) fl_X12_91 rfl (fun _ _ q => by cases q; rfl) rfl rfl rfl k_205 w_203 (fun w_205 => ?_)
  replace H := H _ rfl
  refine j_aload_n (dk dt_X12_init 102 rfl) rfl ?_
  refine j_ldc (v := Int32.ofInt (60420)) (dk dt_X12_init 103 rfl) (by exact kl_X12_66) ?_
  obtain ⟨p_211, q_211, hc_211, hs_211, H⟩ := H
  refine jz_newI (dk dt_X12_init 104 rfl) p_211 q_211 hc_211 hs_211 w_205 (fun a_211 e_211 w_211 => ?_)
  replace H := H a_211 e_211
  replace H := H _ rfl
  obtain ⟨k_213, H⟩ := H
  refine jz_putOF (kz := 35) (dk dt_X12_init 105 rfl) fl_X12_94 rfl (fun _ _ q => by cases q; rfl) rfl rfl rfl k_213 w_211 (fun w_213 => ?_)
  replace H := H _ rfl
  refine j_aload_n (dk dt_X12_init 106 rfl) rfl ?_
  refine j_ldc (v := Int32.ofInt (60420)) (dk dt_X12_init 107 rfl) (by exact kl_X12_66) ?_
  obtain ⟨p_219, q_219, hc_219, hs_219, H⟩ := H
  refine jz_newI (dk dt_X12_init 108 rfl) p_219 q_219 hc_219 hs_219 w_213 (fun a_219 e_219 w_219 => ?_)
  replace H := H a_219 e_219
  replace H := H _ rfl
  obtain ⟨k_221, H⟩ := H
  refine jz_putOF (kz := 36) (dk dt_X12_init 109 rfl) fl_X12_97 rfl (fun _ _ q => by cases q; rfl) rfl rfl rfl k_221 w_219 (fun w_221 => ?_)
  replace H := H _ rfl
  refine j_aload_n (dk dt_X12_init 110 rfl) rfl ?_
  refine j_ldc (v := Int32.ofInt (60420)) (dk dt_X12_init 111 rfl) (by exact kl_X12_66) ?_
  obtain ⟨p_227, q_227, hc_227, hs_227, H⟩ := H
  refine jz_newI (dk dt_X12_init 112 rfl) p_227 q_227 hc_227 hs_227 w_221 (fun a_227 e_227 w_227 => ?_)
  replace H := H a_227 e_227
  replace H := H _ rfl
  obtain ⟨k_229, H⟩ := H
  refine jz_putOF (kz := 37) (dk dt_X12_init 113 rfl) fl_X12_100 rfl (fun _ _ q => by cases q; rfl) rfl rfl rfl k_229 w_227 (fun w_229 => ?_)
  replace H := H _ rfl
  refine j_aload_n (dk dt_X12_init 114 rfl) rfl ?_
  refine j_ldc (v := Int32.ofInt (60420)) (dk dt_X12_init 115 rfl) (by exact kl_X12_66) ?_
  obtain ⟨p_235, q_235, hc_235, hs_235, H⟩ := H
  refine jz_newI (dk dt_X12_init 116 rfl) p_235 q_235 hc_235 hs_235 w_229 (fun a_235 e_235 w_235 => ?_)
  replace H := H a_235 e_235
  replace H := H _ rfl
  obtain ⟨k_237, H⟩ := H
  refine jz_putOF (kz := 38) (dk dt_X12_init 117 rfl) fl_X12_103 rfl (fun _ _ q => by cases q; rfl) rfl rfl rfl k_237 w_235 (fun w_237 => ?_)
  replace H := H _ rfl
  refine j_aload_n (dk dt_X12_init 118 rfl) rfl ?_
  refine j_sipush (v := Int32.ofInt 400) (dk dt_X12_init 119 rfl) (by decide) ?_
  obtain ⟨p_244, q_244, hc_244, hs_244, H⟩ := H
  refine jz_newI (dk dt_X12_init 120 rfl) p_244 q_244 hc_244 hs_244 w_237 (fun a_244 e_244 w_244 => ?_)
  replace H := H a_244 e_244
  replace H := H _ rfl
  obtain ⟨k_246, H⟩ := H
  refine jz_putOF (kz := 39) (dk dt_X12_init 121 rfl) fl_X12_106 rfl (fun _ _ q => by cases q; rfl) rfl rfl rfl k_246 w_244 (fun w_246 => ?_)
  replace H := H _ rfl
  refine j_aload_n (dk dt_X12_init 122 rfl) rfl ?_
  refine j_sipush (v := Int32.ofInt 13120) (dk dt_X12_init 123 rfl) (by decide) ?_
  obtain ⟨p_253, q_253, hc_253, hs_253, H⟩ := H
  refine jz_newI (dk dt_X12_init 124 rfl) p_253 q_253 hc_253 hs_253 w_246 (fun a_253 e_253 w_253 => ?_)
  replace H := H a_253 e_253
  replace H := H _ rfl
  obtain ⟨k_255, H⟩ := H
  refine jz_putOF (kz := 60) (dk dt_X12_init 125 rfl) fl_X12_109 rfl (fun _ _ q => by cases q; rfl) rfl rfl rfl k_255 w_253 (fun w_255 => ?_)
  replace H := H _ rfl
  refine j_aload_n (dk dt_X12_init 126 rfl) rfl ?_
  refine j_sipush (v := Int32.ofInt 13120) (dk dt_X12_init 127 rfl) (by decide) ?_
  obtain ⟨p_262, q_262, hc_262, hs_262, H⟩ := H
  refine jz_newJ (dk dt_X12_init 128 rfl) p_262 q_262 hc_262 hs_262 w_255 (fun a_262 e_262 w_262 => ?_)
  replace H := H a_262 e_262
  replace H := H _ rfl
  obtain ⟨k_264, H⟩ := H
  refine jz_putOF (kz := 61) (dk dt_X12_init 129 rfl) fl_X12_112 rfl (fun _ _ q => by cases q; rfl) rfl rfl rfl k_264 w_262 (fun w_264 => ?_)
  replace H := H _ rfl
  refine j_aload_n (dk dt_X12_init 130 rfl) rfl ?_
  refine j_sipush (v := Int32.ofInt 13120) (dk dt_X12_init 131 rfl) (by decide) ?_
  obtain ⟨p_271, q_271, hc_271, hs_271, H⟩ := H
  refine jz_newI (dk dt_X12_init 132 rfl) p_271 q_271 hc_271 hs_271 w_264 (fun a_271 e_271 w_271 => ?_)
  replace H := H a_271 e_271
  replace H := H _ rfl
  obtain ⟨k_273, H⟩ := H
  refine jz_putOF (kz := 62) (dk dt_X12_init 133 rfl) fl_X12_115 rfl (fun _ _ q => by cases q; rfl) rfl rfl rfl k_273 w_271 (fun w_273 => ?_)
  replace H := H _ rfl
  refine j_aload_n (dk dt_X12_init 134 rfl) rfl ?_
  refine j_ldc (v := Int32.ofInt (314880)) (dk dt_X12_init 135 rfl) (by exact kl_X12_118) ?_
  obtain ⟨p_279, q_279, hc_279, hs_279, H⟩ := H
  refine jz_newB (dk dt_X12_init 136 rfl) p_279 q_279 hc_279 hs_279 w_273 (fun a_279 e_279 w_279 => ?_)
  replace H := H a_279 e_279
  replace H := H _ rfl
  obtain ⟨k_281, H⟩ := H
  refine jz_putOF (kz := 63) (dk dt_X12_init 137 rfl) fl_X12_119 rfl (fun _ _ q => by cases q; rfl) rfl rfl rfl k_281 w_279 (fun w_281 => ?_)
  replace H := H _ rfl
  refine j_aload_n (dk dt_X12_init 138 rfl) rfl ?_
  refine j_bipush (v := Int32.ofInt 40) (dk dt_X12_init 139 rfl) (by decide) ?_
  obtain ⟨p_287, q_287, hc_287, hs_287, H⟩ := H
  refine jz_newZ (dk dt_X12_init 140 rfl) p_287 q_287 hc_287 hs_287 w_281 (fun a_287 e_287 w_287 => ?_)
  replace H := H a_287 e_287
  replace H := H _ rfl
  obtain ⟨k_289, H⟩ := H
  refine jz_putOF (kz := 64) (dk dt_X12_init 141 rfl) fl_X12_122 rfl (fun _ _ q => by cases q; rfl) rfl rfl rfl k_289 w_287 (fun w_289 => ?_)
  replace H := H _ rfl
  refine j_aload_n (dk dt_X12_init 142 rfl) rfl ?_
  refine j_sipush (v := Int32.ofInt 200) (dk dt_X12_init 143 rfl) (by decide) ?_
  obtain ⟨p_296, q_296, hc_296, hs_296, H⟩ := H
  refine jz_newI (dk dt_X12_init 144 rfl) p_296 q_296 hc_296 hs_296 w_289 (fun a_296 e_296 w_296 => ?_)
  replace H := H a_296 e_296
  replace H := H _ rfl
  obtain ⟨k_298, H⟩ := H
  refine jz_putOF (kz := 66) (dk dt_X12_init 145 rfl) fl_X12_126 rfl (fun _ _ q => by cases q; rfl) rfl rfl rfl k_298 w_296 (fun w_298 => ?_)
  replace H := H _ rfl
  refine j_aload_n (dk dt_X12_init 146 rfl) rfl ?_
  refine j_sipush (v := Int32.ofInt 200) (dk dt_X12_init 147 rfl) (by decide) ?_
  obtain ⟨p_305, q_305, hc_305, hs_305, H⟩ := H
  refine jz_newJ (dk dt_X12_init 148 rfl) p_305 q_305 hc_305 hs_305 w_298 (fun a_305 e_305 w_305 => ?_)
  replace H := H a_305 e_305
  replace H := H _ rfl
  obtain ⟨k_307, H⟩ := H
  refine jz_putOF (kz := 67) (dk dt_X12_init 149 rfl) fl_X12_129 rfl (fun _ _ q => by cases q; rfl) rfl rfl rfl k_307 w_305 (fun w_307 => ?_)
  replace H := H _ rfl
  refine j_aload_n (dk dt_X12_init 150 rfl) rfl ?_
  refine j_sipush (v := Int32.ofInt 200) (dk dt_X12_init 151 rfl) (by decide) ?_
  obtain ⟨p_314, q_314, hc_314, hs_314, H⟩ := H
  refine jz_newI (dk dt_X12_init 152 rfl) p_314 q_314 hc_314 hs_314 w_307 (fun a_314 e_314 w_314 => ?_)
  replace H := H a_314 e_314
  replace H := H _ rfl
  obtain ⟨k_316, H⟩ := H
  refine jz_putOF (kz := 68) (dk dt_X12_init 153 rfl) fl_X12_132 rfl (fun _ _ q => by cases q; rfl) rfl rfl rfl k_316 w_314 (fun w_316 => ?_)
  replace H := H _ rfl
  refine j_aload_n (dk dt_X12_init 154 rfl) rfl ?_
  refine j_sipush (v := Int32.ofInt 4800) (dk dt_X12_init 155 rfl) (by decide) ?_
  obtain ⟨p_323, q_323, hc_323, hs_323, H⟩ := H
  refine jz_newB (dk dt_X12_init 156 rfl) p_323 q_323 hc_323 hs_323 w_316 (fun a_323 e_323 w_323 => ?_)
  replace H := H a_323 e_323
  replace H := H _ rfl
  obtain ⟨k_325, H⟩ := H
  refine jz_putOF (kz := 69) (dk dt_X12_init 157 rfl) fl_X12_135 rfl (fun _ _ q => by cases q; rfl) rfl rfl rfl k_325 w_323 (fun w_325 => ?_)
  replace H := H _ rfl
  refine j_aload_n (dk dt_X12_init 158 rfl) rfl ?_
  refine j_bipush (v := Int32.ofInt 20) (dk dt_X12_init 159 rfl) (by decide) ?_
  obtain ⟨p_331, q_331, hc_331, hs_331, H⟩ := H
  refine jz_newB (dk dt_X12_init 160 rfl) p_331 q_331 hc_331 hs_331 w_325 (fun a_331 e_331 w_331 => ?_)
  replace H := H a_331 e_331
  replace H := H _ rfl
  obtain ⟨k_333, H⟩ := H
  refine jz_putOF (kz := 70) (dk dt_X12_init 161 rfl) fl_X12_138 rfl (fun _ _ q => by cases q; rfl) rfl rfl rfl k_333 w_331 (fun w_333 => ?_)
  replace H := H _ rfl
  refine j_aload_n (dk dt_X12_init 162 rfl) rfl ?_
  refine j_sipush (v := Int32.ofInt 1600) (dk dt_X12_init 163 rfl) (by decide) ?_
  obtain ⟨p_340, q_340, hc_340, hs_340, H⟩ := H
  refine jz_newJ (dk dt_X12_init 164 rfl) p_340 q_340 hc_340 hs_340 w_333 (fun a_340 e_340 w_340 => ?_)
  replace H := H a_340 e_340
  replace H := H _ rfl
  obtain ⟨k_342, H⟩ := H
  refine jz_putOF (kz := 82) (dk dt_X12_init 165 rfl) fl_X12_141 rfl (fun _ _ q => by cases q; rfl) rfl rfl rfl k_342 w_340 (fun w_342 => ?_)
  replace H := H _ rfl
  refine j_aload_n (dk dt_X12_init 166 rfl) rfl ?_
  refine j_sipush (v := Int32.ofInt 1600) (dk dt_X12_init 167 rfl) (by decide) ?_
  obtain ⟨p_349, q_349, hc_349, hs_349, H⟩ := H
  refine jz_newJ (dk dt_X12_init 168 rfl) p_349 q_349 hc_349 hs_349 w_342 (fun a_349 e_349 w_349 => ?_)
  replace H := H a_349 e_349
  replace H := H _ rfl
  obtain ⟨k_351, H⟩ := H
  refine jz_putOF (kz := 83) (dk dt_X12_init 169 rfl) fl_X12_144 rfl (fun _ _ q => by cases q; rfl) rfl rfl rfl k_351 w_349 (fun w_351 => ?_)
  replace H := H _ rfl
  refine j_aload_n (dk dt_X12_init 170 rfl) rfl ?_
  refine j_sipush (v := Int32.ofInt 320) (dk dt_X12_init 171 rfl) (by decide) ?_
  obtain ⟨p_358, q_358, hc_358, hs_358, H⟩ := H
  refine jz_newZ (dk dt_X12_init 172 rfl) p_358 q_358 hc_358 hs_358 w_351 (fun a_358 e_358 w_358 => ?_)
  replace H := H a_358 e_358
  replace H := H _ rfl
  obtain ⟨k_360, H⟩ := H
  refine jz_putOF (kz := 84) (dk dt_X12_init 173 rfl) fl_X12_147 rfl (fun _ _ q => by cases q; rfl) rfl rfl rfl k_360 w_358 (fun w_360 => ?_)
  replace H := H _ rfl
  refine j_aload_n (dk dt_X12_init 174 rfl) rfl ?_
  refine j_iconst (v := Int32.ofInt 5) (dk dt_X12_init 175 rfl) (by decide) ?_
  obtain ⟨p_365, q_365, hc_365, hs_365, H⟩ := H
  refine jz_newJ (dk dt_X12_init 176 rfl) p_365 q_365 hc_365 hs_365 w_360 (fun a_365 e_365 w_365 => ?_)
  replace H := H a_365 e_365
  replace H := H _ rfl
  obtain ⟨k_367, H⟩ := H
  refine jz_putOF (kz := 85) (dk dt_X12_init 177 rfl) fl_X12_150 rfl (fun _ _ q => by cases q; rfl) rfl rfl rfl k_367 w_365 (fun w_367 => ?_)
  replace H := H _ rfl
  refine j_aload_n (dk dt_X12_init 178 rfl) rfl ?_
  refine j_sipush (v := Int32.ofInt 2000) (dk dt_X12_init 179 rfl) (by decide) ?_
  obtain ⟨p_374, q_374, hc_374, hs_374, H⟩ := H
  refine jz_newB (dk dt_X12_init 180 rfl) p_374 q_374 hc_374 hs_374 w_367 (fun a_374 e_374 w_374 => ?_)
  replace H := H a_374 e_374
  replace H := H _ rfl
  obtain ⟨k_376, H⟩ := H
  refine jz_putOF (kz := 86) (dk dt_X12_init 181 rfl) fl_X12_153 rfl (fun _ _ q => by cases q; rfl) rfl rfl rfl k_376 w_374 (fun w_376 => ?_)
  replace H := H _ rfl
  refine j_aload_n (dk dt_X12_init 182 rfl) rfl ?_
  refine j_bipush (v := Int32.ofInt 32) (dk dt_X12_init 183 rfl) (by decide) ?_
  obtain ⟨p_382, q_382, hc_382, hs_382, H⟩ := H
  refine jz_newI (dk dt_X12_init 184 rfl) p_382 q_382 hc_382 hs_382 w_376 (fun a_382 e_382 w_382 => ?_)
  replace H := H a_382 e_382
  replace H := H _ rfl
  obtain ⟨k_384, H⟩ := H
  refine jz_putOF (kz := 88) (dk dt_X12_init 185 rfl) fl_X12_156 rfl (fun _ _ q => by cases q; rfl) rfl rfl rfl k_384 w_382 (fun w_384 => ?_)
  replace H := H _ rfl
  refine j_aload_n (dk dt_X12_init 186 rfl) rfl ?_
  refine j_bipush (v := Int32.ofInt 40) (dk dt_X12_init 187 rfl) (by decide) ?_
  obtain ⟨p_390, q_390, hc_390, hs_390, H⟩ := H
  refine jz_newZ (dk dt_X12_init 188 rfl) p_390 q_390 hc_390 hs_390 w_384 (fun a_390 e_390 w_390 => ?_)
  replace H := H a_390 e_390
  replace H := H _ rfl
  obtain ⟨k_392, H⟩ := H
  refine jz_putOF (kz := 89) (dk dt_X12_init 189 rfl) fl_X12_159 rfl (fun _ _ q => by cases q; rfl) rfl rfl rfl k_392 w_390 (fun w_392 => ?_)
  replace H := H _ rfl
  refine j_aload_n (dk dt_X12_init 190 rfl) rfl ?_
  refine j_bipush (v := Int32.ofInt 40) (dk dt_X12_init 191 rfl) (by decide) ?_
  obtain ⟨p_398, q_398, hc_398, hs_398, H⟩ := H
  refine jz_newZ (dk dt_X12_init 192 rfl) p_398 q_398 hc_398 hs_398 w_392 (fun a_398 e_398 w_398 => ?_)
  replace H := H a_398 e_398
  replace H := H _ rfl
  obtain ⟨k_400, H⟩ := H
  refine jz_putOF (kz := 90) (dk dt_X12_init 193 rfl) fl_X12_162 rfl (fun _ _ q => by cases q; rfl) rfl rfl rfl k_400 w_398 (fun w_400 => ?_)
  replace H := H _ rfl
  refine j_aload_n (dk dt_X12_init 194 rfl) rfl ?_
  refine j_sipush (v := Int32.ofInt 370) (dk dt_X12_init 195 rfl) (by decide) ?_
  obtain ⟨p_407, q_407, hc_407, hs_407, H⟩ := H
  refine jz_newI (dk dt_X12_init 196 rfl) p_407 q_407 hc_407 hs_407 w_400 (fun a_407 e_407 w_407 => ?_)
  replace H := H a_407 e_407
  replace H := H _ rfl
  obtain ⟨k_409, H⟩ := H
  refine jz_putOF (kz := 91) (dk dt_X12_init 197 rfl) fl_X12_165 rfl (fun _ _ q => by cases q; rfl) rfl rfl rfl k_409 w_407 (fun w_409 => ?_)
  replace H := H _ rfl
  refine j_aload_n (dk dt_X12_init 198 rfl) rfl ?_
  refine j_sipush (v := Int32.ofInt 370) (dk dt_X12_init 199 rfl) (by decide) ?_
  obtain ⟨p_416, q_416, hc_416, hs_416, H⟩ := H
  refine jz_newI (dk dt_X12_init 200 rfl) p_416 q_416 hc_416 hs_416 w_409 (fun a_416 e_416 w_416 => ?_)
  replace H := H a_416 e_416
  replace H := H _ rfl
  obtain ⟨k_418, H⟩ := H
  refine jz_putOF (kz := 92) (dk dt_X12_init 201 rfl) fl_X12_168 rfl (fun _ _ q => by cases q; rfl) rfl rfl rfl k_418 w_416 (fun w_418 => ?_)
  replace H := H _ rfl
  refine j_aload_n (dk dt_X12_init 202 rfl) rfl ?_
  refine j_sipush (v := Int32.ofInt 370) (dk dt_X12_init 203 rfl) (by decide) ?_
  obtain ⟨p_425, q_425, hc_425, hs_425, H⟩ := H
  refine jz_newI (dk dt_X12_init 204 rfl) p_425 q_425 hc_425 hs_425 w_418 (fun a_425 e_425 w_425 => ?_)
  replace H := H a_425 e_425
  replace H := H _ rfl
  obtain ⟨k_427, H⟩ := H
  refine jz_putOF (kz := 93) (dk dt_X12_init 205 rfl) fl_X12_171 rfl (fun _ _ q => by cases q; rfl) rfl rfl rfl k_427 w_425 (fun w_427 => ?_)
  replace H := H _ rfl
  refine j_aload_n (dk dt_X12_init 206 rfl) rfl ?_
  refine j_sipush (v := Int32.ofInt 370) (dk dt_X12_init 207 rfl) (by decide) ?_
  obtain ⟨p_434, q_434, hc_434, hs_434, H⟩ := H
  refine jz_newI (dk dt_X12_init 208 rfl) p_434 q_434 hc_434 hs_434 w_427 (fun a_434 e_434 w_434 => ?_)
  replace H := H a_434 e_434
  replace H := H _ rfl
  obtain ⟨k_436, H⟩ := H
  refine jz_putOF (kz := 94) (dk dt_X12_init 209 rfl) fl_X12_174 rfl (fun _ _ q => by cases q; rfl) rfl rfl rfl k_436 w_434 (fun w_436 => ?_)
  replace H := H _ rfl
  refine j_aload_n (dk dt_X12_init 210 rfl) rfl ?_
  refine j_sipush (v := Int32.ofInt 370) (dk dt_X12_init 211 rfl) (by decide) ?_
  obtain ⟨p_443, q_443, hc_443, hs_443, H⟩ := H
  refine jz_newI (dk dt_X12_init 212 rfl) p_443 q_443 hc_443 hs_443 w_436 (fun a_443 e_443 w_443 => ?_)
  replace H := H a_443 e_443
  replace H := H _ rfl
  obtain ⟨k_445, H⟩ := H
  refine jz_putOF (kz := 95) (dk dt_X12_init 213 rfl) fl_X12_177 rfl (fun _ _ q => by cases q; rfl) rfl rfl rfl k_445 w_443 (fun w_445 => ?_)
  replace H := H _ rfl
  refine j_aload_n (dk dt_X12_init 214 rfl) rfl ?_
  refine j_sipush (v := Int32.ofInt 370) (dk dt_X12_init 215 rfl) (by decide) ?_
  obtain ⟨p_452, q_452, hc_452, hs_452, H⟩ := H
  refine jz_newZ (dk dt_X12_init 216 rfl) p_452 q_452 hc_452 hs_452 w_445 (fun a_452 e_452 w_452 => ?_)
  replace H := H a_452 e_452
  replace H := H _ rfl
  obtain ⟨k_454, H⟩ := H
  refine jz_putOF (kz := 96) (dk dt_X12_init 217 rfl) fl_X12_180 rfl (fun _ _ q => by cases q; rfl) rfl rfl rfl k_454 w_452 (fun w_454 => ?_)
  replace H := H _ rfl
  refine j_aload_n (dk dt_X12_init 218 rfl) rfl ?_
  refine j_sipush (v := Int32.ofInt 370) (dk dt_X12_init 219 rfl) (by decide) ?_
  obtain ⟨p_461, q_461, hc_461, hs_461, H⟩ := H
  refine jz_newZ (dk dt_X12_init 220 rfl) p_461 q_461 hc_461 hs_461 w_454 (fun a_461 e_461 w_461 => ?_)
  replace H := H a_461 e_461
  replace H := H _ rfl
  obtain ⟨k_463, H⟩ := H
  refine jz_putOF (kz := 97) (dk dt_X12_init 221 rfl) fl_X12_183 rfl (fun _ _ q => by cases q; rfl) rfl rfl rfl k_463 w_461 (fun w_463 => ?_)
  replace H := H _ rfl
  refine j_aload_n (dk dt_X12_init 222 rfl) rfl ?_
  refine j_bipush (v := Int32.ofInt 64) (dk dt_X12_init 223 rfl) (by decide) ?_
  obtain ⟨p_469, q_469, hc_469, hs_469, H⟩ := H
  refine jz_newI (dk dt_X12_init 224 rfl) p_469 q_469 hc_469 hs_469 w_463 (fun a_469 e_469 w_469 => ?_)
  replace H := H a_469 e_469
  replace H := H _ rfl
  obtain ⟨k_471, H⟩ := H
  refine jz_putOF (kz := 99) (dk dt_X12_init 225 rfl) fl_X12_186 rfl (fun _ _ q => by cases q; rfl) rfl rfl rfl k_471 w_469 (fun w_471 => ?_)
  replace H := H _ rfl
  refine j_aload_n (dk dt_X12_init 226 rfl) rfl ?_
  refine j_sipush (v := Int32.ofInt 410) (dk dt_X12_init 227 rfl) (by decide) ?_
  obtain ⟨p_478, q_478, hc_478, hs_478, H⟩ := H
  refine jz_newI (dk dt_X12_init 228 rfl) p_478 q_478 hc_478 hs_478 w_471 (fun a_478 e_478 w_478 => ?_)
  replace H := H a_478 e_478
  replace H := H _ rfl
  obtain ⟨k_480, H⟩ := H
  refine jz_putOF (kz := 101) (dk dt_X12_init 229 rfl) fl_X12_189 rfl (fun _ _ q => by cases q; rfl) rfl rfl rfl k_480 w_478 (fun w_480 => ?_)
  replace H := H _ rfl
  refine j_aload_n (dk dt_X12_init 230 rfl) rfl ?_
  refine j_sipush (v := Int32.ofInt 410) (dk dt_X12_init 231 rfl) (by decide) ?_
  obtain ⟨p_487, q_487, hc_487, hs_487, H⟩ := H
  refine jz_newI (dk dt_X12_init 232 rfl) p_487 q_487 hc_487 hs_487 w_480 (fun a_487 e_487 w_487 => ?_)
  replace H := H a_487 e_487
  replace H := H _ rfl
  obtain ⟨k_489, H⟩ := H
  refine jz_putOF (kz := 102) (dk dt_X12_init 233 rfl) fl_X12_192 rfl (fun _ _ q => by cases q; rfl) rfl rfl rfl k_489 w_487 (fun w_489 => ?_)
  replace H := H _ rfl
  refine j_aload_n (dk dt_X12_init 234 rfl) rfl ?_
  refine j_sipush (v := Int32.ofInt 410) (dk dt_X12_init 235 rfl) (by decide) ?_
  obtain ⟨p_496, q_496, hc_496, hs_496, H⟩ := H
  refine jz_newI (dk dt_X12_init 236 rfl) p_496 q_496 hc_496 hs_496 w_489 (fun a_496 e_496 w_496 => ?_)
  replace H := H a_496 e_496
  replace H := H _ rfl
  obtain ⟨k_498, H⟩ := H
  refine jz_putOF (kz := 103) (dk dt_X12_init 237 rfl) fl_X12_195 rfl (fun _ _ q => by cases q; rfl) rfl rfl rfl k_498 w_496 (fun w_498 => ?_)
  replace H := H _ rfl
  refine j_iconst (v := Int32.ofInt 1) (dk dt_X12_init 238 rfl) (by decide) ?_
  refine j_istore_n (dk dt_X12_init 239 rfl) (by decide) ?_
  exact j_el (T_X12_init_503 K (by decide) w_498   H) (And.intro rfl (And.intro rfl trivial))
