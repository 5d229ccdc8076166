/-! ===== the next token ===== -/
def wTk : WR := [(0, some 46), (0, some 47), (0, some 48), (0, some 49), (0, some 50), (0, some 51), (0, some 52), (0, some 53), (0, some 54), (0, some 55)]
def tkK (t : Tx) (k : Int) : Int := if bt t k = -1 then 0 else if dgB (bt t k) = true then 1 else if bt t k = 34 then 2 else if leB (bt t k) = true ∨ bt t k = 36 then (if crP t k then 3 else if bt t k = 36 then 10 else 4) else if refP t k then 5 else if sgO t k ≠ 0 then 9 else if bt t k = 40 then 6 else if bt t k = 41 then 7 else if bt t k = 44 then 8 else 10
def TkX (t : Tx) (u : Mu) (k κ : Int) : Prop := (κ = 1 → mI u 0 49 = rn dgB t k ∧ mI u 0 51 = (if rn dgB t k - k ≤ 15 then -1 else k + 15)) ∧ (κ = 2 → (∃ p, qu t k (t.2.1 - k).toNat (k + 1) = .inl (1, p) ∧ mI u 0 51 = p ∧ 0 ≤ p) ∨ ∃ i, qu t k (t.2.1 - k).toNat (k + 1) = .inr i ∧ mI u 0 51 = -1 ∧ mI u 0 49 = i + 1) ∧ (κ = 3 → mI u 0 49 = crE t k ∧ mI u 0 52 = crR t k ∧ mI u 0 53 = crC t k ∧ mI u 0 54 = sw2 (crF t k)) ∧ (κ = 4 → mI u 0 49 = rn leB t k) ∧ (κ = 5 → mI u 0 49 = k + 4) ∧ (κ = 6 ∨ κ = 7 ∨ κ = 8 → mI u 0 49 = k + 1) ∧ (κ = 9 → mI u 0 49 = k + sgN (sgO t k) ∧ mI u 0 50 = sgO t k + 9)
def TkM (t : Tx) (u : Mu) (k : Int) : Prop := (mI u 0 46 = mI u 0 49 ∧ mI u 0 47 = tkK t k ∧ mI u 0 48 = peo t k) ∧ TkX t u k (tkK t k)
theorem TkX_f {t : Tx} {L : WR} {u v : Mu} {k κ : Int} (f : FrM L u v) (hd : wDis L [(0, some 49), (0, some 50), (0, some 51), (0, some 52), (0, some 53), (0, some 54)] = true) (h : TkX t u k κ) : TkX t v k κ := by
  unfold TkX
  rw [mE f hd (k := 0) (i := 49) (wHas_i (by decide)), mE f hd (k := 0) (i := 50) (wHas_i (by decide)), mE f hd (k := 0) (i := 51) (wHas_i (by decide)), mE f hd (k := 0) (i := 52) (wHas_i (by decide)), mE f hd (k := 0) (i := 53) (wHas_i (by decide)), mE f hd (k := 0) (i := 54) (wHas_i (by decide))]
  exact h
def rTk : WR := [(0, some 46), (0, some 47), (0, some 48), (0, some 49), (0, some 50), (0, some 51), (0, some 52), (0, some 53), (0, some 54)]
theorem TkM_f {t : Tx} {L : WR} {u v : Mu} {k : Int} (f : FrM L u v) (hd : wDis L rTk = true) (h : TkM t u k) : TkM t v k := by
  refine ⟨?_, ?_⟩
  · rw [mE f hd (k := 0) (i := 46) (wHas_i (by decide)), mE f hd (k := 0) (i := 47) (wHas_i (by decide)), mE f hd (k := 0) (i := 48) (wHas_i (by decide)), mE f hd (k := 0) (i := 49) (wHas_i (by decide))]
    exact h.1
  · have h2 := h.2
    unfold TkX at h2 ⊢
    rw [mE f hd (k := 0) (i := 49) (wHas_i (by decide)), mE f hd (k := 0) (i := 50) (wHas_i (by decide)), mE f hd (k := 0) (i := 51) (wHas_i (by decide)), mE f hd (k := 0) (i := 52) (wHas_i (by decide)), mE f hd (k := 0) (i := 53) (wHas_i (by decide)), mE f hd (k := 0) (i := 54) (wHas_i (by decide))]
    exact h2
theorem i_numT {t : Tx} {u : Mu} {k : Int} {P : Mu → Prop} (C : CxM t u) (h46 : mI u 0 46 = k) (h51 : mI u 0 51 = -1) (h0 : 0 ≤ k) (h1 : k ≤ t.2.1) (h : ∀ v, FrM wTk u v → mI v 0 47 = 1 → mI v 0 48 = mI u 0 48 → TkX t v k 1 → P v) : F_X12_numberToken u P := by
  have rb0 := rn_b (p := dgB) (t := t) dgB_n h0
  have b3 := C.2.1
  unfold F_X12_numberToken F_X12_numberToken_5
  rw [h46]
  refine lp_I (fun x => (k ≤ x ∧ x ≤ rn dgB t k) ∧ rn dgB t x = rn dgB t k) (fun x => (rn dgB t k - x).toNat) ?_ k ⟨⟨Int.le_refl k, rb0.1⟩, rfl⟩
  rintro G x ⟨⟨x0, x1⟩, xe⟩ ih
  unfold L_X12_numberToken_5
  refine i_byte C (by omega) (i_dig (fun d => ?_) (fun d => ?_))
  · rw [if_neg (by decide), w32e (x := x + 1) (by omega) (by omega)]
    have e := rn_1 (t := t) dgB_n (by omega) d
    have r2 := rn_b (p := dgB) (t := t) (k := x + 1) dgB_n (by omega)
    exact ih (x + 1) ⟨⟨by omega, by omega⟩, by omega⟩ (by omega)
  · rw [if_pos rfl]
    have e := rn_0 (t := t) d
    have ex : x = rn dgB t k := by omega
    show (if w32 (x - k) ≤ 15 then F_X12_numberToken_44 x u P else (∀ u_41, u_41 = uI u 0 51 (w32 (k + 15)) → F_X12_numberToken_44 x u_41 P))
    rw [w32e (x := x - k) (by omega) (by omega), w32e (x := k + 15) (by omega) (by omega)]
    have fin : ∀ w, FrM wTk u w → mI w 0 48 = mI u 0 48 → mI w 0 51 = (if rn dgB t k - k ≤ 15 then -1 else k + 15) → F_X12_numberToken_44 x w P := by
      intro w fw w48 w51
      unfold F_X12_numberToken_44 F_X12_is
      rintro _ rfl _ rfl
      refine h _ (FrM_uI (FrM_uI fw (wHas_i (by decide))) (wHas_i (by decide))) (by simp [mI_uI]) (by simp [mI_uI]; exact w48) ?_
      refine ⟨fun _ => ⟨by simp [mI_uI]; exact ex, by simp [mI_uI]; exact w51⟩, fun c => absurd c (by decide), fun c => absurd c (by decide), fun c => absurd c (by decide), fun c => absurd c (by decide), fun c => absurd c (by decide), fun c => absurd c (by decide)⟩
    by_cases c : x - k ≤ 15
    · rw [if_pos c]
      exact fin u FrM_rf rfl (by rw [if_pos (by omega)]; exact h51)
    · rw [if_neg c]
      rintro _ rfl
      exact fin _ (FrM_uI FrM_rf (wHas_i (by decide))) (by simp [mI_uI]) (by rw [if_neg (by omega)]; simp [mI_uI])
theorem i_wordT {t : Tx} {u : Mu} {k x : Int} {P : Mu → Prop} (C : CxM t u) (h46 : mI u 0 46 = k) (hx : bt t k = x) (h0 : 0 ≤ k) (h1 : k < t.2.1) (h : ∀ v κ, FrM wTk u v → κ = (if crP t k then 3 else if x = 36 then 10 else 4) → mI v 0 47 = κ → mI v 0 48 = mI u 0 48 → TkX t v k κ → P v) : F_X12_wordToken x u P := by
  have b3 := C.2.1
  unfold F_X12_wordToken F_X12_wordToken_72
  rw [h46]
  refine i_crn C h0 (by omega) (fun cr => ?_) (fun cr => ?_)
  · rw [if_neg (by decide)]
    unfold F_X12_is
    rintro _ rfl _ rfl
    refine h _ 3 (by unfold crM; exact FrM_uI (FrM_uI (FrM_uI (FrM_uI (FrM_uI (FrM_uI FrM_rf (wHas_i (by decide))) (wHas_i (by decide))) (wHas_i (by decide))) (wHas_i (by decide))) (wHas_i (by decide))) (wHas_i (by decide))) (by rw [if_pos cr]) (by simp [mI_uI]) (by simp [mI_uI, crM]) ?_
    refine ⟨fun c => absurd c (by decide), fun c => absurd c (by decide), fun _ => ⟨by simp [mI_uI, crM], by simp [mI_uI, crM], by simp [mI_uI, crM], by simp [mI_uI, crM]⟩, fun c => absurd c (by decide), fun c => absurd c (by decide), fun c => absurd c (by decide), fun c => absurd c (by decide)⟩
  · rw [if_pos rfl]
    by_cases c36 : x = 36
    · rw [if_pos c36]
      unfold F_X12_is
      rintro _ rfl _ rfl
      refine h _ 10 (FrM_uI (FrM_uI FrM_rf (wHas_i (by decide))) (wHas_i (by decide))) (by rw [if_neg cr, if_pos c36]) (by simp [mI_uI]) (by simp [mI_uI]) ?_
      refine ⟨fun c => absurd c (by decide), fun c => absurd c (by decide), fun c => absurd c (by decide), fun c => absurd c (by decide), fun c => absurd c (by decide), fun c => absurd c (by decide), fun c => absurd c (by decide)⟩
    · rw [if_neg c36]
      have rb0 := rn_b (p := leB) (t := t) leB_n h0
      unfold F_X12_wordToken_49
      rw [h46]
      refine lp_I (fun x => (k ≤ x ∧ x ≤ rn leB t k) ∧ rn leB t x = rn leB t k) (fun x => (rn leB t k - x).toNat) ?_ k ⟨⟨Int.le_refl k, rb0.1⟩, rfl⟩
      rintro G y ⟨⟨y0, y1⟩, ye⟩ ih
      unfold L_X12_wordToken_49
      refine i_byte C (by omega) (i_let (fun d => ?_) (fun d => ?_))
      · rw [if_neg (by decide), w32e (by omega) (by omega)]
        have e := rn_1 (t := t) leB_n (by omega) d
        have r2 := rn_b (p := leB) (t := t) (k := y + 1) leB_n (by omega)
        exact ih (y + 1) ⟨⟨by omega, by omega⟩, by omega⟩ (by omega)
      · rw [if_pos rfl]
        have e := rn_0 (t := t) d
        have ex : y = rn leB t k := by omega
        show F_X12_is 4 y u (fun u_69 => F_X12_wordToken_72 u_69 P)
        unfold F_X12_is F_X12_wordToken_72
        rintro _ rfl _ rfl
        refine h _ 4 (FrM_uI (FrM_uI FrM_rf (wHas_i (by decide))) (wHas_i (by decide))) (by rw [if_neg cr, if_neg c36]) (by simp [mI_uI]) (by simp [mI_uI]) ?_
        refine ⟨fun c => absurd c (by decide), fun c => absurd c (by decide), fun c => absurd c (by decide), fun _ => by simp [mI_uI]; exact ex, fun c => absurd c (by decide), fun c => absurd c (by decide), fun c => absurd c (by decide)⟩
theorem i_txtT {t : Tx} {u : Mu} {k : Int} {P : Mu → Prop} (C : CxM t u) (h46 : mI u 0 46 = k) (h51 : mI u 0 51 = -1) (h0 : 0 ≤ k) (h1 : k < t.2.1) (h : ∀ v, FrM wTk u v → mI v 0 47 = 2 → mI v 0 48 = mI u 0 48 → TkX t v k 2 → P v) : F_X12_textToken u P := by
  have b3 := C.2.1
  unfold F_X12_textToken F_X12_is
  rw [h46, w32e (x := k + 1) (by omega) (by omega)]
  rintro _ rfl _ rfl
  unfold F_X12_textToken_13
  refine lp_I (fun s => FrM wTk u s.2 ∧ mI s.2 0 46 = k ∧ mI s.2 0 47 = 2 ∧ mI s.2 0 48 = mI u 0 48 ∧ ((mI s.2 0 51 = -1 ∧ (k + 1 ≤ s.1 ∧ s.1 ≤ t.2.1 ∧ s.1 ≤ k + 25) ∧ qu t k (t.2.1 - k).toNat (k + 1) = qu t k (t.2.1 + 1 - s.1).toNat s.1) ∨ (0 ≤ mI s.2 0 51 ∧ (k + 1 ≤ s.1 ∧ s.1 ≤ 500) ∧ qu t k (t.2.1 - k).toNat (k + 1) = .inl (1, mI s.2 0 51)))) (fun s => if 0 ≤ mI s.2 0 51 then 0 else (1000 - s.1).toNat + 1) ?_ (k + 1, uI (uI u 0 47 2) 0 49 (k + 1)) ⟨FrM_uI (FrM_uI FrM_rf (wHas_i (by decide))) (wHas_i (by decide)), by simp [mI_uI]; exact h46, by simp [mI_uI], by simp [mI_uI], Or.inl ⟨by simp [mI_uI]; exact h51, ⟨by show k + 1 ≤ k + 1; omega, by show k + 1 ≤ t.2.1; omega, by show k + 1 ≤ k + 25; omega⟩, by show _ = qu t k (t.2.1 + 1 - (k + 1)).toNat (k + 1); congr 2; omega⟩⟩
  rintro G ⟨x, y⟩ ⟨fy, y46, y47, y48, hI⟩ ih
  simp only at fy y46 y47 y48 hI
  unfold L_X12_textToken_13 F_X12_textToken_86
  dsimp only
  have Cy := CxM_f fy (by decide) C
  have fin : ∀ v, FrM wTk u v → mI v 0 47 = 2 → mI v 0 48 = mI u 0 48 → ((∃ p, qu t k (t.2.1 - k).toNat (k + 1) = .inl (1, p) ∧ mI v 0 51 = p ∧ 0 ≤ p) ∨ ∃ i, qu t k (t.2.1 - k).toNat (k + 1) = .inr i ∧ mI v 0 51 = -1 ∧ mI v 0 49 = i + 1) → P v := by
    intro v fv v47 v48 hq
    exact h v fv v47 v48 ⟨fun c => absurd c (by decide), fun _ => hq, fun c => absurd c (by decide), fun c => absurd c (by decide), fun c => absurd c (by decide), fun c => absurd c (by decide), fun c => absurd c (by decide)⟩
  rcases hI with ⟨y51, ⟨x0, x1, x2⟩, hq⟩ | ⟨y51, ⟨x0, x1⟩, hq⟩
  · rw [if_neg (by omega)]
    rw [show (t.2.1 + 1 - x).toNat = (t.2.1 - x).toNat + 1 by omega, qu] at hq
    have nx : ∀ p, 0 ≤ p → qu t k (t.2.1 - k).toNat (k + 1) = .inl (1, p) → G (w32 (x + 1), uI y 0 51 p) := by
      intro p p0 hp
      rw [w32e (by omega) (by omega)]
      refine ih (x + 1, uI y 0 51 p) ⟨FrM_uI fy (wHas_i (by decide)), by simp [mI_uI]; exact y46, by simp [mI_uI]; exact y47, by simp [mI_uI]; exact y48, Or.inr ⟨by simp [mI_uI]; exact p0, ⟨by show k + 1 ≤ x + 1; omega, by show x + 1 ≤ 500; omega⟩, by simp [mI_uI]; exact hp⟩⟩ ?_
      simp only
      rw [if_pos (by simp [mI_uI]; exact p0), if_neg (by omega)]
      omega
    refine i_byte Cy (by omega) ?_
    by_cases c34 : bt t x = 34
    · rw [if_pos c34]
      rw [if_pos c34] at hq
      show F_X12_textToken_92 x y P
      unfold F_X12_textToken_92
      rw [w32e (by omega) (by omega)]
      rintro _ rfl
      exact fin _ (FrM_uI fy (wHas_i (by decide))) (by simp [mI_uI]; exact y47) (by simp [mI_uI]; exact y48) (Or.inr ⟨x, hq, by simp [mI_uI]; exact y51, by simp [mI_uI]⟩)
    · rw [if_neg c34]
      rw [if_neg c34] at hq
      refine i_byte Cy (by omega) ?_
      by_cases c1 : bt t x = -1
      · rw [if_pos c1]
        have := bt_m C (by omega) c1
        rw [if_pos this] at hq
        rw [Cy.1.2]
        rintro _ rfl
        exact nx _ (by omega) hq
      · rw [if_neg c1]
        have := (bt_in c1).2
        rw [if_neg (by omega)] at hq
        rw [y46, w32e (x := x - k) (by omega) (by omega)]
        by_cases c24 : x - k ≤ 24
        · rw [if_pos c24]
          rw [if_neg (by omega)] at hq
          refine i_pln (fun d => ?_) (fun d => ?_)
          · rw [if_neg (by decide), w32e (by omega) (by omega)]
            rw [if_neg (by rw [d]; decide)] at hq
            refine ih (x + 1, y) ⟨fy, y46, y47, y48, Or.inl ⟨y51, ⟨by show k + 1 ≤ x + 1; omega, by show x + 1 ≤ t.2.1; omega, by show x + 1 ≤ k + 25; omega⟩, ?_⟩⟩ ?_
            · rw [hq]; show _ = qu t k (t.2.1 + 1 - (x + 1)).toNat (x + 1); congr 2; omega
            · simp only
              rw [if_neg (by omega), if_neg (by omega)]
              omega
          · rw [if_pos rfl]
            rw [if_pos d] at hq
            rintro _ rfl
            exact nx _ (by omega) hq
        · rw [if_neg c24]
          rw [if_pos (by omega)] at hq
          rintro _ rfl
          exact nx _ h0 hq
  · rw [if_pos (by omega)]
    show F_X12_textToken_92 x y P
    unfold F_X12_textToken_92
    rw [w32e (by omega) (by omega)]
    rintro _ rfl
    exact fin _ (FrM_uI fy (wHas_i (by decide))) (by simp [mI_uI]; exact y47) (by simp [mI_uI]; exact y48) (Or.inl ⟨_, hq, by simp [mI_uI], y51⟩)
theorem TkX_10 {t : Tx} {v : Mu} {k κ : Int} (h : κ = 10 ∨ κ = 0) : TkX t v k κ := ⟨fun c => by omega, fun c => by omega, fun c => by omega, fun c => by omega, fun c => by omega, fun c => by omega, fun c => by omega⟩
theorem i_signT {t : Tx} {u : Mu} {k x : Int} {P : Mu → Prop} (C : CxM t u) (h46 : mI u 0 46 = k) (hx : bt t k = x) (h0 : 0 ≤ k) (h1 : k < t.2.1) (h : ∀ v κ, FrM wTk u v → κ = (if sgO t k ≠ 0 then 9 else if x = 40 then 6 else if x = 41 then 7 else if x = 44 then 8 else 10) → mI v 0 47 = κ → mI v 0 48 = mI u 0 48 → TkX t v k κ → P v) : F_X12_signToken x u P := by
  have b3 := C.2.1
  unfold F_X12_signToken F_X12_signToken_63 F_X12_signToken_75 F_X12_signToken_90 F_X12_signToken_116 F_X12_signToken_137 F_X12_signToken_305 F_X12_signToken_314
  rw [h46, w32e (x := k + 1) (by omega) (by omega), w32e (x := k + 2) (by omega) (by omega)]
  have sg : ∀ o e, sgO t k = o → o ≠ 0 → e = k + sgN o → F_X12_sign (o + 9) e u P := by
    intro o e ho o0 he
    unfold F_X12_sign
    rintro _ rfl _ rfl _ rfl
    refine h _ 9 (FrM_uI (FrM_uI (FrM_uI FrM_rf (wHas_i (by decide))) (wHas_i (by decide))) (wHas_i (by decide))) (by rw [if_pos (by omega)]) (by simp [mI_uI]) (by simp [mI_uI]) ?_
    refine ⟨fun c => absurd c (by decide), fun c => absurd c (by decide), fun c => absurd c (by decide), fun c => absurd c (by decide), fun c => absurd c (by decide), fun c => absurd c (by decide), fun _ => ⟨by simp [mI_uI]; rw [he, ho], by simp [mI_uI]; rw [ho]⟩⟩
  have si : ∀ κ, κ = (if x = 40 then 6 else if x = 41 then 7 else if x = 44 then 8 else 10) → sgO t k = 0 → F_X12_is κ (k + 1) u P := by
    intro κ hκ s0
    unfold F_X12_is
    rintro _ rfl _ rfl
    refine h _ κ (FrM_uI (FrM_uI FrM_rf (wHas_i (by decide))) (wHas_i (by decide))) (by rw [if_neg (by omega)]; exact hκ) (by simp [mI_uI]) (by simp [mI_uI]) ?_
    have k4 : κ = 6 ∨ κ = 7 ∨ κ = 8 ∨ κ = 10 := by rw [hκ]; (repeat' split) <;> omega
    refine ⟨fun c => by omega, fun c => by omega, fun c => by omega, fun c => by omega, fun c => by omega, fun _ => by simp [mI_uI], fun c => by omega⟩
  refine i_byte C (by omega) ?_
  have so : sgO t k = if x = 61 then 1 else if x = 60 then (if bt t (k + 1) = 62 then 2 else if bt t (k + 1) = 61 then 4 else 3) else if x = 62 then (if bt t (k + 1) = 61 then 6 else 5) else if x = 38 then 7 else if x = 43 then 8 else if x = 45 then 9 else if x = 42 then 10 else if x = 47 then 11 else if x = 37 then 12 else 0 := by unfold sgO; rw [hx]
  by_cases c1 : x = 61
  · rw [if_pos c1]; rw [if_pos c1] at so; exact sg 1 _ so (by decide) rfl
  rw [if_neg c1]; rw [if_neg c1] at so
  by_cases c2 : x = 60
  · rw [if_pos c2]; rw [if_pos c2] at so
    by_cases d1 : bt t (k + 1) = 62
    · simp only [if_pos d1]; rw [if_pos d1] at so; exact sg 2 _ so (by decide) rfl
    · simp only [if_neg d1]; rw [if_neg d1] at so
      by_cases d2 : bt t (k + 1) = 61
      · simp only [if_pos d2]; rw [if_pos d2] at so; exact sg 4 _ so (by decide) rfl
      · simp only [if_neg d2]; rw [if_neg d2] at so; exact sg 3 _ so (by decide) rfl
  rw [if_neg c2]; rw [if_neg c2] at so
  by_cases c3 : x = 62
  · rw [if_pos c3]; rw [if_pos c3] at so
    by_cases d2 : bt t (k + 1) = 61
    · simp only [if_pos d2]; rw [if_pos d2] at so; exact sg 6 _ so (by decide) rfl
    · simp only [if_neg d2]; rw [if_neg d2] at so; exact sg 5 _ so (by decide) rfl
  rw [if_neg c3]; rw [if_neg c3] at so
  by_cases c4 : x = 38
  · rw [if_pos c4]; rw [if_pos c4] at so; exact sg 7 _ so (by decide) rfl
  rw [if_neg c4]; rw [if_neg c4] at so
  by_cases c5 : x = 43
  · rw [if_pos c5]; rw [if_pos c5] at so; exact sg 8 _ so (by decide) rfl
  rw [if_neg c5]; rw [if_neg c5] at so
  by_cases c6 : x = 45
  · rw [if_pos c6]; rw [if_pos c6] at so; exact sg 9 _ so (by decide) rfl
  rw [if_neg c6]; rw [if_neg c6] at so
  by_cases c7 : x = 42
  · rw [if_pos c7]; rw [if_pos c7] at so; exact sg 10 _ so (by decide) rfl
  rw [if_neg c7]; rw [if_neg c7] at so
  by_cases c8 : x = 47
  · rw [if_pos c8]; rw [if_pos c8] at so; exact sg 11 _ so (by decide) rfl
  rw [if_neg c8]; rw [if_neg c8] at so
  by_cases c9 : x = 37
  · rw [if_pos c9]; rw [if_pos c9] at so; exact sg 12 _ so (by decide) rfl
  rw [if_neg c9]; rw [if_neg c9] at so
  by_cases e1 : x = 40
  · rw [if_pos e1]; exact si 6 (by rw [if_pos e1]) so
  rw [if_neg e1]
  by_cases e2 : x = 41
  · rw [if_pos e2]; exact si 7 (by rw [if_neg e1, if_pos e2]) so
  rw [if_neg e2]
  by_cases e3 : x = 44
  · rw [if_pos e3]; exact si 8 (by rw [if_neg e1, if_neg e2, if_pos e3]) so
  rw [if_neg e3]
  exact si 10 (by rw [if_neg e1, if_neg e2, if_neg e3]) so
theorem sL_10 : sL 10 = [35, 82, 69, 70] := by decide +kernel
theorem refP_i {t : Tx} {k : Int} : refP t k ↔ subL t k 4 = sL 10 := by
  rw [sL_10]
  have e : subL t k 4 = [bt t (k + (0 : Nat)), bt t (k + (1 : Nat)), bt t (k + (2 : Nat)), bt t (k + (3 : Nat))] := rfl
  rw [e]
  simp only [List.cons.injEq, and_true]
  rw [show k + ((0 : Nat) : Int) = k by omega, show k + ((1 : Nat) : Int) = k + 1 by omega, show k + ((2 : Nat) : Int) = k + 2 by omega, show k + ((3 : Nat) : Int) = k + 3 by omega]
theorem i_next {t : Tx} {u : Mu} {k : Int} {P : Mu → Prop} (C : CxM t u) (hk : mI u 0 46 = k) (h0 : 0 ≤ k) (h1 : k ≤ t.2.1) (h : ∀ v, FrM wTk u v → TkM t v (skp t k) → P v) : F_X12_next u P := by
  have b3 := C.2.1
  have sb := skp_b (t := t) h0 h1
  unfold F_X12_next F_X12_next_0
  refine lp_I (fun y => FrM wTk u y ∧ ∃ j, mI y 0 46 = j ∧ (k ≤ j ∧ j ≤ t.2.1) ∧ skp t j = skp t k) (fun y => (t.2.1 - mI y 0 46).toNat) ?_ u ⟨FrM_rf, k, hk, ⟨Int.le_refl k, h1⟩, rfl⟩
  rintro G y ⟨fy, j, y46, ⟨j0, j1⟩, ej⟩ ih
  have Cy := CxM_f fy (by decide) C
  unfold L_X12_next_0
  rw [y46]
  refine i_byte Cy (by omega) ?_
  by_cases c32 : bt t j = 32
  · rw [if_pos c32, w32e (by omega) (by omega)]
    have jb := (bt_in (t := t) (k := j) (by omega)).2
    rintro _ rfl
    refine ih _ ⟨FrM_uI fy (wHas_i (by decide)), j + 1, by simp [mI_uI], ⟨by omega, by omega⟩, ?_⟩ (by rw [show mI (uI y 0 46 (j + 1)) 0 46 = j + 1 by simp [mI_uI], y46]; omega)
    rw [← ej]; exact (rn_1 (t := t) blB_n (by omega) (blB_i.mpr c32)).symm
  · rw [if_neg c32]
    have es : skp t j = j := skp_0 c32
    rw [es] at ej
    show ∀ u_31, u_31 = uI y 0 48 (mI y 0 46) → _
    rw [y46]
    rintro _ rfl _ rfl
    have e46 : mI (uI (uI y 0 48 j) 0 51 (-1)) 0 46 = j := by simp [mI_uI]; exact y46
    have e48 : mI (uI (uI y 0 48 j) 0 51 (-1)) 0 48 = j := by simp [mI_uI]
    have e51 : mI (uI (uI y 0 48 j) 0 51 (-1)) 0 51 = -1 := by simp [mI_uI]
    have fx : FrM wTk u (uI (uI y 0 48 j) 0 51 (-1)) := FrM_uI (FrM_uI fy (wHas_i (by decide))) (wHas_i (by decide))
    generalize uI (uI y 0 48 j) 0 51 (-1) = x at e46 e48 e51 fx
    have Cx := CxM_f fx (by decide) C
    have fin : ∀ v κ, FrM wTk x v → κ = tkK t j → mI v 0 47 = κ → mI v 0 48 = peo t j → TkX t v j κ → F_X12_next_161 v P := by
      intro v κ fv eκ v47 v48 vx
      unfold F_X12_next_161
      rintro _ rfl
      have fw : FrM [(0, some 46)] v (uI v 0 46 (mI v 0 49)) := FrM_uI FrM_rf (wHas_i (by decide))
      refine h _ (FrM_uI (FrM_tr fx fv) (wHas_i (by decide))) ?_
      rw [← ej]
      refine ⟨⟨by simp [mI_uI], by simp [mI_uI]; rw [v47, eκ], by simp [mI_uI]; exact v48⟩, ?_⟩
      rw [← eκ]
      exact TkX_f fw (by decide) vx
    rw [e46]
    refine i_byte Cx (by omega) ?_
    unfold F_X12_next_113 F_X12_next_156
    by_cases c0 : bt t j = -1
    · rw [if_pos c0]
      have := bt_m C (by omega) c0
      unfold F_X12_is
      rintro _ rfl _ rfl _ rfl
      refine fin _ 0 (FrM_uI (FrM_uI (FrM_uI FrM_rf (wHas_i (by decide))) (wHas_i (by decide))) (wHas_i (by decide))) (by unfold tkK; rw [if_pos c0]) (by simp [mI_uI]) ?_ (TkX_10 (Or.inr rfl))
      unfold peo
      rw [if_neg (by omega)]
      simp [mI_uI]
      exact Cx.1.2
    · rw [if_neg c0]
      have jb := (bt_in c0).2
      have ep : peo t j = j := by unfold peo; rw [if_pos jb]
      rw [ep] at fin
      refine i_dig (fun d => ?_) (fun d => ?_)
      · rw [if_neg (by decide)]
        refine i_numT Cx e46 e51 (by omega) (by omega) (fun v fv v47 v48 vx => fin v 1 fv (by unfold tkK; rw [if_neg c0, if_pos d]) v47 (v48.trans e48) vx)
      · rw [if_pos rfl]
        by_cases c34 : bt t j = 34
        · rw [if_pos c34]
          refine i_txtT Cx e46 e51 (by omega) jb (fun v fv v47 v48 vx => fin v 2 fv (by unfold tkK; rw [if_neg c0, if_neg (by rw [d]; decide), if_pos c34]) v47 (v48.trans e48) vx)
        · rw [if_neg c34]
          have wt : (leB (bt t j) = true ∨ bt t j = 36) → F_X12_wordToken (bt t j) x (fun u_115 => F_X12_next_161 u_115 P) := fun hw => i_wordT Cx e46 rfl (by omega) jb (fun v κ fv eκ v47 v48 vx => fin v κ fv (by unfold tkK; rw [if_neg c0, if_neg (by rw [d]; decide), if_neg c34, if_pos hw]; exact eκ) v47 (v48.trans e48) vx)
          have st : ¬ (leB (bt t j) = true ∨ bt t j = 36) → ¬ refP t j → F_X12_signToken (bt t j) x (fun u_115 => F_X12_next_161 u_115 P) := fun hw hr => i_signT Cx e46 rfl (by omega) jb (fun v κ fv eκ v47 v48 vx => fin v κ fv (by unfold tkK; rw [if_neg c0, if_neg (by rw [d]; decide), if_neg c34, if_neg hw, if_neg hr]; exact eκ) v47 (v48.trans e48) vx)
          refine i_let (fun l => ?_) (fun l => ?_)
          · rw [if_neg (by decide)]
            exact wt (Or.inl l)
          · rw [if_pos rfl]
            by_cases c36 : bt t j = 36
            · rw [if_pos c36]; exact wt (Or.inr c36)
            · rw [if_neg c36]
              have nw : ¬ (leB (bt t j) = true ∨ bt t j = 36) := fun o => o.elim (fun q => by rw [l] at q; cases q) c36
              by_cases c35 : bt t j = 35
              · rw [if_pos c35]
                refine i_wd (n := 4) Cx (by omega) (by omega) (by decide) (by decide) (by decide) (fun q => ?_) (fun q => ?_)
                · rw [if_neg (by decide), w32e (by omega) (by omega)]
                  have rp := refP_i.mpr q
                  unfold F_X12_is
                  rintro _ rfl _ rfl
                  refine fin _ 5 (FrM_uI (FrM_uI FrM_rf (wHas_i (by decide))) (wHas_i (by decide))) (by unfold tkK; rw [if_neg c0, if_neg (by rw [d]; decide), if_neg c34, if_neg nw, if_pos rp]) (by simp [mI_uI]) (by simp [mI_uI]; exact e48) ?_
                  refine ⟨fun c => absurd c (by decide), fun c => absurd c (by decide), fun c => absurd c (by decide), fun c => absurd c (by decide), fun _ => by simp [mI_uI], fun c => absurd c (by decide), fun c => absurd c (by decide)⟩
                · rw [if_pos rfl]
                  exact st nw (fun rp => q (refP_i.mp rp))
              · rw [if_neg c35]
                exact st nw (fun rp => c35 rp.1)
