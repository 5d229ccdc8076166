/-! ===== the system: the stack, one part after the other ===== -/
/-- slot s has what part j gives -/
def Ent (z : Z) (sv sb : Nat → Nat) (E : Int → Sh) (V : Int → Int → Int → Lit) (ps : List Prt) (s j : Nat) : Prop := ((ps.getD j pd0).1 = 17 ∨ ((ps.getD j pd0).1 = 16 ∧ alnP ps j) → VX z (sv s) (sb s) (6, (j : Int), [])) ∧ (¬ ((ps.getD j pd0).1 = 17 ∨ ((ps.getD j pd0).1 = 16 ∧ alnP ps j)) → VX z (sv s) (sb s) (EvA E V ps j) ∧ zI z (sv s) 3 = if decide ((ps.getD j pd0).1 = 15 ∨ ((ps.getD j pd0).1 = 16 ∧ (svE E V ps j).isNone = true)) = true then 1 else 0)
/-- the stack before part i: T slots -/
def StE (z : Z) (sv sb : Nat → Nat) (E : Int → Sh) (V : Int → Int → Int → Lit) (ps : List Prt) (i T : Nat) : Prop := T ≤ i ∧ wlk (spnL ps) T ((i : Int) - 1) = -1 ∧ ∀ m : Nat, m < T → 0 ≤ wlk (spnL ps) m ((i : Int) - 1) ∧ Ent z sv sb E V ps (T - 1 - m) (wlk (spnL ps) m ((i : Int) - 1)).toNat
section St
variable {z y : Z} {b sv sb : Nat → Nat} {J : Nat → Prop} {E : Int → Sh} {V : Int → Int → Int → Lit} {ps : List Prt} {pa : Nat}
theorem Ent_x {s j : Nat} (h : Ent z sv sb E V ps s j) : ∃ l, VX z (sv s) (sb s) l := by
  by_cases c : (ps.getD j pd0).1 = 17 ∨ ((ps.getD j pd0).1 = 16 ∧ alnP ps j)
  · exact ⟨_, h.1 c⟩
  · exact ⟨_, (h.2 c).1⟩
theorem Ent_t (K : WkC z b J sv sb) {s n j : Nat} (hn : n < s) (h60 : n < 60) (f : FrZ (WkT b sv sb s) z y) (h : Ent z sv sb E V ps n j) : Ent y sv sb E V ps n j := by
  refine ⟨fun c => (VX_t K hn h60 f (h.1 c)).1, fun c => ?_⟩
  obtain ⟨h1, h2⟩ := h.2 c
  obtain ⟨g1, g2⟩ := VX_t K hn h60 f h1
  exact ⟨g1, g2.trans h2⟩
theorem Ent_v {s j : Nat} (h : Ent z sv sb E V ps s j) (h17 : (ps.getD j pd0).1 ≠ 17) (ha : ¬ alnP ps j) : VX z (sv s) (sb s) (EvA E V ps j) := (h.2 (fun w => w.elim h17 (fun w => ha w.2))).1
/-- a part that is worked out, no #REF -/
theorem Ent_o {s j : Nat} (X : VX z (sv s) (sb s) (EvA E V ps j)) (h3 : zI z (sv s) 3 = 0) (c : (ps.getD j pd0).1 ≠ 15 ∧ (ps.getD j pd0).1 ≠ 16 ∧ (ps.getD j pd0).1 ≠ 17) : Ent z sv sb E V ps s j := by
  refine ⟨fun w => absurd w (by omega), fun _ => ⟨X, ?_⟩⟩
  rw [h3, if_neg]
  rw [decide_eq_true_eq]
  omega
theorem StE_n {i T : Nat} (W : WfV ps) (hi : i < ps.length) (S : StE z sv sb E V ps i T) : (ps.getD i pd0).2.1.toNat ≤ T := by
  obtain ⟨h1, h2, -⟩ := WfV_i W hi
  by_cases c : (ps.getD i pd0).2.1.toNat ≤ T
  · exact c
  · have := (wlk_b hi h1 h2 (m := T) (by omega)).1
    have := S.2.1
    omega
theorem StE_a {i T k : Nat} (W : WfV ps) (hi : i < ps.length) (S : StE z sv sb E V ps i T) (hk : k < (ps.getD i pd0).2.1.toNat) : Ent z sv sb E V ps (T - (ps.getD i pd0).2.1.toNat + k) (agI ps i k) := by
  have n := StE_n W hi S
  have := (S.2.2 ((ps.getD i pd0).2.1.toNat - 1 - k) (by omega)).2
  rw [show T - 1 - ((ps.getD i pd0).2.1.toNat - 1 - k) = T - (ps.getD i pd0).2.1.toNat + k by omega] at this
  exact this
theorem StE_s {i T : Nat} (K : WkC z b J sv sb) (W : WfV ps) (hi : i < ps.length) (h60 : ps.length ≤ 60) (S : StE z sv sb E V ps i T) (f : FrZ (WkT b sv sb (T - (ps.getD i pd0).2.1.toNat)) z y) (En : Ent y sv sb E V ps (T - (ps.getD i pd0).2.1.toNat) i) : StE y sv sb E V ps (i + 1) (T - (ps.getD i pd0).2.1.toNat + 1) := by
  have n := StE_n W hi S
  obtain ⟨h1, h2, h3⟩ := WfV_i W hi
  obtain ⟨s1, s2, s3⟩ := S
  generalize hN : (ps.getD i pd0).2.1.toNat = N at *
  have stp : ∀ m : Nat, wlk (spnL ps) (m + 1) (((i + 1 : Nat) : Int) - 1) = wlk (spnL ps) (N + m) ((i : Int) - 1) := fun m => by
    rw [wlk_add (spnL ps) N m ((i : Int) - 1), show (((i + 1 : Nat) : Int) - 1) = (i : Int) by omega]
    show wlk (spnL ps) m ((i : Int) - (spnL ps).getD (i : Int).toNat 0) = _
    rw [Int.toNat_natCast, h3]
    congr 1
    omega
  refine ⟨by omega, ?_, fun m hm => ?_⟩
  · rw [stp, show N + (T - N) = T by omega]; exact s2
  · match m with
    | 0 =>
      refine ⟨by show 0 ≤ (((i + 1 : Nat) : Int) - 1); omega, ?_⟩
      show Ent y sv sb E V ps (T - N + 1 - 1 - 0) ((((i + 1 : Nat) : Int) - 1)).toNat
      rw [show T - N + 1 - 1 - 0 = T - N by omega, show (((i + 1 : Nat) : Int) - 1).toNat = i by omega]
      exact En
    | m + 1 =>
      rw [stp]
      obtain ⟨q1, q2⟩ := s3 (N + m) (by omega)
      refine ⟨q1, ?_⟩
      rw [show T - N + 1 - 1 - (m + 1) = T - 1 - (N + m) by omega]
      exact Ent_t K (by omega) (by omega) f q2
theorem argT_er {op : Int} {e : Lit} : ∀ L : List Itm, L.foldl (argT op) (.inl e) = .inl e
  | [] => rfl
  | c :: L => by rw [List.foldl_cons]; exact argT_er L
theorem TlC_f {op : Int} {u w : Z} (f : FrZ (WB b wFi) u w) (k4 : zK u (b 4) ≠ 0) {s : Tly} (T : TlC u b op s) : TlC w b op s := by
  have hn : ∀ i : Int, 16 ≤ i → ¬ WB b wFi (b 4) i := fun i hi w => by
    obtain ⟨t, h1, -, h3⟩ := (WB_4 (by decide) w).2
    simp only [wFi, List.mem_cons, List.not_mem_nil, or_false] at h1
    rcases h1 with ht | ht | ht | ht | ht <;> subst ht <;> (rcases h3 with h3 | h3 <;> (first | (cases h3; done) | (injection h3 with h3; omega)))
  match s, T with
  | .inl e, T => exact ⟨(f.2 (b 4) 16 k4 (hn 16 (by decide))).1.trans T.1, T.2⟩
  | .inr xs, T => exact ⟨(f.2 (b 4) 16 k4 (hn 16 (by decide))).1.trans T.1, (f.2 (b 4) 17 k4 (hn 17 (by decide))).1.trans T.2.1, fun h => ⟨(f.2 (b 4) 18 k4 (hn 18 (by decide))).2.1.trans (T.2.2 h).1, (f.2 (b 4) 19 k4 (hn 19 (by decide))).2.1.trans (T.2.2 h).2.1, (f.2 (b 4) 20 k4 (hn 20 (by decide))).2.1.trans (T.2.2 h).2.2⟩⟩
theorem k9_gather {i s : Nat} {P : Z → Prop} (H : EvC z b J sv sb E V ps pa) (hi : i < ps.length) (hop : 19 ≤ (ps.getD i pd0).1 ∧ (ps.getD i pd0).1 ≤ 24) (hs : s + (ps.getD i pd0).2.1.toNat ≤ 60) (En : ∀ k : Nat, k < (ps.getD i pd0).2.1.toNat → Ent z sv sb E V ps (s + k) (agI ps i k)) (p : ∀ y, VX y (sv s) (sb s) (EvA E V ps i) → zI y (sv s) 3 = 0 → FrZ (WkU b sv sb s) z y → P y) : F_X9_gather (b 4) (ps.getD i pd0).1 (s : Int) (ps.getD i pd0).2.1 z P := by
  have K := H.1
  have W := H.2.2.2.2.1
  have wa := WfP_a (W.2 i hi)
  have wm := wa.2.2.2.2.2.2.1 hop.1 hop.2
  have oks := EvC_ok H
  have k4 : zK z (b 4) = 10 := cK K.1 4 rfl rfl
  have ev : EvA E V ps i = manV (ps.getD i pd0).1 (itL E V ps i) := by
    show evV _ _ _ _ _ = _
    rw [evV_s W hi, st_24 hop]; rfl
  rw [ev] at p
  unfold manV at p
  have iok : ∀ c ∈ itL E V ps i, IOk c := by
    intro c hc
    obtain ⟨k, hk, rfl⟩ := List.mem_map.mp hc
    rw [List.mem_range] at hk
    have a := agI_w W hi (k := k) (by omega)
    exact IOk_itm oks.2.1 (fun _ => EvC_V H (by omega))
  have Ll := itL_len (E := E) (V := V) (ps := ps) i
  have La := fun k (hk : k < (ps.getD i pd0).2.1.toNat) => itL_at (E := E) (V := V) (ps := ps) hk (.inr none)
  have ov := fun k (hk : k < (ps.getD i pd0).2.1.toNat) => EvC_V H (i := agI ps i k) (by have := (agI_w W hi (k := k) (by omega)).2; omega)
  have na := fun k (hk : k < (ps.getD i pd0).2.1.toNat) => aln_arg W hi (k := k) (by omega) (by omega)
  have aj := fun k (hk : k < (ps.getD i pd0).2.1.toNat) => (agI_w W hi (k := k) (by omega)).2
  generalize hL : itL E V ps i = L at *
  generalize hN : (ps.getD i pd0).2.1 = N at *
  generalize hO : (ps.getD i pd0).1 = op at *
  have tlb : ∀ k : Nat, tlN ((L.take k).foldl (argT op) (.inr [])) ≤ 2560 := fun k => by
    have := tlN_args (op := op) (L.take k) (.inr []) (fun c hc => iok c (List.mem_of_mem_take hc))
    rw [List.length_take] at this
    have : tlN ((L.take k).foldl (argT op) (.inr [])) ≤ 0 + 320 * min k L.length := this
    omega
  -- what is told in the end
  have fin : ∀ (w : Z) (t : Tly), FrZ (WB b wWl) z w → TlC w b op t → TOk op t → (∀ y, VX y (sv s) (sb s) (telT op t) → zI y (sv s) 3 = 0 → FrZ (WkU b sv sb s) z y → P y) → F_X9_gather_173 (b 4) op (s : Int) w P := fun w t f T o pp => by
    have Kw := WkC_fr K (wk_w (by decide) f)
    have Bw := Kw.2.2.1.1 s (by omega)
    have C := CX_4 Kw
    unfold F_X9_gather_173
    refine ⟨C.1, b 22, C.2.1, C.2.2.1, by omega, by rw [C.2.2.2]; omega, ?_⟩
    rw [Bw.1]
    exact k9_tell Kw hop Bw.2 T o (fun y g1 g2 g3 => pp y (VX_of Bw.2 g3 g1) g2 (FrZ_tr (wu_w (fun _ h => h) f) (wu_m (Nat.le_refl _) (by omega) g3)))
  unfold F_X9_gather
  refine ⟨k4, fun z1 e1 z2 e2 z3 e3 z4 e4 z5 e5 => ?_⟩
  have f5 : FrZ (WB b wTa) z z5 := by
    rw [e5, e4, e3, e2, e1]
    exact FrZ_wG (FrZ_wG (FrZ_wG (FrZ_wI (FrZ_wI FrZ_rf (Or.inl (WB_i (by decide) (by decide)))) (Or.inl (WB_i (by decide) (by decide)))) (Or.inl (WB_i (by decide) (by decide)))) (Or.inl (WB_i (by decide) (by decide)))) (Or.inl (WB_i (by decide) (by decide)))
  have T5 : TlC z5 b op (.inr []) := by
    refine ⟨?_, ?_, fun _ => ⟨?_, ?_, ?_⟩⟩
    · rw [e5, zI_wG, e4, zI_wG, e3, zI_wG, e2, zI_wI, if_neg (fun w => absurd w.2 (by decide)), e1, zI_wI, if_pos ⟨rfl, rfl⟩]
    · rw [e5, zI_wG, e4, zI_wG, e3, zI_wG, e2, zI_wI, if_pos ⟨rfl, rfl⟩]; rfl
    · rw [e5, zG_wG, if_neg (fun w => absurd w.2 (by decide)), e4, zG_wG, if_neg (fun w => absurd w.2 (by decide)), e3, zG_wG, if_pos ⟨rfl, rfl⟩]; rfl
    · rw [e5, zG_wG, if_neg (fun w => absurd w.2 (by decide)), e4, zG_wG, if_pos ⟨rfl, rfl⟩]; rfl
    · rw [e5, zG_wG, if_pos ⟨rfl, rfl⟩]; rfl
  -- the second loop, where no argument is an error
  have second : ∀ w, FrZ (WB b wTa) z w → TlC w b op (.inr []) → (if op = 24 then none else ferV L) = none → F_X9_gather_92 (b 4) op (s : Int) N w P := fun w fw Tw hfn => by
    rw [hfn] at p
    simp only at p
    unfold F_X9_gather_92 F_X9_gather_95
    refine lp_I (fun q => ((s : Int) ≤ q.1 ∧ q.1 ≤ (s : Int) + N) ∧ FrZ (WB b wWl) z q.2 ∧ TlC q.2 b op ((L.take (q.1 - (s : Int)).toNat).foldl (argT op) (.inr []))) (fun q => ((s : Int) + N - q.1).toNat) ?_ ((s : Int), w) (And.intro ⟨Int.le_refl _, by show (s : Int) ≤ (s : Int) + N; omega⟩ (And.intro (FrZ_mono fw (fun _ _ _ h => WB_up (by decide) h)) (by show TlC w b op ((L.take ((s : Int) - (s : Int)).toNat).foldl _ _); rw [Int.sub_self]; exact Tw)))
    rintro G ⟨x, v⟩ ⟨⟨x0, x1⟩, f, T⟩ ih
    simp only at x0 x1 f T
    have Kv := WkC_fr K (wk_w (by decide) f)
    have Hv := EvC_wk H (wk_w (by decide) f)
    have C := CX_4 Kv
    show L_X9_gather_95 (b 4) op (s : Int) N x v _
    unfold L_X9_gather_95
    rw [w32e (x := (s : Int) + N) (by omega) (by omega)]
    have ok2 : TOk op (L.foldl (argT op) (.inr [])) := TOk_args L (.inr []) (fun x hx => by cases hx) iok
    by_cases cx : (s : Int) + N ≤ x
    · rw [if_pos cx]
      show F_X9_gather_173 (b 4) op (s : Int) v P
      rw [List.take_of_length_le (by omega)] at T
      exact fin v _ f T ok2 (fun y g1 g2 g3 => p y g1 g2 g3)
    rw [if_neg cx]
    refine ⟨C.1, ?_⟩
    obtain ⟨k, hk⟩ : ∃ k : Nat, x = (s : Int) + k := ⟨(x - s).toNat, by omega⟩
    subst hk
    rw [show ((s : Int) + k - (s : Int)).toNat = k by omega] at T
    have kn : k < N.toNat := by omega
    match hf : (L.take k).foldl (argT op) (.inr []), T with
    | .inl e, T =>
      have := VOk_e T.2.1 T.2.2
      rw [T.1, if_neg (by omega)]
      show F_X9_gather_173 (b 4) op (s : Int) v P
      have ef : L.foldl (argT op) (.inr []) = .inl e := by rw [fold_td (argT op) L k, hf, argT_er]
      rw [ef] at p
      exact fin v (.inl e) f T ⟨T.2.1, T.2.2⟩ (fun y g1 g2 g3 => p y g1 g2 g3)
    | .inr xs, T =>
      have xl := tlb k
      rw [hf] at xl
      have xl : xs.length ≤ 2560 := xl
      rw [T.1, if_pos rfl]
      have tk := fold_tk (argT op) (L := L) (k := k) (by omega) (.inr none) (.inr [])
      rw [hf, La k kn] at tk
      have next : ∀ v', FrZ (WB b wWl) v v' → TlC v' b op ((L.take (k + 1)).foldl (argT op) (.inr [])) → F_X9_gather_167 (b 4) op (s : Int) N ((s : Int) + k) v' (fun o => match o with
        | .inl s' => G s'
        | .inr e => F_X9_gather_173 (b 4) op (s : Int) e P) := fun v' f' T' => by
        unfold F_X9_gather_167
        rw [w32e (x := (s : Int) + k + 1) (by omega) (by omega)]
        refine ih ((s : Int) + k + 1, v') (And.intro ⟨by show (s : Int) ≤ (s : Int) + k + 1; omega, by show (s : Int) + k + 1 ≤ _; omega⟩ (And.intro (FrZ_tr f f') ?_)) (by show (_ - ((s : Int) + k + 1)).toNat < (_ - ((s : Int) + k)).toNat; omega)
        show TlC v' b op ((L.take ((s : Int) + k + 1 - (s : Int)).toNat).foldl (argT op) (.inr []))
        rw [show ((s : Int) + k + 1 - (s : Int)).toNat = k + 1 by omega]; exact T'
      have S := Kv.2.2.1.1 (s + k) (by omega)
      refine ⟨b 22, C.2.1, C.2.2.1, by omega, by rw [C.2.2.2]; omega, ?_⟩
      rw [show (s : Int) + (k : Int) = ((s + k : Nat) : Int) by omega, S.1]
      refine ⟨sv (s + k), rfl, S.2.1, ?_⟩
      have Ek := En k kn
      unfold itm at tk
      by_cases c17 : (ps.getD (agI ps i k) pd0).1 = 17
      · rw [if_pos c17] at tk
        have X := (VX_w K (L := wWl) (by decide) (by omega) f (Ek.1 (Or.inl c17))).1
        rw [X.1.1.2.1, if_pos (by rfl)]
        have jl : agI ps i k < ps.length := by have := aj k kn; omega
        refine k9_fp Hv jl (Or.inr c17) X (fun e u fu => ?_) (fun sh t c l r hsh hcv e u fu F => ?_)
        · rw [if_pos rfl]
          have k4v : zK v (b 4) = 10 := C.1
          have Ku := WkC_fr Kv (wk_w (by decide) fu)
          refine ⟨cK Ku.1 4 rfl rfl, k9_err (op := op) (by decide) (by decide) (fun u2 g2 T2 => ?_)⟩
          rw [show ((s + k : Nat) : Int) = (s : Int) + k by omega]
          refine next u2 (FrZ_tr (FrZ_mono fu (fun _ _ _ h => WB_up (by decide) h)) (FrZ_mono g2 (fun _ _ _ h => WB_up (by decide) h))) ?_
          have ea : avE E V ps (agI ps i k) = none := by unfold avE; rw [if_pos c17, e]; rfl
          rw [ea] at tk
          rw [tk]; exact T2
        · rw [if_neg (by decide)]
          have Ku := WkC_fr Kv (wk_w (by decide) fu)
          have hb := ShC_b hsh
          have A : ArC u b J sh (E (ps.getD (agI ps i k) pd0).2.2.2.2.2) (V (ps.getD (agI ps i k) pd0).2.2.2.2.2) t c l r := ⟨F, ShC_wk Kv (wk_w (by decide) fu) hsh, arP_b hb e, fun x q x0 x1 y0 y1 => CvL_wk Kv (wk_w (by decide) fu) hsh (hcv c17 x q x0 x1 y0 y1)⟩
          have ea : avE E V ps (agI ps i k) = some (arL (V (ps.getD (agI ps i k) pd0).2.2.2.2.2) (t, c, l, r)) := by unfold avE; rw [if_pos c17, e]; rfl
          rw [ea] at tk
          refine ⟨cK Ku.1 4 rfl rfl, k9_tcells Ku A (by omega) (TlC_f fu (by rw [C.1]; decide) T) (fun u2 g2 T2 => ?_)⟩
          rw [show ((s + k : Nat) : Int) = (s : Int) + k by omega]
          refine next u2 (FrZ_tr (FrZ_mono fu (fun _ _ _ h => WB_up (by decide) h)) (FrZ_mono g2 (fun _ _ _ h => WB_up (by decide) h))) ?_
          rw [tk]; exact T2
      · rw [if_neg c17] at tk
        obtain ⟨X0, a0⟩ := Ek.2 (fun w => w.elim c17 (fun w => na k kn w.2))
        obtain ⟨X, a1⟩ := VX_w K (L := wWl) (by decide) (by omega) f X0
        have o4 := VOk_k (ov k kn)
        rw [X.1.1.2.1, if_neg (by omega)]
        refine k9_targ Kv hop X.1 (ov k kn) (Kv.2.2.2.2.1 (s + k) (by omega) 4 (by decide)).1 (a1.trans a0) T (by omega) (fun u2 g2 T2 => ?_)
        rw [show ((s + k : Nat) : Int) = (s : Int) + k by omega]
        refine next u2 (FrZ_mono g2 (fun _ _ _ h => WB_up (by decide) h)) ?_
        rw [tk]; exact T2
  -- the first loop: is an argument an error
  unfold F_X9_gather_32
  refine lp_I (fun q => ((s : Int) ≤ q.1 ∧ q.1 ≤ (s : Int) + N) ∧ FrZ (WB b wTa) z q.2 ∧ ((TlC q.2 b op (.inr []) ∧ (op ≠ 24 → (L.take (q.1 - (s : Int)).toNat).foldl ferS none = none)) ∨ (op ≠ 24 ∧ ∃ e, TlC q.2 b op (.inl e) ∧ ferV L = some e))) (fun q => ((s : Int) + N - q.1).toNat) ?_ ((s : Int), z5) (And.intro ⟨Int.le_refl _, by show (s : Int) ≤ (s : Int) + N; omega⟩ (And.intro f5 (Or.inl ⟨T5, fun _ => by show (L.take ((s : Int) - (s : Int)).toNat).foldl _ _ = _; rw [Int.sub_self]; rfl⟩)))
  rintro G ⟨x, v⟩ ⟨⟨x0, x1⟩, f, D⟩ ih
  simp only at x0 x1 f D
  have fK : FrZ (WB b wWl) z v := FrZ_mono f (fun _ _ _ h => WB_up (by decide) h)
  have Kv := WkC_fr K (wk_w (by decide) fK)
  have C := CX_4 Kv
  show L_X9_gather_32 (b 4) op (s : Int) N x v _
  unfold L_X9_gather_32
  rw [w32e (x := (s : Int) + N) (by omega) (by omega)]
  -- an error was found: the second loop ends at once
  have erred : op ≠ 24 → ∀ e, TlC v b op (.inl e) → ferV L = some e → F_X9_gather_92 (b 4) op (s : Int) N v P := fun h24 e T hf => by
    rw [if_neg h24, hf] at p
    simp only at p
    unfold F_X9_gather_92 F_X9_gather_95
    refine lp_I (fun q => q = ((s : Int), v)) (fun _ => 0) ?_ ((s : Int), v) rfl
    rintro G2 q rfl ih2
    show L_X9_gather_95 (b 4) op (s : Int) N (s : Int) v _
    unfold L_X9_gather_95
    have := VOk_e T.2.1 T.2.2
    by_cases cx : w32 ((s : Int) + N) ≤ (s : Int)
    · rw [if_pos cx]; exact fin v (.inl e) fK T ⟨T.2.1, T.2.2⟩ p
    · rw [if_neg cx]
      refine ⟨C.1, ?_⟩
      rw [T.1, if_neg (by omega)]
      exact fin v (.inl e) fK T ⟨T.2.1, T.2.2⟩ p
  have leave : ((s : Int) + N ≤ x ∨ op = 24 ∨ zI v (b 4) 16 ≠ 0) → F_X9_gather_92 (b 4) op (s : Int) N v P := fun hx => by
    rcases D with ⟨T, hn⟩ | ⟨h24, e, T, hf⟩
    · refine second v f T ?_
      by_cases c24 : op = 24
      · rw [if_pos c24]
      · rw [if_neg c24]
        have hx : (s : Int) + N ≤ x := by
          rcases hx with hx | hx | hx
          · exact hx
          · exact absurd hx c24
          · exact absurd T.1 hx
        have := hn c24
        rw [List.take_of_length_le (by omega)] at this
        exact this
    · exact erred h24 e T hf
  by_cases cx : (s : Int) + N ≤ x
  · rw [if_pos cx]; exact leave (Or.inl cx)
  rw [if_neg cx]
  by_cases c24 : op = 24
  · rw [if_pos c24]; exact leave (Or.inr (Or.inl c24))
  rw [if_neg c24]
  refine ⟨C.1, ?_⟩
  by_cases c16 : zI v (b 4) 16 = 0
  · rw [if_pos c16]
    rcases D with ⟨T, hn⟩ | ⟨-, e, T, hf⟩
    · obtain ⟨k, hk⟩ : ∃ k : Nat, x = (s : Int) + k := ⟨(x - s).toNat, by omega⟩
      subst hk
      have hn := hn c24
      rw [show ((s : Int) + k - (s : Int)).toNat = k by omega] at hn
      have kn : k < N.toNat := by omega
      have S := Kv.2.2.1.1 (s + k) (by omega)
      have Ek := En k kn
      have tk := fold_tk ferS (L := L) (k := k) (by omega) (.inr none) none
      rw [hn, La k kn] at tk
      unfold itm at tk
      have set0 : ∀ n : Int, (n = 0 → (L.take (k + 1)).foldl ferS none = none) → (n ≠ 0 → ∃ e, (1 ≤ n ∧ n ≤ 7) ∧ e = erL n ∧ ferV L = some e) → F_X9_gather_83 (b 4) op (s : Int) N ((s : Int) + k) (some (b 4)) n v (fun o => match o with
        | .inl s' => G s'
        | .inr e => F_X9_gather_92 (b 4) op (s : Int) N e P) := fun n h0 h1 => by
        unfold F_X9_gather_83
        rw [w32e (x := (s : Int) + k + 1) (by omega) (by omega)]
        refine ⟨b 4, rfl, C.1, fun v' ev' => ?_⟩
        have f' : FrZ (WB b wTa) v v' := by rw [ev']; exact FrZ_wI FrZ_rf (Or.inl (WB_i (by decide) (by decide)))
        have i16 : zI v' (b 4) 16 = n := by rw [ev', zI_wI, if_pos ⟨rfl, rfl⟩]
        have oth : zI v' (b 4) 17 = zI v (b 4) 17 := by rw [ev', zI_wI, if_neg (fun w => absurd w.2 (by decide))]
        have og : ∀ i, zG v' (b 4) i = zG v (b 4) i := fun i => by rw [ev']; rfl
        refine ih ((s : Int) + k + 1, v') (And.intro ⟨by show (s : Int) ≤ (s : Int) + k + 1; omega, by show (s : Int) + k + 1 ≤ _; omega⟩ (And.intro (FrZ_tr f f') ?_)) (by show (_ - ((s : Int) + k + 1)).toNat < (_ - ((s : Int) + k)).toNat; omega)
        by_cases cn : n = 0
        · left
          refine ⟨⟨by rw [i16]; exact cn, by rw [oth]; exact T.2.1, fun h => by rw [og, og, og]; exact T.2.2 h⟩, fun _ => ?_⟩
          show (L.take ((s : Int) + k + 1 - (s : Int)).toNat).foldl ferS none = none
          rw [show ((s : Int) + k + 1 - (s : Int)).toNat = k + 1 by omega]; exact h0 cn
        · right
          obtain ⟨e, g1, g2, g3⟩ := h1 cn
          exact ⟨c24, e, ⟨by rw [i16, g2]; rfl, by rw [g2]; exact VOk_er g1.1 g1.2, by rw [g2]; rfl⟩, g3⟩
      refine ⟨b 22, C.2.1, C.2.2.1, by omega, by rw [C.2.2.2]; omega, ?_⟩
      rw [show (s : Int) + (k : Int) = ((s + k : Nat) : Int) by omega, S.1]
      refine ⟨sv (s + k), rfl, S.2.1, ?_⟩
      rw [show ((s + k : Nat) : Int) = (s : Int) + k by omega]
      by_cases c17 : (ps.getD (agI ps i k) pd0).1 = 17
      · rw [if_pos c17] at tk
        have X := (VX_w K (L := wTa) (by decide) (by omega) f (Ek.1 (Or.inl c17))).1
        rw [X.1.1.2.1, if_neg (by show ¬ (6 : Int) = 4; decide)]
        exact set0 0 (fun _ => tk) (fun h => absurd rfl h)
      · rw [if_neg c17] at tk
        obtain ⟨X0, a0⟩ := Ek.2 (fun w => w.elim c17 (fun w => na k kn w.2))
        have X := (VX_w K (L := wTa) (by decide) (by omega) f X0).1
        have o := ov k kn
        rw [X.1.1.2.1]
        by_cases c4 : (EvA E V ps (agI ps i k)).1 = 4
        · have oe := VOk_e o c4
          rw [if_pos c4, VlS_g X.1 (by omega), w32e (by omega) (by omega)]
          have tk2 : (L.take (k + 1)).foldl ferS none = some (EvA E V ps (agI ps i k)) := by rw [tk]; show (if _ = 4 then _ else _) = _; rw [if_pos c4]
          refine set0 _ (fun h => by omega) (fun _ => ⟨EvA E V ps (agI ps i k), oe.2, oe.1, ?_⟩)
          unfold ferV
          rw [fold_td ferS L (k + 1), tk2, ferS_e]
        · rw [if_neg c4]
          refine set0 0 (fun _ => ?_) (fun h => absurd rfl h)
          rw [tk]; show (if _ = 4 then _ else _) = _; rw [if_neg c4]
    · have := VOk_e T.2.1 T.2.2
      have := T.1
      omega
  · rw [if_neg c16]; exact leave (Or.inr (Or.inr c16))
end St
