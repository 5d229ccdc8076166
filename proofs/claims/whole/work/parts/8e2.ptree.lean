/-! ===== a formula's value is as it should be; what is alone ===== -/
def svOk (sv : Nat → Option Lit) : Prop := ∀ i l, sv i = some l → VOk l
def avOk (av : Nat → Option (List Lit)) : Prop := ∀ i L, av i = some L → L.length ≤ 320 ∧ ∀ c ∈ L, VOk c
def plOk (pl : Nat → Option (Int × Int)) : Prop := ∀ i r c, pl i = some (r, c) → (0 ≤ r ∧ r ≤ 31) ∧ 0 ≤ c ∧ c ≤ 9
theorem VOk_liS {sv : Nat → Option Lit} (h : svOk sv) (i : Nat) : VOk (liV (sv i)) := by
  have := h i
  revert this
  cases sv i with
  | none => exact fun _ => VOk_er (by decide) (by decide)
  | some l => exact fun h => h l rfl
theorem VOk_rc {pl : Nat → Option (Int × Int)} (h : plOk pl) (op : Int) (i : Nat) : VOk (rcV op (pl i)) := by
  have := h i
  revert this
  cases pl i with
  | none => exact fun _ => VOk_er (by decide) (by decide)
  | some t =>
    obtain ⟨r, c⟩ := t
    intro h
    have := h r c rfl
    show VOk (1, (if op = 29 then r else c) + 1, [])
    refine VOk_n ?_ ?_ <;> split <;> omega
theorem IOk_itm {sv : Nat → Option Lit} {av : Nat → Option (List Lit)} {ps : List Prt} {g : Nat → Lit} {j : Nat} (ha : avOk av) (hg : (ps.getD j pd0).1 ≠ 17 → VOk (g j)) : IOk (itm sv av ps g j) := by
  unfold itm
  split
  · have := ha j
    revert this
    cases av j with
    | none => exact fun _ => trivial
    | some L => exact fun h => h L rfl
  · next c => exact hg c
section StV
variable {sv : Nat → Option Lit} {av : Nat → Option (List Lit)} {pl : Nat → Option (Int × Int)} {ps : List Prt} {g : Nat → Lit} {i : Nat}
theorem st_14 (c : (ps.getD i pd0).1 = 14) : stV sv av pl ps g i = liV (ps.getD i pd0).2.2.1 := by
  unfold stV; rw [if_pos (by omega)]
theorem st_15 (c : (ps.getD i pd0).1 = 15 ∨ (ps.getD i pd0).1 = 17) : stV sv av pl ps g i = erL 1 := by
  unfold stV; rw [if_neg (by omega), if_pos (by omega)]
theorem st_16 (c : (ps.getD i pd0).1 = 16) : stV sv av pl ps g i = liV (sv i) := by
  unfold stV; rw [if_neg (by omega), if_neg (by omega), if_pos (by omega)]
theorem st_13 (c : (ps.getD i pd0).1 = 13) : stV sv av pl ps g i = negV (g (agI ps i 0)) := by
  unfold stV; rw [if_neg (by omega), if_neg (by omega), if_neg (by omega), if_pos (by omega)]
theorem st_12 (c : (ps.getD i pd0).1 ≤ 12) : stV sv av pl ps g i = twoV (ps.getD i pd0).1 (g (agI ps i 0)) (g (agI ps i 1)) := by
  unfold stV; rw [if_neg (by omega), if_neg (by omega), if_neg (by omega), if_neg (by omega), if_pos (by omega)]
theorem st_18 (c : (ps.getD i pd0).1 = 18) : stV sv av pl ps g i = ifV (g (agI ps i 0)) (g (agI ps i 1)) (g (agI ps i 2)) := by
  unfold stV; rw [if_neg (by omega), if_neg (by omega), if_neg (by omega), if_neg (by omega), if_neg (by omega), if_pos (by omega)]
theorem st_24 (c : 19 ≤ (ps.getD i pd0).1 ∧ (ps.getD i pd0).1 ≤ 24) : stV sv av pl ps g i = manV (ps.getD i pd0).1 ((List.range (ps.getD i pd0).2.1.toNat).map (fun k => itm sv av ps g (agI ps i k))) := by
  unfold stV; rw [if_neg (by omega), if_neg (by omega), if_neg (by omega), if_neg (by omega), if_neg (by omega), if_neg (by omega), if_pos (by omega)]
theorem st_28 (c : 25 ≤ (ps.getD i pd0).1 ∧ (ps.getD i pd0).1 ≤ 28) : stV sv av pl ps g i = oneV (ps.getD i pd0).1 (g (agI ps i 0)) := by
  unfold stV; rw [if_neg (by omega), if_neg (by omega), if_neg (by omega), if_neg (by omega), if_neg (by omega), if_neg (by omega), if_neg (by omega), if_pos (by omega)]
theorem st_30 (c : 29 ≤ (ps.getD i pd0).1 ∧ (ps.getD i pd0).1 ≤ 30) : stV sv av pl ps g i = rcV (ps.getD i pd0).1 (pl (agI ps i 0)) := by
  unfold stV; rw [if_neg (by omega), if_neg (by omega), if_neg (by omega), if_neg (by omega), if_neg (by omega), if_neg (by omega), if_neg (by omega), if_neg (by omega), if_pos (by omega)]
theorem st_32 (c : 31 ≤ (ps.getD i pd0).1 ∧ (ps.getD i pd0).1 ≤ 32) : stV sv av pl ps g i = endV (ps.getD i pd0).1 (g (agI ps i 0)) (g (agI ps i 1)) := by
  unfold stV; rw [if_neg (by omega), if_neg (by omega), if_neg (by omega), if_neg (by omega), if_neg (by omega), if_neg (by omega), if_neg (by omega), if_neg (by omega), if_neg (by omega), if_pos (by omega)]
theorem st_34 (c : (ps.getD i pd0).1 = 34) : stV sv av pl ps g i = lokV (ps.getD i pd0).1 (av (agI ps i 1)) (g (agI ps i 0)) := by
  unfold stV; rw [if_neg (by omega), if_neg (by omega), if_neg (by omega), if_neg (by omega), if_neg (by omega), if_neg (by omega), if_neg (by omega), if_neg (by omega), if_neg (by omega), if_neg (by omega), if_pos (by omega)]
theorem st_35 (c : (ps.getD i pd0).1 = 33 ∨ (ps.getD i pd0).1 = 35) : stV sv av pl ps g i = lokV (ps.getD i pd0).1 (av (agI ps i 0)) (g (agI ps i 1)) := by
  unfold stV; rw [if_neg (by omega), if_neg (by omega), if_neg (by omega), if_neg (by omega), if_neg (by omega), if_neg (by omega), if_neg (by omega), if_neg (by omega), if_neg (by omega), if_neg (by omega), if_neg (by omega)]
end StV
theorem VOk_st {sv : Nat → Option Lit} {av : Nat → Option (List Lit)} {pl : Nat → Option (Int × Int)} {ps : List Prt} {g : Nat → Lit} {i : Nat} (W : WfV ps) (hi : i < ps.length) (hs : svOk sv) (ha : avOk av) (hp : plOk pl) (hg : ∀ j, j < i → VOk (g j)) : VOk (stV sv av pl ps g i) := by
  obtain ⟨w1, w2, w3, w4, w5, w6, w7, w8, w9⟩ := WfP_a (W.2 i hi)
  have e : ∀ k : Nat, (k : Int) < (ps.getD i pd0).2.1 → VOk (g (agI ps i k)) := fun k hk => hg _ (agI_w W hi hk).2
  by_cases c14 : (ps.getD i pd0).1 = 14
  · rw [st_14 c14]
    have := (W.2 i hi).2.1
    revert this
    cases (ps.getD i pd0).2.2.1 with
    | none => exact fun h => absurd c14 h
    | some l => exact fun h => VOk_L h.2
  by_cases c15 : (ps.getD i pd0).1 = 15 ∨ (ps.getD i pd0).1 = 17
  · rw [st_15 c15]; exact VOk_er (by decide) (by decide)
  by_cases c16 : (ps.getD i pd0).1 = 16
  · rw [st_16 c16]; exact VOk_liS hs i
  by_cases c13 : (ps.getD i pd0).1 = 13
  · rw [st_13 c13]; exact VOk_neg (e 0 (by omega))
  by_cases c12 : (ps.getD i pd0).1 ≤ 12
  · rw [st_12 c12]; exact VOk_two (e 0 (by omega)) (e 1 (by omega))
  by_cases c18 : (ps.getD i pd0).1 = 18
  · rw [st_18 c18]; exact VOk_if (e 0 (by omega)) (e 1 (by omega)) (e 2 (by omega))
  by_cases c24 : (ps.getD i pd0).1 ≤ 24
  · rw [st_24 ⟨by omega, c24⟩]
    refine VOk_man (fun c hc => ?_) (by rw [List.length_map, List.length_range]; omega)
    obtain ⟨k, hk, rfl⟩ := List.mem_map.mp hc
    rw [List.mem_range] at hk
    exact IOk_itm ha (fun _ => e k (by omega))
  by_cases c28 : (ps.getD i pd0).1 ≤ 28
  · rw [st_28 ⟨by omega, c28⟩]; exact VOk_one (e 0 (by omega))
  by_cases c30 : (ps.getD i pd0).1 ≤ 30
  · rw [st_30 ⟨by omega, c30⟩]; exact VOk_rc hp _ _
  by_cases c32 : (ps.getD i pd0).1 ≤ 32
  · rw [st_32 ⟨by omega, c32⟩]; exact VOk_end (e 0 (by omega)) (e 1 (by omega))
  by_cases c34 : (ps.getD i pd0).1 = 34
  · rw [st_34 c34]; exact VOk_lok (e 0 (by omega)) (fun L hL => ha _ L hL)
  · rw [st_35 (by omega)]; exact VOk_lok (e 1 (by omega)) (fun L hL => ha _ L hL)
theorem VOk_ev {sv : Nat → Option Lit} {av : Nat → Option (List Lit)} {pl : Nat → Option (Int × Int)} {ps : List Prt} (W : WfV ps) (hs : svOk sv) (ha : avOk av) (hp : plOk pl) : ∀ (n i : Nat), i < n → i < ps.length → VOk (evV sv av pl ps i)
  | 0, _, h, _ => absurd h (Nat.not_lt_zero _)
  | n + 1, i, h, hi => by
    rw [evV_s W hi]
    exact VOk_st W hi hs ha hp (fun j hj => VOk_ev W hs ha hp n j (by omega) (by omega))
/-! where the parts of an argument begin -/
theorem wlk_add (sp : List Int) : ∀ (a m : Nat) (j : Int), wlk sp (a + m) j = wlk sp m (wlk sp a j)
  | 0, m, j => by rw [Nat.zero_add]; rfl
  | a + 1, m, j => by rw [Nat.add_right_comm, wlk, wlk_add sp a m, wlk]
/-- the place of a part's first part -/
def bgI (ps : List Prt) (i : Nat) : Int := (i : Int) + 1 - (spnL ps).getD i 0
theorem bgI_w {ps : List Prt} (W : WfV ps) {i : Nat} (hi : i < ps.length) : bgI ps i = wlk (spnL ps) (ps.getD i pd0).2.1.toNat ((i : Int) - 1) + 1 ∧ 0 ≤ bgI ps i ∧ bgI ps i ≤ i := by
  obtain ⟨h1, h2, h3⟩ := WfV_i W hi
  have := spn_pos ps i hi
  unfold bgI
  omega
theorem bgI_a {ps : List Prt} (W : WfV ps) {i k : Nat} (hi : i < ps.length) (hk : (k : Int) < (ps.getD i pd0).2.1) : bgI ps (agI ps i k) = wlk (spnL ps) ((ps.getD i pd0).2.1.toNat - k) ((i : Int) - 1) + 1 := by
  obtain ⟨h1, h2⟩ := agI_w W hi hk
  have e := wlk_s (spnL ps) ((ps.getD i pd0).2.1.toNat - 1 - k) ((i : Int) - 1)
  rw [show (ps.getD i pd0).2.1.toNat - 1 - k + 1 = (ps.getD i pd0).2.1.toNat - k by omega, ← h1, Int.toNat_natCast] at e
  unfold bgI
  omega
/-- an argument begins not before so many parts as there are arguments before it -/
theorem bgI_k {ps : List Prt} (W : WfV ps) {i : Nat} (hi : i < ps.length) : ∀ k : Nat, (k : Int) < (ps.getD i pd0).2.1 → bgI ps i + k ≤ bgI ps (agI ps i k)
  | 0, hk => by rw [bgI_a W hi hk, (bgI_w W hi).1, Nat.sub_zero]; exact Int.le_of_eq (Int.add_zero _)
  | k + 1, hk => by
    have h1 := bgI_k W hi k (by omega)
    have h2 := bgI_a W hi hk
    have h3 := agI_w W hi (k := k) (by omega)
    rw [show (ps.getD i pd0).2.1.toNat - (k + 1) = (ps.getD i pd0).2.1.toNat - 1 - k by omega, ← h3.1] at h2
    have := (bgI_w W (i := agI ps i k) (by omega)).2.2
    omega
/-- the first part of an argument has no arguments -/
theorem leaf_b {ps : List Prt} (W : WfV ps) : ∀ (n i : Nat), i < n → i < ps.length → (ps.getD (bgI ps i).toNat pd0).2.1 = 0
  | 0, _, h, _ => absurd h (Nat.not_lt_zero _)
  | n + 1, i, h, hi => by
    by_cases c : (ps.getD i pd0).2.1 = 0
    · have := (bgI_w W hi).1
      rw [c] at this
      have e : bgI ps i = i := by rw [this]; show (i : Int) - 1 + 1 = i; omega
      rw [e, Int.toNat_natCast]; exact c
    · have w := (WfP_a (W.2 i hi)).2.1
      have h1 := bgI_a W hi (k := 0) (by omega)
      rw [Nat.sub_zero, ← (bgI_w W hi).1] at h1
      rw [← h1]
      have h2 := agI_w W hi (k := 0) (by omega)
      exact leaf_b W n _ (by omega) (by omega)
/-- what ROW or COL takes nothing else takes -/
theorem aln_arg {ps : List Prt} (W : WfV ps) {i k : Nat} (hi : i < ps.length) (hk : (k : Int) < (ps.getD i pd0).2.1) (ho : ¬ ((ps.getD i pd0).1 = 29 ∨ (ps.getD i pd0).1 = 30)) : ¬ ((ps.getD (agI ps i k + 1) pd0).1 = 29 ∨ (ps.getD (agI ps i k + 1) pd0).1 = 30) := by
  have h1 := agI_w W hi hk
  by_cases c : ((k + 1 : Nat) : Int) < (ps.getD i pd0).2.1
  · have h2 := bgI_a W hi c
    rw [show (ps.getD i pd0).2.1.toNat - (k + 1) = (ps.getD i pd0).2.1.toNat - 1 - k by omega, ← h1.1] at h2
    have h3 := agI_w W hi c
    have h4 := leaf_b W _ (agI ps i (k + 1)) (Nat.lt_succ_self _) (by omega)
    rw [h2, show (((agI ps i k : Nat) : Int) + 1).toNat = agI ps i k + 1 by omega] at h4
    intro w
    have := (WfP_a (W.2 (agI ps i k + 1) (by omega))).2.2.2.2.2.2.2.1
    omega
  · have e : agI ps i k + 1 = i := by
      have e2 := h1.1
      rw [show (ps.getD i pd0).2.1.toNat - 1 - k = 0 by omega] at e2
      have : wlk (spnL ps) 0 ((i : Int) - 1) = (i : Int) - 1 := rfl
      omega
    rw [e]; exact ho
theorem aln_last {ps : List Prt} (h : 1 ≤ ps.length) : ¬ ((ps.getD (ps.length - 1 + 1) pd0).1 = 29 ∨ (ps.getD (ps.length - 1 + 1) pd0).1 = 30) := by
  rw [show ps.length - 1 + 1 = ps.length by omega, List.getD_eq_getElem?_getD, List.getElem?_eq_none (Nat.le_refl _)]
  decide
