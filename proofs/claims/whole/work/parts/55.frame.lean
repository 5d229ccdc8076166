/-! ===== the frame: a contract over a part of the heap holds over the whole ===== -/
def sub (h' h : Hp) : Prop := ∀ a, hK h' a ≠ 0 → hK h a = hK h' a ∧ hN h a = hN h' a ∧ hI h a = hI h' a ∧ hG h a = hG h' a ∧ hO h a = hO h' a
/-- the heap h with its part h' become u -/
def mg (h h' u : Hp) : Hp := (fun a => if hK h a ≠ 0 ∧ hK h' a = 0 then h.1 a else u.1 a, fun a => if hK h a ≠ 0 ∧ hK h' a = 0 then h.2.1 a else u.2.1 a, fun a => if hK h a ≠ 0 ∧ hK h' a = 0 then h.2.2.1 a else u.2.2.1 a, fun a => if hK h a ≠ 0 ∧ hK h' a = 0 then h.2.2.2.1 a else u.2.2.2.1 a, fun a => if hK h a ≠ 0 ∧ hK h' a = 0 then h.2.2.2.2 a else u.2.2.2.2 a)
theorem mg_o {h h' u : Hp} {a : Nat} (h1 : hK h a ≠ 0) (h2 : hK h' a = 0) : hK (mg h h' u) a = hK h a ∧ hN (mg h h' u) a = hN h a ∧ hI (mg h h' u) a = hI h a ∧ hG (mg h h' u) a = hG h a ∧ hO (mg h h' u) a = hO h a := by
  have q : hK h a ≠ 0 ∧ hK h' a = 0 := ⟨h1, h2⟩
  refine ⟨if_pos q, if_pos q, ?_, ?_, ?_⟩
  · funext k; show (if hK h a ≠ 0 ∧ hK h' a = 0 then h.2.2.1 a else u.2.2.1 a) k = _; rw [if_pos q]; rfl
  · funext k; show (if hK h a ≠ 0 ∧ hK h' a = 0 then h.2.2.2.1 a else u.2.2.2.1 a) k = _; rw [if_pos q]; rfl
  · funext k; show (if hK h a ≠ 0 ∧ hK h' a = 0 then h.2.2.2.2 a else u.2.2.2.2 a) k = _; rw [if_pos q]; rfl
theorem mg_i {h h' u : Hp} {a : Nat} (q : ¬ (hK h a ≠ 0 ∧ hK h' a = 0)) : hK (mg h h' u) a = hK u a ∧ hN (mg h h' u) a = hN u a ∧ hI (mg h h' u) a = hI u a ∧ hG (mg h h' u) a = hG u a ∧ hO (mg h h' u) a = hO u a := by
  refine ⟨if_neg q, if_neg q, ?_, ?_, ?_⟩
  · funext k; show (if hK h a ≠ 0 ∧ hK h' a = 0 then h.2.2.1 a else u.2.2.1 a) k = _; rw [if_neg q]; rfl
  · funext k; show (if hK h a ≠ 0 ∧ hK h' a = 0 then h.2.2.2.1 a else u.2.2.2.1 a) k = _; rw [if_neg q]; rfl
  · funext k; show (if hK h a ≠ 0 ∧ hK h' a = 0 then h.2.2.2.2 a else u.2.2.2.2 a) k = _; rw [if_neg q]; rfl
theorem nd_ix : ∀ {L : List Nat} {i j a : Nat}, L.Nodup → L[i]? = some a → L[j]? = some a → i = j
  | [], i, j, a, _, h, _ => by simp at h
  | x :: t, 0, 0, _, _, _, _ => rfl
  | x :: t, 0, j + 1, a, hn, h1, h2 => by
    have h3 : a ∈ t := List.mem_of_getElem? (i := j) (by simpa using h2)
    have h4 : x = a := by simpa using h1
    rw [List.nodup_cons] at hn
    rw [h4] at hn
    exact absurd h3 hn.1
  | x :: t, i + 1, 0, a, hn, h1, h2 => by
    have h3 : a ∈ t := List.mem_of_getElem? (i := i) (by simpa using h1)
    have h4 : x = a := by simpa using h2
    rw [List.nodup_cons] at hn
    rw [h4] at hn
    exact absurd h3 hn.1
  | x :: t, i + 1, j + 1, a, hn, h1, h2 => by
    rw [List.nodup_cons] at hn
    have h3 : t[i]? = some a := by simpa using h1
    have h4 : t[j]? = some a := by simpa using h2
    rw [nd_ix hn.2 h3 h4]
theorem ix_nd : ∀ {L : List Nat}, (∀ i j a : Nat, L[i]? = some a → L[j]? = some a → i = j) → L.Nodup
  | [], _ => List.nodup_nil
  | x :: t, h => by
    rw [List.nodup_cons]
    refine ⟨fun hx => ?_, ix_nd (fun i j a h1 h2 => by have := h (i + 1) (j + 1) a (by simpa using h1) (by simpa using h2); omega)⟩
    obtain ⟨k, hk⟩ := List.getElem?_of_mem hx
    have := h 0 (k + 1) x rfl (by simpa using hk)
    omega
theorem pl_at {L : List Nat} {f : Nat → va_E} {k : Nat} {q : Nat × va_E} (h : (va_pl L f)[k]? = some q) : ∃ a, L[k]? = some a ∧ q = (a, f a) := by
  rw [va_pl, List.getElem?_map] at h
  cases hk : L[k]? with
  | none => rw [hk] at h; cases h
  | some a => rw [hk] at h; exact ⟨a, rfl, (Option.some.inj h).symm⟩
theorem pl_of {L : List Nat} {f : Nat → va_E} {k a : Nat} (h : L[k]? = some a) : (va_pl L f)[k]? = some (a, f a) := by
  rw [va_pl, List.getElem?_map, h]; rfl
theorem pl_app {L1 L2 : List Nat} {f : Nat → va_E} : va_pl (L1 ++ L2) f = va_pl L1 f ++ va_pl L2 f := List.map_append
theorem pl_nd {A : Nat → Prop} {L : List Nat} {f : Nat → va_E} (h : va_D A (va_pl L f)) : L.Nodup := ix_nd (fun i j a h1 h2 => h.1 i j _ _ (pl_of h1) (pl_of h2) rfl)
theorem pl_D {A : Nat → Prop} {L : List Nat} {f : Nat → va_E} (hn : L.Nodup) (hA : ∀ a ∈ L, A a) : va_D A (va_pl L f) := ⟨fun i j p q h1 h2 e => by
  obtain ⟨a, ha, rfl⟩ := pl_at h1
  obtain ⟨b, hb, rfl⟩ := pl_at h2
  have e : a = b := e
  subst e
  exact nd_ix hn ha hb, fun k q h => by
  obtain ⟨a, ha, rfl⟩ := pl_at h
  exact hA a (List.mem_of_getElem? ha)⟩
theorem A_mem {L : List Nat} {f : Nat → va_E} {sz a : Nat} : va_A (va_pl L f) sz a ↔ a ∈ L ∨ sz ≤ a := by
  constructor
  · rintro (⟨k, e, h⟩ | h)
    · obtain ⟨b, hb, e2⟩ := pl_at h
      cases e2
      exact Or.inl (List.mem_of_getElem? hb)
    · exact Or.inr h
  · rintro (h | h)
    · obtain ⟨k, hk⟩ := List.getElem?_of_mem h
      exact Or.inl ⟨k, _, pl_of hk⟩
    · exact Or.inr h
abbrev Lin (h' : Hp) (L : List Nat) : List Nat := L.filter (fun a => decide (hK h' a ≠ 0))
abbrev Lout (h' : Hp) (L : List Nat) : List Nat := L.filter (fun a => decide (hK h' a = 0))
theorem Lin_m {h' : Hp} {L : List Nat} {a : Nat} : a ∈ Lin h' L ↔ a ∈ L ∧ hK h' a ≠ 0 := by simp [Lin, List.mem_filter]
theorem Lout_m {h' : Hp} {L : List Nat} {a : Nat} : a ∈ Lout h' L ↔ a ∈ L ∧ hK h' a = 0 := by simp [Lout, List.mem_filter]
section FRM
variable {D : va_G} {cy : Nat → ClassId} {L : List Nat} {h h' : Hp} {sz : Nat}
theorem sub_ce (hs : sub h' h) {a : Nat} (ha : hK h' a ≠ 0) : ce cy h a = ce cy h' a := by
  obtain ⟨e1, e2, e3, e4, e5⟩ := hs a ha
  exact ce_congr e1 e2 e3 e4 e5
theorem fr_lk (hL : Lk L h) (hs : sub h' h) : Lk (Lin h' L) h' := fun a => by
  rw [Lin_m]
  exact ⟨fun z => z.2, fun z => ⟨(hL a).mpr (by rw [(hs a z).1]; exact z), z⟩⟩
theorem fr_P {H : Heap} (hs : sub h' h) (hP : va_P D vwCl (va_pl L (ce cy h)) H) : va_P D vwCl (va_pl (Lin h' L) (ce cy h')) H := fun k q hq => by
  obtain ⟨a, ha, rfl⟩ := pl_at hq
  obtain ⟨h1, h2⟩ := Lin_m.mp (List.mem_of_getElem? ha)
  obtain ⟨k2, hk2⟩ := pl_get (f := ce cy h) h1
  rw [← sub_ce hs h2]
  exact hP k2 _ hk2
theorem fr_D (hD : va_D (fun _ => True) (va_pl L (ce cy h))) : va_D (fun _ => True) (va_pl (Lin h' L) (ce cy h')) := pl_D (List.Pairwise.filter _ (pl_nd hD)) (fun _ _ => trivial)
theorem fr_A : ∀ q, va_A (va_pl (Lin h' L) (ce cy h')) sz q → va_A (va_pl L (ce cy h)) sz q := fun q z => by
  rw [A_mem] at z ⊢
  exact z.imp (fun w => (Lin_m.mp w).1) (fun w => w)
theorem fr_back {H H1 : Heap} {u : Hp} {L1 : List Nat} (hL : Lk L h) (hsz : H.size = sz) (hP : va_P D vwCl (va_pl L (ce cy h)) H) (hD : va_D (fun _ => True) (va_pl L (ce cy h))) (g1 : Lk L1 u) (g2 : va_P D vwCl (va_pl L1 (ce cy u)) H1) (g3 : va_D (va_A (va_pl (Lin h' L) (ce cy h')) sz) (va_pl L1 (ce cy u))) (g4 : ∀ q : Nat, q < H.size → ¬ va_A (va_pl (Lin h' L) (ce cy h')) sz q → H1[q]? = H[q]?) :
    (∃ L2 : List Nat, Lk L2 (mg h h' u) ∧ va_P D vwCl (va_pl L2 (ce cy (mg h h' u))) H1 ∧ va_D (va_A (va_pl L (ce cy h)) sz) (va_pl L2 (ce cy (mg h h' u)))) ∧ ∀ a, hK h a ≠ 0 → hK h' a = 0 → hK u a = 0 := by
  have lt : ∀ a, a ∈ L → a < H.size := fun a ha => by
    obtain ⟨k, hk⟩ := pl_get (f := ce cy h) ha
    exact (hP k _ hk).lt
  have apart : ∀ a, a ∈ L → hK h' a = 0 → ¬ va_A (va_pl (Lin h' L) (ce cy h')) sz a := fun a ha h0 z => by
    rw [A_mem] at z
    rcases z with z | z
    · exact (Lin_m.mp z).2 h0
    · have := lt a ha; omega
  have no : ∀ a, hK h a ≠ 0 → hK h' a = 0 → hK u a = 0 := fun a ha h0 => Classical.byContradiction fun z => by
    obtain ⟨k, hk⟩ := pl_get (f := ce cy u) ((g1 a).mpr z)
    exact apart a ((hL a).mpr ha) h0 (g3.2 k _ hk)
  refine ⟨⟨Lout h' L ++ L1, fun a => ?_, ?_, ?_⟩, no⟩
  · rw [List.mem_append, Lout_m]
    by_cases q : hK h a ≠ 0 ∧ hK h' a = 0
    · rw [(mg_o q.1 q.2).1]
      exact ⟨fun _ => q.1, fun _ => Or.inl ⟨(hL a).mpr q.1, q.2⟩⟩
    · rw [(mg_i q).1, ← g1 a]
      exact ⟨fun z => z.elim (fun w => absurd ⟨(hL a).mp w.1, w.2⟩ q) (fun w => w), fun z => Or.inr z⟩
  · rw [pl_app]
    refine va_P.app (fun k q hq => ?_) (fun k q hq => ?_)
    · obtain ⟨a, ha, rfl⟩ := pl_at hq
      obtain ⟨h1, h2⟩ := Lout_m.mp (List.mem_of_getElem? ha)
      obtain ⟨k2, hk2⟩ := pl_get (f := ce cy h) h1
      obtain ⟨e1, e2, e3, e4, e5⟩ := mg_o (u := u) ((hL a).mp h1) h2
      rw [show ce cy (mg h h' u) a = ce cy h a from ce_congr e1 e2 e3 e4 e5]
      exact (hP k2 _ hk2).kept (g4 a (lt a h1) (apart a h1 h2))
    · obtain ⟨a, ha, rfl⟩ := pl_at hq
      have hm := List.mem_of_getElem? ha
      have q : ¬ (hK h a ≠ 0 ∧ hK h' a = 0) := fun z => (g1 a).mp hm (no a z.1 z.2)
      obtain ⟨e1, e2, e3, e4, e5⟩ := mg_i (u := u) q
      rw [show ce cy (mg h h' u) a = ce cy u a from ce_congr e1 e2 e3 e4 e5]
      exact g2 k _ (pl_of ha)
  · rw [pl_app]
    refine va_D.app (pl_D (List.Pairwise.filter _ (pl_nd hD)) (fun a ha => A_mem.mpr (Or.inl (Lout_m.mp ha).1))) (pl_D (pl_nd g3) (fun a ha => ?_)) (fun i j x y hx hy e => ?_)
    · obtain ⟨k, hk⟩ := pl_get (f := ce cy u) ha
      exact fr_A _ (g3.2 k _ hk)
    · obtain ⟨a, ha, rfl⟩ := pl_at hx
      obtain ⟨b, hb, rfl⟩ := pl_at hy
      have e : a = b := e
      subst e
      obtain ⟨h1, h2⟩ := Lout_m.mp (List.mem_of_getElem? ha)
      exact (g1 a).mp (List.mem_of_getElem? hb) (no a ((hL a).mp h1) h2)
end FRM
theorem Met_c {l : Launch} {y : MethodName} {ws : List Cond} {rm : Room} {P P' : Array Value → State → Prop} {Q Q' : Array Value → State → Outcome → State → Prop} {mc ms : Nat} {f f' : Addr → Prop} (hM : Met l y ws rm P Q mc ms f) (hp : ∀ a s, P' a s → P a s) (hq : ∀ a s o t, P' a s → Q a s o t → Q' a s o t) (hf : ∀ q, f q → f' q) : Met l y ws rm P' Q' mc ms f' := by
  intro p e h1 h2 h3 s m args below h4 h5 h6 h7
  obtain ⟨n, o, g1, g2, g3, g4, L, g5, g6⟩ := hM p e h1 h2 h3 s m args below h4 h5 (hp _ _ h6) h7
  exact ⟨n, o, g1, g2, g3, hq _ _ _ _ h6 g4, L, g5, fun q hq => hf _ (g6 q hq)⟩
theorem vxMet_c {l : Launch} {y : MethodName} {ws : List Cond} {rm : Room} {P P' : Array Value → State → Prop} {Q Q' : Array Value → State → Outcome → State → Prop} {X X' : String → State → State → Prop} {mc ms : Nat} {f f' : Addr → Prop} (hM : vx_Met l y ws rm P Q X mc ms f) (hp : ∀ a s, P' a s → P a s) (hq : ∀ a s o t, P' a s → Q a s o t → Q' a s o t) (hx : ∀ a E s t, P' a s → X E s t → X' E s t) (hf : ∀ q, f q → f' q) : vx_Met l y ws rm P' Q' X' mc ms f' := by
  intro p e h1 h2 h3 s m args below h4 h5 h6 h7
  obtain ⟨n, o, g1, g2, g3, g4⟩ := hM p e h1 h2 h3 s m args below h4 h5 (hp _ _ h6) h7
  refine ⟨n, o, g1, g2, g3, ?_⟩
  rcases g4 with ⟨g4, L, g5, g6⟩ | ⟨q, e1, E, ce, L, x1, x2, x3, x4, x5, x6, x7⟩
  · exact Or.inl ⟨hq _ _ _ _ h6 g4, L, g5, fun q hq => hf _ (g6 q hq)⟩
  · exact Or.inr ⟨q, e1, E, ce, L, hx _ E _ _ h6 x1, x2, x3, x4, x5, x6, fun z hz => hf _ (x7 z hz)⟩
theorem con_postC {Y : MI} {d mc ms : Nat} {as : List Sv} {h : Hp} {post post' : Option Sv → Hp → Prop} (c : Con Y d mc ms as h post) (hp : ∀ v u, post v u → post' v u) : Con Y d mc ms as h post' := by
  intro l D cy L sz hL
  refine Met_c (c l D cy L sz hL) (fun _ _ z => z) ?_ (fun _ z => z)
  rintro a s o t - ⟨⟨v, u, r1, r2, r3⟩, g⟩
  exact ⟨⟨v, u, r1, hp v u r2, r3⟩, g⟩
theorem con_postX {Y : MI} {d mc ms : Nat} {as : List Sv} {h : Hp} {post post' : Option Sv ⊕ String → Hp → Prop} (c : ConX Y d mc ms as h post) (hp : ∀ v u, post v u → post' v u) : ConX Y d mc ms as h post' := by
  intro l D cy L sz hl hL
  refine vxMet_c (c l D cy L sz hl hL) (fun _ _ z => z) ?_ ?_ (fun _ z => z)
  · rintro a s o t - ⟨⟨v, u, r1, r2, r3⟩, g⟩
    exact ⟨⟨v, u, r1, hp _ u r2, r3⟩, g⟩
  · rintro a E s t - ⟨u, r2, r3⟩
    exact ⟨u, hp _ u r2, r3⟩
/-- what a contract over the part h' says over the whole h -/
theorem con_frame {Y : MI} {d mc ms : Nat} {as : List Sv} {h h' : Hp} {post : Option Sv → Hp → Prop} (c : Con Y d mc ms as h' post) (hs : sub h' h) : Con Y d mc ms as h (fun v u => ∃ u', post v u' ∧ u = mg h h' u' ∧ ∀ a, hK h a ≠ 0 → hK h' a = 0 → hK u' a = 0) := by
  intro l D cy L sz hL
  refine Met_c (c l D cy (Lin h' L) sz (fr_lk hL hs)) ?_ ?_ fr_A
  · rintro a s ⟨e, q1, q2, q3, q4, q5, q6⟩
    exact ⟨e, q1, fr_P hs q2, q3, fr_D q4, q5, Sw_narrow fr_A q6⟩
  · rintro a s o t ⟨e, q1, q2, q3, q4, q5⟩ ⟨⟨v, u, r1, r2, L1, g1, g2, g3⟩, g4, g5⟩
    obtain ⟨⟨L2, k1, k2, k3⟩, k4⟩ := fr_back hL q1 q2 q4 g1 g2 g3 g5
    exact ⟨⟨v, mg h h' u, r1, ⟨u, r2, rfl, k4⟩, L2, k1, k2, k3⟩, g4, fun q h1 h2 => g5 q h1 (fun z => h2 (fr_A q z))⟩
theorem con_frameX {Y : MI} {d mc ms : Nat} {as : List Sv} {h h' : Hp} {post : Option Sv ⊕ String → Hp → Prop} (c : ConX Y d mc ms as h' post) (hs : sub h' h) : ConX Y d mc ms as h (fun v u => ∃ u', post v u' ∧ u = mg h h' u' ∧ ∀ a, hK h a ≠ 0 → hK h' a = 0 → hK u' a = 0) := by
  intro l D cy L sz hl hL
  refine vxMet_c (c l D cy (Lin h' L) sz hl (fr_lk hL hs)) ?_ ?_ ?_ fr_A
  · rintro a s ⟨e, ⟨q1, q2, q3, q4, q5, q6⟩, z1, z2, z3⟩
    exact ⟨e, ⟨q1, fr_P hs q2, q3, fr_D q4, q5, Sw_narrow fr_A q6⟩, vx_Zq.narrow z1 fr_A, vx_Zq.narrow z2 fr_A, z3⟩
  · rintro a s o t ⟨e, ⟨q1, q2, q3, q4, q5⟩, z⟩ ⟨⟨v, u, r1, r2, L1, g1, g2, g3⟩, g4, g5⟩
    obtain ⟨⟨L2, k1, k2, k3⟩, k4⟩ := fr_back hL q1 q2 q4 g1 g2 g3 g5
    exact ⟨⟨v, mg h h' u, r1, ⟨u, r2, rfl, k4⟩, L2, k1, k2, k3⟩, g4, fun q h1 h2 => g5 q h1 (fun z => h2 (fr_A q z))⟩
  · rintro a E s t ⟨e, ⟨q1, q2, q3, q4, q5⟩, z⟩ ⟨u, r2, ⟨L1, g1, g2, g3⟩, g4, g5⟩
    obtain ⟨⟨L2, k1, k2, k3⟩, k4⟩ := fr_back hL q1 q2 q4 g1 g2 g3 g5
    exact ⟨mg h h' u, ⟨u, r2, rfl, k4⟩, ⟨L2, k1, k2, k3⟩, g4, fun q h1 h2 => g5 q h1 (fun z => h2 (fr_A q z))⟩
/-! ===== the law's heap: the system's part, the model's part, the long array ===== -/
def LSt (h hc hm : Hp) (o : Nat) : Prop := sub hc h ∧ sub hm h ∧ (∀ a, hK hc a ≠ 0 → hK hm a = 0) ∧ hK h o = 16 ∧ hN h o = 1 ∧ hK hc o = 0 ∧ hK hm o = 0
theorem LSt_c {h hc hm uc : Hp} {o : Nat} (S : LSt h hc hm o) (fr : ∀ a, hK h a ≠ 0 → hK hc a = 0 → hK uc a = 0) : LSt (mg h hc uc) uc hm o ∧ hG (mg h hc uc) o = hG h o := by
  obtain ⟨s1, s2, s3, s4, s5, s6, s7⟩ := S
  have hm0 : ∀ a, hK hm a ≠ 0 → hK h a ≠ 0 ∧ hK hc a = 0 := fun a ha => ⟨by rw [(s2 a ha).1]; exact ha, Classical.byContradiction fun z => ha (s3 a z)⟩
  have ho : hK h o ≠ 0 := by rw [s4]; decide
  obtain ⟨e1, e2, e3, e4, e5⟩ := mg_o (u := uc) ho s6
  refine ⟨⟨fun a ha => mg_i (fun z => ha (fr a z.1 z.2)), fun a ha => ?_, fun a ha => Classical.byContradiction fun z => ha (fr a (hm0 a z).1 (hm0 a z).2), e1.trans s4, e2.trans s5, fr o ho s6, s7⟩, e4⟩
  obtain ⟨f1, f2, f3, f4, f5⟩ := mg_o (u := uc) (hm0 a ha).1 (hm0 a ha).2
  obtain ⟨k1, k2, k3, k4, k5⟩ := s2 a ha
  exact ⟨f1.trans k1, f2.trans k2, f3.trans k3, f4.trans k4, f5.trans k5⟩
theorem LSt_sw {h hc hm : Hp} {o : Nat} (S : LSt h hc hm o) : LSt h hm hc o := by
  obtain ⟨s1, s2, s3, s4, s5, s6, s7⟩ := S
  exact ⟨s2, s1, fun a ha => Classical.byContradiction fun z => ha (s3 a z), s4, s5, s7, s6⟩
theorem LSt_m {h hc hm um : Hp} {o : Nat} (S : LSt h hc hm o) (fr : ∀ a, hK h a ≠ 0 → hK hm a = 0 → hK um a = 0) : LSt (mg h hm um) hc um o ∧ hG (mg h hm um) o = hG h o :=
  ⟨LSt_sw (LSt_c (LSt_sw S) fr).1, (LSt_c (LSt_sw S) fr).2⟩
theorem LSt_o {h hc hm : Hp} {o : Nat} {x : Int64} (S : LSt h hc hm o) : LSt (pG h o 0 x) hc hm o := by
  obtain ⟨s1, s2, s3, s4, s5, s6, s7⟩ := S
  have e : ∀ a, a ≠ o → hG (pG h o 0 x) a = hG h a := fun a ha => by funext j; rw [hG_pG, if_neg (fun z => ha z.1)]
  refine ⟨fun a ha => ?_, fun a ha => ?_, s3, s4, s5, s6, s7⟩
  · obtain ⟨k1, k2, k3, k4, k5⟩ := s1 a ha
    exact ⟨k1, k2, k3, (e a (fun z => by rw [z] at ha; exact ha s6)).trans k4, k5⟩
  · obtain ⟨k1, k2, k3, k4, k5⟩ := s2 a ha
    exact ⟨k1, k2, k3, (e a (fun z => by rw [z] at ha; exact ha s7)).trans k4, k5⟩
