/-! ===== the judgement at one place: the law's own body, which reads the script ===== -/
def Jp (Y : MI) (p : Program) (l : Launch) (e : Env) (s : State) (m : MethodId) (args : Array Value) (below : List Frame) (meth : Method) (c0 : Code) (Q : State → Prop) (D : va_G) (cy : Nat → ClassId) (A : Nat → Prop) (MC MS d mc ms : Nat) (post : Option Sv ⊕ String → Hp → Prop) (pc : Nat) (lv : List (Option Sv)) (st : List Sv) (h : Hp) : Prop :=
  ∀ (H : Heap) (locs : List Loc) (cells slots : Nat) (ls : Array Slot),
    Cx Y p l s m args meth c0 D cy A → Rp D cy A s.heap H locs h → lvh cy ls Y.2.2.1 lv → cells + mc ≤ MC → slots + ms ≤ MS →
    (∀ (v : Option Sv) (u : Hp) (H1 : Heap) (locs1 : List Loc) (c1 s1 : Nat) (ls1 : Array Slot) (pc1 : Nat), post (.inl v) u → Rp D cy A s.heap H1 locs1 u → c1 ≤ MC → s1 ≤ MS → rtd Y pc1 v → W p l e (rmm d MC MS) s m args below meth c0 H1 locs1 c1 s1 Q (F0 m pc1 ls1 (v.toList.map (tv cy)))) →
    (∀ (E : String) (u : Hp) (H1 : Heap) (locs1 : List Loc) (c1 s1 : Nat) (ls1 : Array Slot) (pc1 : Nat) (st1 : List Sv), post (.inr E) u → Rp D cy A s.heap H1 locs1 u → ls1.size = Y.2.2.1 → c1 + 1 ≤ MC → s1 + 6 ≤ MS → thd Y pc1 E → (st1.map ct).sum ≤ 8 → W p l e (rmm d MC MS) s m args below meth c0 H1 locs1 c1 s1 Q (F0 m pc1 ls1 (st1.map (tv cy)))) →
    W p l e (rmm d MC MS) s m args below meth c0 H locs cells slots Q (F0 m pc ls (st.map (tv cy)))
section JP
variable {Y Y1 : MI} {p : Program} {l : Launch} {e : Env} {s : State} {m : MethodId} {args : Array Value} {below : List Frame} {meth : Method} {c0 : Code} {Q : State → Prop} {D : va_G} {cy : Nat → ClassId} {A : Nat → Prop} {MC MS d d1 mc ms mc1 ms1 : Nat} {post : Option Sv ⊕ String → Hp → Prop} {post1 : Option Sv → Hp → Prop} {pc : Nat} {lv : List (Option Sv)} {st as : List Sv} {h : Hp}
theorem jp_iload {i : Nat} {x : Int32} (hd : decode Y.2.1 pc = .ok (.iload i, 2)) (hv : lv[i]? = some (some (vi x))) (k : Jp Y p l e s m args below meth c0 Q D cy A MC MS d mc ms post (pc + 2) lv (vi x :: st) h) : Jp Y p l e s m args below meth c0 Q D cy A MC MS d mc ms post pc lv st h := by
  intro H locs cells slots ls C R hl h1 h2 hr hx
  exact lv_iload C.1 C.2.1 hd (hl.2.2.2 _ _ hv) (k H locs cells slots ls C R hl h1 h2 hr hx)
theorem jp_iload_n {k0 : Fin 4} {x : Int32} (hd : decode Y.2.1 pc = .ok (.iload_n k0, 1)) (hv : lv[(k0 : Nat)]? = some (some (vi x))) (k : Jp Y p l e s m args below meth c0 Q D cy A MC MS d mc ms post (pc + 1) lv (vi x :: st) h) : Jp Y p l e s m args below meth c0 Q D cy A MC MS d mc ms post pc lv st h := by
  intro H locs cells slots ls C R hl h1 h2 hr hx
  exact lv_iload_n C.1 C.2.1 hd rfl (hl.2.2.2 _ _ hv) (k H locs cells slots ls C R hl h1 h2 hr hx)
theorem jp_aload_n {k0 : Fin 4} {r : Option Nat} (hd : decode Y.2.1 pc = .ok (.aload_n k0, 1)) (hv : lv[(k0 : Nat)]? = some (some (vr r))) (k : Jp Y p l e s m args below meth c0 Q D cy A MC MS d mc ms post (pc + 1) lv (vr r :: st) h) : Jp Y p l e s m args below meth c0 Q D cy A MC MS d mc ms post pc lv st h := by
  intro H locs cells slots ls C R hl h1 h2 hr hx
  have h9 := hl.2.2.2 _ _ hv
  have k9 := (k H locs cells slots ls C R hl h1 h2 hr hx)
  cases r with
  | none => exact lv_aload_nN C.1 C.2.1 hd rfl h9 k9
  | some x => exact lv_aload_n C.1 C.2.1 hd rfl h9 k9
theorem jp_istore {i : Nat} {x : Int32} (hd : decode Y.2.1 pc = .ok (.istore i, 2)) (hi : i < Y.2.2.1) (k : Jp Y p l e s m args below meth c0 Q D cy A MC MS d mc ms post (pc + 2) (st1 lv i (vi x)) st h) : Jp Y p l e s m args below meth c0 Q D cy A MC MS d mc ms post pc lv (vi x :: st) h := by
  intro H locs cells slots ls C R hl h1 h2 hr hx
  exact lv_istore C.1 C.2.1 hd (lvh_has hl) hi rfl (fun ls' hl' => (k H locs cells slots ls' C R (lvh_s1 hl.2.2.1 hl') h1 h2 hr hx))
theorem jp_astore_n {k0 : Fin 4} {r : Option Nat} (hd : decode Y.2.1 pc = .ok (.astore_n k0, 1)) (hi : (k0 : Nat) < Y.2.2.1) (k : Jp Y p l e s m args below meth c0 Q D cy A MC MS d mc ms post (pc + 1) (st1 lv (k0 : Nat) (vr r)) st h) : Jp Y p l e s m args below meth c0 Q D cy A MC MS d mc ms post pc lv (vr r :: st) h := by
  intro H locs cells slots ls C R hl h1 h2 hr hx
  cases r with
  | none => exact lv_astore_nN C.1 C.2.1 hd rfl (lvh_has hl) hi rfl (fun ls' hl' => (k H locs cells slots ls' C R (lvh_s1 hl.2.2.1 hl') h1 h2 hr hx))
  | some x => exact lv_astore_n C.1 C.2.1 hd rfl (lvh_has hl) hi rfl (fun ls' hl' => (k H locs cells slots ls' C R (lvh_s1 hl.2.2.1 hl') h1 h2 hr hx))
theorem jp_iconst {n : Int} {v : Int32} (hd : decode Y.2.1 pc = .ok (.iconst n, 1)) (hv : Int32.ofInt n = v) (k : Jp Y p l e s m args below meth c0 Q D cy A MC MS d mc ms post (pc + 1) lv (vi v :: st) h) : Jp Y p l e s m args below meth c0 Q D cy A MC MS d mc ms post pc lv (st) h := by
  intro H locs cells slots ls C R hl h1 h2 hr hx
  exact lv_iconst C.1 C.2.1 hd hv (k H locs cells slots ls C R hl h1 h2 hr hx)
theorem jp_bipush {n : Int} {v : Int32} (hd : decode Y.2.1 pc = .ok (.bipush n, 2)) (hv : (Int8.ofInt n).toInt32 = v) (k : Jp Y p l e s m args below meth c0 Q D cy A MC MS d mc ms post (pc + 2) lv (vi v :: st) h) : Jp Y p l e s m args below meth c0 Q D cy A MC MS d mc ms post pc lv (st) h := by
  intro H locs cells slots ls C R hl h1 h2 hr hx
  exact lv_bipush C.1 C.2.1 hd hv (k H locs cells slots ls C R hl h1 h2 hr hx)
theorem jp_iadd {x y : Int32} (hd : decode Y.2.1 pc = .ok (.iadd, 1))  (k : Jp Y p l e s m args below meth c0 Q D cy A MC MS d mc ms post (pc + 1) lv (vi (x + y) :: st) h) : Jp Y p l e s m args below meth c0 Q D cy A MC MS d mc ms post pc lv (vi y :: vi x :: st) h := by
  intro H locs cells slots ls C R hl h1 h2 hr hx
  exact lv_iadd C.1 C.2.1 hd  (k H locs cells slots ls C R hl h1 h2 hr hx)
theorem jp_isub {x y : Int32} (hd : decode Y.2.1 pc = .ok (.isub, 1))  (k : Jp Y p l e s m args below meth c0 Q D cy A MC MS d mc ms post (pc + 1) lv (vi (x - y) :: st) h) : Jp Y p l e s m args below meth c0 Q D cy A MC MS d mc ms post pc lv (vi y :: vi x :: st) h := by
  intro H locs cells slots ls C R hl h1 h2 hr hx
  exact lv_isub C.1 C.2.1 hd  (k H locs cells slots ls C R hl h1 h2 hr hx)
theorem jp_iand {x y : Int32} (hd : decode Y.2.1 pc = .ok (.iand, 1))  (k : Jp Y p l e s m args below meth c0 Q D cy A MC MS d mc ms post (pc + 1) lv (vi (x &&& y) :: st) h) : Jp Y p l e s m args below meth c0 Q D cy A MC MS d mc ms post pc lv (vi y :: vi x :: st) h := by
  intro H locs cells slots ls C R hl h1 h2 hr hx
  exact lv_iand C.1 C.2.1 hd  (k H locs cells slots ls C R hl h1 h2 hr hx)
theorem jp_icmp_eq {x y : Int32} {off : Int} (tgt : Nat) (hd : decode Y.2.1 pc = .ok (.if_icmp .eq off, 3)) (ht : (pc : Int) + off = (tgt : Int)) (kt : x = y → Jp Y p l e s m args below meth c0 Q D cy A MC MS d mc ms post tgt lv st h) (kf : ¬ (x = y) → Jp Y p l e s m args below meth c0 Q D cy A MC MS d mc ms post (pc + 3) lv st h) : Jp Y p l e s m args below meth c0 Q D cy A MC MS d mc ms post pc lv (vi y :: vi x :: st) h := by
  intro H locs cells slots ls C R hl h1 h2 hr hx
  exact lv_icmp_eq C.1 C.2.1 hd ht (fun q => ((kt q) H locs cells slots ls C R hl h1 h2 hr hx)) (fun q => ((kf q) H locs cells slots ls C R hl h1 h2 hr hx))
theorem jp_icmp_ne {x y : Int32} {off : Int} (tgt : Nat) (hd : decode Y.2.1 pc = .ok (.if_icmp .ne off, 3)) (ht : (pc : Int) + off = (tgt : Int)) (kt : x ≠ y → Jp Y p l e s m args below meth c0 Q D cy A MC MS d mc ms post tgt lv st h) (kf : ¬ (x ≠ y) → Jp Y p l e s m args below meth c0 Q D cy A MC MS d mc ms post (pc + 3) lv st h) : Jp Y p l e s m args below meth c0 Q D cy A MC MS d mc ms post pc lv (vi y :: vi x :: st) h := by
  intro H locs cells slots ls C R hl h1 h2 hr hx
  exact lv_icmp_ne C.1 C.2.1 hd ht (fun q => ((kt q) H locs cells slots ls C R hl h1 h2 hr hx)) (fun q => ((kf (fun w => w q)) H locs cells slots ls C R hl h1 h2 hr hx))
theorem jp_icmp_gt {x y : Int32} {off : Int} (tgt : Nat) (hd : decode Y.2.1 pc = .ok (.if_icmp .gt off, 3)) (ht : (pc : Int) + off = (tgt : Int)) (kt : y < x → Jp Y p l e s m args below meth c0 Q D cy A MC MS d mc ms post tgt lv st h) (kf : ¬ (y < x) → Jp Y p l e s m args below meth c0 Q D cy A MC MS d mc ms post (pc + 3) lv st h) : Jp Y p l e s m args below meth c0 Q D cy A MC MS d mc ms post pc lv (vi y :: vi x :: st) h := by
  intro H locs cells slots ls C R hl h1 h2 hr hx
  exact lv_icmp_gt C.1 C.2.1 hd ht (fun q => ((kt q) H locs cells slots ls C R hl h1 h2 hr hx)) (fun q => ((kf q) H locs cells slots ls C R hl h1 h2 hr hx))
theorem jp_if_eq {x : Int32} {off : Int} (tgt : Nat) (hd : decode Y.2.1 pc = .ok (.ifCond .eq off, 3)) (ht : (pc : Int) + off = (tgt : Int)) (kt : x = 0 → Jp Y p l e s m args below meth c0 Q D cy A MC MS d mc ms post tgt lv st h) (kf : ¬ (x = 0) → Jp Y p l e s m args below meth c0 Q D cy A MC MS d mc ms post (pc + 3) lv st h) : Jp Y p l e s m args below meth c0 Q D cy A MC MS d mc ms post pc lv (vi x :: st) h := by
  intro H locs cells slots ls C R hl h1 h2 hr hx
  exact lv_if_eq C.1 C.2.1 hd ht (fun q => ((kt q) H locs cells slots ls C R hl h1 h2 hr hx)) (fun q => ((kf q) H locs cells slots ls C R hl h1 h2 hr hx))
theorem jp_if_ne {x : Int32} {off : Int} (tgt : Nat) (hd : decode Y.2.1 pc = .ok (.ifCond .ne off, 3)) (ht : (pc : Int) + off = (tgt : Int)) (kt : x ≠ 0 → Jp Y p l e s m args below meth c0 Q D cy A MC MS d mc ms post tgt lv st h) (kf : ¬ (x ≠ 0) → Jp Y p l e s m args below meth c0 Q D cy A MC MS d mc ms post (pc + 3) lv st h) : Jp Y p l e s m args below meth c0 Q D cy A MC MS d mc ms post pc lv (vi x :: st) h := by
  intro H locs cells slots ls C R hl h1 h2 hr hx
  exact lv_if_ne C.1 C.2.1 hd ht (fun q => ((kt q) H locs cells slots ls C R hl h1 h2 hr hx)) (fun q => ((kf (fun w => w q)) H locs cells slots ls C R hl h1 h2 hr hx))
theorem jp_goto {off : Int} (tgt : Nat) (hd : decode Y.2.1 pc = .ok (.goto off, 3)) (ht : (pc : Int) + off = (tgt : Int)) (k : Jp Y p l e s m args below meth c0 Q D cy A MC MS d mc ms post tgt lv st h) : Jp Y p l e s m args below meth c0 Q D cy A MC MS d mc ms post pc lv st h := by
  intro H locs cells slots ls C R hl h1 h2 hr hx
  exact lv_goto C.1 C.2.1 hd ht (k H locs cells slots ls C R hl h1 h2 hr hx)
theorem jp_iinc {i : Nat} {n : Int} {x : Int32} (hd : decode Y.2.1 pc = .ok (.iinc i n, 3)) (hv : lv[i]? = some (some (vi x))) (k : Jp Y p l e s m args below meth c0 Q D cy A MC MS d mc ms post (pc + 3) (st1 lv i (vi (x + Int32.ofInt n))) st h) : Jp Y p l e s m args below meth c0 Q D cy A MC MS d mc ms post pc lv st h := by
  intro H locs cells slots ls C R hl h1 h2 hr hx
  have hi : i < Y.2.2.1 := by rw [← hl.2.2.1]; exact (List.getElem?_eq_some_iff.mp hv).1
  obtain ⟨q, hq⟩ := List.getElem?_of_mem ((lpr_mem (cy := cy) lv 0 (i, tv cy (vi x))).mpr ⟨i, vi x, hv, by rw [Nat.zero_add]⟩)
  exact lv_iinc C.1 C.2.1 hd (lvh_has hl) hq rfl hi rfl (fun ls' hl' => (k H locs cells slots ls' C R (lvh_s1 (v := vi (x + Int32.ofInt n)) hl.2.2.1 hl') h1 h2 hr hx))
theorem jp_lcmp {x y : Int64} (hd : decode Y.2.1 pc = .ok (.lcmp, 1))  (k : Jp Y p l e s m args below meth c0 Q D cy A MC MS d mc ms post (pc + 1) lv (vi (lg_cmp x y) :: st) h) : Jp Y p l e s m args below meth c0 Q D cy A MC MS d mc ms post pc lv (vl y :: vl x :: st) h := by
  intro H locs cells slots ls C R hl h1 h2 hr hx
  exact W.lcmp C.1 C.2.1 hd  (k H locs cells slots ls C R hl h1 h2 hr hx)
theorem jp_i2l {x : Int32} (hd : decode Y.2.1 pc = .ok (.i2l, 1))  (k : Jp Y p l e s m args below meth c0 Q D cy A MC MS d mc ms post (pc + 1) lv (vl x.toInt64 :: st) h) : Jp Y p l e s m args below meth c0 Q D cy A MC MS d mc ms post pc lv (vi x :: st) h := by
  intro H locs cells slots ls C R hl h1 h2 hr hx
  exact lv_i2l C.1 C.2.1 hd rfl (k H locs cells slots ls C R hl h1 h2 hr hx)
theorem jp_dup {x : Sv} (hd : decode Y.2.1 pc = .ok (.dup, 1)) (hc : ct x = 1) (k : Jp Y p l e s m args below meth c0 Q D cy A MC MS d mc ms post (pc + 1) lv (x :: x :: st) h) : Jp Y p l e s m args below meth c0 Q D cy A MC MS d mc ms post pc lv (x :: st) h := by
  intro H locs cells slots ls C R hl h1 h2 hr hx
  exact lv_dup C.1 C.2.1 hd (by rw [tv_cat]; exact hc) (k H locs cells slots ls C R hl h1 h2 hr hx)
theorem jp_tabIn {x : Int32} {dflt lo hi off : Int} {offs : Array Int} {len : Nat} (tgt : Nat) (hd : decode Y.2.1 pc = .ok (.tableswitch dflt lo hi offs, len)) (q1 : ¬ x.toInt < lo) (q2 : ¬ hi < x.toInt) (ho : offs[(x.toInt - lo).toNat]? = some off) (ht : (pc : Int) + off = (tgt : Int)) (k : Jp Y p l e s m args below meth c0 Q D cy A MC MS d mc ms post tgt lv st h) : Jp Y p l e s m args below meth c0 Q D cy A MC MS d mc ms post pc lv (vi x :: st) h := by
  intro H locs cells slots ls C R hl h1 h2 hr hx
  exact lv_tableIn C.1 C.2.1 hd q1 q2 ho ht (k H locs cells slots ls C R hl h1 h2 hr hx)
theorem jp_tabOut {x : Int32} {dflt lo hi : Int} {offs : Array Int} {len : Nat} (tgt : Nat) (hd : decode Y.2.1 pc = .ok (.tableswitch dflt lo hi offs, len)) (q1 : x.toInt < lo ∨ hi < x.toInt) (ht : (pc : Int) + dflt = (tgt : Int)) (k : Jp Y p l e s m args below meth c0 Q D cy A MC MS d mc ms post tgt lv st h) : Jp Y p l e s m args below meth c0 Q D cy A MC MS d mc ms post pc lv (vi x :: st) h := by
  intro H locs cells slots ls C R hl h1 h2 hr hx
  exact lv_tableOut C.1 C.2.1 hd q1 ht (k H locs cells slots ls C R hl h1 h2 hr hx)
theorem jp_ret (v : Option Sv) (hd : rtd Y pc v) (hp : post (.inl v) h) : Jp Y p l e s m args below meth c0 Q D cy A MC MS d mc ms post pc lv v.toList h := by
  intro H locs cells slots ls C R hl h1 h2 hr hx
  exact hr v h H locs cells slots ls pc hp R (by omega) (by omega) hd
theorem jp_ireturn {x : Int32} {ty : FieldType} (hd : decode Y.2.1 pc = .ok (.ireturn, 1)) (ht : Y.2.2.2 = some ty) (hn : narrow ty (.int x) = .int x) (hp : post (.inl (some (vi x))) h) : Jp Y p l e s m args below meth c0 Q D cy A MC MS d mc ms post pc lv [vi x] h := jp_ret (some (vi x)) ⟨hd, ty, ht, hn⟩ hp
theorem jp_mono {mc' ms' : Nat} (q1 : mc' ≤ mc) (q2 : ms' ≤ ms) (k : Jp Y p l e s m args below meth c0 Q D cy A MC MS d mc' ms' post pc lv st h) : Jp Y p l e s m args below meth c0 Q D cy A MC MS d mc ms post pc lv st h := by
  intro H locs cells slots ls C R hl h1 h2 hr hx
  exact k H locs cells slots ls C R hl (by omega) (by omega) hr hx
theorem jp_lv {lv' : List (Option Sv)} (hs : lv'.length = lv.length ∧ ∀ (i : Nat) (v : Sv), lv'[i]? = some (some v) → lv[i]? = some (some v)) (k : Jp Y p l e s m args below meth c0 Q D cy A MC MS d mc ms post pc lv' st h) : Jp Y p l e s m args below meth c0 Q D cy A MC MS d mc ms post pc lv st h := by
  intro H locs cells slots ls C R hl h1 h2 hr hx
  exact (k H locs cells slots ls C R (lvh_sub hl hs.1 hs.2) h1 h2 hr hx)
theorem jp_new {ix c : Nat} {Rn : String} {T : u_T} (hd : decode Y.2.1 pc = .ok (.new ix, 3)) (hC : CL c Rn T) (hw1 : Cond.classLink Y.1.cls ix Rn ∈ gtb) (hw2 : Cond.instantiable Rn (fnum c) ∈ gtb) (hw3 : Cond.initialized Rn ∈ gtb) (kk : ∀ q, hK h q = 0 → Jp Y p l e s m args below meth c0 Q D cy A MC MS d mc ms post (pc + 3) lv (vr (some q) :: st) (nw h q (c + 1) 0)) : Jp Y p l e s m args below meth c0 Q D cy A MC MS d (mc + 1) (ms + fnum c) post pc lv st h := by
  intro H locs cells slots ls C R hl h1 h2 hr hx
  obtain ⟨L, hL, hP, hD, hS⟩ := id R
  obtain ⟨q1, q2, q3, q4, q5⟩ := hC
  refine va_new (fs := (List.range (fnum c)).map (fun j => defaultValue (fty c j))) C.1 C.2.1 C.2.2.2.2.1 q2 (fty c) q3 C.2.2.2.1 (C.2.2.2.2.1 _ hw1) (C.2.2.2.2.1 _ hw2) (C.2.2.2.2.1 _ hw3) C.2.2.2.2.2.1 hP hD hS C.2.2.2.2.2.2.1 q1 (fun j hj => by simp [vp_V, List.getD_eq_getElem?_getD, hj]) (show cells + 1 ≤ MC by omega) (show slots + fnum c ≤ MS by omega) hd (fun q H1 hP1 hD1 hS1 => ?_)
  obtain ⟨e1, e2⟩ := Rp_new (n := 0) hL (Nat.succ_ne_zero c) ((ce_o (by rw [hK_nw, if_pos rfl]) q5).trans (by rw [fvs_def q5])) hP1 hD1 hS1
  exact kk q e1 H1 locs (cells + 1) (slots + fnum c) ls C e2 hl (by omega) (by omega) hr hx
theorem jp_newJ {i : Int32} (n : Nat) (hd : decode Y.2.1 pc = .ok (.newarray .long, 2)) (hw : Cond.arrayClass .long ∈ gtb) (hi : i = nI n) (hn : n < 2 ^ 25) (kk : ∀ q, hK h q = 0 → Jp Y p l e s m args below meth c0 Q D cy A MC MS d mc ms post (pc + 2) lv (vr (some q) :: st) (nw h q 16 n)) : Jp Y p l e s m args below meth c0 Q D cy A MC MS d (mc + 1) (ms + n) post pc lv (vi i :: st) h := by
  intro H locs cells slots ls C R hl h1 h2 hr hx
  obtain ⟨L, hL, hP, hD, hS⟩ := id R
  subst hi
  refine va_newa (atype := .long) (a0 := (n, .inr (.inl (fun _ => 0)))) (ty := .long) C.1 C.2.1 (C.2.2.2.2.1 _ hw) rfl C.2.2.2.2.2.1 hP hD hS C.2.2.2.2.2.2.1 (fun _ => rfl) (nI_pos (by omega)) (nI_clamp (by omega)) (show n * 8 ≤ 536870912 by omega) (show cells + 1 ≤ MC by omega) (show slots + n ≤ MS by omega) hd (fun q cA H1 hK1 hP1 hD1 hS1 => ?_)
  have hcA : cA = cy 2 := by
    have e1 := (hK1.2 9 (cA, .long) rfl).2
    have e2 := (hK1.2 2 (cy 2, .long) rfl).2
    exact Option.some.inj (e1.symm.trans e2)
  subst hcA
  obtain ⟨e1, e2⟩ := Rp_new (n := n) (c := 16) hL (by decide) ((ce_l (by rw [hK_nw, if_pos rfl])).trans (by rw [hN_nw, if_pos rfl, show hG (nw h q 16 n) q = (fun _ => 0) by funext j; rw [hG_nw, if_pos rfl]])) hP1 hD1 hS1
  exact kk q e1 H1 locs (cells + 1) (slots + n) ls C e2 hl (by omega) (by omega) hr hx
theorem jp_lald {a : Nat} {i : Int32} (n : Nat) (hd : decode Y.2.1 pc = .ok (.laload, 1)) (hk : hK h a = 16) (hi : i = nI n) (hn : n < hN h a) (hN1 : hN h a < 2 ^ 31) (kk : Jp Y p l e s m args below meth c0 Q D cy A MC MS d mc ms post (pc + 1) lv (vl (hG h a n) :: st) h) : Jp Y p l e s m args below meth c0 Q D cy A MC MS d mc ms post pc lv (vi i :: vr (some a) :: st) h := by
  intro H locs cells slots ls C R hl h1 h2 hr hx
  obtain ⟨L, hL, hP, hD, hS⟩ := id R
  have ha : a ∈ L := (hL a).mpr (by omega)
  obtain ⟨n0, hn0⟩ := pl_get (f := ce cy h) ha
  subst hi
  rw [ce_l hk] at hn0
  refine va_lald C.1 C.2.1 C.2.2.2.2.2.1 hP n0 2 hn0 rfl (vp_in_nI hn hN1) hd ?_
  rw [nI_clamp (by omega)]
  exact (kk H locs cells slots ls C R hl h1 h2 hr hx)
theorem jp_callV {ix c n a : Nat} (hd : decode Y.2.1 pc = .ok (.invokevirtual ix, 3)) (hM : VL Y.1.cls ix c Y1 n) (con : Con Y1 d1 mc1 ms1 (vr (some a) :: as) h post1) (hk : hK h a = c + 1) (hn : as.length = n) (hdd : d1 < d) (hmc : mc1 ≤ mc) (hms : ms1 ≤ ms) (hs : (st.map ct).sum ≤ 8) (kk : ∀ (v : Option Sv) (u : Hp), post1 v u → Jp Y p l e s m args below meth c0 Q D cy A MC MS d (mc - mc1) (ms - ms1) post (pc + 3) lv (rs v st) u) : Jp Y p l e s m args below meth c0 Q D cy A MC MS d mc ms post pc lv (as.reverse ++ vr (some a) :: st) h := by
  intro H locs cells slots ls C R hl h1 h2 hr hx
  obtain ⟨L, hL, hP, hD, hS⟩ := id R
  have hpre : ∀ U : State, U.heap = H → s.WarmedH U.vm → va_Pc ((vr (some a) :: as).map (tv cy)) (Pre D cy L H.size h) ((vr (some a) :: as).map (tv cy)).toArray U := fun U hU hW => ⟨rfl, by rw [hU], by rw [hU]; exact hP, va_K.moved hW.alike C.2.2.2.2.2.1, hD.weaken (fun _ _ _ _ => trivial), Xw_warm hW C.2.2.2.2.2.2.2.1.1, by rw [hU]; exact Sw_pass hS.2.1 (A_sub hD hS C.2.2.2.2.2.2.1) hW C.2.2.2.2.2.2.2.1.2⟩
  have hst : ∀ w : List Sv, ((w.reverse ++ (vr (some a) :: st)).map (tv cy)) = (w.map (tv cy)).reverse ++ ((vr (some a) :: st)).map (tv cy) := fun w => by rw [List.map_append, List.map_reverse]
  have hroom : 2 * (F0 m pc ls []).monitorRoom + ((st.map (tv cy)).map fun v => v.category).sum ≤ 8 := by rw [cat_map]; show 2 * 0 + _ ≤ 8; omega
  obtain ⟨⟨w1, w2, w3, w4, w5⟩, ⟨T, n', hc⟩, hc13, hdsc, hmax⟩ := hM
  obtain ⟨n0, hn0⟩ := pl_get (f := ce cy h) ((hL a).mpr (by omega))
  rw [ce_o hk hc13] at hn0
  have hG : GoodIn gtb (wsV Y.1.cls ix Y1.1.cls Y1.1 (wy Y1)) := gi_gtb (fun w hw => by
    rcases List.mem_append.mp hw with hw | hw
    · simp only [List.mem_cons, List.not_mem_nil, or_false] at hw
      rcases hw with rfl | rfl | rfl | rfl
      · exact w2
      · exact w3
      · exact w4
      · exact w5
    · exact gi_wy w1 w hw)
  rw [hst as]
  exact w_call (va_runV (As := as.map (tv cy)) (rest := st.map (tv cy)) ⟨C.1, C.2.1, C.2.2.1, C.2.2.2.1, C.2.2.2.2.1⟩ (con l D cy L H.size hL) (cwV n C.2.2.2.2.1 hG rfl rfl rfl ⟨rfl, hdsc⟩ ⟨show d1 + 1 ≤ d by omega, show 8 + (Y1.2.2.1 + 11) + 40 * d1 ≤ 40 * d by omega⟩) ⟨pre_blind, va_recv C.2.2.2.2.2.1 hP hc hn0, hpre⟩ rfl (by rw [List.length_map]; exact hn) hl.1 rfl hroom hd ⟨show cells + mc1 ≤ MC by omega, show slots + ms1 ≤ MS by omega⟩) hS (A_sub hD hS C.2.2.2.2.2.2.1) (fun v u H1 locs1 hp hR1 => kk v u hp H1 locs1 (cells + mc1) (slots + ms1) ls C hR1 hl (by omega) (by omega) hr hx)
theorem jp_callI {ix n a : Nat} (hd : decode Y.2.1 pc = .ok (.invokespecial ix, 3)) (hM : IL Y.1.cls ix Y1 n) (con : Con Y1 d1 mc1 ms1 (vr (some a) :: as) h post1) (hn : as.length = n) (hdd : d1 < d) (hmc : mc1 ≤ mc) (hms : ms1 ≤ ms) (hs : (st.map ct).sum ≤ 8) (kk : ∀ (v : Option Sv) (u : Hp), post1 v u → Jp Y p l e s m args below meth c0 Q D cy A MC MS d (mc - mc1) (ms - ms1) post (pc + 3) lv (rs v st) u) : Jp Y p l e s m args below meth c0 Q D cy A MC MS d mc ms post pc lv (as.reverse ++ vr (some a) :: st) h := by
  intro H locs cells slots ls C R hl h1 h2 hr hx
  obtain ⟨L, hL, hP, hD, hS⟩ := id R
  have hpre : ∀ U : State, U.heap = H → s.WarmedH U.vm → va_Pc ((vr (some a) :: as).map (tv cy)) (Pre D cy L H.size h) ((vr (some a) :: as).map (tv cy)).toArray U := fun U hU hW => ⟨rfl, by rw [hU], by rw [hU]; exact hP, va_K.moved hW.alike C.2.2.2.2.2.1, hD.weaken (fun _ _ _ _ => trivial), Xw_warm hW C.2.2.2.2.2.2.2.1.1, by rw [hU]; exact Sw_pass hS.2.1 (A_sub hD hS C.2.2.2.2.2.2.1) hW C.2.2.2.2.2.2.2.1.2⟩
  have hst : ∀ w : List Sv, ((w.reverse ++ (vr (some a) :: st)).map (tv cy)) = (w.map (tv cy)).reverse ++ ((vr (some a) :: st)).map (tv cy) := fun w => by rw [List.map_append, List.map_reverse]
  have hroom : 2 * (F0 m pc ls []).monitorRoom + ((st.map (tv cy)).map fun v => v.category).sum ≤ 8 := by rw [cat_map]; show 2 * 0 + _ ≤ 8; omega
  obtain ⟨⟨w1, w2, w3, w4⟩, hret, hnm, hdsc, hmax⟩ := hM
  rw [hst as]
  exact w_call (va_runI (As := as.map (tv cy)) (rest := st.map (tv cy)) (bytes := Y1.2.1) (maxL := Y1.2.2.1) ⟨C.1, C.2.1, C.2.2.1, C.2.2.2.1, C.2.2.2.2.1⟩ (con l D cy L H.size hL) (cwI n C.2.2.2.2.1 (gi_gtb (gi_wy (by rw [hret]; exact w1))) (by rw [wy, hret]) rfl rfl (C.2.2.2.2.1 _ w4) (C.2.2.2.2.1 _ w2) (C.2.2.2.2.1 _ w3) hnm hdsc ⟨show d1 + 1 ≤ d by omega, show 8 + (Y1.2.2.1 + 11) + 40 * d1 ≤ 40 * d by omega⟩) ⟨pre_blind, hpre⟩ rfl (by rw [List.length_map]; exact hn) hl.1 rfl hroom hd ⟨show cells + mc1 ≤ MC by omega, show slots + ms1 ≤ MS by omega⟩) hS (A_sub hD hS C.2.2.2.2.2.2.1) (fun v u H1 locs1 hp hR1 => kk v u hp H1 locs1 (cells + mc1) (slots + ms1) ls C hR1 hl (by omega) (by omega) hr hx)
theorem jp_callI0 {ix n a : Nat} (hd : decode Y.2.1 pc = .ok (.invokespecial ix, 3)) (hM : IL Y.1.cls ix Y1 n) (con : Con Y1 d1 mc1 ms1 (vr (some a) :: []) h post1) (hn : 0 = n) (hdd : d1 < d) (hmc : mc1 ≤ mc) (hms : ms1 ≤ ms) (hs : (st.map ct).sum ≤ 8) (kk : ∀ (v : Option Sv) (u : Hp), post1 v u → Jp Y p l e s m args below meth c0 Q D cy A MC MS d (mc - mc1) (ms - ms1) post (pc + 3) lv (rs v st) u) : Jp Y p l e s m args below meth c0 Q D cy A MC MS d mc ms post pc lv (vr (some a) :: st) h := jp_callI (as := []) hd hM con hn hdd hmc hms hs kk
theorem jp_callH {ix n : Nat} (hd : decode Y.2.1 pc = .ok (.invokestatic ix, 3)) (hM : HL Y.1.cls ix Y1 n) (con : ConH Y1 d1 mc1 ms1 as h post1) (hn : as.length = n) (hdd : d1 < d) (hmc : mc1 ≤ mc) (hms : ms1 ≤ ms) (hs : (st.map ct).sum ≤ 8) (hlaw : Y.1.cls = RL)
    (kk : ∀ (v : Option Sv) (u : Hp), post1 v u → Jp Y p l e s m args below meth c0 Q D cy A MC MS d (mc - mc1) (ms - ms1) post (pc + 3) lv (rs v st) u) : Jp Y p l e s m args below meth c0 Q D cy A MC MS d mc ms post pc lv (as.reverse ++ st) h := by
  intro H locs cells slots ls C R hl h1 h2 hr hx
  obtain ⟨L, hL, hP, hD, hS⟩ := id R
  obtain ⟨hz, hst0⟩ := C.2.2.2.2.2.2.2.2.2.2 hlaw
  have hpre : ∀ U : State, U.heap = H → s.WarmedH U.vm → va_Pc (as.map (tv cy)) (PreT D cy L H.size h) (as.map (tv cy)).toArray U := fun U hU hW => ⟨rfl, ⟨by rw [hU], by rw [hU]; exact hP, va_K.moved hW.alike C.2.2.2.2.2.1, hD.weaken (fun _ _ _ _ => trivial), Xw_warm hW C.2.2.2.2.2.2.2.1.1, by rw [hU]; exact Sw_pass hS.2.1 (A_sub hD hS C.2.2.2.2.2.2.1) hW C.2.2.2.2.2.2.2.1.2⟩, Zt_pass hD hS C.2.2.2.2.2.2.1 hW hU hz⟩
  have hst : ∀ w : List Sv, ((w.reverse ++ st).map (tv cy)) = (w.map (tv cy)).reverse ++ st.map (tv cy) := fun w => by rw [List.map_append, List.map_reverse]
  have hroom : 2 * (F0 m pc ls []).monitorRoom + ((st.map (tv cy)).map fun v => v.category).sum ≤ 8 := by rw [cat_map]; show 2 * 0 + _ ≤ 8; omega
  obtain ⟨⟨w1, w2, w3, w4⟩, hdsc, hmax⟩ := hM
  have hG : GoodIn gtb (va_wsS Y.1.cls ix Y1.1 (wyH Y1)) := gi_gtb (fun w hw => by
    rcases List.mem_append.mp hw with hw | hw
    · simp only [List.mem_cons, List.not_mem_nil, or_false] at hw
      rcases hw with rfl | rfl | rfl
      · exact w2
      · exact w3
      · exact w4
    · rcases List.mem_cons.mp hw with rfl | hw
      · exact w1
      · exact hw)
  rw [hst as]
  exact w_callX (vx_runSX (As := as.map (tv cy)) (rest := st.map (tv cy)) ⟨C.1, C.2.1, C.2.2.1, C.2.2.2.1, C.2.2.2.2.1⟩ (con l D cy L H.size hst0 hL) (vx_cwSW n C.2.2.2.2.1 hG rfl rfl rfl hdsc ⟨show d1 + 1 ≤ d by omega, show 8 + (Y1.2.2.1 + 11) + 40 * d1 ≤ 40 * d by omega⟩) ⟨preT_blind, hpre⟩ rfl (by rw [List.length_map]; exact hn) hl.1 rfl hroom hd ⟨show cells + mc1 ≤ MC by omega, show slots + ms1 ≤ MS by omega⟩) hS (A_sub hD hS C.2.2.2.2.2.2.1) (fun E u H1 locs1 ce q hp => hp.elim) (fun v u H1 locs1 hp hR1 => kk v u hp H1 locs1 (cells + mc1) (slots + ms1) ls C hR1 hl (by omega) (by omega) hr hx)
theorem jp_callV0 {ix c n a : Nat} (hd : decode Y.2.1 pc = .ok (.invokevirtual ix, 3)) (hM : VL Y.1.cls ix c Y1 n) (con : Con Y1 d1 mc1 ms1 (vr (some a) :: []) h post1) (hk : hK h a = c + 1) (hn : 0 = n) (hdd : d1 < d) (hmc : mc1 ≤ mc) (hms : ms1 ≤ ms) (hs : (st.map ct).sum ≤ 8) (kk : ∀ (v : Option Sv) (u : Hp), post1 v u → Jp Y p l e s m args below meth c0 Q D cy A MC MS d (mc - mc1) (ms - ms1) post (pc + 3) lv (rs v st) u) : Jp Y p l e s m args below meth c0 Q D cy A MC MS d mc ms post pc lv (vr (some a) :: st) h := jp_callV (as := []) hd hM con hk hn hdd hmc hms hs kk
theorem jp_callV1 {ix c n a : Nat} {v1 : Sv} (hd : decode Y.2.1 pc = .ok (.invokevirtual ix, 3)) (hM : VL Y.1.cls ix c Y1 n) (con : Con Y1 d1 mc1 ms1 (vr (some a) :: [v1]) h post1) (hk : hK h a = c + 1) (hn : 1 = n) (hdd : d1 < d) (hmc : mc1 ≤ mc) (hms : ms1 ≤ ms) (hs : (st.map ct).sum ≤ 8) (kk : ∀ (v : Option Sv) (u : Hp), post1 v u → Jp Y p l e s m args below meth c0 Q D cy A MC MS d (mc - mc1) (ms - ms1) post (pc + 3) lv (rs v st) u) : Jp Y p l e s m args below meth c0 Q D cy A MC MS d mc ms post pc lv (v1 :: vr (some a) :: st) h := jp_callV (as := [v1]) hd hM con hk hn hdd hmc hms hs kk
theorem jp_callV2 {ix c n a : Nat} {v1 v2 : Sv} (hd : decode Y.2.1 pc = .ok (.invokevirtual ix, 3)) (hM : VL Y.1.cls ix c Y1 n) (con : Con Y1 d1 mc1 ms1 (vr (some a) :: [v1, v2]) h post1) (hk : hK h a = c + 1) (hn : 2 = n) (hdd : d1 < d) (hmc : mc1 ≤ mc) (hms : ms1 ≤ ms) (hs : (st.map ct).sum ≤ 8) (kk : ∀ (v : Option Sv) (u : Hp), post1 v u → Jp Y p l e s m args below meth c0 Q D cy A MC MS d (mc - mc1) (ms - ms1) post (pc + 3) lv (rs v st) u) : Jp Y p l e s m args below meth c0 Q D cy A MC MS d mc ms post pc lv (v2 :: v1 :: vr (some a) :: st) h := jp_callV (as := [v1, v2]) hd hM con hk hn hdd hmc hms hs kk
theorem jp_callV3 {ix c n a : Nat} {v1 v2 v3 : Sv} (hd : decode Y.2.1 pc = .ok (.invokevirtual ix, 3)) (hM : VL Y.1.cls ix c Y1 n) (con : Con Y1 d1 mc1 ms1 (vr (some a) :: [v1, v2, v3]) h post1) (hk : hK h a = c + 1) (hn : 3 = n) (hdd : d1 < d) (hmc : mc1 ≤ mc) (hms : ms1 ≤ ms) (hs : (st.map ct).sum ≤ 8) (kk : ∀ (v : Option Sv) (u : Hp), post1 v u → Jp Y p l e s m args below meth c0 Q D cy A MC MS d (mc - mc1) (ms - ms1) post (pc + 3) lv (rs v st) u) : Jp Y p l e s m args below meth c0 Q D cy A MC MS d mc ms post pc lv (v3 :: v2 :: v1 :: vr (some a) :: st) h := jp_callV (as := [v1, v2, v3]) hd hM con hk hn hdd hmc hms hs kk
theorem jp_callV4 {ix c n a : Nat} {v1 v2 v3 v4 : Sv} (hd : decode Y.2.1 pc = .ok (.invokevirtual ix, 3)) (hM : VL Y.1.cls ix c Y1 n) (con : Con Y1 d1 mc1 ms1 (vr (some a) :: [v1, v2, v3, v4]) h post1) (hk : hK h a = c + 1) (hn : 4 = n) (hdd : d1 < d) (hmc : mc1 ≤ mc) (hms : ms1 ≤ ms) (hs : (st.map ct).sum ≤ 8) (kk : ∀ (v : Option Sv) (u : Hp), post1 v u → Jp Y p l e s m args below meth c0 Q D cy A MC MS d (mc - mc1) (ms - ms1) post (pc + 3) lv (rs v st) u) : Jp Y p l e s m args below meth c0 Q D cy A MC MS d mc ms post pc lv (v4 :: v3 :: v2 :: v1 :: vr (some a) :: st) h := jp_callV (as := [v1, v2, v3, v4]) hd hM con hk hn hdd hmc hms hs kk
theorem jp_callV5 {ix c n a : Nat} {v1 v2 v3 v4 v5 : Sv} (hd : decode Y.2.1 pc = .ok (.invokevirtual ix, 3)) (hM : VL Y.1.cls ix c Y1 n) (con : Con Y1 d1 mc1 ms1 (vr (some a) :: [v1, v2, v3, v4, v5]) h post1) (hk : hK h a = c + 1) (hn : 5 = n) (hdd : d1 < d) (hmc : mc1 ≤ mc) (hms : ms1 ≤ ms) (hs : (st.map ct).sum ≤ 8) (kk : ∀ (v : Option Sv) (u : Hp), post1 v u → Jp Y p l e s m args below meth c0 Q D cy A MC MS d (mc - mc1) (ms - ms1) post (pc + 3) lv (rs v st) u) : Jp Y p l e s m args below meth c0 Q D cy A MC MS d mc ms post pc lv (v5 :: v4 :: v3 :: v2 :: v1 :: vr (some a) :: st) h := jp_callV (as := [v1, v2, v3, v4, v5]) hd hM con hk hn hdd hmc hms hs kk
theorem jp_callV6 {ix c n a : Nat} {v1 v2 v3 v4 v5 v6 : Sv} (hd : decode Y.2.1 pc = .ok (.invokevirtual ix, 3)) (hM : VL Y.1.cls ix c Y1 n) (con : Con Y1 d1 mc1 ms1 (vr (some a) :: [v1, v2, v3, v4, v5, v6]) h post1) (hk : hK h a = c + 1) (hn : 6 = n) (hdd : d1 < d) (hmc : mc1 ≤ mc) (hms : ms1 ≤ ms) (hs : (st.map ct).sum ≤ 8) (kk : ∀ (v : Option Sv) (u : Hp), post1 v u → Jp Y p l e s m args below meth c0 Q D cy A MC MS d (mc - mc1) (ms - ms1) post (pc + 3) lv (rs v st) u) : Jp Y p l e s m args below meth c0 Q D cy A MC MS d mc ms post pc lv (v6 :: v5 :: v4 :: v3 :: v2 :: v1 :: vr (some a) :: st) h := jp_callV (as := [v1, v2, v3, v4, v5, v6]) hd hM con hk hn hdd hmc hms hs kk
theorem jp_lle {lv' : List (Option Sv)} (hs : lle lv' lv) (k : Jp Y p l e s m args below meth c0 Q D cy A MC MS d mc ms post pc lv' st h) : Jp Y p l e s m args below meth c0 Q D cy A MC MS d mc ms post pc lv st h := jp_lv ⟨(lle_ok lv' lv hs).1, (lle_ok lv' lv hs).2⟩ k
/-- the script's int -/
theorem jp_sld {b L : Nat} {xs : Nat → Int32} {i : Int32} (n : Nat) (hd : decode Y.2.1 pc = .ok (.iaload, 1)) (hX : va_X b L xs s s.heap) (hbl : b < s.heap.size) (hbA : ¬ A b) (hi : i = nI n) (hn : n < L) (hL : L < 2 ^ 31) (kk : Jp Y p l e s m args below meth c0 Q D cy A MC MS d mc ms post (pc + 1) lv (vi (xs n) :: st) h) : Jp Y p l e s m args below meth c0 Q D cy A MC MS d mc ms post pc lv (vi i :: vr (some b) :: st) h := by
  intro H locs cells slots ls C R hl h1 h2 hr hx
  obtain ⟨L', hL', hP, hD, hS⟩ := id R
  subst hi
  refine va_sld C.1 C.2.1 hX hbl hbA hS (vp_in_nI hn hL) hd ?_
  rw [nI_clamp (by omega)]
  exact kk H locs cells slots ls C R hl h1 h2 hr hx
theorem jp_slen {b L : Nat} {xs : Nat → Int32} (hd : decode Y.2.1 pc = .ok (.arraylength, 1)) (hX : va_X b L xs s s.heap) (hbl : b < s.heap.size) (hbA : ¬ A b) (kk : Jp Y p l e s m args below meth c0 Q D cy A MC MS d mc ms post (pc + 1) lv (vi (nI L) :: st) h) : Jp Y p l e s m args below meth c0 Q D cy A MC MS d mc ms post pc lv (vr (some b) :: st) h := by
  intro H locs cells slots ls C R hl h1 h2 hr hx
  obtain ⟨L', hL', hP, hD, hS⟩ := id R
  exact va_slen C.1 C.2.1 hX hbl hbA hS hd (kk H locs cells slots ls C R hl h1 h2 hr hx)
end JP
