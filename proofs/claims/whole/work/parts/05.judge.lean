/-! ===== the judgement of a method's body ===== -/
def rmm (d MC MS : Nat) : Room := { frames := d, cells := MC, slots := MS, locals := 40 * d }
def nestWord : Cond → Bool
  | .methodLinkNest _ _ _ _ => true
  | .fieldLinkNest _ _ _ _ _ _ => true
  | .castable _ _ => true
  | .declares _ => true
  | .arrayOver (.object _) => true
  | _ => false
/-- words that calls keep, though they aren't among the good ones -/
def Xw (U : State) : Prop := ∀ w ∈ tables_1, nestWord w = true → va_Nw w U
theorem Xw_warm {s U : State} (hW : s.WarmedH U.vm) (h : Xw s) : Xw U := fun w hw hn => by
  have h1 := h w hw hn
  cases w with
  | methodLinkNest a b c d => exact va_Nw.warmM hW h1
  | fieldLinkNest a b c d e f => exact va_Nw.warmF hW h1
  | castable a b => exact va_Nw.warmC hW h1
  | declares a => exact va_Nw.warmD hW h1
  | arrayOver t =>
    cases t with
    | object C => exact va_AO.moved hW.alike h1
    | _ => cases hn
  | _ => cases hn
theorem Xw_same {s U : State} (hW : s.vm = U.vm) (h : Xw s) : Xw U := fun w hw hn => by
  have h1 := h w hw hn
  cases w with
  | methodLinkNest a b c d => exact va_Nw.same rfl hW h1
  | fieldLinkNest a b c d e f => exact va_Nw.same rfl hW h1
  | castable a b => exact va_Nw.same rfl hW h1
  | declares a => exact va_Nw.same rfl hW h1
  | arrayOver t =>
    cases t with
    | object C => exact va_AO.moved (by rw [hW]; exact Vm.Alike.refl _) h1
    | _ => cases hn
  | _ => cases hn
theorem Xw_of {s : State} {args : Array Value} (h : ∀ w ∈ tables_1, w.before args s = true) : Xw s := fun w hw hn => by
  have h1 := h w hw
  cases w with
  | methodLinkNest a b c d => exact va_Nw.of rfl h1
  | fieldLinkNest a b c d e f => exact va_Nw.of rfl h1
  | castable a b => exact va_Nw.of rfl h1
  | declares a => exact va_Nw.of rfl h1
  | arrayOver t =>
    cases t with
    | object C => exact va_AO.of h1
    | _ => cases hn
  | _ => cases hn
/-- the tables of handlers -/
def tbl (y : MethodName) : List (Nat × Nat × Nat × Nat) := if y.cls = RL then (match y.name with
  | "enter" => [(0, 10, 13, 13), (0, 10, 17, 15), (0, 10, 21, 17)]
  | "erase" => [(0, 14, 17, 13), (0, 14, 21, 15)]
  | "insert" => [(0, 10, 13, 15), (0, 10, 17, 13), (0, 10, 21, 26)]
  | "remove" => [(0, 10, 13, 15), (0, 10, 17, 13), (0, 10, 21, 26)]
  | "move" => [(0, 12, 15, 15), (0, 12, 19, 13)]
  | "copy" => [(0, 18, 21, 13), (0, 18, 25, 15), (0, 18, 29, 17)]
  | "sort" => [(0, 14, 17, 13), (0, 14, 21, 15)]
  | "undo" => [(0, 8, 11, 47)]
  | "redo" => [(0, 8, 11, 47)]
  | "commit" => [(0, 8, 11, 26), (0, 8, 14, 17)]
  | "branch" => [(0, 9, 12, 13), (0, 9, 15, 26)]
  | "go" => [(0, 9, 12, 13), (0, 9, 15, 47), (0, 9, 18, 26)]
  | "merge" => [(0, 9, 12, 13), (0, 9, 15, 47), (0, 9, 18, 17), (0, 9, 21, 26)]
  | "pick" => [(0, 9, 12, 47), (0, 9, 15, 17), (0, 9, 18, 26)]
  | "choose" => [(0, 10, 13, 13)]
  | "diff" => [(0, 10, 13, 47)]
  | "blame" => [(0, 10, 13, 13)]
  | _ => []) else []
/-- Throwable's own statics, which a throw reads -/
def exs : List String := ["java/lang/IndexOutOfBoundsException", "java/lang/IllegalArgumentException", "java/lang/UnsupportedOperationException", "java/lang/IllegalStateException", "java/util/NoSuchElementException"]
def Zt (A : Nat → Prop) (U : State) (H : Heap) : Prop := vx_Zq Bundle.tN "UNASSIGNED_STACK" Bundle.steD A U H ∧ vx_Zq Bundle.tN "SUPPRESSED_SENTINEL" Bundle.listD A U H ∧ ∀ E ∈ exs, ∀ F ∈ exs, E ≠ F → va_Nc E F U
/-- what stays while a body runs -/
def Cx (Y : MI) (p : Program) (l : Launch) (s : State) (m : MethodId) (args : Array Value) (meth : Method) (c : Code) (D : va_G) (cy : Nat → ClassId) (A : Nat → Prop) : Prop :=
  p.tables.exec = Jvm.exec ∧ c.code = Y.2.1 ∧ c.maxLocals = Y.2.2.1 ∧ s.vm.findClass Y.1.cls = some m.cls ∧ (∀ w ∈ gtb, w.before args s = true) ∧ va_K D vwCl (ty9 cy) s ∧ (∀ q, s.heap.size ≤ q → A q) ∧ (Xw s ∧ Sw cy A s s.heap) ∧ meth.name = Y.1.name ∧ c.exceptionTable.toList = tableOf (tbl Y.1) ∧ (Y.1.cls = RL → Zt A s s.heap ∧ l.stackTraces = false)
/-- a return of this value stands there -/
def rtd (Y : MI) (pc : Nat) : Option Sv → Prop
  | none => decode Y.2.1 pc = .ok (.return_, 1) ∧ Y.2.2.2 = none
  | some (.inl x) => decode Y.2.1 pc = .ok (.ireturn, 1) ∧ ∃ ty, Y.2.2.2 = some ty ∧ narrow ty (.int x) = .int x
  | some (.inr (.inl _)) => decode Y.2.1 pc = .ok (.lreturn, 1) ∧ Y.2.2.2 = some .long
  | some (.inr (.inr (.inl _))) => decode Y.2.1 pc = .ok (.areturn, 1) ∧ ∃ rt, Y.2.2.2 = some rt ∧ ((∃ n, rt = .object n) ∨ ∃ t, rt = .array t)
  | some (.inr (.inr (.inr _))) => decode Y.2.1 pc = .ok (.areturn, 1) ∧ ∃ rt, Y.2.2.2 = some rt ∧ ((∃ n, rt = .object n) ∨ ∃ t, rt = .array t)
/-- the throws of the system: its own name, the numbers of the exception's system and of its constructor, the exception -/
def thl : List (String × Nat × Nat × String) := [("SheetBranches", 117, 119, "java/lang/IndexOutOfBoundsException"), ("SheetBranches", 127, 129, "java/lang/IllegalArgumentException"), ("SheetBranches", 138, 140, "java/lang/UnsupportedOperationException"), ("SheetBranches", 167, 169, "java/lang/IllegalStateException"), ("SheetBranches", 223, 225, "java/util/NoSuchElementException")]
/-- a throw of a new E stands there -/
def thd (Y : MI) (pc : Nat) (E : String) : Prop := ∃ ik ic : Nat, (Y.1.cls, ik, ic, E) ∈ thl ∧ decode Y.2.1 pc = .ok (.new ik, 3) ∧ decode Y.2.1 (pc + 3) = .ok (.dup, 1) ∧ decode Y.2.1 (pc + 4) = .ok (.invokespecial ic, 3) ∧ decode Y.2.1 (pc + 7) = .ok (.athrow, 1)
/-- from here, with these locals, this stack and this heap, with room for mc cells of ms slots and d frames more, the body comes to its end as post says -/
def J (Y : MI) (d mc ms : Nat) (post : Option Sv ⊕ String → Hp → Prop) (pc : Nat) (lv : List (Option Sv)) (st : List Sv) (h : Hp) : Prop :=
  ∀ (p : Program) (l : Launch) (e : Env) (s : State) (m : MethodId) (args : Array Value) (below : List Frame) (meth : Method) (c : Code) (H : Heap) (locs : List Loc) (cells slots : Nat) (ls : Array Slot) (Q : State → Prop) (D : va_G) (cy : Nat → ClassId) (A : Nat → Prop) (MC MS : Nat),
    Cx Y p l s m args meth c D cy A → Rp D cy A s.heap H locs h → lvh cy ls Y.2.2.1 lv → cells + mc ≤ MC → slots + ms ≤ MS →
    (∀ (v : Option Sv) (u : Hp) (H1 : Heap) (locs1 : List Loc) (c1 s1 : Nat) (ls1 : Array Slot) (pc1 : Nat), post (.inl v) u → Rp D cy A s.heap H1 locs1 u → c1 ≤ MC → s1 ≤ MS → rtd Y pc1 v → W p l e (rmm d MC MS) s m args below meth c H1 locs1 c1 s1 Q (F0 m pc1 ls1 (v.toList.map (tv cy)))) →
    (∀ (E : String) (u : Hp) (H1 : Heap) (locs1 : List Loc) (c1 s1 : Nat) (ls1 : Array Slot) (pc1 : Nat) (st1 : List Sv), post (.inr E) u → Rp D cy A s.heap H1 locs1 u → ls1.size = Y.2.2.1 → c1 + 1 ≤ MC → s1 + 6 ≤ MS → thd Y pc1 E → (st1.map ct).sum ≤ 8 → W p l e (rmm d MC MS) s m args below meth c H1 locs1 c1 s1 Q (F0 m pc1 ls1 (st1.map (tv cy)))) →
    W p l e (rmm d MC MS) s m args below meth c H locs cells slots Q (F0 m pc ls (st.map (tv cy)))
section JJ
variable {Y : MI} {d mc ms : Nat} {post : Option Sv ⊕ String → Hp → Prop} {pc : Nat} {lv : List (Option Sv)} {st : List Sv} {h : Hp}
theorem j_iadd {x y : Int32} (hd : decode Y.2.1 pc = .ok (.iadd, 1))  (k : J Y d mc ms post (pc + 1) lv (vi (x + y) :: st) h) : J Y d mc ms post pc lv (vi y :: vi x :: st) h := by
  intro p l e s m args below meth c H locs cells slots ls Q D cy A MC MS C R hl h1 h2 hr hx
  exact lv_iadd C.1 C.2.1 hd  (k p l e s m args below meth c H locs cells slots ls Q D cy A MC MS C R hl h1 h2 hr hx)
theorem j_isub {x y : Int32} (hd : decode Y.2.1 pc = .ok (.isub, 1))  (k : J Y d mc ms post (pc + 1) lv (vi (x - y) :: st) h) : J Y d mc ms post pc lv (vi y :: vi x :: st) h := by
  intro p l e s m args below meth c H locs cells slots ls Q D cy A MC MS C R hl h1 h2 hr hx
  exact lv_isub C.1 C.2.1 hd  (k p l e s m args below meth c H locs cells slots ls Q D cy A MC MS C R hl h1 h2 hr hx)
theorem j_imul {x y : Int32} (hd : decode Y.2.1 pc = .ok (.imul, 1))  (k : J Y d mc ms post (pc + 1) lv (vi (x * y) :: st) h) : J Y d mc ms post pc lv (vi y :: vi x :: st) h := by
  intro p l e s m args below meth c H locs cells slots ls Q D cy A MC MS C R hl h1 h2 hr hx
  exact lv_imul C.1 C.2.1 hd  (k p l e s m args below meth c H locs cells slots ls Q D cy A MC MS C R hl h1 h2 hr hx)
theorem j_iand {x y : Int32} (hd : decode Y.2.1 pc = .ok (.iand, 1))  (k : J Y d mc ms post (pc + 1) lv (vi (x &&& y) :: st) h) : J Y d mc ms post pc lv (vi y :: vi x :: st) h := by
  intro p l e s m args below meth c H locs cells slots ls Q D cy A MC MS C R hl h1 h2 hr hx
  exact lv_iand C.1 C.2.1 hd  (k p l e s m args below meth c H locs cells slots ls Q D cy A MC MS C R hl h1 h2 hr hx)
theorem j_ior {x y : Int32} (hd : decode Y.2.1 pc = .ok (.ior, 1))  (k : J Y d mc ms post (pc + 1) lv (vi (x ||| y) :: st) h) : J Y d mc ms post pc lv (vi y :: vi x :: st) h := by
  intro p l e s m args below meth c H locs cells slots ls Q D cy A MC MS C R hl h1 h2 hr hx
  exact lv_ior C.1 C.2.1 hd  (k p l e s m args below meth c H locs cells slots ls Q D cy A MC MS C R hl h1 h2 hr hx)
theorem j_ixor {x y : Int32} (hd : decode Y.2.1 pc = .ok (.ixor, 1))  (k : J Y d mc ms post (pc + 1) lv (vi (x ^^^ y) :: st) h) : J Y d mc ms post pc lv (vi y :: vi x :: st) h := by
  intro p l e s m args below meth c H locs cells slots ls Q D cy A MC MS C R hl h1 h2 hr hx
  exact lv_ixor C.1 C.2.1 hd  (k p l e s m args below meth c H locs cells slots ls Q D cy A MC MS C R hl h1 h2 hr hx)
theorem j_ladd {x y : Int64} (hd : decode Y.2.1 pc = .ok (.ladd, 1))  (k : J Y d mc ms post (pc + 1) lv (vl (x + y) :: st) h) : J Y d mc ms post pc lv (vl y :: vl x :: st) h := by
  intro p l e s m args below meth c H locs cells slots ls Q D cy A MC MS C R hl h1 h2 hr hx
  exact lv_ladd C.1 C.2.1 hd  (k p l e s m args below meth c H locs cells slots ls Q D cy A MC MS C R hl h1 h2 hr hx)
theorem j_lsub {x y : Int64} (hd : decode Y.2.1 pc = .ok (.lsub, 1))  (k : J Y d mc ms post (pc + 1) lv (vl (x - y) :: st) h) : J Y d mc ms post pc lv (vl y :: vl x :: st) h := by
  intro p l e s m args below meth c H locs cells slots ls Q D cy A MC MS C R hl h1 h2 hr hx
  exact lv_lsub C.1 C.2.1 hd  (k p l e s m args below meth c H locs cells slots ls Q D cy A MC MS C R hl h1 h2 hr hx)
theorem j_lmul {x y : Int64} (hd : decode Y.2.1 pc = .ok (.lmul, 1))  (k : J Y d mc ms post (pc + 1) lv (vl (x * y) :: st) h) : J Y d mc ms post pc lv (vl y :: vl x :: st) h := by
  intro p l e s m args below meth c H locs cells slots ls Q D cy A MC MS C R hl h1 h2 hr hx
  exact lv_lmul C.1 C.2.1 hd  (k p l e s m args below meth c H locs cells slots ls Q D cy A MC MS C R hl h1 h2 hr hx)
theorem j_land {x y : Int64} (hd : decode Y.2.1 pc = .ok (.land, 1))  (k : J Y d mc ms post (pc + 1) lv (vl (x &&& y) :: st) h) : J Y d mc ms post pc lv (vl y :: vl x :: st) h := by
  intro p l e s m args below meth c H locs cells slots ls Q D cy A MC MS C R hl h1 h2 hr hx
  exact lv_land C.1 C.2.1 hd  (k p l e s m args below meth c H locs cells slots ls Q D cy A MC MS C R hl h1 h2 hr hx)
theorem j_lor {x y : Int64} (hd : decode Y.2.1 pc = .ok (.lor, 1))  (k : J Y d mc ms post (pc + 1) lv (vl (x ||| y) :: st) h) : J Y d mc ms post pc lv (vl y :: vl x :: st) h := by
  intro p l e s m args below meth c H locs cells slots ls Q D cy A MC MS C R hl h1 h2 hr hx
  exact lv_lor C.1 C.2.1 hd  (k p l e s m args below meth c H locs cells slots ls Q D cy A MC MS C R hl h1 h2 hr hx)
theorem j_lxor {x y : Int64} (hd : decode Y.2.1 pc = .ok (.lxor, 1))  (k : J Y d mc ms post (pc + 1) lv (vl (x ^^^ y) :: st) h) : J Y d mc ms post pc lv (vl y :: vl x :: st) h := by
  intro p l e s m args below meth c H locs cells slots ls Q D cy A MC MS C R hl h1 h2 hr hx
  exact lv_lxor C.1 C.2.1 hd  (k p l e s m args below meth c H locs cells slots ls Q D cy A MC MS C R hl h1 h2 hr hx)
theorem j_idiv {x y : Int32} (hd : decode Y.2.1 pc = .ok (.idiv, 1)) (hne : ¬ y = 0) (k : J Y d mc ms post (pc + 1) lv (vi (x / y) :: st) h) : J Y d mc ms post pc lv (vi y :: vi x :: st) h := by
  intro p l e s m args below meth c H locs cells slots ls Q D cy A MC MS C R hl h1 h2 hr hx
  exact lv_idiv C.1 C.2.1 hd hne (k p l e s m args below meth c H locs cells slots ls Q D cy A MC MS C R hl h1 h2 hr hx)
theorem j_irem {x y : Int32} (hd : decode Y.2.1 pc = .ok (.irem, 1)) (hne : ¬ y = 0) (k : J Y d mc ms post (pc + 1) lv (vi (x - x / y * y) :: st) h) : J Y d mc ms post pc lv (vi y :: vi x :: st) h := by
  intro p l e s m args below meth c H locs cells slots ls Q D cy A MC MS C R hl h1 h2 hr hx
  exact lv_irem C.1 C.2.1 hd hne (k p l e s m args below meth c H locs cells slots ls Q D cy A MC MS C R hl h1 h2 hr hx)
theorem j_ldiv {x y : Int64} (hd : decode Y.2.1 pc = .ok (.ldiv, 1)) (hne : ¬ y = 0) (k : J Y d mc ms post (pc + 1) lv (vl (x / y) :: st) h) : J Y d mc ms post pc lv (vl y :: vl x :: st) h := by
  intro p l e s m args below meth c H locs cells slots ls Q D cy A MC MS C R hl h1 h2 hr hx
  exact lv_ldiv C.1 C.2.1 hd hne (k p l e s m args below meth c H locs cells slots ls Q D cy A MC MS C R hl h1 h2 hr hx)
theorem j_lrem {x y : Int64} (hd : decode Y.2.1 pc = .ok (.lrem, 1)) (hne : ¬ y = 0) (k : J Y d mc ms post (pc + 1) lv (vl (x - x / y * y) :: st) h) : J Y d mc ms post pc lv (vl y :: vl x :: st) h := by
  intro p l e s m args below meth c H locs cells slots ls Q D cy A MC MS C R hl h1 h2 hr hx
  exact lv_lrem C.1 C.2.1 hd hne (k p l e s m args below meth c H locs cells slots ls Q D cy A MC MS C R hl h1 h2 hr hx)
theorem j_ineg {x : Int32} (hd : decode Y.2.1 pc = .ok (.ineg, 1))  (k : J Y d mc ms post (pc + 1) lv (vi (-x) :: st) h) : J Y d mc ms post pc lv (vi x :: st) h := by
  intro p l e s m args below meth c H locs cells slots ls Q D cy A MC MS C R hl h1 h2 hr hx
  exact lv_ineg C.1 C.2.1 hd  (k p l e s m args below meth c H locs cells slots ls Q D cy A MC MS C R hl h1 h2 hr hx)
theorem j_lneg {x : Int64} (hd : decode Y.2.1 pc = .ok (.lneg, 1))  (k : J Y d mc ms post (pc + 1) lv (vl (-x) :: st) h) : J Y d mc ms post pc lv (vl x :: st) h := by
  intro p l e s m args below meth c H locs cells slots ls Q D cy A MC MS C R hl h1 h2 hr hx
  exact lv_lneg C.1 C.2.1 hd  (k p l e s m args below meth c H locs cells slots ls Q D cy A MC MS C R hl h1 h2 hr hx)
theorem j_ishl {x y : Int32} (hd : decode Y.2.1 pc = .ok (.ishl, 1))  (k : J Y d mc ms post (pc + 1) lv (vi (x <<< (y &&& 31)) :: st) h) : J Y d mc ms post pc lv (vi y :: vi x :: st) h := by
  intro p l e s m args below meth c H locs cells slots ls Q D cy A MC MS C R hl h1 h2 hr hx
  exact lv_ishl C.1 C.2.1 hd  (k p l e s m args below meth c H locs cells slots ls Q D cy A MC MS C R hl h1 h2 hr hx)
theorem j_ishr {x y : Int32} (hd : decode Y.2.1 pc = .ok (.ishr, 1))  (k : J Y d mc ms post (pc + 1) lv (vi (x >>> (y &&& 31)) :: st) h) : J Y d mc ms post pc lv (vi y :: vi x :: st) h := by
  intro p l e s m args below meth c H locs cells slots ls Q D cy A MC MS C R hl h1 h2 hr hx
  exact lv_ishr C.1 C.2.1 hd  (k p l e s m args below meth c H locs cells slots ls Q D cy A MC MS C R hl h1 h2 hr hx)
theorem j_lshl {x : Int64} {y : Int32} (hd : decode Y.2.1 pc = .ok (.lshl, 1))  (k : J Y d mc ms post (pc + 1) lv (vl (x <<< (y.toInt64 &&& 63)) :: st) h) : J Y d mc ms post pc lv (vi y :: vl x :: st) h := by
  intro p l e s m args below meth c H locs cells slots ls Q D cy A MC MS C R hl h1 h2 hr hx
  exact lv_lshl C.1 C.2.1 hd rfl (k p l e s m args below meth c H locs cells slots ls Q D cy A MC MS C R hl h1 h2 hr hx)
theorem j_lshr {x : Int64} {y : Int32} (hd : decode Y.2.1 pc = .ok (.lshr, 1))  (k : J Y d mc ms post (pc + 1) lv (vl (x >>> (y.toInt64 &&& 63)) :: st) h) : J Y d mc ms post pc lv (vi y :: vl x :: st) h := by
  intro p l e s m args below meth c H locs cells slots ls Q D cy A MC MS C R hl h1 h2 hr hx
  exact lv_lshr C.1 C.2.1 hd rfl (k p l e s m args below meth c H locs cells slots ls Q D cy A MC MS C R hl h1 h2 hr hx)
theorem j_i2l {x : Int32} (hd : decode Y.2.1 pc = .ok (.i2l, 1))  (k : J Y d mc ms post (pc + 1) lv (vl x.toInt64 :: st) h) : J Y d mc ms post pc lv (vi x :: st) h := by
  intro p l e s m args below meth c H locs cells slots ls Q D cy A MC MS C R hl h1 h2 hr hx
  exact lv_i2l C.1 C.2.1 hd rfl (k p l e s m args below meth c H locs cells slots ls Q D cy A MC MS C R hl h1 h2 hr hx)
theorem j_l2i {x : Int64} (hd : decode Y.2.1 pc = .ok (.l2i, 1))  (k : J Y d mc ms post (pc + 1) lv (vi x.toInt32 :: st) h) : J Y d mc ms post pc lv (vl x :: st) h := by
  intro p l e s m args below meth c H locs cells slots ls Q D cy A MC MS C R hl h1 h2 hr hx
  exact lv_l2i C.1 C.2.1 hd rfl (k p l e s m args below meth c H locs cells slots ls Q D cy A MC MS C R hl h1 h2 hr hx)
theorem j_i2b {x : Int32} (hd : decode Y.2.1 pc = .ok (.i2b, 1))  (k : J Y d mc ms post (pc + 1) lv (vi x.toInt8.toInt32 :: st) h) : J Y d mc ms post pc lv (vi x :: st) h := by
  intro p l e s m args below meth c H locs cells slots ls Q D cy A MC MS C R hl h1 h2 hr hx
  exact lv_i2b C.1 C.2.1 hd rfl (k p l e s m args below meth c H locs cells slots ls Q D cy A MC MS C R hl h1 h2 hr hx)
theorem j_lcmp {x y : Int64} (hd : decode Y.2.1 pc = .ok (.lcmp, 1))  (k : J Y d mc ms post (pc + 1) lv (vi (lg_cmp x y) :: st) h) : J Y d mc ms post pc lv (vl y :: vl x :: st) h := by
  intro p l e s m args below meth c H locs cells slots ls Q D cy A MC MS C R hl h1 h2 hr hx
  exact W.lcmp C.1 C.2.1 hd  (k p l e s m args below meth c H locs cells slots ls Q D cy A MC MS C R hl h1 h2 hr hx)
theorem j_iconst {n : Int} {v : Int32} (hd : decode Y.2.1 pc = .ok (.iconst n, 1)) (hv : Int32.ofInt n = v) (k : J Y d mc ms post (pc + 1) lv (vi v :: st) h) : J Y d mc ms post pc lv (st) h := by
  intro p l e s m args below meth c H locs cells slots ls Q D cy A MC MS C R hl h1 h2 hr hx
  exact lv_iconst C.1 C.2.1 hd hv (k p l e s m args below meth c H locs cells slots ls Q D cy A MC MS C R hl h1 h2 hr hx)
theorem j_bipush {n : Int} {v : Int32} (hd : decode Y.2.1 pc = .ok (.bipush n, 2)) (hv : (Int8.ofInt n).toInt32 = v) (k : J Y d mc ms post (pc + 2) lv (vi v :: st) h) : J Y d mc ms post pc lv (st) h := by
  intro p l e s m args below meth c H locs cells slots ls Q D cy A MC MS C R hl h1 h2 hr hx
  exact lv_bipush C.1 C.2.1 hd hv (k p l e s m args below meth c H locs cells slots ls Q D cy A MC MS C R hl h1 h2 hr hx)
theorem j_sipush {n : Int} {v : Int32} (hd : decode Y.2.1 pc = .ok (.sipush n, 3)) (hv : (Int16.ofInt n).toInt32 = v) (k : J Y d mc ms post (pc + 3) lv (vi v :: st) h) : J Y d mc ms post pc lv (st) h := by
  intro p l e s m args below meth c H locs cells slots ls Q D cy A MC MS C R hl h1 h2 hr hx
  exact lv_sipush C.1 C.2.1 hd hv (k p l e s m args below meth c H locs cells slots ls Q D cy A MC MS C R hl h1 h2 hr hx)
theorem j_lconst {n : Fin 2} {v : Int64} (hd : decode Y.2.1 pc = .ok (.lconst n, 1)) (hv : Int64.ofNat (n : Nat) = v) (k : J Y d mc ms post (pc + 1) lv (vl v :: st) h) : J Y d mc ms post pc lv (st) h := by
  intro p l e s m args below meth c H locs cells slots ls Q D cy A MC MS C R hl h1 h2 hr hx
  exact lv_lconst C.1 C.2.1 hd hv (k p l e s m args below meth c H locs cells slots ls Q D cy A MC MS C R hl h1 h2 hr hx)
theorem j_ldc2 {n : Nat} {v : Int64} (hd : decode Y.2.1 pc = .ok (.ldc2_w n, 3)) (hw : Cond.constantLong Y.1.cls n v ∈ gtb) (k : J Y d mc ms post (pc + 3) lv (vl v :: st) h) : J Y d mc ms post pc lv st h := by
  intro p l e s m args below meth c H locs cells slots ls Q D cy A MC MS C R hl h1 h2 hr hx
  exact lv_ldc2 C.1 C.2.1 C.2.2.2.1 (C.2.2.2.2.1 _ hw) hd (k p l e s m args below meth c H locs cells slots ls Q D cy A MC MS C R hl h1 h2 hr hx)
theorem j_ldc {n : Nat} {v : Int32} (hd : decode Y.2.1 pc = .ok (.ldc n, 2)) (hw : Cond.constant Y.1.cls n v ∈ gtb) (k : J Y d mc ms post (pc + 2) lv (vi v :: st) h) : J Y d mc ms post pc lv st h := by
  intro p l e s m args below meth c H locs cells slots ls Q D cy A MC MS C R hl h1 h2 hr hx
  exact lv_ldc C.1 C.2.1 C.2.2.2.1 (C.2.2.2.2.1 _ hw) hd (k p l e s m args below meth c H locs cells slots ls Q D cy A MC MS C R hl h1 h2 hr hx)
theorem j_ldcw {n : Nat} {v : Int32} (hd : decode Y.2.1 pc = .ok (.ldc_w n, 3)) (hw : Cond.constant Y.1.cls n v ∈ gtb) (k : J Y d mc ms post (pc + 3) lv (vi v :: st) h) : J Y d mc ms post pc lv st h := by
  intro p l e s m args below meth c H locs cells slots ls Q D cy A MC MS C R hl h1 h2 hr hx
  exact lv_ldcw C.1 C.2.1 C.2.2.2.1 (C.2.2.2.2.1 _ hw) hd (k p l e s m args below meth c H locs cells slots ls Q D cy A MC MS C R hl h1 h2 hr hx)
theorem j_null (hd : decode Y.2.1 pc = .ok (.aconst_null, 1)) (k : J Y d mc ms post (pc + 1) lv (vr none :: st) h) : J Y d mc ms post pc lv st h := by
  intro p l e s m args below meth c H locs cells slots ls Q D cy A MC MS C R hl h1 h2 hr hx
  exact lv_null C.1 C.2.1 hd (k p l e s m args below meth c H locs cells slots ls Q D cy A MC MS C R hl h1 h2 hr hx)
theorem j_iload_n {k0 : Fin 4} {x : Int32} (hd : decode Y.2.1 pc = .ok (.iload_n k0, 1)) (hv : lv[(k0 : Nat)]? = some (some (vi x))) (k : J Y d mc ms post (pc + 1) lv (vi x :: st) h) : J Y d mc ms post pc lv st h := by
  intro p l e s m args below meth c H locs cells slots ls Q D cy A MC MS C R hl h1 h2 hr hx
  exact lv_iload_n C.1 C.2.1 hd rfl (hl.2.2.2 _ _ hv) (k p l e s m args below meth c H locs cells slots ls Q D cy A MC MS C R hl h1 h2 hr hx)
theorem j_iload {i : Nat} {x : Int32} (hd : decode Y.2.1 pc = .ok (.iload i, 2)) (hv : lv[i]? = some (some (vi x))) (k : J Y d mc ms post (pc + 2) lv (vi x :: st) h) : J Y d mc ms post pc lv st h := by
  intro p l e s m args below meth c H locs cells slots ls Q D cy A MC MS C R hl h1 h2 hr hx
  exact lv_iload C.1 C.2.1 hd (hl.2.2.2 _ _ hv) (k p l e s m args below meth c H locs cells slots ls Q D cy A MC MS C R hl h1 h2 hr hx)
theorem j_lload_n {k0 : Fin 4} {x : Int64} (hd : decode Y.2.1 pc = .ok (.lload_n k0, 1)) (hv : lv[(k0 : Nat)]? = some (some (vl x))) (k : J Y d mc ms post (pc + 1) lv (vl x :: st) h) : J Y d mc ms post pc lv st h := by
  intro p l e s m args below meth c H locs cells slots ls Q D cy A MC MS C R hl h1 h2 hr hx
  exact lv_lload_n C.1 C.2.1 hd rfl (hl.2.2.2 _ _ hv) (k p l e s m args below meth c H locs cells slots ls Q D cy A MC MS C R hl h1 h2 hr hx)
theorem j_lload {i : Nat} {x : Int64} (hd : decode Y.2.1 pc = .ok (.lload i, 2)) (hv : lv[i]? = some (some (vl x))) (k : J Y d mc ms post (pc + 2) lv (vl x :: st) h) : J Y d mc ms post pc lv st h := by
  intro p l e s m args below meth c H locs cells slots ls Q D cy A MC MS C R hl h1 h2 hr hx
  exact lv_lload C.1 C.2.1 hd (hl.2.2.2 _ _ hv) (k p l e s m args below meth c H locs cells slots ls Q D cy A MC MS C R hl h1 h2 hr hx)
theorem j_aload_n {k0 : Fin 4} {r : Option Nat} (hd : decode Y.2.1 pc = .ok (.aload_n k0, 1)) (hv : lv[(k0 : Nat)]? = some (some (vr r))) (k : J Y d mc ms post (pc + 1) lv (vr r :: st) h) : J Y d mc ms post pc lv st h := by
  intro p l e s m args below meth c H locs cells slots ls Q D cy A MC MS C R hl h1 h2 hr hx
  have h9 := hl.2.2.2 _ _ hv
  have k9 := (k p l e s m args below meth c H locs cells slots ls Q D cy A MC MS C R hl h1 h2 hr hx)
  cases r with
  | none => exact lv_aload_nN C.1 C.2.1 hd rfl h9 k9
  | some x => exact lv_aload_n C.1 C.2.1 hd rfl h9 k9
theorem j_aload {i : Nat} {r : Option Nat} (hd : decode Y.2.1 pc = .ok (.aload i, 2)) (hv : lv[i]? = some (some (vr r))) (k : J Y d mc ms post (pc + 2) lv (vr r :: st) h) : J Y d mc ms post pc lv st h := by
  intro p l e s m args below meth c H locs cells slots ls Q D cy A MC MS C R hl h1 h2 hr hx
  have h9 := hl.2.2.2 _ _ hv
  have k9 := (k p l e s m args below meth c H locs cells slots ls Q D cy A MC MS C R hl h1 h2 hr hx)
  cases r with
  | none => exact lv_aloadN C.1 C.2.1 hd h9 k9
  | some x => exact lv_aload C.1 C.2.1 hd h9 k9
theorem j_istore_n {k0 : Fin 4} {x : Int32} (hd : decode Y.2.1 pc = .ok (.istore_n k0, 1)) (hi : (k0 : Nat) < Y.2.2.1) (k : J Y d mc ms post (pc + 1) (st1 lv (k0 : Nat) (vi x)) st h) : J Y d mc ms post pc lv (vi x :: st) h := by
  intro p l e s m args below meth c H locs cells slots ls Q D cy A MC MS C R hl h1 h2 hr hx
  exact lv_istore_n C.1 C.2.1 hd rfl (lvh_has hl) hi rfl (fun ls' hl' => (k p l e s m args below meth c H locs cells slots ls' Q D cy A MC MS C R (lvh_s1 hl.2.2.1 hl') h1 h2 hr hx))
theorem j_istore {i : Nat} {x : Int32} (hd : decode Y.2.1 pc = .ok (.istore i, 2)) (hi : i < Y.2.2.1) (k : J Y d mc ms post (pc + 2) (st1 lv i (vi x)) st h) : J Y d mc ms post pc lv (vi x :: st) h := by
  intro p l e s m args below meth c H locs cells slots ls Q D cy A MC MS C R hl h1 h2 hr hx
  exact lv_istore C.1 C.2.1 hd (lvh_has hl) hi rfl (fun ls' hl' => (k p l e s m args below meth c H locs cells slots ls' Q D cy A MC MS C R (lvh_s1 hl.2.2.1 hl') h1 h2 hr hx))
theorem j_lstore_n {k0 : Fin 4} {x : Int64} (hd : decode Y.2.1 pc = .ok (.lstore_n k0, 1)) (hi : (k0 : Nat) + 1 < Y.2.2.1) (k : J Y d mc ms post (pc + 1) (st2 lv (k0 : Nat) (vl x)) st h) : J Y d mc ms post pc lv (vl x :: st) h := by
  intro p l e s m args below meth c H locs cells slots ls Q D cy A MC MS C R hl h1 h2 hr hx
  exact lv_lstore_n C.1 C.2.1 hd rfl (lvh_has hl) hi rfl (fun ls' hl' => (k p l e s m args below meth c H locs cells slots ls' Q D cy A MC MS C R (lvh_s2 hl.2.2.1 hl') h1 h2 hr hx))
theorem j_lstore {i : Nat} {x : Int64} (hd : decode Y.2.1 pc = .ok (.lstore i, 2)) (hi : i + 1 < Y.2.2.1) (k : J Y d mc ms post (pc + 2) (st2 lv i (vl x)) st h) : J Y d mc ms post pc lv (vl x :: st) h := by
  intro p l e s m args below meth c H locs cells slots ls Q D cy A MC MS C R hl h1 h2 hr hx
  exact lv_lstore C.1 C.2.1 hd (lvh_has hl) hi rfl (fun ls' hl' => (k p l e s m args below meth c H locs cells slots ls' Q D cy A MC MS C R (lvh_s2 hl.2.2.1 hl') h1 h2 hr hx))
theorem j_astore_n {k0 : Fin 4} {r : Option Nat} (hd : decode Y.2.1 pc = .ok (.astore_n k0, 1)) (hi : (k0 : Nat) < Y.2.2.1) (k : J Y d mc ms post (pc + 1) (st1 lv (k0 : Nat) (vr r)) st h) : J Y d mc ms post pc lv (vr r :: st) h := by
  intro p l e s m args below meth c H locs cells slots ls Q D cy A MC MS C R hl h1 h2 hr hx
  cases r with
  | none => exact lv_astore_nN C.1 C.2.1 hd rfl (lvh_has hl) hi rfl (fun ls' hl' => (k p l e s m args below meth c H locs cells slots ls' Q D cy A MC MS C R (lvh_s1 hl.2.2.1 hl') h1 h2 hr hx))
  | some x => exact lv_astore_n C.1 C.2.1 hd rfl (lvh_has hl) hi rfl (fun ls' hl' => (k p l e s m args below meth c H locs cells slots ls' Q D cy A MC MS C R (lvh_s1 hl.2.2.1 hl') h1 h2 hr hx))
theorem j_astore {i : Nat} {r : Option Nat} (hd : decode Y.2.1 pc = .ok (.astore i, 2)) (hi : i < Y.2.2.1) (k : J Y d mc ms post (pc + 2) (st1 lv i (vr r)) st h) : J Y d mc ms post pc lv (vr r :: st) h := by
  intro p l e s m args below meth c H locs cells slots ls Q D cy A MC MS C R hl h1 h2 hr hx
  cases r with
  | none => exact lv_astoreN C.1 C.2.1 hd (lvh_has hl) hi rfl (fun ls' hl' => (k p l e s m args below meth c H locs cells slots ls' Q D cy A MC MS C R (lvh_s1 hl.2.2.1 hl') h1 h2 hr hx))
  | some x => exact lv_astore C.1 C.2.1 hd (lvh_has hl) hi rfl (fun ls' hl' => (k p l e s m args below meth c H locs cells slots ls' Q D cy A MC MS C R (lvh_s1 hl.2.2.1 hl') h1 h2 hr hx))
theorem j_iinc {i : Nat} {n : Int} {x : Int32} (hd : decode Y.2.1 pc = .ok (.iinc i n, 3)) (hv : lv[i]? = some (some (vi x))) (k : J Y d mc ms post (pc + 3) (st1 lv i (vi (x + Int32.ofInt n))) st h) : J Y d mc ms post pc lv st h := by
  intro p l e s m args below meth c H locs cells slots ls Q D cy A MC MS C R hl h1 h2 hr hx
  have hi : i < Y.2.2.1 := by rw [← hl.2.2.1]; exact (List.getElem?_eq_some_iff.mp hv).1
  obtain ⟨q, hq⟩ := List.getElem?_of_mem ((lpr_mem (cy := cy) lv 0 (i, tv cy (vi x))).mpr ⟨i, vi x, hv, by rw [Nat.zero_add]⟩)
  exact lv_iinc C.1 C.2.1 hd (lvh_has hl) hq rfl hi rfl (fun ls' hl' => (k p l e s m args below meth c H locs cells slots ls' Q D cy A MC MS C R (lvh_s1 (v := vi (x + Int32.ofInt n)) hl.2.2.1 hl') h1 h2 hr hx))
theorem j_if_eq {x : Int32} {off : Int} (tgt : Nat) (hd : decode Y.2.1 pc = .ok (.ifCond .eq off, 3)) (ht : (pc : Int) + off = (tgt : Int)) (kt : x = 0 → J Y d mc ms post tgt lv st h) (kf : ¬ (x = 0) → J Y d mc ms post (pc + 3) lv st h) : J Y d mc ms post pc lv (vi x :: st) h := by
  intro p l e s m args below meth c H locs cells slots ls Q D cy A MC MS C R hl h1 h2 hr hx
  exact lv_if_eq C.1 C.2.1 hd ht (fun q => ((kt q) p l e s m args below meth c H locs cells slots ls Q D cy A MC MS C R hl h1 h2 hr hx)) (fun q => ((kf q) p l e s m args below meth c H locs cells slots ls Q D cy A MC MS C R hl h1 h2 hr hx))
theorem j_if_ne {x : Int32} {off : Int} (tgt : Nat) (hd : decode Y.2.1 pc = .ok (.ifCond .ne off, 3)) (ht : (pc : Int) + off = (tgt : Int)) (kt : x ≠ 0 → J Y d mc ms post tgt lv st h) (kf : ¬ (x ≠ 0) → J Y d mc ms post (pc + 3) lv st h) : J Y d mc ms post pc lv (vi x :: st) h := by
  intro p l e s m args below meth c H locs cells slots ls Q D cy A MC MS C R hl h1 h2 hr hx
  exact lv_if_ne C.1 C.2.1 hd ht (fun q => ((kt q) p l e s m args below meth c H locs cells slots ls Q D cy A MC MS C R hl h1 h2 hr hx)) (fun q => ((kf (fun w => w q)) p l e s m args below meth c H locs cells slots ls Q D cy A MC MS C R hl h1 h2 hr hx))
theorem j_if_lt {x : Int32} {off : Int} (tgt : Nat) (hd : decode Y.2.1 pc = .ok (.ifCond .lt off, 3)) (ht : (pc : Int) + off = (tgt : Int)) (kt : x < 0 → J Y d mc ms post tgt lv st h) (kf : ¬ (x < 0) → J Y d mc ms post (pc + 3) lv st h) : J Y d mc ms post pc lv (vi x :: st) h := by
  intro p l e s m args below meth c H locs cells slots ls Q D cy A MC MS C R hl h1 h2 hr hx
  exact lv_if_lt C.1 C.2.1 hd ht (fun q => ((kt q) p l e s m args below meth c H locs cells slots ls Q D cy A MC MS C R hl h1 h2 hr hx)) (fun q => ((kf q) p l e s m args below meth c H locs cells slots ls Q D cy A MC MS C R hl h1 h2 hr hx))
theorem j_if_ge {x : Int32} {off : Int} (tgt : Nat) (hd : decode Y.2.1 pc = .ok (.ifCond .ge off, 3)) (ht : (pc : Int) + off = (tgt : Int)) (kt : 0 ≤ x → J Y d mc ms post tgt lv st h) (kf : ¬ (0 ≤ x) → J Y d mc ms post (pc + 3) lv st h) : J Y d mc ms post pc lv (vi x :: st) h := by
  intro p l e s m args below meth c H locs cells slots ls Q D cy A MC MS C R hl h1 h2 hr hx
  exact lv_if_ge C.1 C.2.1 hd ht (fun q => ((kt q) p l e s m args below meth c H locs cells slots ls Q D cy A MC MS C R hl h1 h2 hr hx)) (fun q => ((kf q) p l e s m args below meth c H locs cells slots ls Q D cy A MC MS C R hl h1 h2 hr hx))
theorem j_if_gt {x : Int32} {off : Int} (tgt : Nat) (hd : decode Y.2.1 pc = .ok (.ifCond .gt off, 3)) (ht : (pc : Int) + off = (tgt : Int)) (kt : 0 < x → J Y d mc ms post tgt lv st h) (kf : ¬ (0 < x) → J Y d mc ms post (pc + 3) lv st h) : J Y d mc ms post pc lv (vi x :: st) h := by
  intro p l e s m args below meth c H locs cells slots ls Q D cy A MC MS C R hl h1 h2 hr hx
  exact lv_if_gt C.1 C.2.1 hd ht (fun q => ((kt q) p l e s m args below meth c H locs cells slots ls Q D cy A MC MS C R hl h1 h2 hr hx)) (fun q => ((kf q) p l e s m args below meth c H locs cells slots ls Q D cy A MC MS C R hl h1 h2 hr hx))
theorem j_if_le {x : Int32} {off : Int} (tgt : Nat) (hd : decode Y.2.1 pc = .ok (.ifCond .le off, 3)) (ht : (pc : Int) + off = (tgt : Int)) (kt : x ≤ 0 → J Y d mc ms post tgt lv st h) (kf : ¬ (x ≤ 0) → J Y d mc ms post (pc + 3) lv st h) : J Y d mc ms post pc lv (vi x :: st) h := by
  intro p l e s m args below meth c H locs cells slots ls Q D cy A MC MS C R hl h1 h2 hr hx
  exact lv_if_le C.1 C.2.1 hd ht (fun q => ((kt q) p l e s m args below meth c H locs cells slots ls Q D cy A MC MS C R hl h1 h2 hr hx)) (fun q => ((kf q) p l e s m args below meth c H locs cells slots ls Q D cy A MC MS C R hl h1 h2 hr hx))
theorem j_icmp_eq {x y : Int32} {off : Int} (tgt : Nat) (hd : decode Y.2.1 pc = .ok (.if_icmp .eq off, 3)) (ht : (pc : Int) + off = (tgt : Int)) (kt : x = y → J Y d mc ms post tgt lv st h) (kf : ¬ (x = y) → J Y d mc ms post (pc + 3) lv st h) : J Y d mc ms post pc lv (vi y :: vi x :: st) h := by
  intro p l e s m args below meth c H locs cells slots ls Q D cy A MC MS C R hl h1 h2 hr hx
  exact lv_icmp_eq C.1 C.2.1 hd ht (fun q => ((kt q) p l e s m args below meth c H locs cells slots ls Q D cy A MC MS C R hl h1 h2 hr hx)) (fun q => ((kf q) p l e s m args below meth c H locs cells slots ls Q D cy A MC MS C R hl h1 h2 hr hx))
theorem j_icmp_ne {x y : Int32} {off : Int} (tgt : Nat) (hd : decode Y.2.1 pc = .ok (.if_icmp .ne off, 3)) (ht : (pc : Int) + off = (tgt : Int)) (kt : x ≠ y → J Y d mc ms post tgt lv st h) (kf : ¬ (x ≠ y) → J Y d mc ms post (pc + 3) lv st h) : J Y d mc ms post pc lv (vi y :: vi x :: st) h := by
  intro p l e s m args below meth c H locs cells slots ls Q D cy A MC MS C R hl h1 h2 hr hx
  exact lv_icmp_ne C.1 C.2.1 hd ht (fun q => ((kt q) p l e s m args below meth c H locs cells slots ls Q D cy A MC MS C R hl h1 h2 hr hx)) (fun q => ((kf (fun w => w q)) p l e s m args below meth c H locs cells slots ls Q D cy A MC MS C R hl h1 h2 hr hx))
theorem j_icmp_lt {x y : Int32} {off : Int} (tgt : Nat) (hd : decode Y.2.1 pc = .ok (.if_icmp .lt off, 3)) (ht : (pc : Int) + off = (tgt : Int)) (kt : x < y → J Y d mc ms post tgt lv st h) (kf : ¬ (x < y) → J Y d mc ms post (pc + 3) lv st h) : J Y d mc ms post pc lv (vi y :: vi x :: st) h := by
  intro p l e s m args below meth c H locs cells slots ls Q D cy A MC MS C R hl h1 h2 hr hx
  exact lv_icmp_lt C.1 C.2.1 hd ht (fun q => ((kt q) p l e s m args below meth c H locs cells slots ls Q D cy A MC MS C R hl h1 h2 hr hx)) (fun q => ((kf q) p l e s m args below meth c H locs cells slots ls Q D cy A MC MS C R hl h1 h2 hr hx))
theorem j_icmp_ge {x y : Int32} {off : Int} (tgt : Nat) (hd : decode Y.2.1 pc = .ok (.if_icmp .ge off, 3)) (ht : (pc : Int) + off = (tgt : Int)) (kt : y ≤ x → J Y d mc ms post tgt lv st h) (kf : ¬ (y ≤ x) → J Y d mc ms post (pc + 3) lv st h) : J Y d mc ms post pc lv (vi y :: vi x :: st) h := by
  intro p l e s m args below meth c H locs cells slots ls Q D cy A MC MS C R hl h1 h2 hr hx
  exact lv_icmp_ge C.1 C.2.1 hd ht (fun q => ((kt q) p l e s m args below meth c H locs cells slots ls Q D cy A MC MS C R hl h1 h2 hr hx)) (fun q => ((kf q) p l e s m args below meth c H locs cells slots ls Q D cy A MC MS C R hl h1 h2 hr hx))
theorem j_icmp_gt {x y : Int32} {off : Int} (tgt : Nat) (hd : decode Y.2.1 pc = .ok (.if_icmp .gt off, 3)) (ht : (pc : Int) + off = (tgt : Int)) (kt : y < x → J Y d mc ms post tgt lv st h) (kf : ¬ (y < x) → J Y d mc ms post (pc + 3) lv st h) : J Y d mc ms post pc lv (vi y :: vi x :: st) h := by
  intro p l e s m args below meth c H locs cells slots ls Q D cy A MC MS C R hl h1 h2 hr hx
  exact lv_icmp_gt C.1 C.2.1 hd ht (fun q => ((kt q) p l e s m args below meth c H locs cells slots ls Q D cy A MC MS C R hl h1 h2 hr hx)) (fun q => ((kf q) p l e s m args below meth c H locs cells slots ls Q D cy A MC MS C R hl h1 h2 hr hx))
theorem j_icmp_le {x y : Int32} {off : Int} (tgt : Nat) (hd : decode Y.2.1 pc = .ok (.if_icmp .le off, 3)) (ht : (pc : Int) + off = (tgt : Int)) (kt : x ≤ y → J Y d mc ms post tgt lv st h) (kf : ¬ (x ≤ y) → J Y d mc ms post (pc + 3) lv st h) : J Y d mc ms post pc lv (vi y :: vi x :: st) h := by
  intro p l e s m args below meth c H locs cells slots ls Q D cy A MC MS C R hl h1 h2 hr hx
  exact lv_icmp_le C.1 C.2.1 hd ht (fun q => ((kt q) p l e s m args below meth c H locs cells slots ls Q D cy A MC MS C R hl h1 h2 hr hx)) (fun q => ((kf q) p l e s m args below meth c H locs cells slots ls Q D cy A MC MS C R hl h1 h2 hr hx))
theorem j_acmp_eq {x y : Option Nat} {off : Int} (tgt : Nat) (hd : decode Y.2.1 pc = .ok (.if_acmp .eq off, 3)) (ht : (pc : Int) + off = (tgt : Int)) (kt : x = y → J Y d mc ms post tgt lv st h) (kf : ¬ x = y → J Y d mc ms post (pc + 3) lv st h) : J Y d mc ms post pc lv (vr y :: vr x :: st) h := by
  intro p l e s m args below meth c H locs cells slots ls Q D cy A MC MS C R hl h1 h2 hr hx
  exact lv_acmp_eq C.1 C.2.1 hd ht (fun q => ((kt q) p l e s m args below meth c H locs cells slots ls Q D cy A MC MS C R hl h1 h2 hr hx)) (fun q => ((kf q) p l e s m args below meth c H locs cells slots ls Q D cy A MC MS C R hl h1 h2 hr hx))
theorem j_acmp_ne {x y : Option Nat} {off : Int} (tgt : Nat) (hd : decode Y.2.1 pc = .ok (.if_acmp .ne off, 3)) (ht : (pc : Int) + off = (tgt : Int)) (kt : ¬ x = y → J Y d mc ms post tgt lv st h) (kf : x = y → J Y d mc ms post (pc + 3) lv st h) : J Y d mc ms post pc lv (vr y :: vr x :: st) h := by
  intro p l e s m args below meth c H locs cells slots ls Q D cy A MC MS C R hl h1 h2 hr hx
  exact lv_acmp_ne C.1 C.2.1 hd ht (fun q => ((kt q) p l e s m args below meth c H locs cells slots ls Q D cy A MC MS C R hl h1 h2 hr hx)) (fun q => ((kf q) p l e s m args below meth c H locs cells slots ls Q D cy A MC MS C R hl h1 h2 hr hx))
theorem j_ifnull {x : Option Nat} {off : Int} (tgt : Nat) (hd : decode Y.2.1 pc = .ok (.ifnull off, 3)) (ht : (pc : Int) + off = (tgt : Int)) (kt : x = none → J Y d mc ms post tgt lv st h) (kf : ¬ x = none → J Y d mc ms post (pc + 3) lv st h) : J Y d mc ms post pc lv (vr x :: st) h := by
  intro p l e s m args below meth c H locs cells slots ls Q D cy A MC MS C R hl h1 h2 hr hx
  cases x with
  | none => exact lv_ifnullN C.1 C.2.1 hd ht ((kt rfl) p l e s m args below meth c H locs cells slots ls Q D cy A MC MS C R hl h1 h2 hr hx)
  | some x => exact lv_ifnull C.1 C.2.1 hd ((kf (fun q => by cases q)) p l e s m args below meth c H locs cells slots ls Q D cy A MC MS C R hl h1 h2 hr hx)
theorem j_ifnonnull {x : Option Nat} {off : Int} (tgt : Nat) (hd : decode Y.2.1 pc = .ok (.ifnonnull off, 3)) (ht : (pc : Int) + off = (tgt : Int)) (kt : ¬ x = none → J Y d mc ms post tgt lv st h) (kf : x = none → J Y d mc ms post (pc + 3) lv st h) : J Y d mc ms post pc lv (vr x :: st) h := by
  intro p l e s m args below meth c H locs cells slots ls Q D cy A MC MS C R hl h1 h2 hr hx
  cases x with
  | none => exact lv_ifnonnullN C.1 C.2.1 hd ((kf rfl) p l e s m args below meth c H locs cells slots ls Q D cy A MC MS C R hl h1 h2 hr hx)
  | some x => exact lv_ifnonnull C.1 C.2.1 hd ht ((kt (fun q => by cases q)) p l e s m args below meth c H locs cells slots ls Q D cy A MC MS C R hl h1 h2 hr hx)
theorem j_goto {off : Int} (tgt : Nat) (hd : decode Y.2.1 pc = .ok (.goto off, 3)) (ht : (pc : Int) + off = (tgt : Int)) (k : J Y d mc ms post tgt lv st h) : J Y d mc ms post pc lv st h := by
  intro p l e s m args below meth c H locs cells slots ls Q D cy A MC MS C R hl h1 h2 hr hx
  exact lv_goto C.1 C.2.1 hd ht (k p l e s m args below meth c H locs cells slots ls Q D cy A MC MS C R hl h1 h2 hr hx)
theorem j_dup {x : Sv} (hd : decode Y.2.1 pc = .ok (.dup, 1)) (hc : ct x = 1) (k : J Y d mc ms post (pc + 1) lv (x :: x :: st) h) : J Y d mc ms post pc lv (x :: st) h := by
  intro p l e s m args below meth c H locs cells slots ls Q D cy A MC MS C R hl h1 h2 hr hx
  exact lv_dup C.1 C.2.1 hd (by rw [tv_cat]; exact hc) (k p l e s m args below meth c H locs cells slots ls Q D cy A MC MS C R hl h1 h2 hr hx)
theorem j_dup2 {x y : Sv} (hd : decode Y.2.1 pc = .ok (.dup2, 1)) (hc : ct x = 1) (hc2 : ct y = 1) (k : J Y d mc ms post (pc + 1) lv (x :: y :: x :: y :: st) h) : J Y d mc ms post pc lv (x :: y :: st) h := by
  intro p l e s m args below meth c H locs cells slots ls Q D cy A MC MS C R hl h1 h2 hr hx
  exact lv_dup2_11 C.1 C.2.1 hd (by rw [tv_cat]; exact hc) (by rw [tv_cat]; exact hc2) (k p l e s m args below meth c H locs cells slots ls Q D cy A MC MS C R hl h1 h2 hr hx)
theorem j_pop {x : Sv} (hd : decode Y.2.1 pc = .ok (.pop, 1)) (hc : ct x = 1) (k : J Y d mc ms post (pc + 1) lv st h) : J Y d mc ms post pc lv (x :: st) h := by
  intro p l e s m args below meth c H locs cells slots ls Q D cy A MC MS C R hl h1 h2 hr hx
  exact lv_pop C.1 C.2.1 hd (by rw [tv_cat]; exact hc) (k p l e s m args below meth c H locs cells slots ls Q D cy A MC MS C R hl h1 h2 hr hx)
theorem j_tabIn {x : Int32} {dflt lo hi off : Int} {offs : Array Int} {len : Nat} (tgt : Nat) (hd : decode Y.2.1 pc = .ok (.tableswitch dflt lo hi offs, len)) (q1 : ¬ x.toInt < lo) (q2 : ¬ hi < x.toInt) (ho : offs[(x.toInt - lo).toNat]? = some off) (ht : (pc : Int) + off = (tgt : Int)) (k : J Y d mc ms post tgt lv st h) : J Y d mc ms post pc lv (vi x :: st) h := by
  intro p l e s m args below meth c H locs cells slots ls Q D cy A MC MS C R hl h1 h2 hr hx
  exact lv_tableIn C.1 C.2.1 hd q1 q2 ho ht (k p l e s m args below meth c H locs cells slots ls Q D cy A MC MS C R hl h1 h2 hr hx)
theorem j_tabOut {x : Int32} {dflt lo hi : Int} {offs : Array Int} {len : Nat} (tgt : Nat) (hd : decode Y.2.1 pc = .ok (.tableswitch dflt lo hi offs, len)) (q1 : x.toInt < lo ∨ hi < x.toInt) (ht : (pc : Int) + dflt = (tgt : Int)) (k : J Y d mc ms post tgt lv st h) : J Y d mc ms post pc lv (vi x :: st) h := by
  intro p l e s m args below meth c H locs cells slots ls Q D cy A MC MS C R hl h1 h2 hr hx
  exact lv_tableOut C.1 C.2.1 hd q1 ht (k p l e s m args below meth c H locs cells slots ls Q D cy A MC MS C R hl h1 h2 hr hx)
theorem j_ret (v : Option Sv) (hd : rtd Y pc v) (hp : post (.inl v) h) : J Y d mc ms post pc lv v.toList h := by
  intro p l e s m args below meth c H locs cells slots ls Q D cy A MC MS C R hl h1 h2 hr hx
  exact hr v h H locs cells slots ls pc hp R (by omega) (by omega) hd
theorem j_ireturn {x : Int32} {ty : FieldType} (hd : decode Y.2.1 pc = .ok (.ireturn, 1)) (ht : Y.2.2.2 = some ty) (hn : narrow ty (.int x) = .int x) (hp : post (.inl (some (vi x))) h) : J Y d mc ms post pc lv [vi x] h := j_ret (some (vi x)) ⟨hd, ty, ht, hn⟩ hp
theorem j_lreturn {x : Int64} (hd : decode Y.2.1 pc = .ok (.lreturn, 1)) (ht : Y.2.2.2 = some .long) (hp : post (.inl (some (vl x))) h) : J Y d mc ms post pc lv [vl x] h := j_ret (some (vl x)) ⟨hd, ht⟩ hp
theorem j_areturn {x : Option Nat} {rt : FieldType} (hd : decode Y.2.1 pc = .ok (.areturn, 1)) (ht : Y.2.2.2 = some rt) (hk : ity rt = 2) (hp : post (.inl (some (vr x))) h) : J Y d mc ms post pc lv [vr x] h := j_ret (some (vr x)) ⟨hd, rt, ht, by cases rt <;> first | exact Or.inl ⟨_, rfl⟩ | exact Or.inr ⟨_, rfl⟩ | cases hk⟩ hp
theorem j_return (hd : decode Y.2.1 pc = .ok (.return_, 1)) (ht : Y.2.2.2 = none) (hp : post (.inl none) h) : J Y d mc ms post pc lv [] h := j_ret none ⟨hd, ht⟩ hp
theorem j_throw {E : String} (hd : thd Y pc E) (h1c : 1 ≤ mc) (h6 : 6 ≤ ms) (hs : (st.map ct).sum ≤ 8) (hp : post (.inr E) h) : J Y d mc ms post pc lv st h := by
  intro p l e s m args below meth c H locs cells slots ls Q D cy A MC MS C R hl h1 h2 hr hx
  exact hx E h H locs cells slots ls pc st hp R hl.1 (by omega) (by omega) hd hs
theorem j_lv {lv' : List (Option Sv)} (hs : lv'.length = lv.length ∧ ∀ (i : Nat) (v : Sv), lv'[i]? = some (some v) → lv[i]? = some (some v)) (k : J Y d mc ms post pc lv' st h) : J Y d mc ms post pc lv st h := by
  intro p l e s m args below meth c H locs cells slots ls Q D cy A MC MS C R hl h1 h2 hr hx
  exact (k p l e s m args below meth c H locs cells slots ls Q D cy A MC MS C R (lvh_sub hl hs.1 hs.2) h1 h2 hr hx)
theorem j_mono {mc' ms' : Nat} (q1 : mc' ≤ mc) (q2 : ms' ≤ ms) (k : J Y d mc' ms' post pc lv st h) : J Y d mc ms post pc lv st h := by
  intro p l e s m args below meth c H locs cells slots ls Q D cy A MC MS C R hl h1 h2 hr hx
  exact k p l e s m args below meth c H locs cells slots ls Q D cy A MC MS C R hl (by omega) (by omega) hr hx
theorem j_post {post' : Option Sv ⊕ String → Hp → Prop} (q : ∀ o u, post' o u → post o u) (k : J Y d mc ms post' pc lv st h) : J Y d mc ms post pc lv st h := by
  intro p l e s m args below meth c H locs cells slots ls Q D cy A MC MS C R hl h1 h2 hr hx
  exact k p l e s m args below meth c H locs cells slots ls Q D cy A MC MS C R hl h1 h2 (fun v u H1 locs1 c1 s1 ls1 pc1 hp => hr v u H1 locs1 c1 s1 ls1 pc1 (q _ _ hp)) (fun E u H1 locs1 c1 s1 ls1 pc1 st1 hp => hx E u H1 locs1 c1 s1 ls1 pc1 st1 (q _ _ hp))
theorem j_aloadS_n {k0 : Fin 4} {i0 : Nat} (hd : decode Y.2.1 pc = .ok (.aload_n k0, 1)) (hv : lv[(k0 : Nat)]? = some (some (vs i0))) (k : J Y d mc ms post (pc + 1) lv (vs i0 :: st) h) : J Y d mc ms post pc lv st h := by
  intro p l e s m args below meth c H locs cells slots ls Q D cy A MC MS C R hl h1 h2 hr hx
  exact lv_aload_n C.1 C.2.1 hd rfl (hl.2.2.2 _ _ hv) (k p l e s m args below meth c H locs cells slots ls Q D cy A MC MS C R hl h1 h2 hr hx)
theorem j_aloadS {i i0 : Nat} (hd : decode Y.2.1 pc = .ok (.aload i, 2)) (hv : lv[i]? = some (some (vs i0))) (k : J Y d mc ms post (pc + 2) lv (vs i0 :: st) h) : J Y d mc ms post pc lv st h := by
  intro p l e s m args below meth c H locs cells slots ls Q D cy A MC MS C R hl h1 h2 hr hx
  exact lv_aload C.1 C.2.1 hd (hl.2.2.2 _ _ hv) (k p l e s m args below meth c H locs cells slots ls Q D cy A MC MS C R hl h1 h2 hr hx)
theorem j_areturnS {i0 : Nat} {rt : FieldType} (hd : decode Y.2.1 pc = .ok (.areturn, 1)) (ht : Y.2.2.2 = some rt) (hk : ity rt = 2) (hp : post (.inl (some (vs i0))) h) : J Y d mc ms post pc lv [vs i0] h := j_ret (some (vs i0)) ⟨hd, rt, ht, by cases rt <;> first | exact Or.inl ⟨_, rfl⟩ | exact Or.inr ⟨_, rfl⟩ | cases hk⟩ hp
/-- a String constant -/
theorem j_ldcS {n : Nat} (i0 : Nat) {x : String × Nat × String × List Int32} (hx : strs[i0]? = some x) (hd : decode Y.2.1 pc = .ok (.ldc n, 2)) (e1 : x.1 = Y.1.cls) (e2 : x.2.1 = n) (k : J Y d mc ms post (pc + 2) lv (vs i0 :: st) h) : J Y d mc ms post pc lv st h := by
  intro p l e s m args below meth c H locs cells slots ls Q D cy A MC MS C R hl h1 h2 hr hx'
  have z := (C.2.2.2.2.2.2.2.1.2.1 i0 x hx).1
  rw [e1, e2] at z
  exact va_ldcS C.1 C.2.1 C.2.2.2.1 z hd (k p l e s m args below meth c H locs cells slots ls Q D cy A MC MS C R hl h1 h2 hr hx')
theorem j_ldcwS {n : Nat} (i0 : Nat) {x : String × Nat × String × List Int32} (hx : strs[i0]? = some x) (hd : decode Y.2.1 pc = .ok (.ldc_w n, 3)) (e1 : x.1 = Y.1.cls) (e2 : x.2.1 = n) (k : J Y d mc ms post (pc + 3) lv (vs i0 :: st) h) : J Y d mc ms post pc lv st h := by
  intro p l e s m args below meth c H locs cells slots ls Q D cy A MC MS C R hl h1 h2 hr hx'
  have z := (C.2.2.2.2.2.2.2.1.2.1 i0 x hx).1
  rw [e1, e2] at z
  have k1 := k p l e s m args below meth c H locs cells slots ls Q D cy A MC MS C R hl h1 h2 hr hx'
  intro T hT X
  obtain ⟨t, a1, b1⟩ := k1 T hT X
  exact ⟨t, X.ldcStringW C.1 C.2.2.2.1 (text := x.2.2.1) z.1 z.2 (g := F0 m pc ls (st.map (tv cy))) rfl (by rw [C.2.1]; exact hd) t a1, b1⟩
/-- a static array -/
theorem j_getsL {n : Nat} {ref : String} (hd : decode Y.2.1 pc = .ok (.getstatic n, 3)) (hw : Cond.fieldLink Y.1.cls n ref "LEAST_ARGS" "[I" ∈ gtb) (hre : ref = "SheetBranches") (k : J Y d mc ms post (pc + 3) lv (vs 94 :: st) h) : J Y d mc ms post pc lv st h := by
  intro p l e s m args below meth c H locs cells slots ls Q D cy A MC MS C R hl h1 h2 hr hx'
  obtain ⟨L, hL, hP, hD, hS⟩ := id R
  subst hre
  exact va_gets C.1 C.2.1 C.2.2.2.2.2.2.2.1.2.2.2.1.1 hS C.2.2.2.1 (C.2.2.2.2.1 _ hw) (fun _ h => h) hd (k p l e s m args below meth c H locs cells slots ls Q D cy A MC MS C R hl h1 h2 hr hx')
theorem j_getsM {n : Nat} {ref : String} (hd : decode Y.2.1 pc = .ok (.getstatic n, 3)) (hw : Cond.fieldLink Y.1.cls n ref "MOST_ARGS" "[I" ∈ gtb) (hre : ref = "SheetBranches") (k : J Y d mc ms post (pc + 3) lv (vs 95 :: st) h) : J Y d mc ms post pc lv st h := by
  intro p l e s m args below meth c H locs cells slots ls Q D cy A MC MS C R hl h1 h2 hr hx'
  obtain ⟨L, hL, hP, hD, hS⟩ := id R
  subst hre
  exact va_gets C.1 C.2.1 C.2.2.2.2.2.2.2.1.2.2.2.2.1.1 hS C.2.2.2.1 (C.2.2.2.2.1 _ hw) (fun _ h => h) hd (k p l e s m args below meth c H locs cells slots ls Q D cy A MC MS C R hl h1 h2 hr hx')
/-- that Strings are compact -/
theorem j_getsC {n : Nat} {ref : String} (hd : decode Y.2.1 pc = .ok (.getstatic n, 3)) (hw : Cond.fieldLink Y.1.cls n ref "COMPACT_STRINGS" "Z" ∈ gtb) (hre : ref = "java/lang/String") (k : J Y d mc ms post (pc + 3) lv (vi 1 :: st) h) : J Y d mc ms post pc lv st h := by
  intro p l e s m args below meth c H locs cells slots ls Q D cy A MC MS C R hl h1 h2 hr hx'
  obtain ⟨L, hL, hP, hD, hS⟩ := id R
  subst hre
  exact va_gets C.1 C.2.1 C.2.2.2.2.2.2.2.1.2.2.1 hS C.2.2.2.1 (C.2.2.2.2.1 _ hw) (fun _ h => h) hd (k p l e s m args below meth c H locs cells slots ls Q D cy A MC MS C R hl h1 h2 hr hx')
/-- a static array's int -/
theorem j_saldL {i : Int32} (n : Nat) (hd : decode Y.2.1 pc = .ok (.iaload, 1)) (hi : i = nI n) (hn : n < 18) (k : J Y d mc ms post (pc + 1) lv (vi (lstA.getD n 0) :: st) h) : J Y d mc ms post pc lv (vi i :: vs 94 :: st) h := by
  intro p l e s m args below meth c H locs cells slots ls Q D cy A MC MS C R hl h1 h2 hr hx'
  obtain ⟨L, hL, hP, hD, hS⟩ := id R
  subst hi
  exact va_ti C.1 C.2.1 C.2.2.2.2.2.2.2.1.2.2.2.1.2 hS (vp_in_nI hn (by decide)) (by rw [nI_clamp (by omega)]; rfl) hd (k p l e s m args below meth c H locs cells slots ls Q D cy A MC MS C R hl h1 h2 hr hx')
theorem j_saldM {i : Int32} (n : Nat) (hd : decode Y.2.1 pc = .ok (.iaload, 1)) (hi : i = nI n) (hn : n < 18) (k : J Y d mc ms post (pc + 1) lv (vi (mstA.getD n 0) :: st) h) : J Y d mc ms post pc lv (vi i :: vs 95 :: st) h := by
  intro p l e s m args below meth c H locs cells slots ls Q D cy A MC MS C R hl h1 h2 hr hx'
  obtain ⟨L, hL, hP, hD, hS⟩ := id R
  subst hi
  exact va_ti C.1 C.2.1 C.2.2.2.2.2.2.2.1.2.2.2.2.1.2 hS (vp_in_nI hn (by decide)) (by rw [nI_clamp (by omega)]; rfl) hd (k p l e s m args below meth c H locs cells slots ls Q D cy A MC MS C R hl h1 h2 hr hx')
/-- a String's bytes, its coder -/
theorem j_getsV {ix i0 : Nat} {ref : String} {x : String × Nat × String × List Int32} (hx : strs[i0]? = some x) (hd : decode Y.2.1 pc = .ok (.getfield ix, 3)) (hw : Cond.fieldLink Y.1.cls ix ref "value" "[B" ∈ gtb) (hre : ref = "java/lang/String") (k : J Y d mc ms post (pc + 3) lv (vs (50 + i0) :: st) h) : J Y d mc ms post pc lv (vs i0 :: st) h := by
  intro p l e s m args below meth c H locs cells slots ls Q D cy A MC MS C R hl h1 h2 hr hx'
  obtain ⟨L, hL, hP, hD, hS⟩ := id R
  subst hre
  exact vk_getf C.1 C.2.1 (C.2.2.2.2.2.2.2.1.2.1 i0 x hx).2.2.2.1 hS C.2.2.2.1 (C.2.2.2.2.1 _ hw) (fun _ h => h) hd (k p l e s m args below meth c H locs cells slots ls Q D cy A MC MS C R hl h1 h2 hr hx')
theorem j_getsK {ix i0 : Nat} {ref : String} {x : String × Nat × String × List Int32} (hx : strs[i0]? = some x) (hd : decode Y.2.1 pc = .ok (.getfield ix, 3)) (hw : Cond.fieldLink Y.1.cls ix ref "coder" "B" ∈ gtb) (hre : ref = "java/lang/String") (k : J Y d mc ms post (pc + 3) lv (vi 0 :: st) h) : J Y d mc ms post pc lv (vs i0 :: st) h := by
  intro p l e s m args below meth c H locs cells slots ls Q D cy A MC MS C R hl h1 h2 hr hx'
  obtain ⟨L, hL, hP, hD, hS⟩ := id R
  subst hre
  exact vk_getf C.1 C.2.1 (C.2.2.2.2.2.2.2.1.2.1 i0 x hx).2.2.1 hS C.2.2.2.1 (C.2.2.2.2.1 _ hw) (fun _ h => h) hd (k p l e s m args below meth c H locs cells slots ls Q D cy A MC MS C R hl h1 h2 hr hx')
theorem j_slen {i0 : Nat} {x : String × Nat × String × List Int32} (hx : strs[i0]? = some x) (hd : decode Y.2.1 pc = .ok (.arraylength, 1)) (k : J Y d mc ms post (pc + 1) lv (vi (nI x.2.2.2.length) :: st) h) : J Y d mc ms post pc lv (vs (50 + i0) :: st) h := by
  intro p l e s m args below meth c H locs cells slots ls Q D cy A MC MS C R hl h1 h2 hr hx'
  obtain ⟨L, hL, hP, hD, hS⟩ := id R
  exact va_tlen C.1 C.2.1 (C.2.2.2.2.2.2.2.1.2.1 i0 x hx).2.2.2.2 hS rfl hd (k p l e s m args below meth c H locs cells slots ls Q D cy A MC MS C R hl h1 h2 hr hx')
theorem j_sbald {i0 : Nat} {i : Int32} {x : String × Nat × String × List Int32} (n : Nat) (hx : strs[i0]? = some x) (hd : decode Y.2.1 pc = .ok (.baload, 1)) (hi : i = nI n) (hn : n < x.2.2.2.length) (hb : x.2.2.2.length < 2 ^ 31) (k : J Y d mc ms post (pc + 1) lv (vi (x.2.2.2.getD n 0) :: st) h) : J Y d mc ms post pc lv (vi i :: vs (50 + i0) :: st) h := by
  intro p l e s m args below meth c H locs cells slots ls Q D cy A MC MS C R hl h1 h2 hr hx'
  obtain ⟨L, hL, hP, hD, hS⟩ := id R
  subst hi
  exact va_tb C.1 C.2.1 (C.2.2.2.2.2.2.2.1.2.1 i0 x hx).2.2.2.2 hS (vp_in_nI hn hb) (by rw [nI_clamp (by omega)]; rfl) hd (k p l e s m args below meth c H locs cells slots ls Q D cy A MC MS C R hl h1 h2 hr hx')
end JJ
