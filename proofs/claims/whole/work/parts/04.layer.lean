/-- the words that stay true under warming -/
def gw : List Cond := lw_tbl.filter goodWord
theorem gw_of {w : Cond} (h : w ∈ lw_tbl) (g : goodWord w = true) : w ∈ gw := List.mem_filter.mpr ⟨h, g⟩
theorem gw_in {w : Cond} (h : w ∈ gw) : w ∈ lw_tbl := (List.mem_filter.mp h).1
theorem gw_goodIn {ws : List Cond} (h : ∀ w ∈ ws, w ∈ gw) : GoodIn gw ws := fun w hw => ⟨h w hw, good_of_word (List.mem_filter.mp (h w hw)).2⟩
/-- the links to nest mates' static methods -/
def nwl : List Cond := [.methodLinkNest RX2 52 yX6_isEasel RX6, .methodLinkNest RX4 65 yX6_within RX6, .methodLinkNest RX2 81 yX6_within RX6]
def NW (U : State) : Prop := ∀ w ∈ nwl, va_Nw w U
theorem NW.warm {s U : State} (hW : s.WarmedH U.vm) (h : NW s) : NW U := by
  intro w hw
  have h1 := h w hw
  simp only [nwl, List.mem_cons, List.not_mem_nil, or_false] at hw
  rcases hw with rfl | rfl | rfl <;> exact va_Nw.warmM hW h1
theorem NW.same {s U : State} (e : s.vm = U.vm) (h : NW s) : NW U := by
  intro w hw
  have h1 := h w hw
  simp only [nwl, List.mem_cons, List.not_mem_nil, or_false] at hw
  rcases hw with rfl | rfl | rfl <;> exact va_Nw.same rfl e h1
/-! the context of a walk: program, launch, environment, room, entry state, method id, arguments, frames below, method, code, class table, array classes, free addresses, constants, goal, number of locals -/
abbrev VX : Type := Program × Launch × Env × Room × State × MethodId × Array Value × List Frame × Method × Code × va_G × (Nat → ClassId) × (Nat → Prop) × ((Nat → Prop) → State → Heap → Prop) × (State → Prop) × Nat
abbrev vxp (x : VX) : Program := x.1
abbrev vxl (x : VX) : Launch := x.2.1
abbrev vxe (x : VX) : Env := x.2.2.1
abbrev vxR (x : VX) : Room := x.2.2.2.1
abbrev vxs (x : VX) : State := x.2.2.2.2.1
abbrev vxm (x : VX) : MethodId := x.2.2.2.2.2.1
abbrev vxa (x : VX) : Array Value := x.2.2.2.2.2.2.1
abbrev vxb (x : VX) : List Frame := x.2.2.2.2.2.2.2.1
abbrev vxh (x : VX) : Method := x.2.2.2.2.2.2.2.2.1
abbrev vxc (x : VX) : Code := x.2.2.2.2.2.2.2.2.2.1
abbrev vxD (x : VX) : va_G := x.2.2.2.2.2.2.2.2.2.2.1
abbrev vxT (x : VX) : Nat → ClassId := x.2.2.2.2.2.2.2.2.2.2.2.1
abbrev vxA (x : VX) : Nat → Prop := x.2.2.2.2.2.2.2.2.2.2.2.2.1
abbrev vxZ (x : VX) : (Nat → Prop) → State → Heap → Prop := x.2.2.2.2.2.2.2.2.2.2.2.2.2.1
abbrev vxQ (x : VX) : State → Prop := x.2.2.2.2.2.2.2.2.2.2.2.2.2.2.1
abbrev vxn (x : VX) : Nat := x.2.2.2.2.2.2.2.2.2.2.2.2.2.2.2
/-- the array classes of the system -/
abbrev vTy (q : Nat → ClassId) : List (ClassId × FieldType) := [(q 0, .int), (q 1, .boolean), (q 2, .object RX3), (q 3, .object RX5)]
/-- constants: what is said of cells outside the free ones -/
def ZOK (Z : (Nat → Prop) → State → Heap → Prop) : Prop :=
  (∀ (A B : Nat → Prop) (U : State) (H : Heap), (∀ q, B q → A q) → Z A U H → Z B U H) ∧
  (∀ (A : Nat → Prop) (U U' : State) (H : Heap), (U.vm = U'.vm ∨ U.WarmedH U'.vm) → Z A U H → Z A U' H) ∧
  (∀ (A : Nat → Prop) (U : State) (H H1 : Heap), (∀ a, a < H.size → ¬ A a → H1[a]? = H[a]?) → Z A U H → Z A U H1)
/-- what a walk knows of its context -/
def Cx (x : VX) (cc : ByteArray) (own : String) (d : Nat) : Prop :=
  (vxp x).tables.exec = Jvm.exec ∧ (vxc x).code = cc ∧ (vxc x).maxLocals = vxn x ∧ (vxs x).vm.findClass own = some (vxm x).cls ∧
  (∀ w ∈ gw, w.before (vxa x) (vxs x) = true) ∧ va_K (vxD x) vwCl (vTy (vxT x)) (vxs x) ∧ (∀ q, (vxs x).heap.size ≤ q → vxA x q) ∧ ZOK (vxZ x) ∧ vxZ x (vxA x) (vxs x) (vxs x).heap ∧ d ≤ (vxR x).frames ∧ 40 * d ≤ (vxR x).locals ∧ NW (vxs x)
/-- the machine at pc, with cells k and slots n made so far, the world ws, locals lv, stack st, comes to its goal -/
def V (x : VX) (k n : Nat) (ws : va_W) (lv : List (Nat × Value)) (pc : Nat) (st : List Value) : Prop :=
  ∀ (H : Heap) (locs : List Loc) (ls : Array Slot), va_P (vxD x) vwCl ws H → va_D (vxA x) ws → va_S (vxA x) (vxs x).heap H locs → lv_has ls (vxn x) lv →
    W (vxp x) (vxl x) (vxe x) (vxR x) (vxs x) (vxm x) (vxa x) (vxb x) (vxh x) (vxc x) H locs k n (vxQ x) (F0 (vxm x) pc ls st)
def inb (i : Int32) (n : Nat) : Bool := decide (0 ≤ i.toInt ∧ i.toInt < (n : Int))
theorem inb_vp {i : Int32} {n : Nat} (h : inb i n = true) : vp_in i n := vp_in_iff.mpr (of_decide_eq_true h)
section
variable {x : VX} {cc : ByteArray} {own : String} {d0 k n : Nat} {ws : va_W} {lv : List (Nat × Value)} {pc : Nat} {st : List Value} {α : Type} {r : α}
theorem if_some {c : Prop} {d : Decidable c} {g : Option α} (h : @ite _ c d g none = some r) : c ∧ g = some r := by
  by_cases hc : c
  · rw [if_pos hc] at h; exact ⟨hc, h⟩
  · rw [if_neg hc] at h; cases h
theorem bd_some {β : Type} {o : Option β} {g : β → Option α} (h : o.bind g = some r) : ∃ b, o = some b ∧ g b = some r := by
  cases o with
  | none => cases h
  | some b => exact ⟨b, rfl, h⟩
theorem v_lv (is : List Nat) {lv' : List (Nat × Value)} (h : lv_pick lv is = lv') (kk : V x k n ws lv' pc st) : V x k n ws lv pc st :=
  fun H locs ls hP hD hS hl => kk H locs ls hP hD hS (lv_sub hl is h)
theorem v_eq {st' : List Value} (h : st = st') (kk : V x k n ws lv pc st') : V x k n ws lv pc st := h ▸ kk
theorem v_ws {ws' : va_W} (h : ws = ws') (kk : V x k n ws' lv pc st) : V x k n ws lv pc st := h ▸ kk

theorem v_iconst (X : Cx x cc own d0) {i : Int} {v : Int32} (hv : Int32.ofInt i = v) (hd : decode cc pc = .ok (.iconst i, 1))
    (kk : V x k n ws lv (pc + 1) (.int v :: st)) : V x k n ws lv pc st :=
  fun H locs ls hP hD hS hl => lv_iconst X.1 X.2.1 hd hv (kk H locs ls hP hD hS hl)
theorem v_bipush (X : Cx x cc own d0) {i : Int} {v : Int32} (hv : (Int8.ofInt i).toInt32 = v) (hd : decode cc pc = .ok (.bipush i, 2))
    (kk : V x k n ws lv (pc + 2) (.int v :: st)) : V x k n ws lv pc st :=
  fun H locs ls hP hD hS hl => lv_bipush X.1 X.2.1 hd hv (kk H locs ls hP hD hS hl)
theorem v_sipush (X : Cx x cc own d0) {i : Int} {v : Int32} (hv : (Int16.ofInt i).toInt32 = v) (hd : decode cc pc = .ok (.sipush i, 3))
    (kk : V x k n ws lv (pc + 3) (.int v :: st)) : V x k n ws lv pc st :=
  fun H locs ls hP hD hS hl => lv_sipush X.1 X.2.1 hd hv (kk H locs ls hP hD hS hl)
theorem v_lconst (X : Cx x cc own d0) {i : Fin 2} {v : Int64} (hv : Int64.ofNat (i : Nat) = v) (hd : decode cc pc = .ok (.lconst i, 1))
    (kk : V x k n ws lv (pc + 1) (.long v :: st)) : V x k n ws lv pc st :=
  fun H locs ls hP hD hS hl => lv_lconst X.1 X.2.1 hd hv (kk H locs ls hP hD hS hl)
theorem v_ldc (X : Cx x cc own d0) {j : Nat} {v : Int32} (hw : Cond.constant own j v ∈ gw) (hd : decode cc pc = .ok (.ldc j, 2))
    (kk : V x k n ws lv (pc + 2) (.int v :: st)) : V x k n ws lv pc st :=
  fun H locs ls hP hD hS hl => lv_ldc X.1 X.2.1 X.2.2.2.1 (X.2.2.2.2.1 _ hw) hd (kk H locs ls hP hD hS hl)
theorem v_ldcw (X : Cx x cc own d0) {j : Nat} {v : Int32} (hw : Cond.constant own j v ∈ gw) (hd : decode cc pc = .ok (.ldc_w j, 3))
    (kk : V x k n ws lv (pc + 3) (.int v :: st)) : V x k n ws lv pc st :=
  fun H locs ls hP hD hS hl => lv_ldcw X.1 X.2.1 X.2.2.2.1 (X.2.2.2.2.1 _ hw) hd (kk H locs ls hP hD hS hl)
theorem v_ldc2 (X : Cx x cc own d0) {j : Nat} {v : Int64} (hw : Cond.constantLong own j v ∈ gw) (hd : decode cc pc = .ok (.ldc2_w j, 3))
    (kk : V x k n ws lv (pc + 3) (.long v :: st)) : V x k n ws lv pc st :=
  fun H locs ls hP hD hS hl => lv_ldc2 X.1 X.2.1 X.2.2.2.1 (X.2.2.2.2.1 _ hw) hd (kk H locs ls hP hD hS hl)
theorem v_null (X : Cx x cc own d0)  (hd : decode cc pc = .ok (.aconst_null, 1))
    (kk : V x k n ws lv (pc + 1) (.null :: st)) : V x k n ws lv pc st :=
  fun H locs ls hP hD hS hl => lv_null X.1 X.2.1 hd (kk H locs ls hP hD hS hl)
theorem v_iload_n (X : Cx x cc own d0) {i : Fin 4} {v : Int32} (j : Nat) (hj : lv[j]? = some ((i : Nat), .int v)) (hd : decode cc pc = .ok (.iload_n i, 1))
    (kk : V x k n ws lv (pc + 1) (.int v :: st)) : V x k n ws lv pc st :=
  fun H locs ls hP hD hS hl => lv_iload_n X.1 X.2.1 hd rfl (lv_at hl j hj) (kk H locs ls hP hD hS hl)
theorem v_iload (X : Cx x cc own d0) {i : Nat} {v : Int32} (j : Nat) (hj : lv[j]? = some (i, .int v)) (hd : decode cc pc = .ok (.iload i, 2))
    (kk : V x k n ws lv (pc + 2) (.int v :: st)) : V x k n ws lv pc st :=
  fun H locs ls hP hD hS hl => lv_iload X.1 X.2.1 hd (lv_at hl j hj) (kk H locs ls hP hD hS hl)
theorem v_istore_n (X : Cx x cc own d0) {i0 : Fin 4} {i : Nat} {v : Int32} {lv' : List (Nat × Value)} (hi : (i0 : Nat) = i) (hn : i < vxn x) (hl' : (i, Value.int v) :: lv.filter (fun q => !(q.1 == i) && !(q.1 + 1 == i && q.2.category == 2)) = lv') (hd : decode cc pc = .ok (.istore_n i0, 1))
    (kk : V x k n ws lv' (pc + 1) st) : V x k n ws lv pc (.int v :: st) :=
  fun H locs ls hP hD hS hl => lv_istore_n X.1 X.2.1 hd hi hl hn hl' (fun ls' hl2 => kk H locs ls' hP hD hS hl2)
theorem v_istore (X : Cx x cc own d0) {i : Nat} {v : Int32} {lv' : List (Nat × Value)} (hn : i < vxn x) (hl' : (i, Value.int v) :: lv.filter (fun q => !(q.1 == i) && !(q.1 + 1 == i && q.2.category == 2)) = lv') (hd : decode cc pc = .ok (.istore i, 2))
    (kk : V x k n ws lv' (pc + 2) st) : V x k n ws lv pc (.int v :: st) :=
  fun H locs ls hP hD hS hl => lv_istore X.1 X.2.1 hd hl hn hl' (fun ls' hl2 => kk H locs ls' hP hD hS hl2)
theorem v_lload_n (X : Cx x cc own d0) {i : Fin 4} {v : Int64} (j : Nat) (hj : lv[j]? = some ((i : Nat), .long v)) (hd : decode cc pc = .ok (.lload_n i, 1))
    (kk : V x k n ws lv (pc + 1) (.long v :: st)) : V x k n ws lv pc st :=
  fun H locs ls hP hD hS hl => lv_lload_n X.1 X.2.1 hd rfl (lv_at hl j hj) (kk H locs ls hP hD hS hl)
theorem v_lload (X : Cx x cc own d0) {i : Nat} {v : Int64} (j : Nat) (hj : lv[j]? = some (i, .long v)) (hd : decode cc pc = .ok (.lload i, 2))
    (kk : V x k n ws lv (pc + 2) (.long v :: st)) : V x k n ws lv pc st :=
  fun H locs ls hP hD hS hl => lv_lload X.1 X.2.1 hd (lv_at hl j hj) (kk H locs ls hP hD hS hl)
theorem v_lstore_n (X : Cx x cc own d0) {i0 : Fin 4} {i : Nat} {v : Int64} {lv' : List (Nat × Value)} (hi : (i0 : Nat) = i) (hn : i + 1 < vxn x) (hl' : (i, Value.long v) :: lv.filter (fun q => !(q.1 == i) && (!(q.1 == i + 1) && !(q.1 + 1 == i && q.2.category == 2))) = lv') (hd : decode cc pc = .ok (.lstore_n i0, 1))
    (kk : V x k n ws lv' (pc + 1) st) : V x k n ws lv pc (.long v :: st) :=
  fun H locs ls hP hD hS hl => lv_lstore_n X.1 X.2.1 hd hi hl hn hl' (fun ls' hl2 => kk H locs ls' hP hD hS hl2)
theorem v_lstore (X : Cx x cc own d0) {i : Nat} {v : Int64} {lv' : List (Nat × Value)} (hn : i + 1 < vxn x) (hl' : (i, Value.long v) :: lv.filter (fun q => !(q.1 == i) && (!(q.1 == i + 1) && !(q.1 + 1 == i && q.2.category == 2))) = lv') (hd : decode cc pc = .ok (.lstore i, 2))
    (kk : V x k n ws lv' (pc + 2) st) : V x k n ws lv pc (.long v :: st) :=
  fun H locs ls hP hD hS hl => lv_lstore X.1 X.2.1 hd hl hn hl' (fun ls' hl2 => kk H locs ls' hP hD hS hl2)
theorem v_aload_n (X : Cx x cc own d0) {i : Fin 4} {v : Nat} (j : Nat) (hj : lv[j]? = some ((i : Nat), .ref v)) (hd : decode cc pc = .ok (.aload_n i, 1))
    (kk : V x k n ws lv (pc + 1) (.ref v :: st)) : V x k n ws lv pc st :=
  fun H locs ls hP hD hS hl => lv_aload_n X.1 X.2.1 hd rfl (lv_at hl j hj) (kk H locs ls hP hD hS hl)
theorem v_aload (X : Cx x cc own d0) {i : Nat} {v : Nat} (j : Nat) (hj : lv[j]? = some (i, .ref v)) (hd : decode cc pc = .ok (.aload i, 2))
    (kk : V x k n ws lv (pc + 2) (.ref v :: st)) : V x k n ws lv pc st :=
  fun H locs ls hP hD hS hl => lv_aload X.1 X.2.1 hd (lv_at hl j hj) (kk H locs ls hP hD hS hl)
theorem v_astore_n (X : Cx x cc own d0) {i0 : Fin 4} {i : Nat} {v : Nat} {lv' : List (Nat × Value)} (hi : (i0 : Nat) = i) (hn : i < vxn x) (hl' : (i, Value.ref v) :: lv.filter (fun q => !(q.1 == i) && !(q.1 + 1 == i && q.2.category == 2)) = lv') (hd : decode cc pc = .ok (.astore_n i0, 1))
    (kk : V x k n ws lv' (pc + 1) st) : V x k n ws lv pc (.ref v :: st) :=
  fun H locs ls hP hD hS hl => lv_astore_n X.1 X.2.1 hd hi hl hn hl' (fun ls' hl2 => kk H locs ls' hP hD hS hl2)
theorem v_astore (X : Cx x cc own d0) {i : Nat} {v : Nat} {lv' : List (Nat × Value)} (hn : i < vxn x) (hl' : (i, Value.ref v) :: lv.filter (fun q => !(q.1 == i) && !(q.1 + 1 == i && q.2.category == 2)) = lv') (hd : decode cc pc = .ok (.astore i, 2))
    (kk : V x k n ws lv' (pc + 2) st) : V x k n ws lv pc (.ref v :: st) :=
  fun H locs ls hP hD hS hl => lv_astore X.1 X.2.1 hd hl hn hl' (fun ls' hl2 => kk H locs ls' hP hD hS hl2)
theorem v_iinc (X : Cx x cc own d0) {i : Nat} {c0 : Int} {u v : Int32} {lv' : List (Nat × Value)} (j : Nat) (hj : lv[j]? = some (i, .int u)) (hv : u + Int32.ofInt c0 = v) (hn : i < vxn x) (hl' : (i, Value.int v) :: lv.filter (fun q => !(q.1 == i) && !(q.1 + 1 == i && q.2.category == 2)) = lv') (hd : decode cc pc = .ok (.iinc i c0, 3))
    (kk : V x k n ws lv' (pc + 3) st) : V x k n ws lv pc st :=
  fun H locs ls hP hD hS hl => lv_iinc X.1 X.2.1 hd hl hj hv hn hl' (fun ls' hl2 => kk H locs ls' hP hD hS hl2)
theorem v_iadd (X : Cx x cc own d0) {a b : Int32} (hd : decode cc pc = .ok (.iadd, 1))
    (kk : V x k n ws lv (pc + 1) (.int (a + b) :: st)) : V x k n ws lv pc (.int b :: .int a :: st) :=
  fun H locs ls hP hD hS hl => lv_iadd X.1 X.2.1 hd (kk H locs ls hP hD hS hl)
theorem v_isub (X : Cx x cc own d0) {a b : Int32} (hd : decode cc pc = .ok (.isub, 1))
    (kk : V x k n ws lv (pc + 1) (.int (a - b) :: st)) : V x k n ws lv pc (.int b :: .int a :: st) :=
  fun H locs ls hP hD hS hl => lv_isub X.1 X.2.1 hd (kk H locs ls hP hD hS hl)
theorem v_imul (X : Cx x cc own d0) {a b : Int32} (hd : decode cc pc = .ok (.imul, 1))
    (kk : V x k n ws lv (pc + 1) (.int (a * b) :: st)) : V x k n ws lv pc (.int b :: .int a :: st) :=
  fun H locs ls hP hD hS hl => lv_imul X.1 X.2.1 hd (kk H locs ls hP hD hS hl)
theorem v_iand (X : Cx x cc own d0) {a b : Int32} (hd : decode cc pc = .ok (.iand, 1))
    (kk : V x k n ws lv (pc + 1) (.int (a &&& b) :: st)) : V x k n ws lv pc (.int b :: .int a :: st) :=
  fun H locs ls hP hD hS hl => lv_iand X.1 X.2.1 hd (kk H locs ls hP hD hS hl)
theorem v_ior (X : Cx x cc own d0) {a b : Int32} (hd : decode cc pc = .ok (.ior, 1))
    (kk : V x k n ws lv (pc + 1) (.int (a ||| b) :: st)) : V x k n ws lv pc (.int b :: .int a :: st) :=
  fun H locs ls hP hD hS hl => lv_ior X.1 X.2.1 hd (kk H locs ls hP hD hS hl)
theorem v_ixor (X : Cx x cc own d0) {a b : Int32} (hd : decode cc pc = .ok (.ixor, 1))
    (kk : V x k n ws lv (pc + 1) (.int (a ^^^ b) :: st)) : V x k n ws lv pc (.int b :: .int a :: st) :=
  fun H locs ls hP hD hS hl => lv_ixor X.1 X.2.1 hd (kk H locs ls hP hD hS hl)
theorem v_ishl (X : Cx x cc own d0) {a b : Int32} (hd : decode cc pc = .ok (.ishl, 1))
    (kk : V x k n ws lv (pc + 1) (.int (a <<< (b &&& 31)) :: st)) : V x k n ws lv pc (.int b :: .int a :: st) :=
  fun H locs ls hP hD hS hl => lv_ishl X.1 X.2.1 hd (kk H locs ls hP hD hS hl)
theorem v_ishr (X : Cx x cc own d0) {a b : Int32} (hd : decode cc pc = .ok (.ishr, 1))
    (kk : V x k n ws lv (pc + 1) (.int (a >>> (b &&& 31)) :: st)) : V x k n ws lv pc (.int b :: .int a :: st) :=
  fun H locs ls hP hD hS hl => lv_ishr X.1 X.2.1 hd (kk H locs ls hP hD hS hl)
theorem v_ladd (X : Cx x cc own d0) {a b : Int64} (hd : decode cc pc = .ok (.ladd, 1))
    (kk : V x k n ws lv (pc + 1) (.long (a + b) :: st)) : V x k n ws lv pc (.long b :: .long a :: st) :=
  fun H locs ls hP hD hS hl => lv_ladd X.1 X.2.1 hd (kk H locs ls hP hD hS hl)
theorem v_lsub (X : Cx x cc own d0) {a b : Int64} (hd : decode cc pc = .ok (.lsub, 1))
    (kk : V x k n ws lv (pc + 1) (.long (a - b) :: st)) : V x k n ws lv pc (.long b :: .long a :: st) :=
  fun H locs ls hP hD hS hl => lv_lsub X.1 X.2.1 hd (kk H locs ls hP hD hS hl)
theorem v_lmul (X : Cx x cc own d0) {a b : Int64} (hd : decode cc pc = .ok (.lmul, 1))
    (kk : V x k n ws lv (pc + 1) (.long (a * b) :: st)) : V x k n ws lv pc (.long b :: .long a :: st) :=
  fun H locs ls hP hD hS hl => lv_lmul X.1 X.2.1 hd (kk H locs ls hP hD hS hl)
theorem v_ineg (X : Cx x cc own d0) {a : Int32} (hd : decode cc pc = .ok (.ineg, 1))
    (kk : V x k n ws lv (pc + 1) (.int (-a) :: st)) : V x k n ws lv pc (.int a :: st) :=
  fun H locs ls hP hD hS hl => lv_ineg X.1 X.2.1 hd (kk H locs ls hP hD hS hl)
theorem v_lneg (X : Cx x cc own d0) {a : Int64} (hd : decode cc pc = .ok (.lneg, 1))
    (kk : V x k n ws lv (pc + 1) (.long (-a) :: st)) : V x k n ws lv pc (.long a :: st) :=
  fun H locs ls hP hD hS hl => lv_lneg X.1 X.2.1 hd (kk H locs ls hP hD hS hl)
theorem v_idiv (X : Cx x cc own d0) {a b : Int32} (hne : ¬ b = 0) (hd : decode cc pc = .ok (.idiv, 1))
    (kk : V x k n ws lv (pc + 1) (.int (a / b) :: st)) : V x k n ws lv pc (.int b :: .int a :: st) :=
  fun H locs ls hP hD hS hl => lv_idiv X.1 X.2.1 hd hne (kk H locs ls hP hD hS hl)
theorem v_irem (X : Cx x cc own d0) {a b : Int32} (hne : ¬ b = 0) (hd : decode cc pc = .ok (.irem, 1))
    (kk : V x k n ws lv (pc + 1) (.int (a - a / b * b) :: st)) : V x k n ws lv pc (.int b :: .int a :: st) :=
  fun H locs ls hP hD hS hl => lv_irem X.1 X.2.1 hd hne (kk H locs ls hP hD hS hl)
theorem v_ldiv (X : Cx x cc own d0) {a b : Int64} (hne : ¬ b = 0) (hd : decode cc pc = .ok (.ldiv, 1))
    (kk : V x k n ws lv (pc + 1) (.long (a / b) :: st)) : V x k n ws lv pc (.long b :: .long a :: st) :=
  fun H locs ls hP hD hS hl => lv_ldiv X.1 X.2.1 hd hne (kk H locs ls hP hD hS hl)
theorem v_lrem (X : Cx x cc own d0) {a b : Int64} (hne : ¬ b = 0) (hd : decode cc pc = .ok (.lrem, 1))
    (kk : V x k n ws lv (pc + 1) (.long (a - a / b * b) :: st)) : V x k n ws lv pc (.long b :: .long a :: st) :=
  fun H locs ls hP hD hS hl => lv_lrem X.1 X.2.1 hd hne (kk H locs ls hP hD hS hl)
theorem v_i2l (X : Cx x cc own d0) {a : Int32} (hd : decode cc pc = .ok (.i2l, 1))
    (kk : V x k n ws lv (pc + 1) (.long a.toInt64 :: st)) : V x k n ws lv pc (.int a :: st) :=
  fun H locs ls hP hD hS hl => lv_i2l X.1 X.2.1 hd rfl (kk H locs ls hP hD hS hl)
theorem v_l2i (X : Cx x cc own d0) {a : Int64} (hd : decode cc pc = .ok (.l2i, 1))
    (kk : V x k n ws lv (pc + 1) (.int a.toInt32 :: st)) : V x k n ws lv pc (.long a :: st) :=
  fun H locs ls hP hD hS hl => lv_l2i X.1 X.2.1 hd rfl (kk H locs ls hP hD hS hl)
theorem v_i2b (X : Cx x cc own d0) {a : Int32} (hd : decode cc pc = .ok (.i2b, 1))
    (kk : V x k n ws lv (pc + 1) (.int a.toInt8.toInt32 :: st)) : V x k n ws lv pc (.int a :: st) :=
  fun H locs ls hP hD hS hl => lv_i2b X.1 X.2.1 hd rfl (kk H locs ls hP hD hS hl)
theorem v_i2s (X : Cx x cc own d0) {a : Int32} (hd : decode cc pc = .ok (.i2s, 1))
    (kk : V x k n ws lv (pc + 1) (.int a.toInt16.toInt32 :: st)) : V x k n ws lv pc (.int a :: st) :=
  fun H locs ls hP hD hS hl => lv_i2s X.1 X.2.1 hd rfl (kk H locs ls hP hD hS hl)
theorem v_i2c (X : Cx x cc own d0) {a : Int32} (hd : decode cc pc = .ok (.i2c, 1))
    (kk : V x k n ws lv (pc + 1) (.int (a.toUInt32 % 65536).toInt32 :: st)) : V x k n ws lv pc (.int a :: st) :=
  fun H locs ls hP hD hS hl => lv_i2c X.1 X.2.1 hd rfl (kk H locs ls hP hD hS hl)
theorem v_iushr (X : Cx x cc own d0) {a b : Int32} (hd : decode cc pc = .ok (.iushr, 1))
    (kk : V x k n ws lv (pc + 1) (.int (a.toUInt32 >>> (b.toUInt32 &&& Int32.toUInt32 31)).toInt32 :: st)) : V x k n ws lv pc (.int b :: .int a :: st) :=
  fun H locs ls hP hD hS hl => lv_iushr X.1 X.2.1 hd rfl (kk H locs ls hP hD hS hl)
theorem v_lcmp (X : Cx x cc own d0) {a b : Int64} (hd : decode cc pc = .ok (.lcmp, 1))
    (kk : V x k n ws lv (pc + 1) (.int (lg_cmp a b) :: st)) : V x k n ws lv pc (.long b :: .long a :: st) :=
  fun H locs ls hP hD hS hl => W.lcmp X.1 X.2.1 hd (kk H locs ls hP hD hS hl)
theorem v_dup (X : Cx x cc own d0) {a : Value} (ha : a.category = 1) (hd : decode cc pc = .ok (.dup, 1))
    (kk : V x k n ws lv (pc + 1) (a :: a :: st)) : V x k n ws lv pc (a :: st) :=
  fun H locs ls hP hD hS hl => lv_dup X.1 X.2.1 hd ha (kk H locs ls hP hD hS hl)
theorem v_pop (X : Cx x cc own d0) {a : Value} (ha : a.category = 1) (hd : decode cc pc = .ok (.pop, 1))
    (kk : V x k n ws lv (pc + 1) st) : V x k n ws lv pc (a :: st) :=
  fun H locs ls hP hD hS hl => lv_pop X.1 X.2.1 hd ha (kk H locs ls hP hD hS hl)
theorem v_dup2 (X : Cx x cc own d0) {a b : Value} (ha : a.category = 1) (hb : b.category = 1) (hd : decode cc pc = .ok (.dup2, 1))
    (kk : V x k n ws lv (pc + 1) (a :: b :: a :: b :: st)) : V x k n ws lv pc (a :: b :: st) :=
  fun H locs ls hP hD hS hl => lv_dup2_11 X.1 X.2.1 hd ha hb (kk H locs ls hP hD hS hl)
theorem v_dupx1 (X : Cx x cc own d0) {a b : Value} (ha : a.category = 1) (hb : b.category = 1) (hd : decode cc pc = .ok (.dup_x1, 1))
    (kk : V x k n ws lv (pc + 1) (a :: b :: a :: st)) : V x k n ws lv pc (a :: b :: st) :=
  fun H locs ls hP hD hS hl => lv_dup_x1 X.1 X.2.1 hd ha hb (kk H locs ls hP hD hS hl)
theorem v_goto (X : Cx x cc own d0) {off : Int} {tgt : Nat} (ht : (pc : Int) + off = (tgt : Int)) (hd : decode cc pc = .ok (.goto off, 3)) (kk : V x k n ws lv tgt st) : V x k n ws lv pc st :=
  fun H locs ls hP hD hS hl => lv_goto X.1 X.2.1 hd ht (kk H locs ls hP hD hS hl)
theorem v_if_eq (X : Cx x cc own d0) {a : Int32} {off : Int} {tgt : Nat} {d : Decidable (a = 0)} {g1 g2 : Option α} (hf : @ite _ (a = 0) d g1 g2 = some r) (ht : (pc : Int) + off = (tgt : Int)) (hd : decode cc pc = .ok (.ifCond .eq off, 3))
    (kt : a = 0 → g1 = some r → V x k n ws lv tgt st) (kf : ¬ a = 0 → g2 = some r → V x k n ws lv (pc + 3) st) : V x k n ws lv pc (.int a :: st) :=
  fun H locs ls hP hD hS hl => lv_if_eq X.1 X.2.1 hd ht (fun h => kt h (by rwa [if_pos h] at hf) H locs ls hP hD hS hl) (fun h => kf h (by rwa [if_neg h] at hf) H locs ls hP hD hS hl)
theorem v_if_eq_T (X : Cx x cc own d0) {a : Int32} {off : Int} {tgt : Nat} (h : a = 0) (ht : (pc : Int) + off = (tgt : Int)) (hd : decode cc pc = .ok (.ifCond .eq off, 3)) (kt : V x k n ws lv tgt st) : V x k n ws lv pc (.int a :: st) :=
  fun H locs ls hP hD hS hl => lv_if_eq X.1 X.2.1 hd ht (fun _ => kt H locs ls hP hD hS hl) (fun h2 => absurd h h2)
theorem v_if_eq_F (X : Cx x cc own d0) {a : Int32} {off : Int} {tgt : Nat} (h : ¬ a = 0) (ht : (pc : Int) + off = (tgt : Int)) (hd : decode cc pc = .ok (.ifCond .eq off, 3)) (kf : V x k n ws lv (pc + 3) st) : V x k n ws lv pc (.int a :: st) :=
  fun H locs ls hP hD hS hl => lv_if_eq X.1 X.2.1 hd ht (fun h2 => absurd h2 h) (fun _ => kf H locs ls hP hD hS hl)
theorem v_icmp_eq (X : Cx x cc own d0) {a b : Int32} {off : Int} {tgt : Nat} {d : Decidable (a = b)} {g1 g2 : Option α} (hf : @ite _ (a = b) d g1 g2 = some r) (ht : (pc : Int) + off = (tgt : Int)) (hd : decode cc pc = .ok (.if_icmp .eq off, 3))
    (kt : a = b → g1 = some r → V x k n ws lv tgt st) (kf : ¬ a = b → g2 = some r → V x k n ws lv (pc + 3) st) : V x k n ws lv pc (.int b :: .int a :: st) :=
  fun H locs ls hP hD hS hl => lv_icmp_eq X.1 X.2.1 hd ht (fun h => kt h (by rwa [if_pos h] at hf) H locs ls hP hD hS hl) (fun h => kf h (by rwa [if_neg h] at hf) H locs ls hP hD hS hl)
theorem v_icmp_eq_T (X : Cx x cc own d0) {a b : Int32} {off : Int} {tgt : Nat} (h : a = b) (ht : (pc : Int) + off = (tgt : Int)) (hd : decode cc pc = .ok (.if_icmp .eq off, 3)) (kt : V x k n ws lv tgt st) : V x k n ws lv pc (.int b :: .int a :: st) :=
  fun H locs ls hP hD hS hl => lv_icmp_eq X.1 X.2.1 hd ht (fun _ => kt H locs ls hP hD hS hl) (fun h2 => absurd h h2)
theorem v_icmp_eq_F (X : Cx x cc own d0) {a b : Int32} {off : Int} {tgt : Nat} (h : ¬ a = b) (ht : (pc : Int) + off = (tgt : Int)) (hd : decode cc pc = .ok (.if_icmp .eq off, 3)) (kf : V x k n ws lv (pc + 3) st) : V x k n ws lv pc (.int b :: .int a :: st) :=
  fun H locs ls hP hD hS hl => lv_icmp_eq X.1 X.2.1 hd ht (fun h2 => absurd h2 h) (fun _ => kf H locs ls hP hD hS hl)
theorem v_if_ne (X : Cx x cc own d0) {a : Int32} {off : Int} {tgt : Nat} {d : Decidable (a = 0)} {g1 g2 : Option α} (hf : @ite _ (a = 0) d g1 g2 = some r) (ht : (pc : Int) + off = (tgt : Int)) (hd : decode cc pc = .ok (.ifCond .ne off, 3))
    (kt : ¬ a = 0 → g2 = some r → V x k n ws lv tgt st) (kf : a = 0 → g1 = some r → V x k n ws lv (pc + 3) st) : V x k n ws lv pc (.int a :: st) :=
  fun H locs ls hP hD hS hl => lv_if_ne X.1 X.2.1 hd ht (fun h => kt h (by rwa [if_neg h] at hf) H locs ls hP hD hS hl) (fun h => kf h (by rwa [if_pos h] at hf) H locs ls hP hD hS hl)
theorem v_if_ne_T (X : Cx x cc own d0) {a : Int32} {off : Int} {tgt : Nat} (h : ¬ a = 0) (ht : (pc : Int) + off = (tgt : Int)) (hd : decode cc pc = .ok (.ifCond .ne off, 3)) (kt : V x k n ws lv tgt st) : V x k n ws lv pc (.int a :: st) :=
  fun H locs ls hP hD hS hl => lv_if_ne X.1 X.2.1 hd ht (fun _ => kt H locs ls hP hD hS hl) (fun h2 => absurd h (fun q => q h2))
theorem v_if_ne_F (X : Cx x cc own d0) {a : Int32} {off : Int} {tgt : Nat} (h : a = 0) (ht : (pc : Int) + off = (tgt : Int)) (hd : decode cc pc = .ok (.ifCond .ne off, 3)) (kf : V x k n ws lv (pc + 3) st) : V x k n ws lv pc (.int a :: st) :=
  fun H locs ls hP hD hS hl => lv_if_ne X.1 X.2.1 hd ht (fun h2 => absurd h h2) (fun _ => kf H locs ls hP hD hS hl)
theorem v_icmp_ne (X : Cx x cc own d0) {a b : Int32} {off : Int} {tgt : Nat} {d : Decidable (a = b)} {g1 g2 : Option α} (hf : @ite _ (a = b) d g1 g2 = some r) (ht : (pc : Int) + off = (tgt : Int)) (hd : decode cc pc = .ok (.if_icmp .ne off, 3))
    (kt : ¬ a = b → g2 = some r → V x k n ws lv tgt st) (kf : a = b → g1 = some r → V x k n ws lv (pc + 3) st) : V x k n ws lv pc (.int b :: .int a :: st) :=
  fun H locs ls hP hD hS hl => lv_icmp_ne X.1 X.2.1 hd ht (fun h => kt h (by rwa [if_neg h] at hf) H locs ls hP hD hS hl) (fun h => kf h (by rwa [if_pos h] at hf) H locs ls hP hD hS hl)
theorem v_icmp_ne_T (X : Cx x cc own d0) {a b : Int32} {off : Int} {tgt : Nat} (h : ¬ a = b) (ht : (pc : Int) + off = (tgt : Int)) (hd : decode cc pc = .ok (.if_icmp .ne off, 3)) (kt : V x k n ws lv tgt st) : V x k n ws lv pc (.int b :: .int a :: st) :=
  fun H locs ls hP hD hS hl => lv_icmp_ne X.1 X.2.1 hd ht (fun _ => kt H locs ls hP hD hS hl) (fun h2 => absurd h (fun q => q h2))
theorem v_icmp_ne_F (X : Cx x cc own d0) {a b : Int32} {off : Int} {tgt : Nat} (h : a = b) (ht : (pc : Int) + off = (tgt : Int)) (hd : decode cc pc = .ok (.if_icmp .ne off, 3)) (kf : V x k n ws lv (pc + 3) st) : V x k n ws lv pc (.int b :: .int a :: st) :=
  fun H locs ls hP hD hS hl => lv_icmp_ne X.1 X.2.1 hd ht (fun h2 => absurd h h2) (fun _ => kf H locs ls hP hD hS hl)
theorem v_if_lt (X : Cx x cc own d0) {a : Int32} {off : Int} {tgt : Nat} {d : Decidable (a < 0)} {g1 g2 : Option α} (hf : @ite _ (a < 0) d g1 g2 = some r) (ht : (pc : Int) + off = (tgt : Int)) (hd : decode cc pc = .ok (.ifCond .lt off, 3))
    (kt : a < 0 → g1 = some r → V x k n ws lv tgt st) (kf : ¬ a < 0 → g2 = some r → V x k n ws lv (pc + 3) st) : V x k n ws lv pc (.int a :: st) :=
  fun H locs ls hP hD hS hl => lv_if_lt X.1 X.2.1 hd ht (fun h => kt h (by rwa [if_pos h] at hf) H locs ls hP hD hS hl) (fun h => kf h (by rwa [if_neg h] at hf) H locs ls hP hD hS hl)
theorem v_if_lt_T (X : Cx x cc own d0) {a : Int32} {off : Int} {tgt : Nat} (h : a < 0) (ht : (pc : Int) + off = (tgt : Int)) (hd : decode cc pc = .ok (.ifCond .lt off, 3)) (kt : V x k n ws lv tgt st) : V x k n ws lv pc (.int a :: st) :=
  fun H locs ls hP hD hS hl => lv_if_lt X.1 X.2.1 hd ht (fun _ => kt H locs ls hP hD hS hl) (fun h2 => absurd h h2)
theorem v_if_lt_F (X : Cx x cc own d0) {a : Int32} {off : Int} {tgt : Nat} (h : ¬ a < 0) (ht : (pc : Int) + off = (tgt : Int)) (hd : decode cc pc = .ok (.ifCond .lt off, 3)) (kf : V x k n ws lv (pc + 3) st) : V x k n ws lv pc (.int a :: st) :=
  fun H locs ls hP hD hS hl => lv_if_lt X.1 X.2.1 hd ht (fun h2 => absurd h2 h) (fun _ => kf H locs ls hP hD hS hl)
theorem v_icmp_lt (X : Cx x cc own d0) {a b : Int32} {off : Int} {tgt : Nat} {d : Decidable (a < b)} {g1 g2 : Option α} (hf : @ite _ (a < b) d g1 g2 = some r) (ht : (pc : Int) + off = (tgt : Int)) (hd : decode cc pc = .ok (.if_icmp .lt off, 3))
    (kt : a < b → g1 = some r → V x k n ws lv tgt st) (kf : ¬ a < b → g2 = some r → V x k n ws lv (pc + 3) st) : V x k n ws lv pc (.int b :: .int a :: st) :=
  fun H locs ls hP hD hS hl => lv_icmp_lt X.1 X.2.1 hd ht (fun h => kt h (by rwa [if_pos h] at hf) H locs ls hP hD hS hl) (fun h => kf h (by rwa [if_neg h] at hf) H locs ls hP hD hS hl)
theorem v_icmp_lt_T (X : Cx x cc own d0) {a b : Int32} {off : Int} {tgt : Nat} (h : a < b) (ht : (pc : Int) + off = (tgt : Int)) (hd : decode cc pc = .ok (.if_icmp .lt off, 3)) (kt : V x k n ws lv tgt st) : V x k n ws lv pc (.int b :: .int a :: st) :=
  fun H locs ls hP hD hS hl => lv_icmp_lt X.1 X.2.1 hd ht (fun _ => kt H locs ls hP hD hS hl) (fun h2 => absurd h h2)
theorem v_icmp_lt_F (X : Cx x cc own d0) {a b : Int32} {off : Int} {tgt : Nat} (h : ¬ a < b) (ht : (pc : Int) + off = (tgt : Int)) (hd : decode cc pc = .ok (.if_icmp .lt off, 3)) (kf : V x k n ws lv (pc + 3) st) : V x k n ws lv pc (.int b :: .int a :: st) :=
  fun H locs ls hP hD hS hl => lv_icmp_lt X.1 X.2.1 hd ht (fun h2 => absurd h2 h) (fun _ => kf H locs ls hP hD hS hl)
theorem v_if_ge (X : Cx x cc own d0) {a : Int32} {off : Int} {tgt : Nat} {d : Decidable (0 ≤ a)} {g1 g2 : Option α} (hf : @ite _ (0 ≤ a) d g1 g2 = some r) (ht : (pc : Int) + off = (tgt : Int)) (hd : decode cc pc = .ok (.ifCond .ge off, 3))
    (kt : 0 ≤ a → g1 = some r → V x k n ws lv tgt st) (kf : ¬ 0 ≤ a → g2 = some r → V x k n ws lv (pc + 3) st) : V x k n ws lv pc (.int a :: st) :=
  fun H locs ls hP hD hS hl => lv_if_ge X.1 X.2.1 hd ht (fun h => kt h (by rwa [if_pos h] at hf) H locs ls hP hD hS hl) (fun h => kf h (by rwa [if_neg h] at hf) H locs ls hP hD hS hl)
theorem v_if_ge_T (X : Cx x cc own d0) {a : Int32} {off : Int} {tgt : Nat} (h : 0 ≤ a) (ht : (pc : Int) + off = (tgt : Int)) (hd : decode cc pc = .ok (.ifCond .ge off, 3)) (kt : V x k n ws lv tgt st) : V x k n ws lv pc (.int a :: st) :=
  fun H locs ls hP hD hS hl => lv_if_ge X.1 X.2.1 hd ht (fun _ => kt H locs ls hP hD hS hl) (fun h2 => absurd h h2)
theorem v_if_ge_F (X : Cx x cc own d0) {a : Int32} {off : Int} {tgt : Nat} (h : ¬ 0 ≤ a) (ht : (pc : Int) + off = (tgt : Int)) (hd : decode cc pc = .ok (.ifCond .ge off, 3)) (kf : V x k n ws lv (pc + 3) st) : V x k n ws lv pc (.int a :: st) :=
  fun H locs ls hP hD hS hl => lv_if_ge X.1 X.2.1 hd ht (fun h2 => absurd h2 h) (fun _ => kf H locs ls hP hD hS hl)
theorem v_icmp_ge (X : Cx x cc own d0) {a b : Int32} {off : Int} {tgt : Nat} {d : Decidable (b ≤ a)} {g1 g2 : Option α} (hf : @ite _ (b ≤ a) d g1 g2 = some r) (ht : (pc : Int) + off = (tgt : Int)) (hd : decode cc pc = .ok (.if_icmp .ge off, 3))
    (kt : b ≤ a → g1 = some r → V x k n ws lv tgt st) (kf : ¬ b ≤ a → g2 = some r → V x k n ws lv (pc + 3) st) : V x k n ws lv pc (.int b :: .int a :: st) :=
  fun H locs ls hP hD hS hl => lv_icmp_ge X.1 X.2.1 hd ht (fun h => kt h (by rwa [if_pos h] at hf) H locs ls hP hD hS hl) (fun h => kf h (by rwa [if_neg h] at hf) H locs ls hP hD hS hl)
theorem v_icmp_ge_T (X : Cx x cc own d0) {a b : Int32} {off : Int} {tgt : Nat} (h : b ≤ a) (ht : (pc : Int) + off = (tgt : Int)) (hd : decode cc pc = .ok (.if_icmp .ge off, 3)) (kt : V x k n ws lv tgt st) : V x k n ws lv pc (.int b :: .int a :: st) :=
  fun H locs ls hP hD hS hl => lv_icmp_ge X.1 X.2.1 hd ht (fun _ => kt H locs ls hP hD hS hl) (fun h2 => absurd h h2)
theorem v_icmp_ge_F (X : Cx x cc own d0) {a b : Int32} {off : Int} {tgt : Nat} (h : ¬ b ≤ a) (ht : (pc : Int) + off = (tgt : Int)) (hd : decode cc pc = .ok (.if_icmp .ge off, 3)) (kf : V x k n ws lv (pc + 3) st) : V x k n ws lv pc (.int b :: .int a :: st) :=
  fun H locs ls hP hD hS hl => lv_icmp_ge X.1 X.2.1 hd ht (fun h2 => absurd h2 h) (fun _ => kf H locs ls hP hD hS hl)
theorem v_if_gt (X : Cx x cc own d0) {a : Int32} {off : Int} {tgt : Nat} {d : Decidable (0 < a)} {g1 g2 : Option α} (hf : @ite _ (0 < a) d g1 g2 = some r) (ht : (pc : Int) + off = (tgt : Int)) (hd : decode cc pc = .ok (.ifCond .gt off, 3))
    (kt : 0 < a → g1 = some r → V x k n ws lv tgt st) (kf : ¬ 0 < a → g2 = some r → V x k n ws lv (pc + 3) st) : V x k n ws lv pc (.int a :: st) :=
  fun H locs ls hP hD hS hl => lv_if_gt X.1 X.2.1 hd ht (fun h => kt h (by rwa [if_pos h] at hf) H locs ls hP hD hS hl) (fun h => kf h (by rwa [if_neg h] at hf) H locs ls hP hD hS hl)
theorem v_if_gt_T (X : Cx x cc own d0) {a : Int32} {off : Int} {tgt : Nat} (h : 0 < a) (ht : (pc : Int) + off = (tgt : Int)) (hd : decode cc pc = .ok (.ifCond .gt off, 3)) (kt : V x k n ws lv tgt st) : V x k n ws lv pc (.int a :: st) :=
  fun H locs ls hP hD hS hl => lv_if_gt X.1 X.2.1 hd ht (fun _ => kt H locs ls hP hD hS hl) (fun h2 => absurd h h2)
theorem v_if_gt_F (X : Cx x cc own d0) {a : Int32} {off : Int} {tgt : Nat} (h : ¬ 0 < a) (ht : (pc : Int) + off = (tgt : Int)) (hd : decode cc pc = .ok (.ifCond .gt off, 3)) (kf : V x k n ws lv (pc + 3) st) : V x k n ws lv pc (.int a :: st) :=
  fun H locs ls hP hD hS hl => lv_if_gt X.1 X.2.1 hd ht (fun h2 => absurd h2 h) (fun _ => kf H locs ls hP hD hS hl)
theorem v_icmp_gt (X : Cx x cc own d0) {a b : Int32} {off : Int} {tgt : Nat} {d : Decidable (b < a)} {g1 g2 : Option α} (hf : @ite _ (b < a) d g1 g2 = some r) (ht : (pc : Int) + off = (tgt : Int)) (hd : decode cc pc = .ok (.if_icmp .gt off, 3))
    (kt : b < a → g1 = some r → V x k n ws lv tgt st) (kf : ¬ b < a → g2 = some r → V x k n ws lv (pc + 3) st) : V x k n ws lv pc (.int b :: .int a :: st) :=
  fun H locs ls hP hD hS hl => lv_icmp_gt X.1 X.2.1 hd ht (fun h => kt h (by rwa [if_pos h] at hf) H locs ls hP hD hS hl) (fun h => kf h (by rwa [if_neg h] at hf) H locs ls hP hD hS hl)
theorem v_icmp_gt_T (X : Cx x cc own d0) {a b : Int32} {off : Int} {tgt : Nat} (h : b < a) (ht : (pc : Int) + off = (tgt : Int)) (hd : decode cc pc = .ok (.if_icmp .gt off, 3)) (kt : V x k n ws lv tgt st) : V x k n ws lv pc (.int b :: .int a :: st) :=
  fun H locs ls hP hD hS hl => lv_icmp_gt X.1 X.2.1 hd ht (fun _ => kt H locs ls hP hD hS hl) (fun h2 => absurd h h2)
theorem v_icmp_gt_F (X : Cx x cc own d0) {a b : Int32} {off : Int} {tgt : Nat} (h : ¬ b < a) (ht : (pc : Int) + off = (tgt : Int)) (hd : decode cc pc = .ok (.if_icmp .gt off, 3)) (kf : V x k n ws lv (pc + 3) st) : V x k n ws lv pc (.int b :: .int a :: st) :=
  fun H locs ls hP hD hS hl => lv_icmp_gt X.1 X.2.1 hd ht (fun h2 => absurd h2 h) (fun _ => kf H locs ls hP hD hS hl)
theorem v_if_le (X : Cx x cc own d0) {a : Int32} {off : Int} {tgt : Nat} {d : Decidable (a ≤ 0)} {g1 g2 : Option α} (hf : @ite _ (a ≤ 0) d g1 g2 = some r) (ht : (pc : Int) + off = (tgt : Int)) (hd : decode cc pc = .ok (.ifCond .le off, 3))
    (kt : a ≤ 0 → g1 = some r → V x k n ws lv tgt st) (kf : ¬ a ≤ 0 → g2 = some r → V x k n ws lv (pc + 3) st) : V x k n ws lv pc (.int a :: st) :=
  fun H locs ls hP hD hS hl => lv_if_le X.1 X.2.1 hd ht (fun h => kt h (by rwa [if_pos h] at hf) H locs ls hP hD hS hl) (fun h => kf h (by rwa [if_neg h] at hf) H locs ls hP hD hS hl)
theorem v_if_le_T (X : Cx x cc own d0) {a : Int32} {off : Int} {tgt : Nat} (h : a ≤ 0) (ht : (pc : Int) + off = (tgt : Int)) (hd : decode cc pc = .ok (.ifCond .le off, 3)) (kt : V x k n ws lv tgt st) : V x k n ws lv pc (.int a :: st) :=
  fun H locs ls hP hD hS hl => lv_if_le X.1 X.2.1 hd ht (fun _ => kt H locs ls hP hD hS hl) (fun h2 => absurd h h2)
theorem v_if_le_F (X : Cx x cc own d0) {a : Int32} {off : Int} {tgt : Nat} (h : ¬ a ≤ 0) (ht : (pc : Int) + off = (tgt : Int)) (hd : decode cc pc = .ok (.ifCond .le off, 3)) (kf : V x k n ws lv (pc + 3) st) : V x k n ws lv pc (.int a :: st) :=
  fun H locs ls hP hD hS hl => lv_if_le X.1 X.2.1 hd ht (fun h2 => absurd h2 h) (fun _ => kf H locs ls hP hD hS hl)
theorem v_icmp_le (X : Cx x cc own d0) {a b : Int32} {off : Int} {tgt : Nat} {d : Decidable (a ≤ b)} {g1 g2 : Option α} (hf : @ite _ (a ≤ b) d g1 g2 = some r) (ht : (pc : Int) + off = (tgt : Int)) (hd : decode cc pc = .ok (.if_icmp .le off, 3))
    (kt : a ≤ b → g1 = some r → V x k n ws lv tgt st) (kf : ¬ a ≤ b → g2 = some r → V x k n ws lv (pc + 3) st) : V x k n ws lv pc (.int b :: .int a :: st) :=
  fun H locs ls hP hD hS hl => lv_icmp_le X.1 X.2.1 hd ht (fun h => kt h (by rwa [if_pos h] at hf) H locs ls hP hD hS hl) (fun h => kf h (by rwa [if_neg h] at hf) H locs ls hP hD hS hl)
theorem v_icmp_le_T (X : Cx x cc own d0) {a b : Int32} {off : Int} {tgt : Nat} (h : a ≤ b) (ht : (pc : Int) + off = (tgt : Int)) (hd : decode cc pc = .ok (.if_icmp .le off, 3)) (kt : V x k n ws lv tgt st) : V x k n ws lv pc (.int b :: .int a :: st) :=
  fun H locs ls hP hD hS hl => lv_icmp_le X.1 X.2.1 hd ht (fun _ => kt H locs ls hP hD hS hl) (fun h2 => absurd h h2)
theorem v_icmp_le_F (X : Cx x cc own d0) {a b : Int32} {off : Int} {tgt : Nat} (h : ¬ a ≤ b) (ht : (pc : Int) + off = (tgt : Int)) (hd : decode cc pc = .ok (.if_icmp .le off, 3)) (kf : V x k n ws lv (pc + 3) st) : V x k n ws lv pc (.int b :: .int a :: st) :=
  fun H locs ls hP hD hS hl => lv_icmp_le X.1 X.2.1 hd ht (fun h2 => absurd h2 h) (fun _ => kf H locs ls hP hD hS hl)
theorem v_ifnullN (X : Cx x cc own d0) {off : Int} {tgt : Nat} (ht : (pc : Int) + off = (tgt : Int)) (hd : decode cc pc = .ok (.ifnull off, 3)) (kk : V x k n ws lv tgt st) : V x k n ws lv pc (.null :: st) :=
  fun H locs ls hP hD hS hl => lv_ifnullN X.1 X.2.1 hd ht (kk H locs ls hP hD hS hl)
theorem v_ifnull (X : Cx x cc own d0) {a : Nat} {off : Int} (hd : decode cc pc = .ok (.ifnull off, 3)) (kk : V x k n ws lv (pc + 3) st) : V x k n ws lv pc (.ref a :: st) :=
  fun H locs ls hP hD hS hl => lv_ifnull X.1 X.2.1 hd (kk H locs ls hP hD hS hl)
theorem v_ifnonnullN (X : Cx x cc own d0) {off : Int} (hd : decode cc pc = .ok (.ifnonnull off, 3)) (kk : V x k n ws lv (pc + 3) st) : V x k n ws lv pc (.null :: st) :=
  fun H locs ls hP hD hS hl => lv_ifnonnullN X.1 X.2.1 hd (kk H locs ls hP hD hS hl)
theorem v_ifnonnull (X : Cx x cc own d0) {a : Nat} {off : Int} {tgt : Nat} (ht : (pc : Int) + off = (tgt : Int)) (hd : decode cc pc = .ok (.ifnonnull off, 3)) (kk : V x k n ws lv tgt st) : V x k n ws lv pc (.ref a :: st) :=
  fun H locs ls hP hD hS hl => lv_ifnonnull X.1 X.2.1 hd ht (kk H locs ls hP hD hS hl)
theorem v_tab_out (X : Cx x cc own d0) {dflt lo hi : Int} {offs : Array Int} {len : Nat} {a : Int32} {tgt : Nat} (h : a.toInt < lo ∨ hi < a.toInt) (ht : (pc : Int) + dflt = (tgt : Int)) (hd : decode cc pc = .ok (.tableswitch dflt lo hi offs, len)) (kk : V x k n ws lv tgt st) : V x k n ws lv pc (.int a :: st) :=
  fun H locs ls hP hD hS hl => lv_tableOut X.1 X.2.1 hd h ht (kk H locs ls hP hD hS hl)
theorem v_tab_in (X : Cx x cc own d0) {dflt lo hi : Int} {offs : Array Int} {len : Nat} {a : Int32} {off : Int} {tgt : Nat} (h1 : ¬ a.toInt < lo) (h2 : ¬ hi < a.toInt) (ho : offs[(a.toInt - lo).toNat]? = some off) (ht : (pc : Int) + off = (tgt : Int)) (hd : decode cc pc = .ok (.tableswitch dflt lo hi offs, len)) (kk : V x k n ws lv tgt st) : V x k n ws lv pc (.int a :: st) :=
  fun H locs ls hP hD hS hl => lv_tableIn X.1 X.2.1 hd h1 h2 ho ht (kk H locs ls hP hD hS hl)
theorem v_get (X : Cx x cc own d0) {ref C : String} {T : u_T} {N ci j a : Nat} (hin : ∀ w ∈ u_ws C T N, w ∈ gw) (q0 : Nat) {fs : List Value} (he : ws[q0]? = some (a, .inr (ci, fs))) (hc : vwCl[ci]? = some (C, T, N)) (f : Nat) (hk : f < N) (hlink : Cond.fieldLink own j ref (T f).2.1 (T f).2.2.1 ∈ gw) (hs : (T f).1 = ref) {v : Value} (hv : fs[f]? = some v) (hd : decode cc pc = .ok (.getfield j, 3))
    (kk : V x k n ws lv (pc + 3) (v :: st)) : V x k n ws lv pc (.ref a :: st) :=
  fun H locs ls hP hD hS hl => va_get X.1 X.2.1 X.2.2.2.2.1 hin X.2.2.2.1 X.2.2.2.2.2.1 hP q0 he hc f hk (X.2.2.2.2.1 _ hlink) (fun _ h9 => by rw [hs] at h9; exact h9) hv hd (kk H locs ls hP hD hS hl)
theorem v_put (X : Cx x cc own d0) {ref C : String} {T : u_T} {N ci j a : Nat} (hin : ∀ w ∈ u_ws C T N, w ∈ gw) (ty0 : Nat → FieldType) (hty : ∀ k, k < N → parseFieldDescriptor (T k).2.2.1 = some (ty0 k)) (hnm : ∀ a, a < N → ∀ b, b < N → a ≠ b → (T a).2.1 ≠ (T b).2.1) (q0 : Nat) {fs : List Value} (he : ws[q0]? = some (a, .inr (ci, fs))) (hc : vwCl[ci]? = some (C, T, N)) (f : Nat) (hk : f < N) (hlink : Cond.fieldLink own j ref (T f).2.1 (T f).2.2.1 ∈ gw) (hs : (T f).1 = ref) (hfin : (T f).2.2.2 = false) {ty : FieldType} {v : Value} (hty1 : ty0 f = ty) (hn : narrow ty v = v) (hfit : fits ty v = true) (hlen : f < fs.length) {ws' : va_W} (hw : ws.set q0 (a, .inr (ci, fs.set f v)) = ws') (hd : decode cc pc = .ok (.putfield j, 3))
    (kk : V x k n ws' lv (pc + 3) st) : V x k n ws lv pc (v :: .ref a :: st) := by
  intro H locs ls hP hD hS hl
  subst hw
  exact va_put X.1 X.2.1 X.2.2.2.2.1 hin ty0 hty hnm X.2.2.2.1 X.2.2.2.2.2.1 hP hD hS q0 he hc f hk (X.2.2.2.2.1 _ hlink) (fun _ h9 => by rw [hs] at h9; exact h9) hfin (by rw [hty f hk, hty1]) hn hfit hlen hd (fun H1 locs1 hP1 hD1 hS1 => kk H1 locs1 ls hP1 hD1 hS1 hl)
theorem v_putF (X : Cx x cc own d0) {ref C : String} {T : u_T} {N ci j a : Nat} (hin : ∀ w ∈ u_ws C T N, w ∈ gw) (ty0 : Nat → FieldType) (hty : ∀ k, k < N → parseFieldDescriptor (T k).2.2.1 = some (ty0 k)) (hnm : ∀ a, a < N → ∀ b, b < N → a ≠ b → (T a).2.1 ≠ (T b).2.1) (hini : (vxh x).name = "<init>") (q0 : Nat) {fs : List Value} (he : ws[q0]? = some (a, .inr (ci, fs))) (hc : vwCl[ci]? = some (C, T, N)) (f : Nat) (hk : f < N) (hlink : Cond.fieldLink own j ref (T f).2.1 (T f).2.2.1 ∈ gw) (hs : (T f).1 = ref) (hfin : (T f).2.2.2 = true) (hdecl : (T f).1 = own) {ty : FieldType} {v : Value} (hty1 : ty0 f = ty) (hn : narrow ty v = v) (hfit : fits ty v = true) (hlen : f < fs.length) {ws' : va_W} (hw : ws.set q0 (a, .inr (ci, fs.set f v)) = ws') (hd : decode cc pc = .ok (.putfield j, 3))
    (kk : V x k n ws' lv (pc + 3) st) : V x k n ws lv pc (v :: .ref a :: st) := by
  intro H locs ls hP hD hS hl
  subst hw
  exact va_putF X.1 X.2.1 X.2.2.2.2.1 hin ty0 hty hnm X.2.2.2.1 X.2.2.2.2.2.1 hP hD hS q0 he hc f hk (X.2.2.2.2.1 _ hlink) (fun _ h9 => by rw [hs] at h9; exact h9) hfin hini hdecl (by rw [hty f hk, hty1]) hn hfit hlen hd (fun H1 locs1 hP1 hD1 hS1 => kk H1 locs1 ls hP1 hD1 hS1 hl)

theorem v_iald_c (X : Cx x cc own d0) {a N : Nat} (q0 : Nat) {f : Nat → Int32} (ha : ws[q0]? = some (a, .inl (vxT x 0, N, .inl f))) {i : Int32} (hi : inb i N = true) (hd : decode cc pc = .ok (.iaload, 1))
    (kk : V x k n ws lv (pc + 1) (.int (f i.toNatClampNeg) :: st)) : V x k n ws lv pc (.int i :: .ref a :: st) :=
  fun H locs ls hP hD hS hl => va_iald X.1 X.2.1 X.2.2.2.2.2.1 hP q0 0 ha rfl (inb_vp hi) hd (kk H locs ls hP hD hS hl)
theorem v_iald (X : Cx x cc own d0) {a N : Nat} (q0 : Nat) {f : Nat → Int32} (ha : ws[q0]? = some (a, .inl (vxT x 0, N, .inl f))) {i : Int32} {g : Option α} (hf : (if inb i N = true then g else none) = some r) (hd : decode cc pc = .ok (.iaload, 1))
    (kk : inb i N = true → g = some r → V x k n ws lv (pc + 1) (.int (f i.toNatClampNeg) :: st)) : V x k n ws lv pc (.int i :: .ref a :: st) :=
  v_iald_c X q0 ha (if_some hf).1 hd (kk (if_some hf).1 (if_some hf).2)
theorem v_iast_c (X : Cx x cc own d0) {a N : Nat} (q0 : Nat) {f : Nat → Int32} (ha : ws[q0]? = some (a, .inl (vxT x 0, N, .inl f))) {i v : Int32} (hi : inb i N = true) {ws' : va_W} (hw : ws.set q0 (a, .inl (vxT x 0, N, .inl (upd f i.toNatClampNeg v))) = ws') (hd : decode cc pc = .ok (.iastore, 1))
    (kk : V x k n ws' lv (pc + 1) st) : V x k n ws lv pc (.int v :: .int i :: .ref a :: st) := by
  intro H locs ls hP hD hS hl
  subst hw
  exact va_iast X.1 X.2.1 X.2.2.2.2.2.1 hP hD hS q0 0 ha rfl (inb_vp hi) hd (fun H1 locs1 hP1 hD1 hS1 => kk H1 locs1 ls hP1 hD1 hS1 hl)
theorem v_iast (X : Cx x cc own d0) {a N : Nat} (q0 : Nat) {f : Nat → Int32} (ha : ws[q0]? = some (a, .inl (vxT x 0, N, .inl f))) {i v : Int32} {g : Option α} (hf : (if inb i N = true then g else none) = some r) {ws' : va_W} (hw : ws.set q0 (a, .inl (vxT x 0, N, .inl (upd f i.toNatClampNeg v))) = ws') (hd : decode cc pc = .ok (.iastore, 1))
    (kk : inb i N = true → g = some r → V x k n ws' lv (pc + 1) st) : V x k n ws lv pc (.int v :: .int i :: .ref a :: st) :=
  v_iast_c X q0 ha (if_some hf).1 hw hd (kk (if_some hf).1 (if_some hf).2)
theorem v_zald_c (X : Cx x cc own d0) {a N : Nat} (q0 : Nat) {f : Nat → Int32} (ha : ws[q0]? = some (a, .inl (vxT x 1, N, .inl f))) {i : Int32} (hi : inb i N = true) (hd : decode cc pc = .ok (.baload, 1))
    (kk : V x k n ws lv (pc + 1) (.int (f i.toNatClampNeg) :: st)) : V x k n ws lv pc (.int i :: .ref a :: st) :=
  fun H locs ls hP hD hS hl => va_zald X.1 X.2.1 X.2.2.2.2.2.1 hP q0 1 ha rfl (inb_vp hi) hd (kk H locs ls hP hD hS hl)
theorem v_zald (X : Cx x cc own d0) {a N : Nat} (q0 : Nat) {f : Nat → Int32} (ha : ws[q0]? = some (a, .inl (vxT x 1, N, .inl f))) {i : Int32} {g : Option α} (hf : (if inb i N = true then g else none) = some r) (hd : decode cc pc = .ok (.baload, 1))
    (kk : inb i N = true → g = some r → V x k n ws lv (pc + 1) (.int (f i.toNatClampNeg) :: st)) : V x k n ws lv pc (.int i :: .ref a :: st) :=
  v_zald_c X q0 ha (if_some hf).1 hd (kk (if_some hf).1 (if_some hf).2)
theorem v_zast_c (X : Cx x cc own d0) {a N : Nat} (q0 : Nat) {f : Nat → Int32} (ha : ws[q0]? = some (a, .inl (vxT x 1, N, .inl f))) {i v : Int32} (hi : inb i N = true) {ws' : va_W} (hw : ws.set q0 (a, .inl (vxT x 1, N, .inl (upd f i.toNatClampNeg (vp_nar .boolean v)))) = ws') (hd : decode cc pc = .ok (.bastore, 1))
    (kk : V x k n ws' lv (pc + 1) st) : V x k n ws lv pc (.int v :: .int i :: .ref a :: st) := by
  intro H locs ls hP hD hS hl
  subst hw
  exact va_zast X.1 X.2.1 X.2.2.2.2.2.1 hP hD hS q0 1 ha rfl (inb_vp hi) hd (fun H1 locs1 hP1 hD1 hS1 => kk H1 locs1 ls hP1 hD1 hS1 hl)
theorem v_zast (X : Cx x cc own d0) {a N : Nat} (q0 : Nat) {f : Nat → Int32} (ha : ws[q0]? = some (a, .inl (vxT x 1, N, .inl f))) {i v : Int32} {g : Option α} (hf : (if inb i N = true then g else none) = some r) {ws' : va_W} (hw : ws.set q0 (a, .inl (vxT x 1, N, .inl (upd f i.toNatClampNeg (vp_nar .boolean v)))) = ws') (hd : decode cc pc = .ok (.bastore, 1))
    (kk : inb i N = true → g = some r → V x k n ws' lv (pc + 1) st) : V x k n ws lv pc (.int v :: .int i :: .ref a :: st) :=
  v_zast_c X q0 ha (if_some hf).1 hw hd (kk (if_some hf).1 (if_some hf).2)
theorem v_alen (X : Cx x cc own d0) {a N : Nat} (q0 : Nat) {f : Nat → Int32} (ha : ws[q0]? = some (a, .inl (vxT x 0, N, .inl f))) {v : Int32} (hv : Int32.ofNat N = v) (hd : decode cc pc = .ok (.arraylength, 1))
    (kk : V x k n ws lv (pc + 1) (.int v :: st)) : V x k n ws lv pc (.ref a :: st) :=
  fun H locs ls hP hD hS hl => va_alen X.1 X.2.1 X.2.2.2.2.2.1 hP q0 0 ha (ty := .int) rfl hv hd (kk H locs ls hP hD hS hl)
theorem v_alenq (X : Cx x cc own d0) {a N : Nat} (q0 t0 : Nat) {C : String} {f : Nat → Option Nat} (ha : ws[q0]? = some (a, .inl (vxT x t0, N, .inr (.inr (.inr (.inr f)))))) (ht : (vTy (vxT x))[t0]? = some (vxT x t0, .object C)) {v : Int32} (hv : Int32.ofNat N = v) (hd : decode cc pc = .ok (.arraylength, 1))
    (kk : V x k n ws lv (pc + 1) (.int v :: st)) : V x k n ws lv pc (.ref a :: st) :=
  fun H locs ls hP hD hS hl => va_alen X.1 X.2.1 X.2.2.2.2.2.1 hP q0 t0 ha ht hv hd (kk H locs ls hP hD hS hl)
theorem v_aald (X : Cx x cc own d0) {a N : Nat} (q0 t0 : Nat) {C : String} {f : Nat → Option Nat} (ha : ws[q0]? = some (a, .inl (vxT x t0, N, .inr (.inr (.inr (.inr f)))))) (ht : (vTy (vxT x))[t0]? = some (vxT x t0, .object C)) {i : Int32} (hi : inb i N = true) (hd : decode cc pc = .ok (.aaload, 1))
    (kk : V x k n ws lv (pc + 1) (va_rf (f i.toNatClampNeg) :: st)) : V x k n ws lv pc (.int i :: .ref a :: st) :=
  fun H locs ls hP hD hS hl => va_aldq X.1 X.2.1 X.2.2.2.2.2.1 hP q0 t0 ha ht (inb_vp hi) hd (kk H locs ls hP hD hS hl)
/-- a division by what is not 0 -/
theorem v_idivq (X : Cx x cc own d0) {a b : Int32} {d : Decidable (b = 0)} {g : Option α} (hf : @ite _ (b = 0) d none g = some r) (hd : decode cc pc = .ok (.idiv, 1)) (kk : ¬ b = 0 → g = some r → V x k n ws lv (pc + 1) (.int (a / b) :: st)) : V x k n ws lv pc (.int b :: .int a :: st) := by
  by_cases h : b = 0
  · rw [if_pos h] at hf; cases hf
  · rw [if_neg h] at hf; exact v_idiv X h hd (kk h hf)
theorem v_iremq (X : Cx x cc own d0) {a b : Int32} {d : Decidable (b = 0)} {g : Option α} (hf : @ite _ (b = 0) d none g = some r) (hd : decode cc pc = .ok (.irem, 1)) (kk : ¬ b = 0 → g = some r → V x k n ws lv (pc + 1) (.int (a - a / b * b) :: st)) : V x k n ws lv pc (.int b :: .int a :: st) := by
  by_cases h : b = 0
  · rw [if_pos h] at hf; cases hf
  · rw [if_neg h] at hf; exact v_irem X h hd (kk h hf)
theorem v_ldivq (X : Cx x cc own d0) {a b : Int64} {d : Decidable (b = 0)} {g : Option α} (hf : @ite _ (b = 0) d none g = some r) (hd : decode cc pc = .ok (.ldiv, 1)) (kk : ¬ b = 0 → g = some r → V x k n ws lv (pc + 1) (.long (a / b) :: st)) : V x k n ws lv pc (.long b :: .long a :: st) := by
  by_cases h : b = 0
  · rw [if_pos h] at hf; cases hf
  · rw [if_neg h] at hf; exact v_ldiv X h hd (kk h hf)
theorem v_lremq (X : Cx x cc own d0) {a b : Int64} {d : Decidable (b = 0)} {g : Option α} (hf : @ite _ (b = 0) d none g = some r) (hd : decode cc pc = .ok (.lrem, 1)) (kk : ¬ b = 0 → g = some r → V x k n ws lv (pc + 1) (.long (a - a / b * b) :: st)) : V x k n ws lv pc (.long b :: .long a :: st) := by
  by_cases h : b = 0
  · rw [if_pos h] at hf; cases hf
  · rw [if_neg h] at hf; exact v_lrem X h hd (kk h hf)
end

