abbrev rmD (d mc ms : Nat) : Room := { frames := d, cells := mc, slots := ms, locals := 40 * d }
def PcW (D : va_G) (qT : Nat → ClassId) (Z : (Nat → Prop) → State → Heap → Prop) (as : List Value) (ws : va_W) (sz : Nat) : Array Value → State → Prop :=
  va_Pc as (fun U => U.heap.size = sz ∧ va_P D vwCl ws U.heap ∧ va_K D vwCl (vTy qT) U ∧ va_D (fun _ => True) ws ∧ Z (va_A ws sz) U U.heap ∧ NW U)
def BW (D : va_G) (qT : Nat → ClassId) (ws ws' : va_W) (sz : Nat) : Unit → State → Prop := fun _ t => va_P D vwCl ws' t.heap ∧ va_K D vwCl (vTy qT) t ∧ va_D (va_A ws sz) ws'
theorem PcW_blind {D : va_G} {qT : Nat → ClassId} {Z : (Nat → Prop) → State → Heap → Prop} (hZ : ZOK Z) {as : List Value} {ws : va_W} {sz : Nat} : FrameBlind (PcW D qT Z as ws sz) := by
  intro a U g mk q
  obtain ⟨q0, q1, qP, qK, qD, qZ, qN⟩ := q
  exact ⟨q0, q1, qP, va_K.moved (u := U) (U := U.calling g mk a) (Vm.Alike.refl U.vm) qK, qD, hZ.2.1 _ U _ _ (Or.inl rfl) qZ, NW.same (s := U) (U := U.calling g mk a) rfl qN⟩
theorem PcW_at {x : VX} {cc : ByteArray} {own : String} {d0 : Nat} {ws wc : va_W} {H : Heap} {locs : List Loc} {as : List Value} (X : Cx x cc own d0) (hP : va_P (vxD x) vwCl ws H) (hD : va_D (vxA x) ws) (hS : va_S (vxA x) (vxs x).heap H locs) (isC : List Nat) (hn : va_nd isC = true) (hC : isC.map (fun i => ws[i]?) = wc.map some) :
    ∀ U : State, U.heap = H → (vxs x).WarmedH U.vm → PcW (vxD x) (vxT x) (vxZ x) as wc H.size as.toArray U := by
  intro U hU hW
  have hDc : va_D (vxA x) wc := hD.sub isC hn hC
  have hPc : va_P (vxD x) vwCl wc H := by
    intro k q hq
    have h1 : (isC.map (fun i => ws[i]?))[k]? = some (some q) := by rw [hC, List.getElem?_map, hq]; rfl
    rw [List.getElem?_map] at h1
    cases h2 : isC[k]? with
    | none => rw [h2] at h1; cases h1
    | some i => rw [h2] at h1; exact hP i q (by simpa using h1)
  have hF := va_free hD hS X.2.2.2.2.2.2.1 isC hC
  have hZ := X.2.2.2.2.2.2.2.1
  refine ⟨rfl, by rw [hU], by rw [hU]; exact hPc, va_K.moved hW.alike X.2.2.2.2.2.1, hDc.weaken (fun _ _ _ _ => trivial), ?_, NW.warm hW X.2.2.2.2.2.2.2.2.2.2.2⟩
  rw [hU]
  refine hZ.1 (vxA x) _ _ _ hF (hZ.2.1 _ (vxs x) _ _ (Or.inr hW) (hZ.2.2 _ _ (vxs x).heap _ ?_ X.2.2.2.2.2.2.2.2.1))
  intro a h1 h2
  exact hS.2.1 a h1 h2
/-- behind a call: the caller's other cells and what came back, in the order wanted -/
theorem BW_join {x : VX} {ws wc wr wc' ws' : va_W} {H H1 : Heap} {t : State} (ht : t.heap = H1) (hP : va_P (vxD x) vwCl ws H) (hD : va_D (vxA x) ws) (isC isR js : List Nat) (hC : isC.map (fun i => ws[i]?) = wc.map some) (hR : isR.map (fun i => ws[i]?) = wr.map some) (hn : va_nd isR = true) (hdis : ∀ i ∈ isR, i ∉ isC)
    (hj : js.map (fun i => (wr ++ wc')[i]?) = ws'.map some) (hjn : va_nd js = true)
    (hk : ∀ q : Nat, q < H.size → ¬ va_A wc H.size q → H1[q]? = H[q]?) (hF : ∀ q, va_A wc H.size q → vxA x q) (hB : BW (vxD x) (vxT x) wc wc' H.size () t) : va_P (vxD x) vwCl ws' H1 ∧ va_D (vxA x) ws' := by
  obtain ⟨hP1, hK1, hD1⟩ := hB
  rw [ht] at hP1
  obtain ⟨hP, hD⟩ := va_join (wr := wr) (w1 := wc') hP hD isC isR hC hR hn hdis hk hF hP1 hD1
  refine ⟨?_, hD.sub js hjn hj⟩
  intro k q hq
  have h1 : (js.map (fun i => (wr ++ wc')[i]?))[k]? = some (some q) := by rw [hj, List.getElem?_map, hq]; rfl
  rw [List.getElem?_map] at h1
  cases h2 : js[k]? with
  | none => rw [h2] at h1; cases h1
  | some i => rw [h2] at h1; exact hP i q (by simpa using h1)
def isZ (v : Int32) : Bool := decide (v = 0 ∨ v = 1)
theorem isZ_n {v : Int32} (h : isZ v = true) : narrow .boolean (.int v) = .int v := by
  have h := of_decide_eq_true h
  rcases h with rfl | rfl <;> decide +kernel
/-- what a call's words are: the link, the method, its code -/
def CWv (own : String) (j : Nat) (y : MethodName) (bytes : ByteArray) (maxL : Nat) (ret : Option FieldType) (nA : Nat) : Prop :=
  Cond.methodLink own j y ∈ gw ∧ Cond.instanceMethod y ∈ gw ∧ Cond.selects y.cls y y ∈ gw ∧ Cond.initialized y.cls ∈ gw ∧ Cond.code y bytes maxL ret ∈ gw ∧ y.cls ≠ "java/lang/invoke/MethodHandle" ∧ y.cls ≠ "java/lang/invoke/VarHandle" ∧ (parseMethodDescriptor y.desc).map (fun d => d.parameters.length) = some nA ∧ maxL ≤ 21
def CWs (own : String) (j : Nat) (y : MethodName) (bytes : ByteArray) (maxL : Nat) (ret : Option FieldType) (nA : Nat) : Prop :=
  Cond.methodLink own j y ∈ gw ∧ Cond.static y ∈ gw ∧ Cond.initialized y.cls ∈ gw ∧ Cond.code y bytes maxL ret ∈ gw ∧ y.cls ≠ "java/lang/invoke/MethodHandle" ∧ y.cls ≠ "java/lang/invoke/VarHandle" ∧ (parseMethodDescriptor y.desc).map (fun d => d.parameters.length) = some nA ∧ maxL ≤ 21
def CWn (own host : String) (j : Nat) (y : MethodName) (bytes : ByteArray) (maxL : Nat) (ret : Option FieldType) (nA : Nat) : Prop :=
  Cond.methodLinkNest own j y host ∈ nwl ∧ Cond.static y ∈ gw ∧ Cond.initialized y.cls ∈ gw ∧ Cond.code y bytes maxL ret ∈ gw ∧ y.cls ≠ "java/lang/invoke/MethodHandle" ∧ y.cls ≠ "java/lang/invoke/VarHandle" ∧ (parseMethodDescriptor y.desc).map (fun d => d.parameters.length) = some nA ∧ maxL ≤ 21

/-- a contract: from the world ws, with the arguments as, the method answers rv and leaves the world ws' -/
def CI (l : Launch) (D : va_G) (qT : Nat → ClassId) (Z : (Nat → Prop) → State → Heap → Prop) (y : MethodName) (bytes : ByteArray) (maxL : Nat) (ret : Option FieldType) (d mc ms : Nat) (as : List Value) (ws : va_W) (rv : Int32) (ws' : va_W) : Prop :=
  ∀ sz : Nat, Met l y (.code y bytes maxL ret :: gw) (rmD d mc ms) (PcW D qT Z as ws sz) (va_Qi (fun r' (_ : Unit) => r' = rv) (BW D qT ws ws' sz) (va_A ws sz)) mc ms (va_A ws sz)
/-- a return with rv, in the world ws', meets the goal -/
def RetI (x : VX) (cc : ByteArray) (k n : Nat) (rv : Int32) (ws' : va_W) : Prop :=
  ∀ (H : Heap) (locs : List Loc) (ls : Array Slot) (pc : Nat), va_P (vxD x) vwCl ws' H → va_D (vxA x) ws' → va_S (vxA x) (vxs x).heap H locs → decode cc pc = .ok (.ireturn, 1) →
    W (vxp x) (vxl x) (vxe x) (vxR x) (vxs x) (vxm x) (vxa x) (vxb x) (vxh x) (vxc x) H locs k n (vxQ x) (F0 (vxm x) pc ls [.int rv])
theorem v_iret {x : VX} {cc : ByteArray} {k n : Nat} {rv : Int32} {ws : va_W} {lv : List (Nat × Value)} {pc : Nat} (hR : RetI x cc k n rv ws) (hd : decode cc pc = .ok (.ireturn, 1)) : V x k n ws lv pc [.int rv] :=
  fun H locs ls hP hD hS _ => hR H locs ls pc hP hD hS hd
theorem CI_of {l : Launch} {D : va_G} {qT : Nat → ClassId} {Z : (Nat → Prop) → State → Heap → Prop} {y : MethodName} {bytes : ByteArray} {maxL d mc ms : Nat} {as : List Value} {ws ws' : va_W} {rv : Int32} (hZ : ZOK Z) (hy : plainName y.cls = true) (hal : (lg_sl as).length ≤ maxL)
    (body : ∀ x : VX, vxl x = l → vxD x = D → vxT x = qT → vxZ x = Z → vxR x = rmD d mc ms → vxn x = maxL → (vxh x).name = y.name → Cx x bytes y.cls d → RetI x bytes mc ms rv ws' → V x 0 0 ws (lv_args 0 as) 0 []) :
    CI l D qT Z y bytes maxL (some .int) d mc ms as ws rv ws' := by
  intro sz
  refine Met.ofW (cc := bytes) (maxL := maxL) (ret := (some .int)) hy rfl ?_
  intro p e s m args below meth c s₁ B hml hv
  obtain ⟨rfl, hsz, hP, hK, hD0, hZa, hNW⟩ := hv
  have hts := atoms_spec (ws := .code y bytes maxL (some .int) :: gw) B.pre
  have hown : s.vm.findClass y.cls = some m.cls := findClass_of_methodNamed B.named
  have hlocks := B.notSynchronized
  have hr := B.returns
  have hx := B.exec
  have hb := B.bytes
  have hin : meth.name = y.name := (name_of_methodNamed B.named B.method).1
  subst hsz
  have hD := hD0.self (sz := s.heap.size)
  have hA : ∀ q : Nat, s.heap.size ≤ q → va_A ws s.heap.size q := fun q h => Or.inr h
  have hl := lv_entry as (n := maxL) hal
  rw [lg_entry_eq]
  generalize (lg_sl as ++ List.replicate (maxL - (lg_sl as).length) Slot.unset).toArray = ls at hl ⊢
  exact body (p, l, e, rmD d mc ms, s, m, as.toArray, below, meth, c, D, qT, va_A ws s.heap.size, Z, MQ below (va_Qi (fun r' (_ : Unit) => r' = rv) (BW D qT ws ws' s.heap.size) (va_A ws s.heap.size)) as.toArray s mc ms (va_A ws s.heap.size), maxL) rfl rfl rfl rfl rfl rfl hin
    ⟨hx, hb, hml, hown, fun w h => hts w (List.mem_cons_of_mem _ h), hK, hA, hZ, hZa, Nat.le_refl _, Nat.le_refl _, hNW⟩
    (fun H locs ls pc hP9 hD9 hS9 hd9 => W.iret (v := rv) hx hb hr (fun t ht hW => ⟨⟨rv, (), rfl, rfl, by rw [ht]; exact hP9, va_K.moved hW.alike hK, hD9⟩, hS9.F ht⟩) hS9.2.2 hd9)
    s.heap [] ls hP hD va_S.rf hl
theorem CZ_of {l : Launch} {D : va_G} {qT : Nat → ClassId} {Z : (Nat → Prop) → State → Heap → Prop} {y : MethodName} {bytes : ByteArray} {maxL d mc ms : Nat} {as : List Value} {ws ws' : va_W} {rv : Int32} (hZ : ZOK Z) (hy : plainName y.cls = true) (hal : (lg_sl as).length ≤ maxL)
    (body : ∀ x : VX, vxl x = l → vxD x = D → vxT x = qT → vxZ x = Z → vxR x = rmD d mc ms → vxn x = maxL → (vxh x).name = y.name → Cx x bytes y.cls d → (narrow .boolean (.int rv) = .int rv → RetI x bytes mc ms rv ws') → V x 0 0 ws (lv_args 0 as) 0 []) :
    CI l D qT Z y bytes maxL (some .boolean) d mc ms as ws rv ws' := by
  intro sz
  refine Met.ofW (cc := bytes) (maxL := maxL) (ret := (some .boolean)) hy rfl ?_
  intro p e s m args below meth c s₁ B hml hv
  obtain ⟨rfl, hsz, hP, hK, hD0, hZa, hNW⟩ := hv
  have hts := atoms_spec (ws := .code y bytes maxL (some .boolean) :: gw) B.pre
  have hown : s.vm.findClass y.cls = some m.cls := findClass_of_methodNamed B.named
  have hlocks := B.notSynchronized
  have hr := B.returns
  have hx := B.exec
  have hb := B.bytes
  have hin : meth.name = y.name := (name_of_methodNamed B.named B.method).1
  subst hsz
  have hD := hD0.self (sz := s.heap.size)
  have hA : ∀ q : Nat, s.heap.size ≤ q → va_A ws s.heap.size q := fun q h => Or.inr h
  have hl := lv_entry as (n := maxL) hal
  rw [lg_entry_eq]
  generalize (lg_sl as ++ List.replicate (maxL - (lg_sl as).length) Slot.unset).toArray = ls at hl ⊢
  exact body (p, l, e, rmD d mc ms, s, m, as.toArray, below, meth, c, D, qT, va_A ws s.heap.size, Z, MQ below (va_Qi (fun r' (_ : Unit) => r' = rv) (BW D qT ws ws' s.heap.size) (va_A ws s.heap.size)) as.toArray s mc ms (va_A ws s.heap.size), maxL) rfl rfl rfl rfl rfl rfl hin
    ⟨hx, hb, hml, hown, fun w h => hts w (List.mem_cons_of_mem _ h), hK, hA, hZ, hZa, Nat.le_refl _, Nat.le_refl _, hNW⟩
    (fun hnr H locs ls pc hP9 hD9 hS9 hd9 => W.zret (v := rv) (ty := .boolean) hx hb hr hnr (fun t ht hW => ⟨⟨rv, (), rfl, rfl, by rw [ht]; exact hP9, va_K.moved hW.alike hK, hD9⟩, hS9.F ht⟩) hS9.2.2 hd9)
    s.heap [] ls hP hD va_S.rf hl
theorem v_callI {x : VX} {cc : ByteArray} {own : String} {d0 k n : Nat} {ws : va_W} {lv : List (Nat × Value)} {pc : Nat} {st st0 : List Value} {y : MethodName} {bytes : ByteArray} {maxL dy mc ms nA j : Nat} {ret : Option FieldType} {wc wc' : va_W} {rv : Int32} {As : List Value} {b ci N : Nat} {T : u_T} {fs : List Value} (X : Cx x cc own d0) (hM : CI (vxl x) (vxD x) (vxT x) (vxZ x) y bytes maxL ret dy mc ms (.ref b :: As) wc rv wc') (hw : CWv own j y bytes maxL ret nA) (hA : As.length = nA) (hdd : dy + 1 ≤ d0) (hkc : k + mc ≤ (vxR x).cells ∧ n + ms ≤ (vxR x).slots) (q0 : Nat) (hq : wc[q0]? = some (b, .inr (ci, fs))) (hci : vwCl[ci]? = some (y.cls, T, N))
    (isC isR js : List Nat) {wr ws2 : va_W} (hC : isC.map (fun i => ws[i]?) = wc.map some) (hCn : va_nd isC = true) (hR : isR.map (fun i => ws[i]?) = wr.map some) (hRn : va_nd isR = true) (hdis : ∀ i ∈ isR, i ∉ isC) (hj : js.map (fun i => (wr ++ wc')[i]?) = ws2.map some) (hjn : va_nd js = true) (hrest : (st.map fun v => v.category).sum ≤ 8) (hst : st0 = As.reverse ++ .ref b :: st) (hd : decode cc pc = .ok (.invokevirtual j, 3))
    (kk : V x (k + mc) (n + ms) ws2 lv (pc + 3) (.int rv :: st)) : V x k n ws lv pc st0 := by
  intro H locs ls hP hD hS hl
  subst hst
  have hF := va_free hD hS X.2.2.2.2.2.2.1 isC hC
  have hPc := PcW_at (as := .ref b :: As) X hP hD hS isC hCn hC
  obtain ⟨w1, w2, w3, w4, w5, w6, w7, w8, w9⟩ := hw
  have hPw : va_P (vxD x) vwCl wc H := fun k9 q9 hq9 => by
    have h1 : (isC.map (fun i => ws[i]?))[k9]? = some (some q9) := by rw [hC, List.getElem?_map, hq9]; rfl
    rw [List.getElem?_map] at h1
    cases h2 : isC[k9]? with
    | none => rw [h2] at h1; cases h1
    | some i => rw [h2] at h1; exact hP i q9 (by simpa using h1)
  refine va_calli (va_runV (As := As) (rest := st) (C := y.cls) ⟨X.1, X.2.1, X.2.2.1, X.2.2.2.1, X.2.2.2.2.1⟩ (hM H.size) (cwV nA X.2.2.2.2.1 (gw_goodIn (fun w hw => ?_)) rfl rfl rfl ⟨rfl, w6, w7, w8⟩ ⟨Nat.le_trans (show dy + 1 ≤ d0 from hdd) X.2.2.2.2.2.2.2.2.2.1, Nat.le_trans (show 8 + (maxL + 11) + 40 * dy ≤ 40 * d0 by omega) X.2.2.2.2.2.2.2.2.2.2.1⟩) ⟨PcW_blind X.2.2.2.2.2.2.2.1, va_recv X.2.2.2.2.2.1 hPw hci hq, hPc⟩ rfl hA hl.1 rfl (lv_room hrest) hd hkc) hS (fun q _ h => hF q h) hF (fun r_ u t H1 locs1 ht hvm hw hB hz1 hk1 hS1 => ?_)
  · simp only [wsV, List.mem_append, List.mem_cons, List.not_mem_nil, or_false] at hw
    rcases hw with (rfl | rfl | rfl | rfl) | rfl | hw
    · exact w1
    · exact w2
    · exact w3
    · exact w4
    · exact w5
    · exact hw
  subst hw
  obtain ⟨hP2, hD2⟩ := BW_join ht hP hD isC isR js hC hR hRn hdis hj hjn hk1 hF hB
  exact kk H1 locs1 ls hP2 hD2 hS1 hl
theorem v_scallI {x : VX} {cc : ByteArray} {own : String} {d0 k n : Nat} {ws : va_W} {lv : List (Nat × Value)} {pc : Nat} {st st0 : List Value} {y : MethodName} {bytes : ByteArray} {maxL dy mc ms nA j : Nat} {ret : Option FieldType} {wc wc' : va_W} {rv : Int32} {As : List Value} (X : Cx x cc own d0) (hM : CI (vxl x) (vxD x) (vxT x) (vxZ x) y bytes maxL ret dy mc ms As wc rv wc') (hw : CWs own j y bytes maxL ret nA) (hA : As.length = nA) (hdd : dy + 1 ≤ d0) (hkc : k + mc ≤ (vxR x).cells ∧ n + ms ≤ (vxR x).slots)
    (isC isR js : List Nat) {wr ws2 : va_W} (hC : isC.map (fun i => ws[i]?) = wc.map some) (hCn : va_nd isC = true) (hR : isR.map (fun i => ws[i]?) = wr.map some) (hRn : va_nd isR = true) (hdis : ∀ i ∈ isR, i ∉ isC) (hj : js.map (fun i => (wr ++ wc')[i]?) = ws2.map some) (hjn : va_nd js = true) (hrest : (st.map fun v => v.category).sum ≤ 8) (hst : st0 = As.reverse ++ st) (hd : decode cc pc = .ok (.invokestatic j, 3))
    (kk : V x (k + mc) (n + ms) ws2 lv (pc + 3) (.int rv :: st)) : V x k n ws lv pc st0 := by
  intro H locs ls hP hD hS hl
  subst hst
  have hF := va_free hD hS X.2.2.2.2.2.2.1 isC hC
  have hPc := PcW_at (as := As) X hP hD hS isC hCn hC
  obtain ⟨w1, w2, w3, w5, w6, w7, w8, w9⟩ := hw
  refine va_calli (va_runS (As := As) (rest := st) ⟨X.1, X.2.1, X.2.2.1, X.2.2.2.1, X.2.2.2.2.1⟩ (hM H.size) (va_cwS nA X.2.2.2.2.1 (gw_goodIn (fun w hw => ?_)) rfl rfl rfl ⟨w6, w7, w8⟩ ⟨Nat.le_trans (show dy + 1 ≤ d0 from hdd) X.2.2.2.2.2.2.2.2.2.1, Nat.le_trans (show 8 + (maxL + 11) + 40 * dy ≤ 40 * d0 by omega) X.2.2.2.2.2.2.2.2.2.2.1⟩) ⟨PcW_blind X.2.2.2.2.2.2.2.1, hPc⟩ rfl hA hl.1 rfl (lv_room hrest) hd hkc) hS (fun q _ h => hF q h) hF (fun r_ u t H1 locs1 ht hvm hw hB hz1 hk1 hS1 => ?_)
  · simp only [va_wsS, List.mem_append, List.mem_cons, List.not_mem_nil, or_false] at hw
    rcases hw with (rfl | rfl | rfl) | rfl | hw
    · exact w1
    · exact w2
    · exact w3
    · exact w5
    · exact hw
  subst hw
  obtain ⟨hP2, hD2⟩ := BW_join ht hP hD isC isR js hC hR hRn hdis hj hjn hk1 hF hB
  exact kk H1 locs1 ls hP2 hD2 hS1 hl
theorem v_ncallI {x : VX} {cc : ByteArray} {own : String} {d0 k n : Nat} {ws : va_W} {lv : List (Nat × Value)} {pc : Nat} {st st0 : List Value} {y : MethodName} {bytes : ByteArray} {maxL dy mc ms nA j : Nat} {ret : Option FieldType} {wc wc' : va_W} {rv : Int32} {As : List Value} {host : String} (X : Cx x cc own d0) (hM : CI (vxl x) (vxD x) (vxT x) (vxZ x) y bytes maxL ret dy mc ms As wc rv wc') (hw : CWn own host j y bytes maxL ret nA) (hA : As.length = nA) (hdd : dy + 1 ≤ d0) (hkc : k + mc ≤ (vxR x).cells ∧ n + ms ≤ (vxR x).slots)
    (isC isR js : List Nat) {wr ws2 : va_W} (hC : isC.map (fun i => ws[i]?) = wc.map some) (hCn : va_nd isC = true) (hR : isR.map (fun i => ws[i]?) = wr.map some) (hRn : va_nd isR = true) (hdis : ∀ i ∈ isR, i ∉ isC) (hj : js.map (fun i => (wr ++ wc')[i]?) = ws2.map some) (hjn : va_nd js = true) (hrest : (st.map fun v => v.category).sum ≤ 8) (hst : st0 = As.reverse ++ st) (hd : decode cc pc = .ok (.invokestatic j, 3))
    (kk : V x (k + mc) (n + ms) ws2 lv (pc + 3) (.int rv :: st)) : V x k n ws lv pc st0 := by
  intro H locs ls hP hD hS hl
  subst hst
  have hF := va_free hD hS X.2.2.2.2.2.2.1 isC hC
  have hPc := PcW_at (as := As) X hP hD hS isC hCn hC
  obtain ⟨w1, w2, w3, w5, w6, w7, w8, w9⟩ := hw
  refine va_calli (va_runSN (As := As) (rest := st) (host := host) ⟨X.1, X.2.1, X.2.2.1, X.2.2.2.1, X.2.2.2.2.1⟩ (hM H.size) ⟨va_cnB nA X.2.2.2.2.1 (gw_goodIn (fun w hw => ?_)) rfl rfl rfl (X.2.2.2.2.2.2.2.2.2.2.2 _ w1) (X.2.2.2.2.1 _ w3) ⟨w6, w7, w8⟩ ⟨Nat.le_trans (show dy + 1 ≤ d0 from hdd) X.2.2.2.2.2.2.2.2.2.1, Nat.le_trans (show 8 + (maxL + 11) + 40 * dy ≤ 40 * d0 by omega) X.2.2.2.2.2.2.2.2.2.2.1⟩, X.2.2.2.2.1 _ w2, trivial⟩ ⟨PcW_blind X.2.2.2.2.2.2.2.1, hPc⟩ rfl hA hl.1 rfl (lv_room hrest) hd hkc) hS (fun q _ h => hF q h) hF (fun r_ u t H1 locs1 ht hvm hw hB hz1 hk1 hS1 => ?_)
  · simp only [List.mem_cons] at hw
    rcases hw with rfl | hw
    · exact w5
    · exact hw
  subst hw
  obtain ⟨hP2, hD2⟩ := BW_join ht hP hD isC isR js hC hR hRn hdis hj hjn hk1 hF hB
  exact kk H1 locs1 ls hP2 hD2 hS1 hl
/-- a contract: from the world ws, with the arguments as, the method answers rv and leaves the world ws' -/
def CL (l : Launch) (D : va_G) (qT : Nat → ClassId) (Z : (Nat → Prop) → State → Heap → Prop) (y : MethodName) (bytes : ByteArray) (maxL : Nat) (ret : Option FieldType) (d mc ms : Nat) (as : List Value) (ws : va_W) (rv : Int64) (ws' : va_W) : Prop :=
  ∀ sz : Nat, Met l y (.code y bytes maxL ret :: gw) (rmD d mc ms) (PcW D qT Z as ws sz) (va_Ql (fun r' (_ : Unit) => r' = rv) (BW D qT ws ws' sz) (va_A ws sz)) mc ms (va_A ws sz)
/-- a return with rv, in the world ws', meets the goal -/
def RetL (x : VX) (cc : ByteArray) (k n : Nat) (rv : Int64) (ws' : va_W) : Prop :=
  ∀ (H : Heap) (locs : List Loc) (ls : Array Slot) (pc : Nat), va_P (vxD x) vwCl ws' H → va_D (vxA x) ws' → va_S (vxA x) (vxs x).heap H locs → decode cc pc = .ok (.lreturn, 1) →
    W (vxp x) (vxl x) (vxe x) (vxR x) (vxs x) (vxm x) (vxa x) (vxb x) (vxh x) (vxc x) H locs k n (vxQ x) (F0 (vxm x) pc ls [.long rv])
theorem v_lret {x : VX} {cc : ByteArray} {k n : Nat} {rv : Int64} {ws : va_W} {lv : List (Nat × Value)} {pc : Nat} (hR : RetL x cc k n rv ws) (hd : decode cc pc = .ok (.lreturn, 1)) : V x k n ws lv pc [.long rv] :=
  fun H locs ls hP hD hS _ => hR H locs ls pc hP hD hS hd
theorem CL_of {l : Launch} {D : va_G} {qT : Nat → ClassId} {Z : (Nat → Prop) → State → Heap → Prop} {y : MethodName} {bytes : ByteArray} {maxL d mc ms : Nat} {as : List Value} {ws ws' : va_W} {rv : Int64} (hZ : ZOK Z) (hy : plainName y.cls = true) (hal : (lg_sl as).length ≤ maxL)
    (body : ∀ x : VX, vxl x = l → vxD x = D → vxT x = qT → vxZ x = Z → vxR x = rmD d mc ms → vxn x = maxL → (vxh x).name = y.name → Cx x bytes y.cls d → RetL x bytes mc ms rv ws' → V x 0 0 ws (lv_args 0 as) 0 []) :
    CL l D qT Z y bytes maxL (some .long) d mc ms as ws rv ws' := by
  intro sz
  refine Met.ofW (cc := bytes) (maxL := maxL) (ret := (some .long)) hy rfl ?_
  intro p e s m args below meth c s₁ B hml hv
  obtain ⟨rfl, hsz, hP, hK, hD0, hZa, hNW⟩ := hv
  have hts := atoms_spec (ws := .code y bytes maxL (some .long) :: gw) B.pre
  have hown : s.vm.findClass y.cls = some m.cls := findClass_of_methodNamed B.named
  have hlocks := B.notSynchronized
  have hr := B.returns
  have hx := B.exec
  have hb := B.bytes
  have hin : meth.name = y.name := (name_of_methodNamed B.named B.method).1
  subst hsz
  have hD := hD0.self (sz := s.heap.size)
  have hA : ∀ q : Nat, s.heap.size ≤ q → va_A ws s.heap.size q := fun q h => Or.inr h
  have hl := lv_entry as (n := maxL) hal
  rw [lg_entry_eq]
  generalize (lg_sl as ++ List.replicate (maxL - (lg_sl as).length) Slot.unset).toArray = ls at hl ⊢
  exact body (p, l, e, rmD d mc ms, s, m, as.toArray, below, meth, c, D, qT, va_A ws s.heap.size, Z, MQ below (va_Ql (fun r' (_ : Unit) => r' = rv) (BW D qT ws ws' s.heap.size) (va_A ws s.heap.size)) as.toArray s mc ms (va_A ws s.heap.size), maxL) rfl rfl rfl rfl rfl rfl hin
    ⟨hx, hb, hml, hown, fun w h => hts w (List.mem_cons_of_mem _ h), hK, hA, hZ, hZa, Nat.le_refl _, Nat.le_refl _, hNW⟩
    (fun H locs ls pc hP9 hD9 hS9 hd9 => W.lret (v := rv) hx hb hr (fun t ht hW => ⟨⟨rv, (), rfl, rfl, by rw [ht]; exact hP9, va_K.moved hW.alike hK, hD9⟩, hS9.F ht⟩) hS9.2.2 hd9)
    s.heap [] ls hP hD va_S.rf hl
theorem v_callL {x : VX} {cc : ByteArray} {own : String} {d0 k n : Nat} {ws : va_W} {lv : List (Nat × Value)} {pc : Nat} {st st0 : List Value} {y : MethodName} {bytes : ByteArray} {maxL dy mc ms nA j : Nat} {ret : Option FieldType} {wc wc' : va_W} {rv : Int64} {As : List Value} {b ci N : Nat} {T : u_T} {fs : List Value} (X : Cx x cc own d0) (hM : CL (vxl x) (vxD x) (vxT x) (vxZ x) y bytes maxL ret dy mc ms (.ref b :: As) wc rv wc') (hw : CWv own j y bytes maxL ret nA) (hA : As.length = nA) (hdd : dy + 1 ≤ d0) (hkc : k + mc ≤ (vxR x).cells ∧ n + ms ≤ (vxR x).slots) (q0 : Nat) (hq : wc[q0]? = some (b, .inr (ci, fs))) (hci : vwCl[ci]? = some (y.cls, T, N))
    (isC isR js : List Nat) {wr ws2 : va_W} (hC : isC.map (fun i => ws[i]?) = wc.map some) (hCn : va_nd isC = true) (hR : isR.map (fun i => ws[i]?) = wr.map some) (hRn : va_nd isR = true) (hdis : ∀ i ∈ isR, i ∉ isC) (hj : js.map (fun i => (wr ++ wc')[i]?) = ws2.map some) (hjn : va_nd js = true) (hrest : (st.map fun v => v.category).sum ≤ 8) (hst : st0 = As.reverse ++ .ref b :: st) (hd : decode cc pc = .ok (.invokevirtual j, 3))
    (kk : V x (k + mc) (n + ms) ws2 lv (pc + 3) (.long rv :: st)) : V x k n ws lv pc st0 := by
  intro H locs ls hP hD hS hl
  subst hst
  have hF := va_free hD hS X.2.2.2.2.2.2.1 isC hC
  have hPc := PcW_at (as := .ref b :: As) X hP hD hS isC hCn hC
  obtain ⟨w1, w2, w3, w4, w5, w6, w7, w8, w9⟩ := hw
  have hPw : va_P (vxD x) vwCl wc H := fun k9 q9 hq9 => by
    have h1 : (isC.map (fun i => ws[i]?))[k9]? = some (some q9) := by rw [hC, List.getElem?_map, hq9]; rfl
    rw [List.getElem?_map] at h1
    cases h2 : isC[k9]? with
    | none => rw [h2] at h1; cases h1
    | some i => rw [h2] at h1; exact hP i q9 (by simpa using h1)
  refine va_calll (va_runV (As := As) (rest := st) (C := y.cls) ⟨X.1, X.2.1, X.2.2.1, X.2.2.2.1, X.2.2.2.2.1⟩ (hM H.size) (cwV nA X.2.2.2.2.1 (gw_goodIn (fun w hw => ?_)) rfl rfl rfl ⟨rfl, w6, w7, w8⟩ ⟨Nat.le_trans (show dy + 1 ≤ d0 from hdd) X.2.2.2.2.2.2.2.2.2.1, Nat.le_trans (show 8 + (maxL + 11) + 40 * dy ≤ 40 * d0 by omega) X.2.2.2.2.2.2.2.2.2.2.1⟩) ⟨PcW_blind X.2.2.2.2.2.2.2.1, va_recv X.2.2.2.2.2.1 hPw hci hq, hPc⟩ rfl hA hl.1 rfl (lv_room hrest) hd hkc) hS (fun q _ h => hF q h) hF (fun r_ u t H1 locs1 ht hvm hw hB hz1 hk1 hS1 => ?_)
  · simp only [wsV, List.mem_append, List.mem_cons, List.not_mem_nil, or_false] at hw
    rcases hw with (rfl | rfl | rfl | rfl) | rfl | hw
    · exact w1
    · exact w2
    · exact w3
    · exact w4
    · exact w5
    · exact hw
  subst hw
  obtain ⟨hP2, hD2⟩ := BW_join ht hP hD isC isR js hC hR hRn hdis hj hjn hk1 hF hB
  exact kk H1 locs1 ls hP2 hD2 hS1 hl
theorem v_scallL {x : VX} {cc : ByteArray} {own : String} {d0 k n : Nat} {ws : va_W} {lv : List (Nat × Value)} {pc : Nat} {st st0 : List Value} {y : MethodName} {bytes : ByteArray} {maxL dy mc ms nA j : Nat} {ret : Option FieldType} {wc wc' : va_W} {rv : Int64} {As : List Value} (X : Cx x cc own d0) (hM : CL (vxl x) (vxD x) (vxT x) (vxZ x) y bytes maxL ret dy mc ms As wc rv wc') (hw : CWs own j y bytes maxL ret nA) (hA : As.length = nA) (hdd : dy + 1 ≤ d0) (hkc : k + mc ≤ (vxR x).cells ∧ n + ms ≤ (vxR x).slots)
    (isC isR js : List Nat) {wr ws2 : va_W} (hC : isC.map (fun i => ws[i]?) = wc.map some) (hCn : va_nd isC = true) (hR : isR.map (fun i => ws[i]?) = wr.map some) (hRn : va_nd isR = true) (hdis : ∀ i ∈ isR, i ∉ isC) (hj : js.map (fun i => (wr ++ wc')[i]?) = ws2.map some) (hjn : va_nd js = true) (hrest : (st.map fun v => v.category).sum ≤ 8) (hst : st0 = As.reverse ++ st) (hd : decode cc pc = .ok (.invokestatic j, 3))
    (kk : V x (k + mc) (n + ms) ws2 lv (pc + 3) (.long rv :: st)) : V x k n ws lv pc st0 := by
  intro H locs ls hP hD hS hl
  subst hst
  have hF := va_free hD hS X.2.2.2.2.2.2.1 isC hC
  have hPc := PcW_at (as := As) X hP hD hS isC hCn hC
  obtain ⟨w1, w2, w3, w5, w6, w7, w8, w9⟩ := hw
  refine va_calll (va_runS (As := As) (rest := st) ⟨X.1, X.2.1, X.2.2.1, X.2.2.2.1, X.2.2.2.2.1⟩ (hM H.size) (va_cwS nA X.2.2.2.2.1 (gw_goodIn (fun w hw => ?_)) rfl rfl rfl ⟨w6, w7, w8⟩ ⟨Nat.le_trans (show dy + 1 ≤ d0 from hdd) X.2.2.2.2.2.2.2.2.2.1, Nat.le_trans (show 8 + (maxL + 11) + 40 * dy ≤ 40 * d0 by omega) X.2.2.2.2.2.2.2.2.2.2.1⟩) ⟨PcW_blind X.2.2.2.2.2.2.2.1, hPc⟩ rfl hA hl.1 rfl (lv_room hrest) hd hkc) hS (fun q _ h => hF q h) hF (fun r_ u t H1 locs1 ht hvm hw hB hz1 hk1 hS1 => ?_)
  · simp only [va_wsS, List.mem_append, List.mem_cons, List.not_mem_nil, or_false] at hw
    rcases hw with (rfl | rfl | rfl) | rfl | hw
    · exact w1
    · exact w2
    · exact w3
    · exact w5
    · exact hw
  subst hw
  obtain ⟨hP2, hD2⟩ := BW_join ht hP hD isC isR js hC hR hRn hdis hj hjn hk1 hF hB
  exact kk H1 locs1 ls hP2 hD2 hS1 hl
theorem v_ncallL {x : VX} {cc : ByteArray} {own : String} {d0 k n : Nat} {ws : va_W} {lv : List (Nat × Value)} {pc : Nat} {st st0 : List Value} {y : MethodName} {bytes : ByteArray} {maxL dy mc ms nA j : Nat} {ret : Option FieldType} {wc wc' : va_W} {rv : Int64} {As : List Value} {host : String} (X : Cx x cc own d0) (hM : CL (vxl x) (vxD x) (vxT x) (vxZ x) y bytes maxL ret dy mc ms As wc rv wc') (hw : CWn own host j y bytes maxL ret nA) (hA : As.length = nA) (hdd : dy + 1 ≤ d0) (hkc : k + mc ≤ (vxR x).cells ∧ n + ms ≤ (vxR x).slots)
    (isC isR js : List Nat) {wr ws2 : va_W} (hC : isC.map (fun i => ws[i]?) = wc.map some) (hCn : va_nd isC = true) (hR : isR.map (fun i => ws[i]?) = wr.map some) (hRn : va_nd isR = true) (hdis : ∀ i ∈ isR, i ∉ isC) (hj : js.map (fun i => (wr ++ wc')[i]?) = ws2.map some) (hjn : va_nd js = true) (hrest : (st.map fun v => v.category).sum ≤ 8) (hst : st0 = As.reverse ++ st) (hd : decode cc pc = .ok (.invokestatic j, 3))
    (kk : V x (k + mc) (n + ms) ws2 lv (pc + 3) (.long rv :: st)) : V x k n ws lv pc st0 := by
  intro H locs ls hP hD hS hl
  subst hst
  have hF := va_free hD hS X.2.2.2.2.2.2.1 isC hC
  have hPc := PcW_at (as := As) X hP hD hS isC hCn hC
  obtain ⟨w1, w2, w3, w5, w6, w7, w8, w9⟩ := hw
  refine va_calll (va_runSN (As := As) (rest := st) (host := host) ⟨X.1, X.2.1, X.2.2.1, X.2.2.2.1, X.2.2.2.2.1⟩ (hM H.size) ⟨va_cnB nA X.2.2.2.2.1 (gw_goodIn (fun w hw => ?_)) rfl rfl rfl (X.2.2.2.2.2.2.2.2.2.2.2 _ w1) (X.2.2.2.2.1 _ w3) ⟨w6, w7, w8⟩ ⟨Nat.le_trans (show dy + 1 ≤ d0 from hdd) X.2.2.2.2.2.2.2.2.2.1, Nat.le_trans (show 8 + (maxL + 11) + 40 * dy ≤ 40 * d0 by omega) X.2.2.2.2.2.2.2.2.2.2.1⟩, X.2.2.2.2.1 _ w2, trivial⟩ ⟨PcW_blind X.2.2.2.2.2.2.2.1, hPc⟩ rfl hA hl.1 rfl (lv_room hrest) hd hkc) hS (fun q _ h => hF q h) hF (fun r_ u t H1 locs1 ht hvm hw hB hz1 hk1 hS1 => ?_)
  · simp only [List.mem_cons] at hw
    rcases hw with rfl | hw
    · exact w5
    · exact hw
  subst hw
  obtain ⟨hP2, hD2⟩ := BW_join ht hP hD isC isR js hC hR hRn hdis hj hjn hk1 hF hB
  exact kk H1 locs1 ls hP2 hD2 hS1 hl
/-- a contract: from the world ws, with the arguments as, the method answers rv and leaves the world ws' -/
def CV (l : Launch) (D : va_G) (qT : Nat → ClassId) (Z : (Nat → Prop) → State → Heap → Prop) (y : MethodName) (bytes : ByteArray) (maxL : Nat) (ret : Option FieldType) (d mc ms : Nat) (as : List Value) (ws : va_W) (ws' : va_W) : Prop :=
  ∀ sz : Nat, Met l y (.code y bytes maxL ret :: gw) (rmD d mc ms) (PcW D qT Z as ws sz) (va_Qv (fun _ : Unit => True) (BW D qT ws ws' sz) (va_A ws sz)) mc ms (va_A ws sz)
/-- a return with rv, in the world ws', meets the goal -/
def RetV (x : VX) (cc : ByteArray) (k n : Nat) (ws' : va_W) : Prop :=
  ∀ (H : Heap) (locs : List Loc) (ls : Array Slot) (pc : Nat), va_P (vxD x) vwCl ws' H → va_D (vxA x) ws' → va_S (vxA x) (vxs x).heap H locs → decode cc pc = .ok (.return_, 1) →
    W (vxp x) (vxl x) (vxe x) (vxR x) (vxs x) (vxm x) (vxa x) (vxb x) (vxh x) (vxc x) H locs k n (vxQ x) (F0 (vxm x) pc ls [])
theorem v_vret {x : VX} {cc : ByteArray} {k n : Nat}  {ws : va_W} {lv : List (Nat × Value)} {pc : Nat} (hR : RetV x cc k n ws) (hd : decode cc pc = .ok (.return_, 1)) : V x k n ws lv pc [] :=
  fun H locs ls hP hD hS _ => hR H locs ls pc hP hD hS hd
theorem CV_of {l : Launch} {D : va_G} {qT : Nat → ClassId} {Z : (Nat → Prop) → State → Heap → Prop} {y : MethodName} {bytes : ByteArray} {maxL d mc ms : Nat} {as : List Value} {ws ws' : va_W}  (hZ : ZOK Z) (hy : plainName y.cls = true) (hal : (lg_sl as).length ≤ maxL)
    (body : ∀ x : VX, vxl x = l → vxD x = D → vxT x = qT → vxZ x = Z → vxR x = rmD d mc ms → vxn x = maxL → (vxh x).name = y.name → Cx x bytes y.cls d → RetV x bytes mc ms ws' → V x 0 0 ws (lv_args 0 as) 0 []) :
    CV l D qT Z y bytes maxL none d mc ms as ws ws' := by
  intro sz
  refine Met.ofW (cc := bytes) (maxL := maxL) (ret := none) hy rfl ?_
  intro p e s m args below meth c s₁ B hml hv
  obtain ⟨rfl, hsz, hP, hK, hD0, hZa, hNW⟩ := hv
  have hts := atoms_spec (ws := .code y bytes maxL none :: gw) B.pre
  have hown : s.vm.findClass y.cls = some m.cls := findClass_of_methodNamed B.named
  have hlocks := B.notSynchronized
  have hr := B.returns
  have hx := B.exec
  have hb := B.bytes
  have hin : meth.name = y.name := (name_of_methodNamed B.named B.method).1
  subst hsz
  have hD := hD0.self (sz := s.heap.size)
  have hA : ∀ q : Nat, s.heap.size ≤ q → va_A ws s.heap.size q := fun q h => Or.inr h
  have hl := lv_entry as (n := maxL) hal
  rw [lg_entry_eq]
  generalize (lg_sl as ++ List.replicate (maxL - (lg_sl as).length) Slot.unset).toArray = ls at hl ⊢
  exact body (p, l, e, rmD d mc ms, s, m, as.toArray, below, meth, c, D, qT, va_A ws s.heap.size, Z, MQ below (va_Qv (fun _ : Unit => True) (BW D qT ws ws' s.heap.size) (va_A ws s.heap.size)) as.toArray s mc ms (va_A ws s.heap.size), maxL) rfl rfl rfl rfl rfl rfl hin
    ⟨hx, hb, hml, hown, fun w h => hts w (List.mem_cons_of_mem _ h), hK, hA, hZ, hZa, Nat.le_refl _, Nat.le_refl _, hNW⟩
    (fun H locs ls pc hP9 hD9 hS9 hd9 => W.vret hx hb hr (fun t ht hW => ⟨⟨(), rfl, trivial, by rw [ht]; exact hP9, va_K.moved hW.alike hK, hD9⟩, hS9.F ht⟩) hS9.2.2 hd9)
    s.heap [] ls hP hD va_S.rf hl
theorem v_callV {x : VX} {cc : ByteArray} {own : String} {d0 k n : Nat} {ws : va_W} {lv : List (Nat × Value)} {pc : Nat} {st st0 : List Value} {y : MethodName} {bytes : ByteArray} {maxL dy mc ms nA j : Nat} {ret : Option FieldType} {wc wc' : va_W}  {As : List Value} {b ci N : Nat} {T : u_T} {fs : List Value} (X : Cx x cc own d0) (hM : CV (vxl x) (vxD x) (vxT x) (vxZ x) y bytes maxL ret dy mc ms (.ref b :: As) wc wc') (hw : CWv own j y bytes maxL ret nA) (hA : As.length = nA) (hdd : dy + 1 ≤ d0) (hkc : k + mc ≤ (vxR x).cells ∧ n + ms ≤ (vxR x).slots) (q0 : Nat) (hq : wc[q0]? = some (b, .inr (ci, fs))) (hci : vwCl[ci]? = some (y.cls, T, N))
    (isC isR js : List Nat) {wr ws2 : va_W} (hC : isC.map (fun i => ws[i]?) = wc.map some) (hCn : va_nd isC = true) (hR : isR.map (fun i => ws[i]?) = wr.map some) (hRn : va_nd isR = true) (hdis : ∀ i ∈ isR, i ∉ isC) (hj : js.map (fun i => (wr ++ wc')[i]?) = ws2.map some) (hjn : va_nd js = true) (hrest : (st.map fun v => v.category).sum ≤ 8) (hst : st0 = As.reverse ++ .ref b :: st) (hd : decode cc pc = .ok (.invokevirtual j, 3))
    (kk : V x (k + mc) (n + ms) ws2 lv (pc + 3) st) : V x k n ws lv pc st0 := by
  intro H locs ls hP hD hS hl
  subst hst
  have hF := va_free hD hS X.2.2.2.2.2.2.1 isC hC
  have hPc := PcW_at (as := .ref b :: As) X hP hD hS isC hCn hC
  obtain ⟨w1, w2, w3, w4, w5, w6, w7, w8, w9⟩ := hw
  have hPw : va_P (vxD x) vwCl wc H := fun k9 q9 hq9 => by
    have h1 : (isC.map (fun i => ws[i]?))[k9]? = some (some q9) := by rw [hC, List.getElem?_map, hq9]; rfl
    rw [List.getElem?_map] at h1
    cases h2 : isC[k9]? with
    | none => rw [h2] at h1; cases h1
    | some i => rw [h2] at h1; exact hP i q9 (by simpa using h1)
  refine va_callv (va_runV (As := As) (rest := st) (C := y.cls) ⟨X.1, X.2.1, X.2.2.1, X.2.2.2.1, X.2.2.2.2.1⟩ (hM H.size) (cwV nA X.2.2.2.2.1 (gw_goodIn (fun w hw => ?_)) rfl rfl rfl ⟨rfl, w6, w7, w8⟩ ⟨Nat.le_trans (show dy + 1 ≤ d0 from hdd) X.2.2.2.2.2.2.2.2.2.1, Nat.le_trans (show 8 + (maxL + 11) + 40 * dy ≤ 40 * d0 by omega) X.2.2.2.2.2.2.2.2.2.2.1⟩) ⟨PcW_blind X.2.2.2.2.2.2.2.1, va_recv X.2.2.2.2.2.1 hPw hci hq, hPc⟩ rfl hA hl.1 rfl (lv_room hrest) hd hkc) hS (fun q _ h => hF q h) hF (fun u t H1 locs1 ht hvm hw hB hz1 hk1 hS1 => ?_)
  · simp only [wsV, List.mem_append, List.mem_cons, List.not_mem_nil, or_false] at hw
    rcases hw with (rfl | rfl | rfl | rfl) | rfl | hw
    · exact w1
    · exact w2
    · exact w3
    · exact w4
    · exact w5
    · exact hw
  obtain ⟨hP2, hD2⟩ := BW_join ht hP hD isC isR js hC hR hRn hdis hj hjn hk1 hF hB
  exact kk H1 locs1 ls hP2 hD2 hS1 hl
theorem v_scallV {x : VX} {cc : ByteArray} {own : String} {d0 k n : Nat} {ws : va_W} {lv : List (Nat × Value)} {pc : Nat} {st st0 : List Value} {y : MethodName} {bytes : ByteArray} {maxL dy mc ms nA j : Nat} {ret : Option FieldType} {wc wc' : va_W}  {As : List Value} (X : Cx x cc own d0) (hM : CV (vxl x) (vxD x) (vxT x) (vxZ x) y bytes maxL ret dy mc ms As wc wc') (hw : CWs own j y bytes maxL ret nA) (hA : As.length = nA) (hdd : dy + 1 ≤ d0) (hkc : k + mc ≤ (vxR x).cells ∧ n + ms ≤ (vxR x).slots)
    (isC isR js : List Nat) {wr ws2 : va_W} (hC : isC.map (fun i => ws[i]?) = wc.map some) (hCn : va_nd isC = true) (hR : isR.map (fun i => ws[i]?) = wr.map some) (hRn : va_nd isR = true) (hdis : ∀ i ∈ isR, i ∉ isC) (hj : js.map (fun i => (wr ++ wc')[i]?) = ws2.map some) (hjn : va_nd js = true) (hrest : (st.map fun v => v.category).sum ≤ 8) (hst : st0 = As.reverse ++ st) (hd : decode cc pc = .ok (.invokestatic j, 3))
    (kk : V x (k + mc) (n + ms) ws2 lv (pc + 3) st) : V x k n ws lv pc st0 := by
  intro H locs ls hP hD hS hl
  subst hst
  have hF := va_free hD hS X.2.2.2.2.2.2.1 isC hC
  have hPc := PcW_at (as := As) X hP hD hS isC hCn hC
  obtain ⟨w1, w2, w3, w5, w6, w7, w8, w9⟩ := hw
  refine va_callv (va_runS (As := As) (rest := st) ⟨X.1, X.2.1, X.2.2.1, X.2.2.2.1, X.2.2.2.2.1⟩ (hM H.size) (va_cwS nA X.2.2.2.2.1 (gw_goodIn (fun w hw => ?_)) rfl rfl rfl ⟨w6, w7, w8⟩ ⟨Nat.le_trans (show dy + 1 ≤ d0 from hdd) X.2.2.2.2.2.2.2.2.2.1, Nat.le_trans (show 8 + (maxL + 11) + 40 * dy ≤ 40 * d0 by omega) X.2.2.2.2.2.2.2.2.2.2.1⟩) ⟨PcW_blind X.2.2.2.2.2.2.2.1, hPc⟩ rfl hA hl.1 rfl (lv_room hrest) hd hkc) hS (fun q _ h => hF q h) hF (fun u t H1 locs1 ht hvm hw hB hz1 hk1 hS1 => ?_)
  · simp only [va_wsS, List.mem_append, List.mem_cons, List.not_mem_nil, or_false] at hw
    rcases hw with (rfl | rfl | rfl) | rfl | hw
    · exact w1
    · exact w2
    · exact w3
    · exact w5
    · exact hw
  obtain ⟨hP2, hD2⟩ := BW_join ht hP hD isC isR js hC hR hRn hdis hj hjn hk1 hF hB
  exact kk H1 locs1 ls hP2 hD2 hS1 hl
theorem v_ncallV {x : VX} {cc : ByteArray} {own : String} {d0 k n : Nat} {ws : va_W} {lv : List (Nat × Value)} {pc : Nat} {st st0 : List Value} {y : MethodName} {bytes : ByteArray} {maxL dy mc ms nA j : Nat} {ret : Option FieldType} {wc wc' : va_W}  {As : List Value} {host : String} (X : Cx x cc own d0) (hM : CV (vxl x) (vxD x) (vxT x) (vxZ x) y bytes maxL ret dy mc ms As wc wc') (hw : CWn own host j y bytes maxL ret nA) (hA : As.length = nA) (hdd : dy + 1 ≤ d0) (hkc : k + mc ≤ (vxR x).cells ∧ n + ms ≤ (vxR x).slots)
    (isC isR js : List Nat) {wr ws2 : va_W} (hC : isC.map (fun i => ws[i]?) = wc.map some) (hCn : va_nd isC = true) (hR : isR.map (fun i => ws[i]?) = wr.map some) (hRn : va_nd isR = true) (hdis : ∀ i ∈ isR, i ∉ isC) (hj : js.map (fun i => (wr ++ wc')[i]?) = ws2.map some) (hjn : va_nd js = true) (hrest : (st.map fun v => v.category).sum ≤ 8) (hst : st0 = As.reverse ++ st) (hd : decode cc pc = .ok (.invokestatic j, 3))
    (kk : V x (k + mc) (n + ms) ws2 lv (pc + 3) st) : V x k n ws lv pc st0 := by
  intro H locs ls hP hD hS hl
  subst hst
  have hF := va_free hD hS X.2.2.2.2.2.2.1 isC hC
  have hPc := PcW_at (as := As) X hP hD hS isC hCn hC
  obtain ⟨w1, w2, w3, w5, w6, w7, w8, w9⟩ := hw
  refine va_callv (va_runSN (As := As) (rest := st) (host := host) ⟨X.1, X.2.1, X.2.2.1, X.2.2.2.1, X.2.2.2.2.1⟩ (hM H.size) ⟨va_cnB nA X.2.2.2.2.1 (gw_goodIn (fun w hw => ?_)) rfl rfl rfl (X.2.2.2.2.2.2.2.2.2.2.2 _ w1) (X.2.2.2.2.1 _ w3) ⟨w6, w7, w8⟩ ⟨Nat.le_trans (show dy + 1 ≤ d0 from hdd) X.2.2.2.2.2.2.2.2.2.1, Nat.le_trans (show 8 + (maxL + 11) + 40 * dy ≤ 40 * d0 by omega) X.2.2.2.2.2.2.2.2.2.2.1⟩, X.2.2.2.2.1 _ w2, trivial⟩ ⟨PcW_blind X.2.2.2.2.2.2.2.1, hPc⟩ rfl hA hl.1 rfl (lv_room hrest) hd hkc) hS (fun q _ h => hF q h) hF (fun u t H1 locs1 ht hvm hw hB hz1 hk1 hS1 => ?_)
  · simp only [List.mem_cons] at hw
    rcases hw with rfl | hw
    · exact w5
    · exact hw
  obtain ⟨hP2, hD2⟩ := BW_join ht hP hD isC isR js hC hR hRn hdis hj hjn hk1 hF hB
  exact kk H1 locs1 ls hP2 hD2 hS1 hl
