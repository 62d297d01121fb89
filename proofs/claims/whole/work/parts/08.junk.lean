def BJ (D : va_G) (qT : Nat → ClassId) (ws : va_W) (P' : va_W → Prop) (sz : Nat) : Unit → State → Prop := fun _ t => ∃ ws', P' ws' ∧ va_P D vwCl ws' t.heap ∧ va_K D vwCl (vTy qT) t ∧ va_D (va_A ws sz) ws'

def CJI (l : Launch) (D : va_G) (qT : Nat → ClassId) (Z : (Nat → Prop) → State → Heap → Prop) (y : MethodName) (bytes : ByteArray) (maxL : Nat) (ret : Option FieldType) (d mc ms : Nat) (as : List Value) (ws : va_W) (rv : Int32) (P' : va_W → Prop) : Prop :=
  ∀ sz : Nat, Met l y (.code y bytes maxL ret :: gw) (rmD d mc ms) (PcW D qT Z as ws sz) (va_Qi (fun r' (_ : Unit) => r' = rv) (BJ D qT ws P' sz) (va_A ws sz)) mc ms (va_A ws sz)
theorem CI.toJ {l : Launch} {D : va_G} {qT : Nat → ClassId} {Z : (Nat → Prop) → State → Heap → Prop} {y : MethodName} {bytes : ByteArray} {maxL d mc ms : Nat} {ret : Option FieldType} {as : List Value} {ws ws' : va_W} {rv : Int32} {P' : va_W → Prop} (h : CI l D qT Z y bytes maxL ret d mc ms as ws rv ws') (hp : P' ws') : CJI l D qT Z y bytes maxL ret d mc ms as ws rv P' := by
  intro sz
  refine MetFree.mono (h sz) (fun _ _ h => h) (fun _ _ _ _ _ h => h) ?_
  rintro a st oc t - ⟨⟨hq, hF⟩, hL⟩
  refine ⟨⟨?_, hF⟩, hL⟩
  obtain ⟨r0, u, h1, h2, h3⟩ := hq
  exact ⟨r0, u, h1, h2, ws', hp, h3⟩
theorem CJI.mono {l : Launch} {D : va_G} {qT : Nat → ClassId} {Z : (Nat → Prop) → State → Heap → Prop} {y : MethodName} {bytes : ByteArray} {maxL d mc ms : Nat} {ret : Option FieldType} {as : List Value} {ws : va_W} {rv : Int32} {P1 P2 : va_W → Prop} (h : CJI l D qT Z y bytes maxL ret d mc ms as ws rv P1) (hp : ∀ w, P1 w → P2 w) : CJI l D qT Z y bytes maxL ret d mc ms as ws rv P2 := by
  intro sz
  refine MetFree.mono (h sz) (fun _ _ h => h) (fun _ _ _ _ _ h => h) ?_
  rintro a st oc t - ⟨⟨hq, hF⟩, hL⟩
  refine ⟨⟨?_, hF⟩, hL⟩
  obtain ⟨r0, u, h1, h2, w, h3, h4⟩ := hq
  exact ⟨r0, u, h1, h2, w, hp w h3, h4⟩
theorem CJI_of {l : Launch} {D : va_G} {qT : Nat → ClassId} {Z : (Nat → Prop) → State → Heap → Prop} {y : MethodName} {bytes : ByteArray} {maxL d mc ms : Nat} {as : List Value} {ws : va_W} {P' : va_W → Prop} {rv : Int32} (hZ : ZOK Z) (hy : plainName y.cls = true) (hal : (lg_sl as).length ≤ maxL)
    (body : ∀ x : VX, vxl x = l → vxD x = D → vxT x = qT → vxZ x = Z → vxR x = rmD d mc ms → vxn x = maxL → (vxh x).name = y.name → Cx x bytes y.cls d → (∀ ws', P' ws' → RetI x bytes mc ms rv ws') → V x 0 0 ws (lv_args 0 as) 0 []) :
    CJI l D qT Z y bytes maxL (some .int) d mc ms as ws rv P' := by
  intro sz
  refine Met.ofW (cc := bytes) (maxL := maxL) (ret := (some .int)) hy rfl ?_
  intro p e s m args below meth c s₁ B hml hv
  obtain ⟨rfl, hsz, hP, hK, hD0, hZa, hNW⟩ := hv
  have hts := atoms_spec (ws := .code y bytes maxL (some .int) :: gw) B.pre
  have hown : s.vm.findClass y.cls = some m.cls := findClass_of_methodNamed B.named
  have hlocks := B.notSynchronized
  have hr := B.returns
  have hx := B.exec
  have hb := B.bytes
  have hin : meth.name = y.name := (name_of_methodNamed B.named B.method).1
  subst hsz
  have hD := hD0.self (sz := s.heap.size)
  have hA : ∀ q : Nat, s.heap.size ≤ q → va_A ws s.heap.size q := fun q h => Or.inr h
  have hl := lv_entry as (n := maxL) hal
  rw [lg_entry_eq]
  generalize (lg_sl as ++ List.replicate (maxL - (lg_sl as).length) Slot.unset).toArray = ls at hl ⊢
  exact body (p, l, e, rmD d mc ms, s, m, as.toArray, below, meth, c, D, qT, va_A ws s.heap.size, Z, MQ below (va_Qi (fun r' (_ : Unit) => r' = rv) (BJ D qT ws P' s.heap.size) (va_A ws s.heap.size)) as.toArray s mc ms (va_A ws s.heap.size), maxL) rfl rfl rfl rfl rfl rfl hin
    ⟨hx, hb, hml, hown, fun w h => hts w (List.mem_cons_of_mem _ h), hK, hA, hZ, hZa, Nat.le_refl _, Nat.le_refl _, hNW⟩
    (fun ws' hp H locs ls pc hP9 hD9 hS9 hd9 => W.iret (v := rv) hx hb hr (fun t ht hW => ⟨⟨rv, (), rfl, rfl, ws', hp, by rw [ht]; exact hP9, va_K.moved hW.alike hK, hD9⟩, hS9.F ht⟩) hS9.2.2 hd9)
    s.heap [] ls hP hD va_S.rf hl
theorem CJZ_of {l : Launch} {D : va_G} {qT : Nat → ClassId} {Z : (Nat → Prop) → State → Heap → Prop} {y : MethodName} {bytes : ByteArray} {maxL d mc ms : Nat} {as : List Value} {ws : va_W} {P' : va_W → Prop} {rv : Int32} (hZ : ZOK Z) (hy : plainName y.cls = true) (hal : (lg_sl as).length ≤ maxL)
    (body : ∀ x : VX, vxl x = l → vxD x = D → vxT x = qT → vxZ x = Z → vxR x = rmD d mc ms → vxn x = maxL → (vxh x).name = y.name → Cx x bytes y.cls d → (narrow .boolean (.int rv) = .int rv → ∀ ws', P' ws' → RetI x bytes mc ms rv ws') → V x 0 0 ws (lv_args 0 as) 0 []) :
    CJI l D qT Z y bytes maxL (some .boolean) d mc ms as ws rv P' := by
  intro sz
  refine Met.ofW (cc := bytes) (maxL := maxL) (ret := (some .boolean)) hy rfl ?_
  intro p e s m args below meth c s₁ B hml hv
  obtain ⟨rfl, hsz, hP, hK, hD0, hZa, hNW⟩ := hv
  have hts := atoms_spec (ws := .code y bytes maxL (some .boolean) :: gw) B.pre
  have hown : s.vm.findClass y.cls = some m.cls := findClass_of_methodNamed B.named
  have hlocks := B.notSynchronized
  have hr := B.returns
  have hx := B.exec
  have hb := B.bytes
  have hin : meth.name = y.name := (name_of_methodNamed B.named B.method).1
  subst hsz
  have hD := hD0.self (sz := s.heap.size)
  have hA : ∀ q : Nat, s.heap.size ≤ q → va_A ws s.heap.size q := fun q h => Or.inr h
  have hl := lv_entry as (n := maxL) hal
  rw [lg_entry_eq]
  generalize (lg_sl as ++ List.replicate (maxL - (lg_sl as).length) Slot.unset).toArray = ls at hl ⊢
  exact body (p, l, e, rmD d mc ms, s, m, as.toArray, below, meth, c, D, qT, va_A ws s.heap.size, Z, MQ below (va_Qi (fun r' (_ : Unit) => r' = rv) (BJ D qT ws P' s.heap.size) (va_A ws s.heap.size)) as.toArray s mc ms (va_A ws s.heap.size), maxL) rfl rfl rfl rfl rfl rfl hin
    ⟨hx, hb, hml, hown, fun w h => hts w (List.mem_cons_of_mem _ h), hK, hA, hZ, hZa, Nat.le_refl _, Nat.le_refl _, hNW⟩
    (fun hnr ws' hp H locs ls pc hP9 hD9 hS9 hd9 => W.zret (v := rv) (ty := .boolean) hx hb hr hnr (fun t ht hW => ⟨⟨rv, (), rfl, rfl, ws', hp, by rw [ht]; exact hP9, va_K.moved hW.alike hK, hD9⟩, hS9.F ht⟩) hS9.2.2 hd9)
    s.heap [] ls hP hD va_S.rf hl
theorem v_callJI {x : VX} {cc : ByteArray} {own : String} {d0 k n : Nat} {ws : va_W} {lv : List (Nat × Value)} {pc : Nat} {st st0 : List Value} {y : MethodName} {bytes : ByteArray} {maxL dy mc ms nA j : Nat} {ret : Option FieldType} {wc : va_W} {P' : va_W → Prop} {rv : Int32} {As : List Value} {b ci N : Nat} {T : u_T} {fs : List Value} (X : Cx x cc own d0) (hM : CJI (vxl x) (vxD x) (vxT x) (vxZ x) y bytes maxL ret dy mc ms (.ref b :: As) wc rv P') (hw : CWv own j y bytes maxL ret nA) (hA : As.length = nA) (hdd : dy + 1 ≤ d0) (hkc : k + mc ≤ (vxR x).cells ∧ n + ms ≤ (vxR x).slots) (q0 : Nat) (hq : wc[q0]? = some (b, .inr (ci, fs))) (hci : vwCl[ci]? = some (y.cls, T, N))
    (isC isR js : List Nat) {wr : va_W} (hC : isC.map (fun i => ws[i]?) = wc.map some) (hCn : va_nd isC = true) (hR : isR.map (fun i => ws[i]?) = wr.map some) (hRn : va_nd isR = true) (hdis : ∀ i ∈ isR, i ∉ isC) (hjn : va_nd js = true) (hrest : (st.map fun v => v.category).sum ≤ 8) (hst : st0 = As.reverse ++ .ref b :: st) (hd : decode cc pc = .ok (.invokevirtual j, 3))
    (kk : ∀ wc', P' wc' → ∃ ws2, js.map (fun i => (wr ++ wc')[i]?) = ws2.map some ∧ V x (k + mc) (n + ms) ws2 lv (pc + 3) (.int rv :: st)) : V x k n ws lv pc st0 := by
  intro H locs ls hP hD hS hl
  subst hst
  have hF := va_free hD hS X.2.2.2.2.2.2.1 isC hC
  have hPc := PcW_at (as := .ref b :: As) X hP hD hS isC hCn hC
  obtain ⟨w1, w2, w3, w4, w5, w6, w7, w8, w9⟩ := hw
  have hPw : va_P (vxD x) vwCl wc H := fun k9 q9 hq9 => by
    have h1 : (isC.map (fun i => ws[i]?))[k9]? = some (some q9) := by rw [hC, List.getElem?_map, hq9]; rfl
    rw [List.getElem?_map] at h1
    cases h2 : isC[k9]? with
    | none => rw [h2] at h1; cases h1
    | some i => rw [h2] at h1; exact hP i q9 (by simpa using h1)
  refine va_calli (va_runV (As := As) (rest := st) (C := y.cls) ⟨X.1, X.2.1, X.2.2.1, X.2.2.2.1, X.2.2.2.2.1⟩ (hM H.size) (cwV nA X.2.2.2.2.1 (gw_goodIn (fun w hw => ?_)) rfl rfl rfl ⟨rfl, w6, w7, w8⟩ ⟨Nat.le_trans (show dy + 1 ≤ d0 from hdd) X.2.2.2.2.2.2.2.2.2.1, Nat.le_trans (show 8 + (maxL + 11) + 40 * dy ≤ 40 * d0 by omega) X.2.2.2.2.2.2.2.2.2.2.1⟩) ⟨PcW_blind X.2.2.2.2.2.2.2.1, va_recv X.2.2.2.2.2.1 hPw hci hq, hPc⟩ rfl hA hl.1 rfl (lv_room hrest) hd hkc) hS (fun q _ h => hF q h) hF (fun r_ u t H1 locs1 ht hvm hwr hB hz1 hk1 hS1 => ?_)
  · simp only [wsV, List.mem_append, List.mem_cons, List.not_mem_nil, or_false] at hw
    rcases hw with (rfl | rfl | rfl | rfl) | rfl | hw
    · exact w1
    · exact w2
    · exact w3
    · exact w4
    · exact w5
    · exact hw
  subst hwr
  obtain ⟨wc', hp', hB⟩ := hB
  obtain ⟨ws2, hj, kk⟩ := kk wc' hp'
  obtain ⟨hP2, hD2⟩ := BW_join ht hP hD isC isR js hC hR hRn hdis hj hjn hk1 hF hB
  exact kk H1 locs1 ls hP2 hD2 hS1 hl
def CJL (l : Launch) (D : va_G) (qT : Nat → ClassId) (Z : (Nat → Prop) → State → Heap → Prop) (y : MethodName) (bytes : ByteArray) (maxL : Nat) (ret : Option FieldType) (d mc ms : Nat) (as : List Value) (ws : va_W) (rv : Int64) (P' : va_W → Prop) : Prop :=
  ∀ sz : Nat, Met l y (.code y bytes maxL ret :: gw) (rmD d mc ms) (PcW D qT Z as ws sz) (va_Ql (fun r' (_ : Unit) => r' = rv) (BJ D qT ws P' sz) (va_A ws sz)) mc ms (va_A ws sz)
theorem CL.toJ {l : Launch} {D : va_G} {qT : Nat → ClassId} {Z : (Nat → Prop) → State → Heap → Prop} {y : MethodName} {bytes : ByteArray} {maxL d mc ms : Nat} {ret : Option FieldType} {as : List Value} {ws ws' : va_W} {rv : Int64} {P' : va_W → Prop} (h : CL l D qT Z y bytes maxL ret d mc ms as ws rv ws') (hp : P' ws') : CJL l D qT Z y bytes maxL ret d mc ms as ws rv P' := by
  intro sz
  refine MetFree.mono (h sz) (fun _ _ h => h) (fun _ _ _ _ _ h => h) ?_
  rintro a st oc t - ⟨⟨hq, hF⟩, hL⟩
  refine ⟨⟨?_, hF⟩, hL⟩
  obtain ⟨r0, u, h1, h2, h3⟩ := hq
  exact ⟨r0, u, h1, h2, ws', hp, h3⟩
theorem CJL.mono {l : Launch} {D : va_G} {qT : Nat → ClassId} {Z : (Nat → Prop) → State → Heap → Prop} {y : MethodName} {bytes : ByteArray} {maxL d mc ms : Nat} {ret : Option FieldType} {as : List Value} {ws : va_W} {rv : Int64} {P1 P2 : va_W → Prop} (h : CJL l D qT Z y bytes maxL ret d mc ms as ws rv P1) (hp : ∀ w, P1 w → P2 w) : CJL l D qT Z y bytes maxL ret d mc ms as ws rv P2 := by
  intro sz
  refine MetFree.mono (h sz) (fun _ _ h => h) (fun _ _ _ _ _ h => h) ?_
  rintro a st oc t - ⟨⟨hq, hF⟩, hL⟩
  refine ⟨⟨?_, hF⟩, hL⟩
  obtain ⟨r0, u, h1, h2, w, h3, h4⟩ := hq
  exact ⟨r0, u, h1, h2, w, hp w h3, h4⟩
theorem CJL_of {l : Launch} {D : va_G} {qT : Nat → ClassId} {Z : (Nat → Prop) → State → Heap → Prop} {y : MethodName} {bytes : ByteArray} {maxL d mc ms : Nat} {as : List Value} {ws : va_W} {P' : va_W → Prop} {rv : Int64} (hZ : ZOK Z) (hy : plainName y.cls = true) (hal : (lg_sl as).length ≤ maxL)
    (body : ∀ x : VX, vxl x = l → vxD x = D → vxT x = qT → vxZ x = Z → vxR x = rmD d mc ms → vxn x = maxL → (vxh x).name = y.name → Cx x bytes y.cls d → (∀ ws', P' ws' → RetL x bytes mc ms rv ws') → V x 0 0 ws (lv_args 0 as) 0 []) :
    CJL l D qT Z y bytes maxL (some .long) d mc ms as ws rv P' := by
  intro sz
  refine Met.ofW (cc := bytes) (maxL := maxL) (ret := (some .long)) hy rfl ?_
  intro p e s m args below meth c s₁ B hml hv
  obtain ⟨rfl, hsz, hP, hK, hD0, hZa, hNW⟩ := hv
  have hts := atoms_spec (ws := .code y bytes maxL (some .long) :: gw) B.pre
  have hown : s.vm.findClass y.cls = some m.cls := findClass_of_methodNamed B.named
  have hlocks := B.notSynchronized
  have hr := B.returns
  have hx := B.exec
  have hb := B.bytes
  have hin : meth.name = y.name := (name_of_methodNamed B.named B.method).1
  subst hsz
  have hD := hD0.self (sz := s.heap.size)
  have hA : ∀ q : Nat, s.heap.size ≤ q → va_A ws s.heap.size q := fun q h => Or.inr h
  have hl := lv_entry as (n := maxL) hal
  rw [lg_entry_eq]
  generalize (lg_sl as ++ List.replicate (maxL - (lg_sl as).length) Slot.unset).toArray = ls at hl ⊢
  exact body (p, l, e, rmD d mc ms, s, m, as.toArray, below, meth, c, D, qT, va_A ws s.heap.size, Z, MQ below (va_Ql (fun r' (_ : Unit) => r' = rv) (BJ D qT ws P' s.heap.size) (va_A ws s.heap.size)) as.toArray s mc ms (va_A ws s.heap.size), maxL) rfl rfl rfl rfl rfl rfl hin
    ⟨hx, hb, hml, hown, fun w h => hts w (List.mem_cons_of_mem _ h), hK, hA, hZ, hZa, Nat.le_refl _, Nat.le_refl _, hNW⟩
    (fun ws' hp H locs ls pc hP9 hD9 hS9 hd9 => W.lret (v := rv) hx hb hr (fun t ht hW => ⟨⟨rv, (), rfl, rfl, ws', hp, by rw [ht]; exact hP9, va_K.moved hW.alike hK, hD9⟩, hS9.F ht⟩) hS9.2.2 hd9)
    s.heap [] ls hP hD va_S.rf hl
theorem v_callJL {x : VX} {cc : ByteArray} {own : String} {d0 k n : Nat} {ws : va_W} {lv : List (Nat × Value)} {pc : Nat} {st st0 : List Value} {y : MethodName} {bytes : ByteArray} {maxL dy mc ms nA j : Nat} {ret : Option FieldType} {wc : va_W} {P' : va_W → Prop} {rv : Int64} {As : List Value} {b ci N : Nat} {T : u_T} {fs : List Value} (X : Cx x cc own d0) (hM : CJL (vxl x) (vxD x) (vxT x) (vxZ x) y bytes maxL ret dy mc ms (.ref b :: As) wc rv P') (hw : CWv own j y bytes maxL ret nA) (hA : As.length = nA) (hdd : dy + 1 ≤ d0) (hkc : k + mc ≤ (vxR x).cells ∧ n + ms ≤ (vxR x).slots) (q0 : Nat) (hq : wc[q0]? = some (b, .inr (ci, fs))) (hci : vwCl[ci]? = some (y.cls, T, N))
    (isC isR js : List Nat) {wr : va_W} (hC : isC.map (fun i => ws[i]?) = wc.map some) (hCn : va_nd isC = true) (hR : isR.map (fun i => ws[i]?) = wr.map some) (hRn : va_nd isR = true) (hdis : ∀ i ∈ isR, i ∉ isC) (hjn : va_nd js = true) (hrest : (st.map fun v => v.category).sum ≤ 8) (hst : st0 = As.reverse ++ .ref b :: st) (hd : decode cc pc = .ok (.invokevirtual j, 3))
    (kk : ∀ wc', P' wc' → ∃ ws2, js.map (fun i => (wr ++ wc')[i]?) = ws2.map some ∧ V x (k + mc) (n + ms) ws2 lv (pc + 3) (.long rv :: st)) : V x k n ws lv pc st0 := by
  intro H locs ls hP hD hS hl
  subst hst
  have hF := va_free hD hS X.2.2.2.2.2.2.1 isC hC
  have hPc := PcW_at (as := .ref b :: As) X hP hD hS isC hCn hC
  obtain ⟨w1, w2, w3, w4, w5, w6, w7, w8, w9⟩ := hw
  have hPw : va_P (vxD x) vwCl wc H := fun k9 q9 hq9 => by
    have h1 : (isC.map (fun i => ws[i]?))[k9]? = some (some q9) := by rw [hC, List.getElem?_map, hq9]; rfl
    rw [List.getElem?_map] at h1
    cases h2 : isC[k9]? with
    | none => rw [h2] at h1; cases h1
    | some i => rw [h2] at h1; exact hP i q9 (by simpa using h1)
  refine va_calll (va_runV (As := As) (rest := st) (C := y.cls) ⟨X.1, X.2.1, X.2.2.1, X.2.2.2.1, X.2.2.2.2.1⟩ (hM H.size) (cwV nA X.2.2.2.2.1 (gw_goodIn (fun w hw => ?_)) rfl rfl rfl ⟨rfl, w6, w7, w8⟩ ⟨Nat.le_trans (show dy + 1 ≤ d0 from hdd) X.2.2.2.2.2.2.2.2.2.1, Nat.le_trans (show 8 + (maxL + 11) + 40 * dy ≤ 40 * d0 by omega) X.2.2.2.2.2.2.2.2.2.2.1⟩) ⟨PcW_blind X.2.2.2.2.2.2.2.1, va_recv X.2.2.2.2.2.1 hPw hci hq, hPc⟩ rfl hA hl.1 rfl (lv_room hrest) hd hkc) hS (fun q _ h => hF q h) hF (fun r_ u t H1 locs1 ht hvm hwr hB hz1 hk1 hS1 => ?_)
  · simp only [wsV, List.mem_append, List.mem_cons, List.not_mem_nil, or_false] at hw
    rcases hw with (rfl | rfl | rfl | rfl) | rfl | hw
    · exact w1
    · exact w2
    · exact w3
    · exact w4
    · exact w5
    · exact hw
  subst hwr
  obtain ⟨wc', hp', hB⟩ := hB
  obtain ⟨ws2, hj, kk⟩ := kk wc' hp'
  obtain ⟨hP2, hD2⟩ := BW_join ht hP hD isC isR js hC hR hRn hdis hj hjn hk1 hF hB
  exact kk H1 locs1 ls hP2 hD2 hS1 hl
def CJV (l : Launch) (D : va_G) (qT : Nat → ClassId) (Z : (Nat → Prop) → State → Heap → Prop) (y : MethodName) (bytes : ByteArray) (maxL : Nat) (ret : Option FieldType) (d mc ms : Nat) (as : List Value) (ws : va_W) (P' : va_W → Prop) : Prop :=
  ∀ sz : Nat, Met l y (.code y bytes maxL ret :: gw) (rmD d mc ms) (PcW D qT Z as ws sz) (va_Qv (fun _ : Unit => True) (BJ D qT ws P' sz) (va_A ws sz)) mc ms (va_A ws sz)
theorem CV.toJ {l : Launch} {D : va_G} {qT : Nat → ClassId} {Z : (Nat → Prop) → State → Heap → Prop} {y : MethodName} {bytes : ByteArray} {maxL d mc ms : Nat} {ret : Option FieldType} {as : List Value} {ws ws' : va_W}  {P' : va_W → Prop} (h : CV l D qT Z y bytes maxL ret d mc ms as ws ws') (hp : P' ws') : CJV l D qT Z y bytes maxL ret d mc ms as ws P' := by
  intro sz
  refine MetFree.mono (h sz) (fun _ _ h => h) (fun _ _ _ _ _ h => h) ?_
  rintro a st oc t - ⟨⟨hq, hF⟩, hL⟩
  refine ⟨⟨?_, hF⟩, hL⟩
  obtain ⟨u, h1, h2, h3⟩ := hq
  exact ⟨u, h1, h2, ws', hp, h3⟩
theorem CJV.mono {l : Launch} {D : va_G} {qT : Nat → ClassId} {Z : (Nat → Prop) → State → Heap → Prop} {y : MethodName} {bytes : ByteArray} {maxL d mc ms : Nat} {ret : Option FieldType} {as : List Value} {ws : va_W}  {P1 P2 : va_W → Prop} (h : CJV l D qT Z y bytes maxL ret d mc ms as ws P1) (hp : ∀ w, P1 w → P2 w) : CJV l D qT Z y bytes maxL ret d mc ms as ws P2 := by
  intro sz
  refine MetFree.mono (h sz) (fun _ _ h => h) (fun _ _ _ _ _ h => h) ?_
  rintro a st oc t - ⟨⟨hq, hF⟩, hL⟩
  refine ⟨⟨?_, hF⟩, hL⟩
  obtain ⟨u, h1, h2, w, h3, h4⟩ := hq
  exact ⟨u, h1, h2, w, hp w h3, h4⟩
theorem CJV_of {l : Launch} {D : va_G} {qT : Nat → ClassId} {Z : (Nat → Prop) → State → Heap → Prop} {y : MethodName} {bytes : ByteArray} {maxL d mc ms : Nat} {as : List Value} {ws : va_W} {P' : va_W → Prop}  (hZ : ZOK Z) (hy : plainName y.cls = true) (hal : (lg_sl as).length ≤ maxL)
    (body : ∀ x : VX, vxl x = l → vxD x = D → vxT x = qT → vxZ x = Z → vxR x = rmD d mc ms → vxn x = maxL → (vxh x).name = y.name → Cx x bytes y.cls d → (∀ ws', P' ws' → RetV x bytes mc ms ws') → V x 0 0 ws (lv_args 0 as) 0 []) :
    CJV l D qT Z y bytes maxL none d mc ms as ws P' := by
  intro sz
  refine Met.ofW (cc := bytes) (maxL := maxL) (ret := none) hy rfl ?_
  intro p e s m args below meth c s₁ B hml hv
  obtain ⟨rfl, hsz, hP, hK, hD0, hZa, hNW⟩ := hv
  have hts := atoms_spec (ws := .code y bytes maxL none :: gw) B.pre
  have hown : s.vm.findClass y.cls = some m.cls := findClass_of_methodNamed B.named
  have hlocks := B.notSynchronized
  have hr := B.returns
  have hx := B.exec
  have hb := B.bytes
  have hin : meth.name = y.name := (name_of_methodNamed B.named B.method).1
  subst hsz
  have hD := hD0.self (sz := s.heap.size)
  have hA : ∀ q : Nat, s.heap.size ≤ q → va_A ws s.heap.size q := fun q h => Or.inr h
  have hl := lv_entry as (n := maxL) hal
  rw [lg_entry_eq]
  generalize (lg_sl as ++ List.replicate (maxL - (lg_sl as).length) Slot.unset).toArray = ls at hl ⊢
  exact body (p, l, e, rmD d mc ms, s, m, as.toArray, below, meth, c, D, qT, va_A ws s.heap.size, Z, MQ below (va_Qv (fun _ : Unit => True) (BJ D qT ws P' s.heap.size) (va_A ws s.heap.size)) as.toArray s mc ms (va_A ws s.heap.size), maxL) rfl rfl rfl rfl rfl rfl hin
    ⟨hx, hb, hml, hown, fun w h => hts w (List.mem_cons_of_mem _ h), hK, hA, hZ, hZa, Nat.le_refl _, Nat.le_refl _, hNW⟩
    (fun ws' hp H locs ls pc hP9 hD9 hS9 hd9 => W.vret hx hb hr (fun t ht hW => ⟨⟨(), rfl, trivial, ws', hp, by rw [ht]; exact hP9, va_K.moved hW.alike hK, hD9⟩, hS9.F ht⟩) hS9.2.2 hd9)
    s.heap [] ls hP hD va_S.rf hl
theorem v_callJV {x : VX} {cc : ByteArray} {own : String} {d0 k n : Nat} {ws : va_W} {lv : List (Nat × Value)} {pc : Nat} {st st0 : List Value} {y : MethodName} {bytes : ByteArray} {maxL dy mc ms nA j : Nat} {ret : Option FieldType} {wc : va_W} {P' : va_W → Prop}  {As : List Value} {b ci N : Nat} {T : u_T} {fs : List Value} (X : Cx x cc own d0) (hM : CJV (vxl x) (vxD x) (vxT x) (vxZ x) y bytes maxL ret dy mc ms (.ref b :: As) wc P') (hw : CWv own j y bytes maxL ret nA) (hA : As.length = nA) (hdd : dy + 1 ≤ d0) (hkc : k + mc ≤ (vxR x).cells ∧ n + ms ≤ (vxR x).slots) (q0 : Nat) (hq : wc[q0]? = some (b, .inr (ci, fs))) (hci : vwCl[ci]? = some (y.cls, T, N))
    (isC isR js : List Nat) {wr : va_W} (hC : isC.map (fun i => ws[i]?) = wc.map some) (hCn : va_nd isC = true) (hR : isR.map (fun i => ws[i]?) = wr.map some) (hRn : va_nd isR = true) (hdis : ∀ i ∈ isR, i ∉ isC) (hjn : va_nd js = true) (hrest : (st.map fun v => v.category).sum ≤ 8) (hst : st0 = As.reverse ++ .ref b :: st) (hd : decode cc pc = .ok (.invokevirtual j, 3))
    (kk : ∀ wc', P' wc' → ∃ ws2, js.map (fun i => (wr ++ wc')[i]?) = ws2.map some ∧ V x (k + mc) (n + ms) ws2 lv (pc + 3) st) : V x k n ws lv pc st0 := by
  intro H locs ls hP hD hS hl
  subst hst
  have hF := va_free hD hS X.2.2.2.2.2.2.1 isC hC
  have hPc := PcW_at (as := .ref b :: As) X hP hD hS isC hCn hC
  obtain ⟨w1, w2, w3, w4, w5, w6, w7, w8, w9⟩ := hw
  have hPw : va_P (vxD x) vwCl wc H := fun k9 q9 hq9 => by
    have h1 : (isC.map (fun i => ws[i]?))[k9]? = some (some q9) := by rw [hC, List.getElem?_map, hq9]; rfl
    rw [List.getElem?_map] at h1
    cases h2 : isC[k9]? with
    | none => rw [h2] at h1; cases h1
    | some i => rw [h2] at h1; exact hP i q9 (by simpa using h1)
  refine va_callv (va_runV (As := As) (rest := st) (C := y.cls) ⟨X.1, X.2.1, X.2.2.1, X.2.2.2.1, X.2.2.2.2.1⟩ (hM H.size) (cwV nA X.2.2.2.2.1 (gw_goodIn (fun w hw => ?_)) rfl rfl rfl ⟨rfl, w6, w7, w8⟩ ⟨Nat.le_trans (show dy + 1 ≤ d0 from hdd) X.2.2.2.2.2.2.2.2.2.1, Nat.le_trans (show 8 + (maxL + 11) + 40 * dy ≤ 40 * d0 by omega) X.2.2.2.2.2.2.2.2.2.2.1⟩) ⟨PcW_blind X.2.2.2.2.2.2.2.1, va_recv X.2.2.2.2.2.1 hPw hci hq, hPc⟩ rfl hA hl.1 rfl (lv_room hrest) hd hkc) hS (fun q _ h => hF q h) hF (fun u t H1 locs1 ht hvm hwr hB hz1 hk1 hS1 => ?_)
  · simp only [wsV, List.mem_append, List.mem_cons, List.not_mem_nil, or_false] at hw
    rcases hw with (rfl | rfl | rfl | rfl) | rfl | hw
    · exact w1
    · exact w2
    · exact w3
    · exact w4
    · exact w5
    · exact hw
  obtain ⟨wc', hp', hB⟩ := hB
  obtain ⟨ws2, hj, kk⟩ := kk wc' hp'
  obtain ⟨hP2, hD2⟩ := BW_join ht hP hD isC isR js hC hR hRn hdis hj hjn hk1 hF hB
  exact kk H1 locs1 ls hP2 hD2 hS1 hl
