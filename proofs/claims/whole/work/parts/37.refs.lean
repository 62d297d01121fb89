def RetA (x : VX) (cc : ByteArray) (k n : Nat) (v : Value) (ws' : va_W) : Prop :=
  ∀ (H : Heap) (locs : List Loc) (ls : Array Slot) (pc : Nat), va_P (vxD x) vwCl ws' H → va_D (vxA x) ws' → va_S (vxA x) (vxs x).heap H locs → decode cc pc = .ok (.areturn, 1) →
    W (vxp x) (vxl x) (vxe x) (vxR x) (vxs x) (vxm x) (vxa x) (vxb x) (vxh x) (vxc x) H locs k n (vxQ x) (F0 (vxm x) pc ls [v])
theorem v_aret {x : VX} {cc : ByteArray} {k n : Nat} {v : Value} {ws : va_W} {lv : List (Nat × Value)} {pc : Nat} (hR : RetA x cc k n v ws) (hd : decode cc pc = .ok (.areturn, 1)) : V x k n ws lv pc [v] :=
  fun H locs ls hP hD hS _ => hR H locs ls pc hP hD hS hd
/-- a method that answers null -/
def CN (l : Launch) (D : va_G) (qT : Nat → ClassId) (Z : (Nat → Prop) → State → Heap → Prop) (y : MethodName) (bytes : ByteArray) (maxL : Nat) (ret : Option FieldType) (d mc ms : Nat) (as : List Value) (ws : va_W) (P' : va_W → Prop) : Prop :=
  ∀ sz : Nat, Met l y (.code y bytes maxL ret :: gw) (rmD d mc ms) (PcW D qT Z as ws sz) (va_Qq (fun r' (_ : Unit) => r' = none) (BJ D qT ws P' sz) (va_A ws sz)) mc ms (va_A ws sz)
/-- a method that answers a cell -/
def CR (l : Launch) (D : va_G) (qT : Nat → ClassId) (Z : (Nat → Prop) → State → Heap → Prop) (y : MethodName) (bytes : ByteArray) (maxL : Nat) (ret : Option FieldType) (d mc ms : Nat) (as : List Value) (ws : va_W) (P' : Nat → va_W → Prop) : Prop :=
  ∀ sz : Nat, Met l y (.code y bytes maxL ret :: gw) (rmD d mc ms) (PcW D qT Z as ws sz) (va_Qr (fun _ : Unit => True) (fun u q => BJ D qT ws (P' q) sz u) (va_A ws sz)) mc ms (va_A ws sz)

theorem CN_of {l : Launch} {D : va_G} {qT : Nat → ClassId} {Z : (Nat → Prop) → State → Heap → Prop} {y : MethodName} {bytes : ByteArray} {maxL d mc ms : Nat} {rt : FieldType} {as : List Value} {ws : va_W} {P' : va_W → Prop} (hZ : ZOK Z) (hy : plainName y.cls = true) (hrt : (∃ n, rt = .object n) ∨ ∃ t, rt = .array t) (hal : (lg_sl as).length ≤ maxL)
    (body : ∀ x : VX, vxl x = l → vxD x = D → vxT x = qT → vxZ x = Z → vxR x = rmD d mc ms → vxn x = maxL → Cx x bytes y.cls d → (∀ ws', P' ws' → RetA x bytes mc ms .null ws') → V x 0 0 ws (lv_args 0 as) 0 []) :
    CN l D qT Z y bytes maxL (some rt) d mc ms as ws P' := by
  intro sz
  refine Met.ofW (cc := bytes) (maxL := maxL) (ret := some rt) hy rfl ?_
  intro p e s m args below meth c s₁ B hml hv
  obtain ⟨rfl, hsz, hP, hK, hD0, hZa, hNW⟩ := hv
  have hts := atoms_spec (ws := .code y bytes maxL (some rt) :: gw) B.pre
  have hown : s.vm.findClass y.cls = some m.cls := findClass_of_methodNamed B.named
  have hlocks := B.notSynchronized
  have hr := B.returns
  have hx := B.exec
  have hb := B.bytes
  subst hsz
  have hD := hD0.self (sz := s.heap.size)
  have hA : ∀ q : Nat, s.heap.size ≤ q → va_A ws s.heap.size q := fun q h => Or.inr h
  have hl := lv_entry as (n := maxL) hal
  rw [lg_entry_eq]
  generalize (lg_sl as ++ List.replicate (maxL - (lg_sl as).length) Slot.unset).toArray = ls at hl ⊢
  exact body (p, l, e, rmD d mc ms, s, m, as.toArray, below, meth, c, D, qT, va_A ws s.heap.size, Z, MQ below (va_Qq (fun r' (_ : Unit) => r' = none) (BJ D qT ws P' s.heap.size) (va_A ws s.heap.size)) as.toArray s mc ms (va_A ws s.heap.size), maxL) rfl rfl rfl rfl rfl rfl
    ⟨hx, hb, hml, hown, fun w h => hts w (List.mem_cons_of_mem _ h), hK, hA, hZ, hZa, Nat.le_refl _, Nat.le_refl _, hNW⟩
    (fun ws' hp H locs ls pc hP9 hD9 hS9 hd9 => W.aret hx hb hr hrt (Or.inl rfl) (fun t ht hW => ⟨⟨none, (), rfl, rfl, ws', hp, by rw [ht]; exact hP9, va_K.moved hW.alike hK, hD9⟩, hS9.F ht⟩) hS9.2.2 hd9)
    s.heap [] ls hP hD va_S.rf hl
theorem CR_of {l : Launch} {D : va_G} {qT : Nat → ClassId} {Z : (Nat → Prop) → State → Heap → Prop} {y : MethodName} {bytes : ByteArray} {maxL d mc ms : Nat} {rt : FieldType} {as : List Value} {ws : va_W} {P' : Nat → va_W → Prop} (hZ : ZOK Z) (hy : plainName y.cls = true) (hrt : (∃ n, rt = .object n) ∨ ∃ t, rt = .array t) (hal : (lg_sl as).length ≤ maxL)
    (body : ∀ x : VX, vxl x = l → vxD x = D → vxT x = qT → vxZ x = Z → vxR x = rmD d mc ms → vxn x = maxL → Cx x bytes y.cls d → (∀ a ws', P' a ws' → RetA x bytes mc ms (.ref a) ws') → V x 0 0 ws (lv_args 0 as) 0 []) :
    CR l D qT Z y bytes maxL (some rt) d mc ms as ws P' := by
  intro sz
  refine Met.ofW (cc := bytes) (maxL := maxL) (ret := some rt) hy rfl ?_
  intro p e s m args below meth c s₁ B hml hv
  obtain ⟨rfl, hsz, hP, hK, hD0, hZa, hNW⟩ := hv
  have hts := atoms_spec (ws := .code y bytes maxL (some rt) :: gw) B.pre
  have hown : s.vm.findClass y.cls = some m.cls := findClass_of_methodNamed B.named
  have hlocks := B.notSynchronized
  have hr := B.returns
  have hx := B.exec
  have hb := B.bytes
  subst hsz
  have hD := hD0.self (sz := s.heap.size)
  have hA : ∀ q : Nat, s.heap.size ≤ q → va_A ws s.heap.size q := fun q h => Or.inr h
  have hl := lv_entry as (n := maxL) hal
  rw [lg_entry_eq]
  generalize (lg_sl as ++ List.replicate (maxL - (lg_sl as).length) Slot.unset).toArray = ls at hl ⊢
  exact body (p, l, e, rmD d mc ms, s, m, as.toArray, below, meth, c, D, qT, va_A ws s.heap.size, Z, MQ below (va_Qr (fun _ : Unit => True) (fun u q => BJ D qT ws (P' q) s.heap.size u) (va_A ws s.heap.size)) as.toArray s mc ms (va_A ws s.heap.size), maxL) rfl rfl rfl rfl rfl rfl
    ⟨hx, hb, hml, hown, fun w h => hts w (List.mem_cons_of_mem _ h), hK, hA, hZ, hZa, Nat.le_refl _, Nat.le_refl _, hNW⟩
    (fun a ws' hp H locs ls pc hP9 hD9 hS9 hd9 => W.aret hx hb hr hrt (Or.inr ⟨a, rfl⟩) (fun t ht hW => ⟨⟨(), a, rfl, trivial, ws', hp, by rw [ht]; exact hP9, va_K.moved hW.alike hK, hD9⟩, hS9.F ht⟩) hS9.2.2 hd9)
    s.heap [] ls hP hD va_S.rf hl
theorem v_callNull {x : VX} {cc : ByteArray} {own : String} {d0 k n : Nat} {ws : va_W} {lv : List (Nat × Value)} {pc : Nat} {st st0 : List Value} {y : MethodName} {bytes : ByteArray} {maxL dy mc ms nA j : Nat} {ret : Option FieldType} {wc : va_W} {As : List Value} {P' : va_W → Prop} {b ci N : Nat} {T : u_T} {fs : List Value} (X : Cx x cc own d0) (hM : CN (vxl x) (vxD x) (vxT x) (vxZ x) y bytes maxL ret dy mc ms (.ref b :: As) wc P') (hw : CWv own j y bytes maxL ret nA) (hA : As.length = nA) (hdd : dy + 1 ≤ d0) (hkc : k + mc ≤ (vxR x).cells ∧ n + ms ≤ (vxR x).slots) (q0 : Nat) (hq : wc[q0]? = some (b, .inr (ci, fs))) (hci : vwCl[ci]? = some (y.cls, T, N))
    (isC isR js : List Nat) {wr : va_W} (hC : isC.map (fun i => ws[i]?) = wc.map some) (hCn : va_nd isC = true) (hR : isR.map (fun i => ws[i]?) = wr.map some) (hRn : va_nd isR = true) (hdis : ∀ i ∈ isR, i ∉ isC) (hjn : va_nd js = true) (hrest : (st.map fun v => v.category).sum ≤ 8) (hst : st0 = As.reverse ++ .ref b :: st) (hd : decode cc pc = .ok (.invokevirtual j, 3))
    (kk : ∀ wc', P' wc' → ∃ ws2, js.map (fun i => (wr ++ wc')[i]?) = ws2.map some ∧ V x (k + mc) (n + ms) ws2 lv (pc + 3) (.null :: st)) : V x k n ws lv pc st0 := by
  intro H locs ls hP hD hS hl
  subst hst
  have hF := va_free hD hS X.2.2.2.2.2.2.1 isC hC
  have hPc := PcW_at (as := .ref b :: As) X hP hD hS isC hCn hC
  obtain ⟨w1, w2, w3, w4, w5, w6, w7, w8, w9⟩ := hw
  have hPw : va_P (vxD x) vwCl wc H := fun k9 q9 hq9 => by
    have h1 : (isC.map (fun i => ws[i]?))[k9]? = some (some q9) := by rw [hC, List.getElem?_map, hq9]; rfl
    rw [List.getElem?_map] at h1
    cases h2 : isC[k9]? with
    | none => rw [h2] at h1; cases h1
    | some i => rw [h2] at h1; exact hP i q9 (by simpa using h1)
  refine va_callq (va_runV (As := As) (rest := st) (C := y.cls) ⟨X.1, X.2.1, X.2.2.1, X.2.2.2.1, X.2.2.2.2.1⟩ (hM H.size) (cwV nA X.2.2.2.2.1 (gw_goodIn (fun w hw => ?_)) rfl rfl rfl ⟨rfl, w6, w7, w8⟩ ⟨Nat.le_trans (show dy + 1 ≤ d0 from hdd) X.2.2.2.2.2.2.2.2.2.1, Nat.le_trans (show 8 + (maxL + 11) + 40 * dy ≤ 40 * d0 by omega) X.2.2.2.2.2.2.2.2.2.2.1⟩) ⟨PcW_blind X.2.2.2.2.2.2.2.1, va_recv X.2.2.2.2.2.1 hPw hci hq, hPc⟩ rfl hA hl.1 rfl (lv_room hrest) hd hkc) hS (fun q _ h => hF q h) hF (fun r_ u t H1 locs1 ht hvm hwr hB hz1 hk1 hS1 => ?_)
  · simp only [wsV, List.mem_append, List.mem_cons, List.not_mem_nil, or_false] at hw
    rcases hw with (rfl | rfl | rfl | rfl) | rfl | hw
    · exact w1
    · exact w2
    · exact w3
    · exact w4
    · exact w5
    · exact hw
  subst hwr
  obtain ⟨wc', hp', hB⟩ := hB
  obtain ⟨ws2, hj, kk⟩ := kk wc' hp'
  obtain ⟨hP2, hD2⟩ := BW_join ht hP hD isC isR js hC hR hRn hdis hj hjn hk1 hF hB
  exact kk H1 locs1 ls hP2 hD2 hS1 hl
theorem v_callRef {x : VX} {cc : ByteArray} {own : String} {d0 k n : Nat} {ws : va_W} {lv : List (Nat × Value)} {pc : Nat} {st st0 : List Value} {y : MethodName} {bytes : ByteArray} {maxL dy mc ms nA j : Nat} {ret : Option FieldType} {wc : va_W} {As : List Value} {P' : Nat → va_W → Prop} {b ci N : Nat} {T : u_T} {fs : List Value} (X : Cx x cc own d0) (hM : CR (vxl x) (vxD x) (vxT x) (vxZ x) y bytes maxL ret dy mc ms (.ref b :: As) wc P') (hw : CWv own j y bytes maxL ret nA) (hA : As.length = nA) (hdd : dy + 1 ≤ d0) (hkc : k + mc ≤ (vxR x).cells ∧ n + ms ≤ (vxR x).slots) (q0 : Nat) (hq : wc[q0]? = some (b, .inr (ci, fs))) (hci : vwCl[ci]? = some (y.cls, T, N))
    (isC isR js : List Nat) {wr : va_W} (hC : isC.map (fun i => ws[i]?) = wc.map some) (hCn : va_nd isC = true) (hR : isR.map (fun i => ws[i]?) = wr.map some) (hRn : va_nd isR = true) (hdis : ∀ i ∈ isR, i ∉ isC) (hjn : va_nd js = true) (hrest : (st.map fun v => v.category).sum ≤ 8) (hst : st0 = As.reverse ++ .ref b :: st) (hd : decode cc pc = .ok (.invokevirtual j, 3))
    (kk : ∀ a wc', P' a wc' → ∃ ws2, js.map (fun i => (wr ++ wc')[i]?) = ws2.map some ∧ V x (k + mc) (n + ms) ws2 lv (pc + 3) (.ref a :: st)) : V x k n ws lv pc st0 := by
  intro H locs ls hP hD hS hl
  subst hst
  have hF := va_free hD hS X.2.2.2.2.2.2.1 isC hC
  have hPc := PcW_at (as := .ref b :: As) X hP hD hS isC hCn hC
  obtain ⟨w1, w2, w3, w4, w5, w6, w7, w8, w9⟩ := hw
  have hPw : va_P (vxD x) vwCl wc H := fun k9 q9 hq9 => by
    have h1 : (isC.map (fun i => ws[i]?))[k9]? = some (some q9) := by rw [hC, List.getElem?_map, hq9]; rfl
    rw [List.getElem?_map] at h1
    cases h2 : isC[k9]? with
    | none => rw [h2] at h1; cases h1
    | some i => rw [h2] at h1; exact hP i q9 (by simpa using h1)
  refine va_callr (va_runV (As := As) (rest := st) (C := y.cls) ⟨X.1, X.2.1, X.2.2.1, X.2.2.2.1, X.2.2.2.2.1⟩ (hM H.size) (cwV nA X.2.2.2.2.1 (gw_goodIn (fun w hw => ?_)) rfl rfl rfl ⟨rfl, w6, w7, w8⟩ ⟨Nat.le_trans (show dy + 1 ≤ d0 from hdd) X.2.2.2.2.2.2.2.2.2.1, Nat.le_trans (show 8 + (maxL + 11) + 40 * dy ≤ 40 * d0 by omega) X.2.2.2.2.2.2.2.2.2.2.1⟩) ⟨PcW_blind X.2.2.2.2.2.2.2.1, va_recv X.2.2.2.2.2.1 hPw hci hq, hPc⟩ rfl hA hl.1 rfl (lv_room hrest) hd hkc) hS (fun q _ h => hF q h) hF (fun u a t H1 locs1 ht hvm hwr hB hz1 hk1 hS1 => ?_)
  · simp only [wsV, List.mem_append, List.mem_cons, List.not_mem_nil, or_false] at hw
    rcases hw with (rfl | rfl | rfl | rfl) | rfl | hw
    · exact w1
    · exact w2
    · exact w3
    · exact w4
    · exact w5
    · exact hw
  obtain ⟨wc', hp', hB⟩ := hB
  obtain ⟨ws2, hj, kk⟩ := kk a wc' hp'
  obtain ⟨hP2, hD2⟩ := BW_join ht hP hD isC isR js hC hR hRn hdis hj hjn hk1 hF hB
  exact kk H1 locs1 ls hP2 hD2 hS1 hl
theorem v_scallRef {x : VX} {cc : ByteArray} {own : String} {d0 k n : Nat} {ws : va_W} {lv : List (Nat × Value)} {pc : Nat} {st st0 : List Value} {y : MethodName} {bytes : ByteArray} {maxL dy mc ms nA j : Nat} {ret : Option FieldType} {wc : va_W} {As : List Value} {P' : Nat → va_W → Prop} (X : Cx x cc own d0) (hM : CR (vxl x) (vxD x) (vxT x) (vxZ x) y bytes maxL ret dy mc ms As wc P') (hw : CWs own j y bytes maxL ret nA) (hA : As.length = nA) (hdd : dy + 1 ≤ d0) (hkc : k + mc ≤ (vxR x).cells ∧ n + ms ≤ (vxR x).slots)
    (isC isR js : List Nat) {wr : va_W} (hC : isC.map (fun i => ws[i]?) = wc.map some) (hCn : va_nd isC = true) (hR : isR.map (fun i => ws[i]?) = wr.map some) (hRn : va_nd isR = true) (hdis : ∀ i ∈ isR, i ∉ isC) (hjn : va_nd js = true) (hrest : (st.map fun v => v.category).sum ≤ 8) (hst : st0 = As.reverse ++ st) (hd : decode cc pc = .ok (.invokestatic j, 3))
    (kk : ∀ a wc', P' a wc' → ∃ ws2, js.map (fun i => (wr ++ wc')[i]?) = ws2.map some ∧ V x (k + mc) (n + ms) ws2 lv (pc + 3) (.ref a :: st)) : V x k n ws lv pc st0 := by
  intro H locs ls hP hD hS hl
  subst hst
  have hF := va_free hD hS X.2.2.2.2.2.2.1 isC hC
  have hPc := PcW_at (as := As) X hP hD hS isC hCn hC
  obtain ⟨w1, w2, w3, w5, w6, w7, w8, w9⟩ := hw
  refine va_callr (va_runS (As := As) (rest := st) ⟨X.1, X.2.1, X.2.2.1, X.2.2.2.1, X.2.2.2.2.1⟩ (hM H.size) (va_cwS nA X.2.2.2.2.1 (gw_goodIn (fun w hw => ?_)) rfl rfl rfl ⟨w6, w7, w8⟩ ⟨Nat.le_trans (show dy + 1 ≤ d0 from hdd) X.2.2.2.2.2.2.2.2.2.1, Nat.le_trans (show 8 + (maxL + 11) + 40 * dy ≤ 40 * d0 by omega) X.2.2.2.2.2.2.2.2.2.2.1⟩) ⟨PcW_blind X.2.2.2.2.2.2.2.1, hPc⟩ rfl hA hl.1 rfl (lv_room hrest) hd hkc) hS (fun q _ h => hF q h) hF (fun u a t H1 locs1 ht hvm hwr hB hz1 hk1 hS1 => ?_)
  · simp only [va_wsS, List.mem_append, List.mem_cons, List.not_mem_nil, or_false] at hw
    rcases hw with (rfl | rfl | rfl) | rfl | hw
    · exact w1
    · exact w2
    · exact w3
    · exact w5
    · exact hw
  obtain ⟨wc', hp', hB⟩ := hB
  obtain ⟨ws2, hj, kk⟩ := kk a wc' hp'
  obtain ⟨hP2, hD2⟩ := BW_join ht hP hD isC isR js hC hR hRn hdis hj hjn hk1 hF hB
  exact kk H1 locs1 ls hP2 hD2 hS1 hl
section
variable {x : VX} {cc : ByteArray} {own : String} {d0 j k n : Nat} {ws : va_W} {lv : List (Nat × Value)} {pc : Nat} {st : List Value}
theorem v_mminK (X : Cx x cc own d0) {a b : Int32} (hl : Cond.methodLink own j Lib.Math.min.name ∈ gw) (h1 : 1 ≤ d0) (h2 : (st.map fun v => v.category).sum + 13 ≤ 40 * d0) (hk : k ≤ (vxR x).cells) (hn : n ≤ (vxR x).slots) (hd : decode cc pc = .ok (.invokestatic j, 3))
    (kk : V x k n ws lv (pc + 3) (.int (if b < a then b else a) :: st)) : V x k n ws lv pc (.int b :: .int a :: st) :=
  fun H locs ls hP hD hS hl9 => va_mmin X.1 X.2.1 (X.2.2.1.trans hl9.1.symm) X.2.2.2.1 (X.2.2.2.2.1 _ hl) (X.2.2.2.2.1 _ wm_min_s) (X.2.2.2.2.1 _ wm_i) (X.2.2.2.2.1 _ wm_min_c) (Nat.le_trans h1 X.2.2.2.2.2.2.2.2.2.1) (Nat.le_trans h2 X.2.2.2.2.2.2.2.2.2.2.1) hk hn hd (kk H locs ls hP hD hS hl9)
theorem v_copyiK (X : Cx x cc own d0) (hl : Cond.methodLink own j arraycopyName ∈ gw) (q0 q1 : Nat) {a b la lb : Nat} {f g : Nat → Int32} (ha : ws[q0]? = some (a, .inl (vxT x 0, la, .inl f))) (hb : ws[q1]? = some (b, .inl (vxT x 0, lb, .inl g))) {sp dp m : Int32} (hc : cpok sp dp m la lb = true)
    {ws' : va_W} (hw : ws.set q1 (b, .inl (vxT x 0, lb, .inl (va_cpy f g sp.toNatClampNeg dp.toNatClampNeg m.toNatClampNeg))) = ws') (h1 : 1 ≤ d0) (h2 : (st.map fun v => v.category).sum + (nativeFrameWords "java/lang/System" "arraycopy" 5 + 11) ≤ 40 * d0) (hd : decode cc pc = .ok (.invokestatic j, 3))
    (kk : V x k n ws' lv (pc + 3) st) : V x k n ws lv pc (.int m :: .int dp :: .ref b :: .int sp :: .ref a :: st) := by
  intro H locs ls hP hD hS hl9
  subst hw
  obtain ⟨c1, c2, c3, c4, c5⟩ := of_decide_eq_true hc
  have e1 := clampI c1
  have e2 := clampI c2
  have e3 := clampI c3
  exact va_copyi X.1 X.2.1 (X.2.2.1.trans hl9.1.symm) X.2.2.2.1 (X.2.2.2.2.1 _ hl) (X.2.2.2.2.1 _ wa_n) (X.2.2.2.2.1 _ wa_s) (X.2.2.2.2.1 _ wa_i) X.2.2.2.2.2.1 hP hD hS q0 q1 0 0 ha hb (ty := .int) rfl rfl rfl (nneg c1) (nneg c2) (nneg c3) (by omega) (by omega) (fun _ _ => rfl) (Nat.le_trans h1 X.2.2.2.2.2.2.2.2.2.1) (Nat.le_trans h2 X.2.2.2.2.2.2.2.2.2.2.1) hd (fun H1 locs1 hP1 hD1 hS1 => kk H1 locs1 ls hP1 hD1 hS1 hl9)
end
theorem wco_m : Cond.methodLink RJ7 304 Lib.Math.min.name ∈ gw := gw_of (List.mem_append_right _ (List.mem_of_getElem? (i := 324) (by decide +kernel))) (by decide +kernel)
theorem wco_a : Cond.methodLink RJ7 150 arraycopyName ∈ gw := gw_of (List.mem_append_right _ (List.mem_of_getElem? (i := 327) (by decide +kernel))) (by decide +kernel)
set_option maxRecDepth 100000 in
theorem c_copyOf {l : Launch} {D : va_G} {qT : Nat → ClassId} {Z : (Nat → Prop) → State → Heap → Prop} {a : Nat} {m : Int32} {f : Nat → Int32} (hZ : ZOK Z) (hm : inb m 160 = true) : CR l D qT Z yJ7_copyOf_59c91 cJ7_copyOf_59c91 3 (some (.array .int)) 2 1 160 [.ref a, .int m] [(a, .inl (qT 0, 160, .inl f))] (fun q w => w = [(a, .inl (qT 0, 160, .inl f)), (q, .inl (qT 0, m.toNatClampNeg, .inl f))]) := by
  have hm2 := of_decide_eq_true hm
  have hc := clampI hm2.1
  have hN : m.toNatClampNeg ≤ 160 := by omega
  refine CR_of hZ (by decide) (Or.inr ⟨_, rfl⟩) (Nat.le_of_ble_eq_true rfl) ?_
  intro x e1 e2 e3 e4 e5 e6 X hR
  subst e1 e2 e3 e4
  refine v_iload_n X 1 rfl dJ7_copyOf_59c91_0 ?_
  refine v_aload_n X 0 rfl dJ7_copyOf_59c91_1 ?_
  refine v_alen X 0 rfl (v := 160) (by decide) dJ7_copyOf_59c91_2 ?_
  refine v_icmp_ne_T X (tgt := 14) (fun h => by rw [h] at hm; exact absurd hm (by decide)) (by decide) dJ7_copyOf_59c91_3 ?_
  refine v_iload_n X 1 rfl dJ7_copyOf_59c91_14 ?_
  refine v_newi X (nneg hm2.1) rfl (by omega) (by rw [e5]; decide) (by rw [e5]; show 0 + _ ≤ 160; omega) dJ7_copyOf_59c91_15 (fun q => ?_)
  refine v_ws (ws' := [(a, .inl (vxT x 0, 160, .inl f)), (q, .inl (vxT x 0, m.toNatClampNeg, .inl (fun _ => 0)))]) rfl ?_
  refine v_astore_n X rfl (by rw [e6]; decide) (lv' := [(2, .ref q), (0, .ref a), (1, .int m)]) rfl dJ7_copyOf_59c91_17 ?_
  refine v_aload_n X 1 rfl dJ7_copyOf_59c91_18 ?_
  refine v_iconst X (v := 0) (by decide) dJ7_copyOf_59c91_19 ?_
  refine v_aload_n X 0 rfl dJ7_copyOf_59c91_20 ?_
  refine v_iconst X (v := 0) (by decide) dJ7_copyOf_59c91_21 ?_
  refine v_aload_n X 1 rfl dJ7_copyOf_59c91_22 ?_
  refine v_alen X 0 rfl (v := 160) (by decide) dJ7_copyOf_59c91_23 ?_
  refine v_iload_n X 2 rfl dJ7_copyOf_59c91_24 ?_
  refine v_mminK X wco_m (by decide) (Nat.le_of_ble_eq_true rfl) (by rw [e5]; decide) (by rw [e5]; show 0 + _ ≤ 160; omega) dJ7_copyOf_59c91_25 ?_
  refine v_eq (st' := [.int m, .int 0, .ref q, .int 0, .ref a]) ?_ ?_
  · have : (if m < 160 then m else 160) = m := by
      by_cases h : m < 160
      · rw [if_pos h]
      · rw [if_neg h]
        apply Int32.toInt_inj.mp
        rw [Int32.lt_iff_toInt_lt] at h
        have : (160 : Int32).toInt = 160 := by decide
        omega
    rw [this]
  refine v_copyiK X wco_a 0 1 rfl rfl (by unfold cpok; have : (0 : Int32).toInt = 0 := by decide
                                          simp only [decide_eq_true_eq]; omega) rfl (by decide) (Nat.le_of_ble_eq_true rfl) dJ7_copyOf_59c91_28 ?_
  refine v_arr 1 rfl (g := f) (fun j hj => cpy_all (n := m.toNatClampNeg) j hj) ?_
  refine v_ws (ws' := [(a, .inl (vxT x 0, 160, .inl f)), (q, .inl (vxT x 0, m.toNatClampNeg, .inl f))]) rfl ?_
  refine v_aload_n X 0 rfl dJ7_copyOf_59c91_31 ?_
  refine v_wid (k' := 1) (n' := 160) (by omega) (by omega) ?_
  exact v_aret (hR q _ rfl) dJ7_copyOf_59c91_32
