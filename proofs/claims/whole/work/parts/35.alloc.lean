theorem woi_i : Cond.instanceMethod Lib.objectInit ∈ gw := gw_of (List.mem_append_right _ (List.mem_of_getElem? (i := 22) (by decide +kernel))) (by decide +kernel)
theorem woi_c : Cond.code Lib.objectInit ⟨#[0xb1]⟩ 1 none ∈ gw := gw_of (List.mem_append_right _ (List.mem_of_getElem? (i := 23) (by decide +kernel))) (by decide +kernel)
theorem wac_i : Cond.arrayClass .int ∈ gw := by
  refine gw_of ?_ (by decide +kernel)
  decide +kernel
theorem wac_z : Cond.arrayClass .boolean ∈ gw := by
  refine gw_of ?_ (by decide +kernel)
  decide +kernel
section
variable {x : VX} {cc : ByteArray} {own : String} {d0 k n j : Nat} {ws : va_W} {lv : List (Nat × Value)} {pc : Nat} {st : List Value}
theorem v_oinit (X : Cx x cc own d0) {a : Nat} (hl : Cond.methodLink own j Lib.objectInit ∈ gw) (h1 : 1 ≤ d0) (h2 : (st.map fun v => v.category).sum ≤ 8) (hd : decode cc pc = .ok (.invokespecial j, 3)) (kk : V x k n ws lv (pc + 3) st) : V x k n ws lv pc (.ref a :: st) := by
  intro H locs ls hP hD hS hl9
  have hr := lv_room (m := vxm x) (pc := pc) (ls := ls) (rest := st) (st := st) h2
  refine W.objInit X.1 X.2.1 X.2.2.2.1 (X.2.2.2.2.1 _ hl) (X.2.2.2.2.1 _ woi_i) (X.2.2.2.2.1 _ woi_c) rfl (by rw [X.2.2.1]; exact hl9.1) rfl hd (Nat.le_trans h1 X.2.2.2.2.2.2.2.2.2.1) ?_ ?_
  · have h3 := X.2.2.2.2.2.2.2.2.2.2.1
    have h4 : 2 * (F0 (vxm x) pc ls (Value.ref a :: st)).monitorRoom + (st.map fun v => v.category).sum ≤ 8 := by
      simpa [JFrame.monitorRoom] using hr
    omega
  · exact W.eq rfl (kk H locs ls hP hD hS hl9)
theorem v_newi (X : Cx x cc own d0) {v : Int32} {N : Nat} (hn : ¬ v < 0) (hN : v.toNatClampNeg = N) (hb : N * 4 ≤ 536870912) (hk : k + 1 ≤ (vxR x).cells) (hs : n + N ≤ (vxR x).slots) (hd : decode cc pc = .ok (.newarray .int, 2))
    (kk : ∀ q : Nat, V x (k + 1) (n + N) (ws ++ [(q, .inl (vxT x 0, N, .inl (fun _ => 0)))]) lv (pc + 2) (.ref q :: st)) : V x k n ws lv pc (.int v :: st) := by
  intro H locs ls hP hD hS hl
  refine va_newa (atype := .int) (a0 := (N, .inl (fun _ => 0))) X.1 X.2.1 (X.2.2.2.2.1 _ wac_i) (ty := .int) rfl X.2.2.2.2.2.1 hP hD hS X.2.2.2.2.2.2.1 (fun _ => rfl) hn hN hb hk hs hd (fun q cA H1 hK1 hP1 hD1 hS1 => ?_)
  have e : cA = vxT x 0 := by
    have h1 : (vxs x).vm.findClass ("[" ++ FieldType.int.toString) = some cA := (hK1.2 4 (cA, .int) rfl).2
    have h2 : (vxs x).vm.findClass ("[" ++ FieldType.int.toString) = some (vxT x 0) := (X.2.2.2.2.2.1.2 0 (vxT x 0, .int) rfl).2
    exact Option.some.inj (h1.symm.trans h2)
  subst e
  exact kk q H1 locs ls hP1 hD1 hS1 hl
theorem v_newz (X : Cx x cc own d0) {v : Int32} {N : Nat} (hn : ¬ v < 0) (hN : v.toNatClampNeg = N) (hb : N * 1 ≤ 536870912) (hk : k + 1 ≤ (vxR x).cells) (hs : n + N ≤ (vxR x).slots) (hd : decode cc pc = .ok (.newarray .boolean, 2))
    (kk : ∀ q : Nat, V x (k + 1) (n + N) (ws ++ [(q, .inl (vxT x 1, N, .inl (fun _ => 0)))]) lv (pc + 2) (.ref q :: st)) : V x k n ws lv pc (.int v :: st) := by
  intro H locs ls hP hD hS hl
  refine va_newa (atype := .boolean) (a0 := (N, .inl (fun _ => 0))) X.1 X.2.1 (X.2.2.2.2.1 _ wac_z) (ty := .boolean) rfl X.2.2.2.2.2.1 hP hD hS X.2.2.2.2.2.2.1 (fun _ => rfl) hn hN hb hk hs hd (fun q cA H1 hK1 hP1 hD1 hS1 => ?_)
  have e : cA = vxT x 1 := by
    have h1 : (vxs x).vm.findClass ("[" ++ FieldType.boolean.toString) = some cA := (hK1.2 4 (cA, .boolean) rfl).2
    have h2 : (vxs x).vm.findClass ("[" ++ FieldType.boolean.toString) = some (vxT x 1) := (X.2.2.2.2.2.1.2 1 (vxT x 1, .boolean) rfl).2
    exact Option.some.inj (h1.symm.trans h2)
  subst e
  exact kk q H1 locs ls hP1 hD1 hS1 hl
theorem v_newq (X : Cx x cc own d0) {C : String} (t0 : Nat) (ht : (vTy (vxT x))[t0]? = some (vxT x t0, .object C)) (hc : Cond.classLink own j C ∈ gw) (ho : va_AO C (vxs x)) {v : Int32} {N : Nat} (hn : ¬ v < 0) (hN : v.toNatClampNeg = N) (hb : N * 4 ≤ 536870912) (hk : k + 1 ≤ (vxR x).cells) (hs : n + N ≤ (vxR x).slots) (hd : decode cc pc = .ok (.anewarray j, 3))
    (kk : ∀ q : Nat, V x (k + 1) (n + N) (ws ++ [(q, .inl (vxT x t0, N, .inr (.inr (.inr (.inr (fun _ => none))))))]) lv (pc + 3) (.ref q :: st)) : V x k n ws lv pc (.int v :: st) := by
  intro H locs ls hP hD hS hl
  refine va_newq X.1 X.2.1 X.2.2.2.1 (X.2.2.2.2.1 _ hc) ho X.2.2.2.2.2.1 hP hD hS X.2.2.2.2.2.2.1 hn hN hb hk hs hd (fun q cA H1 hK1 hP1 hD1 hS1 => ?_)
  have e : cA = vxT x t0 := by
    obtain ⟨kA, comp, -, -, -, h1⟩ : va_RA (vxs x) cA (.object C) := (hK1.2 4 (cA, .object C) rfl).2
    obtain ⟨kB, comp2, -, -, -, h2⟩ : va_RA (vxs x) (vxT x t0) (.object C) := (X.2.2.2.2.2.1.2 t0 (vxT x t0, .object C) ht).2
    exact Option.some.inj (h1.symm.trans h2)
  subst e
  exact kk q H1 locs ls hP1 hD1 hS1 hl
theorem v_new (X : Cx x cc own d0) {C : String} {T : u_T} {N ci : Nat} (hin : ∀ w ∈ u_ws C T N, w ∈ gw) (ty : Nat → FieldType) (hty : ∀ k, k < N → parseFieldDescriptor (T k).2.2.1 = some (ty k)) (hcl : Cond.classLink own j C ∈ gw) (hinst : Cond.instantiable C N ∈ gw) (hini : Cond.initialized C ∈ gw) (hc : vwCl[ci]? = some (C, T, N)) {fs : List Value} (hfs : ∀ j, j < N → defaultValue (ty j) = vp_V fs j) (hk : k + 1 ≤ (vxR x).cells) (hs : n + N ≤ (vxR x).slots) (hd : decode cc pc = .ok (.new j, 3))
    (kk : ∀ q : Nat, V x (k + 1) (n + N) (ws ++ [(q, .inr (ci, fs))]) lv (pc + 3) (.ref q :: st)) : V x k n ws lv pc st :=
  fun H locs ls hP hD hS hl => va_new X.1 X.2.1 X.2.2.2.2.1 hin ty hty X.2.2.2.1 (X.2.2.2.2.1 _ hcl) (X.2.2.2.2.1 _ hinst) (X.2.2.2.2.1 _ hini) X.2.2.2.2.2.1 hP hD hS X.2.2.2.2.2.2.1 hc hfs hk hs hd (fun q H1 hP1 hD1 hS1 => kk q H1 locs ls hP1 hD1 hS1 hl)
theorem v_aast (X : Cx x cc own d0) (q0 t0 qk ci : Nat) {a v N : Nat} {C : String} {T : u_T} {NN : Nat} {vs : List Value} {f : Nat → Option Nat} (ha : ws[q0]? = some (a, .inl (vxT x t0, N, .inr (.inr (.inr (.inr f)))))) (ht : (vTy (vxT x))[t0]? = some (vxT x t0, .object C)) (hv : ws[qk]? = some (v, .inr (ci, vs))) (hc : vwCl[ci]? = some (C, T, NN)) {i : Int32} (hi : inb i N = true) {ws' : va_W} (hw : ws.set q0 (a, .inl (vxT x t0, N, .inr (.inr (.inr (.inr (va_up f i.toNatClampNeg (some v))))))) = ws') (hd : decode cc pc = .ok (.aastore, 1))
    (kk : V x k n ws' lv (pc + 1) st) : V x k n ws lv pc (.ref v :: .int i :: .ref a :: st) := by
  intro H locs ls hP hD hS hl
  subst hw
  exact va_astq X.1 X.2.1 X.2.2.2.2.2.1 hP hD hS q0 t0 qk ci (r := (C, T, NN)) ha ht hv hc (inb_vp hi) hd (fun H1 locs1 hP1 hD1 hS1 => kk H1 locs1 ls hP1 hD1 hS1 hl)
theorem v_wid {k' n' : Nat} (h1 : k ≤ k') (h2 : n ≤ n') (kk : V x k' n' ws lv pc st) : V x k n ws lv pc st :=
  fun H locs ls hP hD hS hl => W.widen h1 h2 (kk H locs ls hP hD hS hl)
end
def CWi (own : String) (j : Nat) (y : MethodName) (bytes : ByteArray) (maxL nA : Nat) : Prop :=
  Cond.methodLink own j y ∈ gw ∧ Cond.instanceMethod y ∈ gw ∧ Cond.initialized y.cls ∈ gw ∧ Cond.code y bytes maxL none ∈ gw ∧ y.cls ≠ "java/lang/invoke/MethodHandle" ∧ y.cls ≠ "java/lang/invoke/VarHandle" ∧ (parseMethodDescriptor y.desc).map (fun d => d.parameters.length) = some nA ∧ maxL ≤ 21 ∧ y.name = "<init>"
def CWj (own : String) (j : Nat) (y : MethodName) (bytes : ByteArray) (maxL nA : Nat) : Prop :=
  Cond.instanceMethod y ∈ gw ∧ Cond.initialized y.cls ∈ gw ∧ Cond.code y bytes maxL none ∈ gw ∧ y.cls ≠ "java/lang/invoke/MethodHandle" ∧ y.cls ≠ "java/lang/invoke/VarHandle" ∧ (parseMethodDescriptor y.desc).map (fun d => d.parameters.length) = some nA ∧ maxL ≤ 21 ∧ y.name = "<init>"

theorem v_cinit {x : VX} {cc : ByteArray} {own : String} {d0 k n : Nat} {ws : va_W} {lv : List (Nat × Value)} {pc : Nat} {st st0 : List Value} {y : MethodName} {bytes : ByteArray} {maxL dy mc ms nA j : Nat} {wc : va_W} {P' : va_W → Prop} {As : List Value} {b : Nat} (X : Cx x cc own d0) (hM : CJV (vxl x) (vxD x) (vxT x) (vxZ x) y bytes maxL none dy mc ms (.ref b :: As) wc P') (hw : CWi own j y bytes maxL nA) (hA : As.length = nA) (hdd : dy + 1 ≤ d0) (hkc : k + mc ≤ (vxR x).cells ∧ n + ms ≤ (vxR x).slots)
    (isC isR js : List Nat) {wr : va_W} (hC : isC.map (fun i => ws[i]?) = wc.map some) (hCn : va_nd isC = true) (hR : isR.map (fun i => ws[i]?) = wr.map some) (hRn : va_nd isR = true) (hdis : ∀ i ∈ isR, i ∉ isC) (hjn : va_nd js = true) (hrest : (st.map fun v => v.category).sum ≤ 8) (hst : st0 = As.reverse ++ .ref b :: st) (hd : decode cc pc = .ok (.invokespecial j, 3))
    (kk : ∀ wc', P' wc' → ∃ ws2, js.map (fun i => (wr ++ wc')[i]?) = ws2.map some ∧ V x (k + mc) (n + ms) ws2 lv (pc + 3) st) : V x k n ws lv pc st0 := by
  intro H locs ls hP hD hS hl
  subst hst
  have hF := va_free hD hS X.2.2.2.2.2.2.1 isC hC
  have hPc := PcW_at (as := .ref b :: As) X hP hD hS isC hCn hC
  obtain ⟨w1, w2, w3, w5, w6, w7, w8, w9, wn⟩ := hw
  refine va_callv (va_runI (As := As) (rest := st) ⟨X.1, X.2.1, X.2.2.1, X.2.2.2.1, X.2.2.2.2.1⟩ (hM H.size) (cwI nA X.2.2.2.2.1 (gw_goodIn (fun w hw => ?_)) rfl rfl rfl (X.2.2.2.2.1 _ w3) (X.2.2.2.2.1 _ w1) (X.2.2.2.2.1 _ w2) wn ⟨w6, w7, w8⟩ ⟨Nat.le_trans (show dy + 1 ≤ d0 from hdd) X.2.2.2.2.2.2.2.2.2.1, Nat.le_trans (show 8 + (maxL + 11) + 40 * dy ≤ 40 * d0 by omega) X.2.2.2.2.2.2.2.2.2.2.1⟩) ⟨PcW_blind X.2.2.2.2.2.2.2.1, hPc⟩ rfl hA hl.1 rfl (lv_room hrest) hd hkc) hS (fun q _ h => hF q h) hF (fun u t H1 locs1 ht hvm hwr hB hz1 hk1 hS1 => ?_)
  · simp only [List.mem_cons] at hw
    rcases hw with rfl | hw
    · exact w5
    · exact hw
  obtain ⟨wc', hp', hB⟩ := hB
  obtain ⟨ws2, hj, kk⟩ := kk wc' hp'
  obtain ⟨hP2, hD2⟩ := BW_join ht hP hD isC isR js hC hR hRn hdis hj hjn hk1 hF hB
  exact kk H1 locs1 ls hP2 hD2 hS1 hl
theorem v_ncinit {x : VX} {cc : ByteArray} {own : String} {d0 k n : Nat} {ws : va_W} {lv : List (Nat × Value)} {pc : Nat} {st st0 : List Value} {y : MethodName} {bytes : ByteArray} {maxL dy mc ms nA j : Nat} {wc : va_W} {P' : va_W → Prop} {As : List Value} {b : Nat} (X : Cx x cc own d0) (hM : CJV (vxl x) (vxD x) (vxT x) (vxZ x) y bytes maxL none dy mc ms (.ref b :: As) wc P') (hw : CWj own j y bytes maxL nA) {host : String} (hnw : ∀ (A : Nat → Prop) (U : State) (H : Heap), vxZ x A U H → va_Nw (.methodLinkNest own j y host) U) (hA : As.length = nA) (hdd : dy + 1 ≤ d0) (hkc : k + mc ≤ (vxR x).cells ∧ n + ms ≤ (vxR x).slots)
    (isC isR js : List Nat) {wr : va_W} (hC : isC.map (fun i => ws[i]?) = wc.map some) (hCn : va_nd isC = true) (hR : isR.map (fun i => ws[i]?) = wr.map some) (hRn : va_nd isR = true) (hdis : ∀ i ∈ isR, i ∉ isC) (hjn : va_nd js = true) (hrest : (st.map fun v => v.category).sum ≤ 8) (hst : st0 = As.reverse ++ .ref b :: st) (hd : decode cc pc = .ok (.invokespecial j, 3))
    (kk : ∀ wc', P' wc' → ∃ ws2, js.map (fun i => (wr ++ wc')[i]?) = ws2.map some ∧ V x (k + mc) (n + ms) ws2 lv (pc + 3) st) : V x k n ws lv pc st0 := by
  intro H locs ls hP hD hS hl
  subst hst
  have hF := va_free hD hS X.2.2.2.2.2.2.1 isC hC
  have hPc := PcW_at (as := .ref b :: As) X hP hD hS isC hCn hC
  obtain ⟨w2, w3, w5, w6, w7, w8, w9, wn⟩ := hw
  refine va_callv (va_runIN (As := As) (rest := st) (host := host) ⟨X.1, X.2.1, X.2.2.1, X.2.2.2.1, X.2.2.2.2.1⟩ (hM H.size) ⟨va_cnB nA X.2.2.2.2.1 (gw_goodIn (fun w hw => ?_)) rfl rfl rfl (hnw _ _ _ X.2.2.2.2.2.2.2.2.1) (X.2.2.2.2.1 _ w3) ⟨w6, w7, w8⟩ ⟨Nat.le_trans (show dy + 1 ≤ d0 from hdd) X.2.2.2.2.2.2.2.2.2.1, Nat.le_trans (show 8 + (maxL + 11) + 40 * dy ≤ 40 * d0 by omega) X.2.2.2.2.2.2.2.2.2.2.1⟩, wn, X.2.2.2.2.1 _ w2⟩ ⟨PcW_blind X.2.2.2.2.2.2.2.1, hPc⟩ rfl hA hl.1 rfl (lv_room hrest) hd hkc) hS (fun q _ h => hF q h) hF (fun u t H1 locs1 ht hvm hwr hB hz1 hk1 hS1 => ?_)
  · simp only [List.mem_cons] at hw
    rcases hw with rfl | hw
    · exact w5
    · exact hw
  obtain ⟨wc', hp', hB⟩ := hB
  obtain ⟨ws2, hj, kk⟩ := kk wc' hp'
  obtain ⟨hP2, hD2⟩ := BW_join ht hP hD isC isR js hC hR hRn hdis hj hjn hk1 hF hB
  exact kk H1 locs1 ls hP2 hD2 hS1 hl
theorem v_sub {x : VX} {k n : Nat} {ws ws' : va_W} {lv : List (Nat × Value)} {pc : Nat} {st : List Value} (is : List Nat) (hn : va_nd is = true) (hs : is.map (fun i => ws[i]?) = ws'.map some) (kk : V x k n ws' lv pc st) : V x k n ws lv pc st := by
  intro H locs ls hP hD hS hl
  refine kk H locs ls ?_ (hD.sub is hn hs) hS hl
  intro k9 q9 hq9
  have h1 : (is.map (fun i => ws[i]?))[k9]? = some (some q9) := by rw [hs, List.getElem?_map, hq9]; rfl
  rw [List.getElem?_map] at h1
  cases h2 : is[k9]? with
  | none => rw [h2] at h1; cases h1
  | some i => rw [h2] at h1; exact hP i q9 (by simpa using h1)
