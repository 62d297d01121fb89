section
variable {x : VX} {cc : ByteArray} {own : String} {d0 k n : Nat} {ws : va_W} {lv : List (Nat × Value)} {pc : Nat} {st : List Value} {α : Type} {r : α}
theorem Cx.Zat (X : Cx x cc own d0) {H : Heap} {locs : List Loc} (hS : va_S (vxA x) (vxs x).heap H locs) : vxZ x (vxA x) (vxs x) H :=
  X.2.2.2.2.2.2.2.1.2.2 _ _ (vxs x).heap _ (fun a h1 h2 => hS.2.1 a h1 h2) X.2.2.2.2.2.2.2.2.1
/-- what the constants say of cells -/
abbrev KC (x : VX) (wt : va_W) : Prop := ∀ (A : Nat → Prop) (U : State) (H : Heap), vxZ x A U H → va_P (vxD x) vwCl wt H
theorem v_getK (X : Cx x cc own d0) {wt : va_W} (hk : KC x wt) {ref C : String} {T : u_T} {N ci j a : Nat} (hin : ∀ w ∈ u_ws C T N, w ∈ gw) (q0 : Nat) {fs : List Value} (he : wt[q0]? = some (a, .inr (ci, fs))) (hc : vwCl[ci]? = some (C, T, N)) (f : Nat) (hkN : f < N) (hlink : Cond.fieldLink own j ref (T f).2.1 (T f).2.2.1 ∈ gw) (hs : (T f).1 = ref) {v : Value} (hv : fs[f]? = some v) (hd : decode cc pc = .ok (.getfield j, 3))
    (kk : V x k n ws lv (pc + 3) (v :: st)) : V x k n ws lv pc (.ref a :: st) :=
  fun H locs ls hP hD hS hl => va_get X.1 X.2.1 X.2.2.2.2.1 hin X.2.2.2.1 X.2.2.2.2.2.1 (hk _ _ _ (X.Zat hS)) q0 he hc f hkN (X.2.2.2.2.1 _ hlink) (fun _ h9 => by rw [hs] at h9; exact h9) hv hd (kk H locs ls hP hD hS hl)
theorem v_ialdK_c (X : Cx x cc own d0) {wt : va_W} (hk : KC x wt) {a N : Nat} (q0 : Nat) {f : Nat → Int32} (ha : wt[q0]? = some (a, .inl (vxT x 0, N, .inl f))) {i : Int32} (hi : inb i N = true) (hd : decode cc pc = .ok (.iaload, 1))
    (kk : V x k n ws lv (pc + 1) (.int (f i.toNatClampNeg) :: st)) : V x k n ws lv pc (.int i :: .ref a :: st) :=
  fun H locs ls hP hD hS hl => va_iald X.1 X.2.1 X.2.2.2.2.2.1 (hk _ _ _ (X.Zat hS)) q0 0 ha rfl (inb_vp hi) hd (kk H locs ls hP hD hS hl)
theorem v_ialdK (X : Cx x cc own d0) {wt : va_W} (hk : KC x wt) {a N : Nat} (q0 : Nat) {f : Nat → Int32} (ha : wt[q0]? = some (a, .inl (vxT x 0, N, .inl f))) {i : Int32} {g : Option α} (hf : (if inb i N = true then g else none) = some r) (hd : decode cc pc = .ok (.iaload, 1))
    (kk : inb i N = true → g = some r → V x k n ws lv (pc + 1) (.int (f i.toNatClampNeg) :: st)) : V x k n ws lv pc (.int i :: .ref a :: st) :=
  v_ialdK_c X hk q0 ha (if_some hf).1 hd (kk (if_some hf).1 (if_some hf).2)
end
/-- a receiver among the constants -/
abbrev KR (Z : (Nat → Prop) → State → Heap → Prop) (C : String) (b : Nat) : Prop := ∀ (A : Nat → Prop) (U : State) (H : Heap), Z A U H → ∃ cell : Cell, H[b]? = some cell ∧ cell.vm.isStatics = false ∧ U.vm.findClass C = some cell.cls

theorem v_callKI {x : VX} {cc : ByteArray} {own : String} {d0 k n : Nat} {ws : va_W} {lv : List (Nat × Value)} {pc : Nat} {st st0 : List Value} {y : MethodName} {bytes : ByteArray} {maxL dy mc ms nA j : Nat} {ret : Option FieldType} {wc : va_W} {wc' : va_W} {rv : Int32} {As : List Value} {b : Nat} (X : Cx x cc own d0) (hM : CI (vxl x) (vxD x) (vxT x) (vxZ x) y bytes maxL ret dy mc ms (.ref b :: As) wc rv wc') (hw : CWv own j y bytes maxL ret nA) (hA : As.length = nA) (hdd : dy + 1 ≤ d0) (hkc : k + mc ≤ (vxR x).cells ∧ n + ms ≤ (vxR x).slots) (hrv : KR (vxZ x) y.cls b)
    (isC isR js : List Nat) {wr : va_W} (hC : isC.map (fun i => ws[i]?) = wc.map some) (hCn : va_nd isC = true) (hR : isR.map (fun i => ws[i]?) = wr.map some) (hRn : va_nd isR = true) (hdis : ∀ i ∈ isR, i ∉ isC) {ws2 : va_W} (hj : js.map (fun i => (wr ++ wc')[i]?) = ws2.map some) (hjn : va_nd js = true) (hrest : (st.map fun v => v.category).sum ≤ 8) (hst : st0 = As.reverse ++ .ref b :: st) (hd : decode cc pc = .ok (.invokevirtual j, 3))
    (kk : V x (k + mc) (n + ms) ws2 lv (pc + 3) (.int rv :: st)) : V x k n ws lv pc st0 := by
  intro H locs ls hP hD hS hl
  subst hst
  have hF := va_free hD hS X.2.2.2.2.2.2.1 isC hC
  have hPc := PcW_at (as := .ref b :: As) X hP hD hS isC hCn hC
  obtain ⟨w1, w2, w3, w4, w5, w6, w7, w8, w9⟩ := hw
  refine va_calli (va_runV (As := As) (rest := st) (C := y.cls) ⟨X.1, X.2.1, X.2.2.1, X.2.2.2.1, X.2.2.2.2.1⟩ (hM H.size) (cwV nA X.2.2.2.2.1 (gw_goodIn (fun w hw => ?_)) rfl rfl rfl ⟨rfl, w6, w7, w8⟩ ⟨Nat.le_trans (show dy + 1 ≤ d0 from hdd) X.2.2.2.2.2.2.2.2.2.1, Nat.le_trans (show 8 + (maxL + 11) + 40 * dy ≤ 40 * d0 by omega) X.2.2.2.2.2.2.2.2.2.2.1⟩) ⟨PcW_blind X.2.2.2.2.2.2.2.1, hrv _ _ _ (X.Zat hS), hPc⟩ rfl hA hl.1 rfl (lv_room hrest) hd hkc) hS (fun q _ h => hF q h) hF (fun r_ u t H1 locs1 ht hvm hwr hB hz1 hk1 hS1 => ?_)
  · simp only [wsV, List.mem_append, List.mem_cons, List.not_mem_nil, or_false] at hw
    rcases hw with (rfl | rfl | rfl | rfl) | rfl | hw
    · exact w1
    · exact w2
    · exact w3
    · exact w4
    · exact w5
    · exact hw
  subst hwr
  obtain ⟨hP2, hD2⟩ := BW_join ht hP hD isC isR js hC hR hRn hdis hj hjn hk1 hF hB
  exact kk H1 locs1 ls hP2 hD2 hS1 hl
theorem v_callKJI {x : VX} {cc : ByteArray} {own : String} {d0 k n : Nat} {ws : va_W} {lv : List (Nat × Value)} {pc : Nat} {st st0 : List Value} {y : MethodName} {bytes : ByteArray} {maxL dy mc ms nA j : Nat} {ret : Option FieldType} {wc : va_W} {P' : va_W → Prop} {rv : Int32} {As : List Value} {b : Nat} (X : Cx x cc own d0) (hM : CJI (vxl x) (vxD x) (vxT x) (vxZ x) y bytes maxL ret dy mc ms (.ref b :: As) wc rv P') (hw : CWv own j y bytes maxL ret nA) (hA : As.length = nA) (hdd : dy + 1 ≤ d0) (hkc : k + mc ≤ (vxR x).cells ∧ n + ms ≤ (vxR x).slots) (hrv : KR (vxZ x) y.cls b)
    (isC isR js : List Nat) {wr : va_W} (hC : isC.map (fun i => ws[i]?) = wc.map some) (hCn : va_nd isC = true) (hR : isR.map (fun i => ws[i]?) = wr.map some) (hRn : va_nd isR = true) (hdis : ∀ i ∈ isR, i ∉ isC) (hjn : va_nd js = true) (hrest : (st.map fun v => v.category).sum ≤ 8) (hst : st0 = As.reverse ++ .ref b :: st) (hd : decode cc pc = .ok (.invokevirtual j, 3))
    (kk : ∀ wc', P' wc' → ∃ ws2, js.map (fun i => (wr ++ wc')[i]?) = ws2.map some ∧ V x (k + mc) (n + ms) ws2 lv (pc + 3) (.int rv :: st)) : V x k n ws lv pc st0 := by
  intro H locs ls hP hD hS hl
  subst hst
  have hF := va_free hD hS X.2.2.2.2.2.2.1 isC hC
  have hPc := PcW_at (as := .ref b :: As) X hP hD hS isC hCn hC
  obtain ⟨w1, w2, w3, w4, w5, w6, w7, w8, w9⟩ := hw
  refine va_calli (va_runV (As := As) (rest := st) (C := y.cls) ⟨X.1, X.2.1, X.2.2.1, X.2.2.2.1, X.2.2.2.2.1⟩ (hM H.size) (cwV nA X.2.2.2.2.1 (gw_goodIn (fun w hw => ?_)) rfl rfl rfl ⟨rfl, w6, w7, w8⟩ ⟨Nat.le_trans (show dy + 1 ≤ d0 from hdd) X.2.2.2.2.2.2.2.2.2.1, Nat.le_trans (show 8 + (maxL + 11) + 40 * dy ≤ 40 * d0 by omega) X.2.2.2.2.2.2.2.2.2.2.1⟩) ⟨PcW_blind X.2.2.2.2.2.2.2.1, hrv _ _ _ (X.Zat hS), hPc⟩ rfl hA hl.1 rfl (lv_room hrest) hd hkc) hS (fun q _ h => hF q h) hF (fun r_ u t H1 locs1 ht hvm hwr hB hz1 hk1 hS1 => ?_)
  · simp only [wsV, List.mem_append, List.mem_cons, List.not_mem_nil, or_false] at hw
    rcases hw with (rfl | rfl | rfl | rfl) | rfl | hw
    · exact w1
    · exact w2
    · exact w3
    · exact w4
    · exact w5
    · exact hw
  subst hwr
  obtain ⟨wc', hp', hB⟩ := hB
  obtain ⟨ws2, hj, kk⟩ := kk wc' hp'
  obtain ⟨hP2, hD2⟩ := BW_join ht hP hD isC isR js hC hR hRn hdis hj hjn hk1 hF hB
  exact kk H1 locs1 ls hP2 hD2 hS1 hl
theorem vp_cell_congr {cA : ClassId} {n : Nat} {f g : Nat → Int32} (h : ∀ j, j < n → f j = g j) : vp_cell cA (n, .inl f) = vp_cell cA (n, .inl g) := by
  have e : ∀ j : Fin n, (fun j : Fin n => f j.val) j = (fun j : Fin n => g j.val) j := fun j => h j.val j.isLt
  simp only [vp_cell, arrV]
  congr 1
  first
  | (apply Array.ext
     · simp
     · intro i h1 h2
       simp only [Array.getElem_ofFn]
       rw [h i (by simpa using h1)])
  | (apply Array.ext
     · simp
     · intro i h1 h2
       simp
       exact h i (by simpa using h1))
/-- an array's contents count within its length alone -/
theorem v_arr {x : VX} {k n : Nat} {ws : va_W} {lv : List (Nat × Value)} {pc : Nat} {st : List Value} (q0 : Nat) {a m : Nat} {cA : ClassId} {f g : Nat → Int32} (ha : ws[q0]? = some (a, .inl (cA, m, .inl f))) (h : ∀ j, j < m → f j = g j) (kk : V x k n (ws.set q0 (a, .inl (cA, m, .inl g))) lv pc st) : V x k n ws lv pc st := by
  intro H locs ls hP hD hS hl
  refine kk H locs ls ?_ ?_ hS hl
  · intro i q hq
    rw [List.getElem?_set] at hq
    split at hq
    · rename_i e
      subst e
      split at hq
      · cases hq
        have := hP _ _ ha
        show H[a]? = some (vp_cell cA (m, .inl g))
        rw [← vp_cell_congr h]
        exact this
      · cases hq
    · exact hP i q hq
  · refine ⟨fun i j p q hi hj e => ?_, fun i q hi => ?_⟩
    · have key : ∀ (i : Nat) (p : Nat × va_E), (ws.set q0 (a, .inl (cA, m, .inl g)))[i]? = some p → ∃ p', ws[i]? = some p' ∧ p'.1 = p.1 := by
        intro i p hi
        rw [List.getElem?_set] at hi
        split at hi
        · rename_i e
          subst e
          split at hi
          · cases hi; exact ⟨_, ha, rfl⟩
          · cases hi
        · exact ⟨p, hi, rfl⟩
      obtain ⟨p', h1, h2⟩ := key i p hi
      obtain ⟨q', h3, h4⟩ := key j q hj
      exact hD.1 i j p' q' h1 h3 (by rw [h2, h4]; exact e)
    · rw [List.getElem?_set] at hi
      split at hi
      · rename_i e
        subst e
        split at hi
        · cases hi; exact hD.2 q0 (a, .inl (cA, m, .inl f)) ha
        · cases hi
      · exact hD.2 i q hi
def nm6 (a b c d e f : Int32) : Nat → Int32 := fun j => match j with
  | 0 => a
  | 1 => b
  | 2 => c
  | 3 => d
  | 4 => e
  | _ => f
