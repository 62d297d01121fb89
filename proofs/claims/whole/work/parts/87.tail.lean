/-! ## the law's own calls: a tail of cells that stay as they are (the texts), told to the callee among its constants -/
theorem rng_map (U wc : va_W) : (List.range U.length).map (fun i => (U ++ wc)[i]?) = U.map some := by
  apply List.ext_getElem?
  intro i
  simp only [List.getElem?_map]
  by_cases h : i < U.length
  · rw [List.getElem?_range h, List.getElem?_eq_getElem h]
    simp only [Option.map_some]
    rw [List.getElem?_append_left h, List.getElem?_eq_getElem h]
  · rw [List.getElem?_eq_none (by simpa using h), List.getElem?_eq_none (by simpa using h)]; rfl
theorem off_map (U wc : va_W) : ((List.range wc.length).map (fun i => U.length + i)).map (fun i => (U ++ wc)[i]?) = wc.map some := by
  apply List.ext_getElem?
  intro i
  simp only [List.getElem?_map]
  by_cases h : i < wc.length
  · rw [List.getElem?_range h, List.getElem?_eq_getElem h]
    simp only [Option.map_some]
    rw [List.getElem?_append_right (by omega), Nat.add_sub_cancel_left, List.getElem?_eq_getElem h]
  · rw [List.getElem?_eq_none (by simpa using h), List.getElem?_eq_none (by simpa using h)]; rfl
theorem nd_iff : ∀ l : List Nat, va_nd l = true ↔ l.Nodup
  | [] => by simp [va_nd]
  | a :: l => by
    have := nd_iff l
    simp only [va_nd, Bool.and_eq_true, decide_eq_true_eq, List.nodup_cons, this]
theorem nd_rng (m : Nat) : va_nd (List.range m) = true := (nd_iff _).mpr List.nodup_range
theorem nd_off (c m : Nat) : va_nd ((List.range m).map (fun i => c + i)) = true := by
  rw [nd_iff]
  refine List.Pairwise.map _ ?_ (List.nodup_range (n := m))
  intro a b h h2
  exact h (by omega)
theorem nd_app {a b : List Nat} (ha : va_nd a = true) (hb : va_nd b = true) (hd : ∀ i ∈ a, i ∉ b) : va_nd (a ++ b) = true := by
  rw [nd_iff] at *
  rw [List.nodup_append]
  exact ⟨ha, hb, fun x hx y hy e => hd x hx (e ▸ hy)⟩
/-- another order of the world -/
theorem v_reW {x : VX} {k n : Nat} {ws ws' : va_W} {lv : List (Nat × Value)} {pc : Nat} {st : List Value} (h1 : ∀ H, va_P (vxD x) vwCl ws H → va_P (vxD x) vwCl ws' H) (h2 : va_D (vxA x) ws → va_D (vxA x) ws') (kk : V x k n ws' lv pc st) : V x k n ws lv pc st :=
  fun H locs ls hP hD hS hl => kk H locs ls (h1 H hP) (h2 hD) hS hl
/-- constants, and cells that stay -/
def ZT (D : va_G) (qT : Nat → ClassId) (Z : (Nat → Prop) → State → Heap → Prop) (tw : va_W) : (Nat → Prop) → State → Heap → Prop :=
  fun A U H => Z A U H ∧ va_K D vwCl (vTy qT) U ∧ va_P D vwCl tw H ∧ ∀ (k : Nat) (q : Nat × va_E), tw[k]? = some q → ¬ A q.1
theorem ZT_ok {D : va_G} {qT : Nat → ClassId} {Z : (Nat → Prop) → State → Heap → Prop} {tw : va_W} (hZ : ZOK Z) : ZOK (ZT D qT Z tw) := by
  refine ⟨?_, ?_, ?_⟩
  · rintro A B U H hAB ⟨h1, h2, h3, h4⟩
    exact ⟨hZ.1 A B U H hAB h1, h2, h3, fun k q hk hb => h4 k q hk (hAB _ hb)⟩
  · rintro A U U' H hU ⟨h1, h2, h3, h4⟩
    refine ⟨hZ.2.1 A U U' H hU h1, ?_, h3, h4⟩
    rcases hU with hU | hU
    · exact va_K.moved (hU ▸ Vm.Alike.refl U.vm) h2
    · exact va_K.moved hU.alike h2
  · rintro A U H H1 hk ⟨h1, h2, h3, h4⟩
    exact ⟨hZ.2.2 A U H H1 hk h1, h2, h3.kept (fun k q hq => hk q.1 (h3 k q hq).lt (h4 k q hq)), h4⟩
/-- a call with the callee's own constants: its cells stand last -/
theorem v_callZ {x : VX} {cc : ByteArray} {own : String} {d0 k n : Nat} {U0 : va_W} {lv : List (Nat × Value)} {pc : Nat} {st st0 : List Value} {y : MethodName} {bytes : ByteArray} {maxL dy mc ms nA j : Nat} {ret : Option FieldType} {wc : va_W} {P' : va_W → Prop} {rv : Int32} {As : List Value} {b ci N : Nat} {T : u_T} {fs : List Value} {Z' : (Nat → Prop) → State → Heap → Prop} (X : Cx x cc own d0) (hZ' : ZOK Z')
    (hZa : ∀ (H : Heap) (locs : List Loc), va_P (vxD x) vwCl (U0 ++ wc) H → va_D (vxA x) (U0 ++ wc) → va_S (vxA x) (vxs x).heap H locs → ∀ U : State, (vxs x).WarmedH U.vm → Z' (va_A wc H.size) U H)
    (hM : CJI (vxl x) (vxD x) (vxT x) Z' y bytes maxL ret dy mc ms (.ref b :: As) wc rv P') (hw : CWv own j y bytes maxL ret nA) (hA : As.length = nA) (hdd : dy + 1 ≤ d0) (hkc : k + mc ≤ (vxR x).cells ∧ n + ms ≤ (vxR x).slots) (q0 : Nat) (hq : wc[q0]? = some (b, .inr (ci, fs))) (hci : vwCl[ci]? = some (y.cls, T, N))
    (hrest : (st.map fun v => v.category).sum ≤ 8) (hst : st0 = As.reverse ++ .ref b :: st) (hd : decode cc pc = .ok (.invokevirtual j, 3))
    (kk : ∀ wc', P' wc' → V x (k + mc) (n + ms) (U0 ++ wc') lv (pc + 3) (.int rv :: st)) : V x k n (U0 ++ wc) lv pc st0 := by
  intro H locs ls hP hD hS hl
  subst hst
  have hC := off_map U0 wc
  have hR := rng_map U0 wc
  have hF := va_free hD hS X.2.2.2.2.2.2.1 _ hC
  have hPw : va_P (vxD x) vwCl wc H := fun k9 q9 hq9 => hP (U0.length + k9) q9 (by rw [List.getElem?_append_right (by omega), Nat.add_sub_cancel_left]; exact hq9)
  have hDc : va_D (vxA x) wc := hD.sub _ (nd_off _ _) hC
  have hPc : ∀ U : State, U.heap = H → (vxs x).WarmedH U.vm → PcW (vxD x) (vxT x) Z' (.ref b :: As) wc H.size (Value.ref b :: As).toArray U := by
    intro U hU hW
    refine ⟨rfl, by rw [hU], by rw [hU]; exact hPw, va_K.moved hW.alike X.2.2.2.2.2.1, hDc.weaken (fun _ _ _ _ => trivial), ?_, NW.warm hW X.2.2.2.2.2.2.2.2.2.2.2⟩
    rw [hU]
    exact hZa H locs hP hD hS U hW
  obtain ⟨w1, w2, w3, w4, w5, w6, w7, w8, w9⟩ := hw
  refine va_calli (va_runV (As := As) (rest := st) (C := y.cls) ⟨X.1, X.2.1, X.2.2.1, X.2.2.2.1, X.2.2.2.2.1⟩ (hM H.size) (cwV nA X.2.2.2.2.1 (gw_goodIn (fun w hw => ?_)) rfl rfl rfl ⟨rfl, w6, w7, w8⟩ ⟨Nat.le_trans (show dy + 1 ≤ d0 from hdd) X.2.2.2.2.2.2.2.2.2.1, Nat.le_trans (show 8 + (maxL + 11) + 40 * dy ≤ 40 * d0 by omega) X.2.2.2.2.2.2.2.2.2.2.1⟩) ⟨PcW_blind hZ', va_recv X.2.2.2.2.2.1 hPw hci hq, hPc⟩ rfl hA hl.1 rfl (lv_room hrest) hd hkc) hS (fun q _ h => hF q h) hF (fun r_ u t H1 locs1 ht hvm hwr hB hz1 hk1 hS1 => ?_)
  · simp only [wsV, List.mem_append, List.mem_cons, List.not_mem_nil, or_false] at hw
    rcases hw with (rfl | rfl | rfl | rfl) | rfl | hw
    · exact w1
    · exact w2
    · exact w3
    · exact w4
    · exact w5
    · exact hw
  subst hwr
  obtain ⟨wc', hp', hB⟩ := hB
  obtain ⟨hP1, hK1, hD1⟩ := hB
  rw [ht] at hP1
  obtain ⟨hP2, hD2⟩ := va_join (wr := U0) (w1 := wc') hP hD _ _ hC hR (nd_rng _) (fun i hi h => by
    simp only [List.mem_range] at hi
    simp only [List.mem_map, List.mem_range] at h
    obtain ⟨j, _, h⟩ := h
    omega) hk1 hF hP1 hD1
  exact kk wc' hp' H1 locs1 ls hP2 hD2 hS1 hl
/-- the law's call: the callee's cells out of the world's fixed part, the tail among its constants -/
theorem v_lawI {x : VX} {cc : ByteArray} {own : String} {d0 k n : Nat} {ws tw : va_W} {lv : List (Nat × Value)} {pc : Nat} {st st0 : List Value} {y : MethodName} {bytes : ByteArray} {maxL dy mc ms nA j : Nat} {ret : Option FieldType} {wc : va_W} {P' : va_W → Prop} {rv : Int32} {As : List Value} {b ci N : Nat} {T : u_T} {fs : List Value} (X : Cx x cc own d0)
    (hM : CJI (vxl x) (vxD x) (vxT x) (ZT (vxD x) (vxT x) (vxZ x) tw) y bytes maxL ret dy mc ms (.ref b :: As) wc rv P') (hw : CWv own j y bytes maxL ret nA) (hA : As.length = nA) (hdd : dy + 1 ≤ d0) (hkc : k + mc ≤ (vxR x).cells ∧ n + ms ≤ (vxR x).slots) (q0 : Nat) (hq : wc[q0]? = some (b, .inr (ci, fs))) (hci : vwCl[ci]? = some (y.cls, T, N))
    (isC isR : List Nat) {wr : va_W} (hC : isC.map (fun i => ws[i]?) = wc.map some) (hCn : va_nd isC = true) (hR : isR.map (fun i => ws[i]?) = wr.map some) (hRn : va_nd isR = true) (hdis : ∀ i ∈ isR, i ∉ isC)
    (hrest : (st.map fun v => v.category).sum ≤ 8) (hst : st0 = As.reverse ++ .ref b :: st) (hd : decode cc pc = .ok (.invokevirtual j, 3))
    (kk : ∀ wc', P' wc' → ∃ (js : List Nat) (ws2 tw2 : va_W), va_nd js = true ∧ js.map (fun i => (wr ++ wc')[i]?) = (ws2 ++ tw2).map some ∧ V x (k + mc) (n + ms) (ws2 ++ (tw2 ++ tw)) lv (pc + 3) (.int rv :: st)) : V x k n (ws ++ tw) lv pc st0 := by
  have hm : (isR ++ isC).map (fun i => ws[i]?) = (wr ++ wc).map some := by rw [List.map_append, List.map_append, hR, hC]
  have hn : va_nd (isR ++ isC) = true := nd_app hRn hCn hdis
  refine v_reW (ws' := (wr ++ tw) ++ wc) (fun H h => (h.part _ hm).swap) (fun h => (h.part _ hn hm).swap) ?_
  refine v_callZ X (ZT_ok X.2.2.2.2.2.2.2.1) ?_ hM hw hA hdd hkc q0 hq hci hrest hst hd ?_
  · intro H locs hP hD hS U hW
    have hF := va_free hD hS X.2.2.2.2.2.2.1 _ (off_map (wr ++ tw) wc)
    have hZ := X.2.2.2.2.2.2.2.1
    have ht : ∀ (k : Nat) (q : Nat × va_E), tw[k]? = some q → ((wr ++ tw) ++ wc)[wr.length + k]? = some q := by
      intro k q hk
      have hkl := (List.getElem?_eq_some_iff.mp hk).1
      rw [List.getElem?_append_left (by rw [List.length_append]; omega), List.getElem?_append_right (by omega), Nat.add_sub_cancel_left]; exact hk
    refine ⟨hZ.1 (vxA x) _ _ _ hF (hZ.2.1 _ (vxs x) _ _ (Or.inr hW) (hZ.2.2 _ _ (vxs x).heap _ (fun a h1 h2 => hS.2.1 a h1 h2) X.2.2.2.2.2.2.2.2.1)), va_K.moved hW.alike X.2.2.2.2.2.1, fun k q hk => hP _ q (ht k q hk), fun k q hk h => ?_⟩
    have hkl := (List.getElem?_eq_some_iff.mp hk).1
    rcases h with ⟨k2, e2, h⟩ | h
    · have h3 : ((wr ++ tw) ++ wc)[(wr ++ tw).length + k2]? = some (q.1, e2) := by
        rw [List.getElem?_append_right (by omega), Nat.add_sub_cancel_left]; exact h
      have := hD.1 _ _ q (q.1, e2) (ht k q hk) h3 rfl
      rw [List.length_append] at this
      omega
    · have := (hP _ q (ht k q hk)).lt
      omega
  · intro wc' hp'
    obtain ⟨js, ws2, tw2, h1, h2, h3⟩ := kk wc' hp'
    rw [← List.append_assoc] at h3
    exact v_reW (ws' := (ws2 ++ tw2) ++ tw) (fun H h => h.swap.part _ h2) (fun h => h.swap.part _ h1 h2) h3
