/-! ## the law's own calls: a tail of cells that stay as they are (the texts), told to the callee among its constants -/
theorem rng_map (U wc : va_W) : (List.range U.length).map (fun i => (U ++ wc)[i]?) = U.map some := by
  apply List.ext_getElem?
  intro i
  simp only [List.getElem?_map]
  by_cases h : i < U.length
  · rw [List.getElem?_range h, List.getElem?_eq_getElem h]
    simp only [Option.map_some]
    rw [List.getElem?_append_left h, List.getElem?_eq_getElem h]
  · rw [List.getElem?_eq_none (by simpa using h), List.getElem?_eq_none (by simpa using h)]; rfl
theorem off_map (U wc : va_W) : ((List.range wc.length).map (fun i => U.length + i)).map (fun i => (U ++ wc)[i]?) = wc.map some := by
  apply List.ext_getElem?
  intro i
  simp only [List.getElem?_map]
  by_cases h : i < wc.length
  · rw [List.getElem?_range h, List.getElem?_eq_getElem h]
    simp only [Option.map_some]
    rw [List.getElem?_append_right (by omega), Nat.add_sub_cancel_left, List.getElem?_eq_getElem h]
  · rw [List.getElem?_eq_none (by simpa using h), List.getElem?_eq_none (by simpa using h)]; rfl
theorem nd_iff : ∀ l : List Nat, va_nd l = true ↔ l.Nodup
  | [] => by simp [va_nd]
  | a :: l => by
    have := nd_iff l
    simp only [va_nd, Bool.and_eq_true, decide_eq_true_eq, List.nodup_cons, this]
theorem nd_rng (m : Nat) : va_nd (List.range m) = true := (nd_iff _).mpr List.nodup_range
theorem nd_off (c m : Nat) : va_nd ((List.range m).map (fun i => c + i)) = true := by
  rw [nd_iff]
  refine List.Pairwise.map _ ?_ (List.nodup_range (n := m))
  intro a b h h2
  exact h (by omega)
theorem nd_app {a b : List Nat} (ha : va_nd a = true) (hb : va_nd b = true) (hd : ∀ i ∈ a, i ∉ b) : va_nd (a ++ b) = true := by
  rw [nd_iff] at *
  rw [List.nodup_append]
  exact ⟨ha, hb, fun x hx y hy e => hd x hx (e ▸ hy)⟩
/-- another order of the world -/
theorem v_reW {x : VX} {k n : Nat} {ws ws' : va_W} {lv : List (Nat × Value)} {pc : Nat} {st : List Value} (h1 : ∀ H, va_P (vxD x) vwCl ws H → va_P (vxD x) vwCl ws' H) (h2 : va_D (vxA x) ws → va_D (vxA x) ws') (kk : V x k n ws' lv pc st) : V x k n ws lv pc st :=
  fun H locs ls hP hD hS hl => kk H locs ls (h1 H hP) (h2 hD) hS hl
/-- constants, and cells that stay -/
def ZT (D : va_G) (qT : Nat → ClassId) (Z : (Nat → Prop) → State → Heap → Prop) (tw : va_W) : (Nat → Prop) → State → Heap → Prop :=
  fun A U H => Z A U H ∧ va_K D vwCl (vTy qT) U ∧ va_P D vwCl tw H ∧ ∀ (k : Nat) (q : Nat × va_E), tw[k]? = some q → ¬ A q.1
theorem ZT_ok {D : va_G} {qT : Nat → ClassId} {Z : (Nat → Prop) → State → Heap → Prop} {tw : va_W} (hZ : ZOK Z) : ZOK (ZT D qT Z tw) := by
  refine ⟨?_, ?_, ?_⟩
  · rintro A B U H hAB ⟨h1, h2, h3, h4⟩
    exact ⟨hZ.1 A B U H hAB h1, h2, h3, fun k q hk hb => h4 k q hk (hAB _ hb)⟩
  · rintro A U U' H hU ⟨h1, h2, h3, h4⟩
    refine ⟨hZ.2.1 A U U' H hU h1, ?_, h3, h4⟩
    rcases hU with hU | hU
    · exact va_K.moved (hU ▸ Vm.Alike.refl U.vm) h2
    · exact va_K.moved hU.alike h2
  · rintro A U H H1 hk ⟨h1, h2, h3, h4⟩
    exact ⟨hZ.2.2 A U H H1 hk h1, h2, h3.kept (fun k q hq => hk q.1 (h3 k q hq).lt (h4 k q hq)), h4⟩
/-- cells of a world laid anew: by a mask, out of es -/
def mrgW : va_W → List (Option Nat) → va_W → va_W
  | w :: ws, some j :: m, es => (es[j]?).getD w :: mrgW ws m es
  | w :: ws, none :: m, es => w :: mrgW ws m es
  | ws, _, _ => ws
theorem mrgW_len : ∀ (ws : va_W) (m : List (Option Nat)) (es : va_W), (mrgW ws m es).length = ws.length
  | [], m, es => by simp [mrgW]
  | w :: ws, [], es => by simp [mrgW]
  | w :: ws, some j :: m, es => by simp only [mrgW, List.length_cons, mrgW_len ws m es]
  | w :: ws, none :: m, es => by simp only [mrgW, List.length_cons, mrgW_len ws m es]
theorem mrgW_at : ∀ (ws : va_W) (m : List (Option Nat)) (es : va_W) (k : Nat) (q : Nat × va_E), (∀ j : Nat, some j ∈ m → j < es.length) → (mrgW ws m es)[k]? = some q → (∃ j : Nat, m[k]? = some (some j) ∧ es[j]? = some q) ∨ ((∀ j : Nat, m[k]? ≠ some (some j)) ∧ ws[k]? = some q)
  | [], m, es, k, q, hm, h => by simp [mrgW] at h
  | w :: ws, [], es, k, q, hm, h => Or.inr ⟨fun j => by simp, by simpa [mrgW] using h⟩
  | w :: ws, some j :: m, es, k, q, hm, h => by
    simp only [mrgW] at h
    cases k with
    | zero =>
      have hj := hm j List.mem_cons_self
      rw [List.getElem?_cons_zero, List.getElem?_eq_getElem hj, Option.getD_some] at h
      exact Or.inl ⟨j, rfl, by rw [List.getElem?_eq_getElem hj]; exact h⟩
    | succ k =>
      rw [List.getElem?_cons_succ] at h
      simpa using mrgW_at ws m es k q (fun j hj => hm j (List.mem_cons_of_mem _ hj)) h
  | w :: ws, none :: m, es, k, q, hm, h => by
    simp only [mrgW] at h
    cases k with
    | zero => exact Or.inr ⟨fun j => by simp, by simpa using h⟩
    | succ k =>
      rw [List.getElem?_cons_succ] at h
      simpa using mrgW_at ws m es k q (fun j hj => hm j (List.mem_cons_of_mem _ hj)) h
/-- a mask takes each once -/
theorem msk_inj : ∀ (m : List (Option Nat)), va_nd (m.filterMap id) = true → ∀ (i k j : Nat), m[i]? = some (some j) → m[k]? = some (some j) → i = k
  | [], _, i, k, j, h, _ => by simp at h
  | none :: m, hn, i, k, j, h1, h2 => by
    cases i with
    | zero => simp at h1
    | succ i =>
      cases k with
      | zero => simp at h2
      | succ k =>
        have := msk_inj m (by simpa using hn) i k j (by simpa using h1) (by simpa using h2)
        omega
  | some c :: m, hn, i, k, j, h1, h2 => by
    have hn' : va_nd (c :: m.filterMap id) = true := by simpa using hn
    simp only [va_nd, Bool.and_eq_true, decide_eq_true_eq] at hn'
    have no : ∀ t : Nat, m[t]? = some (some c) → False := fun t ht => hn'.1 (List.mem_filterMap.mpr ⟨some c, List.mem_of_getElem? ht, rfl⟩)
    cases i with
    | zero =>
      cases k with
      | zero => rfl
      | succ k =>
        obtain rfl : c = j := by simpa using h1
        exact (no k (by simpa using h2)).elim
    | succ i =>
      cases k with
      | zero =>
        obtain rfl : c = j := by simpa using h2
        exact (no i (by simpa using h1)).elim
      | succ k =>
        have := msk_inj m hn'.2 i k j (by simpa using h1) (by simpa using h2)
        omega
theorem ix_app {is : List Nat} {W W2 : va_W} (tw : va_W) (h : is.map (fun i => W[i]?) = W2.map some) : is.map (fun i => (W ++ tw)[i]?) = W2.map some := by
  rw [← h]
  apply List.map_congr_left
  intro i hi
  have hm : W[i]? ∈ is.map (fun i => W[i]?) := List.mem_map.mpr ⟨i, hi, rfl⟩
  rw [h] at hm
  obtain ⟨q, _, hq⟩ := List.mem_map.mp hm
  have hl := (List.getElem?_eq_some_iff.mp hq.symm).1
  exact List.getElem?_append_left hl
theorem at_of {is : List Nat} {W W2 : va_W} (h : is.map (fun i => W[i]?) = W2.map some) {k : Nat} {q : Nat × va_E} (hk : W2[k]? = some q) : ∃ i, i ∈ is ∧ W[i]? = some q := by
  have h1 : (is.map (fun i => W[i]?))[k]? = some (some q) := by rw [h, List.getElem?_map, hk]; rfl
  rw [List.getElem?_map] at h1
  cases hi : is[k]? with
  | none => rw [hi] at h1; cases h1
  | some i => rw [hi] at h1; exact ⟨i, List.mem_of_getElem? hi, Option.some.inj h1⟩
/-- behind a call of the law: the callee's cells laid anew, its new ones ahead of the tail -/
theorem law_join {x : VX} {ws tw wc wm wx : va_W} {isC : List Nat} {m : List (Option Nat)} {H H1 : Heap} (hP : va_P (vxD x) vwCl (ws ++ tw) H) (hD : va_D (vxA x) (ws ++ tw)) (hC : isC.map (fun i => ws[i]?) = wc.map some) (hCP : ∀ i ∈ isC, (m[i]?.join).isSome = true) (hmn : va_nd (m.filterMap id) = true) (hl : ∀ j : Nat, some j ∈ m → j < wm.length)
    (hk : ∀ q : Nat, q < H.size → ¬ va_A wc H.size q → H1[q]? = H[q]?) (hF : ∀ q, va_A wc H.size q → vxA x q) (hP1 : va_P (vxD x) vwCl (wm ++ wx) H1) (hD1 : va_D (va_A wc H.size) (wm ++ wx)) :
    va_P (vxD x) vwCl (mrgW ws m wm ++ (wx ++ tw)) H1 ∧ va_D (vxA x) (mrgW ws m wm ++ (wx ++ tw)) := by
  have cls : ∀ (k : Nat) (q : Nat × va_E), (mrgW ws m wm ++ (wx ++ tw))[k]? = some q → (∃ p : Nat, (wm ++ wx)[p]? = some q ∧ ((k < ws.length ∧ p < wm.length ∧ m[k]? = some (some p)) ∨ (ws.length ≤ k ∧ p = wm.length + (k - ws.length)))) ∨ (∃ k' : Nat, k' ∉ isC ∧ (ws ++ tw)[k']? = some q ∧ k = if k' < ws.length then k' else k' + wx.length) := by
    intro k q h
    have hsl := mrgW_len ws m wm
    rcases Nat.lt_or_ge k ws.length with h1 | h1
    · rw [List.getElem?_append_left (by omega)] at h
      rcases mrgW_at ws m wm k q hl h with ⟨p, h2, h3⟩ | ⟨h2, h3⟩
      · have hp := (List.getElem?_eq_some_iff.mp h3).1
        exact Or.inl ⟨p, by rw [List.getElem?_append_left hp]; exact h3, Or.inl ⟨h1, hp, h2⟩⟩
      · refine Or.inr ⟨k, fun hc => ?_, by rw [List.getElem?_append_left h1]; exact h3, by rw [if_pos h1]⟩
        have h4 := hCP k hc
        cases h5 : m[k]? with
        | none => rw [h5] at h4; cases h4
        | some o =>
          cases o with
          | none => rw [h5] at h4; cases h4
          | some j => exact h2 j h5
    · rw [List.getElem?_append_right (by omega), hsl] at h
      rcases Nat.lt_or_ge (k - ws.length) wx.length with h2 | h2
      · rw [List.getElem?_append_left h2] at h
        exact Or.inl ⟨wm.length + (k - ws.length), by rw [List.getElem?_append_right (by omega), Nat.add_sub_cancel_left]; exact h, Or.inr ⟨h1, rfl⟩⟩
      · rw [List.getElem?_append_right h2] at h
        refine Or.inr ⟨ws.length + (k - ws.length - wx.length), fun hc => ?_, by rw [List.getElem?_append_right (by omega), Nat.add_sub_cancel_left]; exact h, ?_⟩
        · have hm : ws[ws.length + (k - ws.length - wx.length)]? ∈ isC.map (fun i => ws[i]?) := List.mem_map.mpr ⟨_, hc, rfl⟩
          rw [hC, List.getElem?_eq_none (by omega)] at hm
          obtain ⟨q9, _, hq9⟩ := List.mem_map.mp hm
          cases hq9
        · rw [if_neg (by omega)]; omega
  have mix : ∀ (k' : Nat) (q : Nat × va_E), k' ∉ isC → (ws ++ tw)[k']? = some q → ¬ va_A wc H.size q.1 := by
    intro k' q h1 h2 h3
    rcases h3 with ⟨k2, e2, h⟩ | h
    · obtain ⟨i, hi, hq⟩ := at_of hC h
      have hil := (List.getElem?_eq_some_iff.mp hq).1
      have := hD.1 k' i q (q.1, e2) h2 (by rw [List.getElem?_append_left hil]; exact hq) rfl
      rw [this] at h1
      exact h1 hi
    · have := (hP k' q h2).lt
      omega
  refine ⟨fun k q h => ?_, fun i j p q hi hj e => ?_, fun k q h => ?_⟩
  · rcases cls k q h with ⟨p, h1, _⟩ | ⟨k', h1, h2, _⟩
    · exact hP1 p q h1
    · exact (hP k' q h2).kept (hk q.1 (hP k' q h2).lt (mix k' q h1 h2))
  · rcases cls i p hi with ⟨p1, a1, a2⟩ | ⟨p1, a0, a1, a2⟩ <;> rcases cls j q hj with ⟨p2, b1, b2⟩ | ⟨p2, b0, b1, b2⟩
    · have := hD1.1 p1 p2 p q a1 b1 e
      subst this
      rcases a2 with ⟨a3, a4, a5⟩ | ⟨a3, a4⟩ <;> rcases b2 with ⟨b3, b4, b5⟩ | ⟨b3, b4⟩
      · exact msk_inj m hmn i j p1 a5 b5
      · omega
      · omega
      · omega
    · exact absurd (show va_A wc H.size q.1 by rw [← e]; exact hD1.2 p1 p a1) (mix p2 q b0 b1)
    · exact absurd (show va_A wc H.size p.1 by rw [e]; exact hD1.2 p2 q b1) (mix p1 p a0 a1)
    · have := hD.1 p1 p2 p q a1 b1 e
      subst this
      rw [a2, b2]
  · rcases cls k q h with ⟨p, h1, _⟩ | ⟨k', h1, h2, _⟩
    · exact hF _ (hD1.2 p q h1)
    · exact hD.2 k' q h2
/-- the law's call: the callee's cells out of the world's fixed part, the tail among its constants -/
theorem v_lawI {x : VX} {cc : ByteArray} {own : String} {d0 k n : Nat} {ws tw : va_W} {lv : List (Nat × Value)} {pc : Nat} {st st0 : List Value} {y : MethodName} {bytes : ByteArray} {maxL dy mc ms nA j : Nat} {ret : Option FieldType} {wc : va_W} {P' : va_W → Prop} {rv : Int32} {As : List Value} {b ci N : Nat} {T : u_T} {fs : List Value} (X : Cx x cc own d0)
    (hM : CJI (vxl x) (vxD x) (vxT x) (ZT (vxD x) (vxT x) (vxZ x) tw) y bytes maxL ret dy mc ms (.ref b :: As) wc rv P') (hw : CWv own j y bytes maxL ret nA) (hA : As.length = nA) (hdd : dy + 1 ≤ d0) (hkc : k + mc ≤ (vxR x).cells ∧ n + ms ≤ (vxR x).slots) (q0 : Nat) (hq : wc[q0]? = some (b, .inr (ci, fs))) (hci : vwCl[ci]? = some (y.cls, T, N))
    (isC : List Nat) (m : List (Option Nat)) (hC : isC.map (fun i => ws[i]?) = wc.map some) (hCn : va_nd isC = true) (hCP : ∀ i ∈ isC, (m[i]?.join).isSome = true) (hmn : va_nd (m.filterMap id) = true) (Lm : Nat) (hml : m.all (fun o => o.all (fun j => decide (j < Lm))) = true)
    (hrest : (st.map fun v => v.category).sum ≤ 8) (hst : st0 = As.reverse ++ .ref b :: st) (hd : decode cc pc = .ok (.invokevirtual j, 3))
    (kk : ∀ wc', P' wc' → ∃ wm wx : va_W, wc' = wm ++ wx ∧ wm.length = Lm ∧ V x (k + mc) (n + ms) (mrgW ws m wm ++ (wx ++ tw)) lv (pc + 3) (.int rv :: st)) : V x k n (ws ++ tw) lv pc st0 := by
  intro H locs ls hP hD hS hl
  subst hst
  have hC' := ix_app tw hC
  have hF := va_free hD hS X.2.2.2.2.2.2.1 _ hC'
  have hPw : va_P (vxD x) vwCl wc H := fun k9 q9 hq9 => by
    obtain ⟨i, _, hi⟩ := at_of hC' hq9
    exact hP i q9 hi
  have hDc : va_D (vxA x) wc := hD.sub _ hCn hC'
  have hZ := X.2.2.2.2.2.2.2.1
  have hPc : ∀ U : State, U.heap = H → (vxs x).WarmedH U.vm → PcW (vxD x) (vxT x) (ZT (vxD x) (vxT x) (vxZ x) tw) (.ref b :: As) wc H.size (Value.ref b :: As).toArray U := by
    intro U hU hW
    refine ⟨rfl, by rw [hU], by rw [hU]; exact hPw, va_K.moved hW.alike X.2.2.2.2.2.1, hDc.weaken (fun _ _ _ _ => trivial), ?_, NW.warm hW X.2.2.2.2.2.2.2.2.2.2.2⟩
    rw [hU]
    have ht : ∀ (k : Nat) (q : Nat × va_E), tw[k]? = some q → (ws ++ tw)[ws.length + k]? = some q := by
      intro k q hk
      rw [List.getElem?_append_right (by omega), Nat.add_sub_cancel_left]; exact hk
    refine ⟨hZ.1 (vxA x) _ _ _ hF (hZ.2.1 _ (vxs x) _ _ (Or.inr hW) (hZ.2.2 _ _ (vxs x).heap _ (fun a h1 h2 => hS.2.1 a h1 h2) X.2.2.2.2.2.2.2.2.1)), va_K.moved hW.alike X.2.2.2.2.2.1, fun k q hk => hP _ q (ht k q hk), fun k q hk h => ?_⟩
    rcases h with ⟨k2, e2, h⟩ | h
    · obtain ⟨i, hi, h3⟩ := at_of hC h
      have hil := (List.getElem?_eq_some_iff.mp h3).1
      have := hD.1 _ i q (q.1, e2) (ht k q hk) (by rw [List.getElem?_append_left hil]; exact h3) rfl
      omega
    · have := (hP _ q (ht k q hk)).lt
      omega
  obtain ⟨w1, w2, w3, w4, w5, w6, w7, w8, w9⟩ := hw
  refine va_calli (va_runV (As := As) (rest := st) (C := y.cls) ⟨X.1, X.2.1, X.2.2.1, X.2.2.2.1, X.2.2.2.2.1⟩ (hM H.size) (cwV nA X.2.2.2.2.1 (gw_goodIn (fun w hw => ?_)) rfl rfl rfl ⟨rfl, w6, w7, w8⟩ ⟨Nat.le_trans (show dy + 1 ≤ d0 from hdd) X.2.2.2.2.2.2.2.2.2.1, Nat.le_trans (show 8 + (maxL + 11) + 40 * dy ≤ 40 * d0 by omega) X.2.2.2.2.2.2.2.2.2.2.1⟩) ⟨PcW_blind (ZT_ok hZ), va_recv X.2.2.2.2.2.1 hPw hci hq, hPc⟩ rfl hA hl.1 rfl (lv_room hrest) hd hkc) hS (fun q _ h => hF q h) hF (fun r_ u t H1 locs1 ht hvm hwr hB hz1 hk1 hS1 => ?_)
  · simp only [wsV, List.mem_append, List.mem_cons, List.not_mem_nil, or_false] at hw
    rcases hw with (rfl | rfl | rfl | rfl) | rfl | hw
    · exact w1
    · exact w2
    · exact w3
    · exact w4
    · exact w5
    · exact hw
  subst hwr
  obtain ⟨wc', hp', hB⟩ := hB
  obtain ⟨hP1, hK1, hD1⟩ := hB
  rw [ht] at hP1
  obtain ⟨wm, wx, rfl, hlm, kk⟩ := kk wc' hp'
  obtain ⟨hP2, hD2⟩ := law_join hP hD hC hCP hmn (fun j hj => by
    have h8 := List.all_eq_true.mp hml _ hj
    rw [hlm]; simpa using h8) hk1 hF hP1 hD1
  exact kk H1 locs1 ls hP2 hD2 hS1 hl
/-- the law's call: the callee's cells out of the world's fixed part, the tail among its constants -/
theorem v_lawL {x : VX} {cc : ByteArray} {own : String} {d0 k n : Nat} {ws tw : va_W} {lv : List (Nat × Value)} {pc : Nat} {st st0 : List Value} {y : MethodName} {bytes : ByteArray} {maxL dy mc ms nA j : Nat} {ret : Option FieldType} {wc : va_W} {P' : va_W → Prop} {rv : Int64} {As : List Value} {b ci N : Nat} {T : u_T} {fs : List Value} (X : Cx x cc own d0)
    (hM : CJL (vxl x) (vxD x) (vxT x) (ZT (vxD x) (vxT x) (vxZ x) tw) y bytes maxL ret dy mc ms (.ref b :: As) wc rv P') (hw : CWv own j y bytes maxL ret nA) (hA : As.length = nA) (hdd : dy + 1 ≤ d0) (hkc : k + mc ≤ (vxR x).cells ∧ n + ms ≤ (vxR x).slots) (q0 : Nat) (hq : wc[q0]? = some (b, .inr (ci, fs))) (hci : vwCl[ci]? = some (y.cls, T, N))
    (isC : List Nat) (m : List (Option Nat)) (hC : isC.map (fun i => ws[i]?) = wc.map some) (hCn : va_nd isC = true) (hCP : ∀ i ∈ isC, (m[i]?.join).isSome = true) (hmn : va_nd (m.filterMap id) = true) (Lm : Nat) (hml : m.all (fun o => o.all (fun j => decide (j < Lm))) = true)
    (hrest : (st.map fun v => v.category).sum ≤ 8) (hst : st0 = As.reverse ++ .ref b :: st) (hd : decode cc pc = .ok (.invokevirtual j, 3))
    (kk : ∀ wc', P' wc' → ∃ wm wx : va_W, wc' = wm ++ wx ∧ wm.length = Lm ∧ V x (k + mc) (n + ms) (mrgW ws m wm ++ (wx ++ tw)) lv (pc + 3) (.long rv :: st)) : V x k n (ws ++ tw) lv pc st0 := by
  intro H locs ls hP hD hS hl
  subst hst
  have hC' := ix_app tw hC
  have hF := va_free hD hS X.2.2.2.2.2.2.1 _ hC'
  have hPw : va_P (vxD x) vwCl wc H := fun k9 q9 hq9 => by
    obtain ⟨i, _, hi⟩ := at_of hC' hq9
    exact hP i q9 hi
  have hDc : va_D (vxA x) wc := hD.sub _ hCn hC'
  have hZ := X.2.2.2.2.2.2.2.1
  have hPc : ∀ U : State, U.heap = H → (vxs x).WarmedH U.vm → PcW (vxD x) (vxT x) (ZT (vxD x) (vxT x) (vxZ x) tw) (.ref b :: As) wc H.size (Value.ref b :: As).toArray U := by
    intro U hU hW
    refine ⟨rfl, by rw [hU], by rw [hU]; exact hPw, va_K.moved hW.alike X.2.2.2.2.2.1, hDc.weaken (fun _ _ _ _ => trivial), ?_, NW.warm hW X.2.2.2.2.2.2.2.2.2.2.2⟩
    rw [hU]
    have ht : ∀ (k : Nat) (q : Nat × va_E), tw[k]? = some q → (ws ++ tw)[ws.length + k]? = some q := by
      intro k q hk
      rw [List.getElem?_append_right (by omega), Nat.add_sub_cancel_left]; exact hk
    refine ⟨hZ.1 (vxA x) _ _ _ hF (hZ.2.1 _ (vxs x) _ _ (Or.inr hW) (hZ.2.2 _ _ (vxs x).heap _ (fun a h1 h2 => hS.2.1 a h1 h2) X.2.2.2.2.2.2.2.2.1)), va_K.moved hW.alike X.2.2.2.2.2.1, fun k q hk => hP _ q (ht k q hk), fun k q hk h => ?_⟩
    rcases h with ⟨k2, e2, h⟩ | h
    · obtain ⟨i, hi, h3⟩ := at_of hC h
      have hil := (List.getElem?_eq_some_iff.mp h3).1
      have := hD.1 _ i q (q.1, e2) (ht k q hk) (by rw [List.getElem?_append_left hil]; exact h3) rfl
      omega
    · have := (hP _ q (ht k q hk)).lt
      omega
  obtain ⟨w1, w2, w3, w4, w5, w6, w7, w8, w9⟩ := hw
  refine va_calll (va_runV (As := As) (rest := st) (C := y.cls) ⟨X.1, X.2.1, X.2.2.1, X.2.2.2.1, X.2.2.2.2.1⟩ (hM H.size) (cwV nA X.2.2.2.2.1 (gw_goodIn (fun w hw => ?_)) rfl rfl rfl ⟨rfl, w6, w7, w8⟩ ⟨Nat.le_trans (show dy + 1 ≤ d0 from hdd) X.2.2.2.2.2.2.2.2.2.1, Nat.le_trans (show 8 + (maxL + 11) + 40 * dy ≤ 40 * d0 by omega) X.2.2.2.2.2.2.2.2.2.2.1⟩) ⟨PcW_blind (ZT_ok hZ), va_recv X.2.2.2.2.2.1 hPw hci hq, hPc⟩ rfl hA hl.1 rfl (lv_room hrest) hd hkc) hS (fun q _ h => hF q h) hF (fun r_ u t H1 locs1 ht hvm hwr hB hz1 hk1 hS1 => ?_)
  · simp only [wsV, List.mem_append, List.mem_cons, List.not_mem_nil, or_false] at hw
    rcases hw with (rfl | rfl | rfl | rfl) | rfl | hw
    · exact w1
    · exact w2
    · exact w3
    · exact w4
    · exact w5
    · exact hw
  subst hwr
  obtain ⟨wc', hp', hB⟩ := hB
  obtain ⟨hP1, hK1, hD1⟩ := hB
  rw [ht] at hP1
  obtain ⟨wm, wx, rfl, hlm, kk⟩ := kk wc' hp'
  obtain ⟨hP2, hD2⟩ := law_join hP hD hC hCP hmn (fun j hj => by
    have h8 := List.all_eq_true.mp hml _ hj
    rw [hlm]; simpa using h8) hk1 hF hP1 hD1
  exact kk H1 locs1 ls hP2 hD2 hS1 hl
