/-! ## the law from its entry -/
theorem swd0 : Cond.classLink RL 7 RX6 ∈ gw := gw_of (List.mem_append_right _ (List.mem_of_getElem? (i := 16) (by decide +kernel))) (by decide +kernel)
theorem swd1 : Cond.classLink RL 10 RX7 ∈ gw := gw_of (List.mem_append_right _ (List.mem_of_getElem? (i := 748) (by decide +kernel))) (by decide +kernel)
theorem swd2 : Cond.instantiable RX6 10 ∈ gw := gw_of (List.mem_append_right _ (List.mem_of_getElem? (i := 17) (by decide +kernel))) (by decide +kernel)
theorem swd3 : Cond.instantiable RX7 39 ∈ gw := gw_of (List.mem_append_right _ (List.mem_of_getElem? (i := 749) (by decide +kernel))) (by decide +kernel)
theorem swd4 : Cond.initialized RX6 ∈ gw := gw_of (List.mem_append_right _ (List.mem_of_getElem? (i := 1) (by decide +kernel))) (by decide +kernel)
theorem swd5 : Cond.initialized RX7 ∈ gw := gw_of (List.mem_append_right _ (List.mem_of_getElem? (i := 15) (by decide +kernel))) (by decide +kernel)
theorem swd6 : Cond.methodLink RL 9 yX6_init ∈ gw := gw_of (List.mem_append_right _ (List.mem_of_getElem? (i := 18) (by decide +kernel))) (by decide +kernel)
theorem swd7 : Cond.instanceMethod yX6_init ∈ gw := gw_of (List.mem_append_right _ (List.mem_of_getElem? (i := 19) (by decide +kernel))) (by decide +kernel)
theorem swd8 : Cond.code yX6_init cX6_init 2 none ∈ gw := gw_of (List.mem_append_right _ (List.mem_of_getElem? (i := 20) (by decide +kernel))) (by decide +kernel)
theorem cwi_L_9 : CWi RL 9 yX6_init cX6_init 2 0 := ⟨swd6, swd7, swd4, swd8, (by decide +kernel), (by decide +kernel), (by decide +kernel), (by decide +kernel), by decide +kernel⟩
theorem swd9 : Cond.methodLink RL 12 yX7_init ∈ gw := gw_of (List.mem_append_right _ (List.mem_of_getElem? (i := 750) (by decide +kernel))) (by decide +kernel)
theorem swd10 : Cond.instanceMethod yX7_init ∈ gw := gw_of (List.mem_append_right _ (List.mem_of_getElem? (i := 751) (by decide +kernel))) (by decide +kernel)
theorem swd11 : Cond.code yX7_init cX7_init 1 none ∈ gw := gw_of (List.mem_append_right _ (List.mem_of_getElem? (i := 752) (by decide +kernel))) (by decide +kernel)
theorem cwi_L_12 : CWi RL 12 yX7_init cX7_init 1 0 := ⟨swd9, swd10, swd5, swd11, (by decide +kernel), (by decide +kernel), (by decide +kernel), (by decide +kernel), by decide +kernel⟩
theorem swd12 : Cond.instantiable RX0 3 ∈ gw := gw_of (List.mem_append_right _ (List.mem_of_getElem? (i := 144) (by decide +kernel))) (by decide +kernel)
theorem swd13 : Cond.instantiable RX1 9 ∈ gw := gw_of (List.mem_append_right _ (List.mem_of_getElem? (i := 83) (by decide +kernel))) (by decide +kernel)
theorem swd14 : Cond.instantiable RX2 11 ∈ gw := gw_of (List.mem_append_right _ (List.mem_of_getElem? (i := 25) (by decide +kernel))) (by decide +kernel)
theorem swd15 : Cond.instantiable RX3 3 ∈ gw := gw_of (List.mem_append_right _ (List.mem_of_getElem? (i := 162) (by decide +kernel))) (by decide +kernel)
theorem swd16 : Cond.instantiable RX4 5 ∈ gw := gw_of (List.mem_append_right _ (List.mem_of_getElem? (i := 121) (by decide +kernel))) (by decide +kernel)
theorem swd17 : Cond.instantiable RX5 2 ∈ gw := gw_of (List.mem_append_right _ (List.mem_of_getElem? (i := 313) (by decide +kernel))) (by decide +kernel)
theorem arr_K {A : Array Value} {s : State} {ty : FieldType} (h : (Cond.arrayClass ty).before A s = true) (hty : ty = .int ∨ ty = .boolean) : ∃ q, ArrOfT s q ty ∧ va_RA s q ty := by
  obtain ⟨c, k, comp, h1, h2, h3⟩ := Cond.arrayClass_spec h
  refine ⟨c, fun n z => ⟨fun k h => (by cases h), k, h2, comp, h3⟩, ?_⟩
  rcases hty with rfl | rfl <;> exact h1
theorem arr_O {A : Array Value} {s : State} {C : String} (h : (Cond.arrayOver (.object C)).before A s = true) : ∃ q, ArrOfT s q (.object C) ∧ va_RA s q (.object C) := by
  obtain ⟨comp, c, k, h1, _, h3, h4, h5⟩ := Cond.arrayOver_spec h
  exact ⟨c, fun n z => ⟨fun k h => (by cases h), k, h3, comp, h4⟩, k, comp, h3, h4, h1, h5⟩
theorem vq_congr {cA : ClassId} {n : Nat} {f g : Nat → Option Nat} (h : ∀ j, j < n → f j = g j) : vp_cell cA (n, .inr (.inr (.inr (.inr f)))) = vp_cell cA (n, .inr (.inr (.inr (.inr g)))) := by
  simp only [vp_cell, arrV]
  congr 1
  apply Array.ext
  · simp
  · intro i h1 h2
    simp only [Array.getElem_ofFn]
    rw [h i (by simpa using h1)]
theorem v_arrq {x : VX} {k n : Nat} {ws : va_W} {lv : List (Nat × Value)} {pc : Nat} {st : List Value} (q0 : Nat) {a m : Nat} {cA : ClassId} {f g : Nat → Option Nat} (ha : ws[q0]? = some (a, .inl (cA, m, .inr (.inr (.inr (.inr f)))))) (h : ∀ j, j < m → f j = g j) (kk : V x k n (ws.set q0 (a, .inl (cA, m, .inr (.inr (.inr (.inr g)))))) lv pc st) : V x k n ws lv pc st := by
  refine v_reW (fun H hP => ?_) (fun hD => ?_) kk
  · intro i q hq
    rw [List.getElem?_set] at hq
    split at hq
    · rename_i e
      subst e
      split at hq
      · cases hq
        have := hP _ _ ha
        show H[a]? = some (vp_cell cA (m, .inr (.inr (.inr (.inr g)))))
        rw [← vq_congr h]
        exact this
      · cases hq
    · exact hP i q hq
  · have key : ∀ (i : Nat) (q : Nat × va_E), (ws.set q0 (a, .inl (cA, m, .inr (.inr (.inr (.inr g))))))[i]? = some q → ∃ e, ws[i]? = some (q.1, e) := by
      intro i q hq
      rw [List.getElem?_set] at hq
      split at hq
      · rename_i e
        subst e
        split at hq
        · cases hq; exact ⟨_, ha⟩
        · cases hq
      · exact ⟨q.2, hq⟩
    refine ⟨fun i j p q hi hj e => ?_, fun i q hq => ?_⟩
    · obtain ⟨e1, h1⟩ := key i p hi
      obtain ⟨e2, h2⟩ := key j q hj
      exact hD.1 i j (p.1, e1) (q.1, e2) h1 h2 e
    · obtain ⟨e1, h1⟩ := key i q hq
      exact hD.2 i (q.1, e1) h1
set_option maxRecDepth 100000 in
set_option maxHeartbeats 4000000 in
theorem law_start {x : VX} {b Ls : Nat} {xs : Nat → Int32} {aK aV : Nat → Nat} {aU : Nat} (X : Cx x cL_law RL 2048) (hN : vxn x = 4) (hs : SCR x b Ls xs) (hRm : vxR x = room_1) (hZx : vxZ x = ZL aK aV aU) (hAx : ∀ q, vxA x q → (vxs x).heap.size ≤ q) (hQx : vxQ x = lw_Z (vxb x) #[Value.ref b] (vxs x)) (hax : vxa x = #[Value.ref b]) (hr : (vxh x).sig.returnType = ret) (hlk : (vxh x).locks = false) : V x 0 0 [] [(0, .ref b)] 0 [] := by
  obtain ⟨ends, fa, a, tok, tA, val, cs, code, texts0, e6, e7, hTX⟩ := first_text
  have hZ := X.2.2.2.2.2.2.2.1
  have hz : ∀ (A : Nat → Prop) (U : State) (H : Heap), vxZ x A U H → ZL aK aV aU A U H := fun A U H h => by rw [hZx] at h; exact h
  have hzt : ∀ (tw : va_W) (A : Nat → Prop) (U : State) (H : Heap), ZT (vxD x) (vxT x) (vxZ x) tw A U H → ZL aK aV aU A U H := fun tw A U H h => hz A U H h.1
  have hWd : ∀ tw : va_W, WordsK (vxD x) (vxT x) (ZT (vxD x) (vxT x) (vxZ x) tw) := fun tw => ZL_words (ZT_ok hZ) (hzt tw)
  have hUn : ∀ tw : va_W, UnderK (ZT (vxD x) (vxT x) (vxZ x) tw) := fun tw => ZL_under (hzt tw)
  have hnw : ∀ (w : Cond), w ∈ nw5 → ∀ (A : Nat → Prop) (U : State) (H : Heap), vxZ x A U H → va_Nw w U := fun w hw A U H h => (hz A U H h).2.2.2.2.2.2.2.2 w hw
  refine v_new (ci := 6) X xinX6 tyX6 tyX6_ok swd0 swd2 swd4 rfl (fs := [.null, .null, .null, .int 0, .null, .null, .int 0, .null, .null, .null]) (by decide +kernel) (by rw [hRm]; decide) (by rw [hRm]; decide) dL_law_0 (fun qx => ?_)
  refine v_ws (ws' := [(qx, .inr (6, [.null, .null, .null, .int 0, .null, .null, .int 0, .null, .null, .null]))]) rfl ?_
  refine v_dup X rfl dL_law_3 ?_
  refine v_cinit X (c_X6_init hZ (fun A U H h => (hz A U H h).2.2.2.2.2.2.1) (fun A U H h => (hz A U H h).2.2.2.2.2.2.2.1) (hnw _ (by simp [nw5])) (hnw _ (by simp [nw5])) (hnw _ (by simp [nw5])) (hnw _ (by simp [nw5])) (hnw _ (by simp [nw5])) (ZL_first hZ hz) (ZL_words hZ hz) e6) cwi_L_9 rfl (by decide) ⟨by rw [hRm]; decide, by rw [hRm]; decide⟩ [0] [] [0, 1, 2, 3, 4, 5, 6, 7, 8, 9, 10, 11, 12, 13, 14, 15, 16, 17, 18, 19, 20, 21, 22, 23, 24, 25, 26, 27, 28, 29, 30, 31, 32, 33, 34, 35, 36, 37, 38] rfl (by decide) (wr := []) rfl (by decide) (by decide) (by decide) (Nat.le_of_ble_eq_true rfl) rfl dL_law_4 ?_
  rintro _ ⟨q5_1, q37_1_2, q45_2_3, q53_3_4, q61_4_5, q69_5_6, q16_7, q37_1_8, q45_2_9, q53_3_10, q61_4_11, q69_5_12, q27_13, q37_1_14, q45_2_15, q53_3_16, q61_4_17, q69_5_18, q43_19, q18_1_20, q49_2_21, q56_22, q68_23, q7_1_24, q15_2_25, q79_26, q91_27, q109_28, q17_1_29, q109_30, q17_1_31, q109_32, q17_1_33, q109_34, q17_1_35, qt, qc, qe, rfl⟩
  refine ⟨[(qx, .inr (6, [.ref q5_1, .ref q16_7, .ref q27_13, .int 0, .ref q43_19, .ref q56_22, .int 1, .ref q68_23, .ref q79_26, .ref q91_27])), (q5_1, .inr (2, [.int 0, .int 0, .int 5, .int 0, .int 0, .int 0, .ref q37_1_2, .ref q45_2_3, .ref q53_3_4, .ref q61_4_5, .ref q69_5_6])), (q37_1_2, .inl (vxT x 0, 6, .inl (fun _ => 0))), (q45_2_3, .inl (vxT x 0, 6, .inl (fun _ => 0))), (q53_3_4, .inl (vxT x 0, 6, .inl (fun _ => 0))), (q61_4_5, .inl (vxT x 0, 6, .inl (fun _ => 0))), (q69_5_6, .inl (vxT x 0, 6, .inl (fun _ => 0))), (q16_7, .inr (2, [.int 0, .int 0, .int 5, .int 0, .int 0, .int 0, .ref q37_1_8, .ref q45_2_9, .ref q53_3_10, .ref q61_4_11, .ref q69_5_12])), (q37_1_8, .inl (vxT x 0, 6, .inl (fun _ => 0))), (q45_2_9, .inl (vxT x 0, 6, .inl (fun _ => 0))), (q53_3_10, .inl (vxT x 0, 6, .inl (fun _ => 0))), (q61_4_11, .inl (vxT x 0, 6, .inl (fun _ => 0))), (q69_5_12, .inl (vxT x 0, 6, .inl (fun _ => 0))), (q27_13, .inr (2, [.int 0, .int 0, .int 5, .int 0, .int 0, .int 0, .ref q37_1_14, .ref q45_2_15, .ref q53_3_16, .ref q61_4_17, .ref q69_5_18])), (q37_1_14, .inl (vxT x 0, 6, .inl (fun _ => 0))), (q45_2_15, .inl (vxT x 0, 6, .inl (fun _ => 0))), (q53_3_16, .inl (vxT x 0, 6, .inl (fun _ => 0))), (q61_4_17, .inl (vxT x 0, 6, .inl (fun _ => 0))), (q69_5_18, .inl (vxT x 0, 6, .inl (fun _ => 0))), (q43_19, .inr (1, [.int 0, .int fa, .ref q18_1_20, .int a, .int tok, .int tA, .int val, .ref q49_2_21, .int (nI cs)])), (q18_1_20, .inl (vxT x 0, 160, .inl fstT)), (q49_2_21, .inl (vxT x 0, 160, .inl code)), (q56_22, .inl (vxT x 3, 6, .inr (.inr (.inr (.inr (va_up (fun _ => none) (Int32.toNatClampNeg 0) (some qt))))))), (q68_23, .inr (4, [.ref q7_1_24, .ref q15_2_25, .int 0, .int 0, .int 0])), (q7_1_24, .inl (vxT x 0, 6, .inl (fun _ => 0))), (q15_2_25, .inl (vxT x 0, 40, .inl (fun _ => 0))), (q79_26, .inr (0, [.int (-1), .int 0, .int 0])), (q91_27, .inl (vxT x 2, 4, .inr (.inr (.inr (.inr (va_up (va_up (va_up (va_up (fun _ => none) (Int32.toNatClampNeg 0) (some q109_28)) (Int32.toNatClampNeg 1) (some q109_30)) (Int32.toNatClampNeg 2) (some q109_32)) (Int32.toNatClampNeg 3) (some q109_34))))))), (q109_28, .inr (3, [.int (-1), .int 0, .ref q17_1_29])), (q17_1_29, .inl (vxT x 0, 40, .inl (fun _ => 0))), (q109_30, .inr (3, [.int (-1), .int 0, .ref q17_1_31])), (q17_1_31, .inl (vxT x 0, 40, .inl (fun _ => 0))), (q109_32, .inr (3, [.int (-1), .int 0, .ref q17_1_33])), (q17_1_33, .inl (vxT x 0, 40, .inl (fun _ => 0))), (q109_34, .inr (3, [.int (-1), .int 0, .ref q17_1_35])), (q17_1_35, .inl (vxT x 0, 40, .inl (fun _ => 0))), (qt, .inr (5, [.ref qc, .ref qe])), (qc, .inl (vxT x 0, (Int32.toNatClampNeg (nI cs)), .inl code)), (qe, .inl (vxT x 0, 3, .inl ends))], rfl, ?_⟩
  refine v_astore_n X rfl (by rw [hN]; decide) (lv' := [(1, .ref qx), (0, .ref b)]) rfl dL_law_7 ?_
  refine v_new (ci := 7) X xinX7 tyX7 tyX7_ok swd1 swd3 swd5 rfl (fs := [.int 0, .null, .null, .int 0, .int 0, .null, .int 0, .null, .null, .null, .int 0, .int 0, .int 0, .int 0, .int 0, .int 0, .int 0, .int 0, .int 0, .int 0, .int 0, .int 0, .long 0, .int 0, .int 0, .int 0, .null, .null, .null, .int 0, .int 0, .null, .null, .int 0, .int 0, .null, .null, .null, .null]) (by decide +kernel) (by rw [hRm]; decide) (by rw [hRm]; decide) dL_law_8 (fun qm => ?_)
  refine v_dup X rfl dL_law_11 ?_
  refine v_cinit X (c_X7_init hZ e7) cwi_L_12 rfl (by decide) ⟨by rw [hRm]; decide, by rw [hRm]; decide⟩ [39] [0, 1, 2, 3, 4, 5, 6, 7, 8, 9, 10, 11, 12, 13, 14, 15, 16, 17, 18, 19, 20, 21, 22, 23, 24, 25, 26, 27, 28, 29, 30, 31, 32, 33, 34, 35, 36, 37, 38] [0, 1, 7, 13, 19, 22, 23, 26, 27, 20, 21, 24, 25, 2, 3, 4, 5, 6, 8, 9, 10, 11, 12, 14, 15, 16, 17, 18, 28, 30, 32, 34, 29, 31, 33, 35, 39, 40, 41, 42, 43, 44, 45, 46, 47, 48, 49, 50, 51, 52, 53, 54, 36, 37, 38] rfl (by decide) (wr := [(qx, .inr (6, [.ref q5_1, .ref q16_7, .ref q27_13, .int 0, .ref q43_19, .ref q56_22, .int 1, .ref q68_23, .ref q79_26, .ref q91_27])), (q5_1, .inr (2, [.int 0, .int 0, .int 5, .int 0, .int 0, .int 0, .ref q37_1_2, .ref q45_2_3, .ref q53_3_4, .ref q61_4_5, .ref q69_5_6])), (q37_1_2, .inl (vxT x 0, 6, .inl (fun _ => 0))), (q45_2_3, .inl (vxT x 0, 6, .inl (fun _ => 0))), (q53_3_4, .inl (vxT x 0, 6, .inl (fun _ => 0))), (q61_4_5, .inl (vxT x 0, 6, .inl (fun _ => 0))), (q69_5_6, .inl (vxT x 0, 6, .inl (fun _ => 0))), (q16_7, .inr (2, [.int 0, .int 0, .int 5, .int 0, .int 0, .int 0, .ref q37_1_8, .ref q45_2_9, .ref q53_3_10, .ref q61_4_11, .ref q69_5_12])), (q37_1_8, .inl (vxT x 0, 6, .inl (fun _ => 0))), (q45_2_9, .inl (vxT x 0, 6, .inl (fun _ => 0))), (q53_3_10, .inl (vxT x 0, 6, .inl (fun _ => 0))), (q61_4_11, .inl (vxT x 0, 6, .inl (fun _ => 0))), (q69_5_12, .inl (vxT x 0, 6, .inl (fun _ => 0))), (q27_13, .inr (2, [.int 0, .int 0, .int 5, .int 0, .int 0, .int 0, .ref q37_1_14, .ref q45_2_15, .ref q53_3_16, .ref q61_4_17, .ref q69_5_18])), (q37_1_14, .inl (vxT x 0, 6, .inl (fun _ => 0))), (q45_2_15, .inl (vxT x 0, 6, .inl (fun _ => 0))), (q53_3_16, .inl (vxT x 0, 6, .inl (fun _ => 0))), (q61_4_17, .inl (vxT x 0, 6, .inl (fun _ => 0))), (q69_5_18, .inl (vxT x 0, 6, .inl (fun _ => 0))), (q43_19, .inr (1, [.int 0, .int fa, .ref q18_1_20, .int a, .int tok, .int tA, .int val, .ref q49_2_21, .int (nI cs)])), (q18_1_20, .inl (vxT x 0, 160, .inl fstT)), (q49_2_21, .inl (vxT x 0, 160, .inl code)), (q56_22, .inl (vxT x 3, 6, .inr (.inr (.inr (.inr (va_up (fun _ => none) (Int32.toNatClampNeg 0) (some qt))))))), (q68_23, .inr (4, [.ref q7_1_24, .ref q15_2_25, .int 0, .int 0, .int 0])), (q7_1_24, .inl (vxT x 0, 6, .inl (fun _ => 0))), (q15_2_25, .inl (vxT x 0, 40, .inl (fun _ => 0))), (q79_26, .inr (0, [.int (-1), .int 0, .int 0])), (q91_27, .inl (vxT x 2, 4, .inr (.inr (.inr (.inr (va_up (va_up (va_up (va_up (fun _ => none) (Int32.toNatClampNeg 0) (some q109_28)) (Int32.toNatClampNeg 1) (some q109_30)) (Int32.toNatClampNeg 2) (some q109_32)) (Int32.toNatClampNeg 3) (some q109_34))))))), (q109_28, .inr (3, [.int (-1), .int 0, .ref q17_1_29])), (q17_1_29, .inl (vxT x 0, 40, .inl (fun _ => 0))), (q109_30, .inr (3, [.int (-1), .int 0, .ref q17_1_31])), (q17_1_31, .inl (vxT x 0, 40, .inl (fun _ => 0))), (q109_32, .inr (3, [.int (-1), .int 0, .ref q17_1_33])), (q17_1_33, .inl (vxT x 0, 40, .inl (fun _ => 0))), (q109_34, .inr (3, [.int (-1), .int 0, .ref q17_1_35])), (q17_1_35, .inl (vxT x 0, 40, .inl (fun _ => 0))), (qt, .inr (5, [.ref qc, .ref qe])), (qc, .inl (vxT x 0, (Int32.toNatClampNeg (nI cs)), .inl code)), (qe, .inl (vxT x 0, 3, .inl ends))]) rfl (by decide) (by decide) (by decide) (Nat.le_of_ble_eq_true rfl) rfl dL_law_12 ?_
  rintro _ ⟨q8_1, q16_2, q25_3, q32_4, q40_5, q48_6, q56_7, q64_8, q72_9, q79_10, q87_11, q99_12, q106_13, q113_14, q122_15, rfl⟩
  obtain ⟨ad, had⟩ : ∃ ad : Nat → Nat, ad = fun j => ([qx, q5_1, q16_7, q27_13, q43_19, q56_22, q68_23, q79_26, q91_27, q18_1_20, q49_2_21, q7_1_24, q15_2_25, q37_1_2, q45_2_3, q53_3_4, q61_4_5, q69_5_6, q37_1_8, q45_2_9, q53_3_10, q61_4_11, q69_5_12, q37_1_14, q45_2_15, q53_3_16, q61_4_17, q69_5_18, q109_28, q109_30, q109_32, q109_34, q17_1_29, q17_1_31, q17_1_33, q17_1_35, qm, q8_1, q16_2, q25_3, q32_4, q40_5, q48_6, q56_7, q64_8, q72_9, q79_10, q87_11, q99_12, q106_13, q113_14, q122_15] : List Nat).getD j 0 := ⟨_, rfl⟩
  refine ⟨(WL (vxT x) ad 0 0 5 0 0 0 (fun _ => 0) (fun _ => 0) (fun _ => 0) (fun _ => 0) (fun _ => 0) (0, 0, 5, 0, 0, 0, (fun _ => 0), (fun _ => 0), (fun _ => 0), (fun _ => 0), (fun _ => 0)) (0, 0, 5, 0, 0, 0, (fun _ => 0), (fun _ => 0), (fun _ => 0), (fun _ => 0), (fun _ => 0)) 0 (0, fa, a, tok, tA, val, nI cs, fstT, code) (va_up (fun _ => none) (Int32.toNatClampNeg 0) (some qt)) 1 (0, 0, 0, (fun _ => 0), (fun _ => 0)) (-1, 0, 0) (-1, 0, (fun _ => 0)) (-1, 0, (fun _ => 0)) (-1, 0, (fun _ => 0)) (-1, 0, (fun _ => 0)) 0 1 0 0 0 (0, 0, 0, 0, 0, 0, 0, 0, 0, 0, 0, 0, 0, 0, 0) 0 0 (-1) 0 texts0 (upd (fun _ => 0) (Int32.toNatClampNeg 0) 48) (fun _ => 0) (upd (fun _ => 0) (Int32.toNatClampNeg 2) 5) (fun _ => 0) (fun _ => 0) (fun _ => 0) (fun _ => 0) (fun _ => 0) (fun _ => 0) (fun _ => 0) (fun _ => 0) (fun _ => 0) (fun _ => 0) (fun _ => 0) ++ ([(qt, .inr (5, [.ref qc, .ref qe])), (qc, .inl (vxT x 0, (Int32.toNatClampNeg (nI cs)), .inl code)), (qe, .inl (vxT x 0, 3, .inl ends))] : va_W)).set 8 (ad 8, .inl (vxT x 2, 4, .inr (.inr (.inr (.inr (va_up (va_up (va_up (va_up (fun _ => none) (Int32.toNatClampNeg 0) (some q109_28)) (Int32.toNatClampNeg 1) (some q109_30)) (Int32.toNatClampNeg 2) (some q109_32)) (Int32.toNatClampNeg 3) (some q109_34))))))), by subst had; rfl, ?_⟩
  refine v_astore_n X rfl (by rw [hN]; decide) (lv' := [(2, .ref qm), (1, .ref qx), (0, .ref b)]) rfl dL_law_15 ?_
  refine v_iconst X (v := 0) (by decide) dL_law_16 ?_
  refine v_istore_n X rfl (by rw [hN]; decide) (lv' := [(3, .int 0), (2, .ref qm), (1, .ref qx), (0, .ref b)]) rfl dL_law_17 ?_
  refine v_lv [3, 2, 1, 0] rfl ?_
  refine v_arrq 8 (g := shsF ad) rfl (fun j hj => ?_) ?_
  · subst had
    rcases (show j = 0 ∨ j = 1 ∨ j = 2 ∨ j = 3 by omega) with rfl | rfl | rfl | rfl <;> rfl
  refine v_ws (ws' := WL (vxT x) ad 0 0 5 0 0 0 (fun _ => 0) (fun _ => 0) (fun _ => 0) (fun _ => 0) (fun _ => 0) (0, 0, 5, 0, 0, 0, (fun _ => 0), (fun _ => 0), (fun _ => 0), (fun _ => 0), (fun _ => 0)) (0, 0, 5, 0, 0, 0, (fun _ => 0), (fun _ => 0), (fun _ => 0), (fun _ => 0), (fun _ => 0)) 0 (0, fa, a, tok, tA, val, nI cs, fstT, code) (va_up (fun _ => none) (Int32.toNatClampNeg 0) (some qt)) 1 (0, 0, 0, (fun _ => 0), (fun _ => 0)) (-1, 0, 0) (-1, 0, (fun _ => 0)) (-1, 0, (fun _ => 0)) (-1, 0, (fun _ => 0)) (-1, 0, (fun _ => 0)) 0 1 0 0 0 (0, 0, 0, 0, 0, 0, 0, 0, 0, 0, 0, 0, 0, 0, 0) 0 0 (-1) 0 texts0 (upd (fun _ => 0) (Int32.toNatClampNeg 0) 48) (fun _ => 0) (upd (fun _ => 0) (Int32.toNatClampNeg 2) 5) (fun _ => 0) (fun _ => 0) (fun _ => 0) (fun _ => 0) (fun _ => 0) (fun _ => 0) (fun _ => 0) (fun _ => 0) (fun _ => 0) (fun _ => 0) (fun _ => 0) ++ ([(qt, .inr (5, [.ref qc, .ref qe])), (qc, .inl (vxT x 0, (Int32.toNatClampNeg (nI cs)), .inl code)), (qe, .inl (vxT x 0, 3, .inl ends))] : va_W)) rfl ?_
  have hq1 : qx = ad 0 := by subst had; rfl
  have hq2 : qm = ad 36 := by subst had; rfl
  rw [hq1, hq2]
  have hTX0 := hTX (upd (fun _ => 0) (Int32.toNatClampNeg 0) 48) rfl
  have hcs := (TX_all (by decide) hTX0 (fun _ => 0)).1
  have hcl : (nI cs).toNatClampNeg = cs := cl_nI (by simp only at hcs; omega)
  refine law_loop X hN hs hRm hWd hUn hAx hQx hax hr hlk 512 0 _ _ _ 0 0 5 0 0 0 (fun _ => 0) (fun _ => 0) (fun _ => 0) (fun _ => 0) (fun _ => 0) (0, 0, 5, 0, 0, 0, (fun _ => 0), (fun _ => 0), (fun _ => 0), (fun _ => 0), (fun _ => 0)) (0, 0, 5, 0, 0, 0, (fun _ => 0), (fun _ => 0), (fun _ => 0), (fun _ => 0), (fun _ => 0)) 0 (0, fa, a, tok, tA, val, nI cs, fstT, code) (va_up (fun _ => none) (Int32.toNatClampNeg 0) (some qt)) 1 (0, 0, 0, (fun _ => 0), (fun _ => 0)) (-1, 0, 0) (-1, 0, (fun _ => 0)) (-1, 0, (fun _ => 0)) (-1, 0, (fun _ => 0)) (-1, 0, (fun _ => 0)) 0 1 0 0 0 (0, 0, 0, 0, 0, 0, 0, 0, 0, 0, 0, 0, 0, 0, 0) 0 0 (-1) 0 texts0 (upd (fun _ => 0) (Int32.toNatClampNeg 0) 48) (fun _ => 0) (upd (fun _ => 0) (Int32.toNatClampNeg 2) 5) (fun _ => 0) (fun _ => 0) (fun _ => 0) (fun _ => 0) (fun _ => 0) (fun _ => 0) (fun _ => 0) (fun _ => 0) (fun _ => 0) (fun _ => 0) (fun _ => 0) (by have := hs.2.2.2; omega) (by omega) (by decide) (by decide) ?_
  refine ⟨1, 0, 0, 0, 5, 0, 0, fun _ => 0, fun _ => 0, fun _ => 0, fun _ => (code, ends, cs), ?_, rfl, by decide, rfl, rfl, rfl, ⟨by decide, rfl, rfl, fun j hj => by omega⟩, fun t ht => ?_, ?_, Or.inl ⟨rfl, rfl⟩, Or.inl ⟨rfl, rfl⟩, Or.inl ⟨rfl, rfl⟩, Or.inl ⟨rfl, rfl⟩, Or.inl ⟨rfl, rfl⟩⟩
  · refine ⟨⟨by decide, by decide, by decide, by decide, ?_, fun p hp => by omega⟩, ⟨rfl, rfl, rfl, rfl, fun p hp => by omega⟩, ⟨rfl, rfl, rfl, rfl, rfl, fun p hp => by omega⟩, by decide, by decide, fun p hp => by omega, fun p hp => by omega⟩
    intro p q hp
    omega
  · obtain rfl : t = 0 := by omega
    exact hTX0
  · intro t ht
    obtain rfl : t = 0 := by omega
    rw [hcl]
    exact ⟨qt, qc, qe, 0, rfl, rfl, rfl, rfl⟩

/-- the classes and the array classes -/
theorem K_at {s : State} {b : Nat} (hts : ∀ w ∈ lw_tbl, w.before #[Value.ref b] s = true) : ∃ (D : va_G) (qT : Nat → ClassId), va_K D vwCl (vTy qT) s := by
  have hg : ∀ w ∈ gw, w.before #[Value.ref b] s = true := fun w hw => hts w ((List.mem_filter.mp hw).1)
  obtain ⟨c0, i0, k0⟩ := u_known (args := #[Value.ref b]) (s := s) hg xinX0 (hg _ swd12)
  obtain ⟨c1, i1, k1⟩ := u_known (args := #[Value.ref b]) (s := s) hg xinX1 (hg _ swd13)
  obtain ⟨c2, i2, k2⟩ := u_known (args := #[Value.ref b]) (s := s) hg xinX2 (hg _ swd14)
  obtain ⟨c3, i3, k3⟩ := u_known (args := #[Value.ref b]) (s := s) hg xinX3 (hg _ swd15)
  obtain ⟨c4, i4, k4⟩ := u_known (args := #[Value.ref b]) (s := s) hg xinX4 (hg _ swd16)
  obtain ⟨c5, i5, k5⟩ := u_known (args := #[Value.ref b]) (s := s) hg xinX5 (hg _ swd17)
  obtain ⟨c6, i6, k6⟩ := u_known (args := #[Value.ref b]) (s := s) hg xinX6 (hg _ swd2)
  obtain ⟨c7, i7, k7⟩ := u_known (args := #[Value.ref b]) (s := s) hg xinX7 (hg _ swd3)
  obtain ⟨q0, a0⟩ := arr_K (A := #[Value.ref b]) (s := s) (ty := .int) (hg _ wac_i) (Or.inl rfl)
  obtain ⟨q1, a1⟩ := arr_K (A := #[Value.ref b]) (s := s) (ty := .boolean) (hg _ wac_z) (Or.inr rfl)
  obtain ⟨q2, a2⟩ := arr_O (A := #[Value.ref b]) (s := s) (C := RX3) (hts _ (List.mem_append_right _ (List.mem_of_getElem? (i := 161) (by decide +kernel))))
  obtain ⟨q3, a3⟩ := arr_O (A := #[Value.ref b]) (s := s) (C := RX5) (hts _ (List.mem_append_right _ (List.mem_of_getElem? (i := 119) (by decide +kernel))))
  refine ⟨(fun c => match c with | 0 => c0 | 1 => c1 | 2 => c2 | 3 => c3 | 4 => c4 | 5 => c5 | 6 => c6 | _ => c7, fun c => match c with | 0 => i0 | 1 => i1 | 2 => i2 | 3 => i3 | 4 => i4 | 5 => i5 | 6 => i6 | _ => i7), fun k => match k with | 0 => q0 | 1 => q1 | 2 => q2 | _ => q3, fun c q hq => ?_, fun k q hq => ?_⟩
  · match c, hq with
    | 0, hq => obtain rfl := Option.some.inj hq; exact k0
    | 1, hq => obtain rfl := Option.some.inj hq; exact k1
    | 2, hq => obtain rfl := Option.some.inj hq; exact k2
    | 3, hq => obtain rfl := Option.some.inj hq; exact k3
    | 4, hq => obtain rfl := Option.some.inj hq; exact k4
    | 5, hq => obtain rfl := Option.some.inj hq; exact k5
    | 6, hq => obtain rfl := Option.some.inj hq; exact k6
    | 7, hq => obtain rfl := Option.some.inj hq; exact k7
    | c + 8, hq => exact absurd hq (by simp)
  · match k, hq with
    | 0, hq => obtain rfl := Option.some.inj hq; exact a0
    | 1, hq => obtain rfl := Option.some.inj hq; exact a1
    | 2, hq => obtain rfl := Option.some.inj hq; exact a2
    | 3, hq => obtain rfl := Option.some.inj hq; exact a3
    | k + 4, hq => exact absurd hq (by simp)
theorem NW_at {s : State} {b : Nat} (hts : ∀ w ∈ lw_tbl, w.before #[Value.ref b] s = true) : NW s := by
  intro w hw
  simp only [nwl, List.mem_cons, List.not_mem_nil, or_false] at hw
  rcases hw with rfl | rfl | rfl
  · exact va_Nw.of rfl (hts _ (List.mem_append_right _ (List.mem_of_getElem? (i := 396) (by decide +kernel))))
  · exact va_Nw.of rfl (hts _ (List.mem_append_right _ (List.mem_of_getElem? (i := 461) (by decide +kernel))))
  · exact va_Nw.of rfl (hts _ (List.mem_append_right _ (List.mem_of_getElem? (i := 541) (by decide +kernel))))
/-- YOUR PART: from the entry, for every script of at most 3072 ints, the law comes to its end with true -/
theorem whole_start {p : Program} {e : Env} {s : State} {m : MethodId} {below : List Frame} {meth : Method} {c : Code} (l : Launch) {b L : Nat} {xs : Nat → Int32} (hL : L ≤ 3072) (C0 : lw_At p s m meth c b L xs) : W p l e room_1 s m #[Value.ref b] below meth c s.heap [] 0 0 (lw_Z below #[Value.ref b] s) (entryFrame m ([Value.ref b] : List Value).toArray 4) := by
  obtain ⟨hx, hb, hr, hml, hown, hts, hX, hbl, hlk, hgv⟩ := C0
  have hA : ∀ a : Nat, a < s.heap.size → ¬ (fun q => s.heap.size ≤ q) a := fun a h1 h2 => by
    have h2 : s.heap.size ≤ a := h2
    omega
  obtain ⟨aK, aV, aU, hZ⟩ := ZL_at hts hgv hA
  obtain ⟨D, qT, hK⟩ := K_at hts
  have hl := lv_entry [Value.ref b] (n := 4) (Nat.le_of_ble_eq_true rfl)
  rw [lg_entry_eq]
  generalize (lg_sl [Value.ref b] ++ List.replicate (4 - (lg_sl [Value.ref b]).length) Slot.unset).toArray = ls at hl ⊢
  have X : Cx (p, l, e, room_1, s, m, #[Value.ref b], below, meth, c, D, qT, (fun q => s.heap.size ≤ q), ZL aK aV aU, lw_Z below #[Value.ref b] s, 4) cL_law RL 2048 :=
    ⟨hx, hb, hml, hown, fun w hw => hts w ((List.mem_filter.mp hw).1), hK, fun q h => h, ZL_ok aK aV aU, hZ, (show 2048 ≤ room_1.frames by decide), (show 40 * 2048 ≤ room_1.locals by decide), NW_at hts⟩
  exact law_start (aK := aK) (aV := aV) (aU := aU) X rfl ⟨hX, hbl, hA b hbl, hL⟩ rfl rfl (fun q h => h) rfl rfl hr hlk s.heap [] ls (fun k q h => absurd h (by simp)) ⟨fun i j p q h => absurd h (by simp), fun k q h => absurd h (by simp)⟩ va_S.rf hl
