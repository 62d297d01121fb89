/-! ## the law's world -/
/-- the four sheets -/
def shsF (ad : Nat → Nat) : Nat → Option Nat := fun j => some (ad (28 + if j < 4 then j else 0))
abbrev WL (qT : Nat → ClassId) (ad : Nat → Nat) (face : Int32) (lamp : Int32) (stove : Int32) (pose : Int32) (rule : Int32) (painters : Int32) (kind : (Nat → Int32)) (number : (Nat → Int32)) (easel : (Nat → Int32)) (had : (Nat → Int32)) (pleased : (Nat → Int32)) (th : Int32 × Int32 × Int32 × Int32 × Int32 × Int32 × (Nat → Int32) × (Nat → Int32) × (Nat → Int32) × (Nat → Int32) × (Nat → Int32)) (kp : Int32 × Int32 × Int32 × Int32 × Int32 × Int32 × (Nat → Int32) × (Nat → Int32) × (Nat → Int32) × (Nat → Int32) × (Nat → Int32)) (ik : Int32) (rd : Int32 × Int32 × Int32 × Int32 × Int32 × Int32 × Int32 × (Nat → Int32) × (Nat → Int32)) (txs : Nat → Option Nat) (tc : Int32) (sg : Int32 × Int32 × Int32 × (Nat → Int32) × (Nat → Int32)) (mo : Int32 × Int32 × Int32) (sh0 : Int32 × Int32 × (Nat → Int32)) (sh1 : Int32 × Int32 × (Nat → Int32)) (sh2 : Int32 × Int32 × (Nat → Int32)) (sh3 : Int32 × Int32 × (Nat → Int32)) (thr : Int32) (tc7 : Int32) (rule7 : Int32) (taped : Int32) (many : Int32) (jk : Int32 × Int32 × Int32 × Int32 × Int32 × Int32 × Int32 × Int32 × Int32 × Int32 × Int32 × Int64 × Int32 × Int32 × Int32) (fw : Int32) (pw : Int32) (manyK : Int32) (ruleK : Int32) (texts : (Nat → Int32)) (textSize : (Nat → Int32)) (tp7 : (Nat → Int32)) (room : (Nat → Int32)) (kinds : (Nat → Int32)) (rows : (Nat → Int32)) (now : (Nat → Int32)) (gained : (Nat → Int32)) (was : (Nat → Int32)) (roomK : (Nat → Int32)) (rowsK : (Nat → Int32)) (iT : (Nat → Int32)) (so : (Nat → Int32)) (ss : (Nat → Int32)) (its : (Nat → Int32)) : va_W := [(ad 0, .inr (6, [.ref (ad 1), .ref (ad 2), .ref (ad 3), .int ik, .ref (ad 4), .ref (ad 5), .int tc, .ref (ad 6), .ref (ad 7), .ref (ad 8)])), (ad 1, .inr (2, [.int face, .int lamp, .int stove, .int pose, .int rule, .int painters, .ref (ad 13), .ref (ad 14), .ref (ad 15), .ref (ad 16), .ref (ad 17)])), (ad 2, .inr (2, [.int th.1, .int th.2.1, .int th.2.2.1, .int th.2.2.2.1, .int th.2.2.2.2.1, .int th.2.2.2.2.2.1, .ref (ad 18), .ref (ad 19), .ref (ad 20), .ref (ad 21), .ref (ad 22)])), (ad 3, .inr (2, [.int kp.1, .int kp.2.1, .int kp.2.2.1, .int kp.2.2.2.1, .int kp.2.2.2.2.1, .int kp.2.2.2.2.2.1, .ref (ad 23), .ref (ad 24), .ref (ad 25), .ref (ad 26), .ref (ad 27)])), (ad 4, .inr (1, [.int rd.1, .int rd.2.1, .ref (ad 9), .int rd.2.2.1, .int rd.2.2.2.1, .int rd.2.2.2.2.1, .int rd.2.2.2.2.2.1, .ref (ad 10), .int rd.2.2.2.2.2.2.1])), (ad 5, .inl (qT 3, 6, .inr (.inr (.inr (.inr txs))))), (ad 6, .inr (4, [.ref (ad 11), .ref (ad 12), .int sg.1, .int sg.2.1, .int sg.2.2.1])), (ad 7, .inr (0, [.int mo.1, .int mo.2.1, .int mo.2.2])), (ad 8, .inl (qT 2, 4, .inr (.inr (.inr (.inr (shsF ad)))))), (ad 9, .inl (qT 0, 160, .inl rd.2.2.2.2.2.2.2.1)), (ad 10, .inl (qT 0, 160, .inl rd.2.2.2.2.2.2.2.2)), (ad 11, .inl (qT 0, 6, .inl sg.2.2.2.1)), (ad 12, .inl (qT 0, 40, .inl sg.2.2.2.2)), (ad 13, .inl (qT 0, 6, .inl kind)), (ad 14, .inl (qT 0, 6, .inl number)), (ad 15, .inl (qT 0, 6, .inl easel)), (ad 16, .inl (qT 0, 6, .inl had)), (ad 17, .inl (qT 0, 6, .inl pleased)), (ad 18, .inl (qT 0, 6, .inl th.2.2.2.2.2.2.1)), (ad 19, .inl (qT 0, 6, .inl th.2.2.2.2.2.2.2.1)), (ad 20, .inl (qT 0, 6, .inl th.2.2.2.2.2.2.2.2.1)), (ad 21, .inl (qT 0, 6, .inl th.2.2.2.2.2.2.2.2.2.1)), (ad 22, .inl (qT 0, 6, .inl th.2.2.2.2.2.2.2.2.2.2)), (ad 23, .inl (qT 0, 6, .inl kp.2.2.2.2.2.2.1)), (ad 24, .inl (qT 0, 6, .inl kp.2.2.2.2.2.2.2.1)), (ad 25, .inl (qT 0, 6, .inl kp.2.2.2.2.2.2.2.2.1)), (ad 26, .inl (qT 0, 6, .inl kp.2.2.2.2.2.2.2.2.2.1)), (ad 27, .inl (qT 0, 6, .inl kp.2.2.2.2.2.2.2.2.2.2)), (ad 28, .inr (3, [.int sh0.1, .int sh0.2.1, .ref (ad 32)])), (ad 29, .inr (3, [.int sh1.1, .int sh1.2.1, .ref (ad 33)])), (ad 30, .inr (3, [.int sh2.1, .int sh2.2.1, .ref (ad 34)])), (ad 31, .inr (3, [.int sh3.1, .int sh3.2.1, .ref (ad 35)])), (ad 32, .inl (qT 0, 40, .inl sh0.2.2)), (ad 33, .inl (qT 0, 40, .inl sh1.2.2)), (ad 34, .inl (qT 0, 40, .inl sh2.2.2)), (ad 35, .inl (qT 0, 40, .inl sh3.2.2)), (ad 36, .inr (7, [.int thr, .ref (ad 37), .ref (ad 38), .int tc7, .int rule7, .ref (ad 39), .int taped, .ref (ad 40), .ref (ad 41), .ref (ad 42), .int many, .int jk.1, .int jk.2.1, .int jk.2.2.1, .int jk.2.2.2.1, .int jk.2.2.2.2.1, .int jk.2.2.2.2.2.1, .int jk.2.2.2.2.2.2.1, .int jk.2.2.2.2.2.2.2.1, .int jk.2.2.2.2.2.2.2.2.1, .int jk.2.2.2.2.2.2.2.2.2.1, .int jk.2.2.2.2.2.2.2.2.2.2.1, .long jk.2.2.2.2.2.2.2.2.2.2.2.1, .int jk.2.2.2.2.2.2.2.2.2.2.2.2.1, .int jk.2.2.2.2.2.2.2.2.2.2.2.2.2.1, .int jk.2.2.2.2.2.2.2.2.2.2.2.2.2.2, .ref (ad 43), .ref (ad 44), .ref (ad 45), .int fw, .int pw, .ref (ad 46), .ref (ad 47), .int manyK, .int ruleK, .ref (ad 48), .ref (ad 49), .ref (ad 50), .ref (ad 51)])), (ad 37, .inl (qT 0, 960, .inl texts)), (ad 38, .inl (qT 0, 6, .inl textSize)), (ad 39, .inl (qT 0, 160, .inl tp7)), (ad 40, .inl (qT 0, 4, .inl room)), (ad 41, .inl (qT 0, 6, .inl kinds)), (ad 42, .inl (qT 0, 24, .inl rows)), (ad 43, .inl (qT 0, 6, .inl now)), (ad 44, .inl (qT 0, 6, .inl gained)), (ad 45, .inl (qT 0, 24, .inl was)), (ad 46, .inl (qT 0, 4, .inl roomK)), (ad 47, .inl (qT 0, 24, .inl rowsK)), (ad 48, .inl (qT 1, 4, .inl iT)), (ad 49, .inl (qT 0, 4, .inl so)), (ad 50, .inl (qT 0, 4, .inl ss)), (ad 51, .inl (qT 0, 160, .inl its))]
/-- the script -/
def SCR (x : VX) (b L : Nat) (xs : Nat → Int32) : Prop := va_X b L xs (vxs x) (vxs x).heap ∧ b < (vxs x).heap.size ∧ ¬ vxA x b ∧ L ≤ 3072
theorem v_sld {x : VX} {cc : ByteArray} {own : String} {d0 k n : Nat} {ws : va_W} {lv : List (Nat × Value)} {pc : Nat} {st : List Value} (X : Cx x cc own d0) {b L : Nat} {xs : Nat → Int32} (hs : SCR x b L xs) {i : Nat} (hi : i < L) (hd : decode cc pc = .ok (.iaload, 1)) (kk : V x k n ws lv (pc + 1) (.int (xs i) :: st)) : V x k n ws lv pc (.int (nI i) :: .ref b :: st) := by
  intro H locs ls hP hD hS hl
  have h4 := hs.2.2.2
  refine va_sld X.1 X.2.1 hs.1 hs.2.1 hs.2.2.1 hS (inb_vp (inb_nI hi (by omega))) hd ?_
  rw [cl_nI (by omega)]
  exact kk H locs ls hP hD hS hl
theorem v_arg {x : VX} {d0 k n : Nat} {ws : va_W} {lv : List (Nat × Value)} {pc : Nat} {st : List Value} (X : Cx x cL_law RL d0) {b L i : Nat} {xs : Nat → Int32} (hs : SCR x b L xs) {j : Nat} (hij : i + j < L) {c : Int} (hc : Int32.ofInt c = nI j) (h0 : lv[0]? = some (0, .ref b)) (h3 : lv[3]? = some (3, .int (nI i))) (d1 : decode cL_law pc = .ok (.aload_n 0, 1)) (d2 : decode cL_law (pc + 1) = .ok (.iload_n 3, 1)) (d3 : decode cL_law (pc + 1 + 1) = .ok (.iconst c, 1)) (d4 : decode cL_law (pc + 1 + 1 + 1) = .ok (.iadd, 1)) (d5 : decode cL_law (pc + 1 + 1 + 1 + 1) = .ok (.iaload, 1))
    (kk : V x k n ws lv (pc + 1 + 1 + 1 + 1 + 1) (.int (xs (i + j)) :: st)) : V x k n ws lv pc st := by
  refine v_aload_n X 0 h0 d1 ?_
  refine v_iload_n X 3 h3 d2 ?_
  refine v_iconst X (v := nI j) hc d3 ?_
  refine v_iadd X d4 ?_
  rw [nI_add]
  exact v_sld X hs hij d5 kk
theorem lwd0 : Cond.methodLink RL 13 yX6_set ∈ gw := gw_of (List.mem_append_right _ (List.mem_of_getElem? (i := 373) (by decide +kernel))) (by decide +kernel)
theorem lwd1 : Cond.instanceMethod yX6_set ∈ gw := gw_of (List.mem_append_right _ (List.mem_of_getElem? (i := 374) (by decide +kernel))) (by decide +kernel)
theorem lwd2 : Cond.selects RX6 yX6_set yX6_set ∈ gw := gw_of (List.mem_append_right _ (List.mem_of_getElem? (i := 375) (by decide +kernel))) (by decide +kernel)
theorem lwd3 : Cond.initialized RX6 ∈ gw := gw_of (List.mem_append_right _ (List.mem_of_getElem? (i := 1) (by decide +kernel))) (by decide +kernel)
theorem lwd4 : Cond.code yX6_set cX6_set 5 (some .int) ∈ gw := gw_of (List.mem_append_right _ (List.mem_of_getElem? (i := 376) (by decide +kernel))) (by decide +kernel)
theorem cwv_L_13 : CWv RL 13 yX6_set cX6_set 5 (some .int) 3 := ⟨lwd0, lwd1, lwd2, lwd3, lwd4, (by decide +kernel), (by decide +kernel), (by decide +kernel), (by decide +kernel)⟩
theorem lwd5 : Cond.methodLink RL 17 yX7_set ∈ gw := gw_of (List.mem_append_right _ (List.mem_of_getElem? (i := 876) (by decide +kernel))) (by decide +kernel)
theorem lwd6 : Cond.instanceMethod yX7_set ∈ gw := gw_of (List.mem_append_right _ (List.mem_of_getElem? (i := 877) (by decide +kernel))) (by decide +kernel)
theorem lwd7 : Cond.selects RX7 yX7_set yX7_set ∈ gw := gw_of (List.mem_append_right _ (List.mem_of_getElem? (i := 878) (by decide +kernel))) (by decide +kernel)
theorem lwd8 : Cond.initialized RX7 ∈ gw := gw_of (List.mem_append_right _ (List.mem_of_getElem? (i := 15) (by decide +kernel))) (by decide +kernel)
theorem lwd9 : Cond.code yX7_set cX7_set 5 (some .int) ∈ gw := gw_of (List.mem_append_right _ (List.mem_of_getElem? (i := 879) (by decide +kernel))) (by decide +kernel)
theorem cwv_L_17 : CWv RL 17 yX7_set cX7_set 5 (some .int) 3 := ⟨lwd5, lwd6, lwd7, lwd8, lwd9, (by decide +kernel), (by decide +kernel), (by decide +kernel), (by decide +kernel)⟩
theorem lwd10 : Cond.methodLink RL 18 yX6_painter ∈ gw := gw_of (List.mem_append_right _ (List.mem_of_getElem? (i := 413) (by decide +kernel))) (by decide +kernel)
theorem lwd11 : Cond.instanceMethod yX6_painter ∈ gw := gw_of (List.mem_append_right _ (List.mem_of_getElem? (i := 414) (by decide +kernel))) (by decide +kernel)
theorem lwd12 : Cond.selects RX6 yX6_painter yX6_painter ∈ gw := gw_of (List.mem_append_right _ (List.mem_of_getElem? (i := 415) (by decide +kernel))) (by decide +kernel)
theorem lwd13 : Cond.code yX6_painter cX6_painter 4 (some .int) ∈ gw := gw_of (List.mem_append_right _ (List.mem_of_getElem? (i := 416) (by decide +kernel))) (by decide +kernel)
theorem cwv_L_18 : CWv RL 18 yX6_painter cX6_painter 4 (some .int) 3 := ⟨lwd10, lwd11, lwd12, lwd3, lwd13, (by decide +kernel), (by decide +kernel), (by decide +kernel), (by decide +kernel)⟩
theorem lwd14 : Cond.methodLink RL 21 yX7_painter ∈ gw := gw_of (List.mem_append_right _ (List.mem_of_getElem? (i := 1147) (by decide +kernel))) (by decide +kernel)
theorem lwd15 : Cond.instanceMethod yX7_painter ∈ gw := gw_of (List.mem_append_right _ (List.mem_of_getElem? (i := 1148) (by decide +kernel))) (by decide +kernel)
theorem lwd16 : Cond.selects RX7 yX7_painter yX7_painter ∈ gw := gw_of (List.mem_append_right _ (List.mem_of_getElem? (i := 1149) (by decide +kernel))) (by decide +kernel)
theorem lwd17 : Cond.code yX7_painter cX7_painter 4 (some .int) ∈ gw := gw_of (List.mem_append_right _ (List.mem_of_getElem? (i := 1150) (by decide +kernel))) (by decide +kernel)
theorem cwv_L_21 : CWv RL 21 yX7_painter cX7_painter 4 (some .int) 3 := ⟨lwd14, lwd15, lwd16, lwd8, lwd17, (by decide +kernel), (by decide +kernel), (by decide +kernel), (by decide +kernel)⟩
theorem lwd18 : Cond.methodLink RL 22 yX6_told ∈ gw := gw_of (List.mem_append_right _ (List.mem_of_getElem? (i := 425) (by decide +kernel))) (by decide +kernel)
theorem lwd19 : Cond.instanceMethod yX6_told ∈ gw := gw_of (List.mem_append_right _ (List.mem_of_getElem? (i := 426) (by decide +kernel))) (by decide +kernel)
theorem lwd20 : Cond.selects RX6 yX6_told yX6_told ∈ gw := gw_of (List.mem_append_right _ (List.mem_of_getElem? (i := 427) (by decide +kernel))) (by decide +kernel)
theorem lwd21 : Cond.code yX6_told cX6_told 3 (some .int) ∈ gw := gw_of (List.mem_append_right _ (List.mem_of_getElem? (i := 428) (by decide +kernel))) (by decide +kernel)
theorem cwv_L_22 : CWv RL 22 yX6_told cX6_told 3 (some .int) 2 := ⟨lwd18, lwd19, lwd20, lwd3, lwd21, (by decide +kernel), (by decide +kernel), (by decide +kernel), (by decide +kernel)⟩
theorem lwd22 : Cond.methodLink RL 26 yX7_told ∈ gw := gw_of (List.mem_append_right _ (List.mem_of_getElem? (i := 1151) (by decide +kernel))) (by decide +kernel)
theorem lwd23 : Cond.instanceMethod yX7_told ∈ gw := gw_of (List.mem_append_right _ (List.mem_of_getElem? (i := 907) (by decide +kernel))) (by decide +kernel)
theorem lwd24 : Cond.selects RX7 yX7_told yX7_told ∈ gw := gw_of (List.mem_append_right _ (List.mem_of_getElem? (i := 908) (by decide +kernel))) (by decide +kernel)
theorem lwd25 : Cond.code yX7_told cX7_told 3 (some .int) ∈ gw := gw_of (List.mem_append_right _ (List.mem_of_getElem? (i := 909) (by decide +kernel))) (by decide +kernel)
theorem cwv_L_26 : CWv RL 26 yX7_told cX7_told 3 (some .int) 2 := ⟨lwd22, lwd23, lwd24, lwd8, lwd25, (by decide +kernel), (by decide +kernel), (by decide +kernel), (by decide +kernel)⟩
theorem lwd26 : Cond.methodLink RL 27 yX6_feed ∈ gw := gw_of (List.mem_append_right _ (List.mem_of_getElem? (i := 508) (by decide +kernel))) (by decide +kernel)
theorem lwd27 : Cond.instanceMethod yX6_feed ∈ gw := gw_of (List.mem_append_right _ (List.mem_of_getElem? (i := 509) (by decide +kernel))) (by decide +kernel)
theorem lwd28 : Cond.selects RX6 yX6_feed yX6_feed ∈ gw := gw_of (List.mem_append_right _ (List.mem_of_getElem? (i := 510) (by decide +kernel))) (by decide +kernel)
theorem lwd29 : Cond.code yX6_feed cX6_feed 2 (some .int) ∈ gw := gw_of (List.mem_append_right _ (List.mem_of_getElem? (i := 511) (by decide +kernel))) (by decide +kernel)
theorem cwv_L_27 : CWv RL 27 yX6_feed cX6_feed 2 (some .int) 1 := ⟨lwd26, lwd27, lwd28, lwd3, lwd29, (by decide +kernel), (by decide +kernel), (by decide +kernel), (by decide +kernel)⟩
theorem lwd30 : Cond.methodLink RL 31 yX7_feed ∈ gw := gw_of (List.mem_append_right _ (List.mem_of_getElem? (i := 1152) (by decide +kernel))) (by decide +kernel)
theorem lwd31 : Cond.instanceMethod yX7_feed ∈ gw := gw_of (List.mem_append_right _ (List.mem_of_getElem? (i := 1153) (by decide +kernel))) (by decide +kernel)
theorem lwd32 : Cond.selects RX7 yX7_feed yX7_feed ∈ gw := gw_of (List.mem_append_right _ (List.mem_of_getElem? (i := 1154) (by decide +kernel))) (by decide +kernel)
theorem lwd33 : Cond.code yX7_feed cX7_feed 2 (some .int) ∈ gw := gw_of (List.mem_append_right _ (List.mem_of_getElem? (i := 1155) (by decide +kernel))) (by decide +kernel)
theorem cwv_L_31 : CWv RL 31 yX7_feed cX7_feed 2 (some .int) 1 := ⟨lwd30, lwd31, lwd32, lwd8, lwd33, (by decide +kernel), (by decide +kernel), (by decide +kernel), (by decide +kernel)⟩
theorem lwd34 : Cond.methodLink RL 32 yX6_text ∈ gw := gw_of (List.mem_append_right _ (List.mem_of_getElem? (i := 512) (by decide +kernel))) (by decide +kernel)
theorem lwd35 : Cond.instanceMethod yX6_text ∈ gw := gw_of (List.mem_append_right _ (List.mem_of_getElem? (i := 513) (by decide +kernel))) (by decide +kernel)
theorem lwd36 : Cond.selects RX6 yX6_text yX6_text ∈ gw := gw_of (List.mem_append_right _ (List.mem_of_getElem? (i := 514) (by decide +kernel))) (by decide +kernel)
theorem lwd37 : Cond.code yX6_text cX6_text 2 (some .int) ∈ gw := gw_of (List.mem_append_right _ (List.mem_of_getElem? (i := 515) (by decide +kernel))) (by decide +kernel)
theorem cwv_L_32 : CWv RL 32 yX6_text cX6_text 2 (some .int) 0 := ⟨lwd34, lwd35, lwd36, lwd3, lwd37, (by decide +kernel), (by decide +kernel), (by decide +kernel), (by decide +kernel)⟩
theorem lwd38 : Cond.methodLink RL 36 yX7_text ∈ gw := gw_of (List.mem_append_right _ (List.mem_of_getElem? (i := 1157) (by decide +kernel))) (by decide +kernel)
theorem lwd39 : Cond.instanceMethod yX7_text ∈ gw := gw_of (List.mem_append_right _ (List.mem_of_getElem? (i := 1158) (by decide +kernel))) (by decide +kernel)
theorem lwd40 : Cond.selects RX7 yX7_text yX7_text ∈ gw := gw_of (List.mem_append_right _ (List.mem_of_getElem? (i := 1159) (by decide +kernel))) (by decide +kernel)
theorem lwd41 : Cond.code yX7_text cX7_text 2 (some .int) ∈ gw := gw_of (List.mem_append_right _ (List.mem_of_getElem? (i := 1160) (by decide +kernel))) (by decide +kernel)
theorem cwv_L_36 : CWv RL 36 yX7_text cX7_text 2 (some .int) 0 := ⟨lwd38, lwd39, lwd40, lwd8, lwd41, (by decide +kernel), (by decide +kernel), (by decide +kernel), (by decide +kernel)⟩
theorem lwd42 : Cond.methodLink RL 37 yX6_force ∈ gw := gw_of (List.mem_append_right _ (List.mem_of_getElem? (i := 516) (by decide +kernel))) (by decide +kernel)
theorem lwd43 : Cond.instanceMethod yX6_force ∈ gw := gw_of (List.mem_append_right _ (List.mem_of_getElem? (i := 517) (by decide +kernel))) (by decide +kernel)
theorem lwd44 : Cond.selects RX6 yX6_force yX6_force ∈ gw := gw_of (List.mem_append_right _ (List.mem_of_getElem? (i := 518) (by decide +kernel))) (by decide +kernel)
theorem lwd45 : Cond.code yX6_force cX6_force 3 (some .int) ∈ gw := gw_of (List.mem_append_right _ (List.mem_of_getElem? (i := 519) (by decide +kernel))) (by decide +kernel)
theorem cwv_L_37 : CWv RL 37 yX6_force cX6_force 3 (some .int) 1 := ⟨lwd42, lwd43, lwd44, lwd3, lwd45, (by decide +kernel), (by decide +kernel), (by decide +kernel), (by decide +kernel)⟩
theorem lwd46 : Cond.methodLink RL 40 yX7_force ∈ gw := gw_of (List.mem_append_right _ (List.mem_of_getElem? (i := 1161) (by decide +kernel))) (by decide +kernel)
theorem lwd47 : Cond.instanceMethod yX7_force ∈ gw := gw_of (List.mem_append_right _ (List.mem_of_getElem? (i := 1162) (by decide +kernel))) (by decide +kernel)
theorem lwd48 : Cond.selects RX7 yX7_force yX7_force ∈ gw := gw_of (List.mem_append_right _ (List.mem_of_getElem? (i := 1163) (by decide +kernel))) (by decide +kernel)
theorem lwd49 : Cond.code yX7_force cX7_force 3 (some .int) ∈ gw := gw_of (List.mem_append_right _ (List.mem_of_getElem? (i := 1164) (by decide +kernel))) (by decide +kernel)
theorem cwv_L_40 : CWv RL 40 yX7_force cX7_force 3 (some .int) 1 := ⟨lwd46, lwd47, lwd48, lwd8, lwd49, (by decide +kernel), (by decide +kernel), (by decide +kernel), (by decide +kernel)⟩
theorem lwd50 : Cond.methodLink RL 41 yX6_pose ∈ gw := gw_of (List.mem_append_right _ (List.mem_of_getElem? (i := 520) (by decide +kernel))) (by decide +kernel)
theorem lwd51 : Cond.instanceMethod yX6_pose ∈ gw := gw_of (List.mem_append_right _ (List.mem_of_getElem? (i := 521) (by decide +kernel))) (by decide +kernel)
theorem lwd52 : Cond.selects RX6 yX6_pose yX6_pose ∈ gw := gw_of (List.mem_append_right _ (List.mem_of_getElem? (i := 522) (by decide +kernel))) (by decide +kernel)
theorem lwd53 : Cond.code yX6_pose cX6_pose 3 (some .int) ∈ gw := gw_of (List.mem_append_right _ (List.mem_of_getElem? (i := 523) (by decide +kernel))) (by decide +kernel)
theorem cwv_L_41 : CWv RL 41 yX6_pose cX6_pose 3 (some .int) 1 := ⟨lwd50, lwd51, lwd52, lwd3, lwd53, (by decide +kernel), (by decide +kernel), (by decide +kernel), (by decide +kernel)⟩
theorem lwd54 : Cond.methodLink RL 44 yX7_pose ∈ gw := gw_of (List.mem_append_right _ (List.mem_of_getElem? (i := 1165) (by decide +kernel))) (by decide +kernel)
theorem lwd55 : Cond.instanceMethod yX7_pose ∈ gw := gw_of (List.mem_append_right _ (List.mem_of_getElem? (i := 1166) (by decide +kernel))) (by decide +kernel)
theorem lwd56 : Cond.selects RX7 yX7_pose yX7_pose ∈ gw := gw_of (List.mem_append_right _ (List.mem_of_getElem? (i := 1167) (by decide +kernel))) (by decide +kernel)
theorem lwd57 : Cond.code yX7_pose cX7_pose 2 (some .int) ∈ gw := gw_of (List.mem_append_right _ (List.mem_of_getElem? (i := 1168) (by decide +kernel))) (by decide +kernel)
theorem cwv_L_44 : CWv RL 44 yX7_pose cX7_pose 2 (some .int) 1 := ⟨lwd54, lwd55, lwd56, lwd8, lwd57, (by decide +kernel), (by decide +kernel), (by decide +kernel), (by decide +kernel)⟩
theorem lwd58 : Cond.methodLink RL 45 yX6_run ∈ gw := gw_of (List.mem_append_right _ (List.mem_of_getElem? (i := 550) (by decide +kernel))) (by decide +kernel)
theorem lwd59 : Cond.instanceMethod yX6_run ∈ gw := gw_of (List.mem_append_right _ (List.mem_of_getElem? (i := 551) (by decide +kernel))) (by decide +kernel)
theorem lwd60 : Cond.selects RX6 yX6_run yX6_run ∈ gw := gw_of (List.mem_append_right _ (List.mem_of_getElem? (i := 552) (by decide +kernel))) (by decide +kernel)
theorem lwd61 : Cond.code yX6_run cX6_run 4 (some .int) ∈ gw := gw_of (List.mem_append_right _ (List.mem_of_getElem? (i := 553) (by decide +kernel))) (by decide +kernel)
theorem cwv_L_45 : CWv RL 45 yX6_run cX6_run 4 (some .int) 3 := ⟨lwd58, lwd59, lwd60, lwd3, lwd61, (by decide +kernel), (by decide +kernel), (by decide +kernel), (by decide +kernel)⟩
theorem lwd62 : Cond.methodLink RL 48 yX7_run ∈ gw := gw_of (List.mem_append_right _ (List.mem_of_getElem? (i := 1179) (by decide +kernel))) (by decide +kernel)
theorem lwd63 : Cond.instanceMethod yX7_run ∈ gw := gw_of (List.mem_append_right _ (List.mem_of_getElem? (i := 1180) (by decide +kernel))) (by decide +kernel)
theorem lwd64 : Cond.selects RX7 yX7_run yX7_run ∈ gw := gw_of (List.mem_append_right _ (List.mem_of_getElem? (i := 1181) (by decide +kernel))) (by decide +kernel)
theorem lwd65 : Cond.code yX7_run cX7_run 8 (some .int) ∈ gw := gw_of (List.mem_append_right _ (List.mem_of_getElem? (i := 1182) (by decide +kernel))) (by decide +kernel)
theorem cwv_L_48 : CWv RL 48 yX7_run cX7_run 8 (some .int) 3 := ⟨lwd62, lwd63, lwd64, lwd8, lwd65, (by decide +kernel), (by decide +kernel), (by decide +kernel), (by decide +kernel)⟩
theorem lwd66 : Cond.methodLink RL 49 yX6_ring ∈ gw := gw_of (List.mem_append_right _ (List.mem_of_getElem? (i := 590) (by decide +kernel))) (by decide +kernel)
theorem lwd67 : Cond.instanceMethod yX6_ring ∈ gw := gw_of (List.mem_append_right _ (List.mem_of_getElem? (i := 591) (by decide +kernel))) (by decide +kernel)
theorem lwd68 : Cond.selects RX6 yX6_ring yX6_ring ∈ gw := gw_of (List.mem_append_right _ (List.mem_of_getElem? (i := 592) (by decide +kernel))) (by decide +kernel)
theorem lwd69 : Cond.code yX6_ring cX6_ring 2 (some .int) ∈ gw := gw_of (List.mem_append_right _ (List.mem_of_getElem? (i := 593) (by decide +kernel))) (by decide +kernel)
theorem cwv_L_49 : CWv RL 49 yX6_ring cX6_ring 2 (some .int) 1 := ⟨lwd66, lwd67, lwd68, lwd3, lwd69, (by decide +kernel), (by decide +kernel), (by decide +kernel), (by decide +kernel)⟩
theorem lwd70 : Cond.methodLink RL 52 yX7_ring ∈ gw := gw_of (List.mem_append_right _ (List.mem_of_getElem? (i := 1208) (by decide +kernel))) (by decide +kernel)
theorem lwd71 : Cond.instanceMethod yX7_ring ∈ gw := gw_of (List.mem_append_right _ (List.mem_of_getElem? (i := 1209) (by decide +kernel))) (by decide +kernel)
theorem lwd72 : Cond.selects RX7 yX7_ring yX7_ring ∈ gw := gw_of (List.mem_append_right _ (List.mem_of_getElem? (i := 1210) (by decide +kernel))) (by decide +kernel)
theorem lwd73 : Cond.code yX7_ring cX7_ring 2 (some .int) ∈ gw := gw_of (List.mem_append_right _ (List.mem_of_getElem? (i := 1211) (by decide +kernel))) (by decide +kernel)
theorem cwv_L_52 : CWv RL 52 yX7_ring cX7_ring 2 (some .int) 1 := ⟨lwd70, lwd71, lwd72, lwd8, lwd73, (by decide +kernel), (by decide +kernel), (by decide +kernel), (by decide +kernel)⟩
theorem lwd74 : Cond.methodLink RL 53 yX6_mean ∈ gw := gw_of (List.mem_append_right _ (List.mem_of_getElem? (i := 611) (by decide +kernel))) (by decide +kernel)
theorem lwd75 : Cond.instanceMethod yX6_mean ∈ gw := gw_of (List.mem_append_right _ (List.mem_of_getElem? (i := 612) (by decide +kernel))) (by decide +kernel)
theorem lwd76 : Cond.selects RX6 yX6_mean yX6_mean ∈ gw := gw_of (List.mem_append_right _ (List.mem_of_getElem? (i := 613) (by decide +kernel))) (by decide +kernel)
theorem lwd77 : Cond.code yX6_mean cX6_mean 4 (some .long) ∈ gw := gw_of (List.mem_append_right _ (List.mem_of_getElem? (i := 614) (by decide +kernel))) (by decide +kernel)
theorem cwv_L_53 : CWv RL 53 yX6_mean cX6_mean 4 (some .long) 3 := ⟨lwd74, lwd75, lwd76, lwd3, lwd77, (by decide +kernel), (by decide +kernel), (by decide +kernel), (by decide +kernel)⟩
theorem lwd78 : Cond.methodLink RL 57 yX7_mean ∈ gw := gw_of (List.mem_append_right _ (List.mem_of_getElem? (i := 1228) (by decide +kernel))) (by decide +kernel)
theorem lwd79 : Cond.instanceMethod yX7_mean ∈ gw := gw_of (List.mem_append_right _ (List.mem_of_getElem? (i := 1229) (by decide +kernel))) (by decide +kernel)
theorem lwd80 : Cond.selects RX7 yX7_mean yX7_mean ∈ gw := gw_of (List.mem_append_right _ (List.mem_of_getElem? (i := 1230) (by decide +kernel))) (by decide +kernel)
theorem lwd81 : Cond.code yX7_mean cX7_mean 4 (some .long) ∈ gw := gw_of (List.mem_append_right _ (List.mem_of_getElem? (i := 1231) (by decide +kernel))) (by decide +kernel)
theorem cwv_L_57 : CWv RL 57 yX7_mean cX7_mean 4 (some .long) 3 := ⟨lwd78, lwd79, lwd80, lwd8, lwd81, (by decide +kernel), (by decide +kernel), (by decide +kernel), (by decide +kernel)⟩
theorem lwd82 : Cond.methodLink RL 58 yX6_best ∈ gw := gw_of (List.mem_append_right _ (List.mem_of_getElem? (i := 623) (by decide +kernel))) (by decide +kernel)
theorem lwd83 : Cond.instanceMethod yX6_best ∈ gw := gw_of (List.mem_append_right _ (List.mem_of_getElem? (i := 624) (by decide +kernel))) (by decide +kernel)
theorem lwd84 : Cond.selects RX6 yX6_best yX6_best ∈ gw := gw_of (List.mem_append_right _ (List.mem_of_getElem? (i := 625) (by decide +kernel))) (by decide +kernel)
theorem lwd85 : Cond.code yX6_best cX6_best 5 (some .int) ∈ gw := gw_of (List.mem_append_right _ (List.mem_of_getElem? (i := 626) (by decide +kernel))) (by decide +kernel)
theorem cwv_L_58 : CWv RL 58 yX6_best cX6_best 5 (some .int) 2 := ⟨lwd82, lwd83, lwd84, lwd3, lwd85, (by decide +kernel), (by decide +kernel), (by decide +kernel), (by decide +kernel)⟩
theorem lwd86 : Cond.methodLink RL 61 yX7_best ∈ gw := gw_of (List.mem_append_right _ (List.mem_of_getElem? (i := 1237) (by decide +kernel))) (by decide +kernel)
theorem lwd87 : Cond.instanceMethod yX7_best ∈ gw := gw_of (List.mem_append_right _ (List.mem_of_getElem? (i := 1238) (by decide +kernel))) (by decide +kernel)
theorem lwd88 : Cond.selects RX7 yX7_best yX7_best ∈ gw := gw_of (List.mem_append_right _ (List.mem_of_getElem? (i := 1239) (by decide +kernel))) (by decide +kernel)
theorem lwd89 : Cond.code yX7_best cX7_best 8 (some .int) ∈ gw := gw_of (List.mem_append_right _ (List.mem_of_getElem? (i := 1240) (by decide +kernel))) (by decide +kernel)
theorem cwv_L_61 : CWv RL 61 yX7_best cX7_best 8 (some .int) 2 := ⟨lwd86, lwd87, lwd88, lwd8, lwd89, (by decide +kernel), (by decide +kernel), (by decide +kernel), (by decide +kernel)⟩
theorem lwd90 : Cond.methodLink RL 62 yX6_seat ∈ gw := gw_of (List.mem_append_right _ (List.mem_of_getElem? (i := 631) (by decide +kernel))) (by decide +kernel)
theorem lwd91 : Cond.instanceMethod yX6_seat ∈ gw := gw_of (List.mem_append_right _ (List.mem_of_getElem? (i := 632) (by decide +kernel))) (by decide +kernel)
theorem lwd92 : Cond.selects RX6 yX6_seat yX6_seat ∈ gw := gw_of (List.mem_append_right _ (List.mem_of_getElem? (i := 633) (by decide +kernel))) (by decide +kernel)
theorem lwd93 : Cond.code yX6_seat cX6_seat 4 (some .int) ∈ gw := gw_of (List.mem_append_right _ (List.mem_of_getElem? (i := 634) (by decide +kernel))) (by decide +kernel)
theorem cwv_L_62 : CWv RL 62 yX6_seat cX6_seat 4 (some .int) 2 := ⟨lwd90, lwd91, lwd92, lwd3, lwd93, (by decide +kernel), (by decide +kernel), (by decide +kernel), (by decide +kernel)⟩
theorem lwd94 : Cond.methodLink RL 65 yX7_seat ∈ gw := gw_of (List.mem_append_right _ (List.mem_of_getElem? (i := 1241) (by decide +kernel))) (by decide +kernel)
theorem lwd95 : Cond.instanceMethod yX7_seat ∈ gw := gw_of (List.mem_append_right _ (List.mem_of_getElem? (i := 1242) (by decide +kernel))) (by decide +kernel)
theorem lwd96 : Cond.selects RX7 yX7_seat yX7_seat ∈ gw := gw_of (List.mem_append_right _ (List.mem_of_getElem? (i := 1243) (by decide +kernel))) (by decide +kernel)
theorem lwd97 : Cond.code yX7_seat cX7_seat 9 (some .int) ∈ gw := gw_of (List.mem_append_right _ (List.mem_of_getElem? (i := 1244) (by decide +kernel))) (by decide +kernel)
theorem cwv_L_65 : CWv RL 65 yX7_seat cX7_seat 9 (some .int) 2 := ⟨lwd94, lwd95, lwd96, lwd8, lwd97, (by decide +kernel), (by decide +kernel), (by decide +kernel), (by decide +kernel)⟩
theorem lwd98 : Cond.methodLink RL 66 yX6_change ∈ gw := gw_of (List.mem_append_right _ (List.mem_of_getElem? (i := 635) (by decide +kernel))) (by decide +kernel)
theorem lwd99 : Cond.instanceMethod yX6_change ∈ gw := gw_of (List.mem_append_right _ (List.mem_of_getElem? (i := 636) (by decide +kernel))) (by decide +kernel)
theorem lwd100 : Cond.selects RX6 yX6_change yX6_change ∈ gw := gw_of (List.mem_append_right _ (List.mem_of_getElem? (i := 637) (by decide +kernel))) (by decide +kernel)
theorem lwd101 : Cond.code yX6_change cX6_change 2 (some .int) ∈ gw := gw_of (List.mem_append_right _ (List.mem_of_getElem? (i := 638) (by decide +kernel))) (by decide +kernel)
theorem cwv_L_66 : CWv RL 66 yX6_change cX6_change 2 (some .int) 1 := ⟨lwd98, lwd99, lwd100, lwd3, lwd101, (by decide +kernel), (by decide +kernel), (by decide +kernel), (by decide +kernel)⟩
theorem lwd102 : Cond.methodLink RL 69 yX7_change ∈ gw := gw_of (List.mem_append_right _ (List.mem_of_getElem? (i := 1245) (by decide +kernel))) (by decide +kernel)
theorem lwd103 : Cond.instanceMethod yX7_change ∈ gw := gw_of (List.mem_append_right _ (List.mem_of_getElem? (i := 1246) (by decide +kernel))) (by decide +kernel)
theorem lwd104 : Cond.selects RX7 yX7_change yX7_change ∈ gw := gw_of (List.mem_append_right _ (List.mem_of_getElem? (i := 1247) (by decide +kernel))) (by decide +kernel)
theorem lwd105 : Cond.code yX7_change cX7_change 2 (some .int) ∈ gw := gw_of (List.mem_append_right _ (List.mem_of_getElem? (i := 1248) (by decide +kernel))) (by decide +kernel)
theorem cwv_L_69 : CWv RL 69 yX7_change cX7_change 2 (some .int) 1 := ⟨lwd102, lwd103, lwd104, lwd8, lwd105, (by decide +kernel), (by decide +kernel), (by decide +kernel), (by decide +kernel)⟩
theorem lwd106 : Cond.methodLink RL 70 yX6_round ∈ gw := gw_of (List.mem_append_right _ (List.mem_of_getElem? (i := 651) (by decide +kernel))) (by decide +kernel)
theorem lwd107 : Cond.instanceMethod yX6_round ∈ gw := gw_of (List.mem_append_right _ (List.mem_of_getElem? (i := 652) (by decide +kernel))) (by decide +kernel)
theorem lwd108 : Cond.selects RX6 yX6_round yX6_round ∈ gw := gw_of (List.mem_append_right _ (List.mem_of_getElem? (i := 653) (by decide +kernel))) (by decide +kernel)
theorem lwd109 : Cond.code yX6_round cX6_round 4 (some .int) ∈ gw := gw_of (List.mem_append_right _ (List.mem_of_getElem? (i := 654) (by decide +kernel))) (by decide +kernel)
theorem cwv_L_70 : CWv RL 70 yX6_round cX6_round 4 (some .int) 2 := ⟨lwd106, lwd107, lwd108, lwd3, lwd109, (by decide +kernel), (by decide +kernel), (by decide +kernel), (by decide +kernel)⟩
theorem lwd110 : Cond.methodLink RL 73 yX7_round ∈ gw := gw_of (List.mem_append_right _ (List.mem_of_getElem? (i := 1262) (by decide +kernel))) (by decide +kernel)
theorem lwd111 : Cond.instanceMethod yX7_round ∈ gw := gw_of (List.mem_append_right _ (List.mem_of_getElem? (i := 1263) (by decide +kernel))) (by decide +kernel)
theorem lwd112 : Cond.selects RX7 yX7_round yX7_round ∈ gw := gw_of (List.mem_append_right _ (List.mem_of_getElem? (i := 1264) (by decide +kernel))) (by decide +kernel)
theorem lwd113 : Cond.code yX7_round cX7_round 4 (some .int) ∈ gw := gw_of (List.mem_append_right _ (List.mem_of_getElem? (i := 1265) (by decide +kernel))) (by decide +kernel)
theorem cwv_L_73 : CWv RL 73 yX7_round cX7_round 4 (some .int) 2 := ⟨lwd110, lwd111, lwd112, lwd8, lwd113, (by decide +kernel), (by decide +kernel), (by decide +kernel), (by decide +kernel)⟩
theorem lwd114 : Cond.methodLink RL 74 yX6_tells ∈ gw := gw_of (List.mem_append_right _ (List.mem_of_getElem? (i := 655) (by decide +kernel))) (by decide +kernel)
theorem lwd115 : Cond.instanceMethod yX6_tells ∈ gw := gw_of (List.mem_append_right _ (List.mem_of_getElem? (i := 656) (by decide +kernel))) (by decide +kernel)
theorem lwd116 : Cond.selects RX6 yX6_tells yX6_tells ∈ gw := gw_of (List.mem_append_right _ (List.mem_of_getElem? (i := 657) (by decide +kernel))) (by decide +kernel)
theorem lwd117 : Cond.code yX6_tells cX6_tells 8 (some .int) ∈ gw := gw_of (List.mem_append_right _ (List.mem_of_getElem? (i := 658) (by decide +kernel))) (by decide +kernel)
theorem cwv_L_74 : CWv RL 74 yX6_tells cX6_tells 8 (some .int) 4 := ⟨lwd114, lwd115, lwd116, lwd3, lwd117, (by decide +kernel), (by decide +kernel), (by decide +kernel), (by decide +kernel)⟩
theorem lwd118 : Cond.methodLink RL 78 yX7_tells ∈ gw := gw_of (List.mem_append_right _ (List.mem_of_getElem? (i := 1266) (by decide +kernel))) (by decide +kernel)
theorem lwd119 : Cond.instanceMethod yX7_tells ∈ gw := gw_of (List.mem_append_right _ (List.mem_of_getElem? (i := 1267) (by decide +kernel))) (by decide +kernel)
theorem lwd120 : Cond.selects RX7 yX7_tells yX7_tells ∈ gw := gw_of (List.mem_append_right _ (List.mem_of_getElem? (i := 1268) (by decide +kernel))) (by decide +kernel)
theorem lwd121 : Cond.code yX7_tells cX7_tells 11 (some .int) ∈ gw := gw_of (List.mem_append_right _ (List.mem_of_getElem? (i := 1269) (by decide +kernel))) (by decide +kernel)
theorem cwv_L_78 : CWv RL 78 yX7_tells cX7_tells 11 (some .int) 4 := ⟨lwd118, lwd119, lwd120, lwd8, lwd121, (by decide +kernel), (by decide +kernel), (by decide +kernel), (by decide +kernel)⟩
theorem lwd122 : Cond.methodLink RL 79 yX6_film ∈ gw := gw_of (List.mem_append_right _ (List.mem_of_getElem? (i := 674) (by decide +kernel))) (by decide +kernel)
theorem lwd123 : Cond.instanceMethod yX6_film ∈ gw := gw_of (List.mem_append_right _ (List.mem_of_getElem? (i := 675) (by decide +kernel))) (by decide +kernel)
theorem lwd124 : Cond.selects RX6 yX6_film yX6_film ∈ gw := gw_of (List.mem_append_right _ (List.mem_of_getElem? (i := 676) (by decide +kernel))) (by decide +kernel)
theorem lwd125 : Cond.code yX6_film cX6_film 7 (some .int) ∈ gw := gw_of (List.mem_append_right _ (List.mem_of_getElem? (i := 677) (by decide +kernel))) (by decide +kernel)
theorem cwv_L_79 : CWv RL 79 yX6_film cX6_film 7 (some .int) 4 := ⟨lwd122, lwd123, lwd124, lwd3, lwd125, (by decide +kernel), (by decide +kernel), (by decide +kernel), (by decide +kernel)⟩
theorem lwd126 : Cond.methodLink RL 82 yX7_film ∈ gw := gw_of (List.mem_append_right _ (List.mem_of_getElem? (i := 1277) (by decide +kernel))) (by decide +kernel)
theorem lwd127 : Cond.instanceMethod yX7_film ∈ gw := gw_of (List.mem_append_right _ (List.mem_of_getElem? (i := 1278) (by decide +kernel))) (by decide +kernel)
theorem lwd128 : Cond.selects RX7 yX7_film yX7_film ∈ gw := gw_of (List.mem_append_right _ (List.mem_of_getElem? (i := 1279) (by decide +kernel))) (by decide +kernel)
theorem lwd129 : Cond.code yX7_film cX7_film 6 (some .int) ∈ gw := gw_of (List.mem_append_right _ (List.mem_of_getElem? (i := 1280) (by decide +kernel))) (by decide +kernel)
theorem cwv_L_82 : CWv RL 82 yX7_film cX7_film 6 (some .int) 4 := ⟨lwd126, lwd127, lwd128, lwd8, lwd129, (by decide +kernel), (by decide +kernel), (by decide +kernel), (by decide +kernel)⟩
theorem lwd130 : Cond.methodLink RL 83 yX6_drawn ∈ gw := gw_of (List.mem_append_right _ (List.mem_of_getElem? (i := 687) (by decide +kernel))) (by decide +kernel)
theorem lwd131 : Cond.instanceMethod yX6_drawn ∈ gw := gw_of (List.mem_append_right _ (List.mem_of_getElem? (i := 688) (by decide +kernel))) (by decide +kernel)
theorem lwd132 : Cond.selects RX6 yX6_drawn yX6_drawn ∈ gw := gw_of (List.mem_append_right _ (List.mem_of_getElem? (i := 689) (by decide +kernel))) (by decide +kernel)
theorem lwd133 : Cond.code yX6_drawn cX6_drawn 3 (some .int) ∈ gw := gw_of (List.mem_append_right _ (List.mem_of_getElem? (i := 690) (by decide +kernel))) (by decide +kernel)
theorem cwv_L_83 : CWv RL 83 yX6_drawn cX6_drawn 3 (some .int) 2 := ⟨lwd130, lwd131, lwd132, lwd3, lwd133, (by decide +kernel), (by decide +kernel), (by decide +kernel), (by decide +kernel)⟩
theorem lwd134 : Cond.methodLink RL 86 yX7_drawn ∈ gw := gw_of (List.mem_append_right _ (List.mem_of_getElem? (i := 1287) (by decide +kernel))) (by decide +kernel)
theorem lwd135 : Cond.instanceMethod yX7_drawn ∈ gw := gw_of (List.mem_append_right _ (List.mem_of_getElem? (i := 1288) (by decide +kernel))) (by decide +kernel)
theorem lwd136 : Cond.selects RX7 yX7_drawn yX7_drawn ∈ gw := gw_of (List.mem_append_right _ (List.mem_of_getElem? (i := 1289) (by decide +kernel))) (by decide +kernel)
theorem lwd137 : Cond.code yX7_drawn cX7_drawn 3 (some .int) ∈ gw := gw_of (List.mem_append_right _ (List.mem_of_getElem? (i := 1290) (by decide +kernel))) (by decide +kernel)
theorem cwv_L_86 : CWv RL 86 yX7_drawn cX7_drawn 3 (some .int) 2 := ⟨lwd134, lwd135, lwd136, lwd8, lwd137, (by decide +kernel), (by decide +kernel), (by decide +kernel), (by decide +kernel)⟩
theorem lwd138 : Cond.methodLink RL 87 yX6_chance ∈ gw := gw_of (List.mem_append_right _ (List.mem_of_getElem? (i := 696) (by decide +kernel))) (by decide +kernel)
theorem lwd139 : Cond.instanceMethod yX6_chance ∈ gw := gw_of (List.mem_append_right _ (List.mem_of_getElem? (i := 697) (by decide +kernel))) (by decide +kernel)
theorem lwd140 : Cond.selects RX6 yX6_chance yX6_chance ∈ gw := gw_of (List.mem_append_right _ (List.mem_of_getElem? (i := 698) (by decide +kernel))) (by decide +kernel)
theorem lwd141 : Cond.code yX6_chance cX6_chance 7 (some .long) ∈ gw := gw_of (List.mem_append_right _ (List.mem_of_getElem? (i := 699) (by decide +kernel))) (by decide +kernel)
theorem cwv_L_87 : CWv RL 87 yX6_chance cX6_chance 7 (some .long) 4 := ⟨lwd138, lwd139, lwd140, lwd3, lwd141, (by decide +kernel), (by decide +kernel), (by decide +kernel), (by decide +kernel)⟩
theorem lwd142 : Cond.methodLink RL 91 yX7_chance ∈ gw := gw_of (List.mem_append_right _ (List.mem_of_getElem? (i := 1296) (by decide +kernel))) (by decide +kernel)
theorem lwd143 : Cond.instanceMethod yX7_chance ∈ gw := gw_of (List.mem_append_right _ (List.mem_of_getElem? (i := 1297) (by decide +kernel))) (by decide +kernel)
theorem lwd144 : Cond.selects RX7 yX7_chance yX7_chance ∈ gw := gw_of (List.mem_append_right _ (List.mem_of_getElem? (i := 1298) (by decide +kernel))) (by decide +kernel)
theorem lwd145 : Cond.code yX7_chance cX7_chance 8 (some .long) ∈ gw := gw_of (List.mem_append_right _ (List.mem_of_getElem? (i := 1299) (by decide +kernel))) (by decide +kernel)
theorem cwv_L_91 : CWv RL 91 yX7_chance cX7_chance 8 (some .long) 4 := ⟨lwd142, lwd143, lwd144, lwd8, lwd145, (by decide +kernel), (by decide +kernel), (by decide +kernel), (by decide +kernel)⟩
theorem lwd146 : Cond.methodLink RL 92 yX6_image ∈ gw := gw_of (List.mem_append_right _ (List.mem_of_getElem? (i := 702) (by decide +kernel))) (by decide +kernel)
theorem lwd147 : Cond.instanceMethod yX6_image ∈ gw := gw_of (List.mem_append_right _ (List.mem_of_getElem? (i := 703) (by decide +kernel))) (by decide +kernel)
theorem lwd148 : Cond.selects RX6 yX6_image yX6_image ∈ gw := gw_of (List.mem_append_right _ (List.mem_of_getElem? (i := 704) (by decide +kernel))) (by decide +kernel)
theorem lwd149 : Cond.code yX6_image cX6_image 1 (some .int) ∈ gw := gw_of (List.mem_append_right _ (List.mem_of_getElem? (i := 705) (by decide +kernel))) (by decide +kernel)
theorem cwv_L_92 : CWv RL 92 yX6_image cX6_image 1 (some .int) 0 := ⟨lwd146, lwd147, lwd148, lwd3, lwd149, (by decide +kernel), (by decide +kernel), (by decide +kernel), (by decide +kernel)⟩
theorem lwd150 : Cond.methodLink RL 95 yX7_image ∈ gw := gw_of (List.mem_append_right _ (List.mem_of_getElem? (i := 1302) (by decide +kernel))) (by decide +kernel)
theorem lwd151 : Cond.instanceMethod yX7_image ∈ gw := gw_of (List.mem_append_right _ (List.mem_of_getElem? (i := 1303) (by decide +kernel))) (by decide +kernel)
theorem lwd152 : Cond.selects RX7 yX7_image yX7_image ∈ gw := gw_of (List.mem_append_right _ (List.mem_of_getElem? (i := 1304) (by decide +kernel))) (by decide +kernel)
theorem lwd153 : Cond.code yX7_image cX7_image 2 (some .int) ∈ gw := gw_of (List.mem_append_right _ (List.mem_of_getElem? (i := 1305) (by decide +kernel))) (by decide +kernel)
theorem cwv_L_95 : CWv RL 95 yX7_image cX7_image 2 (some .int) 0 := ⟨lwd150, lwd151, lwd152, lwd8, lwd153, (by decide +kernel), (by decide +kernel), (by decide +kernel), (by decide +kernel)⟩
theorem lwd154 : Cond.methodLink RL 96 yX6_back ∈ gw := gw_of (List.mem_append_right _ (List.mem_of_getElem? (i := 706) (by decide +kernel))) (by decide +kernel)
theorem lwd155 : Cond.instanceMethod yX6_back ∈ gw := gw_of (List.mem_append_right _ (List.mem_of_getElem? (i := 707) (by decide +kernel))) (by decide +kernel)
theorem lwd156 : Cond.selects RX6 yX6_back yX6_back ∈ gw := gw_of (List.mem_append_right _ (List.mem_of_getElem? (i := 708) (by decide +kernel))) (by decide +kernel)
theorem lwd157 : Cond.code yX6_back cX6_back 1 (some .int) ∈ gw := gw_of (List.mem_append_right _ (List.mem_of_getElem? (i := 709) (by decide +kernel))) (by decide +kernel)
theorem cwv_L_96 : CWv RL 96 yX6_back cX6_back 1 (some .int) 0 := ⟨lwd154, lwd155, lwd156, lwd3, lwd157, (by decide +kernel), (by decide +kernel), (by decide +kernel), (by decide +kernel)⟩
theorem lwd158 : Cond.methodLink RL 99 yX7_back ∈ gw := gw_of (List.mem_append_right _ (List.mem_of_getElem? (i := 1306) (by decide +kernel))) (by decide +kernel)
theorem lwd159 : Cond.instanceMethod yX7_back ∈ gw := gw_of (List.mem_append_right _ (List.mem_of_getElem? (i := 1307) (by decide +kernel))) (by decide +kernel)
theorem lwd160 : Cond.selects RX7 yX7_back yX7_back ∈ gw := gw_of (List.mem_append_right _ (List.mem_of_getElem? (i := 1308) (by decide +kernel))) (by decide +kernel)
theorem lwd161 : Cond.code yX7_back cX7_back 2 (some .int) ∈ gw := gw_of (List.mem_append_right _ (List.mem_of_getElem? (i := 1309) (by decide +kernel))) (by decide +kernel)
theorem cwv_L_99 : CWv RL 99 yX7_back cX7_back 2 (some .int) 0 := ⟨lwd158, lwd159, lwd160, lwd8, lwd161, (by decide +kernel), (by decide +kernel), (by decide +kernel), (by decide +kernel)⟩
theorem lwd162 : Cond.methodLink RL 100 yX6_count ∈ gw := gw_of (List.mem_append_right _ (List.mem_of_getElem? (i := 710) (by decide +kernel))) (by decide +kernel)
theorem lwd163 : Cond.instanceMethod yX6_count ∈ gw := gw_of (List.mem_append_right _ (List.mem_of_getElem? (i := 711) (by decide +kernel))) (by decide +kernel)
theorem lwd164 : Cond.selects RX6 yX6_count yX6_count ∈ gw := gw_of (List.mem_append_right _ (List.mem_of_getElem? (i := 712) (by decide +kernel))) (by decide +kernel)
theorem lwd165 : Cond.code yX6_count cX6_count 2 (some .int) ∈ gw := gw_of (List.mem_append_right _ (List.mem_of_getElem? (i := 713) (by decide +kernel))) (by decide +kernel)
theorem cwv_L_100 : CWv RL 100 yX6_count cX6_count 2 (some .int) 1 := ⟨lwd162, lwd163, lwd164, lwd3, lwd165, (by decide +kernel), (by decide +kernel), (by decide +kernel), (by decide +kernel)⟩
theorem lwd166 : Cond.methodLink RL 103 yX7_count ∈ gw := gw_of (List.mem_append_right _ (List.mem_of_getElem? (i := 1310) (by decide +kernel))) (by decide +kernel)
theorem lwd167 : Cond.instanceMethod yX7_count ∈ gw := gw_of (List.mem_append_right _ (List.mem_of_getElem? (i := 1311) (by decide +kernel))) (by decide +kernel)
theorem lwd168 : Cond.selects RX7 yX7_count yX7_count ∈ gw := gw_of (List.mem_append_right _ (List.mem_of_getElem? (i := 1312) (by decide +kernel))) (by decide +kernel)
theorem lwd169 : Cond.code yX7_count cX7_count 2 (some .int) ∈ gw := gw_of (List.mem_append_right _ (List.mem_of_getElem? (i := 1313) (by decide +kernel))) (by decide +kernel)
theorem cwv_L_103 : CWv RL 103 yX7_count cX7_count 2 (some .int) 1 := ⟨lwd166, lwd167, lwd168, lwd8, lwd169, (by decide +kernel), (by decide +kernel), (by decide +kernel), (by decide +kernel)⟩
theorem lwd170 : Cond.methodLink RL 104 yX6_sheet ∈ gw := gw_of (List.mem_append_right _ (List.mem_of_getElem? (i := 714) (by decide +kernel))) (by decide +kernel)
theorem lwd171 : Cond.instanceMethod yX6_sheet ∈ gw := gw_of (List.mem_append_right _ (List.mem_of_getElem? (i := 715) (by decide +kernel))) (by decide +kernel)
theorem lwd172 : Cond.selects RX6 yX6_sheet yX6_sheet ∈ gw := gw_of (List.mem_append_right _ (List.mem_of_getElem? (i := 716) (by decide +kernel))) (by decide +kernel)
theorem lwd173 : Cond.code yX6_sheet cX6_sheet 4 (some .int) ∈ gw := gw_of (List.mem_append_right _ (List.mem_of_getElem? (i := 717) (by decide +kernel))) (by decide +kernel)
theorem cwv_L_104 : CWv RL 104 yX6_sheet cX6_sheet 4 (some .int) 3 := ⟨lwd170, lwd171, lwd172, lwd3, lwd173, (by decide +kernel), (by decide +kernel), (by decide +kernel), (by decide +kernel)⟩
theorem lwd174 : Cond.methodLink RL 107 yX7_sheet ∈ gw := gw_of (List.mem_append_right _ (List.mem_of_getElem? (i := 1314) (by decide +kernel))) (by decide +kernel)
theorem lwd175 : Cond.instanceMethod yX7_sheet ∈ gw := gw_of (List.mem_append_right _ (List.mem_of_getElem? (i := 1282) (by decide +kernel))) (by decide +kernel)
theorem lwd176 : Cond.selects RX7 yX7_sheet yX7_sheet ∈ gw := gw_of (List.mem_append_right _ (List.mem_of_getElem? (i := 1283) (by decide +kernel))) (by decide +kernel)
theorem lwd177 : Cond.code yX7_sheet cX7_sheet 5 (some .int) ∈ gw := gw_of (List.mem_append_right _ (List.mem_of_getElem? (i := 1284) (by decide +kernel))) (by decide +kernel)
theorem cwv_L_107 : CWv RL 107 yX7_sheet cX7_sheet 5 (some .int) 3 := ⟨lwd174, lwd175, lwd176, lwd8, lwd177, (by decide +kernel), (by decide +kernel), (by decide +kernel), (by decide +kernel)⟩
theorem lwd178 : Cond.methodLink RL 108 yX6_cell ∈ gw := gw_of (List.mem_append_right _ (List.mem_of_getElem? (i := 721) (by decide +kernel))) (by decide +kernel)
theorem lwd179 : Cond.instanceMethod yX6_cell ∈ gw := gw_of (List.mem_append_right _ (List.mem_of_getElem? (i := 722) (by decide +kernel))) (by decide +kernel)
theorem lwd180 : Cond.selects RX6 yX6_cell yX6_cell ∈ gw := gw_of (List.mem_append_right _ (List.mem_of_getElem? (i := 723) (by decide +kernel))) (by decide +kernel)
theorem lwd181 : Cond.code yX6_cell cX6_cell 5 (some .int) ∈ gw := gw_of (List.mem_append_right _ (List.mem_of_getElem? (i := 724) (by decide +kernel))) (by decide +kernel)
theorem cwv_L_108 : CWv RL 108 yX6_cell cX6_cell 5 (some .int) 3 := ⟨lwd178, lwd179, lwd180, lwd3, lwd181, (by decide +kernel), (by decide +kernel), (by decide +kernel), (by decide +kernel)⟩
theorem lwd182 : Cond.methodLink RL 111 yX7_cell ∈ gw := gw_of (List.mem_append_right _ (List.mem_of_getElem? (i := 1315) (by decide +kernel))) (by decide +kernel)
theorem lwd183 : Cond.instanceMethod yX7_cell ∈ gw := gw_of (List.mem_append_right _ (List.mem_of_getElem? (i := 1316) (by decide +kernel))) (by decide +kernel)
theorem lwd184 : Cond.selects RX7 yX7_cell yX7_cell ∈ gw := gw_of (List.mem_append_right _ (List.mem_of_getElem? (i := 1317) (by decide +kernel))) (by decide +kernel)
theorem lwd185 : Cond.code yX7_cell cX7_cell 4 (some .int) ∈ gw := gw_of (List.mem_append_right _ (List.mem_of_getElem? (i := 1318) (by decide +kernel))) (by decide +kernel)
theorem cwv_L_111 : CWv RL 111 yX7_cell cX7_cell 4 (some .int) 3 := ⟨lwd182, lwd183, lwd184, lwd8, lwd185, (by decide +kernel), (by decide +kernel), (by decide +kernel), (by decide +kernel)⟩
theorem lwd186 : Cond.methodLink RL 112 yX6_copy ∈ gw := gw_of (List.mem_append_right _ (List.mem_of_getElem? (i := 729) (by decide +kernel))) (by decide +kernel)
theorem lwd187 : Cond.instanceMethod yX6_copy ∈ gw := gw_of (List.mem_append_right _ (List.mem_of_getElem? (i := 730) (by decide +kernel))) (by decide +kernel)
theorem lwd188 : Cond.selects RX6 yX6_copy yX6_copy ∈ gw := gw_of (List.mem_append_right _ (List.mem_of_getElem? (i := 731) (by decide +kernel))) (by decide +kernel)
theorem lwd189 : Cond.code yX6_copy cX6_copy 8 (some .int) ∈ gw := gw_of (List.mem_append_right _ (List.mem_of_getElem? (i := 732) (by decide +kernel))) (by decide +kernel)
theorem cwv_L_112 : CWv RL 112 yX6_copy cX6_copy 8 (some .int) 5 := ⟨lwd186, lwd187, lwd188, lwd3, lwd189, (by decide +kernel), (by decide +kernel), (by decide +kernel), (by decide +kernel)⟩
theorem lwd190 : Cond.methodLink RL 116 yX7_copy ∈ gw := gw_of (List.mem_append_right _ (List.mem_of_getElem? (i := 1319) (by decide +kernel))) (by decide +kernel)
theorem lwd191 : Cond.instanceMethod yX7_copy ∈ gw := gw_of (List.mem_append_right _ (List.mem_of_getElem? (i := 1320) (by decide +kernel))) (by decide +kernel)
theorem lwd192 : Cond.selects RX7 yX7_copy yX7_copy ∈ gw := gw_of (List.mem_append_right _ (List.mem_of_getElem? (i := 1321) (by decide +kernel))) (by decide +kernel)
theorem lwd193 : Cond.code yX7_copy cX7_copy 9 (some .int) ∈ gw := gw_of (List.mem_append_right _ (List.mem_of_getElem? (i := 1322) (by decide +kernel))) (by decide +kernel)
theorem cwv_L_116 : CWv RL 116 yX7_copy cX7_copy 9 (some .int) 5 := ⟨lwd190, lwd191, lwd192, lwd8, lwd193, (by decide +kernel), (by decide +kernel), (by decide +kernel), (by decide +kernel)⟩
theorem lwd194 : Cond.methodLink RL 117 yX6_painters ∈ gw := gw_of (List.mem_append_right _ (List.mem_of_getElem? (i := 734) (by decide +kernel))) (by decide +kernel)
theorem lwd195 : Cond.instanceMethod yX6_painters ∈ gw := gw_of (List.mem_append_right _ (List.mem_of_getElem? (i := 735) (by decide +kernel))) (by decide +kernel)
theorem lwd196 : Cond.selects RX6 yX6_painters yX6_painters ∈ gw := gw_of (List.mem_append_right _ (List.mem_of_getElem? (i := 736) (by decide +kernel))) (by decide +kernel)
theorem lwd197 : Cond.code yX6_painters cX6_painters 9 (some .int) ∈ gw := gw_of (List.mem_append_right _ (List.mem_of_getElem? (i := 737) (by decide +kernel))) (by decide +kernel)
theorem cwv_L_117 : CWv RL 117 yX6_painters cX6_painters 9 (some .int) 4 := ⟨lwd194, lwd195, lwd196, lwd3, lwd197, (by decide +kernel), (by decide +kernel), (by decide +kernel), (by decide +kernel)⟩
theorem lwd198 : Cond.methodLink RL 120 yX7_painters ∈ gw := gw_of (List.mem_append_right _ (List.mem_of_getElem? (i := 1323) (by decide +kernel))) (by decide +kernel)
theorem lwd199 : Cond.instanceMethod yX7_painters ∈ gw := gw_of (List.mem_append_right _ (List.mem_of_getElem? (i := 1324) (by decide +kernel))) (by decide +kernel)
theorem lwd200 : Cond.selects RX7 yX7_painters yX7_painters ∈ gw := gw_of (List.mem_append_right _ (List.mem_of_getElem? (i := 1325) (by decide +kernel))) (by decide +kernel)
theorem lwd201 : Cond.code yX7_painters cX7_painters 8 (some .int) ∈ gw := gw_of (List.mem_append_right _ (List.mem_of_getElem? (i := 1326) (by decide +kernel))) (by decide +kernel)
theorem cwv_L_120 : CWv RL 120 yX7_painters cX7_painters 8 (some .int) 4 := ⟨lwd198, lwd199, lwd200, lwd8, lwd201, (by decide +kernel), (by decide +kernel), (by decide +kernel), (by decide +kernel)⟩
theorem lwd202 : Cond.methodLink RL 121 yX6_taken ∈ gw := gw_of (List.mem_append_right _ (List.mem_of_getElem? (i := 739) (by decide +kernel))) (by decide +kernel)
theorem lwd203 : Cond.instanceMethod yX6_taken ∈ gw := gw_of (List.mem_append_right _ (List.mem_of_getElem? (i := 740) (by decide +kernel))) (by decide +kernel)
theorem lwd204 : Cond.selects RX6 yX6_taken yX6_taken ∈ gw := gw_of (List.mem_append_right _ (List.mem_of_getElem? (i := 741) (by decide +kernel))) (by decide +kernel)
theorem lwd205 : Cond.code yX6_taken cX6_taken 3 (some .int) ∈ gw := gw_of (List.mem_append_right _ (List.mem_of_getElem? (i := 742) (by decide +kernel))) (by decide +kernel)
theorem cwv_L_121 : CWv RL 121 yX6_taken cX6_taken 3 (some .int) 2 := ⟨lwd202, lwd203, lwd204, lwd3, lwd205, (by decide +kernel), (by decide +kernel), (by decide +kernel), (by decide +kernel)⟩
theorem lwd206 : Cond.methodLink RL 124 yX7_taken ∈ gw := gw_of (List.mem_append_right _ (List.mem_of_getElem? (i := 1329) (by decide +kernel))) (by decide +kernel)
theorem lwd207 : Cond.instanceMethod yX7_taken ∈ gw := gw_of (List.mem_append_right _ (List.mem_of_getElem? (i := 1330) (by decide +kernel))) (by decide +kernel)
theorem lwd208 : Cond.selects RX7 yX7_taken yX7_taken ∈ gw := gw_of (List.mem_append_right _ (List.mem_of_getElem? (i := 1331) (by decide +kernel))) (by decide +kernel)
theorem lwd209 : Cond.code yX7_taken cX7_taken 4 (some .int) ∈ gw := gw_of (List.mem_append_right _ (List.mem_of_getElem? (i := 1332) (by decide +kernel))) (by decide +kernel)
theorem cwv_L_124 : CWv RL 124 yX7_taken cX7_taken 4 (some .int) 2 := ⟨lwd206, lwd207, lwd208, lwd8, lwd209, (by decide +kernel), (by decide +kernel), (by decide +kernel), (by decide +kernel)⟩
