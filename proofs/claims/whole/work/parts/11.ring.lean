theorem wd3 : Cond.methodLink RX6 317 yJ9_min_7cf53 ∈ gw := gw_of (List.mem_append_right _ (List.mem_of_getElem? (i := 464) (by decide +kernel))) (by decide +kernel)
theorem wd4 : Cond.methodLink RX6 322 yJ9_max_7cf53 ∈ gw := gw_of (List.mem_append_right _ (List.mem_of_getElem? (i := 465) (by decide +kernel))) (by decide +kernel)
theorem xinX2 : ∀ w ∈ u_ws RX2 TX2 11, w ∈ gw := by
  have h : (u_ws RX2 TX2 11).all (fun w => decide (w ∈ lw_tbl) && goodWord w) = true := by decide +kernel
  intro w hw
  have h1 := List.all_eq_true.mp h w hw
  simp only [Bool.and_eq_true, decide_eq_true_eq] at h1
  exact gw_of h1.1 h1.2
theorem wd5 : Cond.fieldLink RX2 27 RX2 "painters" "I" ∈ gw := gw_of (List.mem_append_right _ (List.mem_of_getElem? (i := 44) (by decide +kernel))) (by decide +kernel)
theorem wd6 : Cond.fieldLink RX2 30 RX2 "kind" "[I" ∈ gw := gw_of (List.mem_append_right _ (List.mem_of_getElem? (i := 46) (by decide +kernel))) (by decide +kernel)
theorem wd7 : Cond.fieldLink RX2 34 RX2 "number" "[I" ∈ gw := gw_of (List.mem_append_right _ (List.mem_of_getElem? (i := 48) (by decide +kernel))) (by decide +kernel)
theorem wd8 : Cond.fieldLink RX2 37 RX2 "easel" "[I" ∈ gw := gw_of (List.mem_append_right _ (List.mem_of_getElem? (i := 51) (by decide +kernel))) (by decide +kernel)
theorem wd9 : Cond.fieldLink RX2 40 RX2 "had" "[I" ∈ gw := gw_of (List.mem_append_right _ (List.mem_of_getElem? (i := 54) (by decide +kernel))) (by decide +kernel)
theorem wd10 : Cond.fieldLink RX2 43 RX2 "pleased" "[I" ∈ gw := gw_of (List.mem_append_right _ (List.mem_of_getElem? (i := 56) (by decide +kernel))) (by decide +kernel)
theorem wd11 : Cond.static yX6_isEasel ∈ gw := gw_of (List.mem_append_right _ (List.mem_of_getElem? (i := 382) (by decide +kernel))) (by decide +kernel)
theorem wd12 : Cond.initialized RX6 ∈ gw := gw_of (List.mem_append_right _ (List.mem_of_getElem? (i := 1) (by decide +kernel))) (by decide +kernel)
theorem wd13 : Cond.code yX6_isEasel cX6_isEasel 1 (some .boolean) ∈ gw := gw_of (List.mem_append_right _ (List.mem_of_getElem? (i := 383) (by decide +kernel))) (by decide +kernel)
theorem cwn_X2_52 : CWn RX2 RX6 52 yX6_isEasel cX6_isEasel 1 (some .boolean) 1 := ⟨by decide +kernel, wd11, wd12, wd13, (by decide +kernel), (by decide +kernel), (by decide +kernel), (by decide +kernel)⟩
theorem wd14 : Cond.methodLink RX2 56 yX2_freeEasels ∈ gw := gw_of (List.mem_append_right _ (List.mem_of_getElem? (i := 397) (by decide +kernel))) (by decide +kernel)
theorem wd15 : Cond.instanceMethod yX2_freeEasels ∈ gw := gw_of (List.mem_append_right _ (List.mem_of_getElem? (i := 398) (by decide +kernel))) (by decide +kernel)
theorem wd16 : Cond.selects RX2 yX2_freeEasels yX2_freeEasels ∈ gw := gw_of (List.mem_append_right _ (List.mem_of_getElem? (i := 399) (by decide +kernel))) (by decide +kernel)
theorem wd17 : Cond.initialized RX2 ∈ gw := gw_of (List.mem_append_right _ (List.mem_of_getElem? (i := 2) (by decide +kernel))) (by decide +kernel)
theorem wd18 : Cond.code yX2_freeEasels cX2_freeEasels 3 (some .int) ∈ gw := gw_of (List.mem_append_right _ (List.mem_of_getElem? (i := 400) (by decide +kernel))) (by decide +kernel)
theorem cwv_X2_56 : CWv RX2 56 yX2_freeEasels cX2_freeEasels 3 (some .int) 0 := ⟨wd14, wd15, wd16, wd17, wd18, (by decide +kernel), (by decide +kernel), (by decide +kernel), (by decide +kernel)⟩
theorem wd19 : Cond.methodLink RX2 60 yX2_isFree ∈ gw := gw_of (List.mem_append_right _ (List.mem_of_getElem? (i := 392) (by decide +kernel))) (by decide +kernel)
theorem wd20 : Cond.instanceMethod yX2_isFree ∈ gw := gw_of (List.mem_append_right _ (List.mem_of_getElem? (i := 393) (by decide +kernel))) (by decide +kernel)
theorem wd21 : Cond.selects RX2 yX2_isFree yX2_isFree ∈ gw := gw_of (List.mem_append_right _ (List.mem_of_getElem? (i := 394) (by decide +kernel))) (by decide +kernel)
theorem wd22 : Cond.code yX2_isFree cX2_isFree 2 (some .boolean) ∈ gw := gw_of (List.mem_append_right _ (List.mem_of_getElem? (i := 395) (by decide +kernel))) (by decide +kernel)
theorem cwv_X2_60 : CWv RX2 60 yX2_isFree cX2_isFree 2 (some .boolean) 1 := ⟨wd19, wd20, wd21, wd17, wd22, (by decide +kernel), (by decide +kernel), (by decide +kernel), (by decide +kernel)⟩
theorem wd23 : Cond.fieldLink RX2 9 RX2 "face" "I" ∈ gw := gw_of (List.mem_append_right _ (List.mem_of_getElem? (i := 30) (by decide +kernel))) (by decide +kernel)
theorem wd24 : Cond.methodLink RX2 67 yJ9_abs_0f7a4 ∈ gw := gw_of (List.mem_append_right _ (List.mem_of_getElem? (i := 442) (by decide +kernel))) (by decide +kernel)
theorem wd25 : Cond.methodLink RX2 73 yJ9_min_7cf53 ∈ gw := gw_of (List.mem_append_right _ (List.mem_of_getElem? (i := 445) (by decide +kernel))) (by decide +kernel)
theorem wd26 : Cond.methodLink RX2 63 yX2_awayOf ∈ gw := gw_of (List.mem_append_right _ (List.mem_of_getElem? (i := 450) (by decide +kernel))) (by decide +kernel)
theorem wd27 : Cond.static yX2_awayOf ∈ gw := gw_of (List.mem_append_right _ (List.mem_of_getElem? (i := 440) (by decide +kernel))) (by decide +kernel)
theorem wd28 : Cond.code yX2_awayOf cX2_awayOf 3 (some .int) ∈ gw := gw_of (List.mem_append_right _ (List.mem_of_getElem? (i := 441) (by decide +kernel))) (by decide +kernel)
theorem cws_X2_63 : CWs RX2 63 yX2_awayOf cX2_awayOf 3 (some .int) 2 := ⟨wd26, wd27, wd17, wd28, (by decide +kernel), (by decide +kernel), (by decide +kernel), (by decide +kernel)⟩
theorem wd29 : Cond.methodLink RX2 76 yX2_sideOf ∈ gw := gw_of (List.mem_append_right _ (List.mem_of_getElem? (i := 405) (by decide +kernel))) (by decide +kernel)
theorem wd30 : Cond.instanceMethod yX2_sideOf ∈ gw := gw_of (List.mem_append_right _ (List.mem_of_getElem? (i := 406) (by decide +kernel))) (by decide +kernel)
theorem wd31 : Cond.selects RX2 yX2_sideOf yX2_sideOf ∈ gw := gw_of (List.mem_append_right _ (List.mem_of_getElem? (i := 407) (by decide +kernel))) (by decide +kernel)
theorem wd32 : Cond.code yX2_sideOf cX2_sideOf 2 (some .int) ∈ gw := gw_of (List.mem_append_right _ (List.mem_of_getElem? (i := 408) (by decide +kernel))) (by decide +kernel)
theorem cwv_X2_76 : CWv RX2 76 yX2_sideOf cX2_sideOf 2 (some .int) 1 := ⟨wd29, wd30, wd31, wd17, wd32, (by decide +kernel), (by decide +kernel), (by decide +kernel), (by decide +kernel)⟩
theorem wd33 : Cond.fieldLink RX2 15 RX2 "lamp" "I" ∈ gw := gw_of (List.mem_append_right _ (List.mem_of_getElem? (i := 32) (by decide +kernel))) (by decide +kernel)
theorem wd34 : Cond.fieldLink RX2 18 RX2 "stove" "I" ∈ gw := gw_of (List.mem_append_right _ (List.mem_of_getElem? (i := 35) (by decide +kernel))) (by decide +kernel)
theorem wd35 : Cond.fieldLink RX2 21 RX2 "pose" "I" ∈ gw := gw_of (List.mem_append_right _ (List.mem_of_getElem? (i := 38) (by decide +kernel))) (by decide +kernel)
theorem wd36 : Cond.constant RX2 79 (-99999) ∈ gw := gw_of (List.mem_append_right _ (List.mem_of_getElem? (i := 539) (by decide +kernel))) (by decide +kernel)
theorem wd37 : Cond.constant RX2 80 (99999) ∈ gw := gw_of (List.mem_append_right _ (List.mem_of_getElem? (i := 540) (by decide +kernel))) (by decide +kernel)
theorem wd38 : Cond.static yX6_within ∈ gw := gw_of (List.mem_append_right _ (List.mem_of_getElem? (i := 462) (by decide +kernel))) (by decide +kernel)
theorem wd39 : Cond.code yX6_within cX6_within 3 (some .int) ∈ gw := gw_of (List.mem_append_right _ (List.mem_of_getElem? (i := 463) (by decide +kernel))) (by decide +kernel)
theorem cwn_X2_81 : CWn RX2 RX6 81 yX6_within cX6_within 3 (some .int) 3 := ⟨by decide +kernel, wd38, wd12, wd39, (by decide +kernel), (by decide +kernel), (by decide +kernel), (by decide +kernel)⟩
theorem wd40 : Cond.methodLink RX2 85 yX2_leastPleased ∈ gw := gw_of (List.mem_append_right _ (List.mem_of_getElem? (i := 585) (by decide +kernel))) (by decide +kernel)
theorem wd41 : Cond.instanceMethod yX2_leastPleased ∈ gw := gw_of (List.mem_append_right _ (List.mem_of_getElem? (i := 586) (by decide +kernel))) (by decide +kernel)
theorem wd42 : Cond.selects RX2 yX2_leastPleased yX2_leastPleased ∈ gw := gw_of (List.mem_append_right _ (List.mem_of_getElem? (i := 587) (by decide +kernel))) (by decide +kernel)
theorem wd43 : Cond.code yX2_leastPleased cX2_leastPleased 3 (some .int) ∈ gw := gw_of (List.mem_append_right _ (List.mem_of_getElem? (i := 588) (by decide +kernel))) (by decide +kernel)
theorem cwv_X2_85 : CWv RX2 85 yX2_leastPleased cX2_leastPleased 3 (some .int) 0 := ⟨wd40, wd41, wd42, wd17, wd43, (by decide +kernel), (by decide +kernel), (by decide +kernel), (by decide +kernel)⟩
theorem wd44 : Cond.fieldLink RX2 24 RX2 "rule" "I" ∈ gw := gw_of (List.mem_append_right _ (List.mem_of_getElem? (i := 41) (by decide +kernel))) (by decide +kernel)
theorem wd45 : Cond.methodLink RX2 46 (⟨"java/lang/System", "arraycopy", "(Ljava/lang/Object;ILjava/lang/Object;II)V"⟩ : MethodName) ∈ gw := gw_of (List.mem_append_right _ (List.mem_of_getElem? (i := 573) (by decide +kernel))) (by decide +kernel)
def f_X6_isEasel (l0 : Int32) : Option (Int32) :=
  if l0 < 0 then (
  some 0) else (
  if 11 ≤ l0 then (
  some 0) else (
  some 1))
set_option maxRecDepth 100000 in
set_option maxHeartbeats 4000000 in
theorem t_X6_isEasel {x : VX} {r : Int32} {l0 : Int32} (X : Cx x cX6_isEasel RX6 1) (hN : vxn x = 1) (hR : narrow .boolean (.int r) = .int r → RetI x cX6_isEasel 0 0 r []) (hf : f_X6_isEasel l0 = some r) : V x 0 0 [] [(0, .int l0)] 0 [] := by
  unfold f_X6_isEasel at hf
  refine v_iload_n X 0 rfl dX6_isEasel_0 ?_
  refine v_if_lt X (tgt := 14) hf (by decide) dX6_isEasel_1 (fun c1 hf => ?_) (fun c1 hf => ?_)
  · refine v_iconst X (v := 0) (by decide) dX6_isEasel_14 ?_
    obtain rfl := Option.some.inj hf
    exact v_iret (hR nz0) dX6_isEasel_15
  · refine v_iload_n X 0 rfl dX6_isEasel_4 ?_
    refine v_bipush X (v := 11) (by decide) dX6_isEasel_5 ?_
    refine v_icmp_ge X (tgt := 14) hf (by decide) dX6_isEasel_7 (fun c7 hf => ?_) (fun c7 hf => ?_)
    · refine v_iconst X (v := 0) (by decide) dX6_isEasel_14 ?_
      obtain rfl := Option.some.inj hf
      exact v_iret (hR nz0) dX6_isEasel_15
    · refine v_iconst X (v := 1) (by decide) dX6_isEasel_10 ?_
      refine v_goto X (tgt := 15) (by decide) dX6_isEasel_11 ?_
      obtain rfl := Option.some.inj hf
      exact v_iret (hR nz1) dX6_isEasel_15
set_option maxRecDepth 100000 in
set_option maxHeartbeats 4000000 in
theorem c_X6_isEasel {l : Launch} {D : va_G} {qT : Nat → ClassId} {Z : (Nat → Prop) → State → Heap → Prop} {r : Int32} {l0 : Int32} (hZ : ZOK Z) (hf : f_X6_isEasel l0 = some r) :
    CI l D qT Z yX6_isEasel cX6_isEasel 1 (some .boolean) 1 0 0 [.int l0] [] r [] := by
  refine CZ_of hZ (by decide) (Nat.le_of_ble_eq_true rfl) ?_
  intro x e1 e2 e3 e4 e5 e6 hin X hR
  subst e1 e2 e3 e4
  exact t_X6_isEasel X e6 hR hf
def f_X6_isKind (l0 : Int32) : Option (Int32) :=
  if l0 < 0 then (
  some 0) else (
  if 6 ≤ l0 then (
  some 0) else (
  some 1))
set_option maxRecDepth 100000 in
set_option maxHeartbeats 4000000 in
theorem t_X6_isKind {x : VX} {r : Int32} {l0 : Int32} (X : Cx x cX6_isKind RX6 1) (hN : vxn x = 1) (hR : narrow .boolean (.int r) = .int r → RetI x cX6_isKind 0 0 r []) (hf : f_X6_isKind l0 = some r) : V x 0 0 [] [(0, .int l0)] 0 [] := by
  unfold f_X6_isKind at hf
  refine v_iload_n X 0 rfl dX6_isKind_0 ?_
  refine v_if_lt X (tgt := 14) hf (by decide) dX6_isKind_1 (fun c1 hf => ?_) (fun c1 hf => ?_)
  · refine v_iconst X (v := 0) (by decide) dX6_isKind_14 ?_
    obtain rfl := Option.some.inj hf
    exact v_iret (hR nz0) dX6_isKind_15
  · refine v_iload_n X 0 rfl dX6_isKind_4 ?_
    refine v_bipush X (v := 6) (by decide) dX6_isKind_5 ?_
    refine v_icmp_ge X (tgt := 14) hf (by decide) dX6_isKind_7 (fun c7 hf => ?_) (fun c7 hf => ?_)
    · refine v_iconst X (v := 0) (by decide) dX6_isKind_14 ?_
      obtain rfl := Option.some.inj hf
      exact v_iret (hR nz0) dX6_isKind_15
    · refine v_iconst X (v := 1) (by decide) dX6_isKind_10 ?_
      refine v_goto X (tgt := 15) (by decide) dX6_isKind_11 ?_
      obtain rfl := Option.some.inj hf
      exact v_iret (hR nz1) dX6_isKind_15
set_option maxRecDepth 100000 in
set_option maxHeartbeats 4000000 in
theorem c_X6_isKind {l : Launch} {D : va_G} {qT : Nat → ClassId} {Z : (Nat → Prop) → State → Heap → Prop} {r : Int32} {l0 : Int32} (hZ : ZOK Z) (hf : f_X6_isKind l0 = some r) :
    CI l D qT Z yX6_isKind cX6_isKind 1 (some .boolean) 1 0 0 [.int l0] [] r [] := by
  refine CZ_of hZ (by decide) (Nat.le_of_ble_eq_true rfl) ?_
  intro x e1 e2 e3 e4 e5 e6 hin X hR
  subst e1 e2 e3 e4
  exact t_X6_isKind X e6 hR hf
def f_X6_isSheet (l0 : Int32) : Option (Int32) :=
  if l0 < 0 then (
  some 0) else (
  if 4 ≤ l0 then (
  some 0) else (
  some 1))
set_option maxRecDepth 100000 in
set_option maxHeartbeats 4000000 in
theorem t_X6_isSheet {x : VX} {r : Int32} {l0 : Int32} (X : Cx x cX6_isSheet RX6 1) (hN : vxn x = 1) (hR : narrow .boolean (.int r) = .int r → RetI x cX6_isSheet 0 0 r []) (hf : f_X6_isSheet l0 = some r) : V x 0 0 [] [(0, .int l0)] 0 [] := by
  unfold f_X6_isSheet at hf
  refine v_iload_n X 0 rfl dX6_isSheet_0 ?_
  refine v_if_lt X (tgt := 13) hf (by decide) dX6_isSheet_1 (fun c1 hf => ?_) (fun c1 hf => ?_)
  · refine v_iconst X (v := 0) (by decide) dX6_isSheet_13 ?_
    obtain rfl := Option.some.inj hf
    exact v_iret (hR nz0) dX6_isSheet_14
  · refine v_iload_n X 0 rfl dX6_isSheet_4 ?_
    refine v_iconst X (v := 4) (by decide) dX6_isSheet_5 ?_
    refine v_icmp_ge X (tgt := 13) hf (by decide) dX6_isSheet_6 (fun c6 hf => ?_) (fun c6 hf => ?_)
    · refine v_iconst X (v := 0) (by decide) dX6_isSheet_13 ?_
      obtain rfl := Option.some.inj hf
      exact v_iret (hR nz0) dX6_isSheet_14
    · refine v_iconst X (v := 1) (by decide) dX6_isSheet_9 ?_
      refine v_goto X (tgt := 14) (by decide) dX6_isSheet_10 ?_
      obtain rfl := Option.some.inj hf
      exact v_iret (hR nz1) dX6_isSheet_14
set_option maxRecDepth 100000 in
set_option maxHeartbeats 4000000 in
theorem c_X6_isSheet {l : Launch} {D : va_G} {qT : Nat → ClassId} {Z : (Nat → Prop) → State → Heap → Prop} {r : Int32} {l0 : Int32} (hZ : ZOK Z) (hf : f_X6_isSheet l0 = some r) :
    CI l D qT Z yX6_isSheet cX6_isSheet 1 (some .boolean) 1 0 0 [.int l0] [] r [] := by
  refine CZ_of hZ (by decide) (Nat.le_of_ble_eq_true rfl) ?_
  intro x e1 e2 e3 e4 e5 e6 hin X hR
  subst e1 e2 e3 e4
  exact t_X6_isSheet X e6 hR hf
def f_X6_isSort (l0 : Int32) : Option (Int32) :=
  if l0 < 0 then (
  some 0) else (
  if 2 < l0 then (
  some 0) else (
  some 1))
set_option maxRecDepth 100000 in
set_option maxHeartbeats 4000000 in
theorem t_X6_isSort {x : VX} {r : Int32} {l0 : Int32} (X : Cx x cX6_isSort RX6 1) (hN : vxn x = 1) (hR : narrow .boolean (.int r) = .int r → RetI x cX6_isSort 0 0 r []) (hf : f_X6_isSort l0 = some r) : V x 0 0 [] [(0, .int l0)] 0 [] := by
  unfold f_X6_isSort at hf
  refine v_iload_n X 0 rfl dX6_isSort_0 ?_
  refine v_if_lt X (tgt := 13) hf (by decide) dX6_isSort_1 (fun c1 hf => ?_) (fun c1 hf => ?_)
  · refine v_iconst X (v := 0) (by decide) dX6_isSort_13 ?_
    obtain rfl := Option.some.inj hf
    exact v_iret (hR nz0) dX6_isSort_14
  · refine v_iload_n X 0 rfl dX6_isSort_4 ?_
    refine v_iconst X (v := 2) (by decide) dX6_isSort_5 ?_
    refine v_icmp_gt X (tgt := 13) hf (by decide) dX6_isSort_6 (fun c6 hf => ?_) (fun c6 hf => ?_)
    · refine v_iconst X (v := 0) (by decide) dX6_isSort_13 ?_
      obtain rfl := Option.some.inj hf
      exact v_iret (hR nz0) dX6_isSort_14
    · refine v_iconst X (v := 1) (by decide) dX6_isSort_9 ?_
      refine v_goto X (tgt := 14) (by decide) dX6_isSort_10 ?_
      obtain rfl := Option.some.inj hf
      exact v_iret (hR nz1) dX6_isSort_14
set_option maxRecDepth 100000 in
set_option maxHeartbeats 4000000 in
theorem c_X6_isSort {l : Launch} {D : va_G} {qT : Nat → ClassId} {Z : (Nat → Prop) → State → Heap → Prop} {r : Int32} {l0 : Int32} (hZ : ZOK Z) (hf : f_X6_isSort l0 = some r) :
    CI l D qT Z yX6_isSort cX6_isSort 1 (some .boolean) 1 0 0 [.int l0] [] r [] := by
  refine CZ_of hZ (by decide) (Nat.le_of_ble_eq_true rfl) ?_
  intro x e1 e2 e3 e4 e5 e6 hin X hR
  subst e1 e2 e3 e4
  exact t_X6_isSort X e6 hR hf
def f_X6_isPart (l0 : Int32) : Option (Int32) :=
  if l0 = 0 then (
  some 1) else (
  if l0 = 1 then (
  some 1) else (
  some 0))
set_option maxRecDepth 100000 in
set_option maxHeartbeats 4000000 in
theorem t_X6_isPart {x : VX} {r : Int32} {l0 : Int32} (X : Cx x cX6_isPart RX6 1) (hN : vxn x = 1) (hR : narrow .boolean (.int r) = .int r → RetI x cX6_isPart 0 0 r []) (hf : f_X6_isPart l0 = some r) : V x 0 0 [] [(0, .int l0)] 0 [] := by
  unfold f_X6_isPart at hf
  refine v_iload_n X 0 rfl dX6_isPart_0 ?_
  refine v_if_eq X (tgt := 9) hf (by decide) dX6_isPart_1 (fun c1 hf => ?_) (fun c1 hf => ?_)
  · refine v_iconst X (v := 1) (by decide) dX6_isPart_9 ?_
    refine v_goto X (tgt := 14) (by decide) dX6_isPart_10 ?_
    obtain rfl := Option.some.inj hf
    exact v_iret (hR nz1) dX6_isPart_14
  · refine v_iload_n X 0 rfl dX6_isPart_4 ?_
    refine v_iconst X (v := 1) (by decide) dX6_isPart_5 ?_
    refine v_icmp_ne X (tgt := 13) hf (by decide) dX6_isPart_6 (fun c6 hf => ?_) (fun c6 hf => ?_)
    · refine v_iconst X (v := 0) (by decide) dX6_isPart_13 ?_
      obtain rfl := Option.some.inj hf
      exact v_iret (hR nz0) dX6_isPart_14
    · refine v_iconst X (v := 1) (by decide) dX6_isPart_9 ?_
      refine v_goto X (tgt := 14) (by decide) dX6_isPart_10 ?_
      obtain rfl := Option.some.inj hf
      exact v_iret (hR nz1) dX6_isPart_14
set_option maxRecDepth 100000 in
set_option maxHeartbeats 4000000 in
theorem c_X6_isPart {l : Launch} {D : va_G} {qT : Nat → ClassId} {Z : (Nat → Prop) → State → Heap → Prop} {r : Int32} {l0 : Int32} (hZ : ZOK Z) (hf : f_X6_isPart l0 = some r) :
    CI l D qT Z yX6_isPart cX6_isPart 1 (some .boolean) 1 0 0 [.int l0] [] r [] := by
  refine CZ_of hZ (by decide) (Nat.le_of_ble_eq_true rfl) ?_
  intro x e1 e2 e3 e4 e5 e6 hin X hR
  subst e1 e2 e3 e4
  exact t_X6_isPart X e6 hR hf
def f_X6_isPoses (l0 : Int32) : Option (Int32) :=
  if l0 < 0 then (
  some 0) else (
  if 40 < l0 then (
  some 0) else (
  some 1))
set_option maxRecDepth 100000 in
set_option maxHeartbeats 4000000 in
theorem t_X6_isPoses {x : VX} {r : Int32} {l0 : Int32} (X : Cx x cX6_isPoses RX6 1) (hN : vxn x = 1) (hR : narrow .boolean (.int r) = .int r → RetI x cX6_isPoses 0 0 r []) (hf : f_X6_isPoses l0 = some r) : V x 0 0 [] [(0, .int l0)] 0 [] := by
  unfold f_X6_isPoses at hf
  refine v_iload_n X 0 rfl dX6_isPoses_0 ?_
  refine v_if_lt X (tgt := 14) hf (by decide) dX6_isPoses_1 (fun c1 hf => ?_) (fun c1 hf => ?_)
  · refine v_iconst X (v := 0) (by decide) dX6_isPoses_14 ?_
    obtain rfl := Option.some.inj hf
    exact v_iret (hR nz0) dX6_isPoses_15
  · refine v_iload_n X 0 rfl dX6_isPoses_4 ?_
    refine v_bipush X (v := 40) (by decide) dX6_isPoses_5 ?_
    refine v_icmp_gt X (tgt := 14) hf (by decide) dX6_isPoses_7 (fun c7 hf => ?_) (fun c7 hf => ?_)
    · refine v_iconst X (v := 0) (by decide) dX6_isPoses_14 ?_
      obtain rfl := Option.some.inj hf
      exact v_iret (hR nz0) dX6_isPoses_15
    · refine v_iconst X (v := 1) (by decide) dX6_isPoses_10 ?_
      refine v_goto X (tgt := 15) (by decide) dX6_isPoses_11 ?_
      obtain rfl := Option.some.inj hf
      exact v_iret (hR nz1) dX6_isPoses_15
set_option maxRecDepth 100000 in
set_option maxHeartbeats 4000000 in
theorem c_X6_isPoses {l : Launch} {D : va_G} {qT : Nat → ClassId} {Z : (Nat → Prop) → State → Heap → Prop} {r : Int32} {l0 : Int32} (hZ : ZOK Z) (hf : f_X6_isPoses l0 = some r) :
    CI l D qT Z yX6_isPoses cX6_isPoses 1 (some .boolean) 1 0 0 [.int l0] [] r [] := by
  refine CZ_of hZ (by decide) (Nat.le_of_ble_eq_true rfl) ?_
  intro x e1 e2 e3 e4 e5 e6 hin X hR
  subst e1 e2 e3 e4
  exact t_X6_isPoses X e6 hR hf
def f_X6_isTurnStep (l0 : Int32) : Option (Int32) :=
  if l0 < 0 then (
  some 0) else (
  if 11 ≤ (l0 / 100) then (
  some 0) else (
  if 11 ≤ (l0 - l0 / 100 * 100) then (
  some 0) else (
  some 1)))
set_option maxRecDepth 100000 in
set_option maxHeartbeats 4000000 in
theorem t_X6_isTurnStep {x : VX} {r : Int32} {l0 : Int32} (X : Cx x cX6_isTurnStep RX6 1) (hN : vxn x = 1) (hR : narrow .boolean (.int r) = .int r → RetI x cX6_isTurnStep 0 0 r []) (hf : f_X6_isTurnStep l0 = some r) : V x 0 0 [] [(0, .int l0)] 0 [] := by
  unfold f_X6_isTurnStep at hf
  refine v_iload_n X 0 rfl dX6_isTurnStep_0 ?_
  refine v_if_lt X (tgt := 26) hf (by decide) dX6_isTurnStep_1 (fun c1 hf => ?_) (fun c1 hf => ?_)
  · refine v_iconst X (v := 0) (by decide) dX6_isTurnStep_26 ?_
    obtain rfl := Option.some.inj hf
    exact v_iret (hR nz0) dX6_isTurnStep_27
  · refine v_iload_n X 0 rfl dX6_isTurnStep_4 ?_
    refine v_bipush X (v := 100) (by decide) dX6_isTurnStep_5 ?_
    refine v_idiv X (by decide) dX6_isTurnStep_7 ?_
    refine v_bipush X (v := 11) (by decide) dX6_isTurnStep_8 ?_
    refine v_icmp_ge X (tgt := 26) hf (by decide) dX6_isTurnStep_10 (fun c10 hf => ?_) (fun c10 hf => ?_)
    · refine v_iconst X (v := 0) (by decide) dX6_isTurnStep_26 ?_
      obtain rfl := Option.some.inj hf
      exact v_iret (hR nz0) dX6_isTurnStep_27
    · refine v_iload_n X 0 rfl dX6_isTurnStep_13 ?_
      refine v_bipush X (v := 100) (by decide) dX6_isTurnStep_14 ?_
      refine v_irem X (by decide) dX6_isTurnStep_16 ?_
      refine v_bipush X (v := 11) (by decide) dX6_isTurnStep_17 ?_
      refine v_icmp_ge X (tgt := 26) hf (by decide) dX6_isTurnStep_19 (fun c19 hf => ?_) (fun c19 hf => ?_)
      · refine v_iconst X (v := 0) (by decide) dX6_isTurnStep_26 ?_
        obtain rfl := Option.some.inj hf
        exact v_iret (hR nz0) dX6_isTurnStep_27
      · refine v_iconst X (v := 1) (by decide) dX6_isTurnStep_22 ?_
        refine v_goto X (tgt := 27) (by decide) dX6_isTurnStep_23 ?_
        obtain rfl := Option.some.inj hf
        exact v_iret (hR nz1) dX6_isTurnStep_27
set_option maxRecDepth 100000 in
set_option maxHeartbeats 4000000 in
theorem c_X6_isTurnStep {l : Launch} {D : va_G} {qT : Nat → ClassId} {Z : (Nat → Prop) → State → Heap → Prop} {r : Int32} {l0 : Int32} (hZ : ZOK Z) (hf : f_X6_isTurnStep l0 = some r) :
    CI l D qT Z yX6_isTurnStep cX6_isTurnStep 1 (some .boolean) 1 0 0 [.int l0] [] r [] := by
  refine CZ_of hZ (by decide) (Nat.le_of_ble_eq_true rfl) ?_
  intro x e1 e2 e3 e4 e5 e6 hin X hR
  subst e1 e2 e3 e4
  exact t_X6_isTurnStep X e6 hR hf
def f_X6_within (l0 : Int32) (l1 : Int32) (l2 : Int32) : Option (Int32) :=
  some (if l0 < (if l2 < l1 then l2 else l1) then (if l2 < l1 then l2 else l1) else l0)
set_option maxRecDepth 100000 in
set_option maxHeartbeats 4000000 in
theorem t_X6_within {x : VX} {r : Int32} {l0 : Int32} {l1 : Int32} {l2 : Int32} (X : Cx x cX6_within RX6 1) (hN : vxn x = 3) (hR : RetI x cX6_within 0 0 r []) (hf : f_X6_within l0 l1 l2 = some r) : V x 0 0 [] [(0, .int l0), (1, .int l1), (2, .int l2)] 0 [] := by
  unfold f_X6_within at hf
  refine v_iload_n X 0 rfl dX6_within_0 ?_
  refine v_iload_n X 1 rfl dX6_within_1 ?_
  refine v_iload_n X 2 rfl dX6_within_2 ?_
  refine v_mmin X wd3 (by decide) (Nat.le_of_ble_eq_true rfl) dX6_within_3 ?_
  refine v_mmax X wd4 (by decide) (Nat.le_of_ble_eq_true rfl) dX6_within_6 ?_
  obtain rfl := Option.some.inj hf
  exact v_iret hR dX6_within_9
set_option maxRecDepth 100000 in
set_option maxHeartbeats 4000000 in
theorem c_X6_within {l : Launch} {D : va_G} {qT : Nat → ClassId} {Z : (Nat → Prop) → State → Heap → Prop} {r : Int32} {l0 : Int32} {l1 : Int32} {l2 : Int32} (hZ : ZOK Z) (hf : f_X6_within l0 l1 l2 = some r) :
    CI l D qT Z yX6_within cX6_within 3 (some .int) 1 0 0 [.int l0, .int l1, .int l2] [] r [] := by
  refine CI_of hZ (by decide) (Nat.le_of_ble_eq_true rfl) ?_
  intro x e1 e2 e3 e4 e5 e6 hin X hR
  subst e1 e2 e3 e4
  exact t_X6_within X e6 hR hf
def f_X2_has (l1 : Int32) (s_painters : Int32) : Option (Int32) :=
  if l1 < 0 then (
  some 0) else (
  if s_painters ≤ l1 then (
  some 0) else (
  some 1))
set_option maxRecDepth 100000 in
set_option maxHeartbeats 4000000 in
theorem t_X2_has {x : VX} {r : Int32} {a0 : Nat} {a_kind : Nat} {a_number : Nat} {a_easel : Nat} {a_had : Nat} {a_pleased : Nat} {s_face : Int32} {s_lamp : Int32} {s_stove : Int32} {s_pose : Int32} {s_rule : Int32} {s_painters : Int32} {l1 : Int32} (X : Cx x cX2_has RX2 1) (hN : vxn x = 2) (hR : narrow .boolean (.int r) = .int r → RetI x cX2_has 0 0 r [(a0, .inr (2, [.int s_face, .int s_lamp, .int s_stove, .int s_pose, .int s_rule, .int s_painters, .ref a_kind, .ref a_number, .ref a_easel, .ref a_had, .ref a_pleased]))]) (hf : f_X2_has l1 s_painters = some r) : V x 0 0 [(a0, .inr (2, [.int s_face, .int s_lamp, .int s_stove, .int s_pose, .int s_rule, .int s_painters, .ref a_kind, .ref a_number, .ref a_easel, .ref a_had, .ref a_pleased]))] [(0, .ref a0), (1, .int l1)] 0 [] := by
  unfold f_X2_has at hf
  refine v_iload_n X 1 rfl dX2_has_0 ?_
  refine v_if_lt X (tgt := 16) hf (by decide) dX2_has_1 (fun c1 hf => ?_) (fun c1 hf => ?_)
  · refine v_iconst X (v := 0) (by decide) dX2_has_16 ?_
    obtain rfl := Option.some.inj hf
    exact v_iret (hR nz0) dX2_has_17
  · refine v_iload_n X 1 rfl dX2_has_4 ?_
    refine v_aload_n X 0 rfl dX2_has_5 ?_
    refine v_get X xinX2 0 rfl rfl 5 (by decide) wd5 rfl rfl dX2_has_6 ?_
    refine v_icmp_ge X (tgt := 16) hf (by decide) dX2_has_9 (fun c9 hf => ?_) (fun c9 hf => ?_)
    · refine v_iconst X (v := 0) (by decide) dX2_has_16 ?_
      obtain rfl := Option.some.inj hf
      exact v_iret (hR nz0) dX2_has_17
    · refine v_iconst X (v := 1) (by decide) dX2_has_12 ?_
      refine v_goto X (tgt := 17) (by decide) dX2_has_13 ?_
      obtain rfl := Option.some.inj hf
      exact v_iret (hR nz1) dX2_has_17
set_option maxRecDepth 100000 in
set_option maxHeartbeats 4000000 in
theorem c_X2_has {l : Launch} {D : va_G} {qT : Nat → ClassId} {Z : (Nat → Prop) → State → Heap → Prop} {r : Int32} {a0 : Nat} {a_kind : Nat} {a_number : Nat} {a_easel : Nat} {a_had : Nat} {a_pleased : Nat} {s_face : Int32} {s_lamp : Int32} {s_stove : Int32} {s_pose : Int32} {s_rule : Int32} {s_painters : Int32} {l1 : Int32} (hZ : ZOK Z) (hf : f_X2_has l1 s_painters = some r) :
    CI l D qT Z yX2_has cX2_has 2 (some .boolean) 1 0 0 [.ref a0, .int l1] [(a0, .inr (2, [.int s_face, .int s_lamp, .int s_stove, .int s_pose, .int s_rule, .int s_painters, .ref a_kind, .ref a_number, .ref a_easel, .ref a_had, .ref a_pleased]))] r [(a0, .inr (2, [.int s_face, .int s_lamp, .int s_stove, .int s_pose, .int s_rule, .int s_painters, .ref a_kind, .ref a_number, .ref a_easel, .ref a_had, .ref a_pleased]))] := by
  refine CZ_of hZ (by decide) (Nat.le_of_ble_eq_true rfl) ?_
  intro x e1 e2 e3 e4 e5 e6 hin X hR
  subst e1 e2 e3 e4
  exact t_X2_has X e6 hR hf
def f_X2_come (l1 : Int32) (l2 : Int32) (l3 : Int32) (s_painters : Int32) (s_kind : Nat → Int32) (s_number : Nat → Int32) (s_easel : Nat → Int32) (s_had : Nat → Int32) (s_pleased : Nat → Int32) : Option (Int32 × (Nat → Int32) × (Nat → Int32) × (Nat → Int32) × (Nat → Int32) × (Nat → Int32)) :=
  if inb s_painters 6 = true then (
  if inb s_painters 6 = true then (
  if inb s_painters 6 = true then (
  if inb s_painters 6 = true then (
  if inb s_painters 6 = true then (
  some ((s_painters + 1), (upd s_kind (Int32.toNatClampNeg s_painters) l1), (upd s_number (Int32.toNatClampNeg s_painters) l2), (upd s_easel (Int32.toNatClampNeg s_painters) l3), (upd s_had (Int32.toNatClampNeg s_painters) 0), (upd s_pleased (Int32.toNatClampNeg s_painters) 0))) else none) else none) else none) else none) else none
set_option maxRecDepth 100000 in
set_option maxHeartbeats 4000000 in
theorem t_X2_come {x : VX} {r : Int32 × (Nat → Int32) × (Nat → Int32) × (Nat → Int32) × (Nat → Int32) × (Nat → Int32)} {a0 : Nat} {a_kind : Nat} {a_number : Nat} {a_easel : Nat} {a_had : Nat} {a_pleased : Nat} {s_face : Int32} {s_lamp : Int32} {s_stove : Int32} {s_pose : Int32} {s_rule : Int32} {s_painters : Int32} {s_kind : Nat → Int32} {s_number : Nat → Int32} {s_easel : Nat → Int32} {s_had : Nat → Int32} {s_pleased : Nat → Int32} {l1 : Int32} {l2 : Int32} {l3 : Int32} (X : Cx x cX2_come RX2 1) (hN : vxn x = 4) (hR : RetV x cX2_come 0 0 [(a0, .inr (2, [.int s_face, .int s_lamp, .int s_stove, .int s_pose, .int s_rule, .int r.1, .ref a_kind, .ref a_number, .ref a_easel, .ref a_had, .ref a_pleased])), (a_kind, .inl (vxT x 0, 6, .inl r.2.1)), (a_number, .inl (vxT x 0, 6, .inl r.2.2.1)), (a_easel, .inl (vxT x 0, 6, .inl r.2.2.2.1)), (a_had, .inl (vxT x 0, 6, .inl r.2.2.2.2.1)), (a_pleased, .inl (vxT x 0, 6, .inl r.2.2.2.2.2))]) (hf : f_X2_come l1 l2 l3 s_painters s_kind s_number s_easel s_had s_pleased = some r) : V x 0 0 [(a0, .inr (2, [.int s_face, .int s_lamp, .int s_stove, .int s_pose, .int s_rule, .int s_painters, .ref a_kind, .ref a_number, .ref a_easel, .ref a_had, .ref a_pleased])), (a_kind, .inl (vxT x 0, 6, .inl s_kind)), (a_number, .inl (vxT x 0, 6, .inl s_number)), (a_easel, .inl (vxT x 0, 6, .inl s_easel)), (a_had, .inl (vxT x 0, 6, .inl s_had)), (a_pleased, .inl (vxT x 0, 6, .inl s_pleased))] [(0, .ref a0), (1, .int l1), (2, .int l2), (3, .int l3)] 0 [] := by
  unfold f_X2_come at hf
  refine v_aload_n X 0 rfl dX2_come_0 ?_
  refine v_get X xinX2 0 rfl rfl 6 (by decide) wd6 rfl rfl dX2_come_1 ?_
  refine v_aload_n X 0 rfl dX2_come_4 ?_
  refine v_get X xinX2 0 rfl rfl 5 (by decide) wd5 rfl rfl dX2_come_5 ?_
  refine v_iload_n X 1 rfl dX2_come_8 ?_
  refine v_iast X 1 rfl hf (ws' := [(a0, .inr (2, [.int s_face, .int s_lamp, .int s_stove, .int s_pose, .int s_rule, .int s_painters, .ref a_kind, .ref a_number, .ref a_easel, .ref a_had, .ref a_pleased])), (a_kind, .inl (vxT x 0, 6, .inl (upd s_kind (Int32.toNatClampNeg s_painters) l1))), (a_number, .inl (vxT x 0, 6, .inl s_number)), (a_easel, .inl (vxT x 0, 6, .inl s_easel)), (a_had, .inl (vxT x 0, 6, .inl s_had)), (a_pleased, .inl (vxT x 0, 6, .inl s_pleased))]) rfl dX2_come_9 (fun h9 hf => ?_)
  refine v_aload_n X 0 rfl dX2_come_10 ?_
  refine v_get X xinX2 0 rfl rfl 7 (by decide) wd7 rfl rfl dX2_come_11 ?_
  refine v_aload_n X 0 rfl dX2_come_14 ?_
  refine v_get X xinX2 0 rfl rfl 5 (by decide) wd5 rfl rfl dX2_come_15 ?_
  refine v_iload_n X 2 rfl dX2_come_18 ?_
  refine v_iast X 2 rfl hf (ws' := [(a0, .inr (2, [.int s_face, .int s_lamp, .int s_stove, .int s_pose, .int s_rule, .int s_painters, .ref a_kind, .ref a_number, .ref a_easel, .ref a_had, .ref a_pleased])), (a_kind, .inl (vxT x 0, 6, .inl (upd s_kind (Int32.toNatClampNeg s_painters) l1))), (a_number, .inl (vxT x 0, 6, .inl (upd s_number (Int32.toNatClampNeg s_painters) l2))), (a_easel, .inl (vxT x 0, 6, .inl s_easel)), (a_had, .inl (vxT x 0, 6, .inl s_had)), (a_pleased, .inl (vxT x 0, 6, .inl s_pleased))]) rfl dX2_come_19 (fun h19 hf => ?_)
  refine v_aload_n X 0 rfl dX2_come_20 ?_
  refine v_get X xinX2 0 rfl rfl 8 (by decide) wd8 rfl rfl dX2_come_21 ?_
  refine v_aload_n X 0 rfl dX2_come_24 ?_
  refine v_get X xinX2 0 rfl rfl 5 (by decide) wd5 rfl rfl dX2_come_25 ?_
  refine v_iload_n X 3 rfl dX2_come_28 ?_
  refine v_iast X 3 rfl hf (ws' := [(a0, .inr (2, [.int s_face, .int s_lamp, .int s_stove, .int s_pose, .int s_rule, .int s_painters, .ref a_kind, .ref a_number, .ref a_easel, .ref a_had, .ref a_pleased])), (a_kind, .inl (vxT x 0, 6, .inl (upd s_kind (Int32.toNatClampNeg s_painters) l1))), (a_number, .inl (vxT x 0, 6, .inl (upd s_number (Int32.toNatClampNeg s_painters) l2))), (a_easel, .inl (vxT x 0, 6, .inl (upd s_easel (Int32.toNatClampNeg s_painters) l3))), (a_had, .inl (vxT x 0, 6, .inl s_had)), (a_pleased, .inl (vxT x 0, 6, .inl s_pleased))]) rfl dX2_come_29 (fun h29 hf => ?_)
  refine v_aload_n X 0 rfl dX2_come_30 ?_
  refine v_get X xinX2 0 rfl rfl 9 (by decide) wd9 rfl rfl dX2_come_31 ?_
  refine v_aload_n X 0 rfl dX2_come_34 ?_
  refine v_get X xinX2 0 rfl rfl 5 (by decide) wd5 rfl rfl dX2_come_35 ?_
  refine v_iconst X (v := 0) (by decide) dX2_come_38 ?_
  refine v_iast X 4 rfl hf (ws' := [(a0, .inr (2, [.int s_face, .int s_lamp, .int s_stove, .int s_pose, .int s_rule, .int s_painters, .ref a_kind, .ref a_number, .ref a_easel, .ref a_had, .ref a_pleased])), (a_kind, .inl (vxT x 0, 6, .inl (upd s_kind (Int32.toNatClampNeg s_painters) l1))), (a_number, .inl (vxT x 0, 6, .inl (upd s_number (Int32.toNatClampNeg s_painters) l2))), (a_easel, .inl (vxT x 0, 6, .inl (upd s_easel (Int32.toNatClampNeg s_painters) l3))), (a_had, .inl (vxT x 0, 6, .inl (upd s_had (Int32.toNatClampNeg s_painters) 0))), (a_pleased, .inl (vxT x 0, 6, .inl s_pleased))]) rfl dX2_come_39 (fun h39 hf => ?_)
  refine v_aload_n X 0 rfl dX2_come_40 ?_
  refine v_get X xinX2 0 rfl rfl 10 (by decide) wd10 rfl rfl dX2_come_41 ?_
  refine v_aload_n X 0 rfl dX2_come_44 ?_
  refine v_get X xinX2 0 rfl rfl 5 (by decide) wd5 rfl rfl dX2_come_45 ?_
  refine v_iconst X (v := 0) (by decide) dX2_come_48 ?_
  refine v_iast X 5 rfl hf (ws' := [(a0, .inr (2, [.int s_face, .int s_lamp, .int s_stove, .int s_pose, .int s_rule, .int s_painters, .ref a_kind, .ref a_number, .ref a_easel, .ref a_had, .ref a_pleased])), (a_kind, .inl (vxT x 0, 6, .inl (upd s_kind (Int32.toNatClampNeg s_painters) l1))), (a_number, .inl (vxT x 0, 6, .inl (upd s_number (Int32.toNatClampNeg s_painters) l2))), (a_easel, .inl (vxT x 0, 6, .inl (upd s_easel (Int32.toNatClampNeg s_painters) l3))), (a_had, .inl (vxT x 0, 6, .inl (upd s_had (Int32.toNatClampNeg s_painters) 0))), (a_pleased, .inl (vxT x 0, 6, .inl (upd s_pleased (Int32.toNatClampNeg s_painters) 0)))]) rfl dX2_come_49 (fun h49 hf => ?_)
  refine v_aload_n X 0 rfl dX2_come_50 ?_
  refine v_dup X rfl dX2_come_51 ?_
  refine v_get X xinX2 0 rfl rfl 5 (by decide) wd5 rfl rfl dX2_come_52 ?_
  refine v_iconst X (v := 1) (by decide) dX2_come_55 ?_
  refine v_iadd X dX2_come_56 ?_
  refine v_put X xinX2 tyX2 tyX2_ok nmX2 0 rfl rfl 5 (by decide) wd5 rfl rfl rfl rfl rfl (Nat.le_of_ble_eq_true rfl) (ws' := [(a0, .inr (2, [.int s_face, .int s_lamp, .int s_stove, .int s_pose, .int s_rule, .int (s_painters + 1), .ref a_kind, .ref a_number, .ref a_easel, .ref a_had, .ref a_pleased])), (a_kind, .inl (vxT x 0, 6, .inl (upd s_kind (Int32.toNatClampNeg s_painters) l1))), (a_number, .inl (vxT x 0, 6, .inl (upd s_number (Int32.toNatClampNeg s_painters) l2))), (a_easel, .inl (vxT x 0, 6, .inl (upd s_easel (Int32.toNatClampNeg s_painters) l3))), (a_had, .inl (vxT x 0, 6, .inl (upd s_had (Int32.toNatClampNeg s_painters) 0))), (a_pleased, .inl (vxT x 0, 6, .inl (upd s_pleased (Int32.toNatClampNeg s_painters) 0)))]) rfl dX2_come_57 ?_
  obtain rfl := Option.some.inj hf
  exact v_vret hR dX2_come_60
set_option maxRecDepth 100000 in
set_option maxHeartbeats 4000000 in
theorem c_X2_come {l : Launch} {D : va_G} {qT : Nat → ClassId} {Z : (Nat → Prop) → State → Heap → Prop} {r : Int32 × (Nat → Int32) × (Nat → Int32) × (Nat → Int32) × (Nat → Int32) × (Nat → Int32)} {a0 : Nat} {a_kind : Nat} {a_number : Nat} {a_easel : Nat} {a_had : Nat} {a_pleased : Nat} {s_face : Int32} {s_lamp : Int32} {s_stove : Int32} {s_pose : Int32} {s_rule : Int32} {s_painters : Int32} {s_kind : Nat → Int32} {s_number : Nat → Int32} {s_easel : Nat → Int32} {s_had : Nat → Int32} {s_pleased : Nat → Int32} {l1 : Int32} {l2 : Int32} {l3 : Int32} (hZ : ZOK Z) (hf : f_X2_come l1 l2 l3 s_painters s_kind s_number s_easel s_had s_pleased = some r) :
    CV l D qT Z yX2_come cX2_come 4 none 1 0 0 [.ref a0, .int l1, .int l2, .int l3] [(a0, .inr (2, [.int s_face, .int s_lamp, .int s_stove, .int s_pose, .int s_rule, .int s_painters, .ref a_kind, .ref a_number, .ref a_easel, .ref a_had, .ref a_pleased])), (a_kind, .inl (qT 0, 6, .inl s_kind)), (a_number, .inl (qT 0, 6, .inl s_number)), (a_easel, .inl (qT 0, 6, .inl s_easel)), (a_had, .inl (qT 0, 6, .inl s_had)), (a_pleased, .inl (qT 0, 6, .inl s_pleased))] [(a0, .inr (2, [.int s_face, .int s_lamp, .int s_stove, .int s_pose, .int s_rule, .int r.1, .ref a_kind, .ref a_number, .ref a_easel, .ref a_had, .ref a_pleased])), (a_kind, .inl (qT 0, 6, .inl r.2.1)), (a_number, .inl (qT 0, 6, .inl r.2.2.1)), (a_easel, .inl (qT 0, 6, .inl r.2.2.2.1)), (a_had, .inl (qT 0, 6, .inl r.2.2.2.2.1)), (a_pleased, .inl (qT 0, 6, .inl r.2.2.2.2.2))] := by
  refine CV_of hZ (by decide) (Nat.le_of_ble_eq_true rfl) ?_
  intro x e1 e2 e3 e4 e5 e6 hin X hR
  subst e1 e2 e3 e4
  exact t_X2_come X e6 hR hf
def f_X2_freeEasels_6 (s_painters : Int32) (s_easel : Nat → Int32) (kp_6 : Int32 → Int32 → Option (Int32)) (l1 : Int32) (l2 : Int32) : Option (Int32) :=
  if s_painters ≤ l2 then (
  some l1) else (
  if inb l2 6 = true then (
  kp_6 (l1 &&& ((1 <<< ((s_easel (Int32.toNatClampNeg l2)) &&& 31)) ^^^ (-1))) (l2 + 1)) else none)
def f_X2_freeEasels (s_painters : Int32) (s_easel : Nat → Int32) : Option (Int32) :=
  lq2 (f_X2_freeEasels_6 s_painters s_easel) 200 2047 0
set_option maxRecDepth 100000 in
set_option maxHeartbeats 4000000 in
theorem t_X2_freeEasels_6 {x : VX} {r : Int32} {a0 : Nat} {a_easel : Nat} {a_kind : Nat} {a_number : Nat} {a_had : Nat} {a_pleased : Nat} {s_face : Int32} {s_lamp : Int32} {s_stove : Int32} {s_pose : Int32} {s_rule : Int32} {s_painters : Int32} {s_easel : Nat → Int32} (X : Cx x cX2_freeEasels RX2 1) (hN : vxn x = 3) (hR : RetI x cX2_freeEasels 0 0 r [(a0, .inr (2, [.int s_face, .int s_lamp, .int s_stove, .int s_pose, .int s_rule, .int s_painters, .ref a_kind, .ref a_number, .ref a_easel, .ref a_had, .ref a_pleased])), (a_easel, .inl (vxT x 0, 6, .inl s_easel))]) :
    ∀ (fu : Nat) (l1 : Int32) (l2 : Int32), lq2 (f_X2_freeEasels_6 s_painters s_easel) fu l1 l2 = some r → V x 0 0 [(a0, .inr (2, [.int s_face, .int s_lamp, .int s_stove, .int s_pose, .int s_rule, .int s_painters, .ref a_kind, .ref a_number, .ref a_easel, .ref a_had, .ref a_pleased])), (a_easel, .inl (vxT x 0, 6, .inl s_easel))] [(0, .ref a0), (1, .int l1), (2, .int l2)] 6 [] := by
  refine lq2_V (G := fun l1 l2 => V x 0 0 [(a0, .inr (2, [.int s_face, .int s_lamp, .int s_stove, .int s_pose, .int s_rule, .int s_painters, .ref a_kind, .ref a_number, .ref a_easel, .ref a_had, .ref a_pleased])), (a_easel, .inl (vxT x 0, 6, .inl s_easel))] [(0, .ref a0), (1, .int l1), (2, .int l2)] 6 []) ?_
  intro kp_6 hk_6 l1 l2 hf
  unfold f_X2_freeEasels_6 at hf
  refine v_iload_n X 2 rfl dX2_freeEasels_6 ?_
  refine v_aload_n X 0 rfl dX2_freeEasels_7 ?_
  refine v_get X xinX2 0 rfl rfl 5 (by decide) wd5 rfl rfl dX2_freeEasels_8 ?_
  refine v_icmp_ge X (tgt := 33) hf (by decide) dX2_freeEasels_11 (fun c11 hf => ?_) (fun c11 hf => ?_)
  · refine v_iload_n X 1 rfl dX2_freeEasels_33 ?_
    obtain rfl := Option.some.inj hf
    exact v_iret hR dX2_freeEasels_34
  · refine v_iload_n X 1 rfl dX2_freeEasels_14 ?_
    refine v_iconst X (v := 1) (by decide) dX2_freeEasels_15 ?_
    refine v_aload_n X 0 rfl dX2_freeEasels_16 ?_
    refine v_get X xinX2 0 rfl rfl 8 (by decide) wd8 rfl rfl dX2_freeEasels_17 ?_
    refine v_iload_n X 2 rfl dX2_freeEasels_20 ?_
    refine v_iald X 1 rfl hf dX2_freeEasels_21 (fun h21 hf => ?_)
    refine v_ishl X dX2_freeEasels_22 ?_
    refine v_iconst X (v := (-1)) (by decide) dX2_freeEasels_23 ?_
    refine v_ixor X dX2_freeEasels_24 ?_
    refine v_iand X dX2_freeEasels_25 ?_
    refine v_istore_n X rfl (by rw [hN]; decide) (lv' := [(1, .int (l1 &&& ((1 <<< ((s_easel (Int32.toNatClampNeg l2)) &&& 31)) ^^^ (-1)))), (0, .ref a0), (2, .int l2)]) rfl dX2_freeEasels_26 ?_
    refine v_iinc X 2 rfl (v := (l2 + 1)) rfl (by rw [hN]; decide) (lv' := [(2, .int (l2 + 1)), (1, .int (l1 &&& ((1 <<< ((s_easel (Int32.toNatClampNeg l2)) &&& 31)) ^^^ (-1)))), (0, .ref a0)]) rfl dX2_freeEasels_27 ?_
    refine v_goto X (tgt := 6) (by decide) dX2_freeEasels_30 ?_
    refine v_lv [2, 1, 0] rfl ?_
    exact hk_6 _ _ hf
set_option maxRecDepth 100000 in
set_option maxHeartbeats 4000000 in
theorem t_X2_freeEasels {x : VX} {r : Int32} {a0 : Nat} {a_easel : Nat} {a_kind : Nat} {a_number : Nat} {a_had : Nat} {a_pleased : Nat} {s_face : Int32} {s_lamp : Int32} {s_stove : Int32} {s_pose : Int32} {s_rule : Int32} {s_painters : Int32} {s_easel : Nat → Int32} (X : Cx x cX2_freeEasels RX2 1) (hN : vxn x = 3) (hR : RetI x cX2_freeEasels 0 0 r [(a0, .inr (2, [.int s_face, .int s_lamp, .int s_stove, .int s_pose, .int s_rule, .int s_painters, .ref a_kind, .ref a_number, .ref a_easel, .ref a_had, .ref a_pleased])), (a_easel, .inl (vxT x 0, 6, .inl s_easel))]) (hf : f_X2_freeEasels s_painters s_easel = some r) : V x 0 0 [(a0, .inr (2, [.int s_face, .int s_lamp, .int s_stove, .int s_pose, .int s_rule, .int s_painters, .ref a_kind, .ref a_number, .ref a_easel, .ref a_had, .ref a_pleased])), (a_easel, .inl (vxT x 0, 6, .inl s_easel))] [(0, .ref a0)] 0 [] := by
  unfold f_X2_freeEasels at hf
  refine v_sipush X (v := 2047) (by decide) dX2_freeEasels_0 ?_
  refine v_istore_n X rfl (by rw [hN]; decide) (lv' := [(1, .int 2047), (0, .ref a0)]) rfl dX2_freeEasels_3 ?_
  refine v_iconst X (v := 0) (by decide) dX2_freeEasels_4 ?_
  refine v_istore_n X rfl (by rw [hN]; decide) (lv' := [(2, .int 0), (1, .int 2047), (0, .ref a0)]) rfl dX2_freeEasels_5 ?_
  refine v_lv [2, 1, 0] rfl ?_
  exact t_X2_freeEasels_6 X hN hR 200 _ _ hf
set_option maxRecDepth 100000 in
set_option maxHeartbeats 4000000 in
theorem c_X2_freeEasels {l : Launch} {D : va_G} {qT : Nat → ClassId} {Z : (Nat → Prop) → State → Heap → Prop} {r : Int32} {a0 : Nat} {a_easel : Nat} {a_kind : Nat} {a_number : Nat} {a_had : Nat} {a_pleased : Nat} {s_face : Int32} {s_lamp : Int32} {s_stove : Int32} {s_pose : Int32} {s_rule : Int32} {s_painters : Int32} {s_easel : Nat → Int32} (hZ : ZOK Z) (hf : f_X2_freeEasels s_painters s_easel = some r) :
    CI l D qT Z yX2_freeEasels cX2_freeEasels 3 (some .int) 1 0 0 [.ref a0] [(a0, .inr (2, [.int s_face, .int s_lamp, .int s_stove, .int s_pose, .int s_rule, .int s_painters, .ref a_kind, .ref a_number, .ref a_easel, .ref a_had, .ref a_pleased])), (a_easel, .inl (qT 0, 6, .inl s_easel))] r [(a0, .inr (2, [.int s_face, .int s_lamp, .int s_stove, .int s_pose, .int s_rule, .int s_painters, .ref a_kind, .ref a_number, .ref a_easel, .ref a_had, .ref a_pleased])), (a_easel, .inl (qT 0, 6, .inl s_easel))] := by
  refine CI_of hZ (by decide) (Nat.le_of_ble_eq_true rfl) ?_
  intro x e1 e2 e3 e4 e5 e6 hin X hR
  subst e1 e2 e3 e4
  exact t_X2_freeEasels X e6 hR hf
def f_X2_isFree (l1 : Int32) (s_painters : Int32) (s_easel : Nat → Int32) : Option (Int32) :=
  (f_X6_isEasel l1).bind (fun v1_1 =>
  if v1_1 = 0 then (
  some 0) else (
  (f_X2_freeEasels s_painters s_easel).bind (fun v8_2 =>
  if ((v8_2 >>> (l1 &&& 31)) &&& 1) = 1 then (
  some 1) else (
  some 0))))
set_option maxRecDepth 100000 in
set_option maxHeartbeats 4000000 in
theorem t_X2_isFree {x : VX} {r : Int32} {a0 : Nat} {a_easel : Nat} {a_kind : Nat} {a_number : Nat} {a_had : Nat} {a_pleased : Nat} {s_face : Int32} {s_lamp : Int32} {s_stove : Int32} {s_pose : Int32} {s_rule : Int32} {s_painters : Int32} {s_easel : Nat → Int32} {l1 : Int32} (X : Cx x cX2_isFree RX2 2) (hN : vxn x = 2) (hR : narrow .boolean (.int r) = .int r → RetI x cX2_isFree 0 0 r [(a0, .inr (2, [.int s_face, .int s_lamp, .int s_stove, .int s_pose, .int s_rule, .int s_painters, .ref a_kind, .ref a_number, .ref a_easel, .ref a_had, .ref a_pleased])), (a_easel, .inl (vxT x 0, 6, .inl s_easel))]) (hf : f_X2_isFree l1 s_painters s_easel = some r) : V x 0 0 [(a0, .inr (2, [.int s_face, .int s_lamp, .int s_stove, .int s_pose, .int s_rule, .int s_painters, .ref a_kind, .ref a_number, .ref a_easel, .ref a_had, .ref a_pleased])), (a_easel, .inl (vxT x 0, 6, .inl s_easel))] [(0, .ref a0), (1, .int l1)] 0 [] := by
  unfold f_X2_isFree at hf
  refine v_iload_n X 1 rfl dX2_isFree_0 ?_
  obtain ⟨v1_1, hv1_1, hf⟩ := bd_some hf
  refine v_ncallI X (c_X6_isEasel X.2.2.2.2.2.2.2.1 hv1_1) cwn_X2_52 rfl (by decide) ⟨Nat.zero_le _, Nat.zero_le _⟩ [] [0, 1] [0, 1] rfl (by decide) (wr := [(a0, .inr (2, [.int s_face, .int s_lamp, .int s_stove, .int s_pose, .int s_rule, .int s_painters, .ref a_kind, .ref a_number, .ref a_easel, .ref a_had, .ref a_pleased])), (a_easel, .inl (vxT x 0, 6, .inl s_easel))]) rfl (by decide) (by decide) (ws2 := [(a0, .inr (2, [.int s_face, .int s_lamp, .int s_stove, .int s_pose, .int s_rule, .int s_painters, .ref a_kind, .ref a_number, .ref a_easel, .ref a_had, .ref a_pleased])), (a_easel, .inl (vxT x 0, 6, .inl s_easel))]) rfl (by decide) (Nat.le_of_ble_eq_true rfl) rfl dX2_isFree_1 ?_
  refine v_if_eq X (tgt := 23) hf (by decide) dX2_isFree_4 (fun c4 hf => ?_) (fun c4 hf => ?_)
  · refine v_iconst X (v := 0) (by decide) dX2_isFree_23 ?_
    obtain rfl := Option.some.inj hf
    exact v_iret (hR nz0) dX2_isFree_24
  · refine v_aload_n X 0 rfl dX2_isFree_7 ?_
    obtain ⟨v8_2, hv8_2, hf⟩ := bd_some hf
    refine v_callI X (c_X2_freeEasels X.2.2.2.2.2.2.2.1 hv8_2) cwv_X2_56 rfl (by decide) ⟨Nat.zero_le _, Nat.zero_le _⟩ 0 rfl rfl [0, 1] [] [0, 1] rfl (by decide) (wr := []) rfl (by decide) (by decide) (ws2 := [(a0, .inr (2, [.int s_face, .int s_lamp, .int s_stove, .int s_pose, .int s_rule, .int s_painters, .ref a_kind, .ref a_number, .ref a_easel, .ref a_had, .ref a_pleased])), (a_easel, .inl (vxT x 0, 6, .inl s_easel))]) rfl (by decide) (Nat.le_of_ble_eq_true rfl) rfl dX2_isFree_8 ?_
    refine v_iload_n X 1 rfl dX2_isFree_11 ?_
    refine v_ishr X dX2_isFree_12 ?_
    refine v_iconst X (v := 1) (by decide) dX2_isFree_13 ?_
    refine v_iand X dX2_isFree_14 ?_
    refine v_iconst X (v := 1) (by decide) dX2_isFree_15 ?_
    refine v_icmp_ne X (tgt := 23) hf (by decide) dX2_isFree_16 (fun c16 hf => ?_) (fun c16 hf => ?_)
    · refine v_iconst X (v := 0) (by decide) dX2_isFree_23 ?_
      obtain rfl := Option.some.inj hf
      exact v_iret (hR nz0) dX2_isFree_24
    · refine v_iconst X (v := 1) (by decide) dX2_isFree_19 ?_
      refine v_goto X (tgt := 24) (by decide) dX2_isFree_20 ?_
      obtain rfl := Option.some.inj hf
      exact v_iret (hR nz1) dX2_isFree_24
set_option maxRecDepth 100000 in
set_option maxHeartbeats 4000000 in
theorem c_X2_isFree {l : Launch} {D : va_G} {qT : Nat → ClassId} {Z : (Nat → Prop) → State → Heap → Prop} {r : Int32} {a0 : Nat} {a_easel : Nat} {a_kind : Nat} {a_number : Nat} {a_had : Nat} {a_pleased : Nat} {s_face : Int32} {s_lamp : Int32} {s_stove : Int32} {s_pose : Int32} {s_rule : Int32} {s_painters : Int32} {s_easel : Nat → Int32} {l1 : Int32} (hZ : ZOK Z) (hf : f_X2_isFree l1 s_painters s_easel = some r) :
    CI l D qT Z yX2_isFree cX2_isFree 2 (some .boolean) 2 0 0 [.ref a0, .int l1] [(a0, .inr (2, [.int s_face, .int s_lamp, .int s_stove, .int s_pose, .int s_rule, .int s_painters, .ref a_kind, .ref a_number, .ref a_easel, .ref a_had, .ref a_pleased])), (a_easel, .inl (qT 0, 6, .inl s_easel))] r [(a0, .inr (2, [.int s_face, .int s_lamp, .int s_stove, .int s_pose, .int s_rule, .int s_painters, .ref a_kind, .ref a_number, .ref a_easel, .ref a_had, .ref a_pleased])), (a_easel, .inl (qT 0, 6, .inl s_easel))] := by
  refine CZ_of hZ (by decide) (Nat.le_of_ble_eq_true rfl) ?_
  intro x e1 e2 e3 e4 e5 e6 hin X hR
  subst e1 e2 e3 e4
  exact t_X2_isFree X e6 hR hf
def f_X2_maySitAt (l1 : Int32) (l2 : Int32) (s_painters : Int32) (s_easel : Nat → Int32) : Option (Int32) :=
  if inb l1 6 = true then (
  if (s_easel (Int32.toNatClampNeg l1)) = l2 then (
  some 1) else (
  (f_X2_isFree l2 s_painters s_easel).bind (fun v12_1 =>
  if v12_1 = 0 then (
  some 0) else (
  some 1)))) else none
set_option maxRecDepth 100000 in
set_option maxHeartbeats 4000000 in
theorem t_X2_maySitAt {x : VX} {r : Int32} {a0 : Nat} {a_easel : Nat} {a_kind : Nat} {a_number : Nat} {a_had : Nat} {a_pleased : Nat} {s_face : Int32} {s_lamp : Int32} {s_stove : Int32} {s_pose : Int32} {s_rule : Int32} {s_painters : Int32} {s_easel : Nat → Int32} {l1 : Int32} {l2 : Int32} (X : Cx x cX2_maySitAt RX2 3) (hN : vxn x = 3) (hR : narrow .boolean (.int r) = .int r → RetI x cX2_maySitAt 0 0 r [(a0, .inr (2, [.int s_face, .int s_lamp, .int s_stove, .int s_pose, .int s_rule, .int s_painters, .ref a_kind, .ref a_number, .ref a_easel, .ref a_had, .ref a_pleased])), (a_easel, .inl (vxT x 0, 6, .inl s_easel))]) (hf : f_X2_maySitAt l1 l2 s_painters s_easel = some r) : V x 0 0 [(a0, .inr (2, [.int s_face, .int s_lamp, .int s_stove, .int s_pose, .int s_rule, .int s_painters, .ref a_kind, .ref a_number, .ref a_easel, .ref a_had, .ref a_pleased])), (a_easel, .inl (vxT x 0, 6, .inl s_easel))] [(0, .ref a0), (1, .int l1), (2, .int l2)] 0 [] := by
  unfold f_X2_maySitAt at hf
  refine v_aload_n X 0 rfl dX2_maySitAt_0 ?_
  refine v_get X xinX2 0 rfl rfl 8 (by decide) wd8 rfl rfl dX2_maySitAt_1 ?_
  refine v_iload_n X 1 rfl dX2_maySitAt_4 ?_
  refine v_iald X 1 rfl hf dX2_maySitAt_5 (fun h5 hf => ?_)
  refine v_iload_n X 2 rfl dX2_maySitAt_6 ?_
  refine v_icmp_eq X (tgt := 18) hf (by decide) dX2_maySitAt_7 (fun c7 hf => ?_) (fun c7 hf => ?_)
  · refine v_iconst X (v := 1) (by decide) dX2_maySitAt_18 ?_
    refine v_goto X (tgt := 23) (by decide) dX2_maySitAt_19 ?_
    obtain rfl := Option.some.inj hf
    exact v_iret (hR nz1) dX2_maySitAt_23
  · refine v_aload_n X 0 rfl dX2_maySitAt_10 ?_
    refine v_iload_n X 2 rfl dX2_maySitAt_11 ?_
    obtain ⟨v12_1, hv12_1, hf⟩ := bd_some hf
    refine v_callI X (c_X2_isFree X.2.2.2.2.2.2.2.1 hv12_1) cwv_X2_60 rfl (by decide) ⟨Nat.zero_le _, Nat.zero_le _⟩ 0 rfl rfl [0, 1] [] [0, 1] rfl (by decide) (wr := []) rfl (by decide) (by decide) (ws2 := [(a0, .inr (2, [.int s_face, .int s_lamp, .int s_stove, .int s_pose, .int s_rule, .int s_painters, .ref a_kind, .ref a_number, .ref a_easel, .ref a_had, .ref a_pleased])), (a_easel, .inl (vxT x 0, 6, .inl s_easel))]) rfl (by decide) (Nat.le_of_ble_eq_true rfl) rfl dX2_maySitAt_12 ?_
    refine v_if_eq X (tgt := 22) hf (by decide) dX2_maySitAt_15 (fun c15 hf => ?_) (fun c15 hf => ?_)
    · refine v_iconst X (v := 0) (by decide) dX2_maySitAt_22 ?_
      obtain rfl := Option.some.inj hf
      exact v_iret (hR nz0) dX2_maySitAt_23
    · refine v_iconst X (v := 1) (by decide) dX2_maySitAt_18 ?_
      refine v_goto X (tgt := 23) (by decide) dX2_maySitAt_19 ?_
      obtain rfl := Option.some.inj hf
      exact v_iret (hR nz1) dX2_maySitAt_23
set_option maxRecDepth 100000 in
set_option maxHeartbeats 4000000 in
theorem c_X2_maySitAt {l : Launch} {D : va_G} {qT : Nat → ClassId} {Z : (Nat → Prop) → State → Heap → Prop} {r : Int32} {a0 : Nat} {a_easel : Nat} {a_kind : Nat} {a_number : Nat} {a_had : Nat} {a_pleased : Nat} {s_face : Int32} {s_lamp : Int32} {s_stove : Int32} {s_pose : Int32} {s_rule : Int32} {s_painters : Int32} {s_easel : Nat → Int32} {l1 : Int32} {l2 : Int32} (hZ : ZOK Z) (hf : f_X2_maySitAt l1 l2 s_painters s_easel = some r) :
    CI l D qT Z yX2_maySitAt cX2_maySitAt 3 (some .boolean) 3 0 0 [.ref a0, .int l1, .int l2] [(a0, .inr (2, [.int s_face, .int s_lamp, .int s_stove, .int s_pose, .int s_rule, .int s_painters, .ref a_kind, .ref a_number, .ref a_easel, .ref a_had, .ref a_pleased])), (a_easel, .inl (qT 0, 6, .inl s_easel))] r [(a0, .inr (2, [.int s_face, .int s_lamp, .int s_stove, .int s_pose, .int s_rule, .int s_painters, .ref a_kind, .ref a_number, .ref a_easel, .ref a_had, .ref a_pleased])), (a_easel, .inl (qT 0, 6, .inl s_easel))] := by
  refine CZ_of hZ (by decide) (Nat.le_of_ble_eq_true rfl) ?_
  intro x e1 e2 e3 e4 e5 e6 hin X hR
  subst e1 e2 e3 e4
  exact t_X2_maySitAt X e6 hR hf
def f_X2_sideOf (l1 : Int32) (s_face : Int32) (s_easel : Nat → Int32) : Option (Int32) :=
  if inb l1 6 = true then (
  some ((((s_easel (Int32.toNatClampNeg l1)) - s_face) + 11) - (((s_easel (Int32.toNatClampNeg l1)) - s_face) + 11) / 11 * 11)) else none
set_option maxRecDepth 100000 in
set_option maxHeartbeats 4000000 in
theorem t_X2_sideOf {x : VX} {r : Int32} {a0 : Nat} {a_easel : Nat} {a_kind : Nat} {a_number : Nat} {a_had : Nat} {a_pleased : Nat} {s_face : Int32} {s_lamp : Int32} {s_stove : Int32} {s_pose : Int32} {s_rule : Int32} {s_painters : Int32} {s_easel : Nat → Int32} {l1 : Int32} (X : Cx x cX2_sideOf RX2 1) (hN : vxn x = 2) (hR : RetI x cX2_sideOf 0 0 r [(a0, .inr (2, [.int s_face, .int s_lamp, .int s_stove, .int s_pose, .int s_rule, .int s_painters, .ref a_kind, .ref a_number, .ref a_easel, .ref a_had, .ref a_pleased])), (a_easel, .inl (vxT x 0, 6, .inl s_easel))]) (hf : f_X2_sideOf l1 s_face s_easel = some r) : V x 0 0 [(a0, .inr (2, [.int s_face, .int s_lamp, .int s_stove, .int s_pose, .int s_rule, .int s_painters, .ref a_kind, .ref a_number, .ref a_easel, .ref a_had, .ref a_pleased])), (a_easel, .inl (vxT x 0, 6, .inl s_easel))] [(0, .ref a0), (1, .int l1)] 0 [] := by
  unfold f_X2_sideOf at hf
  refine v_aload_n X 0 rfl dX2_sideOf_0 ?_
  refine v_get X xinX2 0 rfl rfl 8 (by decide) wd8 rfl rfl dX2_sideOf_1 ?_
  refine v_iload_n X 1 rfl dX2_sideOf_4 ?_
  refine v_iald X 1 rfl hf dX2_sideOf_5 (fun h5 hf => ?_)
  refine v_aload_n X 0 rfl dX2_sideOf_6 ?_
  refine v_get X xinX2 0 rfl rfl 0 (by decide) wd23 rfl rfl dX2_sideOf_7 ?_
  refine v_isub X dX2_sideOf_10 ?_
  refine v_bipush X (v := 11) (by decide) dX2_sideOf_11 ?_
  refine v_iadd X dX2_sideOf_13 ?_
  refine v_bipush X (v := 11) (by decide) dX2_sideOf_14 ?_
  refine v_irem X (by decide) dX2_sideOf_16 ?_
  obtain rfl := Option.some.inj hf
  exact v_iret hR dX2_sideOf_17
set_option maxRecDepth 100000 in
set_option maxHeartbeats 4000000 in
theorem c_X2_sideOf {l : Launch} {D : va_G} {qT : Nat → ClassId} {Z : (Nat → Prop) → State → Heap → Prop} {r : Int32} {a0 : Nat} {a_easel : Nat} {a_kind : Nat} {a_number : Nat} {a_had : Nat} {a_pleased : Nat} {s_face : Int32} {s_lamp : Int32} {s_stove : Int32} {s_pose : Int32} {s_rule : Int32} {s_painters : Int32} {s_easel : Nat → Int32} {l1 : Int32} (hZ : ZOK Z) (hf : f_X2_sideOf l1 s_face s_easel = some r) :
    CI l D qT Z yX2_sideOf cX2_sideOf 2 (some .int) 1 0 0 [.ref a0, .int l1] [(a0, .inr (2, [.int s_face, .int s_lamp, .int s_stove, .int s_pose, .int s_rule, .int s_painters, .ref a_kind, .ref a_number, .ref a_easel, .ref a_had, .ref a_pleased])), (a_easel, .inl (qT 0, 6, .inl s_easel))] r [(a0, .inr (2, [.int s_face, .int s_lamp, .int s_stove, .int s_pose, .int s_rule, .int s_painters, .ref a_kind, .ref a_number, .ref a_easel, .ref a_had, .ref a_pleased])), (a_easel, .inl (qT 0, 6, .inl s_easel))] := by
  refine CI_of hZ (by decide) (Nat.le_of_ble_eq_true rfl) ?_
  intro x e1 e2 e3 e4 e5 e6 hin X hR
  subst e1 e2 e3 e4
  exact t_X2_sideOf X e6 hR hf
def f_X2_awayOf (l0 : Int32) (l1 : Int32) : Option (Int32) :=
  some (if (11 - (if 0 ≤ (l0 - l1) then (l0 - l1) else 0 - (l0 - l1))) < (if 0 ≤ (l0 - l1) then (l0 - l1) else 0 - (l0 - l1)) then (11 - (if 0 ≤ (l0 - l1) then (l0 - l1) else 0 - (l0 - l1))) else (if 0 ≤ (l0 - l1) then (l0 - l1) else 0 - (l0 - l1)))
set_option maxRecDepth 100000 in
set_option maxHeartbeats 4000000 in
theorem t_X2_awayOf {x : VX} {r : Int32} {l0 : Int32} {l1 : Int32} (X : Cx x cX2_awayOf RX2 1) (hN : vxn x = 3) (hR : RetI x cX2_awayOf 0 0 r []) (hf : f_X2_awayOf l0 l1 = some r) : V x 0 0 [] [(0, .int l0), (1, .int l1)] 0 [] := by
  unfold f_X2_awayOf at hf
  refine v_iload_n X 0 rfl dX2_awayOf_0 ?_
  refine v_iload_n X 1 rfl dX2_awayOf_1 ?_
  refine v_isub X dX2_awayOf_2 ?_
  refine v_mabs X wd24 (by decide) (Nat.le_of_ble_eq_true rfl) dX2_awayOf_3 ?_
  refine v_istore_n X rfl (by rw [hN]; decide) (lv' := [(2, .int (if 0 ≤ (l0 - l1) then (l0 - l1) else 0 - (l0 - l1))), (0, .int l0), (1, .int l1)]) rfl dX2_awayOf_6 ?_
  refine v_iload_n X 0 rfl dX2_awayOf_7 ?_
  refine v_bipush X (v := 11) (by decide) dX2_awayOf_8 ?_
  refine v_iload_n X 0 rfl dX2_awayOf_10 ?_
  refine v_isub X dX2_awayOf_11 ?_
  refine v_mmin X wd25 (by decide) (Nat.le_of_ble_eq_true rfl) dX2_awayOf_12 ?_
  obtain rfl := Option.some.inj hf
  exact v_iret hR dX2_awayOf_15
set_option maxRecDepth 100000 in
set_option maxHeartbeats 4000000 in
theorem c_X2_awayOf {l : Launch} {D : va_G} {qT : Nat → ClassId} {Z : (Nat → Prop) → State → Heap → Prop} {r : Int32} {l0 : Int32} {l1 : Int32} (hZ : ZOK Z) (hf : f_X2_awayOf l0 l1 = some r) :
    CI l D qT Z yX2_awayOf cX2_awayOf 3 (some .int) 1 0 0 [.int l0, .int l1] [] r [] := by
  refine CI_of hZ (by decide) (Nat.le_of_ble_eq_true rfl) ?_
  intro x e1 e2 e3 e4 e5 e6 hin X hR
  subst e1 e2 e3 e4
  exact t_X2_awayOf X e6 hR hf
def f_X2_nearOf_4 (s_painters : Int32) (s_easel : Nat → Int32) (l1 : Int32) (kp_4 : Int32 → Int32 → Option (Int32)) (l2 : Int32) (l3 : Int32) : Option (Int32) :=
  if s_painters ≤ l3 then (
  some l2) else (
  if inb l1 6 = true then (
  if inb l3 6 = true then (
  (f_X2_awayOf (s_easel (Int32.toNatClampNeg l1)) (s_easel (Int32.toNatClampNeg l3))).bind (fun v24_1 =>
  if v24_1 = 1 then (
  kp_4 (l2 + 1) (l3 + 1)) else (
  kp_4 l2 (l3 + 1)))) else none) else none)
def f_X2_nearOf (l1 : Int32) (s_painters : Int32) (s_easel : Nat → Int32) : Option (Int32) :=
  lq2 (f_X2_nearOf_4 s_painters s_easel l1) 200 0 0
set_option maxRecDepth 100000 in
set_option maxHeartbeats 4000000 in
theorem t_X2_nearOf_4 {x : VX} {r : Int32} {a0 : Nat} {a_easel : Nat} {a_kind : Nat} {a_number : Nat} {a_had : Nat} {a_pleased : Nat} {s_face : Int32} {s_lamp : Int32} {s_stove : Int32} {s_pose : Int32} {s_rule : Int32} {s_painters : Int32} {s_easel : Nat → Int32} {l1 : Int32} (X : Cx x cX2_nearOf RX2 2) (hN : vxn x = 4) (hR : RetI x cX2_nearOf 0 0 r [(a0, .inr (2, [.int s_face, .int s_lamp, .int s_stove, .int s_pose, .int s_rule, .int s_painters, .ref a_kind, .ref a_number, .ref a_easel, .ref a_had, .ref a_pleased])), (a_easel, .inl (vxT x 0, 6, .inl s_easel))]) :
    ∀ (fu : Nat) (l2 : Int32) (l3 : Int32), lq2 (f_X2_nearOf_4 s_painters s_easel l1) fu l2 l3 = some r → V x 0 0 [(a0, .inr (2, [.int s_face, .int s_lamp, .int s_stove, .int s_pose, .int s_rule, .int s_painters, .ref a_kind, .ref a_number, .ref a_easel, .ref a_had, .ref a_pleased])), (a_easel, .inl (vxT x 0, 6, .inl s_easel))] [(0, .ref a0), (1, .int l1), (2, .int l2), (3, .int l3)] 4 [] := by
  refine lq2_V (G := fun l2 l3 => V x 0 0 [(a0, .inr (2, [.int s_face, .int s_lamp, .int s_stove, .int s_pose, .int s_rule, .int s_painters, .ref a_kind, .ref a_number, .ref a_easel, .ref a_had, .ref a_pleased])), (a_easel, .inl (vxT x 0, 6, .inl s_easel))] [(0, .ref a0), (1, .int l1), (2, .int l2), (3, .int l3)] 4 []) ?_
  intro kp_4 hk_4 l2 l3 hf
  unfold f_X2_nearOf_4 at hf
  refine v_iload_n X 3 rfl dX2_nearOf_4 ?_
  refine v_aload_n X 0 rfl dX2_nearOf_5 ?_
  refine v_get X xinX2 0 rfl rfl 5 (by decide) wd5 rfl rfl dX2_nearOf_6 ?_
  refine v_icmp_ge X (tgt := 40) hf (by decide) dX2_nearOf_9 (fun c9 hf => ?_) (fun c9 hf => ?_)
  · refine v_iload_n X 2 rfl dX2_nearOf_40 ?_
    obtain rfl := Option.some.inj hf
    exact v_iret hR dX2_nearOf_41
  · refine v_aload_n X 0 rfl dX2_nearOf_12 ?_
    refine v_get X xinX2 0 rfl rfl 8 (by decide) wd8 rfl rfl dX2_nearOf_13 ?_
    refine v_iload_n X 1 rfl dX2_nearOf_16 ?_
    refine v_iald X 1 rfl hf dX2_nearOf_17 (fun h17 hf => ?_)
    refine v_aload_n X 0 rfl dX2_nearOf_18 ?_
    refine v_get X xinX2 0 rfl rfl 8 (by decide) wd8 rfl rfl dX2_nearOf_19 ?_
    refine v_iload_n X 3 rfl dX2_nearOf_22 ?_
    refine v_iald X 1 rfl hf dX2_nearOf_23 (fun h23 hf => ?_)
    obtain ⟨v24_1, hv24_1, hf⟩ := bd_some hf
    refine v_scallI X (c_X2_awayOf X.2.2.2.2.2.2.2.1 hv24_1) cws_X2_63 rfl (by decide) ⟨Nat.zero_le _, Nat.zero_le _⟩ [] [0, 1] [0, 1] rfl (by decide) (wr := [(a0, .inr (2, [.int s_face, .int s_lamp, .int s_stove, .int s_pose, .int s_rule, .int s_painters, .ref a_kind, .ref a_number, .ref a_easel, .ref a_had, .ref a_pleased])), (a_easel, .inl (vxT x 0, 6, .inl s_easel))]) rfl (by decide) (by decide) (ws2 := [(a0, .inr (2, [.int s_face, .int s_lamp, .int s_stove, .int s_pose, .int s_rule, .int s_painters, .ref a_kind, .ref a_number, .ref a_easel, .ref a_had, .ref a_pleased])), (a_easel, .inl (vxT x 0, 6, .inl s_easel))]) rfl (by decide) (Nat.le_of_ble_eq_true rfl) rfl dX2_nearOf_24 ?_
    refine v_iconst X (v := 1) (by decide) dX2_nearOf_27 ?_
    refine v_icmp_ne X (tgt := 34) hf (by decide) dX2_nearOf_28 (fun c28 hf => ?_) (fun c28 hf => ?_)
    · refine v_iinc X 3 rfl (v := (l3 + 1)) rfl (by rw [hN]; decide) (lv' := [(3, .int (l3 + 1)), (0, .ref a0), (1, .int l1), (2, .int l2)]) rfl dX2_nearOf_34 ?_
      refine v_goto X (tgt := 4) (by decide) dX2_nearOf_37 ?_
      refine v_lv [1, 2, 3, 0] rfl ?_
      exact hk_4 _ _ hf
    · refine v_iinc X 2 rfl (v := (l2 + 1)) rfl (by rw [hN]; decide) (lv' := [(2, .int (l2 + 1)), (0, .ref a0), (1, .int l1), (3, .int l3)]) rfl dX2_nearOf_31 ?_
      refine v_iinc X 3 rfl (v := (l3 + 1)) rfl (by rw [hN]; decide) (lv' := [(3, .int (l3 + 1)), (2, .int (l2 + 1)), (0, .ref a0), (1, .int l1)]) rfl dX2_nearOf_34 ?_
      refine v_goto X (tgt := 4) (by decide) dX2_nearOf_37 ?_
      refine v_lv [2, 3, 1, 0] rfl ?_
      exact hk_4 _ _ hf
set_option maxRecDepth 100000 in
set_option maxHeartbeats 4000000 in
theorem t_X2_nearOf {x : VX} {r : Int32} {a0 : Nat} {a_easel : Nat} {a_kind : Nat} {a_number : Nat} {a_had : Nat} {a_pleased : Nat} {s_face : Int32} {s_lamp : Int32} {s_stove : Int32} {s_pose : Int32} {s_rule : Int32} {s_painters : Int32} {s_easel : Nat → Int32} {l1 : Int32} (X : Cx x cX2_nearOf RX2 2) (hN : vxn x = 4) (hR : RetI x cX2_nearOf 0 0 r [(a0, .inr (2, [.int s_face, .int s_lamp, .int s_stove, .int s_pose, .int s_rule, .int s_painters, .ref a_kind, .ref a_number, .ref a_easel, .ref a_had, .ref a_pleased])), (a_easel, .inl (vxT x 0, 6, .inl s_easel))]) (hf : f_X2_nearOf l1 s_painters s_easel = some r) : V x 0 0 [(a0, .inr (2, [.int s_face, .int s_lamp, .int s_stove, .int s_pose, .int s_rule, .int s_painters, .ref a_kind, .ref a_number, .ref a_easel, .ref a_had, .ref a_pleased])), (a_easel, .inl (vxT x 0, 6, .inl s_easel))] [(0, .ref a0), (1, .int l1)] 0 [] := by
  unfold f_X2_nearOf at hf
  refine v_iconst X (v := 0) (by decide) dX2_nearOf_0 ?_
  refine v_istore_n X rfl (by rw [hN]; decide) (lv' := [(2, .int 0), (0, .ref a0), (1, .int l1)]) rfl dX2_nearOf_1 ?_
  refine v_iconst X (v := 0) (by decide) dX2_nearOf_2 ?_
  refine v_istore_n X rfl (by rw [hN]; decide) (lv' := [(3, .int 0), (2, .int 0), (0, .ref a0), (1, .int l1)]) rfl dX2_nearOf_3 ?_
  refine v_lv [2, 3, 1, 0] rfl ?_
  exact t_X2_nearOf_4 X hN hR 200 _ _ hf
set_option maxRecDepth 100000 in
set_option maxHeartbeats 4000000 in
theorem c_X2_nearOf {l : Launch} {D : va_G} {qT : Nat → ClassId} {Z : (Nat → Prop) → State → Heap → Prop} {r : Int32} {a0 : Nat} {a_easel : Nat} {a_kind : Nat} {a_number : Nat} {a_had : Nat} {a_pleased : Nat} {s_face : Int32} {s_lamp : Int32} {s_stove : Int32} {s_pose : Int32} {s_rule : Int32} {s_painters : Int32} {s_easel : Nat → Int32} {l1 : Int32} (hZ : ZOK Z) (hf : f_X2_nearOf l1 s_painters s_easel = some r) :
    CI l D qT Z yX2_nearOf cX2_nearOf 4 (some .int) 2 0 0 [.ref a0, .int l1] [(a0, .inr (2, [.int s_face, .int s_lamp, .int s_stove, .int s_pose, .int s_rule, .int s_painters, .ref a_kind, .ref a_number, .ref a_easel, .ref a_had, .ref a_pleased])), (a_easel, .inl (qT 0, 6, .inl s_easel))] r [(a0, .inr (2, [.int s_face, .int s_lamp, .int s_stove, .int s_pose, .int s_rule, .int s_painters, .ref a_kind, .ref a_number, .ref a_easel, .ref a_had, .ref a_pleased])), (a_easel, .inl (qT 0, 6, .inl s_easel))] := by
  refine CI_of hZ (by decide) (Nat.le_of_ble_eq_true rfl) ?_
  intro x e1 e2 e3 e4 e5 e6 hin X hR
  subst e1 e2 e3 e4
  exact t_X2_nearOf X e6 hR hf
def f_X2_toldPlain (l1 : Int32) (l2 : Int32) (s_face : Int32) (s_lamp : Int32) (s_stove : Int32) (s_pose : Int32) (s_easel : Nat → Int32) (s_number : Nat → Int32) (s_kind : Nat → Int32) (s_had : Nat → Int32) (s_pleased : Nat → Int32) : Option (Int32) :=
  if l2 = 0 then (
  some s_face) else (
  if l2 = 1 then (
  some s_lamp) else (
  if l2 = 2 then (
  some s_stove) else (
  if l2 = 3 then (
  some s_pose) else (
  if l2 = 4 then (
  if inb l1 6 = true then (
  some (s_number (Int32.toNatClampNeg l1))) else none) else (
  if l2 = 5 then (
  if inb l1 6 = true then (
  some (s_easel (Int32.toNatClampNeg l1))) else none) else (
  if l2 = 6 then (
  if inb l1 6 = true then (
  some (s_kind (Int32.toNatClampNeg l1))) else none) else (
  if l2 = 7 then (
  if inb l1 6 = true then (
  some (s_had (Int32.toNatClampNeg l1))) else none) else (
  if l2 = 8 then (
  if inb l1 6 = true then (
  some (s_pleased (Int32.toNatClampNeg l1))) else none) else (
  (f_X2_sideOf l1 s_face s_easel).bind (fun v109_1 =>
  some v109_1))))))))))
set_option maxRecDepth 100000 in
set_option maxHeartbeats 4000000 in
theorem t_X2_toldPlain {x : VX} {r : Int32} {a0 : Nat} {a_easel : Nat} {a_number : Nat} {a_kind : Nat} {a_had : Nat} {a_pleased : Nat} {s_face : Int32} {s_lamp : Int32} {s_stove : Int32} {s_pose : Int32} {s_rule : Int32} {s_painters : Int32} {s_easel : Nat → Int32} {s_number : Nat → Int32} {s_kind : Nat → Int32} {s_had : Nat → Int32} {s_pleased : Nat → Int32} {l1 : Int32} {l2 : Int32} (X : Cx x cX2_toldPlain RX2 2) (hN : vxn x = 3) (hR : RetI x cX2_toldPlain 0 0 r [(a0, .inr (2, [.int s_face, .int s_lamp, .int s_stove, .int s_pose, .int s_rule, .int s_painters, .ref a_kind, .ref a_number, .ref a_easel, .ref a_had, .ref a_pleased])), (a_easel, .inl (vxT x 0, 6, .inl s_easel)), (a_number, .inl (vxT x 0, 6, .inl s_number)), (a_kind, .inl (vxT x 0, 6, .inl s_kind)), (a_had, .inl (vxT x 0, 6, .inl s_had)), (a_pleased, .inl (vxT x 0, 6, .inl s_pleased))]) (hf : f_X2_toldPlain l1 l2 s_face s_lamp s_stove s_pose s_easel s_number s_kind s_had s_pleased = some r) : V x 0 0 [(a0, .inr (2, [.int s_face, .int s_lamp, .int s_stove, .int s_pose, .int s_rule, .int s_painters, .ref a_kind, .ref a_number, .ref a_easel, .ref a_had, .ref a_pleased])), (a_easel, .inl (vxT x 0, 6, .inl s_easel)), (a_number, .inl (vxT x 0, 6, .inl s_number)), (a_kind, .inl (vxT x 0, 6, .inl s_kind)), (a_had, .inl (vxT x 0, 6, .inl s_had)), (a_pleased, .inl (vxT x 0, 6, .inl s_pleased))] [(0, .ref a0), (1, .int l1), (2, .int l2)] 0 [] := by
  unfold f_X2_toldPlain at hf
  refine v_iload_n X 2 rfl dX2_toldPlain_0 ?_
  rcases ite_some hf with ⟨e1, hf⟩ | ⟨e1_0, hf⟩
  · refine v_tab_in X (tgt := 52) (off := 51) (by rw [e1]; decide) (by rw [e1]; decide) (by rw [e1]; decide) (by decide) dX2_toldPlain_1 ?_
    refine v_aload_n X 0 rfl dX2_toldPlain_52 ?_
    refine v_get X xinX2 0 rfl rfl 0 (by decide) wd23 rfl rfl dX2_toldPlain_53 ?_
    obtain rfl := Option.some.inj hf
    exact v_iret hR dX2_toldPlain_56
  rcases ite_some hf with ⟨e1, hf⟩ | ⟨e1_1, hf⟩
  · refine v_tab_in X (tgt := 57) (off := 56) (by rw [e1]; decide) (by rw [e1]; decide) (by rw [e1]; decide) (by decide) dX2_toldPlain_1 ?_
    refine v_aload_n X 0 rfl dX2_toldPlain_57 ?_
    refine v_get X xinX2 0 rfl rfl 1 (by decide) wd33 rfl rfl dX2_toldPlain_58 ?_
    obtain rfl := Option.some.inj hf
    exact v_iret hR dX2_toldPlain_61
  rcases ite_some hf with ⟨e1, hf⟩ | ⟨e1_2, hf⟩
  · refine v_tab_in X (tgt := 62) (off := 61) (by rw [e1]; decide) (by rw [e1]; decide) (by rw [e1]; decide) (by decide) dX2_toldPlain_1 ?_
    refine v_aload_n X 0 rfl dX2_toldPlain_62 ?_
    refine v_get X xinX2 0 rfl rfl 2 (by decide) wd34 rfl rfl dX2_toldPlain_63 ?_
    obtain rfl := Option.some.inj hf
    exact v_iret hR dX2_toldPlain_66
  rcases ite_some hf with ⟨e1, hf⟩ | ⟨e1_3, hf⟩
  · refine v_tab_in X (tgt := 67) (off := 66) (by rw [e1]; decide) (by rw [e1]; decide) (by rw [e1]; decide) (by decide) dX2_toldPlain_1 ?_
    refine v_aload_n X 0 rfl dX2_toldPlain_67 ?_
    refine v_get X xinX2 0 rfl rfl 3 (by decide) wd35 rfl rfl dX2_toldPlain_68 ?_
    obtain rfl := Option.some.inj hf
    exact v_iret hR dX2_toldPlain_71
  rcases ite_some hf with ⟨e1, hf⟩ | ⟨e1_4, hf⟩
  · refine v_tab_in X (tgt := 72) (off := 71) (by rw [e1]; decide) (by rw [e1]; decide) (by rw [e1]; decide) (by decide) dX2_toldPlain_1 ?_
    refine v_aload_n X 0 rfl dX2_toldPlain_72 ?_
    refine v_get X xinX2 0 rfl rfl 7 (by decide) wd7 rfl rfl dX2_toldPlain_73 ?_
    refine v_iload_n X 1 rfl dX2_toldPlain_76 ?_
    refine v_iald X 2 rfl hf dX2_toldPlain_77 (fun h77 hf => ?_)
    obtain rfl := Option.some.inj hf
    exact v_iret hR dX2_toldPlain_78
  rcases ite_some hf with ⟨e1, hf⟩ | ⟨e1_5, hf⟩
  · refine v_tab_in X (tgt := 79) (off := 78) (by rw [e1]; decide) (by rw [e1]; decide) (by rw [e1]; decide) (by decide) dX2_toldPlain_1 ?_
    refine v_aload_n X 0 rfl dX2_toldPlain_79 ?_
    refine v_get X xinX2 0 rfl rfl 8 (by decide) wd8 rfl rfl dX2_toldPlain_80 ?_
    refine v_iload_n X 1 rfl dX2_toldPlain_83 ?_
    refine v_iald X 1 rfl hf dX2_toldPlain_84 (fun h84 hf => ?_)
    obtain rfl := Option.some.inj hf
    exact v_iret hR dX2_toldPlain_85
  rcases ite_some hf with ⟨e1, hf⟩ | ⟨e1_6, hf⟩
  · refine v_tab_in X (tgt := 86) (off := 85) (by rw [e1]; decide) (by rw [e1]; decide) (by rw [e1]; decide) (by decide) dX2_toldPlain_1 ?_
    refine v_aload_n X 0 rfl dX2_toldPlain_86 ?_
    refine v_get X xinX2 0 rfl rfl 6 (by decide) wd6 rfl rfl dX2_toldPlain_87 ?_
    refine v_iload_n X 1 rfl dX2_toldPlain_90 ?_
    refine v_iald X 3 rfl hf dX2_toldPlain_91 (fun h91 hf => ?_)
    obtain rfl := Option.some.inj hf
    exact v_iret hR dX2_toldPlain_92
  rcases ite_some hf with ⟨e1, hf⟩ | ⟨e1_7, hf⟩
  · refine v_tab_in X (tgt := 93) (off := 92) (by rw [e1]; decide) (by rw [e1]; decide) (by rw [e1]; decide) (by decide) dX2_toldPlain_1 ?_
    refine v_aload_n X 0 rfl dX2_toldPlain_93 ?_
    refine v_get X xinX2 0 rfl rfl 9 (by decide) wd9 rfl rfl dX2_toldPlain_94 ?_
    refine v_iload_n X 1 rfl dX2_toldPlain_97 ?_
    refine v_iald X 4 rfl hf dX2_toldPlain_98 (fun h98 hf => ?_)
    obtain rfl := Option.some.inj hf
    exact v_iret hR dX2_toldPlain_99
  rcases ite_some hf with ⟨e1, hf⟩ | ⟨e1_8, hf⟩
  · refine v_tab_in X (tgt := 100) (off := 99) (by rw [e1]; decide) (by rw [e1]; decide) (by rw [e1]; decide) (by decide) dX2_toldPlain_1 ?_
    refine v_aload_n X 0 rfl dX2_toldPlain_100 ?_
    refine v_get X xinX2 0 rfl rfl 10 (by decide) wd10 rfl rfl dX2_toldPlain_101 ?_
    refine v_iload_n X 1 rfl dX2_toldPlain_104 ?_
    refine v_iald X 5 rfl hf dX2_toldPlain_105 (fun h105 hf => ?_)
    obtain rfl := Option.some.inj hf
    exact v_iret hR dX2_toldPlain_106
  refine v_tab_out X (tgt := 107) (by have g0 := sw_ne (n := 0) e1_0 (by decide); have g1 := sw_ne (n := 1) e1_1 (by decide); have g2 := sw_ne (n := 2) e1_2 (by decide); have g3 := sw_ne (n := 3) e1_3 (by decide); have g4 := sw_ne (n := 4) e1_4 (by decide); have g5 := sw_ne (n := 5) e1_5 (by decide); have g6 := sw_ne (n := 6) e1_6 (by decide); have g7 := sw_ne (n := 7) e1_7 (by decide); have g8 := sw_ne (n := 8) e1_8 (by decide); omega) (by decide) dX2_toldPlain_1 ?_
  refine v_aload_n X 0 rfl dX2_toldPlain_107 ?_
  refine v_iload_n X 1 rfl dX2_toldPlain_108 ?_
  obtain ⟨v109_1, hv109_1, hf⟩ := bd_some hf
  refine v_callI X (c_X2_sideOf X.2.2.2.2.2.2.2.1 hv109_1) cwv_X2_76 rfl (by decide) ⟨Nat.zero_le _, Nat.zero_le _⟩ 0 rfl rfl [0, 1] [2, 3, 4, 5] [4, 5, 0, 1, 2, 3] rfl (by decide) (wr := [(a_number, .inl (vxT x 0, 6, .inl s_number)), (a_kind, .inl (vxT x 0, 6, .inl s_kind)), (a_had, .inl (vxT x 0, 6, .inl s_had)), (a_pleased, .inl (vxT x 0, 6, .inl s_pleased))]) rfl (by decide) (by decide) (ws2 := [(a0, .inr (2, [.int s_face, .int s_lamp, .int s_stove, .int s_pose, .int s_rule, .int s_painters, .ref a_kind, .ref a_number, .ref a_easel, .ref a_had, .ref a_pleased])), (a_easel, .inl (vxT x 0, 6, .inl s_easel)), (a_number, .inl (vxT x 0, 6, .inl s_number)), (a_kind, .inl (vxT x 0, 6, .inl s_kind)), (a_had, .inl (vxT x 0, 6, .inl s_had)), (a_pleased, .inl (vxT x 0, 6, .inl s_pleased))]) rfl (by decide) (Nat.le_of_ble_eq_true rfl) rfl dX2_toldPlain_109 ?_
  obtain rfl := Option.some.inj hf
  exact v_iret hR dX2_toldPlain_112
set_option maxRecDepth 100000 in
set_option maxHeartbeats 4000000 in
theorem c_X2_toldPlain {l : Launch} {D : va_G} {qT : Nat → ClassId} {Z : (Nat → Prop) → State → Heap → Prop} {r : Int32} {a0 : Nat} {a_easel : Nat} {a_number : Nat} {a_kind : Nat} {a_had : Nat} {a_pleased : Nat} {s_face : Int32} {s_lamp : Int32} {s_stove : Int32} {s_pose : Int32} {s_rule : Int32} {s_painters : Int32} {s_easel : Nat → Int32} {s_number : Nat → Int32} {s_kind : Nat → Int32} {s_had : Nat → Int32} {s_pleased : Nat → Int32} {l1 : Int32} {l2 : Int32} (hZ : ZOK Z) (hf : f_X2_toldPlain l1 l2 s_face s_lamp s_stove s_pose s_easel s_number s_kind s_had s_pleased = some r) :
    CI l D qT Z yX2_toldPlain cX2_toldPlain 3 (some .int) 2 0 0 [.ref a0, .int l1, .int l2] [(a0, .inr (2, [.int s_face, .int s_lamp, .int s_stove, .int s_pose, .int s_rule, .int s_painters, .ref a_kind, .ref a_number, .ref a_easel, .ref a_had, .ref a_pleased])), (a_easel, .inl (qT 0, 6, .inl s_easel)), (a_number, .inl (qT 0, 6, .inl s_number)), (a_kind, .inl (qT 0, 6, .inl s_kind)), (a_had, .inl (qT 0, 6, .inl s_had)), (a_pleased, .inl (qT 0, 6, .inl s_pleased))] r [(a0, .inr (2, [.int s_face, .int s_lamp, .int s_stove, .int s_pose, .int s_rule, .int s_painters, .ref a_kind, .ref a_number, .ref a_easel, .ref a_had, .ref a_pleased])), (a_easel, .inl (qT 0, 6, .inl s_easel)), (a_number, .inl (qT 0, 6, .inl s_number)), (a_kind, .inl (qT 0, 6, .inl s_kind)), (a_had, .inl (qT 0, 6, .inl s_had)), (a_pleased, .inl (qT 0, 6, .inl s_pleased))] := by
  refine CI_of hZ (by decide) (Nat.le_of_ble_eq_true rfl) ?_
  intro x e1 e2 e3 e4 e5 e6 hin X hR
  subst e1 e2 e3 e4
  exact t_X2_toldPlain X e6 hR hf
def f_X2_put (l1 : Int32) (l2 : Int32) (l3 : Int32) (s_face : Int32) (s_lamp : Int32) (s_stove : Int32) (s_pose : Int32) (s_easel : Nat → Int32) (s_number : Nat → Int32) : Option (Int32 × Int32 × Int32 × Int32 × (Nat → Int32) × (Nat → Int32)) :=
  if l1 = 0 then (
  some (l3, s_lamp, s_stove, s_pose, s_easel, s_number)) else (
  if l1 = 1 then (
  some (s_face, l3, s_stove, s_pose, s_easel, s_number)) else (
  if l1 = 2 then (
  some (s_face, s_lamp, l3, s_pose, s_easel, s_number)) else (
  if l1 = 3 then (
  some (s_face, s_lamp, s_stove, l3, s_easel, s_number)) else (
  if l1 = 4 then (
  if inb l2 6 = true then (
  some (s_face, s_lamp, s_stove, s_pose, s_easel, (upd s_number (Int32.toNatClampNeg l2) l3))) else none) else (
  if inb l2 6 = true then (
  some (s_face, s_lamp, s_stove, s_pose, (upd s_easel (Int32.toNatClampNeg l2) l3), s_number)) else none)))))
set_option maxRecDepth 100000 in
set_option maxHeartbeats 4000000 in
theorem t_X2_put {x : VX} {r : Int32 × Int32 × Int32 × Int32 × (Nat → Int32) × (Nat → Int32)} {a0 : Nat} {a_easel : Nat} {a_number : Nat} {a_kind : Nat} {a_had : Nat} {a_pleased : Nat} {s_face : Int32} {s_lamp : Int32} {s_stove : Int32} {s_pose : Int32} {s_rule : Int32} {s_painters : Int32} {s_easel : Nat → Int32} {s_number : Nat → Int32} {l1 : Int32} {l2 : Int32} {l3 : Int32} (X : Cx x cX2_put RX2 1) (hN : vxn x = 4) (hR : RetV x cX2_put 0 0 [(a0, .inr (2, [.int r.1, .int r.2.1, .int r.2.2.1, .int r.2.2.2.1, .int s_rule, .int s_painters, .ref a_kind, .ref a_number, .ref a_easel, .ref a_had, .ref a_pleased])), (a_easel, .inl (vxT x 0, 6, .inl r.2.2.2.2.1)), (a_number, .inl (vxT x 0, 6, .inl r.2.2.2.2.2))]) (hf : f_X2_put l1 l2 l3 s_face s_lamp s_stove s_pose s_easel s_number = some r) : V x 0 0 [(a0, .inr (2, [.int s_face, .int s_lamp, .int s_stove, .int s_pose, .int s_rule, .int s_painters, .ref a_kind, .ref a_number, .ref a_easel, .ref a_had, .ref a_pleased])), (a_easel, .inl (vxT x 0, 6, .inl s_easel)), (a_number, .inl (vxT x 0, 6, .inl s_number))] [(0, .ref a0), (1, .int l1), (2, .int l2), (3, .int l3)] 0 [] := by
  unfold f_X2_put at hf
  refine v_iload_n X 1 rfl dX2_put_0 ?_
  rcases ite_some hf with ⟨e1, hf⟩ | ⟨e1_0, hf⟩
  · refine v_tab_in X (tgt := 36) (off := 35) (by rw [e1]; decide) (by rw [e1]; decide) (by rw [e1]; decide) (by decide) dX2_put_1 ?_
    refine v_aload_n X 0 rfl dX2_put_36 ?_
    refine v_iload_n X 3 rfl dX2_put_37 ?_
    refine v_put X xinX2 tyX2 tyX2_ok nmX2 0 rfl rfl 0 (by decide) wd23 rfl rfl rfl rfl rfl (Nat.le_of_ble_eq_true rfl) (ws' := [(a0, .inr (2, [.int l3, .int s_lamp, .int s_stove, .int s_pose, .int s_rule, .int s_painters, .ref a_kind, .ref a_number, .ref a_easel, .ref a_had, .ref a_pleased])), (a_easel, .inl (vxT x 0, 6, .inl s_easel)), (a_number, .inl (vxT x 0, 6, .inl s_number))]) rfl dX2_put_38 ?_
    refine v_goto X (tgt := 85) (by decide) dX2_put_41 ?_
    obtain rfl := Option.some.inj hf
    exact v_vret hR dX2_put_85
  rcases ite_some hf with ⟨e1, hf⟩ | ⟨e1_1, hf⟩
  · refine v_tab_in X (tgt := 44) (off := 43) (by rw [e1]; decide) (by rw [e1]; decide) (by rw [e1]; decide) (by decide) dX2_put_1 ?_
    refine v_aload_n X 0 rfl dX2_put_44 ?_
    refine v_iload_n X 3 rfl dX2_put_45 ?_
    refine v_put X xinX2 tyX2 tyX2_ok nmX2 0 rfl rfl 1 (by decide) wd33 rfl rfl rfl rfl rfl (Nat.le_of_ble_eq_true rfl) (ws' := [(a0, .inr (2, [.int s_face, .int l3, .int s_stove, .int s_pose, .int s_rule, .int s_painters, .ref a_kind, .ref a_number, .ref a_easel, .ref a_had, .ref a_pleased])), (a_easel, .inl (vxT x 0, 6, .inl s_easel)), (a_number, .inl (vxT x 0, 6, .inl s_number))]) rfl dX2_put_46 ?_
    refine v_goto X (tgt := 85) (by decide) dX2_put_49 ?_
    obtain rfl := Option.some.inj hf
    exact v_vret hR dX2_put_85
  rcases ite_some hf with ⟨e1, hf⟩ | ⟨e1_2, hf⟩
  · refine v_tab_in X (tgt := 52) (off := 51) (by rw [e1]; decide) (by rw [e1]; decide) (by rw [e1]; decide) (by decide) dX2_put_1 ?_
    refine v_aload_n X 0 rfl dX2_put_52 ?_
    refine v_iload_n X 3 rfl dX2_put_53 ?_
    refine v_put X xinX2 tyX2 tyX2_ok nmX2 0 rfl rfl 2 (by decide) wd34 rfl rfl rfl rfl rfl (Nat.le_of_ble_eq_true rfl) (ws' := [(a0, .inr (2, [.int s_face, .int s_lamp, .int l3, .int s_pose, .int s_rule, .int s_painters, .ref a_kind, .ref a_number, .ref a_easel, .ref a_had, .ref a_pleased])), (a_easel, .inl (vxT x 0, 6, .inl s_easel)), (a_number, .inl (vxT x 0, 6, .inl s_number))]) rfl dX2_put_54 ?_
    refine v_goto X (tgt := 85) (by decide) dX2_put_57 ?_
    obtain rfl := Option.some.inj hf
    exact v_vret hR dX2_put_85
  rcases ite_some hf with ⟨e1, hf⟩ | ⟨e1_3, hf⟩
  · refine v_tab_in X (tgt := 60) (off := 59) (by rw [e1]; decide) (by rw [e1]; decide) (by rw [e1]; decide) (by decide) dX2_put_1 ?_
    refine v_aload_n X 0 rfl dX2_put_60 ?_
    refine v_iload_n X 3 rfl dX2_put_61 ?_
    refine v_put X xinX2 tyX2 tyX2_ok nmX2 0 rfl rfl 3 (by decide) wd35 rfl rfl rfl rfl rfl (Nat.le_of_ble_eq_true rfl) (ws' := [(a0, .inr (2, [.int s_face, .int s_lamp, .int s_stove, .int l3, .int s_rule, .int s_painters, .ref a_kind, .ref a_number, .ref a_easel, .ref a_had, .ref a_pleased])), (a_easel, .inl (vxT x 0, 6, .inl s_easel)), (a_number, .inl (vxT x 0, 6, .inl s_number))]) rfl dX2_put_62 ?_
    refine v_goto X (tgt := 85) (by decide) dX2_put_65 ?_
    obtain rfl := Option.some.inj hf
    exact v_vret hR dX2_put_85
  rcases ite_some hf with ⟨e1, hf⟩ | ⟨e1_4, hf⟩
  · refine v_tab_in X (tgt := 68) (off := 67) (by rw [e1]; decide) (by rw [e1]; decide) (by rw [e1]; decide) (by decide) dX2_put_1 ?_
    refine v_aload_n X 0 rfl dX2_put_68 ?_
    refine v_get X xinX2 0 rfl rfl 7 (by decide) wd7 rfl rfl dX2_put_69 ?_
    refine v_iload_n X 2 rfl dX2_put_72 ?_
    refine v_iload_n X 3 rfl dX2_put_73 ?_
    refine v_iast X 2 rfl hf (ws' := [(a0, .inr (2, [.int s_face, .int s_lamp, .int s_stove, .int s_pose, .int s_rule, .int s_painters, .ref a_kind, .ref a_number, .ref a_easel, .ref a_had, .ref a_pleased])), (a_easel, .inl (vxT x 0, 6, .inl s_easel)), (a_number, .inl (vxT x 0, 6, .inl (upd s_number (Int32.toNatClampNeg l2) l3)))]) rfl dX2_put_74 (fun h74 hf => ?_)
    refine v_goto X (tgt := 85) (by decide) dX2_put_75 ?_
    obtain rfl := Option.some.inj hf
    exact v_vret hR dX2_put_85
  refine v_tab_out X (tgt := 78) (by have g0 := sw_ne (n := 0) e1_0 (by decide); have g1 := sw_ne (n := 1) e1_1 (by decide); have g2 := sw_ne (n := 2) e1_2 (by decide); have g3 := sw_ne (n := 3) e1_3 (by decide); have g4 := sw_ne (n := 4) e1_4 (by decide); omega) (by decide) dX2_put_1 ?_
  refine v_aload_n X 0 rfl dX2_put_78 ?_
  refine v_get X xinX2 0 rfl rfl 8 (by decide) wd8 rfl rfl dX2_put_79 ?_
  refine v_iload_n X 2 rfl dX2_put_82 ?_
  refine v_iload_n X 3 rfl dX2_put_83 ?_
  refine v_iast X 1 rfl hf (ws' := [(a0, .inr (2, [.int s_face, .int s_lamp, .int s_stove, .int s_pose, .int s_rule, .int s_painters, .ref a_kind, .ref a_number, .ref a_easel, .ref a_had, .ref a_pleased])), (a_easel, .inl (vxT x 0, 6, .inl (upd s_easel (Int32.toNatClampNeg l2) l3))), (a_number, .inl (vxT x 0, 6, .inl s_number))]) rfl dX2_put_84 (fun h84 hf => ?_)
  obtain rfl := Option.some.inj hf
  exact v_vret hR dX2_put_85
set_option maxRecDepth 100000 in
set_option maxHeartbeats 4000000 in
theorem c_X2_put {l : Launch} {D : va_G} {qT : Nat → ClassId} {Z : (Nat → Prop) → State → Heap → Prop} {r : Int32 × Int32 × Int32 × Int32 × (Nat → Int32) × (Nat → Int32)} {a0 : Nat} {a_easel : Nat} {a_number : Nat} {a_kind : Nat} {a_had : Nat} {a_pleased : Nat} {s_face : Int32} {s_lamp : Int32} {s_stove : Int32} {s_pose : Int32} {s_rule : Int32} {s_painters : Int32} {s_easel : Nat → Int32} {s_number : Nat → Int32} {l1 : Int32} {l2 : Int32} {l3 : Int32} (hZ : ZOK Z) (hf : f_X2_put l1 l2 l3 s_face s_lamp s_stove s_pose s_easel s_number = some r) :
    CV l D qT Z yX2_put cX2_put 4 none 1 0 0 [.ref a0, .int l1, .int l2, .int l3] [(a0, .inr (2, [.int s_face, .int s_lamp, .int s_stove, .int s_pose, .int s_rule, .int s_painters, .ref a_kind, .ref a_number, .ref a_easel, .ref a_had, .ref a_pleased])), (a_easel, .inl (qT 0, 6, .inl s_easel)), (a_number, .inl (qT 0, 6, .inl s_number))] [(a0, .inr (2, [.int r.1, .int r.2.1, .int r.2.2.1, .int r.2.2.2.1, .int s_rule, .int s_painters, .ref a_kind, .ref a_number, .ref a_easel, .ref a_had, .ref a_pleased])), (a_easel, .inl (qT 0, 6, .inl r.2.2.2.2.1)), (a_number, .inl (qT 0, 6, .inl r.2.2.2.2.2))] := by
  refine CV_of hZ (by decide) (Nat.le_of_ble_eq_true rfl) ?_
  intro x e1 e2 e3 e4 e5 e6 hin X hR
  subst e1 e2 e3 e4
  exact t_X2_put X e6 hR hf
def f_X2_exchange (l1 : Int32) (l2 : Int32) (s_easel : Nat → Int32) : Option ((Nat → Int32)) :=
  if inb l1 6 = true then (
  if inb l2 6 = true then (
  if inb l1 6 = true then (
  if inb l2 6 = true then (
  some (upd (upd s_easel (Int32.toNatClampNeg l1) (s_easel (Int32.toNatClampNeg l2))) (Int32.toNatClampNeg l2) (s_easel (Int32.toNatClampNeg l1)))) else none) else none) else none) else none
set_option maxRecDepth 100000 in
set_option maxHeartbeats 4000000 in
theorem t_X2_exchange {x : VX} {r : (Nat → Int32)} {a0 : Nat} {a_easel : Nat} {a_kind : Nat} {a_number : Nat} {a_had : Nat} {a_pleased : Nat} {s_face : Int32} {s_lamp : Int32} {s_stove : Int32} {s_pose : Int32} {s_rule : Int32} {s_painters : Int32} {s_easel : Nat → Int32} {l1 : Int32} {l2 : Int32} (X : Cx x cX2_exchange RX2 1) (hN : vxn x = 4) (hR : RetV x cX2_exchange 0 0 [(a0, .inr (2, [.int s_face, .int s_lamp, .int s_stove, .int s_pose, .int s_rule, .int s_painters, .ref a_kind, .ref a_number, .ref a_easel, .ref a_had, .ref a_pleased])), (a_easel, .inl (vxT x 0, 6, .inl r))]) (hf : f_X2_exchange l1 l2 s_easel = some r) : V x 0 0 [(a0, .inr (2, [.int s_face, .int s_lamp, .int s_stove, .int s_pose, .int s_rule, .int s_painters, .ref a_kind, .ref a_number, .ref a_easel, .ref a_had, .ref a_pleased])), (a_easel, .inl (vxT x 0, 6, .inl s_easel))] [(0, .ref a0), (1, .int l1), (2, .int l2)] 0 [] := by
  unfold f_X2_exchange at hf
  refine v_aload_n X 0 rfl dX2_exchange_0 ?_
  refine v_get X xinX2 0 rfl rfl 8 (by decide) wd8 rfl rfl dX2_exchange_1 ?_
  refine v_iload_n X 1 rfl dX2_exchange_4 ?_
  refine v_iald X 1 rfl hf dX2_exchange_5 (fun h5 hf => ?_)
  refine v_istore_n X rfl (by rw [hN]; decide) (lv' := [(3, .int (s_easel (Int32.toNatClampNeg l1))), (0, .ref a0), (1, .int l1), (2, .int l2)]) rfl dX2_exchange_6 ?_
  refine v_aload_n X 1 rfl dX2_exchange_7 ?_
  refine v_get X xinX2 0 rfl rfl 8 (by decide) wd8 rfl rfl dX2_exchange_8 ?_
  refine v_iload_n X 2 rfl dX2_exchange_11 ?_
  refine v_aload_n X 1 rfl dX2_exchange_12 ?_
  refine v_get X xinX2 0 rfl rfl 8 (by decide) wd8 rfl rfl dX2_exchange_13 ?_
  refine v_iload_n X 3 rfl dX2_exchange_16 ?_
  refine v_iald X 1 rfl hf dX2_exchange_17 (fun h17 hf => ?_)
  refine v_iast X 1 rfl hf (ws' := [(a0, .inr (2, [.int s_face, .int s_lamp, .int s_stove, .int s_pose, .int s_rule, .int s_painters, .ref a_kind, .ref a_number, .ref a_easel, .ref a_had, .ref a_pleased])), (a_easel, .inl (vxT x 0, 6, .inl (upd s_easel (Int32.toNatClampNeg l1) (s_easel (Int32.toNatClampNeg l2)))))]) rfl dX2_exchange_18 (fun h18 hf => ?_)
  refine v_aload_n X 1 rfl dX2_exchange_19 ?_
  refine v_get X xinX2 0 rfl rfl 8 (by decide) wd8 rfl rfl dX2_exchange_20 ?_
  refine v_iload_n X 3 rfl dX2_exchange_23 ?_
  refine v_iload_n X 0 rfl dX2_exchange_24 ?_
  refine v_iast X 1 rfl hf (ws' := [(a0, .inr (2, [.int s_face, .int s_lamp, .int s_stove, .int s_pose, .int s_rule, .int s_painters, .ref a_kind, .ref a_number, .ref a_easel, .ref a_had, .ref a_pleased])), (a_easel, .inl (vxT x 0, 6, .inl (upd (upd s_easel (Int32.toNatClampNeg l1) (s_easel (Int32.toNatClampNeg l2))) (Int32.toNatClampNeg l2) (s_easel (Int32.toNatClampNeg l1)))))]) rfl dX2_exchange_25 (fun h25 hf => ?_)
  obtain rfl := Option.some.inj hf
  exact v_vret hR dX2_exchange_26
set_option maxRecDepth 100000 in
set_option maxHeartbeats 4000000 in
theorem c_X2_exchange {l : Launch} {D : va_G} {qT : Nat → ClassId} {Z : (Nat → Prop) → State → Heap → Prop} {r : (Nat → Int32)} {a0 : Nat} {a_easel : Nat} {a_kind : Nat} {a_number : Nat} {a_had : Nat} {a_pleased : Nat} {s_face : Int32} {s_lamp : Int32} {s_stove : Int32} {s_pose : Int32} {s_rule : Int32} {s_painters : Int32} {s_easel : Nat → Int32} {l1 : Int32} {l2 : Int32} (hZ : ZOK Z) (hf : f_X2_exchange l1 l2 s_easel = some r) :
    CV l D qT Z yX2_exchange cX2_exchange 4 none 1 0 0 [.ref a0, .int l1, .int l2] [(a0, .inr (2, [.int s_face, .int s_lamp, .int s_stove, .int s_pose, .int s_rule, .int s_painters, .ref a_kind, .ref a_number, .ref a_easel, .ref a_had, .ref a_pleased])), (a_easel, .inl (qT 0, 6, .inl s_easel))] [(a0, .inr (2, [.int s_face, .int s_lamp, .int s_stove, .int s_pose, .int s_rule, .int s_painters, .ref a_kind, .ref a_number, .ref a_easel, .ref a_had, .ref a_pleased])), (a_easel, .inl (qT 0, 6, .inl r))] := by
  refine CV_of hZ (by decide) (Nat.le_of_ble_eq_true rfl) ?_
  intro x e1 e2 e3 e4 e5 e6 hin X hR
  subst e1 e2 e3 e4
  exact t_X2_exchange X e6 hR hf
def f_X2_please (l1 : Int32) (l2 : Int32) (s_pleased : Nat → Int32) : Option ((Nat → Int32)) :=
  if inb l1 6 = true then (
  (f_X6_within (-99999) ((s_pleased (Int32.toNatClampNeg l1)) + l2) 99999).bind (fun v17_1 =>
  if inb l1 6 = true then (
  some (upd s_pleased (Int32.toNatClampNeg l1) v17_1)) else none)) else none
set_option maxRecDepth 100000 in
set_option maxHeartbeats 4000000 in
theorem t_X2_please {x : VX} {r : (Nat → Int32)} {a0 : Nat} {a_pleased : Nat} {a_kind : Nat} {a_number : Nat} {a_easel : Nat} {a_had : Nat} {s_face : Int32} {s_lamp : Int32} {s_stove : Int32} {s_pose : Int32} {s_rule : Int32} {s_painters : Int32} {s_pleased : Nat → Int32} {l1 : Int32} {l2 : Int32} (X : Cx x cX2_please RX2 2) (hN : vxn x = 3) (hR : RetV x cX2_please 0 0 [(a0, .inr (2, [.int s_face, .int s_lamp, .int s_stove, .int s_pose, .int s_rule, .int s_painters, .ref a_kind, .ref a_number, .ref a_easel, .ref a_had, .ref a_pleased])), (a_pleased, .inl (vxT x 0, 6, .inl r))]) (hf : f_X2_please l1 l2 s_pleased = some r) : V x 0 0 [(a0, .inr (2, [.int s_face, .int s_lamp, .int s_stove, .int s_pose, .int s_rule, .int s_painters, .ref a_kind, .ref a_number, .ref a_easel, .ref a_had, .ref a_pleased])), (a_pleased, .inl (vxT x 0, 6, .inl s_pleased))] [(0, .ref a0), (1, .int l1), (2, .int l2)] 0 [] := by
  unfold f_X2_please at hf
  refine v_aload_n X 0 rfl dX2_please_0 ?_
  refine v_get X xinX2 0 rfl rfl 10 (by decide) wd10 rfl rfl dX2_please_1 ?_
  refine v_iload_n X 1 rfl dX2_please_4 ?_
  refine v_ldc X wd36 dX2_please_5 ?_
  refine v_aload_n X 0 rfl dX2_please_7 ?_
  refine v_get X xinX2 0 rfl rfl 10 (by decide) wd10 rfl rfl dX2_please_8 ?_
  refine v_iload_n X 1 rfl dX2_please_11 ?_
  refine v_iald X 1 rfl hf dX2_please_12 (fun h12 hf => ?_)
  refine v_iload_n X 2 rfl dX2_please_13 ?_
  refine v_iadd X dX2_please_14 ?_
  refine v_ldc X wd37 dX2_please_15 ?_
  obtain ⟨v17_1, hv17_1, hf⟩ := bd_some hf
  refine v_ncallI X (c_X6_within X.2.2.2.2.2.2.2.1 hv17_1) cwn_X2_81 rfl (by decide) ⟨Nat.zero_le _, Nat.zero_le _⟩ [] [0, 1] [0, 1] rfl (by decide) (wr := [(a0, .inr (2, [.int s_face, .int s_lamp, .int s_stove, .int s_pose, .int s_rule, .int s_painters, .ref a_kind, .ref a_number, .ref a_easel, .ref a_had, .ref a_pleased])), (a_pleased, .inl (vxT x 0, 6, .inl s_pleased))]) rfl (by decide) (by decide) (ws2 := [(a0, .inr (2, [.int s_face, .int s_lamp, .int s_stove, .int s_pose, .int s_rule, .int s_painters, .ref a_kind, .ref a_number, .ref a_easel, .ref a_had, .ref a_pleased])), (a_pleased, .inl (vxT x 0, 6, .inl s_pleased))]) rfl (by decide) (Nat.le_of_ble_eq_true rfl) rfl dX2_please_17 ?_
  refine v_iast X 1 rfl hf (ws' := [(a0, .inr (2, [.int s_face, .int s_lamp, .int s_stove, .int s_pose, .int s_rule, .int s_painters, .ref a_kind, .ref a_number, .ref a_easel, .ref a_had, .ref a_pleased])), (a_pleased, .inl (vxT x 0, 6, .inl (upd s_pleased (Int32.toNatClampNeg l1) v17_1)))]) rfl dX2_please_20 (fun h20 hf => ?_)
  obtain rfl := Option.some.inj hf
  exact v_vret hR dX2_please_21
set_option maxRecDepth 100000 in
set_option maxHeartbeats 4000000 in
theorem c_X2_please {l : Launch} {D : va_G} {qT : Nat → ClassId} {Z : (Nat → Prop) → State → Heap → Prop} {r : (Nat → Int32)} {a0 : Nat} {a_pleased : Nat} {a_kind : Nat} {a_number : Nat} {a_easel : Nat} {a_had : Nat} {s_face : Int32} {s_lamp : Int32} {s_stove : Int32} {s_pose : Int32} {s_rule : Int32} {s_painters : Int32} {s_pleased : Nat → Int32} {l1 : Int32} {l2 : Int32} (hZ : ZOK Z) (hf : f_X2_please l1 l2 s_pleased = some r) :
    CV l D qT Z yX2_please cX2_please 3 none 2 0 0 [.ref a0, .int l1, .int l2] [(a0, .inr (2, [.int s_face, .int s_lamp, .int s_stove, .int s_pose, .int s_rule, .int s_painters, .ref a_kind, .ref a_number, .ref a_easel, .ref a_had, .ref a_pleased])), (a_pleased, .inl (qT 0, 6, .inl s_pleased))] [(a0, .inr (2, [.int s_face, .int s_lamp, .int s_stove, .int s_pose, .int s_rule, .int s_painters, .ref a_kind, .ref a_number, .ref a_easel, .ref a_had, .ref a_pleased])), (a_pleased, .inl (qT 0, 6, .inl r))] := by
  refine CV_of hZ (by decide) (Nat.le_of_ble_eq_true rfl) ?_
  intro x e1 e2 e3 e4 e5 e6 hin X hR
  subst e1 e2 e3 e4
  exact t_X2_please X e6 hR hf
def f_X2_haveSides_2 (s_face : Int32) (s_painters : Int32) (s_easel : Nat → Int32) (kp_2 : Int32 → (Nat → Int32) → Option ((Nat → Int32))) (l1 : Int32) (s_had : Nat → Int32) : Option ((Nat → Int32)) :=
  if s_painters ≤ l1 then (
  some s_had) else (
  if inb l1 6 = true then (
  (f_X2_sideOf l1 s_face s_easel).bind (fun v20_1 =>
  if inb l1 6 = true then (
  kp_2 (l1 + 1) (upd s_had (Int32.toNatClampNeg l1) ((s_had (Int32.toNatClampNeg l1)) ||| (1 <<< (v20_1 &&& 31))))) else none)) else none)
def f_X2_haveSides (s_face : Int32) (s_painters : Int32) (s_had : Nat → Int32) (s_easel : Nat → Int32) : Option ((Nat → Int32)) :=
  lq2 (f_X2_haveSides_2 s_face s_painters s_easel) 200 0 s_had
set_option maxRecDepth 100000 in
set_option maxHeartbeats 4000000 in
theorem t_X2_haveSides_2 {x : VX} {r : (Nat → Int32)} {a0 : Nat} {a_had : Nat} {a_easel : Nat} {a_kind : Nat} {a_number : Nat} {a_pleased : Nat} {s_face : Int32} {s_lamp : Int32} {s_stove : Int32} {s_pose : Int32} {s_rule : Int32} {s_painters : Int32} {s_easel : Nat → Int32} (X : Cx x cX2_haveSides RX2 2) (hN : vxn x = 2) (hR : RetV x cX2_haveSides 0 0 [(a0, .inr (2, [.int s_face, .int s_lamp, .int s_stove, .int s_pose, .int s_rule, .int s_painters, .ref a_kind, .ref a_number, .ref a_easel, .ref a_had, .ref a_pleased])), (a_had, .inl (vxT x 0, 6, .inl r)), (a_easel, .inl (vxT x 0, 6, .inl s_easel))]) :
    ∀ (fu : Nat) (l1 : Int32) (s_had : Nat → Int32), lq2 (f_X2_haveSides_2 s_face s_painters s_easel) fu l1 s_had = some r → V x 0 0 [(a0, .inr (2, [.int s_face, .int s_lamp, .int s_stove, .int s_pose, .int s_rule, .int s_painters, .ref a_kind, .ref a_number, .ref a_easel, .ref a_had, .ref a_pleased])), (a_had, .inl (vxT x 0, 6, .inl s_had)), (a_easel, .inl (vxT x 0, 6, .inl s_easel))] [(0, .ref a0), (1, .int l1)] 2 [] := by
  refine lq2_V (G := fun l1 s_had => V x 0 0 [(a0, .inr (2, [.int s_face, .int s_lamp, .int s_stove, .int s_pose, .int s_rule, .int s_painters, .ref a_kind, .ref a_number, .ref a_easel, .ref a_had, .ref a_pleased])), (a_had, .inl (vxT x 0, 6, .inl s_had)), (a_easel, .inl (vxT x 0, 6, .inl s_easel))] [(0, .ref a0), (1, .int l1)] 2 []) ?_
  intro kp_2 hk_2 l1 s_had hf
  unfold f_X2_haveSides_2 at hf
  refine v_iload_n X 1 rfl dX2_haveSides_2 ?_
  refine v_aload_n X 0 rfl dX2_haveSides_3 ?_
  refine v_get X xinX2 0 rfl rfl 5 (by decide) wd5 rfl rfl dX2_haveSides_4 ?_
  refine v_icmp_ge X (tgt := 32) hf (by decide) dX2_haveSides_7 (fun c7 hf => ?_) (fun c7 hf => ?_)
  · obtain rfl := Option.some.inj hf
    exact v_vret hR dX2_haveSides_32
  · refine v_aload_n X 0 rfl dX2_haveSides_10 ?_
    refine v_get X xinX2 0 rfl rfl 9 (by decide) wd9 rfl rfl dX2_haveSides_11 ?_
    refine v_iload_n X 1 rfl dX2_haveSides_14 ?_
    refine v_dup2 X rfl rfl dX2_haveSides_15 ?_
    refine v_iald X 1 rfl hf dX2_haveSides_16 (fun h16 hf => ?_)
    refine v_iconst X (v := 1) (by decide) dX2_haveSides_17 ?_
    refine v_aload_n X 0 rfl dX2_haveSides_18 ?_
    refine v_iload_n X 1 rfl dX2_haveSides_19 ?_
    obtain ⟨v20_1, hv20_1, hf⟩ := bd_some hf
    refine v_callI X (c_X2_sideOf X.2.2.2.2.2.2.2.1 hv20_1) cwv_X2_76 rfl (by decide) ⟨Nat.zero_le _, Nat.zero_le _⟩ 0 rfl rfl [0, 2] [1] [1, 0, 2] rfl (by decide) (wr := [(a_had, .inl (vxT x 0, 6, .inl s_had))]) rfl (by decide) (by decide) (ws2 := [(a0, .inr (2, [.int s_face, .int s_lamp, .int s_stove, .int s_pose, .int s_rule, .int s_painters, .ref a_kind, .ref a_number, .ref a_easel, .ref a_had, .ref a_pleased])), (a_had, .inl (vxT x 0, 6, .inl s_had)), (a_easel, .inl (vxT x 0, 6, .inl s_easel))]) rfl (by decide) (Nat.le_of_ble_eq_true rfl) rfl dX2_haveSides_20 ?_
    refine v_ishl X dX2_haveSides_23 ?_
    refine v_ior X dX2_haveSides_24 ?_
    refine v_iast X 1 rfl hf (ws' := [(a0, .inr (2, [.int s_face, .int s_lamp, .int s_stove, .int s_pose, .int s_rule, .int s_painters, .ref a_kind, .ref a_number, .ref a_easel, .ref a_had, .ref a_pleased])), (a_had, .inl (vxT x 0, 6, .inl (upd s_had (Int32.toNatClampNeg l1) ((s_had (Int32.toNatClampNeg l1)) ||| (1 <<< (v20_1 &&& 31)))))), (a_easel, .inl (vxT x 0, 6, .inl s_easel))]) rfl dX2_haveSides_25 (fun h25 hf => ?_)
    refine v_iinc X 1 rfl (v := (l1 + 1)) rfl (by rw [hN]; decide) (lv' := [(1, .int (l1 + 1)), (0, .ref a0)]) rfl dX2_haveSides_26 ?_
    refine v_goto X (tgt := 2) (by decide) dX2_haveSides_29 ?_
    refine v_lv [1, 0] rfl ?_
    exact hk_2 _ _ hf
set_option maxRecDepth 100000 in
set_option maxHeartbeats 4000000 in
theorem t_X2_haveSides {x : VX} {r : (Nat → Int32)} {a0 : Nat} {a_had : Nat} {a_easel : Nat} {a_kind : Nat} {a_number : Nat} {a_pleased : Nat} {s_face : Int32} {s_lamp : Int32} {s_stove : Int32} {s_pose : Int32} {s_rule : Int32} {s_painters : Int32} {s_had : Nat → Int32} {s_easel : Nat → Int32} (X : Cx x cX2_haveSides RX2 2) (hN : vxn x = 2) (hR : RetV x cX2_haveSides 0 0 [(a0, .inr (2, [.int s_face, .int s_lamp, .int s_stove, .int s_pose, .int s_rule, .int s_painters, .ref a_kind, .ref a_number, .ref a_easel, .ref a_had, .ref a_pleased])), (a_had, .inl (vxT x 0, 6, .inl r)), (a_easel, .inl (vxT x 0, 6, .inl s_easel))]) (hf : f_X2_haveSides s_face s_painters s_had s_easel = some r) : V x 0 0 [(a0, .inr (2, [.int s_face, .int s_lamp, .int s_stove, .int s_pose, .int s_rule, .int s_painters, .ref a_kind, .ref a_number, .ref a_easel, .ref a_had, .ref a_pleased])), (a_had, .inl (vxT x 0, 6, .inl s_had)), (a_easel, .inl (vxT x 0, 6, .inl s_easel))] [(0, .ref a0)] 0 [] := by
  unfold f_X2_haveSides at hf
  refine v_iconst X (v := 0) (by decide) dX2_haveSides_0 ?_
  refine v_istore_n X rfl (by rw [hN]; decide) (lv' := [(1, .int 0), (0, .ref a0)]) rfl dX2_haveSides_1 ?_
  refine v_lv [1, 0] rfl ?_
  exact t_X2_haveSides_2 X hN hR 200 _ _ hf
set_option maxRecDepth 100000 in
set_option maxHeartbeats 4000000 in
theorem c_X2_haveSides {l : Launch} {D : va_G} {qT : Nat → ClassId} {Z : (Nat → Prop) → State → Heap → Prop} {r : (Nat → Int32)} {a0 : Nat} {a_had : Nat} {a_easel : Nat} {a_kind : Nat} {a_number : Nat} {a_pleased : Nat} {s_face : Int32} {s_lamp : Int32} {s_stove : Int32} {s_pose : Int32} {s_rule : Int32} {s_painters : Int32} {s_had : Nat → Int32} {s_easel : Nat → Int32} (hZ : ZOK Z) (hf : f_X2_haveSides s_face s_painters s_had s_easel = some r) :
    CV l D qT Z yX2_haveSides cX2_haveSides 2 none 2 0 0 [.ref a0] [(a0, .inr (2, [.int s_face, .int s_lamp, .int s_stove, .int s_pose, .int s_rule, .int s_painters, .ref a_kind, .ref a_number, .ref a_easel, .ref a_had, .ref a_pleased])), (a_had, .inl (qT 0, 6, .inl s_had)), (a_easel, .inl (qT 0, 6, .inl s_easel))] [(a0, .inr (2, [.int s_face, .int s_lamp, .int s_stove, .int s_pose, .int s_rule, .int s_painters, .ref a_kind, .ref a_number, .ref a_easel, .ref a_had, .ref a_pleased])), (a_had, .inl (qT 0, 6, .inl r)), (a_easel, .inl (qT 0, 6, .inl s_easel))] := by
  refine CV_of hZ (by decide) (Nat.le_of_ble_eq_true rfl) ?_
  intro x e1 e2 e3 e4 e5 e6 hin X hR
  subst e1 e2 e3 e4
  exact t_X2_haveSides X e6 hR hf
def f_X2_move_15 (s_face : Int32) (s_pose : Int32) (s_painters : Int32) (l2 : Int32) (kp_15 : Int32 → (Nat → Int32) → Option (Int32 × Int32 × (Nat → Int32))) (l3 : Int32) (s_easel : Nat → Int32) : Option (Int32 × Int32 × (Nat → Int32)) :=
  if s_painters ≤ l3 then (
  some (s_face, (s_pose + 1), s_easel)) else (
  if inb l3 6 = true then (
  if inb l3 6 = true then (
  kp_15 (l3 + 1) (upd s_easel (Int32.toNatClampNeg l3) (((s_easel (Int32.toNatClampNeg l3)) + l2) - ((s_easel (Int32.toNatClampNeg l3)) + l2) / 11 * 11))) else none) else none)
def f_X2_move (l1 : Int32) (l2 : Int32) (s_face : Int32) (s_pose : Int32) (s_painters : Int32) (s_easel : Nat → Int32) : Option (Int32 × Int32 × (Nat → Int32)) :=
  lq2 (f_X2_move_15 ((s_face + l1) - (s_face + l1) / 11 * 11) s_pose s_painters l2) 200 0 s_easel
set_option maxRecDepth 100000 in
set_option maxHeartbeats 4000000 in
theorem t_X2_move_15 {x : VX} {r : Int32 × Int32 × (Nat → Int32)} {a0 : Nat} {a_easel : Nat} {a_kind : Nat} {a_number : Nat} {a_had : Nat} {a_pleased : Nat} {s_face : Int32} {s_lamp : Int32} {s_stove : Int32} {s_pose : Int32} {s_rule : Int32} {s_painters : Int32} {l2 : Int32} (X : Cx x cX2_move RX2 1) (hN : vxn x = 4) (hR : RetV x cX2_move 0 0 [(a0, .inr (2, [.int r.1, .int s_lamp, .int s_stove, .int r.2.1, .int s_rule, .int s_painters, .ref a_kind, .ref a_number, .ref a_easel, .ref a_had, .ref a_pleased])), (a_easel, .inl (vxT x 0, 6, .inl r.2.2))]) :
    ∀ (fu : Nat) (l3 : Int32) (s_easel : Nat → Int32), lq2 (f_X2_move_15 s_face s_pose s_painters l2) fu l3 s_easel = some r → V x 0 0 [(a0, .inr (2, [.int s_face, .int s_lamp, .int s_stove, .int s_pose, .int s_rule, .int s_painters, .ref a_kind, .ref a_number, .ref a_easel, .ref a_had, .ref a_pleased])), (a_easel, .inl (vxT x 0, 6, .inl s_easel))] [(0, .ref a0), (2, .int l2), (3, .int l3)] 15 [] := by
  refine lq2_V (G := fun l3 s_easel => V x 0 0 [(a0, .inr (2, [.int s_face, .int s_lamp, .int s_stove, .int s_pose, .int s_rule, .int s_painters, .ref a_kind, .ref a_number, .ref a_easel, .ref a_had, .ref a_pleased])), (a_easel, .inl (vxT x 0, 6, .inl s_easel))] [(0, .ref a0), (2, .int l2), (3, .int l3)] 15 []) ?_
  intro kp_15 hk_15 l3 s_easel hf
  unfold f_X2_move_15 at hf
  refine v_iload_n X 2 rfl dX2_move_15 ?_
  refine v_aload_n X 0 rfl dX2_move_16 ?_
  refine v_get X xinX2 0 rfl rfl 5 (by decide) wd5 rfl rfl dX2_move_17 ?_
  refine v_icmp_ge X (tgt := 46) hf (by decide) dX2_move_20 (fun c20 hf => ?_) (fun c20 hf => ?_)
  · refine v_aload_n X 0 rfl dX2_move_46 ?_
    refine v_dup X rfl dX2_move_47 ?_
    refine v_get X xinX2 0 rfl rfl 3 (by decide) wd35 rfl rfl dX2_move_48 ?_
    refine v_iconst X (v := 1) (by decide) dX2_move_51 ?_
    refine v_iadd X dX2_move_52 ?_
    refine v_put X xinX2 tyX2 tyX2_ok nmX2 0 rfl rfl 3 (by decide) wd35 rfl rfl rfl rfl rfl (Nat.le_of_ble_eq_true rfl) (ws' := [(a0, .inr (2, [.int s_face, .int s_lamp, .int s_stove, .int (s_pose + 1), .int s_rule, .int s_painters, .ref a_kind, .ref a_number, .ref a_easel, .ref a_had, .ref a_pleased])), (a_easel, .inl (vxT x 0, 6, .inl s_easel))]) rfl dX2_move_53 ?_
    obtain rfl := Option.some.inj hf
    exact v_vret hR dX2_move_56
  · refine v_aload_n X 0 rfl dX2_move_23 ?_
    refine v_get X xinX2 0 rfl rfl 8 (by decide) wd8 rfl rfl dX2_move_24 ?_
    refine v_iload_n X 2 rfl dX2_move_27 ?_
    refine v_aload_n X 0 rfl dX2_move_28 ?_
    refine v_get X xinX2 0 rfl rfl 8 (by decide) wd8 rfl rfl dX2_move_29 ?_
    refine v_iload_n X 2 rfl dX2_move_32 ?_
    refine v_iald X 1 rfl hf dX2_move_33 (fun h33 hf => ?_)
    refine v_iload_n X 1 rfl dX2_move_34 ?_
    refine v_iadd X dX2_move_35 ?_
    refine v_bipush X (v := 11) (by decide) dX2_move_36 ?_
    refine v_irem X (by decide) dX2_move_38 ?_
    refine v_iast X 1 rfl hf (ws' := [(a0, .inr (2, [.int s_face, .int s_lamp, .int s_stove, .int s_pose, .int s_rule, .int s_painters, .ref a_kind, .ref a_number, .ref a_easel, .ref a_had, .ref a_pleased])), (a_easel, .inl (vxT x 0, 6, .inl (upd s_easel (Int32.toNatClampNeg l3) (((s_easel (Int32.toNatClampNeg l3)) + l2) - ((s_easel (Int32.toNatClampNeg l3)) + l2) / 11 * 11))))]) rfl dX2_move_39 (fun h39 hf => ?_)
    refine v_iinc X 2 rfl (v := (l3 + 1)) rfl (by rw [hN]; decide) (lv' := [(3, .int (l3 + 1)), (0, .ref a0), (2, .int l2)]) rfl dX2_move_40 ?_
    refine v_goto X (tgt := 15) (by decide) dX2_move_43 ?_
    refine v_lv [1, 2, 0] rfl ?_
    exact hk_15 _ _ hf
set_option maxRecDepth 100000 in
set_option maxHeartbeats 4000000 in
theorem t_X2_move {x : VX} {r : Int32 × Int32 × (Nat → Int32)} {a0 : Nat} {a_easel : Nat} {a_kind : Nat} {a_number : Nat} {a_had : Nat} {a_pleased : Nat} {s_face : Int32} {s_lamp : Int32} {s_stove : Int32} {s_pose : Int32} {s_rule : Int32} {s_painters : Int32} {s_easel : Nat → Int32} {l1 : Int32} {l2 : Int32} (X : Cx x cX2_move RX2 1) (hN : vxn x = 4) (hR : RetV x cX2_move 0 0 [(a0, .inr (2, [.int r.1, .int s_lamp, .int s_stove, .int r.2.1, .int s_rule, .int s_painters, .ref a_kind, .ref a_number, .ref a_easel, .ref a_had, .ref a_pleased])), (a_easel, .inl (vxT x 0, 6, .inl r.2.2))]) (hf : f_X2_move l1 l2 s_face s_pose s_painters s_easel = some r) : V x 0 0 [(a0, .inr (2, [.int s_face, .int s_lamp, .int s_stove, .int s_pose, .int s_rule, .int s_painters, .ref a_kind, .ref a_number, .ref a_easel, .ref a_had, .ref a_pleased])), (a_easel, .inl (vxT x 0, 6, .inl s_easel))] [(0, .ref a0), (1, .int l1), (2, .int l2)] 0 [] := by
  unfold f_X2_move at hf
  refine v_aload_n X 0 rfl dX2_move_0 ?_
  refine v_aload_n X 0 rfl dX2_move_1 ?_
  refine v_get X xinX2 0 rfl rfl 0 (by decide) wd23 rfl rfl dX2_move_2 ?_
  refine v_iload_n X 1 rfl dX2_move_5 ?_
  refine v_iadd X dX2_move_6 ?_
  refine v_bipush X (v := 11) (by decide) dX2_move_7 ?_
  refine v_irem X (by decide) dX2_move_9 ?_
  refine v_put X xinX2 tyX2 tyX2_ok nmX2 0 rfl rfl 0 (by decide) wd23 rfl rfl rfl rfl rfl (Nat.le_of_ble_eq_true rfl) (ws' := [(a0, .inr (2, [.int ((s_face + l1) - (s_face + l1) / 11 * 11), .int s_lamp, .int s_stove, .int s_pose, .int s_rule, .int s_painters, .ref a_kind, .ref a_number, .ref a_easel, .ref a_had, .ref a_pleased])), (a_easel, .inl (vxT x 0, 6, .inl s_easel))]) rfl dX2_move_10 ?_
  refine v_iconst X (v := 0) (by decide) dX2_move_13 ?_
  refine v_istore_n X rfl (by rw [hN]; decide) (lv' := [(3, .int 0), (0, .ref a0), (1, .int l1), (2, .int l2)]) rfl dX2_move_14 ?_
  refine v_lv [1, 3, 0] rfl ?_
  exact t_X2_move_15 X hN hR 200 _ _ hf
set_option maxRecDepth 100000 in
set_option maxHeartbeats 4000000 in
theorem c_X2_move {l : Launch} {D : va_G} {qT : Nat → ClassId} {Z : (Nat → Prop) → State → Heap → Prop} {r : Int32 × Int32 × (Nat → Int32)} {a0 : Nat} {a_easel : Nat} {a_kind : Nat} {a_number : Nat} {a_had : Nat} {a_pleased : Nat} {s_face : Int32} {s_lamp : Int32} {s_stove : Int32} {s_pose : Int32} {s_rule : Int32} {s_painters : Int32} {s_easel : Nat → Int32} {l1 : Int32} {l2 : Int32} (hZ : ZOK Z) (hf : f_X2_move l1 l2 s_face s_pose s_painters s_easel = some r) :
    CV l D qT Z yX2_move cX2_move 4 none 1 0 0 [.ref a0, .int l1, .int l2] [(a0, .inr (2, [.int s_face, .int s_lamp, .int s_stove, .int s_pose, .int s_rule, .int s_painters, .ref a_kind, .ref a_number, .ref a_easel, .ref a_had, .ref a_pleased])), (a_easel, .inl (qT 0, 6, .inl s_easel))] [(a0, .inr (2, [.int r.1, .int s_lamp, .int s_stove, .int r.2.1, .int s_rule, .int s_painters, .ref a_kind, .ref a_number, .ref a_easel, .ref a_had, .ref a_pleased])), (a_easel, .inl (qT 0, 6, .inl r.2.2))] := by
  refine CV_of hZ (by decide) (Nat.le_of_ble_eq_true rfl) ?_
  intro x e1 e2 e3 e4 e5 e6 hin X hR
  subst e1 e2 e3 e4
  exact t_X2_move X e6 hR hf
def f_X2_sum_4 (s_painters : Int32) (s_pleased : Nat → Int32) (kp_4 : Int32 → Int32 → Option (Int32)) (l1 : Int32) (l2 : Int32) : Option (Int32) :=
  if s_painters ≤ l2 then (
  some l1) else (
  if inb l2 6 = true then (
  kp_4 (l1 + (s_pleased (Int32.toNatClampNeg l2))) (l2 + 1)) else none)
def f_X2_sum (s_painters : Int32) (s_pleased : Nat → Int32) : Option (Int32) :=
  lq2 (f_X2_sum_4 s_painters s_pleased) 200 0 0
set_option maxRecDepth 100000 in
set_option maxHeartbeats 4000000 in
theorem t_X2_sum_4 {x : VX} {r : Int32} {a0 : Nat} {a_pleased : Nat} {a_kind : Nat} {a_number : Nat} {a_easel : Nat} {a_had : Nat} {s_face : Int32} {s_lamp : Int32} {s_stove : Int32} {s_pose : Int32} {s_rule : Int32} {s_painters : Int32} {s_pleased : Nat → Int32} (X : Cx x cX2_sum RX2 1) (hN : vxn x = 3) (hR : RetI x cX2_sum 0 0 r [(a0, .inr (2, [.int s_face, .int s_lamp, .int s_stove, .int s_pose, .int s_rule, .int s_painters, .ref a_kind, .ref a_number, .ref a_easel, .ref a_had, .ref a_pleased])), (a_pleased, .inl (vxT x 0, 6, .inl s_pleased))]) :
    ∀ (fu : Nat) (l1 : Int32) (l2 : Int32), lq2 (f_X2_sum_4 s_painters s_pleased) fu l1 l2 = some r → V x 0 0 [(a0, .inr (2, [.int s_face, .int s_lamp, .int s_stove, .int s_pose, .int s_rule, .int s_painters, .ref a_kind, .ref a_number, .ref a_easel, .ref a_had, .ref a_pleased])), (a_pleased, .inl (vxT x 0, 6, .inl s_pleased))] [(0, .ref a0), (1, .int l1), (2, .int l2)] 4 [] := by
  refine lq2_V (G := fun l1 l2 => V x 0 0 [(a0, .inr (2, [.int s_face, .int s_lamp, .int s_stove, .int s_pose, .int s_rule, .int s_painters, .ref a_kind, .ref a_number, .ref a_easel, .ref a_had, .ref a_pleased])), (a_pleased, .inl (vxT x 0, 6, .inl s_pleased))] [(0, .ref a0), (1, .int l1), (2, .int l2)] 4 []) ?_
  intro kp_4 hk_4 l1 l2 hf
  unfold f_X2_sum_4 at hf
  refine v_iload_n X 2 rfl dX2_sum_4 ?_
  refine v_aload_n X 0 rfl dX2_sum_5 ?_
  refine v_get X xinX2 0 rfl rfl 5 (by decide) wd5 rfl rfl dX2_sum_6 ?_
  refine v_icmp_ge X (tgt := 27) hf (by decide) dX2_sum_9 (fun c9 hf => ?_) (fun c9 hf => ?_)
  · refine v_iload_n X 1 rfl dX2_sum_27 ?_
    obtain rfl := Option.some.inj hf
    exact v_iret hR dX2_sum_28
  · refine v_iload_n X 1 rfl dX2_sum_12 ?_
    refine v_aload_n X 0 rfl dX2_sum_13 ?_
    refine v_get X xinX2 0 rfl rfl 10 (by decide) wd10 rfl rfl dX2_sum_14 ?_
    refine v_iload_n X 2 rfl dX2_sum_17 ?_
    refine v_iald X 1 rfl hf dX2_sum_18 (fun h18 hf => ?_)
    refine v_iadd X dX2_sum_19 ?_
    refine v_istore_n X rfl (by rw [hN]; decide) (lv' := [(1, .int (l1 + (s_pleased (Int32.toNatClampNeg l2)))), (0, .ref a0), (2, .int l2)]) rfl dX2_sum_20 ?_
    refine v_iinc X 2 rfl (v := (l2 + 1)) rfl (by rw [hN]; decide) (lv' := [(2, .int (l2 + 1)), (1, .int (l1 + (s_pleased (Int32.toNatClampNeg l2)))), (0, .ref a0)]) rfl dX2_sum_21 ?_
    refine v_goto X (tgt := 4) (by decide) dX2_sum_24 ?_
    refine v_lv [2, 1, 0] rfl ?_
    exact hk_4 _ _ hf
set_option maxRecDepth 100000 in
set_option maxHeartbeats 4000000 in
theorem t_X2_sum {x : VX} {r : Int32} {a0 : Nat} {a_pleased : Nat} {a_kind : Nat} {a_number : Nat} {a_easel : Nat} {a_had : Nat} {s_face : Int32} {s_lamp : Int32} {s_stove : Int32} {s_pose : Int32} {s_rule : Int32} {s_painters : Int32} {s_pleased : Nat → Int32} (X : Cx x cX2_sum RX2 1) (hN : vxn x = 3) (hR : RetI x cX2_sum 0 0 r [(a0, .inr (2, [.int s_face, .int s_lamp, .int s_stove, .int s_pose, .int s_rule, .int s_painters, .ref a_kind, .ref a_number, .ref a_easel, .ref a_had, .ref a_pleased])), (a_pleased, .inl (vxT x 0, 6, .inl s_pleased))]) (hf : f_X2_sum s_painters s_pleased = some r) : V x 0 0 [(a0, .inr (2, [.int s_face, .int s_lamp, .int s_stove, .int s_pose, .int s_rule, .int s_painters, .ref a_kind, .ref a_number, .ref a_easel, .ref a_had, .ref a_pleased])), (a_pleased, .inl (vxT x 0, 6, .inl s_pleased))] [(0, .ref a0)] 0 [] := by
  unfold f_X2_sum at hf
  refine v_iconst X (v := 0) (by decide) dX2_sum_0 ?_
  refine v_istore_n X rfl (by rw [hN]; decide) (lv' := [(1, .int 0), (0, .ref a0)]) rfl dX2_sum_1 ?_
  refine v_iconst X (v := 0) (by decide) dX2_sum_2 ?_
  refine v_istore_n X rfl (by rw [hN]; decide) (lv' := [(2, .int 0), (1, .int 0), (0, .ref a0)]) rfl dX2_sum_3 ?_
  refine v_lv [2, 1, 0] rfl ?_
  exact t_X2_sum_4 X hN hR 200 _ _ hf
set_option maxRecDepth 100000 in
set_option maxHeartbeats 4000000 in
theorem c_X2_sum {l : Launch} {D : va_G} {qT : Nat → ClassId} {Z : (Nat → Prop) → State → Heap → Prop} {r : Int32} {a0 : Nat} {a_pleased : Nat} {a_kind : Nat} {a_number : Nat} {a_easel : Nat} {a_had : Nat} {s_face : Int32} {s_lamp : Int32} {s_stove : Int32} {s_pose : Int32} {s_rule : Int32} {s_painters : Int32} {s_pleased : Nat → Int32} (hZ : ZOK Z) (hf : f_X2_sum s_painters s_pleased = some r) :
    CI l D qT Z yX2_sum cX2_sum 3 (some .int) 1 0 0 [.ref a0] [(a0, .inr (2, [.int s_face, .int s_lamp, .int s_stove, .int s_pose, .int s_rule, .int s_painters, .ref a_kind, .ref a_number, .ref a_easel, .ref a_had, .ref a_pleased])), (a_pleased, .inl (qT 0, 6, .inl s_pleased))] r [(a0, .inr (2, [.int s_face, .int s_lamp, .int s_stove, .int s_pose, .int s_rule, .int s_painters, .ref a_kind, .ref a_number, .ref a_easel, .ref a_had, .ref a_pleased])), (a_pleased, .inl (qT 0, 6, .inl s_pleased))] := by
  refine CI_of hZ (by decide) (Nat.le_of_ble_eq_true rfl) ?_
  intro x e1 e2 e3 e4 e5 e6 hin X hR
  subst e1 e2 e3 e4
  exact t_X2_sum X e6 hR hf
def f_X2_leastPleased_4 (s_painters : Int32) (s_pleased : Nat → Int32) (kp_4 : Int32 → Int32 → Option (Int32)) (l1 : Int32) (l2 : Int32) : Option (Int32) :=
  if s_painters ≤ l2 then (
  some l1) else (
  if l1 = (-1) then (
  kp_4 l2 (l2 + 1)) else (
  if inb l2 6 = true then (
  if inb l1 6 = true then (
  if (s_pleased (Int32.toNatClampNeg l1)) ≤ (s_pleased (Int32.toNatClampNeg l2)) then (
  kp_4 l1 (l2 + 1)) else (
  kp_4 l2 (l2 + 1))) else none) else none))
def f_X2_leastPleased (s_painters : Int32) (s_pleased : Nat → Int32) : Option (Int32) :=
  lq2 (f_X2_leastPleased_4 s_painters s_pleased) 200 (-1) 0
set_option maxRecDepth 100000 in
set_option maxHeartbeats 4000000 in
theorem t_X2_leastPleased_4 {x : VX} {r : Int32} {a0 : Nat} {a_pleased : Nat} {a_kind : Nat} {a_number : Nat} {a_easel : Nat} {a_had : Nat} {s_face : Int32} {s_lamp : Int32} {s_stove : Int32} {s_pose : Int32} {s_rule : Int32} {s_painters : Int32} {s_pleased : Nat → Int32} (X : Cx x cX2_leastPleased RX2 1) (hN : vxn x = 3) (hR : RetI x cX2_leastPleased 0 0 r [(a0, .inr (2, [.int s_face, .int s_lamp, .int s_stove, .int s_pose, .int s_rule, .int s_painters, .ref a_kind, .ref a_number, .ref a_easel, .ref a_had, .ref a_pleased])), (a_pleased, .inl (vxT x 0, 6, .inl s_pleased))]) :
    ∀ (fu : Nat) (l1 : Int32) (l2 : Int32), lq2 (f_X2_leastPleased_4 s_painters s_pleased) fu l1 l2 = some r → V x 0 0 [(a0, .inr (2, [.int s_face, .int s_lamp, .int s_stove, .int s_pose, .int s_rule, .int s_painters, .ref a_kind, .ref a_number, .ref a_easel, .ref a_had, .ref a_pleased])), (a_pleased, .inl (vxT x 0, 6, .inl s_pleased))] [(0, .ref a0), (1, .int l1), (2, .int l2)] 4 [] := by
  refine lq2_V (G := fun l1 l2 => V x 0 0 [(a0, .inr (2, [.int s_face, .int s_lamp, .int s_stove, .int s_pose, .int s_rule, .int s_painters, .ref a_kind, .ref a_number, .ref a_easel, .ref a_had, .ref a_pleased])), (a_pleased, .inl (vxT x 0, 6, .inl s_pleased))] [(0, .ref a0), (1, .int l1), (2, .int l2)] 4 []) ?_
  intro kp_4 hk_4 l1 l2 hf
  unfold f_X2_leastPleased_4 at hf
  refine v_iload_n X 2 rfl dX2_leastPleased_4 ?_
  refine v_aload_n X 0 rfl dX2_leastPleased_5 ?_
  refine v_get X xinX2 0 rfl rfl 5 (by decide) wd5 rfl rfl dX2_leastPleased_6 ?_
  refine v_icmp_ge X (tgt := 40) hf (by decide) dX2_leastPleased_9 (fun c9 hf => ?_) (fun c9 hf => ?_)
  · refine v_iload_n X 1 rfl dX2_leastPleased_40 ?_
    obtain rfl := Option.some.inj hf
    exact v_iret hR dX2_leastPleased_41
  · refine v_iload_n X 1 rfl dX2_leastPleased_12 ?_
    refine v_iconst X (v := (-1)) (by decide) dX2_leastPleased_13 ?_
    refine v_icmp_eq X (tgt := 32) hf (by decide) dX2_leastPleased_14 (fun c14 hf => ?_) (fun c14 hf => ?_)
    · refine v_iload_n X 2 rfl dX2_leastPleased_32 ?_
      refine v_istore_n X rfl (by rw [hN]; decide) (lv' := [(1, .int l2), (0, .ref a0), (2, .int l2)]) rfl dX2_leastPleased_33 ?_
      refine v_iinc X 2 rfl (v := (l2 + 1)) rfl (by rw [hN]; decide) (lv' := [(2, .int (l2 + 1)), (1, .int l2), (0, .ref a0)]) rfl dX2_leastPleased_34 ?_
      refine v_goto X (tgt := 4) (by decide) dX2_leastPleased_37 ?_
      refine v_lv [2, 1, 0] rfl ?_
      exact hk_4 _ _ hf
    · refine v_aload_n X 0 rfl dX2_leastPleased_17 ?_
      refine v_get X xinX2 0 rfl rfl 10 (by decide) wd10 rfl rfl dX2_leastPleased_18 ?_
      refine v_iload_n X 2 rfl dX2_leastPleased_21 ?_
      refine v_iald X 1 rfl hf dX2_leastPleased_22 (fun h22 hf => ?_)
      refine v_aload_n X 0 rfl dX2_leastPleased_23 ?_
      refine v_get X xinX2 0 rfl rfl 10 (by decide) wd10 rfl rfl dX2_leastPleased_24 ?_
      refine v_iload_n X 1 rfl dX2_leastPleased_27 ?_
      refine v_iald X 1 rfl hf dX2_leastPleased_28 (fun h28 hf => ?_)
      refine v_icmp_ge X (tgt := 34) hf (by decide) dX2_leastPleased_29 (fun c29 hf => ?_) (fun c29 hf => ?_)
      · refine v_iinc X 2 rfl (v := (l2 + 1)) rfl (by rw [hN]; decide) (lv' := [(2, .int (l2 + 1)), (0, .ref a0), (1, .int l1)]) rfl dX2_leastPleased_34 ?_
        refine v_goto X (tgt := 4) (by decide) dX2_leastPleased_37 ?_
        refine v_lv [1, 2, 0] rfl ?_
        exact hk_4 _ _ hf
      · refine v_iload_n X 2 rfl dX2_leastPleased_32 ?_
        refine v_istore_n X rfl (by rw [hN]; decide) (lv' := [(1, .int l2), (0, .ref a0), (2, .int l2)]) rfl dX2_leastPleased_33 ?_
        refine v_iinc X 2 rfl (v := (l2 + 1)) rfl (by rw [hN]; decide) (lv' := [(2, .int (l2 + 1)), (1, .int l2), (0, .ref a0)]) rfl dX2_leastPleased_34 ?_
        refine v_goto X (tgt := 4) (by decide) dX2_leastPleased_37 ?_
        refine v_lv [2, 1, 0] rfl ?_
        exact hk_4 _ _ hf
set_option maxRecDepth 100000 in
set_option maxHeartbeats 4000000 in
theorem t_X2_leastPleased {x : VX} {r : Int32} {a0 : Nat} {a_pleased : Nat} {a_kind : Nat} {a_number : Nat} {a_easel : Nat} {a_had : Nat} {s_face : Int32} {s_lamp : Int32} {s_stove : Int32} {s_pose : Int32} {s_rule : Int32} {s_painters : Int32} {s_pleased : Nat → Int32} (X : Cx x cX2_leastPleased RX2 1) (hN : vxn x = 3) (hR : RetI x cX2_leastPleased 0 0 r [(a0, .inr (2, [.int s_face, .int s_lamp, .int s_stove, .int s_pose, .int s_rule, .int s_painters, .ref a_kind, .ref a_number, .ref a_easel, .ref a_had, .ref a_pleased])), (a_pleased, .inl (vxT x 0, 6, .inl s_pleased))]) (hf : f_X2_leastPleased s_painters s_pleased = some r) : V x 0 0 [(a0, .inr (2, [.int s_face, .int s_lamp, .int s_stove, .int s_pose, .int s_rule, .int s_painters, .ref a_kind, .ref a_number, .ref a_easel, .ref a_had, .ref a_pleased])), (a_pleased, .inl (vxT x 0, 6, .inl s_pleased))] [(0, .ref a0)] 0 [] := by
  unfold f_X2_leastPleased at hf
  refine v_iconst X (v := (-1)) (by decide) dX2_leastPleased_0 ?_
  refine v_istore_n X rfl (by rw [hN]; decide) (lv' := [(1, .int (-1)), (0, .ref a0)]) rfl dX2_leastPleased_1 ?_
  refine v_iconst X (v := 0) (by decide) dX2_leastPleased_2 ?_
  refine v_istore_n X rfl (by rw [hN]; decide) (lv' := [(2, .int 0), (1, .int (-1)), (0, .ref a0)]) rfl dX2_leastPleased_3 ?_
  refine v_lv [2, 1, 0] rfl ?_
  exact t_X2_leastPleased_4 X hN hR 200 _ _ hf
set_option maxRecDepth 100000 in
set_option maxHeartbeats 4000000 in
theorem c_X2_leastPleased {l : Launch} {D : va_G} {qT : Nat → ClassId} {Z : (Nat → Prop) → State → Heap → Prop} {r : Int32} {a0 : Nat} {a_pleased : Nat} {a_kind : Nat} {a_number : Nat} {a_easel : Nat} {a_had : Nat} {s_face : Int32} {s_lamp : Int32} {s_stove : Int32} {s_pose : Int32} {s_rule : Int32} {s_painters : Int32} {s_pleased : Nat → Int32} (hZ : ZOK Z) (hf : f_X2_leastPleased s_painters s_pleased = some r) :
    CI l D qT Z yX2_leastPleased cX2_leastPleased 3 (some .int) 1 0 0 [.ref a0] [(a0, .inr (2, [.int s_face, .int s_lamp, .int s_stove, .int s_pose, .int s_rule, .int s_painters, .ref a_kind, .ref a_number, .ref a_easel, .ref a_had, .ref a_pleased])), (a_pleased, .inl (qT 0, 6, .inl s_pleased))] r [(a0, .inr (2, [.int s_face, .int s_lamp, .int s_stove, .int s_pose, .int s_rule, .int s_painters, .ref a_kind, .ref a_number, .ref a_easel, .ref a_had, .ref a_pleased])), (a_pleased, .inl (qT 0, 6, .inl s_pleased))] := by
  refine CI_of hZ (by decide) (Nat.le_of_ble_eq_true rfl) ?_
  intro x e1 e2 e3 e4 e5 e6 hin X hR
  subst e1 e2 e3 e4
  exact t_X2_leastPleased X e6 hR hf
def f_X2_least (s_painters : Int32) (s_pleased : Nat → Int32) : Option (Int32) :=
  (f_X2_leastPleased s_painters s_pleased).bind (fun v1_1 =>
  if v1_1 = (-1) then (
  some 0) else (
  if inb v1_1 6 = true then (
  some (s_pleased (Int32.toNatClampNeg v1_1))) else none))
set_option maxRecDepth 100000 in
set_option maxHeartbeats 4000000 in
theorem t_X2_least {x : VX} {r : Int32} {a0 : Nat} {a_pleased : Nat} {a_kind : Nat} {a_number : Nat} {a_easel : Nat} {a_had : Nat} {s_face : Int32} {s_lamp : Int32} {s_stove : Int32} {s_pose : Int32} {s_rule : Int32} {s_painters : Int32} {s_pleased : Nat → Int32} (X : Cx x cX2_least RX2 2) (hN : vxn x = 2) (hR : RetI x cX2_least 0 0 r [(a0, .inr (2, [.int s_face, .int s_lamp, .int s_stove, .int s_pose, .int s_rule, .int s_painters, .ref a_kind, .ref a_number, .ref a_easel, .ref a_had, .ref a_pleased])), (a_pleased, .inl (vxT x 0, 6, .inl s_pleased))]) (hf : f_X2_least s_painters s_pleased = some r) : V x 0 0 [(a0, .inr (2, [.int s_face, .int s_lamp, .int s_stove, .int s_pose, .int s_rule, .int s_painters, .ref a_kind, .ref a_number, .ref a_easel, .ref a_had, .ref a_pleased])), (a_pleased, .inl (vxT x 0, 6, .inl s_pleased))] [(0, .ref a0)] 0 [] := by
  unfold f_X2_least at hf
  refine v_aload_n X 0 rfl dX2_least_0 ?_
  obtain ⟨v1_1, hv1_1, hf⟩ := bd_some hf
  refine v_callI X (c_X2_leastPleased X.2.2.2.2.2.2.2.1 hv1_1) cwv_X2_85 rfl (by decide) ⟨Nat.zero_le _, Nat.zero_le _⟩ 0 rfl rfl [0, 1] [] [0, 1] rfl (by decide) (wr := []) rfl (by decide) (by decide) (ws2 := [(a0, .inr (2, [.int s_face, .int s_lamp, .int s_stove, .int s_pose, .int s_rule, .int s_painters, .ref a_kind, .ref a_number, .ref a_easel, .ref a_had, .ref a_pleased])), (a_pleased, .inl (vxT x 0, 6, .inl s_pleased))]) rfl (by decide) (Nat.le_of_ble_eq_true rfl) rfl dX2_least_1 ?_
  refine v_istore_n X rfl (by rw [hN]; decide) (lv' := [(1, .int v1_1), (0, .ref a0)]) rfl dX2_least_4 ?_
  refine v_iload_n X 0 rfl dX2_least_5 ?_
  refine v_iconst X (v := (-1)) (by decide) dX2_least_6 ?_
  refine v_icmp_ne X (tgt := 14) hf (by decide) dX2_least_7 (fun c7 hf => ?_) (fun c7 hf => ?_)
  · refine v_aload_n X 1 rfl dX2_least_14 ?_
    refine v_get X xinX2 0 rfl rfl 10 (by decide) wd10 rfl rfl dX2_least_15 ?_
    refine v_iload_n X 0 rfl dX2_least_18 ?_
    refine v_iald X 1 rfl hf dX2_least_19 (fun h19 hf => ?_)
    obtain rfl := Option.some.inj hf
    exact v_iret hR dX2_least_20
  · refine v_iconst X (v := 0) (by decide) dX2_least_10 ?_
    refine v_goto X (tgt := 20) (by decide) dX2_least_11 ?_
    obtain rfl := Option.some.inj hf
    exact v_iret hR dX2_least_20
set_option maxRecDepth 100000 in
set_option maxHeartbeats 4000000 in
theorem c_X2_least {l : Launch} {D : va_G} {qT : Nat → ClassId} {Z : (Nat → Prop) → State → Heap → Prop} {r : Int32} {a0 : Nat} {a_pleased : Nat} {a_kind : Nat} {a_number : Nat} {a_easel : Nat} {a_had : Nat} {s_face : Int32} {s_lamp : Int32} {s_stove : Int32} {s_pose : Int32} {s_rule : Int32} {s_painters : Int32} {s_pleased : Nat → Int32} (hZ : ZOK Z) (hf : f_X2_least s_painters s_pleased = some r) :
    CI l D qT Z yX2_least cX2_least 2 (some .int) 2 0 0 [.ref a0] [(a0, .inr (2, [.int s_face, .int s_lamp, .int s_stove, .int s_pose, .int s_rule, .int s_painters, .ref a_kind, .ref a_number, .ref a_easel, .ref a_had, .ref a_pleased])), (a_pleased, .inl (qT 0, 6, .inl s_pleased))] r [(a0, .inr (2, [.int s_face, .int s_lamp, .int s_stove, .int s_pose, .int s_rule, .int s_painters, .ref a_kind, .ref a_number, .ref a_easel, .ref a_had, .ref a_pleased])), (a_pleased, .inl (qT 0, 6, .inl s_pleased))] := by
  refine CI_of hZ (by decide) (Nat.le_of_ble_eq_true rfl) ?_
  intro x e1 e2 e3 e4 e5 e6 hin X hR
  subst e1 e2 e3 e4
  exact t_X2_least X e6 hR hf
def f_X2_take (p1_face : Int32) (p1_lamp : Int32) (p1_stove : Int32) (p1_pose : Int32) (p1_rule : Int32) (p1_painters : Int32) (p1_kind : Nat → Int32) (p1_number : Nat → Int32) (p1_easel : Nat → Int32) (p1_had : Nat → Int32) (p1_pleased : Nat → Int32) : Option (Int32 × Int32 × Int32 × Int32 × Int32 × Int32 × (Nat → Int32) × (Nat → Int32) × (Nat → Int32) × (Nat → Int32) × (Nat → Int32)) :=
  if cpok 0 0 6 6 6 = true then (
  if cpok 0 0 6 6 6 = true then (
  if cpok 0 0 6 6 6 = true then (
  if cpok 0 0 6 6 6 = true then (
  if cpok 0 0 6 6 6 = true then (
  some (p1_face, p1_lamp, p1_stove, p1_pose, p1_rule, p1_painters, p1_kind, p1_number, p1_easel, p1_had, p1_pleased)) else none) else none) else none) else none) else none
set_option maxRecDepth 100000 in
set_option maxHeartbeats 4000000 in
theorem t_X2_take {x : VX} {r : Int32 × Int32 × Int32 × Int32 × Int32 × Int32 × (Nat → Int32) × (Nat → Int32) × (Nat → Int32) × (Nat → Int32) × (Nat → Int32)} {a0 : Nat} {a_p1 : Nat} {a_p1_kind : Nat} {a_kind : Nat} {a_p1_number : Nat} {a_number : Nat} {a_p1_easel : Nat} {a_easel : Nat} {a_p1_had : Nat} {a_had : Nat} {a_p1_pleased : Nat} {a_pleased : Nat} {s_face : Int32} {s_lamp : Int32} {s_stove : Int32} {s_pose : Int32} {s_rule : Int32} {s_painters : Int32} {p1_face : Int32} {p1_lamp : Int32} {p1_stove : Int32} {p1_pose : Int32} {p1_rule : Int32} {p1_painters : Int32} {p1_kind : Nat → Int32} {s_kind : Nat → Int32} {p1_number : Nat → Int32} {s_number : Nat → Int32} {p1_easel : Nat → Int32} {s_easel : Nat → Int32} {p1_had : Nat → Int32} {s_had : Nat → Int32} {p1_pleased : Nat → Int32} {s_pleased : Nat → Int32} (X : Cx x cX2_take RX2 1) (hN : vxn x = 2) (hR : RetV x cX2_take 0 0 [(a0, .inr (2, [.int r.1, .int r.2.1, .int r.2.2.1, .int r.2.2.2.1, .int r.2.2.2.2.1, .int r.2.2.2.2.2.1, .ref a_kind, .ref a_number, .ref a_easel, .ref a_had, .ref a_pleased])), (a_p1, .inr (2, [.int p1_face, .int p1_lamp, .int p1_stove, .int p1_pose, .int p1_rule, .int p1_painters, .ref a_p1_kind, .ref a_p1_number, .ref a_p1_easel, .ref a_p1_had, .ref a_p1_pleased])), (a_p1_kind, .inl (vxT x 0, 6, .inl p1_kind)), (a_kind, .inl (vxT x 0, 6, .inl r.2.2.2.2.2.2.1)), (a_p1_number, .inl (vxT x 0, 6, .inl p1_number)), (a_number, .inl (vxT x 0, 6, .inl r.2.2.2.2.2.2.2.1)), (a_p1_easel, .inl (vxT x 0, 6, .inl p1_easel)), (a_easel, .inl (vxT x 0, 6, .inl r.2.2.2.2.2.2.2.2.1)), (a_p1_had, .inl (vxT x 0, 6, .inl p1_had)), (a_had, .inl (vxT x 0, 6, .inl r.2.2.2.2.2.2.2.2.2.1)), (a_p1_pleased, .inl (vxT x 0, 6, .inl p1_pleased)), (a_pleased, .inl (vxT x 0, 6, .inl r.2.2.2.2.2.2.2.2.2.2))]) (hf : f_X2_take p1_face p1_lamp p1_stove p1_pose p1_rule p1_painters p1_kind p1_number p1_easel p1_had p1_pleased = some r) : V x 0 0 [(a0, .inr (2, [.int s_face, .int s_lamp, .int s_stove, .int s_pose, .int s_rule, .int s_painters, .ref a_kind, .ref a_number, .ref a_easel, .ref a_had, .ref a_pleased])), (a_p1, .inr (2, [.int p1_face, .int p1_lamp, .int p1_stove, .int p1_pose, .int p1_rule, .int p1_painters, .ref a_p1_kind, .ref a_p1_number, .ref a_p1_easel, .ref a_p1_had, .ref a_p1_pleased])), (a_p1_kind, .inl (vxT x 0, 6, .inl p1_kind)), (a_kind, .inl (vxT x 0, 6, .inl s_kind)), (a_p1_number, .inl (vxT x 0, 6, .inl p1_number)), (a_number, .inl (vxT x 0, 6, .inl s_number)), (a_p1_easel, .inl (vxT x 0, 6, .inl p1_easel)), (a_easel, .inl (vxT x 0, 6, .inl s_easel)), (a_p1_had, .inl (vxT x 0, 6, .inl p1_had)), (a_had, .inl (vxT x 0, 6, .inl s_had)), (a_p1_pleased, .inl (vxT x 0, 6, .inl p1_pleased)), (a_pleased, .inl (vxT x 0, 6, .inl s_pleased))] [(0, .ref a0), (1, .ref a_p1)] 0 [] := by
  unfold f_X2_take at hf
  refine v_aload_n X 0 rfl dX2_take_0 ?_
  refine v_aload_n X 1 rfl dX2_take_1 ?_
  refine v_get X xinX2 1 rfl rfl 0 (by decide) wd23 rfl rfl dX2_take_2 ?_
  refine v_put X xinX2 tyX2 tyX2_ok nmX2 0 rfl rfl 0 (by decide) wd23 rfl rfl rfl rfl rfl (Nat.le_of_ble_eq_true rfl) (ws' := [(a0, .inr (2, [.int p1_face, .int s_lamp, .int s_stove, .int s_pose, .int s_rule, .int s_painters, .ref a_kind, .ref a_number, .ref a_easel, .ref a_had, .ref a_pleased])), (a_p1, .inr (2, [.int p1_face, .int p1_lamp, .int p1_stove, .int p1_pose, .int p1_rule, .int p1_painters, .ref a_p1_kind, .ref a_p1_number, .ref a_p1_easel, .ref a_p1_had, .ref a_p1_pleased])), (a_p1_kind, .inl (vxT x 0, 6, .inl p1_kind)), (a_kind, .inl (vxT x 0, 6, .inl s_kind)), (a_p1_number, .inl (vxT x 0, 6, .inl p1_number)), (a_number, .inl (vxT x 0, 6, .inl s_number)), (a_p1_easel, .inl (vxT x 0, 6, .inl p1_easel)), (a_easel, .inl (vxT x 0, 6, .inl s_easel)), (a_p1_had, .inl (vxT x 0, 6, .inl p1_had)), (a_had, .inl (vxT x 0, 6, .inl s_had)), (a_p1_pleased, .inl (vxT x 0, 6, .inl p1_pleased)), (a_pleased, .inl (vxT x 0, 6, .inl s_pleased))]) rfl dX2_take_5 ?_
  refine v_aload_n X 0 rfl dX2_take_8 ?_
  refine v_aload_n X 1 rfl dX2_take_9 ?_
  refine v_get X xinX2 1 rfl rfl 1 (by decide) wd33 rfl rfl dX2_take_10 ?_
  refine v_put X xinX2 tyX2 tyX2_ok nmX2 0 rfl rfl 1 (by decide) wd33 rfl rfl rfl rfl rfl (Nat.le_of_ble_eq_true rfl) (ws' := [(a0, .inr (2, [.int p1_face, .int p1_lamp, .int s_stove, .int s_pose, .int s_rule, .int s_painters, .ref a_kind, .ref a_number, .ref a_easel, .ref a_had, .ref a_pleased])), (a_p1, .inr (2, [.int p1_face, .int p1_lamp, .int p1_stove, .int p1_pose, .int p1_rule, .int p1_painters, .ref a_p1_kind, .ref a_p1_number, .ref a_p1_easel, .ref a_p1_had, .ref a_p1_pleased])), (a_p1_kind, .inl (vxT x 0, 6, .inl p1_kind)), (a_kind, .inl (vxT x 0, 6, .inl s_kind)), (a_p1_number, .inl (vxT x 0, 6, .inl p1_number)), (a_number, .inl (vxT x 0, 6, .inl s_number)), (a_p1_easel, .inl (vxT x 0, 6, .inl p1_easel)), (a_easel, .inl (vxT x 0, 6, .inl s_easel)), (a_p1_had, .inl (vxT x 0, 6, .inl p1_had)), (a_had, .inl (vxT x 0, 6, .inl s_had)), (a_p1_pleased, .inl (vxT x 0, 6, .inl p1_pleased)), (a_pleased, .inl (vxT x 0, 6, .inl s_pleased))]) rfl dX2_take_13 ?_
  refine v_aload_n X 0 rfl dX2_take_16 ?_
  refine v_aload_n X 1 rfl dX2_take_17 ?_
  refine v_get X xinX2 1 rfl rfl 2 (by decide) wd34 rfl rfl dX2_take_18 ?_
  refine v_put X xinX2 tyX2 tyX2_ok nmX2 0 rfl rfl 2 (by decide) wd34 rfl rfl rfl rfl rfl (Nat.le_of_ble_eq_true rfl) (ws' := [(a0, .inr (2, [.int p1_face, .int p1_lamp, .int p1_stove, .int s_pose, .int s_rule, .int s_painters, .ref a_kind, .ref a_number, .ref a_easel, .ref a_had, .ref a_pleased])), (a_p1, .inr (2, [.int p1_face, .int p1_lamp, .int p1_stove, .int p1_pose, .int p1_rule, .int p1_painters, .ref a_p1_kind, .ref a_p1_number, .ref a_p1_easel, .ref a_p1_had, .ref a_p1_pleased])), (a_p1_kind, .inl (vxT x 0, 6, .inl p1_kind)), (a_kind, .inl (vxT x 0, 6, .inl s_kind)), (a_p1_number, .inl (vxT x 0, 6, .inl p1_number)), (a_number, .inl (vxT x 0, 6, .inl s_number)), (a_p1_easel, .inl (vxT x 0, 6, .inl p1_easel)), (a_easel, .inl (vxT x 0, 6, .inl s_easel)), (a_p1_had, .inl (vxT x 0, 6, .inl p1_had)), (a_had, .inl (vxT x 0, 6, .inl s_had)), (a_p1_pleased, .inl (vxT x 0, 6, .inl p1_pleased)), (a_pleased, .inl (vxT x 0, 6, .inl s_pleased))]) rfl dX2_take_21 ?_
  refine v_aload_n X 0 rfl dX2_take_24 ?_
  refine v_aload_n X 1 rfl dX2_take_25 ?_
  refine v_get X xinX2 1 rfl rfl 3 (by decide) wd35 rfl rfl dX2_take_26 ?_
  refine v_put X xinX2 tyX2 tyX2_ok nmX2 0 rfl rfl 3 (by decide) wd35 rfl rfl rfl rfl rfl (Nat.le_of_ble_eq_true rfl) (ws' := [(a0, .inr (2, [.int p1_face, .int p1_lamp, .int p1_stove, .int p1_pose, .int s_rule, .int s_painters, .ref a_kind, .ref a_number, .ref a_easel, .ref a_had, .ref a_pleased])), (a_p1, .inr (2, [.int p1_face, .int p1_lamp, .int p1_stove, .int p1_pose, .int p1_rule, .int p1_painters, .ref a_p1_kind, .ref a_p1_number, .ref a_p1_easel, .ref a_p1_had, .ref a_p1_pleased])), (a_p1_kind, .inl (vxT x 0, 6, .inl p1_kind)), (a_kind, .inl (vxT x 0, 6, .inl s_kind)), (a_p1_number, .inl (vxT x 0, 6, .inl p1_number)), (a_number, .inl (vxT x 0, 6, .inl s_number)), (a_p1_easel, .inl (vxT x 0, 6, .inl p1_easel)), (a_easel, .inl (vxT x 0, 6, .inl s_easel)), (a_p1_had, .inl (vxT x 0, 6, .inl p1_had)), (a_had, .inl (vxT x 0, 6, .inl s_had)), (a_p1_pleased, .inl (vxT x 0, 6, .inl p1_pleased)), (a_pleased, .inl (vxT x 0, 6, .inl s_pleased))]) rfl dX2_take_29 ?_
  refine v_aload_n X 0 rfl dX2_take_32 ?_
  refine v_aload_n X 1 rfl dX2_take_33 ?_
  refine v_get X xinX2 1 rfl rfl 4 (by decide) wd44 rfl rfl dX2_take_34 ?_
  refine v_put X xinX2 tyX2 tyX2_ok nmX2 0 rfl rfl 4 (by decide) wd44 rfl rfl rfl rfl rfl (Nat.le_of_ble_eq_true rfl) (ws' := [(a0, .inr (2, [.int p1_face, .int p1_lamp, .int p1_stove, .int p1_pose, .int p1_rule, .int s_painters, .ref a_kind, .ref a_number, .ref a_easel, .ref a_had, .ref a_pleased])), (a_p1, .inr (2, [.int p1_face, .int p1_lamp, .int p1_stove, .int p1_pose, .int p1_rule, .int p1_painters, .ref a_p1_kind, .ref a_p1_number, .ref a_p1_easel, .ref a_p1_had, .ref a_p1_pleased])), (a_p1_kind, .inl (vxT x 0, 6, .inl p1_kind)), (a_kind, .inl (vxT x 0, 6, .inl s_kind)), (a_p1_number, .inl (vxT x 0, 6, .inl p1_number)), (a_number, .inl (vxT x 0, 6, .inl s_number)), (a_p1_easel, .inl (vxT x 0, 6, .inl p1_easel)), (a_easel, .inl (vxT x 0, 6, .inl s_easel)), (a_p1_had, .inl (vxT x 0, 6, .inl p1_had)), (a_had, .inl (vxT x 0, 6, .inl s_had)), (a_p1_pleased, .inl (vxT x 0, 6, .inl p1_pleased)), (a_pleased, .inl (vxT x 0, 6, .inl s_pleased))]) rfl dX2_take_37 ?_
  refine v_aload_n X 0 rfl dX2_take_40 ?_
  refine v_aload_n X 1 rfl dX2_take_41 ?_
  refine v_get X xinX2 1 rfl rfl 5 (by decide) wd5 rfl rfl dX2_take_42 ?_
  refine v_put X xinX2 tyX2 tyX2_ok nmX2 0 rfl rfl 5 (by decide) wd5 rfl rfl rfl rfl rfl (Nat.le_of_ble_eq_true rfl) (ws' := [(a0, .inr (2, [.int p1_face, .int p1_lamp, .int p1_stove, .int p1_pose, .int p1_rule, .int p1_painters, .ref a_kind, .ref a_number, .ref a_easel, .ref a_had, .ref a_pleased])), (a_p1, .inr (2, [.int p1_face, .int p1_lamp, .int p1_stove, .int p1_pose, .int p1_rule, .int p1_painters, .ref a_p1_kind, .ref a_p1_number, .ref a_p1_easel, .ref a_p1_had, .ref a_p1_pleased])), (a_p1_kind, .inl (vxT x 0, 6, .inl p1_kind)), (a_kind, .inl (vxT x 0, 6, .inl s_kind)), (a_p1_number, .inl (vxT x 0, 6, .inl p1_number)), (a_number, .inl (vxT x 0, 6, .inl s_number)), (a_p1_easel, .inl (vxT x 0, 6, .inl p1_easel)), (a_easel, .inl (vxT x 0, 6, .inl s_easel)), (a_p1_had, .inl (vxT x 0, 6, .inl p1_had)), (a_had, .inl (vxT x 0, 6, .inl s_had)), (a_p1_pleased, .inl (vxT x 0, 6, .inl p1_pleased)), (a_pleased, .inl (vxT x 0, 6, .inl s_pleased))]) rfl dX2_take_45 ?_
  refine v_aload_n X 1 rfl dX2_take_48 ?_
  refine v_get X xinX2 1 rfl rfl 6 (by decide) wd6 rfl rfl dX2_take_49 ?_
  refine v_iconst X (v := 0) (by decide) dX2_take_52 ?_
  refine v_aload_n X 0 rfl dX2_take_53 ?_
  refine v_get X xinX2 0 rfl rfl 6 (by decide) wd6 rfl rfl dX2_take_54 ?_
  refine v_iconst X (v := 0) (by decide) dX2_take_57 ?_
  refine v_bipush X (v := 6) (by decide) dX2_take_58 ?_
  refine v_copyi X wd45 2 3 rfl rfl hf (ws' := [(a0, .inr (2, [.int p1_face, .int p1_lamp, .int p1_stove, .int p1_pose, .int p1_rule, .int p1_painters, .ref a_kind, .ref a_number, .ref a_easel, .ref a_had, .ref a_pleased])), (a_p1, .inr (2, [.int p1_face, .int p1_lamp, .int p1_stove, .int p1_pose, .int p1_rule, .int p1_painters, .ref a_p1_kind, .ref a_p1_number, .ref a_p1_easel, .ref a_p1_had, .ref a_p1_pleased])), (a_p1_kind, .inl (vxT x 0, 6, .inl p1_kind)), (a_kind, .inl (vxT x 0, 6, .inl (va_cpy p1_kind s_kind (Int32.toNatClampNeg 0) (Int32.toNatClampNeg 0) (Int32.toNatClampNeg 6)))), (a_p1_number, .inl (vxT x 0, 6, .inl p1_number)), (a_number, .inl (vxT x 0, 6, .inl s_number)), (a_p1_easel, .inl (vxT x 0, 6, .inl p1_easel)), (a_easel, .inl (vxT x 0, 6, .inl s_easel)), (a_p1_had, .inl (vxT x 0, 6, .inl p1_had)), (a_had, .inl (vxT x 0, 6, .inl s_had)), (a_p1_pleased, .inl (vxT x 0, 6, .inl p1_pleased)), (a_pleased, .inl (vxT x 0, 6, .inl s_pleased))]) rfl (by decide) (Nat.le_of_ble_eq_true rfl) dX2_take_60 (fun h60 hf => ?_)
  refine v_arr 3 rfl (g := p1_kind) (cpy_all (n := 6)) ?_
  refine v_ws (ws' := [(a0, .inr (2, [.int p1_face, .int p1_lamp, .int p1_stove, .int p1_pose, .int p1_rule, .int p1_painters, .ref a_kind, .ref a_number, .ref a_easel, .ref a_had, .ref a_pleased])), (a_p1, .inr (2, [.int p1_face, .int p1_lamp, .int p1_stove, .int p1_pose, .int p1_rule, .int p1_painters, .ref a_p1_kind, .ref a_p1_number, .ref a_p1_easel, .ref a_p1_had, .ref a_p1_pleased])), (a_p1_kind, .inl (vxT x 0, 6, .inl p1_kind)), (a_kind, .inl (vxT x 0, 6, .inl p1_kind)), (a_p1_number, .inl (vxT x 0, 6, .inl p1_number)), (a_number, .inl (vxT x 0, 6, .inl s_number)), (a_p1_easel, .inl (vxT x 0, 6, .inl p1_easel)), (a_easel, .inl (vxT x 0, 6, .inl s_easel)), (a_p1_had, .inl (vxT x 0, 6, .inl p1_had)), (a_had, .inl (vxT x 0, 6, .inl s_had)), (a_p1_pleased, .inl (vxT x 0, 6, .inl p1_pleased)), (a_pleased, .inl (vxT x 0, 6, .inl s_pleased))]) rfl ?_
  refine v_aload_n X 1 rfl dX2_take_63 ?_
  refine v_get X xinX2 1 rfl rfl 7 (by decide) wd7 rfl rfl dX2_take_64 ?_
  refine v_iconst X (v := 0) (by decide) dX2_take_67 ?_
  refine v_aload_n X 0 rfl dX2_take_68 ?_
  refine v_get X xinX2 0 rfl rfl 7 (by decide) wd7 rfl rfl dX2_take_69 ?_
  refine v_iconst X (v := 0) (by decide) dX2_take_72 ?_
  refine v_bipush X (v := 6) (by decide) dX2_take_73 ?_
  refine v_copyi X wd45 4 5 rfl rfl hf (ws' := [(a0, .inr (2, [.int p1_face, .int p1_lamp, .int p1_stove, .int p1_pose, .int p1_rule, .int p1_painters, .ref a_kind, .ref a_number, .ref a_easel, .ref a_had, .ref a_pleased])), (a_p1, .inr (2, [.int p1_face, .int p1_lamp, .int p1_stove, .int p1_pose, .int p1_rule, .int p1_painters, .ref a_p1_kind, .ref a_p1_number, .ref a_p1_easel, .ref a_p1_had, .ref a_p1_pleased])), (a_p1_kind, .inl (vxT x 0, 6, .inl p1_kind)), (a_kind, .inl (vxT x 0, 6, .inl p1_kind)), (a_p1_number, .inl (vxT x 0, 6, .inl p1_number)), (a_number, .inl (vxT x 0, 6, .inl (va_cpy p1_number s_number (Int32.toNatClampNeg 0) (Int32.toNatClampNeg 0) (Int32.toNatClampNeg 6)))), (a_p1_easel, .inl (vxT x 0, 6, .inl p1_easel)), (a_easel, .inl (vxT x 0, 6, .inl s_easel)), (a_p1_had, .inl (vxT x 0, 6, .inl p1_had)), (a_had, .inl (vxT x 0, 6, .inl s_had)), (a_p1_pleased, .inl (vxT x 0, 6, .inl p1_pleased)), (a_pleased, .inl (vxT x 0, 6, .inl s_pleased))]) rfl (by decide) (Nat.le_of_ble_eq_true rfl) dX2_take_75 (fun h75 hf => ?_)
  refine v_arr 5 rfl (g := p1_number) (cpy_all (n := 6)) ?_
  refine v_ws (ws' := [(a0, .inr (2, [.int p1_face, .int p1_lamp, .int p1_stove, .int p1_pose, .int p1_rule, .int p1_painters, .ref a_kind, .ref a_number, .ref a_easel, .ref a_had, .ref a_pleased])), (a_p1, .inr (2, [.int p1_face, .int p1_lamp, .int p1_stove, .int p1_pose, .int p1_rule, .int p1_painters, .ref a_p1_kind, .ref a_p1_number, .ref a_p1_easel, .ref a_p1_had, .ref a_p1_pleased])), (a_p1_kind, .inl (vxT x 0, 6, .inl p1_kind)), (a_kind, .inl (vxT x 0, 6, .inl p1_kind)), (a_p1_number, .inl (vxT x 0, 6, .inl p1_number)), (a_number, .inl (vxT x 0, 6, .inl p1_number)), (a_p1_easel, .inl (vxT x 0, 6, .inl p1_easel)), (a_easel, .inl (vxT x 0, 6, .inl s_easel)), (a_p1_had, .inl (vxT x 0, 6, .inl p1_had)), (a_had, .inl (vxT x 0, 6, .inl s_had)), (a_p1_pleased, .inl (vxT x 0, 6, .inl p1_pleased)), (a_pleased, .inl (vxT x 0, 6, .inl s_pleased))]) rfl ?_
  refine v_aload_n X 1 rfl dX2_take_78 ?_
  refine v_get X xinX2 1 rfl rfl 8 (by decide) wd8 rfl rfl dX2_take_79 ?_
  refine v_iconst X (v := 0) (by decide) dX2_take_82 ?_
  refine v_aload_n X 0 rfl dX2_take_83 ?_
  refine v_get X xinX2 0 rfl rfl 8 (by decide) wd8 rfl rfl dX2_take_84 ?_
  refine v_iconst X (v := 0) (by decide) dX2_take_87 ?_
  refine v_bipush X (v := 6) (by decide) dX2_take_88 ?_
  refine v_copyi X wd45 6 7 rfl rfl hf (ws' := [(a0, .inr (2, [.int p1_face, .int p1_lamp, .int p1_stove, .int p1_pose, .int p1_rule, .int p1_painters, .ref a_kind, .ref a_number, .ref a_easel, .ref a_had, .ref a_pleased])), (a_p1, .inr (2, [.int p1_face, .int p1_lamp, .int p1_stove, .int p1_pose, .int p1_rule, .int p1_painters, .ref a_p1_kind, .ref a_p1_number, .ref a_p1_easel, .ref a_p1_had, .ref a_p1_pleased])), (a_p1_kind, .inl (vxT x 0, 6, .inl p1_kind)), (a_kind, .inl (vxT x 0, 6, .inl p1_kind)), (a_p1_number, .inl (vxT x 0, 6, .inl p1_number)), (a_number, .inl (vxT x 0, 6, .inl p1_number)), (a_p1_easel, .inl (vxT x 0, 6, .inl p1_easel)), (a_easel, .inl (vxT x 0, 6, .inl (va_cpy p1_easel s_easel (Int32.toNatClampNeg 0) (Int32.toNatClampNeg 0) (Int32.toNatClampNeg 6)))), (a_p1_had, .inl (vxT x 0, 6, .inl p1_had)), (a_had, .inl (vxT x 0, 6, .inl s_had)), (a_p1_pleased, .inl (vxT x 0, 6, .inl p1_pleased)), (a_pleased, .inl (vxT x 0, 6, .inl s_pleased))]) rfl (by decide) (Nat.le_of_ble_eq_true rfl) dX2_take_90 (fun h90 hf => ?_)
  refine v_arr 7 rfl (g := p1_easel) (cpy_all (n := 6)) ?_
  refine v_ws (ws' := [(a0, .inr (2, [.int p1_face, .int p1_lamp, .int p1_stove, .int p1_pose, .int p1_rule, .int p1_painters, .ref a_kind, .ref a_number, .ref a_easel, .ref a_had, .ref a_pleased])), (a_p1, .inr (2, [.int p1_face, .int p1_lamp, .int p1_stove, .int p1_pose, .int p1_rule, .int p1_painters, .ref a_p1_kind, .ref a_p1_number, .ref a_p1_easel, .ref a_p1_had, .ref a_p1_pleased])), (a_p1_kind, .inl (vxT x 0, 6, .inl p1_kind)), (a_kind, .inl (vxT x 0, 6, .inl p1_kind)), (a_p1_number, .inl (vxT x 0, 6, .inl p1_number)), (a_number, .inl (vxT x 0, 6, .inl p1_number)), (a_p1_easel, .inl (vxT x 0, 6, .inl p1_easel)), (a_easel, .inl (vxT x 0, 6, .inl p1_easel)), (a_p1_had, .inl (vxT x 0, 6, .inl p1_had)), (a_had, .inl (vxT x 0, 6, .inl s_had)), (a_p1_pleased, .inl (vxT x 0, 6, .inl p1_pleased)), (a_pleased, .inl (vxT x 0, 6, .inl s_pleased))]) rfl ?_
  refine v_aload_n X 1 rfl dX2_take_93 ?_
  refine v_get X xinX2 1 rfl rfl 9 (by decide) wd9 rfl rfl dX2_take_94 ?_
  refine v_iconst X (v := 0) (by decide) dX2_take_97 ?_
  refine v_aload_n X 0 rfl dX2_take_98 ?_
  refine v_get X xinX2 0 rfl rfl 9 (by decide) wd9 rfl rfl dX2_take_99 ?_
  refine v_iconst X (v := 0) (by decide) dX2_take_102 ?_
  refine v_bipush X (v := 6) (by decide) dX2_take_103 ?_
  refine v_copyi X wd45 8 9 rfl rfl hf (ws' := [(a0, .inr (2, [.int p1_face, .int p1_lamp, .int p1_stove, .int p1_pose, .int p1_rule, .int p1_painters, .ref a_kind, .ref a_number, .ref a_easel, .ref a_had, .ref a_pleased])), (a_p1, .inr (2, [.int p1_face, .int p1_lamp, .int p1_stove, .int p1_pose, .int p1_rule, .int p1_painters, .ref a_p1_kind, .ref a_p1_number, .ref a_p1_easel, .ref a_p1_had, .ref a_p1_pleased])), (a_p1_kind, .inl (vxT x 0, 6, .inl p1_kind)), (a_kind, .inl (vxT x 0, 6, .inl p1_kind)), (a_p1_number, .inl (vxT x 0, 6, .inl p1_number)), (a_number, .inl (vxT x 0, 6, .inl p1_number)), (a_p1_easel, .inl (vxT x 0, 6, .inl p1_easel)), (a_easel, .inl (vxT x 0, 6, .inl p1_easel)), (a_p1_had, .inl (vxT x 0, 6, .inl p1_had)), (a_had, .inl (vxT x 0, 6, .inl (va_cpy p1_had s_had (Int32.toNatClampNeg 0) (Int32.toNatClampNeg 0) (Int32.toNatClampNeg 6)))), (a_p1_pleased, .inl (vxT x 0, 6, .inl p1_pleased)), (a_pleased, .inl (vxT x 0, 6, .inl s_pleased))]) rfl (by decide) (Nat.le_of_ble_eq_true rfl) dX2_take_105 (fun h105 hf => ?_)
  refine v_arr 9 rfl (g := p1_had) (cpy_all (n := 6)) ?_
  refine v_ws (ws' := [(a0, .inr (2, [.int p1_face, .int p1_lamp, .int p1_stove, .int p1_pose, .int p1_rule, .int p1_painters, .ref a_kind, .ref a_number, .ref a_easel, .ref a_had, .ref a_pleased])), (a_p1, .inr (2, [.int p1_face, .int p1_lamp, .int p1_stove, .int p1_pose, .int p1_rule, .int p1_painters, .ref a_p1_kind, .ref a_p1_number, .ref a_p1_easel, .ref a_p1_had, .ref a_p1_pleased])), (a_p1_kind, .inl (vxT x 0, 6, .inl p1_kind)), (a_kind, .inl (vxT x 0, 6, .inl p1_kind)), (a_p1_number, .inl (vxT x 0, 6, .inl p1_number)), (a_number, .inl (vxT x 0, 6, .inl p1_number)), (a_p1_easel, .inl (vxT x 0, 6, .inl p1_easel)), (a_easel, .inl (vxT x 0, 6, .inl p1_easel)), (a_p1_had, .inl (vxT x 0, 6, .inl p1_had)), (a_had, .inl (vxT x 0, 6, .inl p1_had)), (a_p1_pleased, .inl (vxT x 0, 6, .inl p1_pleased)), (a_pleased, .inl (vxT x 0, 6, .inl s_pleased))]) rfl ?_
  refine v_aload_n X 1 rfl dX2_take_108 ?_
  refine v_get X xinX2 1 rfl rfl 10 (by decide) wd10 rfl rfl dX2_take_109 ?_
  refine v_iconst X (v := 0) (by decide) dX2_take_112 ?_
  refine v_aload_n X 0 rfl dX2_take_113 ?_
  refine v_get X xinX2 0 rfl rfl 10 (by decide) wd10 rfl rfl dX2_take_114 ?_
  refine v_iconst X (v := 0) (by decide) dX2_take_117 ?_
  refine v_bipush X (v := 6) (by decide) dX2_take_118 ?_
  refine v_copyi X wd45 10 11 rfl rfl hf (ws' := [(a0, .inr (2, [.int p1_face, .int p1_lamp, .int p1_stove, .int p1_pose, .int p1_rule, .int p1_painters, .ref a_kind, .ref a_number, .ref a_easel, .ref a_had, .ref a_pleased])), (a_p1, .inr (2, [.int p1_face, .int p1_lamp, .int p1_stove, .int p1_pose, .int p1_rule, .int p1_painters, .ref a_p1_kind, .ref a_p1_number, .ref a_p1_easel, .ref a_p1_had, .ref a_p1_pleased])), (a_p1_kind, .inl (vxT x 0, 6, .inl p1_kind)), (a_kind, .inl (vxT x 0, 6, .inl p1_kind)), (a_p1_number, .inl (vxT x 0, 6, .inl p1_number)), (a_number, .inl (vxT x 0, 6, .inl p1_number)), (a_p1_easel, .inl (vxT x 0, 6, .inl p1_easel)), (a_easel, .inl (vxT x 0, 6, .inl p1_easel)), (a_p1_had, .inl (vxT x 0, 6, .inl p1_had)), (a_had, .inl (vxT x 0, 6, .inl p1_had)), (a_p1_pleased, .inl (vxT x 0, 6, .inl p1_pleased)), (a_pleased, .inl (vxT x 0, 6, .inl (va_cpy p1_pleased s_pleased (Int32.toNatClampNeg 0) (Int32.toNatClampNeg 0) (Int32.toNatClampNeg 6))))]) rfl (by decide) (Nat.le_of_ble_eq_true rfl) dX2_take_120 (fun h120 hf => ?_)
  refine v_arr 11 rfl (g := p1_pleased) (cpy_all (n := 6)) ?_
  refine v_ws (ws' := [(a0, .inr (2, [.int p1_face, .int p1_lamp, .int p1_stove, .int p1_pose, .int p1_rule, .int p1_painters, .ref a_kind, .ref a_number, .ref a_easel, .ref a_had, .ref a_pleased])), (a_p1, .inr (2, [.int p1_face, .int p1_lamp, .int p1_stove, .int p1_pose, .int p1_rule, .int p1_painters, .ref a_p1_kind, .ref a_p1_number, .ref a_p1_easel, .ref a_p1_had, .ref a_p1_pleased])), (a_p1_kind, .inl (vxT x 0, 6, .inl p1_kind)), (a_kind, .inl (vxT x 0, 6, .inl p1_kind)), (a_p1_number, .inl (vxT x 0, 6, .inl p1_number)), (a_number, .inl (vxT x 0, 6, .inl p1_number)), (a_p1_easel, .inl (vxT x 0, 6, .inl p1_easel)), (a_easel, .inl (vxT x 0, 6, .inl p1_easel)), (a_p1_had, .inl (vxT x 0, 6, .inl p1_had)), (a_had, .inl (vxT x 0, 6, .inl p1_had)), (a_p1_pleased, .inl (vxT x 0, 6, .inl p1_pleased)), (a_pleased, .inl (vxT x 0, 6, .inl p1_pleased))]) rfl ?_
  obtain rfl := Option.some.inj hf
  exact v_vret hR dX2_take_123
set_option maxRecDepth 100000 in
set_option maxHeartbeats 4000000 in
theorem c_X2_take {l : Launch} {D : va_G} {qT : Nat → ClassId} {Z : (Nat → Prop) → State → Heap → Prop} {r : Int32 × Int32 × Int32 × Int32 × Int32 × Int32 × (Nat → Int32) × (Nat → Int32) × (Nat → Int32) × (Nat → Int32) × (Nat → Int32)} {a0 : Nat} {a_p1 : Nat} {a_p1_kind : Nat} {a_kind : Nat} {a_p1_number : Nat} {a_number : Nat} {a_p1_easel : Nat} {a_easel : Nat} {a_p1_had : Nat} {a_had : Nat} {a_p1_pleased : Nat} {a_pleased : Nat} {s_face : Int32} {s_lamp : Int32} {s_stove : Int32} {s_pose : Int32} {s_rule : Int32} {s_painters : Int32} {p1_face : Int32} {p1_lamp : Int32} {p1_stove : Int32} {p1_pose : Int32} {p1_rule : Int32} {p1_painters : Int32} {p1_kind : Nat → Int32} {s_kind : Nat → Int32} {p1_number : Nat → Int32} {s_number : Nat → Int32} {p1_easel : Nat → Int32} {s_easel : Nat → Int32} {p1_had : Nat → Int32} {s_had : Nat → Int32} {p1_pleased : Nat → Int32} {s_pleased : Nat → Int32} (hZ : ZOK Z) (hf : f_X2_take p1_face p1_lamp p1_stove p1_pose p1_rule p1_painters p1_kind p1_number p1_easel p1_had p1_pleased = some r) :
    CV l D qT Z yX2_take cX2_take 2 none 1 0 0 [.ref a0, .ref a_p1] [(a0, .inr (2, [.int s_face, .int s_lamp, .int s_stove, .int s_pose, .int s_rule, .int s_painters, .ref a_kind, .ref a_number, .ref a_easel, .ref a_had, .ref a_pleased])), (a_p1, .inr (2, [.int p1_face, .int p1_lamp, .int p1_stove, .int p1_pose, .int p1_rule, .int p1_painters, .ref a_p1_kind, .ref a_p1_number, .ref a_p1_easel, .ref a_p1_had, .ref a_p1_pleased])), (a_p1_kind, .inl (qT 0, 6, .inl p1_kind)), (a_kind, .inl (qT 0, 6, .inl s_kind)), (a_p1_number, .inl (qT 0, 6, .inl p1_number)), (a_number, .inl (qT 0, 6, .inl s_number)), (a_p1_easel, .inl (qT 0, 6, .inl p1_easel)), (a_easel, .inl (qT 0, 6, .inl s_easel)), (a_p1_had, .inl (qT 0, 6, .inl p1_had)), (a_had, .inl (qT 0, 6, .inl s_had)), (a_p1_pleased, .inl (qT 0, 6, .inl p1_pleased)), (a_pleased, .inl (qT 0, 6, .inl s_pleased))] [(a0, .inr (2, [.int r.1, .int r.2.1, .int r.2.2.1, .int r.2.2.2.1, .int r.2.2.2.2.1, .int r.2.2.2.2.2.1, .ref a_kind, .ref a_number, .ref a_easel, .ref a_had, .ref a_pleased])), (a_p1, .inr (2, [.int p1_face, .int p1_lamp, .int p1_stove, .int p1_pose, .int p1_rule, .int p1_painters, .ref a_p1_kind, .ref a_p1_number, .ref a_p1_easel, .ref a_p1_had, .ref a_p1_pleased])), (a_p1_kind, .inl (qT 0, 6, .inl p1_kind)), (a_kind, .inl (qT 0, 6, .inl r.2.2.2.2.2.2.1)), (a_p1_number, .inl (qT 0, 6, .inl p1_number)), (a_number, .inl (qT 0, 6, .inl r.2.2.2.2.2.2.2.1)), (a_p1_easel, .inl (qT 0, 6, .inl p1_easel)), (a_easel, .inl (qT 0, 6, .inl r.2.2.2.2.2.2.2.2.1)), (a_p1_had, .inl (qT 0, 6, .inl p1_had)), (a_had, .inl (qT 0, 6, .inl r.2.2.2.2.2.2.2.2.2.1)), (a_p1_pleased, .inl (qT 0, 6, .inl p1_pleased)), (a_pleased, .inl (qT 0, 6, .inl r.2.2.2.2.2.2.2.2.2.2))] := by
  refine CV_of hZ (by decide) (Nat.le_of_ble_eq_true rfl) ?_
  intro x e1 e2 e3 e4 e5 e6 hin X hR
  subst e1 e2 e3 e4
  exact t_X2_take X e6 hR hf
