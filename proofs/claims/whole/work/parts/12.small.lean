theorem xinX3 : ∀ w ∈ u_ws RX3 TX3 3, w ∈ gw := by
  have h : (u_ws RX3 TX3 3).all (fun w => decide (w ∈ lw_tbl) && goodWord w) = true := by decide +kernel
  intro w hw
  have h1 := List.all_eq_true.mp h w hw
  simp only [Bool.and_eq_true, decide_eq_true_eq] at h1
  exact gw_of h1.1 h1.2
theorem wd46 : Cond.fieldLink RX3 9 RX3 "sort" "I" ∈ gw := gw_of (List.mem_append_right _ (List.mem_of_getElem? (i := 167) (by decide +kernel))) (by decide +kernel)
theorem wd47 : Cond.fieldLink RX3 15 RX3 "size" "I" ∈ gw := gw_of (List.mem_append_right _ (List.mem_of_getElem? (i := 169) (by decide +kernel))) (by decide +kernel)
theorem wd48 : Cond.fieldLink RX3 18 RX3 "items" "[I" ∈ gw := gw_of (List.mem_append_right _ (List.mem_of_getElem? (i := 171) (by decide +kernel))) (by decide +kernel)
theorem wd49 : Cond.methodLink RX3 22 yJ7_fill_53178 ∈ gw := gw_of (List.mem_append_right _ (List.mem_of_getElem? (i := 682) (by decide +kernel))) (by decide +kernel)
theorem wd50 : Cond.static yJ7_fill_53178 ∈ gw := gw_of (List.mem_append_right _ (List.mem_of_getElem? (i := 575) (by decide +kernel))) (by decide +kernel)
theorem wd51 : Cond.initialized RJ7 ∈ gw := gw_of (List.mem_append_right _ (List.mem_of_getElem? (i := 12) (by decide +kernel))) (by decide +kernel)
theorem wd52 : Cond.code yJ7_fill_53178 cJ7_fill_53178 4 none ∈ gw := gw_of (List.mem_append_right _ (List.mem_of_getElem? (i := 576) (by decide +kernel))) (by decide +kernel)
theorem cws_X3_22 : CWs RX3 22 yJ7_fill_53178 cJ7_fill_53178 4 none 2 := ⟨wd49, wd50, wd51, wd52, (by decide +kernel), (by decide +kernel), (by decide +kernel), (by decide +kernel)⟩
theorem xinX5 : ∀ w ∈ u_ws RX5 TX5 2, w ∈ gw := by
  have h : (u_ws RX5 TX5 2).all (fun w => decide (w ∈ lw_tbl) && goodWord w) = true := by decide +kernel
  intro w hw
  have h1 := List.all_eq_true.mp h w hw
  simp only [Bool.and_eq_true, decide_eq_true_eq] at h1
  exact gw_of h1.1 h1.2
theorem wd53 : Cond.fieldLink RX5 15 RX5 "ends" "[I" ∈ gw := gw_of (List.mem_append_right _ (List.mem_of_getElem? (i := 335) (by decide +kernel))) (by decide +kernel)
theorem wd54 : Cond.fieldLink RX5 9 RX5 "code" "[I" ∈ gw := gw_of (List.mem_append_right _ (List.mem_of_getElem? (i := 334) (by decide +kernel))) (by decide +kernel)
theorem wd55 : Cond.methodLink RX5 18 yX5_turned ∈ gw := gw_of (List.mem_append_right _ (List.mem_of_getElem? (i := 455) (by decide +kernel))) (by decide +kernel)
theorem wd56 : Cond.static yX5_turned ∈ gw := gw_of (List.mem_append_right _ (List.mem_of_getElem? (i := 456) (by decide +kernel))) (by decide +kernel)
theorem wd57 : Cond.initialized RX5 ∈ gw := gw_of (List.mem_append_right _ (List.mem_of_getElem? (i := 11) (by decide +kernel))) (by decide +kernel)
theorem wd58 : Cond.code yX5_turned cX5_turned 2 (some .int) ∈ gw := gw_of (List.mem_append_right _ (List.mem_of_getElem? (i := 457) (by decide +kernel))) (by decide +kernel)
theorem cws_X5_18 : CWs RX5 18 yX5_turned cX5_turned 2 (some .int) 2 := ⟨wd55, wd56, wd57, wd58, (by decide +kernel), (by decide +kernel), (by decide +kernel), (by decide +kernel)⟩
theorem wd59 : Cond.methodLink RX5 22 yX5_joined ∈ gw := gw_of (List.mem_append_right _ (List.mem_of_getElem? (i := 458) (by decide +kernel))) (by decide +kernel)
theorem wd60 : Cond.static yX5_joined ∈ gw := gw_of (List.mem_append_right _ (List.mem_of_getElem? (i := 459) (by decide +kernel))) (by decide +kernel)
theorem wd61 : Cond.code yX5_joined cX5_joined 3 (some .int) ∈ gw := gw_of (List.mem_append_right _ (List.mem_of_getElem? (i := 460) (by decide +kernel))) (by decide +kernel)
theorem cws_X5_22 : CWs RX5 22 yX5_joined cX5_joined 3 (some .int) 3 := ⟨wd59, wd60, wd57, wd61, (by decide +kernel), (by decide +kernel), (by decide +kernel), (by decide +kernel)⟩
theorem wd62 : Cond.methodLink RX6 325 yJ9_abs_0f7a4 ∈ gw := gw_of (List.mem_append_right _ (List.mem_of_getElem? (i := 622) (by decide +kernel))) (by decide +kernel)
theorem wd63 : Cond.constantLong RX6 227 (-4611686018427387904) ∈ gw := gw_of (List.mem_append_right _ (List.mem_of_getElem? (i := 618) (by decide +kernel))) (by decide +kernel)
theorem xinX4 : ∀ w ∈ u_ws RX4 TX4 5, w ∈ gw := by
  have h : (u_ws RX4 TX4 5).all (fun w => decide (w ∈ lw_tbl) && goodWord w) = true := by decide +kernel
  intro w hw
  have h1 := List.all_eq_true.mp h w hw
  simp only [Bool.and_eq_true, decide_eq_true_eq] at h1
  exact gw_of h1.1 h1.2
theorem wd64 : Cond.fieldLink RX4 9 RX4 "names" "[I" ∈ gw := gw_of (List.mem_append_right _ (List.mem_of_getElem? (i := 126) (by decide +kernel))) (by decide +kernel)
theorem wd65 : Cond.fieldLink RX4 18 RX4 "views" "I" ∈ gw := gw_of (List.mem_append_right _ (List.mem_of_getElem? (i := 129) (by decide +kernel))) (by decide +kernel)
theorem wd66 : Cond.methodLink RX4 78 yX4_leftView ∈ gw := gw_of (List.mem_append_right _ (List.mem_of_getElem? (i := 476) (by decide +kernel))) (by decide +kernel)
theorem wd67 : Cond.instanceMethod yX4_leftView ∈ gw := gw_of (List.mem_append_right _ (List.mem_of_getElem? (i := 478) (by decide +kernel))) (by decide +kernel)
theorem wd68 : Cond.selects RX4 yX4_leftView yX4_leftView ∈ gw := gw_of (List.mem_append_left _ (List.mem_of_getElem? (i := 16) (by decide +kernel))) (by decide +kernel)
theorem wd69 : Cond.initialized RX4 ∈ gw := gw_of (List.mem_append_right _ (List.mem_of_getElem? (i := 4) (by decide +kernel))) (by decide +kernel)
theorem wd70 : Cond.code yX4_leftView cX4_leftView 1 (some .int) ∈ gw := gw_of (List.mem_append_right _ (List.mem_of_getElem? (i := 479) (by decide +kernel))) (by decide +kernel)
theorem cwv_X4_78 : CWv RX4 78 yX4_leftView cX4_leftView 1 (some .int) 0 := ⟨wd66, wd67, wd68, wd69, wd70, (by decide +kernel), (by decide +kernel), (by decide +kernel), (by decide +kernel)⟩
theorem wd71 : Cond.methodLink RX4 82 yX4_tallView ∈ gw := gw_of (List.mem_append_right _ (List.mem_of_getElem? (i := 480) (by decide +kernel))) (by decide +kernel)
theorem wd72 : Cond.instanceMethod yX4_tallView ∈ gw := gw_of (List.mem_append_right _ (List.mem_of_getElem? (i := 482) (by decide +kernel))) (by decide +kernel)
theorem wd73 : Cond.selects RX4 yX4_tallView yX4_tallView ∈ gw := gw_of (List.mem_append_left _ (List.mem_of_getElem? (i := 17) (by decide +kernel))) (by decide +kernel)
theorem wd74 : Cond.code yX4_tallView cX4_tallView 1 (some .int) ∈ gw := gw_of (List.mem_append_right _ (List.mem_of_getElem? (i := 483) (by decide +kernel))) (by decide +kernel)
theorem cwv_X4_82 : CWv RX4 82 yX4_tallView cX4_tallView 1 (some .int) 0 := ⟨wd71, wd72, wd73, wd69, wd74, (by decide +kernel), (by decide +kernel), (by decide +kernel), (by decide +kernel)⟩
theorem wd75 : Cond.methodLink RX4 69 yX4_freeView ∈ gw := gw_of (List.mem_append_right _ (List.mem_of_getElem? (i := 472) (by decide +kernel))) (by decide +kernel)
theorem wd76 : Cond.instanceMethod yX4_freeView ∈ gw := gw_of (List.mem_append_right _ (List.mem_of_getElem? (i := 474) (by decide +kernel))) (by decide +kernel)
theorem wd77 : Cond.selects RX4 yX4_freeView yX4_freeView ∈ gw := gw_of (List.mem_append_left _ (List.mem_of_getElem? (i := 15) (by decide +kernel))) (by decide +kernel)
theorem wd78 : Cond.code yX4_freeView cX4_freeView 2 (some .int) ∈ gw := gw_of (List.mem_append_right _ (List.mem_of_getElem? (i := 475) (by decide +kernel))) (by decide +kernel)
theorem cwv_X4_69 : CWv RX4 69 yX4_freeView cX4_freeView 2 (some .int) 1 := ⟨wd75, wd76, wd77, wd69, wd78, (by decide +kernel), (by decide +kernel), (by decide +kernel), (by decide +kernel)⟩
theorem cwn_X4_65 : CWn RX4 RX6 65 yX6_within cX6_within 3 (some .int) 3 := ⟨by decide +kernel, wd38, wd12, wd39, (by decide +kernel), (by decide +kernel), (by decide +kernel), (by decide +kernel)⟩
theorem wd79 : Cond.fieldLink RX4 22 RX4 "warms" "I" ∈ gw := gw_of (List.mem_append_right _ (List.mem_of_getElem? (i := 130) (by decide +kernel))) (by decide +kernel)
theorem wd80 : Cond.methodLink RX4 85 yX4_tallWarmth ∈ gw := gw_of (List.mem_append_right _ (List.mem_of_getElem? (i := 492) (by decide +kernel))) (by decide +kernel)
theorem wd81 : Cond.instanceMethod yX4_tallWarmth ∈ gw := gw_of (List.mem_append_right _ (List.mem_of_getElem? (i := 494) (by decide +kernel))) (by decide +kernel)
theorem wd82 : Cond.selects RX4 yX4_tallWarmth yX4_tallWarmth ∈ gw := gw_of (List.mem_append_left _ (List.mem_of_getElem? (i := 19) (by decide +kernel))) (by decide +kernel)
theorem wd83 : Cond.code yX4_tallWarmth cX4_tallWarmth 1 (some .int) ∈ gw := gw_of (List.mem_append_right _ (List.mem_of_getElem? (i := 495) (by decide +kernel))) (by decide +kernel)
theorem cwv_X4_85 : CWv RX4 85 yX4_tallWarmth cX4_tallWarmth 1 (some .int) 0 := ⟨wd80, wd81, wd82, wd69, wd83, (by decide +kernel), (by decide +kernel), (by decide +kernel), (by decide +kernel)⟩
theorem wd84 : Cond.methodLink RX4 72 yX4_freeWarmth ∈ gw := gw_of (List.mem_append_right _ (List.mem_of_getElem? (i := 488) (by decide +kernel))) (by decide +kernel)
theorem wd85 : Cond.instanceMethod yX4_freeWarmth ∈ gw := gw_of (List.mem_append_right _ (List.mem_of_getElem? (i := 490) (by decide +kernel))) (by decide +kernel)
theorem wd86 : Cond.selects RX4 yX4_freeWarmth yX4_freeWarmth ∈ gw := gw_of (List.mem_append_left _ (List.mem_of_getElem? (i := 18) (by decide +kernel))) (by decide +kernel)
theorem wd87 : Cond.code yX4_freeWarmth cX4_freeWarmth 2 (some .int) ∈ gw := gw_of (List.mem_append_right _ (List.mem_of_getElem? (i := 491) (by decide +kernel))) (by decide +kernel)
theorem cwv_X4_72 : CWv RX4 72 yX4_freeWarmth cX4_freeWarmth 2 (some .int) 1 := ⟨wd84, wd85, wd86, wd69, wd87, (by decide +kernel), (by decide +kernel), (by decide +kernel), (by decide +kernel)⟩
theorem wd88 : Cond.fieldLink RX4 25 RX4 "minds" "I" ∈ gw := gw_of (List.mem_append_right _ (List.mem_of_getElem? (i := 131) (by decide +kernel))) (by decide +kernel)
theorem wd89 : Cond.methodLink RX4 75 yX4_freeMinding ∈ gw := gw_of (List.mem_append_right _ (List.mem_of_getElem? (i := 500) (by decide +kernel))) (by decide +kernel)
theorem wd90 : Cond.instanceMethod yX4_freeMinding ∈ gw := gw_of (List.mem_append_right _ (List.mem_of_getElem? (i := 502) (by decide +kernel))) (by decide +kernel)
theorem wd91 : Cond.selects RX4 yX4_freeMinding yX4_freeMinding ∈ gw := gw_of (List.mem_append_left _ (List.mem_of_getElem? (i := 20) (by decide +kernel))) (by decide +kernel)
theorem wd92 : Cond.code yX4_freeMinding cX4_freeMinding 2 (some .int) ∈ gw := gw_of (List.mem_append_right _ (List.mem_of_getElem? (i := 503) (by decide +kernel))) (by decide +kernel)
theorem cwv_X4_75 : CWv RX4 75 yX4_freeMinding cX4_freeMinding 2 (some .int) 1 := ⟨wd89, wd90, wd91, wd69, wd92, (by decide +kernel), (by decide +kernel), (by decide +kernel), (by decide +kernel)⟩
theorem xinX1 : ∀ w ∈ u_ws RX1 TX1 9, w ∈ gw := by
  have h : (u_ws RX1 TX1 9).all (fun w => decide (w ∈ lw_tbl) && goodWord w) = true := by decide +kernel
  intro w hw
  have h1 := List.all_eq_true.mp h w hw
  simp only [Bool.and_eq_true, decide_eq_true_eq] at h1
  exact gw_of h1.1 h1.2
theorem wd93 : Cond.fieldLink RX1 9 RX1 "size" "I" ∈ gw := gw_of (List.mem_append_right _ (List.mem_of_getElem? (i := 88) (by decide +kernel))) (by decide +kernel)
theorem wd94 : Cond.fieldLink RX1 18 RX1 "tape" "[I" ∈ gw := gw_of (List.mem_append_right _ (List.mem_of_getElem? (i := 92) (by decide +kernel))) (by decide +kernel)
theorem wd95 : Cond.fieldLink RX1 28 RX1 "tokenAt" "I" ∈ gw := gw_of (List.mem_append_right _ (List.mem_of_getElem? (i := 95) (by decide +kernel))) (by decide +kernel)
theorem wd96 : Cond.fieldLink RX1 15 RX1 "fault" "I" ∈ gw := gw_of (List.mem_append_right _ (List.mem_of_getElem? (i := 90) (by decide +kernel))) (by decide +kernel)
theorem wd97 : Cond.fieldLink RX1 37 RX1 "codeSize" "I" ∈ gw := gw_of (List.mem_append_right _ (List.mem_of_getElem? (i := 98) (by decide +kernel))) (by decide +kernel)
theorem wd98 : Cond.fieldLink RX1 34 RX1 "code" "[I" ∈ gw := gw_of (List.mem_append_right _ (List.mem_of_getElem? (i := 97) (by decide +kernel))) (by decide +kernel)
theorem wd99 : Cond.fieldLink RX1 25 RX1 "token" "I" ∈ gw := gw_of (List.mem_append_right _ (List.mem_of_getElem? (i := 94) (by decide +kernel))) (by decide +kernel)
theorem wd100 : Cond.fieldLink RX1 31 RX1 "value" "I" ∈ gw := gw_of (List.mem_append_right _ (List.mem_of_getElem? (i := 96) (by decide +kernel))) (by decide +kernel)
theorem wd101 : Cond.fieldLink RX1 22 RX1 "at" "I" ∈ gw := gw_of (List.mem_append_right _ (List.mem_of_getElem? (i := 93) (by decide +kernel))) (by decide +kernel)
theorem wd102 : Cond.methodLink RX1 89 yX1_isDigit ∈ gw := gw_of (List.mem_append_right _ (List.mem_of_getElem? (i := 266) (by decide +kernel))) (by decide +kernel)
theorem wd103 : Cond.static yX1_isDigit ∈ gw := gw_of (List.mem_append_right _ (List.mem_of_getElem? (i := 267) (by decide +kernel))) (by decide +kernel)
theorem wd104 : Cond.initialized RX1 ∈ gw := gw_of (List.mem_append_right _ (List.mem_of_getElem? (i := 3) (by decide +kernel))) (by decide +kernel)
theorem wd105 : Cond.code yX1_isDigit cX1_isDigit 1 (some .boolean) ∈ gw := gw_of (List.mem_append_right _ (List.mem_of_getElem? (i := 268) (by decide +kernel))) (by decide +kernel)
theorem cws_X1_89 : CWs RX1 89 yX1_isDigit cX1_isDigit 1 (some .boolean) 1 := ⟨wd102, wd103, wd104, wd105, (by decide +kernel), (by decide +kernel), (by decide +kernel), (by decide +kernel)⟩
def f_J7_fill_53178_5 (n_p0 : Nat) (l1 : Int32) (l3 : Int32) (kp_5 : Int32 → (Nat → Int32) → Option ((Nat → Int32))) (l2 : Int32) (p0 : Nat → Int32) : Option ((Nat → Int32)) :=
  if l3 ≤ l2 then (
  some p0) else (
  if inb l2 n_p0 = true then (
  kp_5 (l2 + 1) (upd p0 (Int32.toNatClampNeg l2) l1)) else none)
def f_J7_fill_53178 (l1 : Int32) (n_p0 : Nat) (p0 : Nat → Int32) : Option ((Nat → Int32)) :=
  lq2 (f_J7_fill_53178_5 n_p0 l1 (Int32.ofNat n_p0)) 200 0 p0
set_option maxRecDepth 100000 in
set_option maxHeartbeats 4000000 in
theorem t_J7_fill_53178_5 {x : VX} {r : (Nat → Int32)} {a_p0 : Nat} {n_p0 : Nat} {l1 : Int32} {l3 : Int32} (X : Cx x cJ7_fill_53178 RJ7 1) (hN : vxn x = 4) (hR : RetV x cJ7_fill_53178 0 0 [(a_p0, .inl (vxT x 0, n_p0, .inl r))]) :
    ∀ (fu : Nat) (l2 : Int32) (p0 : Nat → Int32), lq2 (f_J7_fill_53178_5 n_p0 l1 l3) fu l2 p0 = some r → V x 0 0 [(a_p0, .inl (vxT x 0, n_p0, .inl p0))] [(0, .ref a_p0), (1, .int l1), (2, .int l2), (3, .int l3)] 5 [] := by
  refine lq2_V (G := fun l2 p0 => V x 0 0 [(a_p0, .inl (vxT x 0, n_p0, .inl p0))] [(0, .ref a_p0), (1, .int l1), (2, .int l2), (3, .int l3)] 5 []) ?_
  intro kp_5 hk_5 l2 p0 hf
  unfold f_J7_fill_53178_5 at hf
  refine v_iload_n X 2 rfl dJ7_fill_53178_5 ?_
  refine v_iload_n X 3 rfl dJ7_fill_53178_6 ?_
  refine v_icmp_ge X (tgt := 20) hf (by decide) dJ7_fill_53178_7 (fun c7 hf => ?_) (fun c7 hf => ?_)
  · obtain rfl := Option.some.inj hf
    exact v_vret hR dJ7_fill_53178_20
  · refine v_aload_n X 0 rfl dJ7_fill_53178_10 ?_
    refine v_iload_n X 2 rfl dJ7_fill_53178_11 ?_
    refine v_iload_n X 1 rfl dJ7_fill_53178_12 ?_
    refine v_iast X 0 rfl hf (ws' := [(a_p0, .inl (vxT x 0, n_p0, .inl (upd p0 (Int32.toNatClampNeg l2) l1)))]) rfl dJ7_fill_53178_13 (fun h13 hf => ?_)
    refine v_iinc X 2 rfl (v := (l2 + 1)) rfl (by rw [hN]; decide) (lv' := [(2, .int (l2 + 1)), (0, .ref a_p0), (1, .int l1), (3, .int l3)]) rfl dJ7_fill_53178_14 ?_
    refine v_goto X (tgt := 5) (by decide) dJ7_fill_53178_17 ?_
    refine v_lv [1, 2, 0, 3] rfl ?_
    exact hk_5 _ _ hf
set_option maxRecDepth 100000 in
set_option maxHeartbeats 4000000 in
theorem t_J7_fill_53178 {x : VX} {r : (Nat → Int32)} {a_p0 : Nat} {n_p0 : Nat} {p0 : Nat → Int32} {l1 : Int32} (X : Cx x cJ7_fill_53178 RJ7 1) (hN : vxn x = 4) (hR : RetV x cJ7_fill_53178 0 0 [(a_p0, .inl (vxT x 0, n_p0, .inl r))]) (hf : f_J7_fill_53178 l1 n_p0 p0 = some r) : V x 0 0 [(a_p0, .inl (vxT x 0, n_p0, .inl p0))] [(0, .ref a_p0), (1, .int l1)] 0 [] := by
  unfold f_J7_fill_53178 at hf
  refine v_iconst X (v := 0) (by decide) dJ7_fill_53178_0 ?_
  refine v_istore_n X rfl (by rw [hN]; decide) (lv' := [(2, .int 0), (0, .ref a_p0), (1, .int l1)]) rfl dJ7_fill_53178_1 ?_
  refine v_aload_n X 1 rfl dJ7_fill_53178_2 ?_
  refine v_alen X 0 rfl (v := (Int32.ofNat n_p0)) rfl dJ7_fill_53178_3 ?_
  refine v_istore_n X rfl (by rw [hN]; decide) (lv' := [(3, .int (Int32.ofNat n_p0)), (2, .int 0), (0, .ref a_p0), (1, .int l1)]) rfl dJ7_fill_53178_4 ?_
  refine v_lv [2, 3, 1, 0] rfl ?_
  exact t_J7_fill_53178_5 X hN hR 200 _ _ hf
set_option maxRecDepth 100000 in
set_option maxHeartbeats 4000000 in
theorem c_J7_fill_53178 {l : Launch} {D : va_G} {qT : Nat → ClassId} {Z : (Nat → Prop) → State → Heap → Prop} {r : (Nat → Int32)} {a_p0 : Nat} {n_p0 : Nat} {p0 : Nat → Int32} {l1 : Int32} (hZ : ZOK Z) (hf : f_J7_fill_53178 l1 n_p0 p0 = some r) :
    CV l D qT Z yJ7_fill_53178 cJ7_fill_53178 4 none 1 0 0 [.ref a_p0, .int l1] [(a_p0, .inl (qT 0, n_p0, .inl p0))] [(a_p0, .inl (qT 0, n_p0, .inl r))] := by
  refine CV_of hZ (by decide) (Nat.le_of_ble_eq_true rfl) ?_
  intro x e1 e2 e3 e4 e5 e6 hin X hR
  subst e1 e2 e3 e4
  exact t_J7_fill_53178 X e6 hR hf
def f_X3_isMissing (s_sort : Int32) : Option (Int32) :=
  if s_sort = (-1) then (
  some 1) else (
  some 0)
set_option maxRecDepth 100000 in
set_option maxHeartbeats 4000000 in
theorem t_X3_isMissing {x : VX} {r : Int32} {a0 : Nat} {a_items : Nat} {s_sort : Int32} {s_size : Int32} (X : Cx x cX3_isMissing RX3 1) (hN : vxn x = 1) (hR : narrow .boolean (.int r) = .int r → RetI x cX3_isMissing 0 0 r [(a0, .inr (3, [.int s_sort, .int s_size, .ref a_items]))]) (hf : f_X3_isMissing s_sort = some r) : V x 0 0 [(a0, .inr (3, [.int s_sort, .int s_size, .ref a_items]))] [(0, .ref a0)] 0 [] := by
  unfold f_X3_isMissing at hf
  refine v_aload_n X 0 rfl dX3_isMissing_0 ?_
  refine v_get X xinX3 0 rfl rfl 0 (by decide) wd46 rfl rfl dX3_isMissing_1 ?_
  refine v_iconst X (v := (-1)) (by decide) dX3_isMissing_4 ?_
  refine v_icmp_ne X (tgt := 12) hf (by decide) dX3_isMissing_5 (fun c5 hf => ?_) (fun c5 hf => ?_)
  · refine v_iconst X (v := 0) (by decide) dX3_isMissing_12 ?_
    obtain rfl := Option.some.inj hf
    exact v_iret (hR nz0) dX3_isMissing_13
  · refine v_iconst X (v := 1) (by decide) dX3_isMissing_8 ?_
    refine v_goto X (tgt := 13) (by decide) dX3_isMissing_9 ?_
    obtain rfl := Option.some.inj hf
    exact v_iret (hR nz1) dX3_isMissing_13
set_option maxRecDepth 100000 in
set_option maxHeartbeats 4000000 in
theorem c_X3_isMissing {l : Launch} {D : va_G} {qT : Nat → ClassId} {Z : (Nat → Prop) → State → Heap → Prop} {r : Int32} {a0 : Nat} {a_items : Nat} {s_sort : Int32} {s_size : Int32} (hZ : ZOK Z) (hf : f_X3_isMissing s_sort = some r) :
    CI l D qT Z yX3_isMissing cX3_isMissing 1 (some .boolean) 1 0 0 [.ref a0] [(a0, .inr (3, [.int s_sort, .int s_size, .ref a_items]))] r [(a0, .inr (3, [.int s_sort, .int s_size, .ref a_items]))] := by
  refine CZ_of hZ (by decide) (Nat.le_of_ble_eq_true rfl) ?_
  intro x e1 e2 e3 e4 e5 e6 hin X hR
  subst e1 e2 e3 e4
  exact t_X3_isMissing X e6 hR hf
def f_X3_become (l1 : Int32) (l2 : Int32) (s_items : Nat → Int32) : Option (Int32 × Int32 × (Nat → Int32)) :=
  (f_J7_fill_53178 0 40 s_items).bind (fun v15_1 =>
  some (l1, l2, v15_1))
set_option maxRecDepth 100000 in
set_option maxHeartbeats 4000000 in
theorem t_X3_become {x : VX} {r : Int32 × Int32 × (Nat → Int32)} {a0 : Nat} {a_items : Nat} {s_sort : Int32} {s_size : Int32} {s_items : Nat → Int32} {l1 : Int32} {l2 : Int32} (X : Cx x cX3_become RX3 2) (hN : vxn x = 3) (hR : RetV x cX3_become 0 0 [(a0, .inr (3, [.int r.1, .int r.2.1, .ref a_items])), (a_items, .inl (vxT x 0, 40, .inl r.2.2))]) (hf : f_X3_become l1 l2 s_items = some r) : V x 0 0 [(a0, .inr (3, [.int s_sort, .int s_size, .ref a_items])), (a_items, .inl (vxT x 0, 40, .inl s_items))] [(0, .ref a0), (1, .int l1), (2, .int l2)] 0 [] := by
  unfold f_X3_become at hf
  refine v_aload_n X 0 rfl dX3_become_0 ?_
  refine v_iload_n X 1 rfl dX3_become_1 ?_
  refine v_put X xinX3 tyX3 tyX3_ok nmX3 0 rfl rfl 0 (by decide) wd46 rfl rfl rfl rfl rfl (Nat.le_of_ble_eq_true rfl) (ws' := [(a0, .inr (3, [.int l1, .int s_size, .ref a_items])), (a_items, .inl (vxT x 0, 40, .inl s_items))]) rfl dX3_become_2 ?_
  refine v_aload_n X 0 rfl dX3_become_5 ?_
  refine v_iload_n X 2 rfl dX3_become_6 ?_
  refine v_put X xinX3 tyX3 tyX3_ok nmX3 0 rfl rfl 1 (by decide) wd47 rfl rfl rfl rfl rfl (Nat.le_of_ble_eq_true rfl) (ws' := [(a0, .inr (3, [.int l1, .int l2, .ref a_items])), (a_items, .inl (vxT x 0, 40, .inl s_items))]) rfl dX3_become_7 ?_
  refine v_aload_n X 0 rfl dX3_become_10 ?_
  refine v_get X xinX3 0 rfl rfl 2 (by decide) wd48 rfl rfl dX3_become_11 ?_
  refine v_iconst X (v := 0) (by decide) dX3_become_14 ?_
  obtain ⟨v15_1, hv15_1, hf⟩ := bd_some hf
  refine v_scallV X (c_J7_fill_53178 X.2.2.2.2.2.2.2.1 hv15_1) cws_X3_22 rfl (by decide) ⟨Nat.zero_le _, Nat.zero_le _⟩ [1] [0] [0, 1] rfl (by decide) (wr := [(a0, .inr (3, [.int l1, .int l2, .ref a_items]))]) rfl (by decide) (by decide) (ws2 := [(a0, .inr (3, [.int l1, .int l2, .ref a_items])), (a_items, .inl (vxT x 0, 40, .inl v15_1))]) rfl (by decide) (Nat.le_of_ble_eq_true rfl) rfl dX3_become_15 ?_
  obtain rfl := Option.some.inj hf
  exact v_vret hR dX3_become_18
set_option maxRecDepth 100000 in
set_option maxHeartbeats 4000000 in
theorem c_X3_become {l : Launch} {D : va_G} {qT : Nat → ClassId} {Z : (Nat → Prop) → State → Heap → Prop} {r : Int32 × Int32 × (Nat → Int32)} {a0 : Nat} {a_items : Nat} {s_sort : Int32} {s_size : Int32} {s_items : Nat → Int32} {l1 : Int32} {l2 : Int32} (hZ : ZOK Z) (hf : f_X3_become l1 l2 s_items = some r) :
    CV l D qT Z yX3_become cX3_become 3 none 2 0 0 [.ref a0, .int l1, .int l2] [(a0, .inr (3, [.int s_sort, .int s_size, .ref a_items])), (a_items, .inl (qT 0, 40, .inl s_items))] [(a0, .inr (3, [.int r.1, .int r.2.1, .ref a_items])), (a_items, .inl (qT 0, 40, .inl r.2.2))] := by
  refine CV_of hZ (by decide) (Nat.le_of_ble_eq_true rfl) ?_
  intro x e1 e2 e3 e4 e5 e6 hin X hR
  subst e1 e2 e3 e4
  exact t_X3_become X e6 hR hf
def f_X3_hasItems (l1 : Int32) (l2 : Int32) (s_size : Int32) : Option (Int32) :=
  if l1 < 0 then (
  some 0) else (
  if l2 < 0 then (
  some 0) else (
  if s_size < l1 then (
  some 0) else (
  if (s_size - l1) < l2 then (
  some 0) else (
  some 1))))
set_option maxRecDepth 100000 in
set_option maxHeartbeats 4000000 in
theorem t_X3_hasItems {x : VX} {r : Int32} {a0 : Nat} {a_items : Nat} {s_sort : Int32} {s_size : Int32} {l1 : Int32} {l2 : Int32} (X : Cx x cX3_hasItems RX3 1) (hN : vxn x = 3) (hR : narrow .boolean (.int r) = .int r → RetI x cX3_hasItems 0 0 r [(a0, .inr (3, [.int s_sort, .int s_size, .ref a_items]))]) (hf : f_X3_hasItems l1 l2 s_size = some r) : V x 0 0 [(a0, .inr (3, [.int s_sort, .int s_size, .ref a_items]))] [(0, .ref a0), (1, .int l1), (2, .int l2)] 0 [] := by
  unfold f_X3_hasItems at hf
  refine v_iload_n X 1 rfl dX3_hasItems_0 ?_
  refine v_if_lt X (tgt := 30) hf (by decide) dX3_hasItems_1 (fun c1 hf => ?_) (fun c1 hf => ?_)
  · refine v_iconst X (v := 0) (by decide) dX3_hasItems_30 ?_
    obtain rfl := Option.some.inj hf
    exact v_iret (hR nz0) dX3_hasItems_31
  · refine v_iload_n X 2 rfl dX3_hasItems_4 ?_
    refine v_if_lt X (tgt := 30) hf (by decide) dX3_hasItems_5 (fun c5 hf => ?_) (fun c5 hf => ?_)
    · refine v_iconst X (v := 0) (by decide) dX3_hasItems_30 ?_
      obtain rfl := Option.some.inj hf
      exact v_iret (hR nz0) dX3_hasItems_31
    · refine v_iload_n X 1 rfl dX3_hasItems_8 ?_
      refine v_aload_n X 0 rfl dX3_hasItems_9 ?_
      refine v_get X xinX3 0 rfl rfl 1 (by decide) wd47 rfl rfl dX3_hasItems_10 ?_
      refine v_icmp_gt X (tgt := 30) hf (by decide) dX3_hasItems_13 (fun c13 hf => ?_) (fun c13 hf => ?_)
      · refine v_iconst X (v := 0) (by decide) dX3_hasItems_30 ?_
        obtain rfl := Option.some.inj hf
        exact v_iret (hR nz0) dX3_hasItems_31
      · refine v_iload_n X 2 rfl dX3_hasItems_16 ?_
        refine v_aload_n X 0 rfl dX3_hasItems_17 ?_
        refine v_get X xinX3 0 rfl rfl 1 (by decide) wd47 rfl rfl dX3_hasItems_18 ?_
        refine v_iload_n X 1 rfl dX3_hasItems_21 ?_
        refine v_isub X dX3_hasItems_22 ?_
        refine v_icmp_gt X (tgt := 30) hf (by decide) dX3_hasItems_23 (fun c23 hf => ?_) (fun c23 hf => ?_)
        · refine v_iconst X (v := 0) (by decide) dX3_hasItems_30 ?_
          obtain rfl := Option.some.inj hf
          exact v_iret (hR nz0) dX3_hasItems_31
        · refine v_iconst X (v := 1) (by decide) dX3_hasItems_26 ?_
          refine v_goto X (tgt := 31) (by decide) dX3_hasItems_27 ?_
          obtain rfl := Option.some.inj hf
          exact v_iret (hR nz1) dX3_hasItems_31
set_option maxRecDepth 100000 in
set_option maxHeartbeats 4000000 in
theorem c_X3_hasItems {l : Launch} {D : va_G} {qT : Nat → ClassId} {Z : (Nat → Prop) → State → Heap → Prop} {r : Int32} {a0 : Nat} {a_items : Nat} {s_sort : Int32} {s_size : Int32} {l1 : Int32} {l2 : Int32} (hZ : ZOK Z) (hf : f_X3_hasItems l1 l2 s_size = some r) :
    CI l D qT Z yX3_hasItems cX3_hasItems 3 (some .boolean) 1 0 0 [.ref a0, .int l1, .int l2] [(a0, .inr (3, [.int s_sort, .int s_size, .ref a_items]))] r [(a0, .inr (3, [.int s_sort, .int s_size, .ref a_items]))] := by
  refine CZ_of hZ (by decide) (Nat.le_of_ble_eq_true rfl) ?_
  intro x e1 e2 e3 e4 e5 e6 hin X hR
  subst e1 e2 e3 e4
  exact t_X3_hasItems X e6 hR hf
def f_X3_put (l1 : Int32) (l2 : Int32) (s_sort : Int32) (s_items : Nat → Int32) : Option ((Nat → Int32)) :=
  if s_sort = 0 then (
  if inb l1 40 = true then (
  some (upd s_items (Int32.toNatClampNeg l1) ((Int32.toInt8 l2).toInt32))) else none) else (
  if s_sort = 1 then (
  if inb l1 40 = true then (
  some (upd s_items (Int32.toNatClampNeg l1) ((Int32.toInt16 l2).toInt32))) else none) else (
  if inb l1 40 = true then (
  some (upd s_items (Int32.toNatClampNeg l1) l2)) else none))
set_option maxRecDepth 100000 in
set_option maxHeartbeats 4000000 in
theorem t_X3_put {x : VX} {r : (Nat → Int32)} {a0 : Nat} {a_items : Nat} {s_sort : Int32} {s_size : Int32} {s_items : Nat → Int32} {l1 : Int32} {l2 : Int32} (X : Cx x cX3_put RX3 1) (hN : vxn x = 3) (hR : RetV x cX3_put 0 0 [(a0, .inr (3, [.int s_sort, .int s_size, .ref a_items])), (a_items, .inl (vxT x 0, 40, .inl r))]) (hf : f_X3_put l1 l2 s_sort s_items = some r) : V x 0 0 [(a0, .inr (3, [.int s_sort, .int s_size, .ref a_items])), (a_items, .inl (vxT x 0, 40, .inl s_items))] [(0, .ref a0), (1, .int l1), (2, .int l2)] 0 [] := by
  unfold f_X3_put at hf
  refine v_aload_n X 0 rfl dX3_put_0 ?_
  refine v_get X xinX3 0 rfl rfl 0 (by decide) wd46 rfl rfl dX3_put_1 ?_
  refine v_if_ne X (tgt := 18) hf (by decide) dX3_put_4 (fun c4 hf => ?_) (fun c4 hf => ?_)
  · refine v_aload_n X 0 rfl dX3_put_18 ?_
    refine v_get X xinX3 0 rfl rfl 0 (by decide) wd46 rfl rfl dX3_put_19 ?_
    refine v_iconst X (v := 1) (by decide) dX3_put_22 ?_
    refine v_icmp_ne X (tgt := 37) hf (by decide) dX3_put_23 (fun c23 hf => ?_) (fun c23 hf => ?_)
    · refine v_aload_n X 0 rfl dX3_put_37 ?_
      refine v_get X xinX3 0 rfl rfl 2 (by decide) wd48 rfl rfl dX3_put_38 ?_
      refine v_iload_n X 1 rfl dX3_put_41 ?_
      refine v_iload_n X 2 rfl dX3_put_42 ?_
      refine v_iast X 1 rfl hf (ws' := [(a0, .inr (3, [.int s_sort, .int s_size, .ref a_items])), (a_items, .inl (vxT x 0, 40, .inl (upd s_items (Int32.toNatClampNeg l1) l2)))]) rfl dX3_put_43 (fun h43 hf => ?_)
      obtain rfl := Option.some.inj hf
      exact v_vret hR dX3_put_44
    · refine v_aload_n X 0 rfl dX3_put_26 ?_
      refine v_get X xinX3 0 rfl rfl 2 (by decide) wd48 rfl rfl dX3_put_27 ?_
      refine v_iload_n X 1 rfl dX3_put_30 ?_
      refine v_iload_n X 2 rfl dX3_put_31 ?_
      refine v_i2s X dX3_put_32 ?_
      refine v_iast X 1 rfl hf (ws' := [(a0, .inr (3, [.int s_sort, .int s_size, .ref a_items])), (a_items, .inl (vxT x 0, 40, .inl (upd s_items (Int32.toNatClampNeg l1) ((Int32.toInt16 l2).toInt32))))]) rfl dX3_put_33 (fun h33 hf => ?_)
      refine v_goto X (tgt := 44) (by decide) dX3_put_34 ?_
      obtain rfl := Option.some.inj hf
      exact v_vret hR dX3_put_44
  · refine v_aload_n X 0 rfl dX3_put_7 ?_
    refine v_get X xinX3 0 rfl rfl 2 (by decide) wd48 rfl rfl dX3_put_8 ?_
    refine v_iload_n X 1 rfl dX3_put_11 ?_
    refine v_iload_n X 2 rfl dX3_put_12 ?_
    refine v_i2b X dX3_put_13 ?_
    refine v_iast X 1 rfl hf (ws' := [(a0, .inr (3, [.int s_sort, .int s_size, .ref a_items])), (a_items, .inl (vxT x 0, 40, .inl (upd s_items (Int32.toNatClampNeg l1) ((Int32.toInt8 l2).toInt32))))]) rfl dX3_put_14 (fun h14 hf => ?_)
    refine v_goto X (tgt := 44) (by decide) dX3_put_15 ?_
    obtain rfl := Option.some.inj hf
    exact v_vret hR dX3_put_44
set_option maxRecDepth 100000 in
set_option maxHeartbeats 4000000 in
theorem c_X3_put {l : Launch} {D : va_G} {qT : Nat → ClassId} {Z : (Nat → Prop) → State → Heap → Prop} {r : (Nat → Int32)} {a0 : Nat} {a_items : Nat} {s_sort : Int32} {s_size : Int32} {s_items : Nat → Int32} {l1 : Int32} {l2 : Int32} (hZ : ZOK Z) (hf : f_X3_put l1 l2 s_sort s_items = some r) :
    CV l D qT Z yX3_put cX3_put 3 none 1 0 0 [.ref a0, .int l1, .int l2] [(a0, .inr (3, [.int s_sort, .int s_size, .ref a_items])), (a_items, .inl (qT 0, 40, .inl s_items))] [(a0, .inr (3, [.int s_sort, .int s_size, .ref a_items])), (a_items, .inl (qT 0, 40, .inl r))] := by
  refine CV_of hZ (by decide) (Nat.le_of_ble_eq_true rfl) ?_
  intro x e1 e2 e3 e4 e5 e6 hin X hR
  subst e1 e2 e3 e4
  exact t_X3_put X e6 hR hf
def f_X5_turned (l0 : Int32) (l1 : Int32) : Option (Int32) :=
  if l0 = (-13) then (
  some (-l1)) else (
  if l1 = 0 then (
  some 1) else (
  some 0))
set_option maxRecDepth 100000 in
set_option maxHeartbeats 4000000 in
theorem t_X5_turned {x : VX} {r : Int32} {l0 : Int32} {l1 : Int32} (X : Cx x cX5_turned RX5 1) (hN : vxn x = 2) (hR : RetI x cX5_turned 0 0 r []) (hf : f_X5_turned l0 l1 = some r) : V x 0 0 [] [(0, .int l0), (1, .int l1)] 0 [] := by
  unfold f_X5_turned at hf
  refine v_iload_n X 0 rfl dX5_turned_0 ?_
  refine v_bipush X (v := (-13)) (by decide) dX5_turned_1 ?_
  refine v_icmp_ne X (tgt := 9) hf (by decide) dX5_turned_3 (fun c3 hf => ?_) (fun c3 hf => ?_)
  · refine v_iload_n X 1 rfl dX5_turned_9 ?_
    refine v_if_ne X (tgt := 17) hf (by decide) dX5_turned_10 (fun c10 hf => ?_) (fun c10 hf => ?_)
    · refine v_iconst X (v := 0) (by decide) dX5_turned_17 ?_
      obtain rfl := Option.some.inj hf
      exact v_iret hR dX5_turned_18
    · refine v_iconst X (v := 1) (by decide) dX5_turned_13 ?_
      refine v_goto X (tgt := 18) (by decide) dX5_turned_14 ?_
      obtain rfl := Option.some.inj hf
      exact v_iret hR dX5_turned_18
  · refine v_iload_n X 1 rfl dX5_turned_6 ?_
    refine v_ineg X dX5_turned_7 ?_
    obtain rfl := Option.some.inj hf
    exact v_iret hR dX5_turned_8
set_option maxRecDepth 100000 in
set_option maxHeartbeats 4000000 in
theorem c_X5_turned {l : Launch} {D : va_G} {qT : Nat → ClassId} {Z : (Nat → Prop) → State → Heap → Prop} {r : Int32} {l0 : Int32} {l1 : Int32} (hZ : ZOK Z) (hf : f_X5_turned l0 l1 = some r) :
    CI l D qT Z yX5_turned cX5_turned 2 (some .int) 1 0 0 [.int l0, .int l1] [] r [] := by
  refine CI_of hZ (by decide) (Nat.le_of_ble_eq_true rfl) ?_
  intro x e1 e2 e3 e4 e5 e6 hin X hR
  subst e1 e2 e3 e4
  exact t_X5_turned X e6 hR hf
def f_X5_joined (l0 : Int32) (l1 : Int32) (l2 : Int32) : Option (Int32) :=
  if l0 = (-18) then (
  if l1 = l2 then (
  some 1) else (
  some 0)) else (
  if l0 = (-17) then (
  if l2 ≤ l1 then (
  some 0) else (
  some 1)) else (
  if l0 = (-16) then (
  some (l1 * l2)) else (
  if l0 = (-15) then (
  some (l1 - l2)) else (
  if l0 = (-14) then (
  some (l1 + l2)) else (
  if l0 = (-13) then (
  some (l1 * l2)) else (
  if l0 = (-12) then (
  some (l1 * l2)) else (
  if l0 = (-11) then (
  if l1 = 0 then (
  some 0) else (
  if l2 = 0 then (
  some 0) else (
  some 1))) else (
  if l0 = (-10) then (
  if l1 = 0 then (
  if l2 = 0 then (
  some 0) else (
  some 1)) else (
  some 1)) else (
  some (l1 * l2))))))))))
set_option maxRecDepth 100000 in
set_option maxHeartbeats 4000000 in
theorem t_X5_joined {x : VX} {r : Int32} {l0 : Int32} {l1 : Int32} {l2 : Int32} (X : Cx x cX5_joined RX5 1) (hN : vxn x = 3) (hR : RetI x cX5_joined 0 0 r []) (hf : f_X5_joined l0 l1 l2 = some r) : V x 0 0 [] [(0, .int l0), (1, .int l1), (2, .int l2)] 0 [] := by
  unfold f_X5_joined at hf
  refine v_iload_n X 0 rfl dX5_joined_0 ?_
  rcases ite_some hf with ⟨e1, hf⟩ | ⟨e1_0, hf⟩
  · refine v_tab_in X (tgt := 91) (off := 90) (by rw [e1]; decide) (by rw [e1]; decide) (by rw [e1]; decide) (by decide) dX5_joined_1 ?_
    refine v_iload_n X 1 rfl dX5_joined_91 ?_
    refine v_iload_n X 2 rfl dX5_joined_92 ?_
    refine v_icmp_ne X (tgt := 100) hf (by decide) dX5_joined_93 (fun c93 hf => ?_) (fun c93 hf => ?_)
    · refine v_iconst X (v := 0) (by decide) dX5_joined_100 ?_
      obtain rfl := Option.some.inj hf
      exact v_iret hR dX5_joined_101
    · refine v_iconst X (v := 1) (by decide) dX5_joined_96 ?_
      refine v_goto X (tgt := 101) (by decide) dX5_joined_97 ?_
      obtain rfl := Option.some.inj hf
      exact v_iret hR dX5_joined_101
  rcases ite_some hf with ⟨e1, hf⟩ | ⟨e1_1, hf⟩
  · refine v_tab_in X (tgt := 80) (off := 79) (by rw [e1]; decide) (by rw [e1]; decide) (by rw [e1]; decide) (by decide) dX5_joined_1 ?_
    refine v_iload_n X 1 rfl dX5_joined_80 ?_
    refine v_iload_n X 2 rfl dX5_joined_81 ?_
    refine v_icmp_ge X (tgt := 89) hf (by decide) dX5_joined_82 (fun c82 hf => ?_) (fun c82 hf => ?_)
    · refine v_iconst X (v := 0) (by decide) dX5_joined_89 ?_
      obtain rfl := Option.some.inj hf
      exact v_iret hR dX5_joined_90
    · refine v_iconst X (v := 1) (by decide) dX5_joined_85 ?_
      refine v_goto X (tgt := 90) (by decide) dX5_joined_86 ?_
      obtain rfl := Option.some.inj hf
      exact v_iret hR dX5_joined_90
  rcases ite_some hf with ⟨e1, hf⟩ | ⟨e1_2, hf⟩
  · refine v_tab_in X (tgt := 110) (off := 109) (by rw [e1]; decide) (by rw [e1]; decide) (by rw [e1]; decide) (by decide) dX5_joined_1 ?_
    refine v_iload_n X 1 rfl dX5_joined_110 ?_
    refine v_iload_n X 2 rfl dX5_joined_111 ?_
    refine v_imul X dX5_joined_112 ?_
    obtain rfl := Option.some.inj hf
    exact v_iret hR dX5_joined_113
  rcases ite_some hf with ⟨e1, hf⟩ | ⟨e1_3, hf⟩
  · refine v_tab_in X (tgt := 106) (off := 105) (by rw [e1]; decide) (by rw [e1]; decide) (by rw [e1]; decide) (by decide) dX5_joined_1 ?_
    refine v_iload_n X 1 rfl dX5_joined_106 ?_
    refine v_iload_n X 2 rfl dX5_joined_107 ?_
    refine v_isub X dX5_joined_108 ?_
    obtain rfl := Option.some.inj hf
    exact v_iret hR dX5_joined_109
  rcases ite_some hf with ⟨e1, hf⟩ | ⟨e1_4, hf⟩
  · refine v_tab_in X (tgt := 102) (off := 101) (by rw [e1]; decide) (by rw [e1]; decide) (by rw [e1]; decide) (by decide) dX5_joined_1 ?_
    refine v_iload_n X 1 rfl dX5_joined_102 ?_
    refine v_iload_n X 2 rfl dX5_joined_103 ?_
    refine v_iadd X dX5_joined_104 ?_
    obtain rfl := Option.some.inj hf
    exact v_iret hR dX5_joined_105
  rcases ite_some hf with ⟨e1, hf⟩ | ⟨e1_5, hf⟩
  · refine v_tab_in X (tgt := 110) (off := 109) (by rw [e1]; decide) (by rw [e1]; decide) (by rw [e1]; decide) (by decide) dX5_joined_1 ?_
    refine v_iload_n X 1 rfl dX5_joined_110 ?_
    refine v_iload_n X 2 rfl dX5_joined_111 ?_
    refine v_imul X dX5_joined_112 ?_
    obtain rfl := Option.some.inj hf
    exact v_iret hR dX5_joined_113
  rcases ite_some hf with ⟨e1, hf⟩ | ⟨e1_6, hf⟩
  · refine v_tab_in X (tgt := 110) (off := 109) (by rw [e1]; decide) (by rw [e1]; decide) (by rw [e1]; decide) (by decide) dX5_joined_1 ?_
    refine v_iload_n X 1 rfl dX5_joined_110 ?_
    refine v_iload_n X 2 rfl dX5_joined_111 ?_
    refine v_imul X dX5_joined_112 ?_
    obtain rfl := Option.some.inj hf
    exact v_iret hR dX5_joined_113
  rcases ite_some hf with ⟨e1, hf⟩ | ⟨e1_7, hf⟩
  · refine v_tab_in X (tgt := 66) (off := 65) (by rw [e1]; decide) (by rw [e1]; decide) (by rw [e1]; decide) (by decide) dX5_joined_1 ?_
    refine v_iload_n X 1 rfl dX5_joined_66 ?_
    refine v_if_eq X (tgt := 78) hf (by decide) dX5_joined_67 (fun c67 hf => ?_) (fun c67 hf => ?_)
    · refine v_iconst X (v := 0) (by decide) dX5_joined_78 ?_
      obtain rfl := Option.some.inj hf
      exact v_iret hR dX5_joined_79
    · refine v_iload_n X 2 rfl dX5_joined_70 ?_
      refine v_if_eq X (tgt := 78) hf (by decide) dX5_joined_71 (fun c71 hf => ?_) (fun c71 hf => ?_)
      · refine v_iconst X (v := 0) (by decide) dX5_joined_78 ?_
        obtain rfl := Option.some.inj hf
        exact v_iret hR dX5_joined_79
      · refine v_iconst X (v := 1) (by decide) dX5_joined_74 ?_
        refine v_goto X (tgt := 79) (by decide) dX5_joined_75 ?_
        obtain rfl := Option.some.inj hf
        exact v_iret hR dX5_joined_79
  rcases ite_some hf with ⟨e1, hf⟩ | ⟨e1_8, hf⟩
  · refine v_tab_in X (tgt := 52) (off := 51) (by rw [e1]; decide) (by rw [e1]; decide) (by rw [e1]; decide) (by decide) dX5_joined_1 ?_
    refine v_iload_n X 1 rfl dX5_joined_52 ?_
    refine v_if_ne X (tgt := 60) hf (by decide) dX5_joined_53 (fun c53 hf => ?_) (fun c53 hf => ?_)
    · refine v_iconst X (v := 1) (by decide) dX5_joined_60 ?_
      refine v_goto X (tgt := 65) (by decide) dX5_joined_61 ?_
      obtain rfl := Option.some.inj hf
      exact v_iret hR dX5_joined_65
    · refine v_iload_n X 2 rfl dX5_joined_56 ?_
      refine v_if_eq X (tgt := 64) hf (by decide) dX5_joined_57 (fun c57 hf => ?_) (fun c57 hf => ?_)
      · refine v_iconst X (v := 0) (by decide) dX5_joined_64 ?_
        obtain rfl := Option.some.inj hf
        exact v_iret hR dX5_joined_65
      · refine v_iconst X (v := 1) (by decide) dX5_joined_60 ?_
        refine v_goto X (tgt := 65) (by decide) dX5_joined_61 ?_
        obtain rfl := Option.some.inj hf
        exact v_iret hR dX5_joined_65
  refine v_tab_out X (tgt := 110) (by have g0 := sw_ne (n := -18) e1_0 (by decide); have g1 := sw_ne (n := -17) e1_1 (by decide); have g2 := sw_ne (n := -16) e1_2 (by decide); have g3 := sw_ne (n := -15) e1_3 (by decide); have g4 := sw_ne (n := -14) e1_4 (by decide); have g5 := sw_ne (n := -13) e1_5 (by decide); have g6 := sw_ne (n := -12) e1_6 (by decide); have g7 := sw_ne (n := -11) e1_7 (by decide); have g8 := sw_ne (n := -10) e1_8 (by decide); omega) (by decide) dX5_joined_1 ?_
  refine v_iload_n X 1 rfl dX5_joined_110 ?_
  refine v_iload_n X 2 rfl dX5_joined_111 ?_
  refine v_imul X dX5_joined_112 ?_
  obtain rfl := Option.some.inj hf
  exact v_iret hR dX5_joined_113
set_option maxRecDepth 100000 in
set_option maxHeartbeats 4000000 in
theorem c_X5_joined {l : Launch} {D : va_G} {qT : Nat → ClassId} {Z : (Nat → Prop) → State → Heap → Prop} {r : Int32} {l0 : Int32} {l1 : Int32} {l2 : Int32} (hZ : ZOK Z) (hf : f_X5_joined l0 l1 l2 = some r) :
    CI l D qT Z yX5_joined cX5_joined 3 (some .int) 1 0 0 [.int l0, .int l1, .int l2] [] r [] := by
  refine CI_of hZ (by decide) (Nat.le_of_ble_eq_true rfl) ?_
  intro x e1 e2 e3 e4 e5 e6 hin X hR
  subst e1 e2 e3 e4
  exact t_X5_joined X e6 hR hf
def f_X5_tell_99 (kp_25 : Int32 → Int32 → (Nat → Int32) → Option (Int32 × (Nat → Int32))) (n_p3 : Nat) (p3 : Nat → Int32) (l5 : Int32) (l6 : Int32) (l7 : Int32) : Option (Int32 × (Nat → Int32)) :=
  if l5 < 1 then (
  kp_25 l5 (l6 + 1) p3) else (
  if inb (l5 - 1) n_p3 = true then (
  (f_X5_turned l7 (p3 (Int32.toNatClampNeg (l5 - 1)))).bind (fun v118_1 =>
  if inb (l5 - 1) n_p3 = true then (
  kp_25 l5 (l6 + 1) (upd p3 (Int32.toNatClampNeg (l5 - 1)) v118_1)) else none)) else none)
def f_X5_tell_25 (n_s_ends : Nat) (n_p3 : Nat) (n_s_code : Nat) (n_p2 : Nat) (s_ends : Nat → Int32) (s_code : Nat → Int32) (p2 : Nat → Int32) (l1 : Int32) (kp_25 : Int32 → Int32 → (Nat → Int32) → Option (Int32 × (Nat → Int32))) (l5 : Int32) (l6 : Int32) (p3 : Nat → Int32) : Option (Int32 × (Nat → Int32)) :=
  if inb l1 n_s_ends = true then (
  if (s_ends (Int32.toNatClampNeg l1)) ≤ l6 then (
  if l5 < 1 then (
  some (0, p3)) else (
  if inb (l5 - 1) n_p3 = true then (
  some ((p3 (Int32.toNatClampNeg (l5 - 1))), p3)) else none)) else (
  if inb l6 n_s_code = true then (
  if (s_code (Int32.toNatClampNeg l6)) < (-6) then (
  if (s_code (Int32.toNatClampNeg l6)) = (-12) then (
  f_X5_tell_99 kp_25 n_p3 p3 l5 l6 (s_code (Int32.toNatClampNeg l6))) else (
  if (s_code (Int32.toNatClampNeg l6)) = (-13) then (
  f_X5_tell_99 kp_25 n_p3 p3 l5 l6 (s_code (Int32.toNatClampNeg l6))) else (
  if l5 < 2 then (
  kp_25 l5 (l6 + 1) p3) else (
  if inb ((l5 + (-1)) - 1) n_p3 = true then (
  if inb (l5 + (-1)) n_p3 = true then (
  (f_X5_joined (s_code (Int32.toNatClampNeg l6)) (p3 (Int32.toNatClampNeg ((l5 + (-1)) - 1))) (p3 (Int32.toNatClampNeg (l5 + (-1))))).bind (fun v151_2 =>
  if inb ((l5 + (-1)) - 1) n_p3 = true then (
  kp_25 (l5 + (-1)) (l6 + 1) (upd p3 (Int32.toNatClampNeg ((l5 + (-1)) - 1)) v151_2)) else none)) else none) else none)))) else (
  if (Int32.ofNat n_p3) ≤ l5 then (
  kp_25 l5 (l6 + 1) p3) else (
  if (s_code (Int32.toNatClampNeg l6)) < 0 then (
  if inb ((-1) - (s_code (Int32.toNatClampNeg l6))) n_p2 = true then (
  if inb l5 n_p3 = true then (
  kp_25 (l5 + 1) (l6 + 1) (upd p3 (Int32.toNatClampNeg l5) (p2 (Int32.toNatClampNeg ((-1) - (s_code (Int32.toNatClampNeg l6))))))) else none) else none) else (
  if inb l5 n_p3 = true then (
  kp_25 (l5 + 1) (l6 + 1) (upd p3 (Int32.toNatClampNeg l5) (s_code (Int32.toNatClampNeg l6)))) else none)))) else none)) else none
def f_X5_tell (l1 : Int32) (n_s_ends : Nat) (n_p3 : Nat) (n_s_code : Nat) (n_p2 : Nat) (s_ends : Nat → Int32) (p3 : Nat → Int32) (s_code : Nat → Int32) (p2 : Nat → Int32) : Option (Int32 × (Nat → Int32)) :=
  if l1 = 0 then (
  lq3 (f_X5_tell_25 n_s_ends n_p3 n_s_code n_p2 s_ends s_code p2 l1) 200 0 0 p3) else (
  if inb (l1 - 1) n_s_ends = true then (
  lq3 (f_X5_tell_25 n_s_ends n_p3 n_s_code n_p2 s_ends s_code p2 l1) 200 0 (s_ends (Int32.toNatClampNeg (l1 - 1))) p3) else none)
set_option maxRecDepth 100000 in
set_option maxHeartbeats 4000000 in
theorem t_X5_tell_99 {x : VX} {r : Int32 × (Nat → Int32)} {a0 : Nat} {a_ends : Nat} {a_p3 : Nat} {a_code : Nat} {a_p2 : Nat} {n_s_ends : Nat} {n_p3 : Nat} {n_s_code : Nat} {n_p2 : Nat} {s_ends : Nat → Int32} {p3 : Nat → Int32} {s_code : Nat → Int32} {p2 : Nat → Int32} {l1 : Int32} {l5 : Int32} {l6 : Int32} {l7 : Int32} (X : Cx x cX5_tell RX5 2) (hN : vxn x = 8) (hk : KC x [(a0, .inr (5, [.ref a_code, .ref a_ends])), (a_ends, .inl (vxT x 0, n_s_ends, .inl s_ends)), (a_code, .inl (vxT x 0, n_s_code, .inl s_code))]) {kp_25 : Int32 → Int32 → (Nat → Int32) → Option (Int32 × (Nat → Int32))} (hk_25 : ∀ (l5 : Int32) (l6 : Int32) (p3 : Nat → Int32), kp_25 l5 l6 p3 = some r → V x 0 0 [(a_p3, .inl (vxT x 0, n_p3, .inl p3)), (a_p2, .inl (vxT x 0, n_p2, .inl p2))] [(0, .ref a0), (1, .int l1), (2, .ref a_p2), (3, .ref a_p3), (5, .int l5), (6, .int l6)] 25 []) (hR : RetI x cX5_tell 0 0 r.1 [(a_p3, .inl (vxT x 0, n_p3, .inl r.2)), (a_p2, .inl (vxT x 0, n_p2, .inl p2))]) (hf : f_X5_tell_99 kp_25 n_p3 p3 l5 l6 l7 = some r) : V x 0 0 [(a_p3, .inl (vxT x 0, n_p3, .inl p3)), (a_p2, .inl (vxT x 0, n_p2, .inl p2))] [(0, .ref a0), (1, .int l1), (2, .ref a_p2), (3, .ref a_p3), (5, .int l5), (6, .int l6), (7, .int l7)] 99 [] := by
  unfold f_X5_tell_99 at hf
  refine v_iload X 4 rfl dX5_tell_99 ?_
  refine v_iconst X (v := 1) (by decide) dX5_tell_101 ?_
  refine v_icmp_lt X (tgt := 155) hf (by decide) dX5_tell_102 (fun c102 hf => ?_) (fun c102 hf => ?_)
  · refine v_iinc X 5 rfl (v := (l6 + 1)) rfl (by rw [hN]; decide) (lv' := [(6, .int (l6 + 1)), (0, .ref a0), (1, .int l1), (2, .ref a_p2), (3, .ref a_p3), (5, .int l5), (7, .int l7)]) rfl dX5_tell_155 ?_
    refine v_goto X (tgt := 25) (by decide) dX5_tell_158 ?_
    refine v_lv [1, 2, 3, 4, 5, 0] rfl ?_
    exact hk_25 _ _ _ hf
  · refine v_aload_n X 3 rfl dX5_tell_105 ?_
    refine v_iload X 4 rfl dX5_tell_106 ?_
    refine v_iconst X (v := 1) (by decide) dX5_tell_108 ?_
    refine v_isub X dX5_tell_109 ?_
    refine v_iload X 6 rfl dX5_tell_110 ?_
    refine v_aload_n X 3 rfl dX5_tell_112 ?_
    refine v_iload X 4 rfl dX5_tell_113 ?_
    refine v_iconst X (v := 1) (by decide) dX5_tell_115 ?_
    refine v_isub X dX5_tell_116 ?_
    refine v_iald X 0 rfl hf dX5_tell_117 (fun h117 hf => ?_)
    obtain ⟨v118_1, hv118_1, hf⟩ := bd_some hf
    refine v_scallI X (c_X5_turned X.2.2.2.2.2.2.2.1 hv118_1) cws_X5_18 rfl (by decide) ⟨Nat.zero_le _, Nat.zero_le _⟩ [] [0, 1] [0, 1] rfl (by decide) (wr := [(a_p3, .inl (vxT x 0, n_p3, .inl p3)), (a_p2, .inl (vxT x 0, n_p2, .inl p2))]) rfl (by decide) (by decide) (ws2 := [(a_p3, .inl (vxT x 0, n_p3, .inl p3)), (a_p2, .inl (vxT x 0, n_p2, .inl p2))]) rfl (by decide) (Nat.le_of_ble_eq_true rfl) rfl dX5_tell_118 ?_
    refine v_iast X 0 rfl hf (ws' := [(a_p3, .inl (vxT x 0, n_p3, .inl (upd p3 (Int32.toNatClampNeg (l5 - 1)) v118_1))), (a_p2, .inl (vxT x 0, n_p2, .inl p2))]) rfl dX5_tell_121 (fun h121 hf => ?_)
    refine v_goto X (tgt := 155) (by decide) dX5_tell_122 ?_
    refine v_iinc X 5 rfl (v := (l6 + 1)) rfl (by rw [hN]; decide) (lv' := [(6, .int (l6 + 1)), (0, .ref a0), (1, .int l1), (2, .ref a_p2), (3, .ref a_p3), (5, .int l5), (7, .int l7)]) rfl dX5_tell_155 ?_
    refine v_goto X (tgt := 25) (by decide) dX5_tell_158 ?_
    refine v_lv [1, 2, 3, 4, 5, 0] rfl ?_
    exact hk_25 _ _ _ hf
set_option maxRecDepth 100000 in
set_option maxHeartbeats 4000000 in
theorem t_X5_tell_25 {x : VX} {r : Int32 × (Nat → Int32)} {a0 : Nat} {a_ends : Nat} {a_p3 : Nat} {a_code : Nat} {a_p2 : Nat} {n_s_ends : Nat} {n_p3 : Nat} {n_s_code : Nat} {n_p2 : Nat} {s_ends : Nat → Int32} {s_code : Nat → Int32} {p2 : Nat → Int32} {l1 : Int32} (X : Cx x cX5_tell RX5 2) (hN : vxn x = 8) (hk : KC x [(a0, .inr (5, [.ref a_code, .ref a_ends])), (a_ends, .inl (vxT x 0, n_s_ends, .inl s_ends)), (a_code, .inl (vxT x 0, n_s_code, .inl s_code))]) (hR : RetI x cX5_tell 0 0 r.1 [(a_p3, .inl (vxT x 0, n_p3, .inl r.2)), (a_p2, .inl (vxT x 0, n_p2, .inl p2))]) :
    ∀ (fu : Nat) (l5 : Int32) (l6 : Int32) (p3 : Nat → Int32), lq3 (f_X5_tell_25 n_s_ends n_p3 n_s_code n_p2 s_ends s_code p2 l1) fu l5 l6 p3 = some r → V x 0 0 [(a_p3, .inl (vxT x 0, n_p3, .inl p3)), (a_p2, .inl (vxT x 0, n_p2, .inl p2))] [(0, .ref a0), (1, .int l1), (2, .ref a_p2), (3, .ref a_p3), (5, .int l5), (6, .int l6)] 25 [] := by
  refine lq3_V (G := fun l5 l6 p3 => V x 0 0 [(a_p3, .inl (vxT x 0, n_p3, .inl p3)), (a_p2, .inl (vxT x 0, n_p2, .inl p2))] [(0, .ref a0), (1, .int l1), (2, .ref a_p2), (3, .ref a_p3), (5, .int l5), (6, .int l6)] 25 []) ?_
  intro kp_25 hk_25 l5 l6 p3 hf
  unfold f_X5_tell_25 at hf
  refine v_iload X 5 rfl dX5_tell_25 ?_
  refine v_aload_n X 0 rfl dX5_tell_27 ?_
  refine v_getK X hk xinX5 0 rfl rfl 1 (by decide) wd53 rfl rfl dX5_tell_28 ?_
  refine v_iload_n X 1 rfl dX5_tell_31 ?_
  refine v_ialdK X hk 1 rfl hf dX5_tell_32 (fun h32 hf => ?_)
  refine v_icmp_ge X (tgt := 161) hf (by decide) dX5_tell_33 (fun c33 hf => ?_) (fun c33 hf => ?_)
  · refine v_iload X 4 rfl dX5_tell_161 ?_
    refine v_iconst X (v := 1) (by decide) dX5_tell_163 ?_
    refine v_icmp_lt X (tgt := 176) hf (by decide) dX5_tell_164 (fun c164 hf => ?_) (fun c164 hf => ?_)
    · refine v_iconst X (v := 0) (by decide) dX5_tell_176 ?_
      obtain rfl := Option.some.inj hf
      exact v_iret hR dX5_tell_177
    · refine v_aload_n X 3 rfl dX5_tell_167 ?_
      refine v_iload X 4 rfl dX5_tell_168 ?_
      refine v_iconst X (v := 1) (by decide) dX5_tell_170 ?_
      refine v_isub X dX5_tell_171 ?_
      refine v_iald X 0 rfl hf dX5_tell_172 (fun h172 hf => ?_)
      refine v_goto X (tgt := 177) (by decide) dX5_tell_173 ?_
      obtain rfl := Option.some.inj hf
      exact v_iret hR dX5_tell_177
  · refine v_aload_n X 0 rfl dX5_tell_36 ?_
    refine v_getK X hk xinX5 0 rfl rfl 0 (by decide) wd54 rfl rfl dX5_tell_37 ?_
    refine v_iload X 5 rfl dX5_tell_40 ?_
    refine v_ialdK X hk 2 rfl hf dX5_tell_42 (fun h42 hf => ?_)
    refine v_istore X (by rw [hN]; decide) (lv' := [(7, .int (s_code (Int32.toNatClampNeg l6))), (0, .ref a0), (1, .int l1), (2, .ref a_p2), (3, .ref a_p3), (5, .int l5), (6, .int l6)]) rfl dX5_tell_43 ?_
    refine v_iload X 0 rfl dX5_tell_45 ?_
    refine v_bipush X (v := (-6)) (by decide) dX5_tell_47 ?_
    refine v_icmp_lt X (tgt := 85) hf (by decide) dX5_tell_49 (fun c49 hf => ?_) (fun c49 hf => ?_)
    · refine v_iload X 0 rfl dX5_tell_85 ?_
      refine v_bipush X (v := (-12)) (by decide) dX5_tell_87 ?_
      refine v_icmp_eq X (tgt := 99) hf (by decide) dX5_tell_89 (fun c89 hf => ?_) (fun c89 hf => ?_)
      · refine v_lv [1, 2, 3, 4, 5, 6, 0] rfl ?_
        exact t_X5_tell_99 X hN hk hk_25 hR hf
      · refine v_iload X 0 rfl dX5_tell_92 ?_
        refine v_bipush X (v := (-13)) (by decide) dX5_tell_94 ?_
        refine v_icmp_ne X (tgt := 125) hf (by decide) dX5_tell_96 (fun c96 hf => ?_) (fun c96 hf => ?_)
        · refine v_iload X 5 rfl dX5_tell_125 ?_
          refine v_iconst X (v := 2) (by decide) dX5_tell_127 ?_
          refine v_icmp_lt X (tgt := 155) hf (by decide) dX5_tell_128 (fun c128 hf => ?_) (fun c128 hf => ?_)
          · refine v_iinc X 6 rfl (v := (l6 + 1)) rfl (by rw [hN]; decide) (lv' := [(6, .int (l6 + 1)), (7, .int (s_code (Int32.toNatClampNeg l6))), (0, .ref a0), (1, .int l1), (2, .ref a_p2), (3, .ref a_p3), (5, .int l5)]) rfl dX5_tell_155 ?_
            refine v_goto X (tgt := 25) (by decide) dX5_tell_158 ?_
            refine v_lv [2, 3, 4, 5, 6, 0] rfl ?_
            exact hk_25 _ _ _ hf
          · refine v_iinc X 5 rfl (v := (l5 + (-1))) (congrArg (HAdd.hAdd _) (by decide)) (by rw [hN]; decide) (lv' := [(5, .int (l5 + (-1))), (7, .int (s_code (Int32.toNatClampNeg l6))), (0, .ref a0), (1, .int l1), (2, .ref a_p2), (3, .ref a_p3), (6, .int l6)]) rfl dX5_tell_131 ?_
            refine v_aload_n X 5 rfl dX5_tell_134 ?_
            refine v_iload X 0 rfl dX5_tell_135 ?_
            refine v_iconst X (v := 1) (by decide) dX5_tell_137 ?_
            refine v_isub X dX5_tell_138 ?_
            refine v_iload X 1 rfl dX5_tell_139 ?_
            refine v_aload_n X 5 rfl dX5_tell_141 ?_
            refine v_iload X 0 rfl dX5_tell_142 ?_
            refine v_iconst X (v := 1) (by decide) dX5_tell_144 ?_
            refine v_isub X dX5_tell_145 ?_
            refine v_iald X 0 rfl hf dX5_tell_146 (fun h146 hf => ?_)
            refine v_aload_n X 5 rfl dX5_tell_147 ?_
            refine v_iload X 0 rfl dX5_tell_148 ?_
            refine v_iald X 0 rfl hf dX5_tell_150 (fun h150 hf => ?_)
            obtain ⟨v151_2, hv151_2, hf⟩ := bd_some hf
            refine v_scallI X (c_X5_joined X.2.2.2.2.2.2.2.1 hv151_2) cws_X5_22 rfl (by decide) ⟨Nat.zero_le _, Nat.zero_le _⟩ [] [0, 1] [0, 1] rfl (by decide) (wr := [(a_p3, .inl (vxT x 0, n_p3, .inl p3)), (a_p2, .inl (vxT x 0, n_p2, .inl p2))]) rfl (by decide) (by decide) (ws2 := [(a_p3, .inl (vxT x 0, n_p3, .inl p3)), (a_p2, .inl (vxT x 0, n_p2, .inl p2))]) rfl (by decide) (Nat.le_of_ble_eq_true rfl) rfl dX5_tell_151 ?_
            refine v_iast X 0 rfl hf (ws' := [(a_p3, .inl (vxT x 0, n_p3, .inl (upd p3 (Int32.toNatClampNeg ((l5 + (-1)) - 1)) v151_2))), (a_p2, .inl (vxT x 0, n_p2, .inl p2))]) rfl dX5_tell_154 (fun h154 hf => ?_)
            refine v_iinc X 6 rfl (v := (l6 + 1)) rfl (by rw [hN]; decide) (lv' := [(6, .int (l6 + 1)), (5, .int (l5 + (-1))), (7, .int (s_code (Int32.toNatClampNeg l6))), (0, .ref a0), (1, .int l1), (2, .ref a_p2), (3, .ref a_p3)]) rfl dX5_tell_155 ?_
            refine v_goto X (tgt := 25) (by decide) dX5_tell_158 ?_
            refine v_lv [3, 4, 5, 6, 1, 0] rfl ?_
            exact hk_25 _ _ _ hf
        · refine v_lv [1, 2, 3, 4, 5, 6, 0] rfl ?_
          exact t_X5_tell_99 X hN hk hk_25 hR hf
    · refine v_iload X 5 rfl dX5_tell_52 ?_
      refine v_aload_n X 4 rfl dX5_tell_54 ?_
      refine v_alen X 0 rfl (v := (Int32.ofNat n_p3)) rfl dX5_tell_55 ?_
      refine v_icmp_ge X (tgt := 155) hf (by decide) dX5_tell_56 (fun c56 hf => ?_) (fun c56 hf => ?_)
      · refine v_iinc X 6 rfl (v := (l6 + 1)) rfl (by rw [hN]; decide) (lv' := [(6, .int (l6 + 1)), (7, .int (s_code (Int32.toNatClampNeg l6))), (0, .ref a0), (1, .int l1), (2, .ref a_p2), (3, .ref a_p3), (5, .int l5)]) rfl dX5_tell_155 ?_
        refine v_goto X (tgt := 25) (by decide) dX5_tell_158 ?_
        refine v_lv [2, 3, 4, 5, 6, 0] rfl ?_
        exact hk_25 _ _ _ hf
      · refine v_aload_n X 4 rfl dX5_tell_59 ?_
        refine v_iload X 5 rfl dX5_tell_60 ?_
        refine v_iload X 0 rfl dX5_tell_62 ?_
        refine v_if_lt X (tgt := 72) hf (by decide) dX5_tell_64 (fun c64 hf => ?_) (fun c64 hf => ?_)
        · refine v_aload_n X 3 rfl dX5_tell_72 ?_
          refine v_iconst X (v := (-1)) (by decide) dX5_tell_73 ?_
          refine v_iload X 0 rfl dX5_tell_74 ?_
          refine v_isub X dX5_tell_76 ?_
          refine v_iald X 1 rfl hf dX5_tell_77 (fun h77 hf => ?_)
          refine v_iast X 0 rfl hf (ws' := [(a_p3, .inl (vxT x 0, n_p3, .inl (upd p3 (Int32.toNatClampNeg l5) (p2 (Int32.toNatClampNeg ((-1) - (s_code (Int32.toNatClampNeg l6)))))))), (a_p2, .inl (vxT x 0, n_p2, .inl p2))]) rfl dX5_tell_78 (fun h78 hf => ?_)
          refine v_iinc X 5 rfl (v := (l5 + 1)) rfl (by rw [hN]; decide) (lv' := [(5, .int (l5 + 1)), (7, .int (s_code (Int32.toNatClampNeg l6))), (0, .ref a0), (1, .int l1), (2, .ref a_p2), (3, .ref a_p3), (6, .int l6)]) rfl dX5_tell_79 ?_
          refine v_goto X (tgt := 155) (by decide) dX5_tell_82 ?_
          refine v_iinc X 6 rfl (v := (l6 + 1)) rfl (by rw [hN]; decide) (lv' := [(6, .int (l6 + 1)), (5, .int (l5 + 1)), (7, .int (s_code (Int32.toNatClampNeg l6))), (0, .ref a0), (1, .int l1), (2, .ref a_p2), (3, .ref a_p3)]) rfl dX5_tell_155 ?_
          refine v_goto X (tgt := 25) (by decide) dX5_tell_158 ?_
          refine v_lv [3, 4, 5, 6, 1, 0] rfl ?_
          exact hk_25 _ _ _ hf
        · refine v_iload X 0 rfl dX5_tell_67 ?_
          refine v_goto X (tgt := 78) (by decide) dX5_tell_69 ?_
          refine v_iast X 0 rfl hf (ws' := [(a_p3, .inl (vxT x 0, n_p3, .inl (upd p3 (Int32.toNatClampNeg l5) (s_code (Int32.toNatClampNeg l6))))), (a_p2, .inl (vxT x 0, n_p2, .inl p2))]) rfl dX5_tell_78 (fun h78 hf => ?_)
          refine v_iinc X 5 rfl (v := (l5 + 1)) rfl (by rw [hN]; decide) (lv' := [(5, .int (l5 + 1)), (7, .int (s_code (Int32.toNatClampNeg l6))), (0, .ref a0), (1, .int l1), (2, .ref a_p2), (3, .ref a_p3), (6, .int l6)]) rfl dX5_tell_79 ?_
          refine v_goto X (tgt := 155) (by decide) dX5_tell_82 ?_
          refine v_iinc X 6 rfl (v := (l6 + 1)) rfl (by rw [hN]; decide) (lv' := [(6, .int (l6 + 1)), (5, .int (l5 + 1)), (7, .int (s_code (Int32.toNatClampNeg l6))), (0, .ref a0), (1, .int l1), (2, .ref a_p2), (3, .ref a_p3)]) rfl dX5_tell_155 ?_
          refine v_goto X (tgt := 25) (by decide) dX5_tell_158 ?_
          refine v_lv [3, 4, 5, 6, 1, 0] rfl ?_
          exact hk_25 _ _ _ hf
set_option maxRecDepth 100000 in
set_option maxHeartbeats 4000000 in
theorem t_X5_tell {x : VX} {r : Int32 × (Nat → Int32)} {a0 : Nat} {a_ends : Nat} {a_p3 : Nat} {a_code : Nat} {a_p2 : Nat} {n_s_ends : Nat} {n_p3 : Nat} {n_s_code : Nat} {n_p2 : Nat} {s_ends : Nat → Int32} {p3 : Nat → Int32} {s_code : Nat → Int32} {p2 : Nat → Int32} {l1 : Int32} (X : Cx x cX5_tell RX5 2) (hN : vxn x = 8) (hk : KC x [(a0, .inr (5, [.ref a_code, .ref a_ends])), (a_ends, .inl (vxT x 0, n_s_ends, .inl s_ends)), (a_code, .inl (vxT x 0, n_s_code, .inl s_code))]) (hR : RetI x cX5_tell 0 0 r.1 [(a_p3, .inl (vxT x 0, n_p3, .inl r.2)), (a_p2, .inl (vxT x 0, n_p2, .inl p2))]) (hf : f_X5_tell l1 n_s_ends n_p3 n_s_code n_p2 s_ends p3 s_code p2 = some r) : V x 0 0 [(a_p3, .inl (vxT x 0, n_p3, .inl p3)), (a_p2, .inl (vxT x 0, n_p2, .inl p2))] [(0, .ref a0), (1, .int l1), (2, .ref a_p2), (3, .ref a_p3)] 0 [] := by
  unfold f_X5_tell at hf
  refine v_iload_n X 1 rfl dX5_tell_0 ?_
  refine v_if_ne X (tgt := 8) hf (by decide) dX5_tell_1 (fun c1 hf => ?_) (fun c1 hf => ?_)
  · refine v_aload_n X 0 rfl dX5_tell_8 ?_
    refine v_getK X hk xinX5 0 rfl rfl 1 (by decide) wd53 rfl rfl dX5_tell_9 ?_
    refine v_iload_n X 1 rfl dX5_tell_12 ?_
    refine v_iconst X (v := 1) (by decide) dX5_tell_13 ?_
    refine v_isub X dX5_tell_14 ?_
    refine v_ialdK X hk 1 rfl hf dX5_tell_15 (fun h15 hf => ?_)
    refine v_istore X (by rw [hN]; decide) (lv' := [(4, .int (s_ends (Int32.toNatClampNeg (l1 - 1)))), (0, .ref a0), (1, .int l1), (2, .ref a_p2), (3, .ref a_p3)]) rfl dX5_tell_16 ?_
    refine v_iconst X (v := 0) (by decide) dX5_tell_18 ?_
    refine v_istore X (by rw [hN]; decide) (lv' := [(5, .int 0), (4, .int (s_ends (Int32.toNatClampNeg (l1 - 1)))), (0, .ref a0), (1, .int l1), (2, .ref a_p2), (3, .ref a_p3)]) rfl dX5_tell_19 ?_
    refine v_iload X 1 rfl dX5_tell_21 ?_
    refine v_istore X (by rw [hN]; decide) (lv' := [(6, .int (s_ends (Int32.toNatClampNeg (l1 - 1)))), (5, .int 0), (4, .int (s_ends (Int32.toNatClampNeg (l1 - 1)))), (0, .ref a0), (1, .int l1), (2, .ref a_p2), (3, .ref a_p3)]) rfl dX5_tell_23 ?_
    refine v_lv [3, 4, 5, 6, 1, 0] rfl ?_
    exact t_X5_tell_25 X hN hk hR 200 _ _ _ hf
  · refine v_iconst X (v := 0) (by decide) dX5_tell_4 ?_
    refine v_goto X (tgt := 16) (by decide) dX5_tell_5 ?_
    refine v_istore X (by rw [hN]; decide) (lv' := [(4, .int 0), (0, .ref a0), (1, .int l1), (2, .ref a_p2), (3, .ref a_p3)]) rfl dX5_tell_16 ?_
    refine v_iconst X (v := 0) (by decide) dX5_tell_18 ?_
    refine v_istore X (by rw [hN]; decide) (lv' := [(5, .int 0), (4, .int 0), (0, .ref a0), (1, .int l1), (2, .ref a_p2), (3, .ref a_p3)]) rfl dX5_tell_19 ?_
    refine v_iload X 1 rfl dX5_tell_21 ?_
    refine v_istore X (by rw [hN]; decide) (lv' := [(6, .int 0), (5, .int 0), (4, .int 0), (0, .ref a0), (1, .int l1), (2, .ref a_p2), (3, .ref a_p3)]) rfl dX5_tell_23 ?_
    refine v_lv [3, 4, 5, 6, 1, 0] rfl ?_
    exact t_X5_tell_25 X hN hk hR 200 _ _ _ hf
set_option maxRecDepth 100000 in
set_option maxHeartbeats 4000000 in
theorem c_X5_tell {l : Launch} {D : va_G} {qT : Nat → ClassId} {Z : (Nat → Prop) → State → Heap → Prop} {r : Int32 × (Nat → Int32)} {a0 : Nat} {a_ends : Nat} {a_p3 : Nat} {a_code : Nat} {a_p2 : Nat} {n_s_ends : Nat} {n_p3 : Nat} {n_s_code : Nat} {n_p2 : Nat} {s_ends : Nat → Int32} {p3 : Nat → Int32} {s_code : Nat → Int32} {p2 : Nat → Int32} {l1 : Int32} (hZ : ZOK Z) (hk : ∀ (A : Nat → Prop) (U : State) (H : Heap), Z A U H → va_P D vwCl [(a0, .inr (5, [.ref a_code, .ref a_ends])), (a_ends, .inl (qT 0, n_s_ends, .inl s_ends)), (a_code, .inl (qT 0, n_s_code, .inl s_code))] H) (hf : f_X5_tell l1 n_s_ends n_p3 n_s_code n_p2 s_ends p3 s_code p2 = some r) :
    CI l D qT Z yX5_tell cX5_tell 8 (some .int) 2 0 0 [.ref a0, .int l1, .ref a_p2, .ref a_p3] [(a_p3, .inl (qT 0, n_p3, .inl p3)), (a_p2, .inl (qT 0, n_p2, .inl p2))] r.1 [(a_p3, .inl (qT 0, n_p3, .inl r.2)), (a_p2, .inl (qT 0, n_p2, .inl p2))] := by
  refine CI_of hZ (by decide) (Nat.le_of_ble_eq_true rfl) ?_
  intro x e1 e2 e3 e4 e5 e6 hin X hR
  subst e1 e2 e3 e4
  exact t_X5_tell X e6 hk hR hf
def f_X6_lowest_42 (l0 : Int32) (l1 : Int32) (l2 : Int32) (l3 : Int32) : Option (Int64) :=
  if l3 = 0 then (
  some (-4611686018427387904)) else (
  if l2 = 0 then (
  if l3 = 0 then none else (
  some (Int32.toInt64 (l0 / l3)))) else (
  if l3 = 0 then none else (
  some (Int32.toInt64 (l1 / l3)))))
def f_X6_lowest_11 (l0 : Int32) (l1 : Int32) (l2 : Int32) (kp_11 : Int32 → Int32 → Int32 → Option (Int64)) (l3 : Int32) (l4 : Int32) (l5 : Int32) : Option (Int64) :=
  if 100 ≤ l5 then (
  f_X6_lowest_42 l0 l1 l2 l3) else (
  if l4 = 0 then (
  f_X6_lowest_42 l0 l1 l2 l3) else (
  if l4 = 0 then none else (
  kp_11 l4 (l3 - l3 / l4 * l4) (l5 + 1))))
def f_X6_lowest (l0 : Int32) (l1 : Int32) (l2 : Int32) : Option (Int64) :=
  lq3 (f_X6_lowest_11 l0 l1 l2) 200 l1 (if 0 ≤ l0 then l0 else 0 - l0) 0
set_option maxRecDepth 100000 in
set_option maxHeartbeats 4000000 in
theorem t_X6_lowest_42 {x : VX} {r : Int64} {l0 : Int32} {l1 : Int32} {l2 : Int32} {l3 : Int32} (X : Cx x cX6_lowest RX6 1) (hN : vxn x = 7) (hR : RetL x cX6_lowest 0 0 r []) (hf : f_X6_lowest_42 l0 l1 l2 l3 = some r) : V x 0 0 [] [(0, .int l0), (1, .int l1), (2, .int l2), (3, .int l3)] 42 [] := by
  unfold f_X6_lowest_42 at hf
  refine v_iload_n X 3 rfl dX6_lowest_42 ?_
  refine v_if_ne X (tgt := 50) hf (by decide) dX6_lowest_43 (fun c43 hf => ?_) (fun c43 hf => ?_)
  · refine v_iload_n X 2 rfl dX6_lowest_50 ?_
    refine v_if_ne X (tgt := 61) hf (by decide) dX6_lowest_51 (fun c51 hf => ?_) (fun c51 hf => ?_)
    · refine v_iload_n X 1 rfl dX6_lowest_61 ?_
      refine v_iload_n X 3 rfl dX6_lowest_62 ?_
      refine v_idivq X hf dX6_lowest_63 (fun hz hf => ?_)
      refine v_i2l X dX6_lowest_64 ?_
      obtain rfl := Option.some.inj hf
      exact v_lret hR dX6_lowest_65
    · refine v_iload_n X 0 rfl dX6_lowest_54 ?_
      refine v_iload_n X 3 rfl dX6_lowest_55 ?_
      refine v_idivq X hf dX6_lowest_56 (fun hz hf => ?_)
      refine v_i2l X dX6_lowest_57 ?_
      refine v_goto X (tgt := 65) (by decide) dX6_lowest_58 ?_
      obtain rfl := Option.some.inj hf
      exact v_lret hR dX6_lowest_65
  · refine v_ldc2 X wd63 dX6_lowest_46 ?_
    obtain rfl := Option.some.inj hf
    exact v_lret hR dX6_lowest_49
set_option maxRecDepth 100000 in
set_option maxHeartbeats 4000000 in
theorem t_X6_lowest_11 {x : VX} {r : Int64} {l0 : Int32} {l1 : Int32} {l2 : Int32} (X : Cx x cX6_lowest RX6 1) (hN : vxn x = 7) (hR : RetL x cX6_lowest 0 0 r []) :
    ∀ (fu : Nat) (l3 : Int32) (l4 : Int32) (l5 : Int32), lq3 (f_X6_lowest_11 l0 l1 l2) fu l3 l4 l5 = some r → V x 0 0 [] [(0, .int l0), (1, .int l1), (2, .int l2), (3, .int l3), (4, .int l4), (5, .int l5)] 11 [] := by
  refine lq3_V (G := fun l3 l4 l5 => V x 0 0 [] [(0, .int l0), (1, .int l1), (2, .int l2), (3, .int l3), (4, .int l4), (5, .int l5)] 11 []) ?_
  intro kp_11 hk_11 l3 l4 l5 hf
  unfold f_X6_lowest_11 at hf
  refine v_iload X 5 rfl dX6_lowest_11 ?_
  refine v_bipush X (v := 100) (by decide) dX6_lowest_13 ?_
  refine v_icmp_ge X (tgt := 42) hf (by decide) dX6_lowest_15 (fun c15 hf => ?_) (fun c15 hf => ?_)
  · refine v_lv [0, 1, 2, 3] rfl ?_
    exact t_X6_lowest_42 X hN hR hf
  · refine v_iload X 4 rfl dX6_lowest_18 ?_
    refine v_if_eq X (tgt := 42) hf (by decide) dX6_lowest_20 (fun c20 hf => ?_) (fun c20 hf => ?_)
    · refine v_lv [0, 1, 2, 3] rfl ?_
      exact t_X6_lowest_42 X hN hR hf
    · refine v_iload_n X 3 rfl dX6_lowest_23 ?_
      refine v_iload X 4 rfl dX6_lowest_24 ?_
      refine v_iremq X hf dX6_lowest_26 (fun hz hf => ?_)
      refine v_istore X (by rw [hN]; decide) (lv' := [(6, .int (l3 - l3 / l4 * l4)), (0, .int l0), (1, .int l1), (2, .int l2), (3, .int l3), (4, .int l4), (5, .int l5)]) rfl dX6_lowest_27 ?_
      refine v_iload X 5 rfl dX6_lowest_29 ?_
      refine v_istore_n X rfl (by rw [hN]; decide) (lv' := [(3, .int l4), (6, .int (l3 - l3 / l4 * l4)), (0, .int l0), (1, .int l1), (2, .int l2), (4, .int l4), (5, .int l5)]) rfl dX6_lowest_31 ?_
      refine v_iload X 1 rfl dX6_lowest_32 ?_
      refine v_istore X (by rw [hN]; decide) (lv' := [(4, .int (l3 - l3 / l4 * l4)), (3, .int l4), (6, .int (l3 - l3 / l4 * l4)), (0, .int l0), (1, .int l1), (2, .int l2), (5, .int l5)]) rfl dX6_lowest_34 ?_
      refine v_iinc X 6 rfl (v := (l5 + 1)) rfl (by rw [hN]; decide) (lv' := [(5, .int (l5 + 1)), (4, .int (l3 - l3 / l4 * l4)), (3, .int l4), (6, .int (l3 - l3 / l4 * l4)), (0, .int l0), (1, .int l1), (2, .int l2)]) rfl dX6_lowest_36 ?_
      refine v_goto X (tgt := 11) (by decide) dX6_lowest_39 ?_
      refine v_lv [4, 5, 6, 2, 1, 0] rfl ?_
      exact hk_11 _ _ _ hf
set_option maxRecDepth 100000 in
set_option maxHeartbeats 4000000 in
theorem t_X6_lowest {x : VX} {r : Int64} {l0 : Int32} {l1 : Int32} {l2 : Int32} (X : Cx x cX6_lowest RX6 1) (hN : vxn x = 7) (hR : RetL x cX6_lowest 0 0 r []) (hf : f_X6_lowest l0 l1 l2 = some r) : V x 0 0 [] [(0, .int l0), (1, .int l1), (2, .int l2)] 0 [] := by
  unfold f_X6_lowest at hf
  refine v_iload_n X 1 rfl dX6_lowest_0 ?_
  refine v_istore_n X rfl (by rw [hN]; decide) (lv' := [(3, .int l1), (0, .int l0), (1, .int l1), (2, .int l2)]) rfl dX6_lowest_1 ?_
  refine v_iload_n X 1 rfl dX6_lowest_2 ?_
  refine v_mabs X wd62 (by decide) (Nat.le_of_ble_eq_true rfl) dX6_lowest_3 ?_
  refine v_istore X (by rw [hN]; decide) (lv' := [(4, .int (if 0 ≤ l0 then l0 else 0 - l0)), (3, .int l1), (0, .int l0), (1, .int l1), (2, .int l2)]) rfl dX6_lowest_6 ?_
  refine v_iconst X (v := 0) (by decide) dX6_lowest_8 ?_
  refine v_istore X (by rw [hN]; decide) (lv' := [(5, .int 0), (4, .int (if 0 ≤ l0 then l0 else 0 - l0)), (3, .int l1), (0, .int l0), (1, .int l1), (2, .int l2)]) rfl dX6_lowest_9 ?_
  refine v_lv [3, 4, 5, 2, 1, 0] rfl ?_
  exact t_X6_lowest_11 X hN hR 200 _ _ _ hf
set_option maxRecDepth 100000 in
set_option maxHeartbeats 4000000 in
theorem c_X6_lowest {l : Launch} {D : va_G} {qT : Nat → ClassId} {Z : (Nat → Prop) → State → Heap → Prop} {r : Int64} {l0 : Int32} {l1 : Int32} {l2 : Int32} (hZ : ZOK Z) (hf : f_X6_lowest l0 l1 l2 = some r) :
    CL l D qT Z yX6_lowest cX6_lowest 7 (some .long) 1 0 0 [.int l0, .int l1, .int l2] [] r [] := by
  refine CL_of hZ (by decide) (Nat.le_of_ble_eq_true rfl) ?_
  intro x e1 e2 e3 e4 e5 e6 hin X hR
  subst e1 e2 e3 e4
  exact t_X6_lowest X e6 hR hf
def f_X4_leftView (s_views : Int32) (s_names : Nat → Int32) : Option (Int32) :=
  if (s_names (Int32.toNatClampNeg 0)) < 1 then (
  some s_views) else (
  if 5 < (s_names (Int32.toNatClampNeg 0)) then (
  some s_views) else (
  some (2 * s_views)))
set_option maxRecDepth 100000 in
set_option maxHeartbeats 4000000 in
theorem t_X4_leftView {x : VX} {r : Int32} {a0 : Nat} {a_names : Nat} {a_stack : Nat} {s_views : Int32} {s_warms : Int32} {s_minds : Int32} {s_names : Nat → Int32} (X : Cx x cX4_leftView RX4 1) (hN : vxn x = 1) (hR : RetI x cX4_leftView 0 0 r [(a0, .inr (4, [.ref a_names, .ref a_stack, .int s_views, .int s_warms, .int s_minds])), (a_names, .inl (vxT x 0, 6, .inl s_names))]) (hf : f_X4_leftView s_views s_names = some r) : V x 0 0 [(a0, .inr (4, [.ref a_names, .ref a_stack, .int s_views, .int s_warms, .int s_minds])), (a_names, .inl (vxT x 0, 6, .inl s_names))] [(0, .ref a0)] 0 [] := by
  unfold f_X4_leftView at hf
  refine v_aload_n X 0 rfl dX4_leftView_0 ?_
  refine v_get X xinX4 0 rfl rfl 0 (by decide) wd64 rfl rfl dX4_leftView_1 ?_
  refine v_iconst X (v := 0) (by decide) dX4_leftView_4 ?_
  refine v_iald_c X 1 rfl (by decide) dX4_leftView_5 ?_
  refine v_iconst X (v := 1) (by decide) dX4_leftView_6 ?_
  refine v_icmp_lt X (tgt := 29) hf (by decide) dX4_leftView_7 (fun c7 hf => ?_) (fun c7 hf => ?_)
  · refine v_aload_n X 0 rfl dX4_leftView_29 ?_
    refine v_get X xinX4 0 rfl rfl 2 (by decide) wd65 rfl rfl dX4_leftView_30 ?_
    obtain rfl := Option.some.inj hf
    exact v_iret hR dX4_leftView_33
  · refine v_aload_n X 0 rfl dX4_leftView_10 ?_
    refine v_get X xinX4 0 rfl rfl 0 (by decide) wd64 rfl rfl dX4_leftView_11 ?_
    refine v_iconst X (v := 0) (by decide) dX4_leftView_14 ?_
    refine v_iald_c X 1 rfl (by decide) dX4_leftView_15 ?_
    refine v_iconst X (v := 5) (by decide) dX4_leftView_16 ?_
    refine v_icmp_gt X (tgt := 29) hf (by decide) dX4_leftView_17 (fun c17 hf => ?_) (fun c17 hf => ?_)
    · refine v_aload_n X 0 rfl dX4_leftView_29 ?_
      refine v_get X xinX4 0 rfl rfl 2 (by decide) wd65 rfl rfl dX4_leftView_30 ?_
      obtain rfl := Option.some.inj hf
      exact v_iret hR dX4_leftView_33
    · refine v_iconst X (v := 2) (by decide) dX4_leftView_20 ?_
      refine v_aload_n X 0 rfl dX4_leftView_21 ?_
      refine v_get X xinX4 0 rfl rfl 2 (by decide) wd65 rfl rfl dX4_leftView_22 ?_
      refine v_imul X dX4_leftView_25 ?_
      refine v_goto X (tgt := 33) (by decide) dX4_leftView_26 ?_
      obtain rfl := Option.some.inj hf
      exact v_iret hR dX4_leftView_33
set_option maxRecDepth 100000 in
set_option maxHeartbeats 4000000 in
theorem c_X4_leftView {l : Launch} {D : va_G} {qT : Nat → ClassId} {Z : (Nat → Prop) → State → Heap → Prop} {r : Int32} {a0 : Nat} {a_names : Nat} {a_stack : Nat} {s_views : Int32} {s_warms : Int32} {s_minds : Int32} {s_names : Nat → Int32} (hZ : ZOK Z) (hf : f_X4_leftView s_views s_names = some r) :
    CI l D qT Z yX4_leftView cX4_leftView 1 (some .int) 1 0 0 [.ref a0] [(a0, .inr (4, [.ref a_names, .ref a_stack, .int s_views, .int s_warms, .int s_minds])), (a_names, .inl (qT 0, 6, .inl s_names))] r [(a0, .inr (4, [.ref a_names, .ref a_stack, .int s_views, .int s_warms, .int s_minds])), (a_names, .inl (qT 0, 6, .inl s_names))] := by
  refine CI_of hZ (by decide) (Nat.le_of_ble_eq_true rfl) ?_
  intro x e1 e2 e3 e4 e5 e6 hin X hR
  subst e1 e2 e3 e4
  exact t_X4_leftView X e6 hR hf
def f_X4_tallView (s_views : Int32) : Option (Int32) :=
  some (s_views + 2)
set_option maxRecDepth 100000 in
set_option maxHeartbeats 4000000 in
theorem t_X4_tallView {x : VX} {r : Int32} {a0 : Nat} {a_names : Nat} {a_stack : Nat} {s_views : Int32} {s_warms : Int32} {s_minds : Int32} (X : Cx x cX4_tallView RX4 1) (hN : vxn x = 1) (hR : RetI x cX4_tallView 0 0 r [(a0, .inr (4, [.ref a_names, .ref a_stack, .int s_views, .int s_warms, .int s_minds]))]) (hf : f_X4_tallView s_views = some r) : V x 0 0 [(a0, .inr (4, [.ref a_names, .ref a_stack, .int s_views, .int s_warms, .int s_minds]))] [(0, .ref a0)] 0 [] := by
  unfold f_X4_tallView at hf
  refine v_aload_n X 0 rfl dX4_tallView_0 ?_
  refine v_get X xinX4 0 rfl rfl 2 (by decide) wd65 rfl rfl dX4_tallView_1 ?_
  refine v_iconst X (v := 2) (by decide) dX4_tallView_4 ?_
  refine v_iadd X dX4_tallView_5 ?_
  obtain rfl := Option.some.inj hf
  exact v_iret hR dX4_tallView_6
set_option maxRecDepth 100000 in
set_option maxHeartbeats 4000000 in
theorem c_X4_tallView {l : Launch} {D : va_G} {qT : Nat → ClassId} {Z : (Nat → Prop) → State → Heap → Prop} {r : Int32} {a0 : Nat} {a_names : Nat} {a_stack : Nat} {s_views : Int32} {s_warms : Int32} {s_minds : Int32} (hZ : ZOK Z) (hf : f_X4_tallView s_views = some r) :
    CI l D qT Z yX4_tallView cX4_tallView 1 (some .int) 1 0 0 [.ref a0] [(a0, .inr (4, [.ref a_names, .ref a_stack, .int s_views, .int s_warms, .int s_minds]))] r [(a0, .inr (4, [.ref a_names, .ref a_stack, .int s_views, .int s_warms, .int s_minds]))] := by
  refine CI_of hZ (by decide) (Nat.le_of_ble_eq_true rfl) ?_
  intro x e1 e2 e3 e4 e5 e6 hin X hR
  subst e1 e2 e3 e4
  exact t_X4_tallView X e6 hR hf
def f_X4_freeView (l1 : Int32) (s_views : Int32) (s_names : Nat → Int32) : Option (Int32) :=
  if l1 = 1 then (
  (f_X4_leftView s_views s_names).bind (fun v37_1 =>
  some v37_1)) else (
  if l1 = 2 then (
  (f_X4_tallView s_views).bind (fun v42_2 =>
  some v42_2)) else (
  if l1 = 3 then (
  if (s_names (Int32.toNatClampNeg 3)) ≤ (s_names (Int32.toNatClampNeg 4)) then (
  (f_X4_leftView s_views s_names).bind (fun v71_3 =>
  some v71_3)) else (
  (f_X4_leftView s_views s_names).bind (fun v62_4 =>
  some (v62_4 / 2)))) else (
  if l1 = 4 then (
  if (s_names (Int32.toNatClampNeg 1)) ≤ 3 then (
  (f_X4_tallView s_views).bind (fun v90_5 =>
  some v90_5)) else (
  some 0)) else (
  if l1 = 5 then (
  some 0) else (
  some s_views)))))
set_option maxRecDepth 100000 in
set_option maxHeartbeats 4000000 in
theorem t_X4_freeView {x : VX} {r : Int32} {a0 : Nat} {a_names : Nat} {a_stack : Nat} {s_views : Int32} {s_warms : Int32} {s_minds : Int32} {s_names : Nat → Int32} {l1 : Int32} (X : Cx x cX4_freeView RX4 2) (hN : vxn x = 2) (hR : RetI x cX4_freeView 0 0 r [(a0, .inr (4, [.ref a_names, .ref a_stack, .int s_views, .int s_warms, .int s_minds])), (a_names, .inl (vxT x 0, 6, .inl s_names))]) (hf : f_X4_freeView l1 s_views s_names = some r) : V x 0 0 [(a0, .inr (4, [.ref a_names, .ref a_stack, .int s_views, .int s_warms, .int s_minds])), (a_names, .inl (vxT x 0, 6, .inl s_names))] [(0, .ref a0), (1, .int l1)] 0 [] := by
  unfold f_X4_freeView at hf
  refine v_iload_n X 1 rfl dX4_freeView_0 ?_
  rcases ite_some hf with ⟨e1, hf⟩ | ⟨e1_0, hf⟩
  · refine v_tab_in X (tgt := 36) (off := 35) (by rw [e1]; decide) (by rw [e1]; decide) (by rw [e1]; decide) (by decide) dX4_freeView_1 ?_
    refine v_aload_n X 0 rfl dX4_freeView_36 ?_
    obtain ⟨v37_1, hv37_1, hf⟩ := bd_some hf
    refine v_callI X (c_X4_leftView X.2.2.2.2.2.2.2.1 hv37_1) cwv_X4_78 rfl (by decide) ⟨Nat.zero_le _, Nat.zero_le _⟩ 0 rfl rfl [0, 1] [] [0, 1] rfl (by decide) (wr := []) rfl (by decide) (by decide) (ws2 := [(a0, .inr (4, [.ref a_names, .ref a_stack, .int s_views, .int s_warms, .int s_minds])), (a_names, .inl (vxT x 0, 6, .inl s_names))]) rfl (by decide) (Nat.le_of_ble_eq_true rfl) rfl dX4_freeView_37 ?_
    obtain rfl := Option.some.inj hf
    exact v_iret hR dX4_freeView_40
  rcases ite_some hf with ⟨e1, hf⟩ | ⟨e1_1, hf⟩
  · refine v_tab_in X (tgt := 41) (off := 40) (by rw [e1]; decide) (by rw [e1]; decide) (by rw [e1]; decide) (by decide) dX4_freeView_1 ?_
    refine v_aload_n X 0 rfl dX4_freeView_41 ?_
    obtain ⟨v42_2, hv42_2, hf⟩ := bd_some hf
    refine v_callI X (c_X4_tallView X.2.2.2.2.2.2.2.1 hv42_2) cwv_X4_82 rfl (by decide) ⟨Nat.zero_le _, Nat.zero_le _⟩ 0 rfl rfl [0] [1] [1, 0] rfl (by decide) (wr := [(a_names, .inl (vxT x 0, 6, .inl s_names))]) rfl (by decide) (by decide) (ws2 := [(a0, .inr (4, [.ref a_names, .ref a_stack, .int s_views, .int s_warms, .int s_minds])), (a_names, .inl (vxT x 0, 6, .inl s_names))]) rfl (by decide) (Nat.le_of_ble_eq_true rfl) rfl dX4_freeView_42 ?_
    obtain rfl := Option.some.inj hf
    exact v_iret hR dX4_freeView_45
  rcases ite_some hf with ⟨e1, hf⟩ | ⟨e1_2, hf⟩
  · refine v_tab_in X (tgt := 46) (off := 45) (by rw [e1]; decide) (by rw [e1]; decide) (by rw [e1]; decide) (by decide) dX4_freeView_1 ?_
    refine v_aload_n X 0 rfl dX4_freeView_46 ?_
    refine v_get X xinX4 0 rfl rfl 0 (by decide) wd64 rfl rfl dX4_freeView_47 ?_
    refine v_iconst X (v := 4) (by decide) dX4_freeView_50 ?_
    refine v_iald_c X 1 rfl (by decide) dX4_freeView_51 ?_
    refine v_aload_n X 0 rfl dX4_freeView_52 ?_
    refine v_get X xinX4 0 rfl rfl 0 (by decide) wd64 rfl rfl dX4_freeView_53 ?_
    refine v_iconst X (v := 3) (by decide) dX4_freeView_56 ?_
    refine v_iald_c X 1 rfl (by decide) dX4_freeView_57 ?_
    refine v_icmp_ge X (tgt := 70) hf (by decide) dX4_freeView_58 (fun c58 hf => ?_) (fun c58 hf => ?_)
    · refine v_aload_n X 0 rfl dX4_freeView_70 ?_
      obtain ⟨v71_3, hv71_3, hf⟩ := bd_some hf
      refine v_callI X (c_X4_leftView X.2.2.2.2.2.2.2.1 hv71_3) cwv_X4_78 rfl (by decide) ⟨Nat.zero_le _, Nat.zero_le _⟩ 0 rfl rfl [0, 1] [] [0, 1] rfl (by decide) (wr := []) rfl (by decide) (by decide) (ws2 := [(a0, .inr (4, [.ref a_names, .ref a_stack, .int s_views, .int s_warms, .int s_minds])), (a_names, .inl (vxT x 0, 6, .inl s_names))]) rfl (by decide) (Nat.le_of_ble_eq_true rfl) rfl dX4_freeView_71 ?_
      obtain rfl := Option.some.inj hf
      exact v_iret hR dX4_freeView_74
    · refine v_aload_n X 0 rfl dX4_freeView_61 ?_
      obtain ⟨v62_4, hv62_4, hf⟩ := bd_some hf
      refine v_callI X (c_X4_leftView X.2.2.2.2.2.2.2.1 hv62_4) cwv_X4_78 rfl (by decide) ⟨Nat.zero_le _, Nat.zero_le _⟩ 0 rfl rfl [0, 1] [] [0, 1] rfl (by decide) (wr := []) rfl (by decide) (by decide) (ws2 := [(a0, .inr (4, [.ref a_names, .ref a_stack, .int s_views, .int s_warms, .int s_minds])), (a_names, .inl (vxT x 0, 6, .inl s_names))]) rfl (by decide) (Nat.le_of_ble_eq_true rfl) rfl dX4_freeView_62 ?_
      refine v_iconst X (v := 2) (by decide) dX4_freeView_65 ?_
      refine v_idiv X (by decide) dX4_freeView_66 ?_
      refine v_goto X (tgt := 74) (by decide) dX4_freeView_67 ?_
      obtain rfl := Option.some.inj hf
      exact v_iret hR dX4_freeView_74
  rcases ite_some hf with ⟨e1, hf⟩ | ⟨e1_3, hf⟩
  · refine v_tab_in X (tgt := 75) (off := 74) (by rw [e1]; decide) (by rw [e1]; decide) (by rw [e1]; decide) (by decide) dX4_freeView_1 ?_
    refine v_aload_n X 0 rfl dX4_freeView_75 ?_
    refine v_get X xinX4 0 rfl rfl 0 (by decide) wd64 rfl rfl dX4_freeView_76 ?_
    refine v_iconst X (v := 1) (by decide) dX4_freeView_79 ?_
    refine v_iald_c X 1 rfl (by decide) dX4_freeView_80 ?_
    refine v_iconst X (v := 3) (by decide) dX4_freeView_81 ?_
    refine v_icmp_le X (tgt := 89) hf (by decide) dX4_freeView_82 (fun c82 hf => ?_) (fun c82 hf => ?_)
    · refine v_aload_n X 0 rfl dX4_freeView_89 ?_
      obtain ⟨v90_5, hv90_5, hf⟩ := bd_some hf
      refine v_callI X (c_X4_tallView X.2.2.2.2.2.2.2.1 hv90_5) cwv_X4_82 rfl (by decide) ⟨Nat.zero_le _, Nat.zero_le _⟩ 0 rfl rfl [0] [1] [1, 0] rfl (by decide) (wr := [(a_names, .inl (vxT x 0, 6, .inl s_names))]) rfl (by decide) (by decide) (ws2 := [(a0, .inr (4, [.ref a_names, .ref a_stack, .int s_views, .int s_warms, .int s_minds])), (a_names, .inl (vxT x 0, 6, .inl s_names))]) rfl (by decide) (Nat.le_of_ble_eq_true rfl) rfl dX4_freeView_90 ?_
      obtain rfl := Option.some.inj hf
      exact v_iret hR dX4_freeView_93
    · refine v_iconst X (v := 0) (by decide) dX4_freeView_85 ?_
      refine v_goto X (tgt := 93) (by decide) dX4_freeView_86 ?_
      obtain rfl := Option.some.inj hf
      exact v_iret hR dX4_freeView_93
  rcases ite_some hf with ⟨e1, hf⟩ | ⟨e1_4, hf⟩
  · refine v_tab_in X (tgt := 94) (off := 93) (by rw [e1]; decide) (by rw [e1]; decide) (by rw [e1]; decide) (by decide) dX4_freeView_1 ?_
    refine v_iconst X (v := 0) (by decide) dX4_freeView_94 ?_
    obtain rfl := Option.some.inj hf
    exact v_iret hR dX4_freeView_95
  refine v_tab_out X (tgt := 96) (by have g0 := sw_ne (n := 1) e1_0 (by decide); have g1 := sw_ne (n := 2) e1_1 (by decide); have g2 := sw_ne (n := 3) e1_2 (by decide); have g3 := sw_ne (n := 4) e1_3 (by decide); have g4 := sw_ne (n := 5) e1_4 (by decide); omega) (by decide) dX4_freeView_1 ?_
  refine v_aload_n X 0 rfl dX4_freeView_96 ?_
  refine v_get X xinX4 0 rfl rfl 2 (by decide) wd65 rfl rfl dX4_freeView_97 ?_
  obtain rfl := Option.some.inj hf
  exact v_iret hR dX4_freeView_100
set_option maxRecDepth 100000 in
set_option maxHeartbeats 4000000 in
theorem c_X4_freeView {l : Launch} {D : va_G} {qT : Nat → ClassId} {Z : (Nat → Prop) → State → Heap → Prop} {r : Int32} {a0 : Nat} {a_names : Nat} {a_stack : Nat} {s_views : Int32} {s_warms : Int32} {s_minds : Int32} {s_names : Nat → Int32} {l1 : Int32} (hZ : ZOK Z) (hf : f_X4_freeView l1 s_views s_names = some r) :
    CI l D qT Z yX4_freeView cX4_freeView 2 (some .int) 2 0 0 [.ref a0, .int l1] [(a0, .inr (4, [.ref a_names, .ref a_stack, .int s_views, .int s_warms, .int s_minds])), (a_names, .inl (qT 0, 6, .inl s_names))] r [(a0, .inr (4, [.ref a_names, .ref a_stack, .int s_views, .int s_warms, .int s_minds])), (a_names, .inl (qT 0, 6, .inl s_names))] := by
  refine CI_of hZ (by decide) (Nat.le_of_ble_eq_true rfl) ?_
  intro x e1 e2 e3 e4 e5 e6 hin X hR
  subst e1 e2 e3 e4
  exact t_X4_freeView X e6 hR hf
def f_X4_view (l1 : Int32) (s_views : Int32) (s_names : Nat → Int32) : Option (Int32) :=
  (f_X4_freeView l1 s_views s_names).bind (fun v3_1 =>
  (f_X6_within 0 v3_1 99).bind (fun v8_2 =>
  some v8_2))
set_option maxRecDepth 100000 in
set_option maxHeartbeats 4000000 in
theorem t_X4_view {x : VX} {r : Int32} {a0 : Nat} {a_names : Nat} {a_stack : Nat} {s_views : Int32} {s_warms : Int32} {s_minds : Int32} {s_names : Nat → Int32} {l1 : Int32} (X : Cx x cX4_view RX4 3) (hN : vxn x = 2) (hR : RetI x cX4_view 0 0 r [(a0, .inr (4, [.ref a_names, .ref a_stack, .int s_views, .int s_warms, .int s_minds])), (a_names, .inl (vxT x 0, 6, .inl s_names))]) (hf : f_X4_view l1 s_views s_names = some r) : V x 0 0 [(a0, .inr (4, [.ref a_names, .ref a_stack, .int s_views, .int s_warms, .int s_minds])), (a_names, .inl (vxT x 0, 6, .inl s_names))] [(0, .ref a0), (1, .int l1)] 0 [] := by
  unfold f_X4_view at hf
  refine v_iconst X (v := 0) (by decide) dX4_view_0 ?_
  refine v_aload_n X 0 rfl dX4_view_1 ?_
  refine v_iload_n X 1 rfl dX4_view_2 ?_
  obtain ⟨v3_1, hv3_1, hf⟩ := bd_some hf
  refine v_callI X (c_X4_freeView X.2.2.2.2.2.2.2.1 hv3_1) cwv_X4_69 rfl (by decide) ⟨Nat.zero_le _, Nat.zero_le _⟩ 0 rfl rfl [0, 1] [] [0, 1] rfl (by decide) (wr := []) rfl (by decide) (by decide) (ws2 := [(a0, .inr (4, [.ref a_names, .ref a_stack, .int s_views, .int s_warms, .int s_minds])), (a_names, .inl (vxT x 0, 6, .inl s_names))]) rfl (by decide) (Nat.le_of_ble_eq_true rfl) rfl dX4_view_3 ?_
  refine v_bipush X (v := 99) (by decide) dX4_view_6 ?_
  obtain ⟨v8_2, hv8_2, hf⟩ := bd_some hf
  refine v_ncallI X (c_X6_within X.2.2.2.2.2.2.2.1 hv8_2) cwn_X4_65 rfl (by decide) ⟨Nat.zero_le _, Nat.zero_le _⟩ [] [0, 1] [0, 1] rfl (by decide) (wr := [(a0, .inr (4, [.ref a_names, .ref a_stack, .int s_views, .int s_warms, .int s_minds])), (a_names, .inl (vxT x 0, 6, .inl s_names))]) rfl (by decide) (by decide) (ws2 := [(a0, .inr (4, [.ref a_names, .ref a_stack, .int s_views, .int s_warms, .int s_minds])), (a_names, .inl (vxT x 0, 6, .inl s_names))]) rfl (by decide) (Nat.le_of_ble_eq_true rfl) rfl dX4_view_8 ?_
  obtain rfl := Option.some.inj hf
  exact v_iret hR dX4_view_11
set_option maxRecDepth 100000 in
set_option maxHeartbeats 4000000 in
theorem c_X4_view {l : Launch} {D : va_G} {qT : Nat → ClassId} {Z : (Nat → Prop) → State → Heap → Prop} {r : Int32} {a0 : Nat} {a_names : Nat} {a_stack : Nat} {s_views : Int32} {s_warms : Int32} {s_minds : Int32} {s_names : Nat → Int32} {l1 : Int32} (hZ : ZOK Z) (hf : f_X4_view l1 s_views s_names = some r) :
    CI l D qT Z yX4_view cX4_view 2 (some .int) 3 0 0 [.ref a0, .int l1] [(a0, .inr (4, [.ref a_names, .ref a_stack, .int s_views, .int s_warms, .int s_minds])), (a_names, .inl (qT 0, 6, .inl s_names))] r [(a0, .inr (4, [.ref a_names, .ref a_stack, .int s_views, .int s_warms, .int s_minds])), (a_names, .inl (qT 0, 6, .inl s_names))] := by
  refine CI_of hZ (by decide) (Nat.le_of_ble_eq_true rfl) ?_
  intro x e1 e2 e3 e4 e5 e6 hin X hR
  subst e1 e2 e3 e4
  exact t_X4_view X e6 hR hf
def f_X4_tallWarmth (s_warms : Int32) (s_names : Nat → Int32) : Option (Int32) :=
  if 2 ≤ (s_names (Int32.toNatClampNeg 2)) then (
  some s_warms) else (
  some (-s_warms))
set_option maxRecDepth 100000 in
set_option maxHeartbeats 4000000 in
theorem t_X4_tallWarmth {x : VX} {r : Int32} {a0 : Nat} {a_names : Nat} {a_stack : Nat} {s_views : Int32} {s_warms : Int32} {s_minds : Int32} {s_names : Nat → Int32} (X : Cx x cX4_tallWarmth RX4 1) (hN : vxn x = 1) (hR : RetI x cX4_tallWarmth 0 0 r [(a0, .inr (4, [.ref a_names, .ref a_stack, .int s_views, .int s_warms, .int s_minds])), (a_names, .inl (vxT x 0, 6, .inl s_names))]) (hf : f_X4_tallWarmth s_warms s_names = some r) : V x 0 0 [(a0, .inr (4, [.ref a_names, .ref a_stack, .int s_views, .int s_warms, .int s_minds])), (a_names, .inl (vxT x 0, 6, .inl s_names))] [(0, .ref a0)] 0 [] := by
  unfold f_X4_tallWarmth at hf
  refine v_aload_n X 0 rfl dX4_tallWarmth_0 ?_
  refine v_get X xinX4 0 rfl rfl 0 (by decide) wd64 rfl rfl dX4_tallWarmth_1 ?_
  refine v_iconst X (v := 2) (by decide) dX4_tallWarmth_4 ?_
  refine v_iald_c X 1 rfl (by decide) dX4_tallWarmth_5 ?_
  refine v_iconst X (v := 2) (by decide) dX4_tallWarmth_6 ?_
  refine v_icmp_ge X (tgt := 18) hf (by decide) dX4_tallWarmth_7 (fun c7 hf => ?_) (fun c7 hf => ?_)
  · refine v_aload_n X 0 rfl dX4_tallWarmth_18 ?_
    refine v_get X xinX4 0 rfl rfl 3 (by decide) wd79 rfl rfl dX4_tallWarmth_19 ?_
    obtain rfl := Option.some.inj hf
    exact v_iret hR dX4_tallWarmth_22
  · refine v_aload_n X 0 rfl dX4_tallWarmth_10 ?_
    refine v_get X xinX4 0 rfl rfl 3 (by decide) wd79 rfl rfl dX4_tallWarmth_11 ?_
    refine v_ineg X dX4_tallWarmth_14 ?_
    refine v_goto X (tgt := 22) (by decide) dX4_tallWarmth_15 ?_
    obtain rfl := Option.some.inj hf
    exact v_iret hR dX4_tallWarmth_22
set_option maxRecDepth 100000 in
set_option maxHeartbeats 4000000 in
theorem c_X4_tallWarmth {l : Launch} {D : va_G} {qT : Nat → ClassId} {Z : (Nat → Prop) → State → Heap → Prop} {r : Int32} {a0 : Nat} {a_names : Nat} {a_stack : Nat} {s_views : Int32} {s_warms : Int32} {s_minds : Int32} {s_names : Nat → Int32} (hZ : ZOK Z) (hf : f_X4_tallWarmth s_warms s_names = some r) :
    CI l D qT Z yX4_tallWarmth cX4_tallWarmth 1 (some .int) 1 0 0 [.ref a0] [(a0, .inr (4, [.ref a_names, .ref a_stack, .int s_views, .int s_warms, .int s_minds])), (a_names, .inl (qT 0, 6, .inl s_names))] r [(a0, .inr (4, [.ref a_names, .ref a_stack, .int s_views, .int s_warms, .int s_minds])), (a_names, .inl (qT 0, 6, .inl s_names))] := by
  refine CI_of hZ (by decide) (Nat.le_of_ble_eq_true rfl) ?_
  intro x e1 e2 e3 e4 e5 e6 hin X hR
  subst e1 e2 e3 e4
  exact t_X4_tallWarmth X e6 hR hf
def f_X4_freeWarmth (l1 : Int32) (s_warms : Int32) (s_names : Nat → Int32) : Option (Int32) :=
  if l1 = 2 then (
  (f_X4_tallWarmth s_warms s_names).bind (fun v33_1 =>
  some v33_1)) else (
  if l1 = 3 then (
  some (s_warms - (s_names (Int32.toNatClampNeg 3)))) else (
  if l1 = 4 then (
  (f_X4_tallWarmth s_warms s_names).bind (fun v51_2 =>
  some (2 * v51_2))) else (
  if l1 = 5 then (
  some 1) else (
  some s_warms))))
set_option maxRecDepth 100000 in
set_option maxHeartbeats 4000000 in
theorem t_X4_freeWarmth {x : VX} {r : Int32} {a0 : Nat} {a_names : Nat} {a_stack : Nat} {s_views : Int32} {s_warms : Int32} {s_minds : Int32} {s_names : Nat → Int32} {l1 : Int32} (X : Cx x cX4_freeWarmth RX4 2) (hN : vxn x = 2) (hR : RetI x cX4_freeWarmth 0 0 r [(a0, .inr (4, [.ref a_names, .ref a_stack, .int s_views, .int s_warms, .int s_minds])), (a_names, .inl (vxT x 0, 6, .inl s_names))]) (hf : f_X4_freeWarmth l1 s_warms s_names = some r) : V x 0 0 [(a0, .inr (4, [.ref a_names, .ref a_stack, .int s_views, .int s_warms, .int s_minds])), (a_names, .inl (vxT x 0, 6, .inl s_names))] [(0, .ref a0), (1, .int l1)] 0 [] := by
  unfold f_X4_freeWarmth at hf
  refine v_iload_n X 1 rfl dX4_freeWarmth_0 ?_
  rcases ite_some hf with ⟨e1, hf⟩ | ⟨e1_0, hf⟩
  · refine v_tab_in X (tgt := 32) (off := 31) (by rw [e1]; decide) (by rw [e1]; decide) (by rw [e1]; decide) (by decide) dX4_freeWarmth_1 ?_
    refine v_aload_n X 0 rfl dX4_freeWarmth_32 ?_
    obtain ⟨v33_1, hv33_1, hf⟩ := bd_some hf
    refine v_callI X (c_X4_tallWarmth X.2.2.2.2.2.2.2.1 hv33_1) cwv_X4_85 rfl (by decide) ⟨Nat.zero_le _, Nat.zero_le _⟩ 0 rfl rfl [0, 1] [] [0, 1] rfl (by decide) (wr := []) rfl (by decide) (by decide) (ws2 := [(a0, .inr (4, [.ref a_names, .ref a_stack, .int s_views, .int s_warms, .int s_minds])), (a_names, .inl (vxT x 0, 6, .inl s_names))]) rfl (by decide) (Nat.le_of_ble_eq_true rfl) rfl dX4_freeWarmth_33 ?_
    obtain rfl := Option.some.inj hf
    exact v_iret hR dX4_freeWarmth_36
  rcases ite_some hf with ⟨e1, hf⟩ | ⟨e1_1, hf⟩
  · refine v_tab_in X (tgt := 37) (off := 36) (by rw [e1]; decide) (by rw [e1]; decide) (by rw [e1]; decide) (by decide) dX4_freeWarmth_1 ?_
    refine v_aload_n X 0 rfl dX4_freeWarmth_37 ?_
    refine v_get X xinX4 0 rfl rfl 3 (by decide) wd79 rfl rfl dX4_freeWarmth_38 ?_
    refine v_aload_n X 0 rfl dX4_freeWarmth_41 ?_
    refine v_get X xinX4 0 rfl rfl 0 (by decide) wd64 rfl rfl dX4_freeWarmth_42 ?_
    refine v_iconst X (v := 3) (by decide) dX4_freeWarmth_45 ?_
    refine v_iald_c X 1 rfl (by decide) dX4_freeWarmth_46 ?_
    refine v_isub X dX4_freeWarmth_47 ?_
    obtain rfl := Option.some.inj hf
    exact v_iret hR dX4_freeWarmth_48
  rcases ite_some hf with ⟨e1, hf⟩ | ⟨e1_2, hf⟩
  · refine v_tab_in X (tgt := 49) (off := 48) (by rw [e1]; decide) (by rw [e1]; decide) (by rw [e1]; decide) (by decide) dX4_freeWarmth_1 ?_
    refine v_iconst X (v := 2) (by decide) dX4_freeWarmth_49 ?_
    refine v_aload_n X 0 rfl dX4_freeWarmth_50 ?_
    obtain ⟨v51_2, hv51_2, hf⟩ := bd_some hf
    refine v_callI X (c_X4_tallWarmth X.2.2.2.2.2.2.2.1 hv51_2) cwv_X4_85 rfl (by decide) ⟨Nat.zero_le _, Nat.zero_le _⟩ 0 rfl rfl [0, 1] [] [0, 1] rfl (by decide) (wr := []) rfl (by decide) (by decide) (ws2 := [(a0, .inr (4, [.ref a_names, .ref a_stack, .int s_views, .int s_warms, .int s_minds])), (a_names, .inl (vxT x 0, 6, .inl s_names))]) rfl (by decide) (Nat.le_of_ble_eq_true rfl) rfl dX4_freeWarmth_51 ?_
    refine v_imul X dX4_freeWarmth_54 ?_
    obtain rfl := Option.some.inj hf
    exact v_iret hR dX4_freeWarmth_55
  rcases ite_some hf with ⟨e1, hf⟩ | ⟨e1_3, hf⟩
  · refine v_tab_in X (tgt := 56) (off := 55) (by rw [e1]; decide) (by rw [e1]; decide) (by rw [e1]; decide) (by decide) dX4_freeWarmth_1 ?_
    refine v_iconst X (v := 1) (by decide) dX4_freeWarmth_56 ?_
    obtain rfl := Option.some.inj hf
    exact v_iret hR dX4_freeWarmth_57
  refine v_tab_out X (tgt := 58) (by have g0 := sw_ne (n := 2) e1_0 (by decide); have g1 := sw_ne (n := 3) e1_1 (by decide); have g2 := sw_ne (n := 4) e1_2 (by decide); have g3 := sw_ne (n := 5) e1_3 (by decide); omega) (by decide) dX4_freeWarmth_1 ?_
  refine v_aload_n X 0 rfl dX4_freeWarmth_58 ?_
  refine v_get X xinX4 0 rfl rfl 3 (by decide) wd79 rfl rfl dX4_freeWarmth_59 ?_
  obtain rfl := Option.some.inj hf
  exact v_iret hR dX4_freeWarmth_62
set_option maxRecDepth 100000 in
set_option maxHeartbeats 4000000 in
theorem c_X4_freeWarmth {l : Launch} {D : va_G} {qT : Nat → ClassId} {Z : (Nat → Prop) → State → Heap → Prop} {r : Int32} {a0 : Nat} {a_names : Nat} {a_stack : Nat} {s_views : Int32} {s_warms : Int32} {s_minds : Int32} {s_names : Nat → Int32} {l1 : Int32} (hZ : ZOK Z) (hf : f_X4_freeWarmth l1 s_warms s_names = some r) :
    CI l D qT Z yX4_freeWarmth cX4_freeWarmth 2 (some .int) 2 0 0 [.ref a0, .int l1] [(a0, .inr (4, [.ref a_names, .ref a_stack, .int s_views, .int s_warms, .int s_minds])), (a_names, .inl (qT 0, 6, .inl s_names))] r [(a0, .inr (4, [.ref a_names, .ref a_stack, .int s_views, .int s_warms, .int s_minds])), (a_names, .inl (qT 0, 6, .inl s_names))] := by
  refine CI_of hZ (by decide) (Nat.le_of_ble_eq_true rfl) ?_
  intro x e1 e2 e3 e4 e5 e6 hin X hR
  subst e1 e2 e3 e4
  exact t_X4_freeWarmth X e6 hR hf
def f_X4_warmth (l1 : Int32) (s_warms : Int32) (s_names : Nat → Int32) : Option (Int32) :=
  (f_X4_freeWarmth l1 s_warms s_names).bind (fun v4_1 =>
  (f_X6_within (-99) v4_1 99).bind (fun v9_2 =>
  some v9_2))
set_option maxRecDepth 100000 in
set_option maxHeartbeats 4000000 in
theorem t_X4_warmth {x : VX} {r : Int32} {a0 : Nat} {a_names : Nat} {a_stack : Nat} {s_views : Int32} {s_warms : Int32} {s_minds : Int32} {s_names : Nat → Int32} {l1 : Int32} (X : Cx x cX4_warmth RX4 3) (hN : vxn x = 2) (hR : RetI x cX4_warmth 0 0 r [(a0, .inr (4, [.ref a_names, .ref a_stack, .int s_views, .int s_warms, .int s_minds])), (a_names, .inl (vxT x 0, 6, .inl s_names))]) (hf : f_X4_warmth l1 s_warms s_names = some r) : V x 0 0 [(a0, .inr (4, [.ref a_names, .ref a_stack, .int s_views, .int s_warms, .int s_minds])), (a_names, .inl (vxT x 0, 6, .inl s_names))] [(0, .ref a0), (1, .int l1)] 0 [] := by
  unfold f_X4_warmth at hf
  refine v_bipush X (v := (-99)) (by decide) dX4_warmth_0 ?_
  refine v_aload_n X 0 rfl dX4_warmth_2 ?_
  refine v_iload_n X 1 rfl dX4_warmth_3 ?_
  obtain ⟨v4_1, hv4_1, hf⟩ := bd_some hf
  refine v_callI X (c_X4_freeWarmth X.2.2.2.2.2.2.2.1 hv4_1) cwv_X4_72 rfl (by decide) ⟨Nat.zero_le _, Nat.zero_le _⟩ 0 rfl rfl [0, 1] [] [0, 1] rfl (by decide) (wr := []) rfl (by decide) (by decide) (ws2 := [(a0, .inr (4, [.ref a_names, .ref a_stack, .int s_views, .int s_warms, .int s_minds])), (a_names, .inl (vxT x 0, 6, .inl s_names))]) rfl (by decide) (Nat.le_of_ble_eq_true rfl) rfl dX4_warmth_4 ?_
  refine v_bipush X (v := 99) (by decide) dX4_warmth_7 ?_
  obtain ⟨v9_2, hv9_2, hf⟩ := bd_some hf
  refine v_ncallI X (c_X6_within X.2.2.2.2.2.2.2.1 hv9_2) cwn_X4_65 rfl (by decide) ⟨Nat.zero_le _, Nat.zero_le _⟩ [] [0, 1] [0, 1] rfl (by decide) (wr := [(a0, .inr (4, [.ref a_names, .ref a_stack, .int s_views, .int s_warms, .int s_minds])), (a_names, .inl (vxT x 0, 6, .inl s_names))]) rfl (by decide) (by decide) (ws2 := [(a0, .inr (4, [.ref a_names, .ref a_stack, .int s_views, .int s_warms, .int s_minds])), (a_names, .inl (vxT x 0, 6, .inl s_names))]) rfl (by decide) (Nat.le_of_ble_eq_true rfl) rfl dX4_warmth_9 ?_
  obtain rfl := Option.some.inj hf
  exact v_iret hR dX4_warmth_12
set_option maxRecDepth 100000 in
set_option maxHeartbeats 4000000 in
theorem c_X4_warmth {l : Launch} {D : va_G} {qT : Nat → ClassId} {Z : (Nat → Prop) → State → Heap → Prop} {r : Int32} {a0 : Nat} {a_names : Nat} {a_stack : Nat} {s_views : Int32} {s_warms : Int32} {s_minds : Int32} {s_names : Nat → Int32} {l1 : Int32} (hZ : ZOK Z) (hf : f_X4_warmth l1 s_warms s_names = some r) :
    CI l D qT Z yX4_warmth cX4_warmth 2 (some .int) 3 0 0 [.ref a0, .int l1] [(a0, .inr (4, [.ref a_names, .ref a_stack, .int s_views, .int s_warms, .int s_minds])), (a_names, .inl (qT 0, 6, .inl s_names))] r [(a0, .inr (4, [.ref a_names, .ref a_stack, .int s_views, .int s_warms, .int s_minds])), (a_names, .inl (qT 0, 6, .inl s_names))] := by
  refine CI_of hZ (by decide) (Nat.le_of_ble_eq_true rfl) ?_
  intro x e1 e2 e3 e4 e5 e6 hin X hR
  subst e1 e2 e3 e4
  exact t_X4_warmth X e6 hR hf
def f_X4_freeMinding (l1 : Int32) (s_minds : Int32) (s_names : Nat → Int32) : Option (Int32) :=
  if l1 = 1 then (
  some (s_minds + 1)) else (
  if l1 = 2 then (
  some 0) else (
  if l1 = 3 then (
  some (s_minds + 1)) else (
  if l1 = 4 then (
  some (s_names (Int32.toNatClampNeg 5))) else (
  if l1 = 5 then (
  some 0) else (
  some s_minds)))))
set_option maxRecDepth 100000 in
set_option maxHeartbeats 4000000 in
theorem t_X4_freeMinding {x : VX} {r : Int32} {a0 : Nat} {a_names : Nat} {a_stack : Nat} {s_views : Int32} {s_warms : Int32} {s_minds : Int32} {s_names : Nat → Int32} {l1 : Int32} (X : Cx x cX4_freeMinding RX4 1) (hN : vxn x = 2) (hR : RetI x cX4_freeMinding 0 0 r [(a0, .inr (4, [.ref a_names, .ref a_stack, .int s_views, .int s_warms, .int s_minds])), (a_names, .inl (vxT x 0, 6, .inl s_names))]) (hf : f_X4_freeMinding l1 s_minds s_names = some r) : V x 0 0 [(a0, .inr (4, [.ref a_names, .ref a_stack, .int s_views, .int s_warms, .int s_minds])), (a_names, .inl (vxT x 0, 6, .inl s_names))] [(0, .ref a0), (1, .int l1)] 0 [] := by
  unfold f_X4_freeMinding at hf
  refine v_iload_n X 1 rfl dX4_freeMinding_0 ?_
  rcases ite_some hf with ⟨e1, hf⟩ | ⟨e1_0, hf⟩
  · refine v_tab_in X (tgt := 36) (off := 35) (by rw [e1]; decide) (by rw [e1]; decide) (by rw [e1]; decide) (by decide) dX4_freeMinding_1 ?_
    refine v_aload_n X 0 rfl dX4_freeMinding_36 ?_
    refine v_get X xinX4 0 rfl rfl 4 (by decide) wd88 rfl rfl dX4_freeMinding_37 ?_
    refine v_iconst X (v := 1) (by decide) dX4_freeMinding_40 ?_
    refine v_iadd X dX4_freeMinding_41 ?_
    obtain rfl := Option.some.inj hf
    exact v_iret hR dX4_freeMinding_42
  rcases ite_some hf with ⟨e1, hf⟩ | ⟨e1_1, hf⟩
  · refine v_tab_in X (tgt := 50) (off := 49) (by rw [e1]; decide) (by rw [e1]; decide) (by rw [e1]; decide) (by decide) dX4_freeMinding_1 ?_
    refine v_iconst X (v := 0) (by decide) dX4_freeMinding_50 ?_
    obtain rfl := Option.some.inj hf
    exact v_iret hR dX4_freeMinding_51
  rcases ite_some hf with ⟨e1, hf⟩ | ⟨e1_2, hf⟩
  · refine v_tab_in X (tgt := 36) (off := 35) (by rw [e1]; decide) (by rw [e1]; decide) (by rw [e1]; decide) (by decide) dX4_freeMinding_1 ?_
    refine v_aload_n X 0 rfl dX4_freeMinding_36 ?_
    refine v_get X xinX4 0 rfl rfl 4 (by decide) wd88 rfl rfl dX4_freeMinding_37 ?_
    refine v_iconst X (v := 1) (by decide) dX4_freeMinding_40 ?_
    refine v_iadd X dX4_freeMinding_41 ?_
    obtain rfl := Option.some.inj hf
    exact v_iret hR dX4_freeMinding_42
  rcases ite_some hf with ⟨e1, hf⟩ | ⟨e1_3, hf⟩
  · refine v_tab_in X (tgt := 43) (off := 42) (by rw [e1]; decide) (by rw [e1]; decide) (by rw [e1]; decide) (by decide) dX4_freeMinding_1 ?_
    refine v_aload_n X 0 rfl dX4_freeMinding_43 ?_
    refine v_get X xinX4 0 rfl rfl 0 (by decide) wd64 rfl rfl dX4_freeMinding_44 ?_
    refine v_iconst X (v := 5) (by decide) dX4_freeMinding_47 ?_
    refine v_iald_c X 1 rfl (by decide) dX4_freeMinding_48 ?_
    obtain rfl := Option.some.inj hf
    exact v_iret hR dX4_freeMinding_49
  rcases ite_some hf with ⟨e1, hf⟩ | ⟨e1_4, hf⟩
  · refine v_tab_in X (tgt := 50) (off := 49) (by rw [e1]; decide) (by rw [e1]; decide) (by rw [e1]; decide) (by decide) dX4_freeMinding_1 ?_
    refine v_iconst X (v := 0) (by decide) dX4_freeMinding_50 ?_
    obtain rfl := Option.some.inj hf
    exact v_iret hR dX4_freeMinding_51
  refine v_tab_out X (tgt := 52) (by have g0 := sw_ne (n := 1) e1_0 (by decide); have g1 := sw_ne (n := 2) e1_1 (by decide); have g2 := sw_ne (n := 3) e1_2 (by decide); have g3 := sw_ne (n := 4) e1_3 (by decide); have g4 := sw_ne (n := 5) e1_4 (by decide); omega) (by decide) dX4_freeMinding_1 ?_
  refine v_aload_n X 0 rfl dX4_freeMinding_52 ?_
  refine v_get X xinX4 0 rfl rfl 4 (by decide) wd88 rfl rfl dX4_freeMinding_53 ?_
  obtain rfl := Option.some.inj hf
  exact v_iret hR dX4_freeMinding_56
set_option maxRecDepth 100000 in
set_option maxHeartbeats 4000000 in
theorem c_X4_freeMinding {l : Launch} {D : va_G} {qT : Nat → ClassId} {Z : (Nat → Prop) → State → Heap → Prop} {r : Int32} {a0 : Nat} {a_names : Nat} {a_stack : Nat} {s_views : Int32} {s_warms : Int32} {s_minds : Int32} {s_names : Nat → Int32} {l1 : Int32} (hZ : ZOK Z) (hf : f_X4_freeMinding l1 s_minds s_names = some r) :
    CI l D qT Z yX4_freeMinding cX4_freeMinding 2 (some .int) 1 0 0 [.ref a0, .int l1] [(a0, .inr (4, [.ref a_names, .ref a_stack, .int s_views, .int s_warms, .int s_minds])), (a_names, .inl (qT 0, 6, .inl s_names))] r [(a0, .inr (4, [.ref a_names, .ref a_stack, .int s_views, .int s_warms, .int s_minds])), (a_names, .inl (qT 0, 6, .inl s_names))] := by
  refine CI_of hZ (by decide) (Nat.le_of_ble_eq_true rfl) ?_
  intro x e1 e2 e3 e4 e5 e6 hin X hR
  subst e1 e2 e3 e4
  exact t_X4_freeMinding X e6 hR hf
def f_X4_minding (l1 : Int32) (s_minds : Int32) (s_names : Nat → Int32) : Option (Int32) :=
  (f_X4_freeMinding l1 s_minds s_names).bind (fun v4_1 =>
  (f_X6_within (-99) v4_1 99).bind (fun v9_2 =>
  some v9_2))
set_option maxRecDepth 100000 in
set_option maxHeartbeats 4000000 in
theorem t_X4_minding {x : VX} {r : Int32} {a0 : Nat} {a_names : Nat} {a_stack : Nat} {s_views : Int32} {s_warms : Int32} {s_minds : Int32} {s_names : Nat → Int32} {l1 : Int32} (X : Cx x cX4_minding RX4 2) (hN : vxn x = 2) (hR : RetI x cX4_minding 0 0 r [(a0, .inr (4, [.ref a_names, .ref a_stack, .int s_views, .int s_warms, .int s_minds])), (a_names, .inl (vxT x 0, 6, .inl s_names))]) (hf : f_X4_minding l1 s_minds s_names = some r) : V x 0 0 [(a0, .inr (4, [.ref a_names, .ref a_stack, .int s_views, .int s_warms, .int s_minds])), (a_names, .inl (vxT x 0, 6, .inl s_names))] [(0, .ref a0), (1, .int l1)] 0 [] := by
  unfold f_X4_minding at hf
  refine v_bipush X (v := (-99)) (by decide) dX4_minding_0 ?_
  refine v_aload_n X 0 rfl dX4_minding_2 ?_
  refine v_iload_n X 1 rfl dX4_minding_3 ?_
  obtain ⟨v4_1, hv4_1, hf⟩ := bd_some hf
  refine v_callI X (c_X4_freeMinding X.2.2.2.2.2.2.2.1 hv4_1) cwv_X4_75 rfl (by decide) ⟨Nat.zero_le _, Nat.zero_le _⟩ 0 rfl rfl [0, 1] [] [0, 1] rfl (by decide) (wr := []) rfl (by decide) (by decide) (ws2 := [(a0, .inr (4, [.ref a_names, .ref a_stack, .int s_views, .int s_warms, .int s_minds])), (a_names, .inl (vxT x 0, 6, .inl s_names))]) rfl (by decide) (Nat.le_of_ble_eq_true rfl) rfl dX4_minding_4 ?_
  refine v_bipush X (v := 99) (by decide) dX4_minding_7 ?_
  obtain ⟨v9_2, hv9_2, hf⟩ := bd_some hf
  refine v_ncallI X (c_X6_within X.2.2.2.2.2.2.2.1 hv9_2) cwn_X4_65 rfl (by decide) ⟨Nat.zero_le _, Nat.zero_le _⟩ [] [0, 1] [0, 1] rfl (by decide) (wr := [(a0, .inr (4, [.ref a_names, .ref a_stack, .int s_views, .int s_warms, .int s_minds])), (a_names, .inl (vxT x 0, 6, .inl s_names))]) rfl (by decide) (by decide) (ws2 := [(a0, .inr (4, [.ref a_names, .ref a_stack, .int s_views, .int s_warms, .int s_minds])), (a_names, .inl (vxT x 0, 6, .inl s_names))]) rfl (by decide) (Nat.le_of_ble_eq_true rfl) rfl dX4_minding_9 ?_
  obtain rfl := Option.some.inj hf
  exact v_iret hR dX4_minding_12
set_option maxRecDepth 100000 in
set_option maxHeartbeats 4000000 in
theorem c_X4_minding {l : Launch} {D : va_G} {qT : Nat → ClassId} {Z : (Nat → Prop) → State → Heap → Prop} {r : Int32} {a0 : Nat} {a_names : Nat} {a_stack : Nat} {s_views : Int32} {s_warms : Int32} {s_minds : Int32} {s_names : Nat → Int32} {l1 : Int32} (hZ : ZOK Z) (hf : f_X4_minding l1 s_minds s_names = some r) :
    CI l D qT Z yX4_minding cX4_minding 2 (some .int) 2 0 0 [.ref a0, .int l1] [(a0, .inr (4, [.ref a_names, .ref a_stack, .int s_views, .int s_warms, .int s_minds])), (a_names, .inl (qT 0, 6, .inl s_names))] r [(a0, .inr (4, [.ref a_names, .ref a_stack, .int s_views, .int s_warms, .int s_minds])), (a_names, .inl (qT 0, 6, .inl s_names))] := by
  refine CI_of hZ (by decide) (Nat.le_of_ble_eq_true rfl) ?_
  intro x e1 e2 e3 e4 e5 e6 hin X hR
  subst e1 e2 e3 e4
  exact t_X4_minding X e6 hR hf
def f_X1_add (l1 : Int32) (s_size : Int32) (s_tape : Nat → Int32) : Option (Int32 × (Nat → Int32)) :=
  if 160 ≤ s_size then (
  some (s_size, s_tape)) else (
  if inb s_size 160 = true then (
  some ((s_size + 1), (upd s_tape (Int32.toNatClampNeg s_size) l1))) else none)
set_option maxRecDepth 100000 in
set_option maxHeartbeats 4000000 in
theorem t_X1_add {x : VX} {r : Int32 × (Nat → Int32)} {a0 : Nat} {a_tape : Nat} {a_code : Nat} {s_size : Int32} {s_fault : Int32} {s_at : Int32} {s_token : Int32} {s_tokenAt : Int32} {s_value : Int32} {s_codeSize : Int32} {s_tape : Nat → Int32} {l1 : Int32} (X : Cx x cX1_add RX1 1) (hN : vxn x = 2) (hR : RetV x cX1_add 0 0 [(a0, .inr (1, [.int r.1, .int s_fault, .ref a_tape, .int s_at, .int s_token, .int s_tokenAt, .int s_value, .ref a_code, .int s_codeSize])), (a_tape, .inl (vxT x 0, 160, .inl r.2))]) (hf : f_X1_add l1 s_size s_tape = some r) : V x 0 0 [(a0, .inr (1, [.int s_size, .int s_fault, .ref a_tape, .int s_at, .int s_token, .int s_tokenAt, .int s_value, .ref a_code, .int s_codeSize])), (a_tape, .inl (vxT x 0, 160, .inl s_tape))] [(0, .ref a0), (1, .int l1)] 0 [] := by
  unfold f_X1_add at hf
  refine v_aload_n X 0 rfl dX1_add_0 ?_
  refine v_get X xinX1 0 rfl rfl 0 (by decide) wd93 rfl rfl dX1_add_1 ?_
  refine v_sipush X (v := 160) (by decide) dX1_add_4 ?_
  refine v_icmp_ge X (tgt := 30) hf (by decide) dX1_add_7 (fun c7 hf => ?_) (fun c7 hf => ?_)
  · obtain rfl := Option.some.inj hf
    exact v_vret hR dX1_add_30
  · refine v_aload_n X 0 rfl dX1_add_10 ?_
    refine v_get X xinX1 0 rfl rfl 2 (by decide) wd94 rfl rfl dX1_add_11 ?_
    refine v_aload_n X 0 rfl dX1_add_14 ?_
    refine v_get X xinX1 0 rfl rfl 0 (by decide) wd93 rfl rfl dX1_add_15 ?_
    refine v_iload_n X 1 rfl dX1_add_18 ?_
    refine v_iast X 1 rfl hf (ws' := [(a0, .inr (1, [.int s_size, .int s_fault, .ref a_tape, .int s_at, .int s_token, .int s_tokenAt, .int s_value, .ref a_code, .int s_codeSize])), (a_tape, .inl (vxT x 0, 160, .inl (upd s_tape (Int32.toNatClampNeg s_size) l1)))]) rfl dX1_add_19 (fun h19 hf => ?_)
    refine v_aload_n X 0 rfl dX1_add_20 ?_
    refine v_dup X rfl dX1_add_21 ?_
    refine v_get X xinX1 0 rfl rfl 0 (by decide) wd93 rfl rfl dX1_add_22 ?_
    refine v_iconst X (v := 1) (by decide) dX1_add_25 ?_
    refine v_iadd X dX1_add_26 ?_
    refine v_put X xinX1 tyX1 tyX1_ok nmX1 0 rfl rfl 0 (by decide) wd93 rfl rfl rfl rfl rfl (Nat.le_of_ble_eq_true rfl) (ws' := [(a0, .inr (1, [.int (s_size + 1), .int s_fault, .ref a_tape, .int s_at, .int s_token, .int s_tokenAt, .int s_value, .ref a_code, .int s_codeSize])), (a_tape, .inl (vxT x 0, 160, .inl (upd s_tape (Int32.toNatClampNeg s_size) l1)))]) rfl dX1_add_27 ?_
    obtain rfl := Option.some.inj hf
    exact v_vret hR dX1_add_30
set_option maxRecDepth 100000 in
set_option maxHeartbeats 4000000 in
theorem c_X1_add {l : Launch} {D : va_G} {qT : Nat → ClassId} {Z : (Nat → Prop) → State → Heap → Prop} {r : Int32 × (Nat → Int32)} {a0 : Nat} {a_tape : Nat} {a_code : Nat} {s_size : Int32} {s_fault : Int32} {s_at : Int32} {s_token : Int32} {s_tokenAt : Int32} {s_value : Int32} {s_codeSize : Int32} {s_tape : Nat → Int32} {l1 : Int32} (hZ : ZOK Z) (hf : f_X1_add l1 s_size s_tape = some r) :
    CV l D qT Z yX1_add cX1_add 2 none 1 0 0 [.ref a0, .int l1] [(a0, .inr (1, [.int s_size, .int s_fault, .ref a_tape, .int s_at, .int s_token, .int s_tokenAt, .int s_value, .ref a_code, .int s_codeSize])), (a_tape, .inl (qT 0, 160, .inl s_tape))] [(a0, .inr (1, [.int r.1, .int s_fault, .ref a_tape, .int s_at, .int s_token, .int s_tokenAt, .int s_value, .ref a_code, .int s_codeSize])), (a_tape, .inl (qT 0, 160, .inl r.2))] := by
  refine CV_of hZ (by decide) (Nat.le_of_ble_eq_true rfl) ?_
  intro x e1 e2 e3 e4 e5 e6 hin X hR
  subst e1 e2 e3 e4
  exact t_X1_add X e6 hR hf
def f_X1_fail (s_tokenAt : Int32) : Option (Int32 × Int32) :=
  some (0, s_tokenAt)
set_option maxRecDepth 100000 in
set_option maxHeartbeats 4000000 in
theorem t_X1_fail {x : VX} {r : Int32 × Int32} {a0 : Nat} {a_tape : Nat} {a_code : Nat} {s_size : Int32} {s_fault : Int32} {s_at : Int32} {s_token : Int32} {s_tokenAt : Int32} {s_value : Int32} {s_codeSize : Int32} (X : Cx x cX1_fail RX1 1) (hN : vxn x = 1) (hR : narrow .boolean (.int r.1) = .int r.1 → RetI x cX1_fail 0 0 r.1 [(a0, .inr (1, [.int s_size, .int r.2, .ref a_tape, .int s_at, .int s_token, .int s_tokenAt, .int s_value, .ref a_code, .int s_codeSize]))]) (hf : f_X1_fail s_tokenAt = some r) : V x 0 0 [(a0, .inr (1, [.int s_size, .int s_fault, .ref a_tape, .int s_at, .int s_token, .int s_tokenAt, .int s_value, .ref a_code, .int s_codeSize]))] [(0, .ref a0)] 0 [] := by
  unfold f_X1_fail at hf
  refine v_aload_n X 0 rfl dX1_fail_0 ?_
  refine v_aload_n X 0 rfl dX1_fail_1 ?_
  refine v_get X xinX1 0 rfl rfl 5 (by decide) wd95 rfl rfl dX1_fail_2 ?_
  refine v_put X xinX1 tyX1 tyX1_ok nmX1 0 rfl rfl 1 (by decide) wd96 rfl rfl rfl rfl rfl (Nat.le_of_ble_eq_true rfl) (ws' := [(a0, .inr (1, [.int s_size, .int s_tokenAt, .ref a_tape, .int s_at, .int s_token, .int s_tokenAt, .int s_value, .ref a_code, .int s_codeSize]))]) rfl dX1_fail_5 ?_
  refine v_iconst X (v := 0) (by decide) dX1_fail_8 ?_
  obtain rfl := Option.some.inj hf
  exact v_iret (hR nz0) dX1_fail_9
set_option maxRecDepth 100000 in
set_option maxHeartbeats 4000000 in
theorem c_X1_fail {l : Launch} {D : va_G} {qT : Nat → ClassId} {Z : (Nat → Prop) → State → Heap → Prop} {r : Int32 × Int32} {a0 : Nat} {a_tape : Nat} {a_code : Nat} {s_size : Int32} {s_fault : Int32} {s_at : Int32} {s_token : Int32} {s_tokenAt : Int32} {s_value : Int32} {s_codeSize : Int32} (hZ : ZOK Z) (hf : f_X1_fail s_tokenAt = some r) :
    CI l D qT Z yX1_fail cX1_fail 1 (some .boolean) 1 0 0 [.ref a0] [(a0, .inr (1, [.int s_size, .int s_fault, .ref a_tape, .int s_at, .int s_token, .int s_tokenAt, .int s_value, .ref a_code, .int s_codeSize]))] r.1 [(a0, .inr (1, [.int s_size, .int r.2, .ref a_tape, .int s_at, .int s_token, .int s_tokenAt, .int s_value, .ref a_code, .int s_codeSize]))] := by
  refine CZ_of hZ (by decide) (Nat.le_of_ble_eq_true rfl) ?_
  intro x e1 e2 e3 e4 e5 e6 hin X hR
  subst e1 e2 e3 e4
  exact t_X1_fail X e6 hR hf
def f_X1_put (l1 : Int32) (s_codeSize : Int32) (s_code : Nat → Int32) : Option (Int32 × Int32 × (Nat → Int32)) :=
  if 160 ≤ s_codeSize then (
  some (1, s_codeSize, s_code)) else (
  if inb s_codeSize 160 = true then (
  some (1, (s_codeSize + 1), (upd s_code (Int32.toNatClampNeg s_codeSize) l1))) else none)
set_option maxRecDepth 100000 in
set_option maxHeartbeats 4000000 in
theorem t_X1_put {x : VX} {r : Int32 × Int32 × (Nat → Int32)} {a0 : Nat} {a_code : Nat} {a_tape : Nat} {s_size : Int32} {s_fault : Int32} {s_at : Int32} {s_token : Int32} {s_tokenAt : Int32} {s_value : Int32} {s_codeSize : Int32} {s_code : Nat → Int32} {l1 : Int32} (X : Cx x cX1_put RX1 1) (hN : vxn x = 2) (hR : narrow .boolean (.int r.1) = .int r.1 → RetI x cX1_put 0 0 r.1 [(a0, .inr (1, [.int s_size, .int s_fault, .ref a_tape, .int s_at, .int s_token, .int s_tokenAt, .int s_value, .ref a_code, .int r.2.1])), (a_code, .inl (vxT x 0, 160, .inl r.2.2))]) (hf : f_X1_put l1 s_codeSize s_code = some r) : V x 0 0 [(a0, .inr (1, [.int s_size, .int s_fault, .ref a_tape, .int s_at, .int s_token, .int s_tokenAt, .int s_value, .ref a_code, .int s_codeSize])), (a_code, .inl (vxT x 0, 160, .inl s_code))] [(0, .ref a0), (1, .int l1)] 0 [] := by
  unfold f_X1_put at hf
  refine v_aload_n X 0 rfl dX1_put_0 ?_
  refine v_get X xinX1 0 rfl rfl 8 (by decide) wd97 rfl rfl dX1_put_1 ?_
  refine v_sipush X (v := 160) (by decide) dX1_put_4 ?_
  refine v_icmp_ge X (tgt := 30) hf (by decide) dX1_put_7 (fun c7 hf => ?_) (fun c7 hf => ?_)
  · refine v_iconst X (v := 1) (by decide) dX1_put_30 ?_
    obtain rfl := Option.some.inj hf
    exact v_iret (hR nz1) dX1_put_31
  · refine v_aload_n X 0 rfl dX1_put_10 ?_
    refine v_get X xinX1 0 rfl rfl 7 (by decide) wd98 rfl rfl dX1_put_11 ?_
    refine v_aload_n X 0 rfl dX1_put_14 ?_
    refine v_get X xinX1 0 rfl rfl 8 (by decide) wd97 rfl rfl dX1_put_15 ?_
    refine v_iload_n X 1 rfl dX1_put_18 ?_
    refine v_iast X 1 rfl hf (ws' := [(a0, .inr (1, [.int s_size, .int s_fault, .ref a_tape, .int s_at, .int s_token, .int s_tokenAt, .int s_value, .ref a_code, .int s_codeSize])), (a_code, .inl (vxT x 0, 160, .inl (upd s_code (Int32.toNatClampNeg s_codeSize) l1)))]) rfl dX1_put_19 (fun h19 hf => ?_)
    refine v_aload_n X 0 rfl dX1_put_20 ?_
    refine v_dup X rfl dX1_put_21 ?_
    refine v_get X xinX1 0 rfl rfl 8 (by decide) wd97 rfl rfl dX1_put_22 ?_
    refine v_iconst X (v := 1) (by decide) dX1_put_25 ?_
    refine v_iadd X dX1_put_26 ?_
    refine v_put X xinX1 tyX1 tyX1_ok nmX1 0 rfl rfl 8 (by decide) wd97 rfl rfl rfl rfl rfl (Nat.le_of_ble_eq_true rfl) (ws' := [(a0, .inr (1, [.int s_size, .int s_fault, .ref a_tape, .int s_at, .int s_token, .int s_tokenAt, .int s_value, .ref a_code, .int (s_codeSize + 1)])), (a_code, .inl (vxT x 0, 160, .inl (upd s_code (Int32.toNatClampNeg s_codeSize) l1)))]) rfl dX1_put_27 ?_
    refine v_iconst X (v := 1) (by decide) dX1_put_30 ?_
    obtain rfl := Option.some.inj hf
    exact v_iret (hR nz1) dX1_put_31
set_option maxRecDepth 100000 in
set_option maxHeartbeats 4000000 in
theorem c_X1_put {l : Launch} {D : va_G} {qT : Nat → ClassId} {Z : (Nat → Prop) → State → Heap → Prop} {r : Int32 × Int32 × (Nat → Int32)} {a0 : Nat} {a_code : Nat} {a_tape : Nat} {s_size : Int32} {s_fault : Int32} {s_at : Int32} {s_token : Int32} {s_tokenAt : Int32} {s_value : Int32} {s_codeSize : Int32} {s_code : Nat → Int32} {l1 : Int32} (hZ : ZOK Z) (hf : f_X1_put l1 s_codeSize s_code = some r) :
    CI l D qT Z yX1_put cX1_put 2 (some .boolean) 1 0 0 [.ref a0, .int l1] [(a0, .inr (1, [.int s_size, .int s_fault, .ref a_tape, .int s_at, .int s_token, .int s_tokenAt, .int s_value, .ref a_code, .int s_codeSize])), (a_code, .inl (qT 0, 160, .inl s_code))] r.1 [(a0, .inr (1, [.int s_size, .int s_fault, .ref a_tape, .int s_at, .int s_token, .int s_tokenAt, .int s_value, .ref a_code, .int r.2.1])), (a_code, .inl (qT 0, 160, .inl r.2.2))] := by
  refine CZ_of hZ (by decide) (Nat.le_of_ble_eq_true rfl) ?_
  intro x e1 e2 e3 e4 e5 e6 hin X hR
  subst e1 e2 e3 e4
  exact t_X1_put X e6 hR hf
def f_X1_isLetter (l0 : Int32) : Option (Int32) :=
  if l0 < 97 then (
  some 0) else (
  if 122 < l0 then (
  some 0) else (
  some 1))
set_option maxRecDepth 100000 in
set_option maxHeartbeats 4000000 in
theorem t_X1_isLetter {x : VX} {r : Int32} {l0 : Int32} (X : Cx x cX1_isLetter RX1 1) (hN : vxn x = 1) (hR : narrow .boolean (.int r) = .int r → RetI x cX1_isLetter 0 0 r []) (hf : f_X1_isLetter l0 = some r) : V x 0 0 [] [(0, .int l0)] 0 [] := by
  unfold f_X1_isLetter at hf
  refine v_iload_n X 0 rfl dX1_isLetter_0 ?_
  refine v_bipush X (v := 97) (by decide) dX1_isLetter_1 ?_
  refine v_icmp_lt X (tgt := 16) hf (by decide) dX1_isLetter_3 (fun c3 hf => ?_) (fun c3 hf => ?_)
  · refine v_iconst X (v := 0) (by decide) dX1_isLetter_16 ?_
    obtain rfl := Option.some.inj hf
    exact v_iret (hR nz0) dX1_isLetter_17
  · refine v_iload_n X 0 rfl dX1_isLetter_6 ?_
    refine v_bipush X (v := 122) (by decide) dX1_isLetter_7 ?_
    refine v_icmp_gt X (tgt := 16) hf (by decide) dX1_isLetter_9 (fun c9 hf => ?_) (fun c9 hf => ?_)
    · refine v_iconst X (v := 0) (by decide) dX1_isLetter_16 ?_
      obtain rfl := Option.some.inj hf
      exact v_iret (hR nz0) dX1_isLetter_17
    · refine v_iconst X (v := 1) (by decide) dX1_isLetter_12 ?_
      refine v_goto X (tgt := 17) (by decide) dX1_isLetter_13 ?_
      obtain rfl := Option.some.inj hf
      exact v_iret (hR nz1) dX1_isLetter_17
set_option maxRecDepth 100000 in
set_option maxHeartbeats 4000000 in
theorem c_X1_isLetter {l : Launch} {D : va_G} {qT : Nat → ClassId} {Z : (Nat → Prop) → State → Heap → Prop} {r : Int32} {l0 : Int32} (hZ : ZOK Z) (hf : f_X1_isLetter l0 = some r) :
    CI l D qT Z yX1_isLetter cX1_isLetter 1 (some .boolean) 1 0 0 [.int l0] [] r [] := by
  refine CZ_of hZ (by decide) (Nat.le_of_ble_eq_true rfl) ?_
  intro x e1 e2 e3 e4 e5 e6 hin X hR
  subst e1 e2 e3 e4
  exact t_X1_isLetter X e6 hR hf
def f_X1_isDigit (l0 : Int32) : Option (Int32) :=
  if l0 < 48 then (
  some 0) else (
  if 57 < l0 then (
  some 0) else (
  some 1))
set_option maxRecDepth 100000 in
set_option maxHeartbeats 4000000 in
theorem t_X1_isDigit {x : VX} {r : Int32} {l0 : Int32} (X : Cx x cX1_isDigit RX1 1) (hN : vxn x = 1) (hR : narrow .boolean (.int r) = .int r → RetI x cX1_isDigit 0 0 r []) (hf : f_X1_isDigit l0 = some r) : V x 0 0 [] [(0, .int l0)] 0 [] := by
  unfold f_X1_isDigit at hf
  refine v_iload_n X 0 rfl dX1_isDigit_0 ?_
  refine v_bipush X (v := 48) (by decide) dX1_isDigit_1 ?_
  refine v_icmp_lt X (tgt := 16) hf (by decide) dX1_isDigit_3 (fun c3 hf => ?_) (fun c3 hf => ?_)
  · refine v_iconst X (v := 0) (by decide) dX1_isDigit_16 ?_
    obtain rfl := Option.some.inj hf
    exact v_iret (hR nz0) dX1_isDigit_17
  · refine v_iload_n X 0 rfl dX1_isDigit_6 ?_
    refine v_bipush X (v := 57) (by decide) dX1_isDigit_7 ?_
    refine v_icmp_gt X (tgt := 16) hf (by decide) dX1_isDigit_9 (fun c9 hf => ?_) (fun c9 hf => ?_)
    · refine v_iconst X (v := 0) (by decide) dX1_isDigit_16 ?_
      obtain rfl := Option.some.inj hf
      exact v_iret (hR nz0) dX1_isDigit_17
    · refine v_iconst X (v := 1) (by decide) dX1_isDigit_12 ?_
      refine v_goto X (tgt := 17) (by decide) dX1_isDigit_13 ?_
      obtain rfl := Option.some.inj hf
      exact v_iret (hR nz1) dX1_isDigit_17
set_option maxRecDepth 100000 in
set_option maxHeartbeats 4000000 in
theorem c_X1_isDigit {l : Launch} {D : va_G} {qT : Nat → ClassId} {Z : (Nat → Prop) → State → Heap → Prop} {r : Int32} {l0 : Int32} (hZ : ZOK Z) (hf : f_X1_isDigit l0 = some r) :
    CI l D qT Z yX1_isDigit cX1_isDigit 1 (some .boolean) 1 0 0 [.int l0] [] r [] := by
  refine CZ_of hZ (by decide) (Nat.le_of_ble_eq_true rfl) ?_
  intro x e1 e2 e3 e4 e5 e6 hin X hR
  subst e1 e2 e3 e4
  exact t_X1_isDigit X e6 hR hf
def f_X1_isSign (l0 : Int32) : Option (Int32) :=
  if l0 = 40 then (
  some 1) else (
  if l0 = 41 then (
  some 1) else (
  if l0 = 59 then (
  some 1) else (
  if l0 = 43 then (
  some 1) else (
  if l0 = 45 then (
  some 1) else (
  if l0 = 42 then (
  some 1) else (
  if l0 = 60 then (
  some 1) else (
  if l0 = 61 then (
  some 1) else (
  some 0))))))))
set_option maxRecDepth 100000 in
set_option maxHeartbeats 4000000 in
theorem t_X1_isSign {x : VX} {r : Int32} {l0 : Int32} (X : Cx x cX1_isSign RX1 1) (hN : vxn x = 1) (hR : narrow .boolean (.int r) = .int r → RetI x cX1_isSign 0 0 r []) (hf : f_X1_isSign l0 = some r) : V x 0 0 [] [(0, .int l0)] 0 [] := by
  unfold f_X1_isSign at hf
  refine v_iload_n X 0 rfl dX1_isSign_0 ?_
  refine v_bipush X (v := 40) (by decide) dX1_isSign_1 ?_
  refine v_icmp_eq X (tgt := 48) hf (by decide) dX1_isSign_3 (fun c3 hf => ?_) (fun c3 hf => ?_)
  · refine v_iconst X (v := 1) (by decide) dX1_isSign_48 ?_
    refine v_goto X (tgt := 53) (by decide) dX1_isSign_49 ?_
    obtain rfl := Option.some.inj hf
    exact v_iret (hR nz1) dX1_isSign_53
  · refine v_iload_n X 0 rfl dX1_isSign_6 ?_
    refine v_bipush X (v := 41) (by decide) dX1_isSign_7 ?_
    refine v_icmp_eq X (tgt := 48) hf (by decide) dX1_isSign_9 (fun c9 hf => ?_) (fun c9 hf => ?_)
    · refine v_iconst X (v := 1) (by decide) dX1_isSign_48 ?_
      refine v_goto X (tgt := 53) (by decide) dX1_isSign_49 ?_
      obtain rfl := Option.some.inj hf
      exact v_iret (hR nz1) dX1_isSign_53
    · refine v_iload_n X 0 rfl dX1_isSign_12 ?_
      refine v_bipush X (v := 59) (by decide) dX1_isSign_13 ?_
      refine v_icmp_eq X (tgt := 48) hf (by decide) dX1_isSign_15 (fun c15 hf => ?_) (fun c15 hf => ?_)
      · refine v_iconst X (v := 1) (by decide) dX1_isSign_48 ?_
        refine v_goto X (tgt := 53) (by decide) dX1_isSign_49 ?_
        obtain rfl := Option.some.inj hf
        exact v_iret (hR nz1) dX1_isSign_53
      · refine v_iload_n X 0 rfl dX1_isSign_18 ?_
        refine v_bipush X (v := 43) (by decide) dX1_isSign_19 ?_
        refine v_icmp_eq X (tgt := 48) hf (by decide) dX1_isSign_21 (fun c21 hf => ?_) (fun c21 hf => ?_)
        · refine v_iconst X (v := 1) (by decide) dX1_isSign_48 ?_
          refine v_goto X (tgt := 53) (by decide) dX1_isSign_49 ?_
          obtain rfl := Option.some.inj hf
          exact v_iret (hR nz1) dX1_isSign_53
        · refine v_iload_n X 0 rfl dX1_isSign_24 ?_
          refine v_bipush X (v := 45) (by decide) dX1_isSign_25 ?_
          refine v_icmp_eq X (tgt := 48) hf (by decide) dX1_isSign_27 (fun c27 hf => ?_) (fun c27 hf => ?_)
          · refine v_iconst X (v := 1) (by decide) dX1_isSign_48 ?_
            refine v_goto X (tgt := 53) (by decide) dX1_isSign_49 ?_
            obtain rfl := Option.some.inj hf
            exact v_iret (hR nz1) dX1_isSign_53
          · refine v_iload_n X 0 rfl dX1_isSign_30 ?_
            refine v_bipush X (v := 42) (by decide) dX1_isSign_31 ?_
            refine v_icmp_eq X (tgt := 48) hf (by decide) dX1_isSign_33 (fun c33 hf => ?_) (fun c33 hf => ?_)
            · refine v_iconst X (v := 1) (by decide) dX1_isSign_48 ?_
              refine v_goto X (tgt := 53) (by decide) dX1_isSign_49 ?_
              obtain rfl := Option.some.inj hf
              exact v_iret (hR nz1) dX1_isSign_53
            · refine v_iload_n X 0 rfl dX1_isSign_36 ?_
              refine v_bipush X (v := 60) (by decide) dX1_isSign_37 ?_
              refine v_icmp_eq X (tgt := 48) hf (by decide) dX1_isSign_39 (fun c39 hf => ?_) (fun c39 hf => ?_)
              · refine v_iconst X (v := 1) (by decide) dX1_isSign_48 ?_
                refine v_goto X (tgt := 53) (by decide) dX1_isSign_49 ?_
                obtain rfl := Option.some.inj hf
                exact v_iret (hR nz1) dX1_isSign_53
              · refine v_iload_n X 0 rfl dX1_isSign_42 ?_
                refine v_bipush X (v := 61) (by decide) dX1_isSign_43 ?_
                refine v_icmp_ne X (tgt := 52) hf (by decide) dX1_isSign_45 (fun c45 hf => ?_) (fun c45 hf => ?_)
                · refine v_iconst X (v := 0) (by decide) dX1_isSign_52 ?_
                  obtain rfl := Option.some.inj hf
                  exact v_iret (hR nz0) dX1_isSign_53
                · refine v_iconst X (v := 1) (by decide) dX1_isSign_48 ?_
                  refine v_goto X (tgt := 53) (by decide) dX1_isSign_49 ?_
                  obtain rfl := Option.some.inj hf
                  exact v_iret (hR nz1) dX1_isSign_53
set_option maxRecDepth 100000 in
set_option maxHeartbeats 4000000 in
theorem c_X1_isSign {l : Launch} {D : va_G} {qT : Nat → ClassId} {Z : (Nat → Prop) → State → Heap → Prop} {r : Int32} {l0 : Int32} (hZ : ZOK Z) (hf : f_X1_isSign l0 = some r) :
    CI l D qT Z yX1_isSign cX1_isSign 1 (some .boolean) 1 0 0 [.int l0] [] r [] := by
  refine CZ_of hZ (by decide) (Nat.le_of_ble_eq_true rfl) ?_
  intro x e1 e2 e3 e4 e5 e6 hin X hR
  subst e1 e2 e3 e4
  exact t_X1_isSign X e6 hR hf
def f_X1_nextNumber_87 (s_at : Int32) (s_token : Int32) (s_tokenAt : Int32) (s_value : Int32) : Option (Int32 × Int32 × Int32) :=
  if (s_at - s_tokenAt) ≤ 4 then (
  some (s_at, s_token, s_value)) else (
  some (s_at, 257, s_value))
def f_X1_nextNumber_14 (s_size : Int32) (s_token : Int32) (s_tokenAt : Int32) (s_tape : Nat → Int32) (kp_14 : Int32 → Int32 → Int32 → Option (Int32 × Int32 × Int32)) (l1 : Int32) (s_at : Int32) (s_value : Int32) : Option (Int32 × Int32 × Int32) :=
  if 160 ≤ l1 then (
  f_X1_nextNumber_87 s_at s_token s_tokenAt s_value) else (
  if s_size ≤ s_at then (
  f_X1_nextNumber_87 s_at s_token s_tokenAt s_value) else (
  if inb s_at 160 = true then (
  (f_X1_isDigit (s_tape (Int32.toNatClampNeg s_at))).bind (fun v41_1 =>
  if v41_1 = 0 then (
  f_X1_nextNumber_87 s_at s_token s_tokenAt s_value) else (
  if inb s_at 160 = true then (
  kp_14 (l1 + 1) (s_at + 1) (((10 * s_value) + (s_tape (Int32.toNatClampNeg s_at))) - 48)) else none))) else none))
def f_X1_nextNumber (s_size : Int32) (s_at : Int32) (s_tokenAt : Int32) (s_tape : Nat → Int32) : Option (Int32 × Int32 × Int32) :=
  lq3 (f_X1_nextNumber_14 s_size 258 s_tokenAt s_tape) 200 0 s_at 0
set_option maxRecDepth 100000 in
set_option maxHeartbeats 4000000 in
theorem t_X1_nextNumber_87 {x : VX} {r : Int32 × Int32 × Int32} {a0 : Nat} {a_tape : Nat} {a_code : Nat} {s_size : Int32} {s_fault : Int32} {s_at : Int32} {s_token : Int32} {s_tokenAt : Int32} {s_value : Int32} {s_codeSize : Int32} {s_tape : Nat → Int32} (X : Cx x cX1_nextNumber RX1 2) (hN : vxn x = 2) (hR : RetV x cX1_nextNumber 0 0 [(a0, .inr (1, [.int s_size, .int s_fault, .ref a_tape, .int r.1, .int r.2.1, .int s_tokenAt, .int r.2.2, .ref a_code, .int s_codeSize])), (a_tape, .inl (vxT x 0, 160, .inl s_tape))]) (hf : f_X1_nextNumber_87 s_at s_token s_tokenAt s_value = some r) : V x 0 0 [(a0, .inr (1, [.int s_size, .int s_fault, .ref a_tape, .int s_at, .int s_token, .int s_tokenAt, .int s_value, .ref a_code, .int s_codeSize])), (a_tape, .inl (vxT x 0, 160, .inl s_tape))] [(0, .ref a0)] 87 [] := by
  unfold f_X1_nextNumber_87 at hf
  refine v_aload_n X 0 rfl dX1_nextNumber_87 ?_
  refine v_get X xinX1 0 rfl rfl 3 (by decide) wd101 rfl rfl dX1_nextNumber_88 ?_
  refine v_aload_n X 0 rfl dX1_nextNumber_91 ?_
  refine v_get X xinX1 0 rfl rfl 5 (by decide) wd95 rfl rfl dX1_nextNumber_92 ?_
  refine v_isub X dX1_nextNumber_95 ?_
  refine v_iconst X (v := 4) (by decide) dX1_nextNumber_96 ?_
  refine v_icmp_le X (tgt := 107) hf (by decide) dX1_nextNumber_97 (fun c97 hf => ?_) (fun c97 hf => ?_)
  · obtain rfl := Option.some.inj hf
    exact v_vret hR dX1_nextNumber_107
  · refine v_aload_n X 0 rfl dX1_nextNumber_100 ?_
    refine v_sipush X (v := 257) (by decide) dX1_nextNumber_101 ?_
    refine v_put X xinX1 tyX1 tyX1_ok nmX1 0 rfl rfl 4 (by decide) wd99 rfl rfl rfl rfl rfl (Nat.le_of_ble_eq_true rfl) (ws' := [(a0, .inr (1, [.int s_size, .int s_fault, .ref a_tape, .int s_at, .int 257, .int s_tokenAt, .int s_value, .ref a_code, .int s_codeSize])), (a_tape, .inl (vxT x 0, 160, .inl s_tape))]) rfl dX1_nextNumber_104 ?_
    obtain rfl := Option.some.inj hf
    exact v_vret hR dX1_nextNumber_107
set_option maxRecDepth 100000 in
set_option maxHeartbeats 4000000 in
theorem t_X1_nextNumber_14 {x : VX} {r : Int32 × Int32 × Int32} {a0 : Nat} {a_tape : Nat} {a_code : Nat} {s_size : Int32} {s_fault : Int32} {s_token : Int32} {s_tokenAt : Int32} {s_codeSize : Int32} {s_tape : Nat → Int32} (X : Cx x cX1_nextNumber RX1 2) (hN : vxn x = 2) (hR : RetV x cX1_nextNumber 0 0 [(a0, .inr (1, [.int s_size, .int s_fault, .ref a_tape, .int r.1, .int r.2.1, .int s_tokenAt, .int r.2.2, .ref a_code, .int s_codeSize])), (a_tape, .inl (vxT x 0, 160, .inl s_tape))]) :
    ∀ (fu : Nat) (l1 : Int32) (s_at : Int32) (s_value : Int32), lq3 (f_X1_nextNumber_14 s_size s_token s_tokenAt s_tape) fu l1 s_at s_value = some r → V x 0 0 [(a0, .inr (1, [.int s_size, .int s_fault, .ref a_tape, .int s_at, .int s_token, .int s_tokenAt, .int s_value, .ref a_code, .int s_codeSize])), (a_tape, .inl (vxT x 0, 160, .inl s_tape))] [(0, .ref a0), (1, .int l1)] 14 [] := by
  refine lq3_V (G := fun l1 s_at s_value => V x 0 0 [(a0, .inr (1, [.int s_size, .int s_fault, .ref a_tape, .int s_at, .int s_token, .int s_tokenAt, .int s_value, .ref a_code, .int s_codeSize])), (a_tape, .inl (vxT x 0, 160, .inl s_tape))] [(0, .ref a0), (1, .int l1)] 14 []) ?_
  intro kp_14 hk_14 l1 s_at s_value hf
  unfold f_X1_nextNumber_14 at hf
  refine v_iload_n X 1 rfl dX1_nextNumber_14 ?_
  refine v_sipush X (v := 160) (by decide) dX1_nextNumber_15 ?_
  refine v_icmp_ge X (tgt := 87) hf (by decide) dX1_nextNumber_18 (fun c18 hf => ?_) (fun c18 hf => ?_)
  · refine v_lv [0] rfl ?_
    exact t_X1_nextNumber_87 X hN hR hf
  · refine v_aload_n X 0 rfl dX1_nextNumber_21 ?_
    refine v_get X xinX1 0 rfl rfl 3 (by decide) wd101 rfl rfl dX1_nextNumber_22 ?_
    refine v_aload_n X 0 rfl dX1_nextNumber_25 ?_
    refine v_get X xinX1 0 rfl rfl 0 (by decide) wd93 rfl rfl dX1_nextNumber_26 ?_
    refine v_icmp_ge X (tgt := 87) hf (by decide) dX1_nextNumber_29 (fun c29 hf => ?_) (fun c29 hf => ?_)
    · refine v_lv [0] rfl ?_
      exact t_X1_nextNumber_87 X hN hR hf
    · refine v_aload_n X 0 rfl dX1_nextNumber_32 ?_
      refine v_get X xinX1 0 rfl rfl 2 (by decide) wd94 rfl rfl dX1_nextNumber_33 ?_
      refine v_aload_n X 0 rfl dX1_nextNumber_36 ?_
      refine v_get X xinX1 0 rfl rfl 3 (by decide) wd101 rfl rfl dX1_nextNumber_37 ?_
      refine v_iald X 1 rfl hf dX1_nextNumber_40 (fun h40 hf => ?_)
      obtain ⟨v41_1, hv41_1, hf⟩ := bd_some hf
      refine v_scallI X (c_X1_isDigit X.2.2.2.2.2.2.2.1 hv41_1) cws_X1_89 rfl (by decide) ⟨Nat.zero_le _, Nat.zero_le _⟩ [] [0, 1] [0, 1] rfl (by decide) (wr := [(a0, .inr (1, [.int s_size, .int s_fault, .ref a_tape, .int s_at, .int s_token, .int s_tokenAt, .int s_value, .ref a_code, .int s_codeSize])), (a_tape, .inl (vxT x 0, 160, .inl s_tape))]) rfl (by decide) (by decide) (ws2 := [(a0, .inr (1, [.int s_size, .int s_fault, .ref a_tape, .int s_at, .int s_token, .int s_tokenAt, .int s_value, .ref a_code, .int s_codeSize])), (a_tape, .inl (vxT x 0, 160, .inl s_tape))]) rfl (by decide) (Nat.le_of_ble_eq_true rfl) rfl dX1_nextNumber_41 ?_
      refine v_if_eq X (tgt := 87) hf (by decide) dX1_nextNumber_44 (fun c44 hf => ?_) (fun c44 hf => ?_)
      · refine v_lv [0] rfl ?_
        exact t_X1_nextNumber_87 X hN hR hf
      · refine v_aload_n X 0 rfl dX1_nextNumber_47 ?_
        refine v_bipush X (v := 10) (by decide) dX1_nextNumber_48 ?_
        refine v_aload_n X 0 rfl dX1_nextNumber_50 ?_
        refine v_get X xinX1 0 rfl rfl 6 (by decide) wd100 rfl rfl dX1_nextNumber_51 ?_
        refine v_imul X dX1_nextNumber_54 ?_
        refine v_aload_n X 0 rfl dX1_nextNumber_55 ?_
        refine v_get X xinX1 0 rfl rfl 2 (by decide) wd94 rfl rfl dX1_nextNumber_56 ?_
        refine v_aload_n X 0 rfl dX1_nextNumber_59 ?_
        refine v_get X xinX1 0 rfl rfl 3 (by decide) wd101 rfl rfl dX1_nextNumber_60 ?_
        refine v_iald X 1 rfl hf dX1_nextNumber_63 (fun h63 hf => ?_)
        refine v_iadd X dX1_nextNumber_64 ?_
        refine v_bipush X (v := 48) (by decide) dX1_nextNumber_65 ?_
        refine v_isub X dX1_nextNumber_67 ?_
        refine v_put X xinX1 tyX1 tyX1_ok nmX1 0 rfl rfl 6 (by decide) wd100 rfl rfl rfl rfl rfl (Nat.le_of_ble_eq_true rfl) (ws' := [(a0, .inr (1, [.int s_size, .int s_fault, .ref a_tape, .int s_at, .int s_token, .int s_tokenAt, .int (((10 * s_value) + (s_tape (Int32.toNatClampNeg s_at))) - 48), .ref a_code, .int s_codeSize])), (a_tape, .inl (vxT x 0, 160, .inl s_tape))]) rfl dX1_nextNumber_68 ?_
        refine v_aload_n X 0 rfl dX1_nextNumber_71 ?_
        refine v_dup X rfl dX1_nextNumber_72 ?_
        refine v_get X xinX1 0 rfl rfl 3 (by decide) wd101 rfl rfl dX1_nextNumber_73 ?_
        refine v_iconst X (v := 1) (by decide) dX1_nextNumber_76 ?_
        refine v_iadd X dX1_nextNumber_77 ?_
        refine v_put X xinX1 tyX1 tyX1_ok nmX1 0 rfl rfl 3 (by decide) wd101 rfl rfl rfl rfl rfl (Nat.le_of_ble_eq_true rfl) (ws' := [(a0, .inr (1, [.int s_size, .int s_fault, .ref a_tape, .int (s_at + 1), .int s_token, .int s_tokenAt, .int (((10 * s_value) + (s_tape (Int32.toNatClampNeg s_at))) - 48), .ref a_code, .int s_codeSize])), (a_tape, .inl (vxT x 0, 160, .inl s_tape))]) rfl dX1_nextNumber_78 ?_
        refine v_iinc X 1 rfl (v := (l1 + 1)) rfl (by rw [hN]; decide) (lv' := [(1, .int (l1 + 1)), (0, .ref a0)]) rfl dX1_nextNumber_81 ?_
        refine v_goto X (tgt := 14) (by decide) dX1_nextNumber_84 ?_
        refine v_lv [1, 0] rfl ?_
        exact hk_14 _ _ _ hf
set_option maxRecDepth 100000 in
set_option maxHeartbeats 4000000 in
theorem t_X1_nextNumber {x : VX} {r : Int32 × Int32 × Int32} {a0 : Nat} {a_tape : Nat} {a_code : Nat} {s_size : Int32} {s_fault : Int32} {s_at : Int32} {s_token : Int32} {s_tokenAt : Int32} {s_value : Int32} {s_codeSize : Int32} {s_tape : Nat → Int32} (X : Cx x cX1_nextNumber RX1 2) (hN : vxn x = 2) (hR : RetV x cX1_nextNumber 0 0 [(a0, .inr (1, [.int s_size, .int s_fault, .ref a_tape, .int r.1, .int r.2.1, .int s_tokenAt, .int r.2.2, .ref a_code, .int s_codeSize])), (a_tape, .inl (vxT x 0, 160, .inl s_tape))]) (hf : f_X1_nextNumber s_size s_at s_tokenAt s_tape = some r) : V x 0 0 [(a0, .inr (1, [.int s_size, .int s_fault, .ref a_tape, .int s_at, .int s_token, .int s_tokenAt, .int s_value, .ref a_code, .int s_codeSize])), (a_tape, .inl (vxT x 0, 160, .inl s_tape))] [(0, .ref a0)] 0 [] := by
  unfold f_X1_nextNumber at hf
  refine v_aload_n X 0 rfl dX1_nextNumber_0 ?_
  refine v_sipush X (v := 258) (by decide) dX1_nextNumber_1 ?_
  refine v_put X xinX1 tyX1 tyX1_ok nmX1 0 rfl rfl 4 (by decide) wd99 rfl rfl rfl rfl rfl (Nat.le_of_ble_eq_true rfl) (ws' := [(a0, .inr (1, [.int s_size, .int s_fault, .ref a_tape, .int s_at, .int 258, .int s_tokenAt, .int s_value, .ref a_code, .int s_codeSize])), (a_tape, .inl (vxT x 0, 160, .inl s_tape))]) rfl dX1_nextNumber_4 ?_
  refine v_aload_n X 0 rfl dX1_nextNumber_7 ?_
  refine v_iconst X (v := 0) (by decide) dX1_nextNumber_8 ?_
  refine v_put X xinX1 tyX1 tyX1_ok nmX1 0 rfl rfl 6 (by decide) wd100 rfl rfl rfl rfl rfl (Nat.le_of_ble_eq_true rfl) (ws' := [(a0, .inr (1, [.int s_size, .int s_fault, .ref a_tape, .int s_at, .int 258, .int s_tokenAt, .int 0, .ref a_code, .int s_codeSize])), (a_tape, .inl (vxT x 0, 160, .inl s_tape))]) rfl dX1_nextNumber_9 ?_
  refine v_iconst X (v := 0) (by decide) dX1_nextNumber_12 ?_
  refine v_istore_n X rfl (by rw [hN]; decide) (lv' := [(1, .int 0), (0, .ref a0)]) rfl dX1_nextNumber_13 ?_
  refine v_lv [1, 0] rfl ?_
  exact t_X1_nextNumber_14 X hN hR 200 _ _ _ hf
set_option maxRecDepth 100000 in
set_option maxHeartbeats 4000000 in
theorem c_X1_nextNumber {l : Launch} {D : va_G} {qT : Nat → ClassId} {Z : (Nat → Prop) → State → Heap → Prop} {r : Int32 × Int32 × Int32} {a0 : Nat} {a_tape : Nat} {a_code : Nat} {s_size : Int32} {s_fault : Int32} {s_at : Int32} {s_token : Int32} {s_tokenAt : Int32} {s_value : Int32} {s_codeSize : Int32} {s_tape : Nat → Int32} (hZ : ZOK Z) (hf : f_X1_nextNumber s_size s_at s_tokenAt s_tape = some r) :
    CV l D qT Z yX1_nextNumber cX1_nextNumber 2 none 2 0 0 [.ref a0] [(a0, .inr (1, [.int s_size, .int s_fault, .ref a_tape, .int s_at, .int s_token, .int s_tokenAt, .int s_value, .ref a_code, .int s_codeSize])), (a_tape, .inl (qT 0, 160, .inl s_tape))] [(a0, .inr (1, [.int s_size, .int s_fault, .ref a_tape, .int r.1, .int r.2.1, .int s_tokenAt, .int r.2.2, .ref a_code, .int s_codeSize])), (a_tape, .inl (qT 0, 160, .inl s_tape))] := by
  refine CV_of hZ (by decide) (Nat.le_of_ble_eq_true rfl) ?_
  intro x e1 e2 e3 e4 e5 e6 hin X hR
  subst e1 e2 e3 e4
  exact t_X1_nextNumber X e6 hR hf
