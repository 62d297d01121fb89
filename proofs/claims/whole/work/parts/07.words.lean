theorem xinX0 : ∀ w ∈ u_ws RX0 TX0 3, w ∈ gw := by
  have h : (u_ws RX0 TX0 3).all (fun w => decide (w ∈ lw_tbl) && goodWord w) = true := by decide +kernel
  intro w hw
  have h1 := List.all_eq_true.mp h w hw
  simp only [Bool.and_eq_true, decide_eq_true_eq] at h1
  exact gw_of h1.1 h1.2
theorem wd0 : Cond.fieldLink RX0 9 RX0 "at" "I" ∈ gw := gw_of (List.mem_append_right _ (List.mem_of_getElem? (i := 149) (by decide +kernel))) (by decide +kernel)
theorem wd1 : Cond.fieldLink RX0 15 RX0 "value" "I" ∈ gw := gw_of (List.mem_append_right _ (List.mem_of_getElem? (i := 151) (by decide +kernel))) (by decide +kernel)
theorem wd2 : Cond.fieldLink RX0 18 RX0 "isOffered" "Z" ∈ gw := gw_of (List.mem_append_right _ (List.mem_of_getElem? (i := 152) (by decide +kernel))) (by decide +kernel)
theorem wd3 : Cond.methodLink RX6 317 yJ9_min_7cf53 ∈ gw := gw_of (List.mem_append_right _ (List.mem_of_getElem? (i := 464) (by decide +kernel))) (by decide +kernel)
theorem wd4 : Cond.methodLink RX6 322 yJ9_max_7cf53 ∈ gw := gw_of (List.mem_append_right _ (List.mem_of_getElem? (i := 465) (by decide +kernel))) (by decide +kernel)
theorem xinX2 : ∀ w ∈ u_ws RX2 TX2 11, w ∈ gw := by
  have h : (u_ws RX2 TX2 11).all (fun w => decide (w ∈ lw_tbl) && goodWord w) = true := by decide +kernel
  intro w hw
  have h1 := List.all_eq_true.mp h w hw
  simp only [Bool.and_eq_true, decide_eq_true_eq] at h1
  exact gw_of h1.1 h1.2
theorem wd5 : Cond.fieldLink RX2 27 RX2 "painters" "I" ∈ gw := gw_of (List.mem_append_right _ (List.mem_of_getElem? (i := 44) (by decide +kernel))) (by decide +kernel)
theorem wd6 : Cond.fieldLink RX2 30 RX2 "kind" "[I" ∈ gw := gw_of (List.mem_append_right _ (List.mem_of_getElem? (i := 46) (by decide +kernel))) (by decide +kernel)
theorem wd7 : Cond.fieldLink RX2 34 RX2 "number" "[I" ∈ gw := gw_of (List.mem_append_right _ (List.mem_of_getElem? (i := 48) (by decide +kernel))) (by decide +kernel)
theorem wd8 : Cond.fieldLink RX2 37 RX2 "easel" "[I" ∈ gw := gw_of (List.mem_append_right _ (List.mem_of_getElem? (i := 51) (by decide +kernel))) (by decide +kernel)
theorem wd9 : Cond.fieldLink RX2 40 RX2 "had" "[I" ∈ gw := gw_of (List.mem_append_right _ (List.mem_of_getElem? (i := 54) (by decide +kernel))) (by decide +kernel)
theorem wd10 : Cond.fieldLink RX2 43 RX2 "pleased" "[I" ∈ gw := gw_of (List.mem_append_right _ (List.mem_of_getElem? (i := 56) (by decide +kernel))) (by decide +kernel)
theorem wd11 : Cond.static yX6_isEasel ∈ gw := gw_of (List.mem_append_right _ (List.mem_of_getElem? (i := 382) (by decide +kernel))) (by decide +kernel)
theorem wd12 : Cond.initialized RX6 ∈ gw := gw_of (List.mem_append_right _ (List.mem_of_getElem? (i := 1) (by decide +kernel))) (by decide +kernel)
theorem wd13 : Cond.code yX6_isEasel cX6_isEasel 1 (some .boolean) ∈ gw := gw_of (List.mem_append_right _ (List.mem_of_getElem? (i := 383) (by decide +kernel))) (by decide +kernel)
theorem cwn_X2_52 : CWn RX2 RX6 52 yX6_isEasel cX6_isEasel 1 (some .boolean) 1 := ⟨by decide +kernel, wd11, wd12, wd13, (by decide +kernel), (by decide +kernel), (by decide +kernel), (by decide +kernel)⟩
theorem wd14 : Cond.methodLink RX2 56 yX2_freeEasels ∈ gw := gw_of (List.mem_append_right _ (List.mem_of_getElem? (i := 397) (by decide +kernel))) (by decide +kernel)
theorem wd15 : Cond.instanceMethod yX2_freeEasels ∈ gw := gw_of (List.mem_append_right _ (List.mem_of_getElem? (i := 398) (by decide +kernel))) (by decide +kernel)
theorem wd16 : Cond.selects RX2 yX2_freeEasels yX2_freeEasels ∈ gw := gw_of (List.mem_append_right _ (List.mem_of_getElem? (i := 399) (by decide +kernel))) (by decide +kernel)
theorem wd17 : Cond.initialized RX2 ∈ gw := gw_of (List.mem_append_right _ (List.mem_of_getElem? (i := 2) (by decide +kernel))) (by decide +kernel)
theorem wd18 : Cond.code yX2_freeEasels cX2_freeEasels 3 (some .int) ∈ gw := gw_of (List.mem_append_right _ (List.mem_of_getElem? (i := 400) (by decide +kernel))) (by decide +kernel)
theorem cwv_X2_56 : CWv RX2 56 yX2_freeEasels cX2_freeEasels 3 (some .int) 0 := ⟨wd14, wd15, wd16, wd17, wd18, (by decide +kernel), (by decide +kernel), (by decide +kernel), (by decide +kernel)⟩
theorem wd19 : Cond.methodLink RX2 60 yX2_isFree ∈ gw := gw_of (List.mem_append_right _ (List.mem_of_getElem? (i := 392) (by decide +kernel))) (by decide +kernel)
theorem wd20 : Cond.instanceMethod yX2_isFree ∈ gw := gw_of (List.mem_append_right _ (List.mem_of_getElem? (i := 393) (by decide +kernel))) (by decide +kernel)
theorem wd21 : Cond.selects RX2 yX2_isFree yX2_isFree ∈ gw := gw_of (List.mem_append_right _ (List.mem_of_getElem? (i := 394) (by decide +kernel))) (by decide +kernel)
theorem wd22 : Cond.code yX2_isFree cX2_isFree 2 (some .boolean) ∈ gw := gw_of (List.mem_append_right _ (List.mem_of_getElem? (i := 395) (by decide +kernel))) (by decide +kernel)
theorem cwv_X2_60 : CWv RX2 60 yX2_isFree cX2_isFree 2 (some .boolean) 1 := ⟨wd19, wd20, wd21, wd17, wd22, (by decide +kernel), (by decide +kernel), (by decide +kernel), (by decide +kernel)⟩
theorem wd23 : Cond.fieldLink RX2 9 RX2 "face" "I" ∈ gw := gw_of (List.mem_append_right _ (List.mem_of_getElem? (i := 30) (by decide +kernel))) (by decide +kernel)
theorem wd24 : Cond.methodLink RX2 67 yJ9_abs_0f7a4 ∈ gw := gw_of (List.mem_append_right _ (List.mem_of_getElem? (i := 442) (by decide +kernel))) (by decide +kernel)
theorem wd25 : Cond.methodLink RX2 73 yJ9_min_7cf53 ∈ gw := gw_of (List.mem_append_right _ (List.mem_of_getElem? (i := 445) (by decide +kernel))) (by decide +kernel)
theorem wd26 : Cond.methodLink RX2 63 yX2_awayOf ∈ gw := gw_of (List.mem_append_right _ (List.mem_of_getElem? (i := 450) (by decide +kernel))) (by decide +kernel)
theorem wd27 : Cond.static yX2_awayOf ∈ gw := gw_of (List.mem_append_right _ (List.mem_of_getElem? (i := 440) (by decide +kernel))) (by decide +kernel)
theorem wd28 : Cond.code yX2_awayOf cX2_awayOf 3 (some .int) ∈ gw := gw_of (List.mem_append_right _ (List.mem_of_getElem? (i := 441) (by decide +kernel))) (by decide +kernel)
theorem cws_X2_63 : CWs RX2 63 yX2_awayOf cX2_awayOf 3 (some .int) 2 := ⟨wd26, wd27, wd17, wd28, (by decide +kernel), (by decide +kernel), (by decide +kernel), (by decide +kernel)⟩
theorem wd29 : Cond.methodLink RX2 76 yX2_sideOf ∈ gw := gw_of (List.mem_append_right _ (List.mem_of_getElem? (i := 405) (by decide +kernel))) (by decide +kernel)
theorem wd30 : Cond.instanceMethod yX2_sideOf ∈ gw := gw_of (List.mem_append_right _ (List.mem_of_getElem? (i := 406) (by decide +kernel))) (by decide +kernel)
theorem wd31 : Cond.selects RX2 yX2_sideOf yX2_sideOf ∈ gw := gw_of (List.mem_append_right _ (List.mem_of_getElem? (i := 407) (by decide +kernel))) (by decide +kernel)
theorem wd32 : Cond.code yX2_sideOf cX2_sideOf 2 (some .int) ∈ gw := gw_of (List.mem_append_right _ (List.mem_of_getElem? (i := 408) (by decide +kernel))) (by decide +kernel)
theorem cwv_X2_76 : CWv RX2 76 yX2_sideOf cX2_sideOf 2 (some .int) 1 := ⟨wd29, wd30, wd31, wd17, wd32, (by decide +kernel), (by decide +kernel), (by decide +kernel), (by decide +kernel)⟩
theorem wd33 : Cond.fieldLink RX2 15 RX2 "lamp" "I" ∈ gw := gw_of (List.mem_append_right _ (List.mem_of_getElem? (i := 32) (by decide +kernel))) (by decide +kernel)
theorem wd34 : Cond.fieldLink RX2 18 RX2 "stove" "I" ∈ gw := gw_of (List.mem_append_right _ (List.mem_of_getElem? (i := 35) (by decide +kernel))) (by decide +kernel)
theorem wd35 : Cond.fieldLink RX2 21 RX2 "pose" "I" ∈ gw := gw_of (List.mem_append_right _ (List.mem_of_getElem? (i := 38) (by decide +kernel))) (by decide +kernel)
theorem wd36 : Cond.constant RX2 79 (-99999) ∈ gw := gw_of (List.mem_append_right _ (List.mem_of_getElem? (i := 539) (by decide +kernel))) (by decide +kernel)
theorem wd37 : Cond.constant RX2 80 (99999) ∈ gw := gw_of (List.mem_append_right _ (List.mem_of_getElem? (i := 540) (by decide +kernel))) (by decide +kernel)
theorem wd38 : Cond.static yX6_within ∈ gw := gw_of (List.mem_append_right _ (List.mem_of_getElem? (i := 462) (by decide +kernel))) (by decide +kernel)
theorem wd39 : Cond.code yX6_within cX6_within 3 (some .int) ∈ gw := gw_of (List.mem_append_right _ (List.mem_of_getElem? (i := 463) (by decide +kernel))) (by decide +kernel)
theorem cwn_X2_81 : CWn RX2 RX6 81 yX6_within cX6_within 3 (some .int) 3 := ⟨by decide +kernel, wd38, wd12, wd39, (by decide +kernel), (by decide +kernel), (by decide +kernel), (by decide +kernel)⟩
theorem wd40 : Cond.methodLink RX2 85 yX2_leastPleased ∈ gw := gw_of (List.mem_append_right _ (List.mem_of_getElem? (i := 585) (by decide +kernel))) (by decide +kernel)
theorem wd41 : Cond.instanceMethod yX2_leastPleased ∈ gw := gw_of (List.mem_append_right _ (List.mem_of_getElem? (i := 586) (by decide +kernel))) (by decide +kernel)
theorem wd42 : Cond.selects RX2 yX2_leastPleased yX2_leastPleased ∈ gw := gw_of (List.mem_append_right _ (List.mem_of_getElem? (i := 587) (by decide +kernel))) (by decide +kernel)
theorem wd43 : Cond.code yX2_leastPleased cX2_leastPleased 3 (some .int) ∈ gw := gw_of (List.mem_append_right _ (List.mem_of_getElem? (i := 588) (by decide +kernel))) (by decide +kernel)
theorem cwv_X2_85 : CWv RX2 85 yX2_leastPleased cX2_leastPleased 3 (some .int) 0 := ⟨wd40, wd41, wd42, wd17, wd43, (by decide +kernel), (by decide +kernel), (by decide +kernel), (by decide +kernel)⟩
theorem wd44 : Cond.fieldLink RX2 24 RX2 "rule" "I" ∈ gw := gw_of (List.mem_append_right _ (List.mem_of_getElem? (i := 41) (by decide +kernel))) (by decide +kernel)
theorem wd45 : Cond.methodLink RX2 46 (⟨"java/lang/System", "arraycopy", "(Ljava/lang/Object;ILjava/lang/Object;II)V"⟩ : MethodName) ∈ gw := gw_of (List.mem_append_right _ (List.mem_of_getElem? (i := 573) (by decide +kernel))) (by decide +kernel)
theorem xinX3 : ∀ w ∈ u_ws RX3 TX3 3, w ∈ gw := by
  have h : (u_ws RX3 TX3 3).all (fun w => decide (w ∈ lw_tbl) && goodWord w) = true := by decide +kernel
  intro w hw
  have h1 := List.all_eq_true.mp h w hw
  simp only [Bool.and_eq_true, decide_eq_true_eq] at h1
  exact gw_of h1.1 h1.2
theorem wd46 : Cond.fieldLink RX3 9 RX3 "sort" "I" ∈ gw := gw_of (List.mem_append_right _ (List.mem_of_getElem? (i := 167) (by decide +kernel))) (by decide +kernel)
theorem wd47 : Cond.fieldLink RX3 15 RX3 "size" "I" ∈ gw := gw_of (List.mem_append_right _ (List.mem_of_getElem? (i := 169) (by decide +kernel))) (by decide +kernel)
theorem wd48 : Cond.fieldLink RX3 18 RX3 "items" "[I" ∈ gw := gw_of (List.mem_append_right _ (List.mem_of_getElem? (i := 171) (by decide +kernel))) (by decide +kernel)
theorem wd49 : Cond.methodLink RX3 22 yJ7_fill_53178 ∈ gw := gw_of (List.mem_append_right _ (List.mem_of_getElem? (i := 682) (by decide +kernel))) (by decide +kernel)
theorem wd50 : Cond.static yJ7_fill_53178 ∈ gw := gw_of (List.mem_append_right _ (List.mem_of_getElem? (i := 575) (by decide +kernel))) (by decide +kernel)
theorem wd51 : Cond.initialized RJ7 ∈ gw := gw_of (List.mem_append_right _ (List.mem_of_getElem? (i := 12) (by decide +kernel))) (by decide +kernel)
theorem wd52 : Cond.code yJ7_fill_53178 cJ7_fill_53178 4 none ∈ gw := gw_of (List.mem_append_right _ (List.mem_of_getElem? (i := 576) (by decide +kernel))) (by decide +kernel)
theorem cws_X3_22 : CWs RX3 22 yJ7_fill_53178 cJ7_fill_53178 4 none 2 := ⟨wd49, wd50, wd51, wd52, (by decide +kernel), (by decide +kernel), (by decide +kernel), (by decide +kernel)⟩
theorem xinX5 : ∀ w ∈ u_ws RX5 TX5 2, w ∈ gw := by
  have h : (u_ws RX5 TX5 2).all (fun w => decide (w ∈ lw_tbl) && goodWord w) = true := by decide +kernel
  intro w hw
  have h1 := List.all_eq_true.mp h w hw
  simp only [Bool.and_eq_true, decide_eq_true_eq] at h1
  exact gw_of h1.1 h1.2
theorem wd53 : Cond.fieldLink RX5 15 RX5 "ends" "[I" ∈ gw := gw_of (List.mem_append_right _ (List.mem_of_getElem? (i := 335) (by decide +kernel))) (by decide +kernel)
theorem wd54 : Cond.fieldLink RX5 9 RX5 "code" "[I" ∈ gw := gw_of (List.mem_append_right _ (List.mem_of_getElem? (i := 334) (by decide +kernel))) (by decide +kernel)
theorem wd55 : Cond.methodLink RX5 18 yX5_turned ∈ gw := gw_of (List.mem_append_right _ (List.mem_of_getElem? (i := 455) (by decide +kernel))) (by decide +kernel)
theorem wd56 : Cond.static yX5_turned ∈ gw := gw_of (List.mem_append_right _ (List.mem_of_getElem? (i := 456) (by decide +kernel))) (by decide +kernel)
theorem wd57 : Cond.initialized RX5 ∈ gw := gw_of (List.mem_append_right _ (List.mem_of_getElem? (i := 11) (by decide +kernel))) (by decide +kernel)
theorem wd58 : Cond.code yX5_turned cX5_turned 2 (some .int) ∈ gw := gw_of (List.mem_append_right _ (List.mem_of_getElem? (i := 457) (by decide +kernel))) (by decide +kernel)
theorem cws_X5_18 : CWs RX5 18 yX5_turned cX5_turned 2 (some .int) 2 := ⟨wd55, wd56, wd57, wd58, (by decide +kernel), (by decide +kernel), (by decide +kernel), (by decide +kernel)⟩
theorem wd59 : Cond.methodLink RX5 22 yX5_joined ∈ gw := gw_of (List.mem_append_right _ (List.mem_of_getElem? (i := 458) (by decide +kernel))) (by decide +kernel)
theorem wd60 : Cond.static yX5_joined ∈ gw := gw_of (List.mem_append_right _ (List.mem_of_getElem? (i := 459) (by decide +kernel))) (by decide +kernel)
theorem wd61 : Cond.code yX5_joined cX5_joined 3 (some .int) ∈ gw := gw_of (List.mem_append_right _ (List.mem_of_getElem? (i := 460) (by decide +kernel))) (by decide +kernel)
theorem cws_X5_22 : CWs RX5 22 yX5_joined cX5_joined 3 (some .int) 3 := ⟨wd59, wd60, wd57, wd61, (by decide +kernel), (by decide +kernel), (by decide +kernel), (by decide +kernel)⟩
theorem wd62 : Cond.methodLink RX6 325 yJ9_abs_0f7a4 ∈ gw := gw_of (List.mem_append_right _ (List.mem_of_getElem? (i := 622) (by decide +kernel))) (by decide +kernel)
theorem wd63 : Cond.constantLong RX6 227 (-4611686018427387904) ∈ gw := gw_of (List.mem_append_right _ (List.mem_of_getElem? (i := 618) (by decide +kernel))) (by decide +kernel)
theorem xinX4 : ∀ w ∈ u_ws RX4 TX4 5, w ∈ gw := by
  have h : (u_ws RX4 TX4 5).all (fun w => decide (w ∈ lw_tbl) && goodWord w) = true := by decide +kernel
  intro w hw
  have h1 := List.all_eq_true.mp h w hw
  simp only [Bool.and_eq_true, decide_eq_true_eq] at h1
  exact gw_of h1.1 h1.2
theorem wd64 : Cond.fieldLink RX4 9 RX4 "names" "[I" ∈ gw := gw_of (List.mem_append_right _ (List.mem_of_getElem? (i := 126) (by decide +kernel))) (by decide +kernel)
theorem wd65 : Cond.fieldLink RX4 18 RX4 "views" "I" ∈ gw := gw_of (List.mem_append_right _ (List.mem_of_getElem? (i := 129) (by decide +kernel))) (by decide +kernel)
theorem wd66 : Cond.methodLink RX4 78 yX4_leftView ∈ gw := gw_of (List.mem_append_right _ (List.mem_of_getElem? (i := 476) (by decide +kernel))) (by decide +kernel)
theorem wd67 : Cond.instanceMethod yX4_leftView ∈ gw := gw_of (List.mem_append_right _ (List.mem_of_getElem? (i := 478) (by decide +kernel))) (by decide +kernel)
theorem wd68 : Cond.selects RX4 yX4_leftView yX4_leftView ∈ gw := gw_of (List.mem_append_left _ (List.mem_of_getElem? (i := 16) (by decide +kernel))) (by decide +kernel)
theorem wd69 : Cond.initialized RX4 ∈ gw := gw_of (List.mem_append_right _ (List.mem_of_getElem? (i := 4) (by decide +kernel))) (by decide +kernel)
theorem wd70 : Cond.code yX4_leftView cX4_leftView 1 (some .int) ∈ gw := gw_of (List.mem_append_right _ (List.mem_of_getElem? (i := 479) (by decide +kernel))) (by decide +kernel)
theorem cwv_X4_78 : CWv RX4 78 yX4_leftView cX4_leftView 1 (some .int) 0 := ⟨wd66, wd67, wd68, wd69, wd70, (by decide +kernel), (by decide +kernel), (by decide +kernel), (by decide +kernel)⟩
theorem wd71 : Cond.methodLink RX4 82 yX4_tallView ∈ gw := gw_of (List.mem_append_right _ (List.mem_of_getElem? (i := 480) (by decide +kernel))) (by decide +kernel)
theorem wd72 : Cond.instanceMethod yX4_tallView ∈ gw := gw_of (List.mem_append_right _ (List.mem_of_getElem? (i := 482) (by decide +kernel))) (by decide +kernel)
theorem wd73 : Cond.selects RX4 yX4_tallView yX4_tallView ∈ gw := gw_of (List.mem_append_left _ (List.mem_of_getElem? (i := 17) (by decide +kernel))) (by decide +kernel)
theorem wd74 : Cond.code yX4_tallView cX4_tallView 1 (some .int) ∈ gw := gw_of (List.mem_append_right _ (List.mem_of_getElem? (i := 483) (by decide +kernel))) (by decide +kernel)
theorem cwv_X4_82 : CWv RX4 82 yX4_tallView cX4_tallView 1 (some .int) 0 := ⟨wd71, wd72, wd73, wd69, wd74, (by decide +kernel), (by decide +kernel), (by decide +kernel), (by decide +kernel)⟩
theorem wd75 : Cond.methodLink RX4 69 yX4_freeView ∈ gw := gw_of (List.mem_append_right _ (List.mem_of_getElem? (i := 472) (by decide +kernel))) (by decide +kernel)
theorem wd76 : Cond.instanceMethod yX4_freeView ∈ gw := gw_of (List.mem_append_right _ (List.mem_of_getElem? (i := 474) (by decide +kernel))) (by decide +kernel)
theorem wd77 : Cond.selects RX4 yX4_freeView yX4_freeView ∈ gw := gw_of (List.mem_append_left _ (List.mem_of_getElem? (i := 15) (by decide +kernel))) (by decide +kernel)
theorem wd78 : Cond.code yX4_freeView cX4_freeView 2 (some .int) ∈ gw := gw_of (List.mem_append_right _ (List.mem_of_getElem? (i := 475) (by decide +kernel))) (by decide +kernel)
theorem cwv_X4_69 : CWv RX4 69 yX4_freeView cX4_freeView 2 (some .int) 1 := ⟨wd75, wd76, wd77, wd69, wd78, (by decide +kernel), (by decide +kernel), (by decide +kernel), (by decide +kernel)⟩
theorem cwn_X4_65 : CWn RX4 RX6 65 yX6_within cX6_within 3 (some .int) 3 := ⟨by decide +kernel, wd38, wd12, wd39, (by decide +kernel), (by decide +kernel), (by decide +kernel), (by decide +kernel)⟩
theorem wd79 : Cond.fieldLink RX4 22 RX4 "warms" "I" ∈ gw := gw_of (List.mem_append_right _ (List.mem_of_getElem? (i := 130) (by decide +kernel))) (by decide +kernel)
theorem wd80 : Cond.methodLink RX4 85 yX4_tallWarmth ∈ gw := gw_of (List.mem_append_right _ (List.mem_of_getElem? (i := 492) (by decide +kernel))) (by decide +kernel)
theorem wd81 : Cond.instanceMethod yX4_tallWarmth ∈ gw := gw_of (List.mem_append_right _ (List.mem_of_getElem? (i := 494) (by decide +kernel))) (by decide +kernel)
theorem wd82 : Cond.selects RX4 yX4_tallWarmth yX4_tallWarmth ∈ gw := gw_of (List.mem_append_left _ (List.mem_of_getElem? (i := 19) (by decide +kernel))) (by decide +kernel)
theorem wd83 : Cond.code yX4_tallWarmth cX4_tallWarmth 1 (some .int) ∈ gw := gw_of (List.mem_append_right _ (List.mem_of_getElem? (i := 495) (by decide +kernel))) (by decide +kernel)
theorem cwv_X4_85 : CWv RX4 85 yX4_tallWarmth cX4_tallWarmth 1 (some .int) 0 := ⟨wd80, wd81, wd82, wd69, wd83, (by decide +kernel), (by decide +kernel), (by decide +kernel), (by decide +kernel)⟩
theorem wd84 : Cond.methodLink RX4 72 yX4_freeWarmth ∈ gw := gw_of (List.mem_append_right _ (List.mem_of_getElem? (i := 488) (by decide +kernel))) (by decide +kernel)
theorem wd85 : Cond.instanceMethod yX4_freeWarmth ∈ gw := gw_of (List.mem_append_right _ (List.mem_of_getElem? (i := 490) (by decide +kernel))) (by decide +kernel)
theorem wd86 : Cond.selects RX4 yX4_freeWarmth yX4_freeWarmth ∈ gw := gw_of (List.mem_append_left _ (List.mem_of_getElem? (i := 18) (by decide +kernel))) (by decide +kernel)
theorem wd87 : Cond.code yX4_freeWarmth cX4_freeWarmth 2 (some .int) ∈ gw := gw_of (List.mem_append_right _ (List.mem_of_getElem? (i := 491) (by decide +kernel))) (by decide +kernel)
theorem cwv_X4_72 : CWv RX4 72 yX4_freeWarmth cX4_freeWarmth 2 (some .int) 1 := ⟨wd84, wd85, wd86, wd69, wd87, (by decide +kernel), (by decide +kernel), (by decide +kernel), (by decide +kernel)⟩
theorem wd88 : Cond.fieldLink RX4 25 RX4 "minds" "I" ∈ gw := gw_of (List.mem_append_right _ (List.mem_of_getElem? (i := 131) (by decide +kernel))) (by decide +kernel)
theorem wd89 : Cond.methodLink RX4 75 yX4_freeMinding ∈ gw := gw_of (List.mem_append_right _ (List.mem_of_getElem? (i := 500) (by decide +kernel))) (by decide +kernel)
theorem wd90 : Cond.instanceMethod yX4_freeMinding ∈ gw := gw_of (List.mem_append_right _ (List.mem_of_getElem? (i := 502) (by decide +kernel))) (by decide +kernel)
theorem wd91 : Cond.selects RX4 yX4_freeMinding yX4_freeMinding ∈ gw := gw_of (List.mem_append_left _ (List.mem_of_getElem? (i := 20) (by decide +kernel))) (by decide +kernel)
theorem wd92 : Cond.code yX4_freeMinding cX4_freeMinding 2 (some .int) ∈ gw := gw_of (List.mem_append_right _ (List.mem_of_getElem? (i := 503) (by decide +kernel))) (by decide +kernel)
theorem cwv_X4_75 : CWv RX4 75 yX4_freeMinding cX4_freeMinding 2 (some .int) 1 := ⟨wd89, wd90, wd91, wd69, wd92, (by decide +kernel), (by decide +kernel), (by decide +kernel), (by decide +kernel)⟩
theorem xinX1 : ∀ w ∈ u_ws RX1 TX1 9, w ∈ gw := by
  have h : (u_ws RX1 TX1 9).all (fun w => decide (w ∈ lw_tbl) && goodWord w) = true := by decide +kernel
  intro w hw
  have h1 := List.all_eq_true.mp h w hw
  simp only [Bool.and_eq_true, decide_eq_true_eq] at h1
  exact gw_of h1.1 h1.2
theorem wd93 : Cond.fieldLink RX1 9 RX1 "size" "I" ∈ gw := gw_of (List.mem_append_right _ (List.mem_of_getElem? (i := 88) (by decide +kernel))) (by decide +kernel)
theorem wd94 : Cond.fieldLink RX1 18 RX1 "tape" "[I" ∈ gw := gw_of (List.mem_append_right _ (List.mem_of_getElem? (i := 92) (by decide +kernel))) (by decide +kernel)
theorem wd95 : Cond.fieldLink RX1 28 RX1 "tokenAt" "I" ∈ gw := gw_of (List.mem_append_right _ (List.mem_of_getElem? (i := 95) (by decide +kernel))) (by decide +kernel)
theorem wd96 : Cond.fieldLink RX1 15 RX1 "fault" "I" ∈ gw := gw_of (List.mem_append_right _ (List.mem_of_getElem? (i := 90) (by decide +kernel))) (by decide +kernel)
theorem wd97 : Cond.fieldLink RX1 37 RX1 "codeSize" "I" ∈ gw := gw_of (List.mem_append_right _ (List.mem_of_getElem? (i := 98) (by decide +kernel))) (by decide +kernel)
theorem wd98 : Cond.fieldLink RX1 34 RX1 "code" "[I" ∈ gw := gw_of (List.mem_append_right _ (List.mem_of_getElem? (i := 97) (by decide +kernel))) (by decide +kernel)
theorem wd99 : Cond.fieldLink RX1 25 RX1 "token" "I" ∈ gw := gw_of (List.mem_append_right _ (List.mem_of_getElem? (i := 94) (by decide +kernel))) (by decide +kernel)
theorem wd100 : Cond.fieldLink RX1 31 RX1 "value" "I" ∈ gw := gw_of (List.mem_append_right _ (List.mem_of_getElem? (i := 96) (by decide +kernel))) (by decide +kernel)
theorem wd101 : Cond.fieldLink RX1 22 RX1 "at" "I" ∈ gw := gw_of (List.mem_append_right _ (List.mem_of_getElem? (i := 93) (by decide +kernel))) (by decide +kernel)
theorem wd102 : Cond.methodLink RX1 89 yX1_isDigit ∈ gw := gw_of (List.mem_append_right _ (List.mem_of_getElem? (i := 266) (by decide +kernel))) (by decide +kernel)
theorem wd103 : Cond.static yX1_isDigit ∈ gw := gw_of (List.mem_append_right _ (List.mem_of_getElem? (i := 267) (by decide +kernel))) (by decide +kernel)
theorem wd104 : Cond.initialized RX1 ∈ gw := gw_of (List.mem_append_right _ (List.mem_of_getElem? (i := 3) (by decide +kernel))) (by decide +kernel)
theorem wd105 : Cond.code yX1_isDigit cX1_isDigit 1 (some .boolean) ∈ gw := gw_of (List.mem_append_right _ (List.mem_of_getElem? (i := 268) (by decide +kernel))) (by decide +kernel)
theorem cws_X1_89 : CWs RX1 89 yX1_isDigit cX1_isDigit 1 (some .boolean) 1 := ⟨wd102, wd103, wd104, wd105, (by decide +kernel), (by decide +kernel), (by decide +kernel), (by decide +kernel)⟩
theorem xinX7 : ∀ w ∈ u_ws RX7 TX7 39, w ∈ gw := by
  have h : (u_ws RX7 TX7 39).all (fun w => decide (w ∈ lw_tbl) && goodWord w) = true := by decide +kernel
  intro w hw
  have h1 := List.all_eq_true.mp h w hw
  simp only [Bool.and_eq_true, decide_eq_true_eq] at h1
  exact gw_of h1.1 h1.2
theorem wd106 : Cond.fieldLink RX7 13 RX7 "texts" "[I" ∈ gw := gw_of (List.mem_append_right _ (List.mem_of_getElem? (i := 758) (by decide +kernel))) (by decide +kernel)
theorem wd107 : Cond.fieldLink RX7 70 RX7 "many" "I" ∈ gw := gw_of (List.mem_append_right _ (List.mem_of_getElem? (i := 767) (by decide +kernel))) (by decide +kernel)
theorem wd108 : Cond.methodLink RX7 73 yX7_in ∈ gw := gw_of (List.mem_append_right _ (List.mem_of_getElem? (i := 881) (by decide +kernel))) (by decide +kernel)
theorem wd109 : Cond.static yX7_in ∈ gw := gw_of (List.mem_append_right _ (List.mem_of_getElem? (i := 882) (by decide +kernel))) (by decide +kernel)
theorem wd110 : Cond.initialized RX7 ∈ gw := gw_of (List.mem_append_right _ (List.mem_of_getElem? (i := 15) (by decide +kernel))) (by decide +kernel)
theorem wd111 : Cond.code yX7_in cX7_in 6 (some .boolean) ∈ gw := gw_of (List.mem_append_right _ (List.mem_of_getElem? (i := 883) (by decide +kernel))) (by decide +kernel)
theorem cws_X7_73 : CWs RX7 73 yX7_in cX7_in 6 (some .boolean) 3 := ⟨wd108, wd109, wd110, wd111, (by decide +kernel), (by decide +kernel), (by decide +kernel), (by decide +kernel)⟩
theorem wd112 : Cond.constantLong RX7 77 (10) ∈ gw := gw_of (List.mem_append_right _ (List.mem_of_getElem? (i := 899) (by decide +kernel))) (by decide +kernel)
theorem wd113 : Cond.fieldLink RX7 29 RX7 "rows" "[I" ∈ gw := gw_of (List.mem_append_right _ (List.mem_of_getElem? (i := 766) (by decide +kernel))) (by decide +kernel)
theorem wd114 : Cond.methodLink RX7 79 yX7_isEasel ∈ gw := gw_of (List.mem_append_right _ (List.mem_of_getElem? (i := 896) (by decide +kernel))) (by decide +kernel)
theorem wd115 : Cond.static yX7_isEasel ∈ gw := gw_of (List.mem_append_right _ (List.mem_of_getElem? (i := 897) (by decide +kernel))) (by decide +kernel)
theorem wd116 : Cond.code yX7_isEasel cX7_isEasel 1 (some .boolean) ∈ gw := gw_of (List.mem_append_right _ (List.mem_of_getElem? (i := 898) (by decide +kernel))) (by decide +kernel)
theorem cws_X7_79 : CWs RX7 79 yX7_isEasel cX7_isEasel 1 (some .boolean) 1 := ⟨wd114, wd115, wd110, wd116, (by decide +kernel), (by decide +kernel), (by decide +kernel), (by decide +kernel)⟩
theorem wd117 : Cond.methodLink RX7 83 yX7_whoAt ∈ gw := gw_of (List.mem_append_right _ (List.mem_of_getElem? (i := 900) (by decide +kernel))) (by decide +kernel)
theorem wd118 : Cond.instanceMethod yX7_whoAt ∈ gw := gw_of (List.mem_append_right _ (List.mem_of_getElem? (i := 902) (by decide +kernel))) (by decide +kernel)
theorem wd119 : Cond.selects RX7 yX7_whoAt yX7_whoAt ∈ gw := gw_of (List.mem_append_left _ (List.mem_of_getElem? (i := 38) (by decide +kernel))) (by decide +kernel)
theorem wd120 : Cond.code yX7_whoAt cX7_whoAt 3 (some .int) ∈ gw := gw_of (List.mem_append_right _ (List.mem_of_getElem? (i := 903) (by decide +kernel))) (by decide +kernel)
theorem cwv_X7_83 : CWv RX7 83 yX7_whoAt cX7_whoAt 3 (some .int) 1 := ⟨wd117, wd118, wd119, wd110, wd120, (by decide +kernel), (by decide +kernel), (by decide +kernel), (by decide +kernel)⟩
theorem wd121 : Cond.constantLong RX7 93 (9) ∈ gw := gw_of (List.mem_append_right _ (List.mem_of_getElem? (i := 905) (by decide +kernel))) (by decide +kernel)
theorem wd122 : Cond.constantLong RX7 91 (999) ∈ gw := gw_of (List.mem_append_right _ (List.mem_of_getElem? (i := 904) (by decide +kernel))) (by decide +kernel)
theorem wd123 : Cond.methodLink RX7 87 yX7_isFreeFor ∈ gw := gw_of (List.mem_append_right _ (List.mem_of_getElem? (i := 892) (by decide +kernel))) (by decide +kernel)
theorem wd124 : Cond.instanceMethod yX7_isFreeFor ∈ gw := gw_of (List.mem_append_right _ (List.mem_of_getElem? (i := 894) (by decide +kernel))) (by decide +kernel)
theorem wd125 : Cond.selects RX7 yX7_isFreeFor yX7_isFreeFor ∈ gw := gw_of (List.mem_append_left _ (List.mem_of_getElem? (i := 37) (by decide +kernel))) (by decide +kernel)
theorem wd126 : Cond.code yX7_isFreeFor cX7_isFreeFor 3 (some .boolean) ∈ gw := gw_of (List.mem_append_right _ (List.mem_of_getElem? (i := 895) (by decide +kernel))) (by decide +kernel)
theorem cwv_X7_87 : CWv RX7 87 yX7_isFreeFor cX7_isFreeFor 3 (some .boolean) 2 := ⟨wd123, wd124, wd125, wd110, wd126, (by decide +kernel), (by decide +kernel), (by decide +kernel), (by decide +kernel)⟩
theorem wd127 : Cond.fieldLink RX7 112 RX7 "rule" "I" ∈ gw := gw_of (List.mem_append_right _ (List.mem_of_getElem? (i := 761) (by decide +kernel))) (by decide +kernel)
theorem wd128 : Cond.fieldLink RX7 26 RX7 "kinds" "[I" ∈ gw := gw_of (List.mem_append_right _ (List.mem_of_getElem? (i := 765) (by decide +kernel))) (by decide +kernel)
theorem wd129 : Cond.fieldLink RX7 23 RX7 "room" "[I" ∈ gw := gw_of (List.mem_append_right _ (List.mem_of_getElem? (i := 764) (by decide +kernel))) (by decide +kernel)
theorem wd130 : Cond.constantLong RX7 95 (5) ∈ gw := gw_of (List.mem_append_right _ (List.mem_of_getElem? (i := 880) (by decide +kernel))) (by decide +kernel)
theorem wd131 : Cond.constantLong RX7 136 (255) ∈ gw := gw_of (List.mem_append_right _ (List.mem_of_getElem? (i := 1156) (by decide +kernel))) (by decide +kernel)
theorem wd132 : Cond.fieldLink RX7 138 RX7 "taped" "I" ∈ gw := gw_of (List.mem_append_right _ (List.mem_of_getElem? (i := 763) (by decide +kernel))) (by decide +kernel)
theorem wd133 : Cond.fieldLink RX7 20 RX7 "tape" "[I" ∈ gw := gw_of (List.mem_append_right _ (List.mem_of_getElem? (i := 762) (by decide +kernel))) (by decide +kernel)
theorem wd134 : Cond.fieldLink RX7 141 RX7 "size" "I" ∈ gw := gw_of (List.mem_append_right _ (List.mem_of_getElem? (i := 775) (by decide +kernel))) (by decide +kernel)
theorem wd135 : Cond.fieldLink RX7 144 RX7 "from" "I" ∈ gw := gw_of (List.mem_append_right _ (List.mem_of_getElem? (i := 774) (by decide +kernel))) (by decide +kernel)
theorem wd136 : Cond.fieldLink RX7 147 RX7 "here" "I" ∈ gw := gw_of (List.mem_append_right _ (List.mem_of_getElem? (i := 776) (by decide +kernel))) (by decide +kernel)
theorem wd137 : Cond.methodLink RX7 150 yX7_byteAt ∈ gw := gw_of (List.mem_append_right _ (List.mem_of_getElem? (i := 946) (by decide +kernel))) (by decide +kernel)
theorem wd138 : Cond.instanceMethod yX7_byteAt ∈ gw := gw_of (List.mem_append_right _ (List.mem_of_getElem? (i := 948) (by decide +kernel))) (by decide +kernel)
theorem wd139 : Cond.selects RX7 yX7_byteAt yX7_byteAt ∈ gw := gw_of (List.mem_append_left _ (List.mem_of_getElem? (i := 46) (by decide +kernel))) (by decide +kernel)
theorem wd140 : Cond.code yX7_byteAt cX7_byteAt 2 (some .int) ∈ gw := gw_of (List.mem_append_right _ (List.mem_of_getElem? (i := 949) (by decide +kernel))) (by decide +kernel)
theorem cwv_X7_150 : CWv RX7 150 yX7_byteAt cX7_byteAt 2 (some .int) 1 := ⟨wd137, wd138, wd139, wd110, wd140, (by decide +kernel), (by decide +kernel), (by decide +kernel), (by decide +kernel)⟩
theorem wd141 : Cond.fieldLink RX7 153 RX7 "tokenAt" "I" ∈ gw := gw_of (List.mem_append_right _ (List.mem_of_getElem? (i := 778) (by decide +kernel))) (by decide +kernel)
theorem wd142 : Cond.fieldLink RX7 156 RX7 "token" "I" ∈ gw := gw_of (List.mem_append_right _ (List.mem_of_getElem? (i := 777) (by decide +kernel))) (by decide +kernel)
theorem wd143 : Cond.constantLong RX7 159 (97) ∈ gw := gw_of (List.mem_append_right _ (List.mem_of_getElem? (i := 950) (by decide +kernel))) (by decide +kernel)
theorem wd144 : Cond.constantLong RX7 161 (122) ∈ gw := gw_of (List.mem_append_right _ (List.mem_of_getElem? (i := 951) (by decide +kernel))) (by decide +kernel)
theorem wd145 : Cond.constantLong RX7 163 (48) ∈ gw := gw_of (List.mem_append_right _ (List.mem_of_getElem? (i := 952) (by decide +kernel))) (by decide +kernel)
theorem wd146 : Cond.constantLong RX7 165 (57) ∈ gw := gw_of (List.mem_append_right _ (List.mem_of_getElem? (i := 953) (by decide +kernel))) (by decide +kernel)
theorem wd147 : Cond.fieldLink RX7 167 RX7 "tokenWorth" "J" ∈ gw := gw_of (List.mem_append_right _ (List.mem_of_getElem? (i := 779) (by decide +kernel))) (by decide +kernel)
theorem wd148 : Cond.fieldLink RX7 171 RX7 "bad" "Z" ∈ gw := gw_of (List.mem_append_right _ (List.mem_of_getElem? (i := 781) (by decide +kernel))) (by decide +kernel)
theorem wd149 : Cond.fieldLink RX7 175 RX7 "fault" "I" ∈ gw := gw_of (List.mem_append_right _ (List.mem_of_getElem? (i := 782) (by decide +kernel))) (by decide +kernel)
theorem wd150 : Cond.methodLink RX7 178 yX7_isLetter ∈ gw := gw_of (List.mem_append_right _ (List.mem_of_getElem? (i := 958) (by decide +kernel))) (by decide +kernel)
theorem wd151 : Cond.instanceMethod yX7_isLetter ∈ gw := gw_of (List.mem_append_right _ (List.mem_of_getElem? (i := 960) (by decide +kernel))) (by decide +kernel)
theorem wd152 : Cond.selects RX7 yX7_isLetter yX7_isLetter ∈ gw := gw_of (List.mem_append_left _ (List.mem_of_getElem? (i := 48) (by decide +kernel))) (by decide +kernel)
theorem wd153 : Cond.code yX7_isLetter cX7_isLetter 3 (some .boolean) ∈ gw := gw_of (List.mem_append_right _ (List.mem_of_getElem? (i := 961) (by decide +kernel))) (by decide +kernel)
theorem cwv_X7_178 : CWv RX7 178 yX7_isLetter cX7_isLetter 3 (some .boolean) 2 := ⟨wd150, wd151, wd152, wd110, wd153, (by decide +kernel), (by decide +kernel), (by decide +kernel), (by decide +kernel)⟩
theorem wd154 : Cond.fieldLink RX7 181 RX7 "open" "I" ∈ gw := gw_of (List.mem_append_right _ (List.mem_of_getElem? (i := 780) (by decide +kernel))) (by decide +kernel)
theorem wd155 : Cond.methodLink RX7 187 yX7_next ∈ gw := gw_of (List.mem_append_right _ (List.mem_of_getElem? (i := 942) (by decide +kernel))) (by decide +kernel)
theorem wd156 : Cond.instanceMethod yX7_next ∈ gw := gw_of (List.mem_append_right _ (List.mem_of_getElem? (i := 944) (by decide +kernel))) (by decide +kernel)
theorem wd157 : Cond.selects RX7 yX7_next yX7_next ∈ gw := gw_of (List.mem_append_left _ (List.mem_of_getElem? (i := 45) (by decide +kernel))) (by decide +kernel)
theorem wd158 : Cond.code yX7_next cX7_next 3 none ∈ gw := gw_of (List.mem_append_right _ (List.mem_of_getElem? (i := 945) (by decide +kernel))) (by decide +kernel)
theorem cwv_X7_187 : CWv RX7 187 yX7_next cX7_next 3 none 0 := ⟨wd155, wd156, wd157, wd110, wd158, (by decide +kernel), (by decide +kernel), (by decide +kernel), (by decide +kernel)⟩
theorem wd159 : Cond.methodLink RX7 184 yX7_fail ∈ gw := gw_of (List.mem_append_right _ (List.mem_of_getElem? (i := 966) (by decide +kernel))) (by decide +kernel)
theorem wd160 : Cond.instanceMethod yX7_fail ∈ gw := gw_of (List.mem_append_right _ (List.mem_of_getElem? (i := 968) (by decide +kernel))) (by decide +kernel)
theorem wd161 : Cond.selects RX7 yX7_fail yX7_fail ∈ gw := gw_of (List.mem_append_left _ (List.mem_of_getElem? (i := 50) (by decide +kernel))) (by decide +kernel)
theorem wd162 : Cond.code yX7_fail cX7_fail 1 none ∈ gw := gw_of (List.mem_append_right _ (List.mem_of_getElem? (i := 969) (by decide +kernel))) (by decide +kernel)
theorem cwv_X7_184 : CWv RX7 184 yX7_fail cX7_fail 1 none 0 := ⟨wd159, wd160, wd161, wd110, wd162, (by decide +kernel), (by decide +kernel), (by decide +kernel), (by decide +kernel)⟩
theorem wd163 : Cond.methodLink RX7 190 yX7_isWord ∈ gw := gw_of (List.mem_append_right _ (List.mem_of_getElem? (i := 954) (by decide +kernel))) (by decide +kernel)
theorem wd164 : Cond.instanceMethod yX7_isWord ∈ gw := gw_of (List.mem_append_right _ (List.mem_of_getElem? (i := 956) (by decide +kernel))) (by decide +kernel)
theorem wd165 : Cond.selects RX7 yX7_isWord yX7_isWord ∈ gw := gw_of (List.mem_append_left _ (List.mem_of_getElem? (i := 47) (by decide +kernel))) (by decide +kernel)
theorem wd166 : Cond.code yX7_isWord cX7_isWord 9 (some .boolean) ∈ gw := gw_of (List.mem_append_right _ (List.mem_of_getElem? (i := 957) (by decide +kernel))) (by decide +kernel)
theorem cwv_X7_190 : CWv RX7 190 yX7_isWord cX7_isWord 9 (some .boolean) 8 := ⟨wd163, wd164, wd165, wd110, wd166, (by decide +kernel), (by decide +kernel), (by decide +kernel), (by decide +kernel)⟩
theorem wd167 : Cond.fieldLink RX7 209 RX7 "ofNear" "I" ∈ gw := gw_of (List.mem_append_right _ (List.mem_of_getElem? (i := 773) (by decide +kernel))) (by decide +kernel)
theorem wd168 : Cond.fieldLink RX7 206 RX7 "ofPose" "I" ∈ gw := gw_of (List.mem_append_right _ (List.mem_of_getElem? (i := 772) (by decide +kernel))) (by decide +kernel)
theorem wd169 : Cond.fieldLink RX7 203 RX7 "ofNumber" "I" ∈ gw := gw_of (List.mem_append_right _ (List.mem_of_getElem? (i := 771) (by decide +kernel))) (by decide +kernel)
theorem wd170 : Cond.fieldLink RX7 200 RX7 "ofStove" "I" ∈ gw := gw_of (List.mem_append_right _ (List.mem_of_getElem? (i := 770) (by decide +kernel))) (by decide +kernel)
theorem wd171 : Cond.fieldLink RX7 197 RX7 "ofLamp" "I" ∈ gw := gw_of (List.mem_append_right _ (List.mem_of_getElem? (i := 769) (by decide +kernel))) (by decide +kernel)
theorem wd172 : Cond.fieldLink RX7 194 RX7 "ofSide" "I" ∈ gw := gw_of (List.mem_append_right _ (List.mem_of_getElem? (i := 768) (by decide +kernel))) (by decide +kernel)
theorem wd173 : Cond.methodLink RX7 212 yX7_isSign ∈ gw := gw_of (List.mem_append_right _ (List.mem_of_getElem? (i := 1018) (by decide +kernel))) (by decide +kernel)
theorem wd174 : Cond.instanceMethod yX7_isSign ∈ gw := gw_of (List.mem_append_right _ (List.mem_of_getElem? (i := 1020) (by decide +kernel))) (by decide +kernel)
theorem wd175 : Cond.selects RX7 yX7_isSign yX7_isSign ∈ gw := gw_of (List.mem_append_left _ (List.mem_of_getElem? (i := 63) (by decide +kernel))) (by decide +kernel)
theorem wd176 : Cond.code yX7_isSign cX7_isSign 2 (some .boolean) ∈ gw := gw_of (List.mem_append_right _ (List.mem_of_getElem? (i := 1021) (by decide +kernel))) (by decide +kernel)
theorem cwv_X7_212 : CWv RX7 212 yX7_isSign cX7_isSign 2 (some .boolean) 1 := ⟨wd173, wd174, wd175, wd110, wd176, (by decide +kernel), (by decide +kernel), (by decide +kernel), (by decide +kernel)⟩
theorem wd177 : Cond.methodLink RX7 219 yX7_name ∈ gw := gw_of (List.mem_append_right _ (List.mem_of_getElem? (i := 1022) (by decide +kernel))) (by decide +kernel)
theorem wd178 : Cond.instanceMethod yX7_name ∈ gw := gw_of (List.mem_append_right _ (List.mem_of_getElem? (i := 1024) (by decide +kernel))) (by decide +kernel)
theorem wd179 : Cond.selects RX7 yX7_name yX7_name ∈ gw := gw_of (List.mem_append_left _ (List.mem_of_getElem? (i := 64) (by decide +kernel))) (by decide +kernel)
theorem wd180 : Cond.code yX7_name cX7_name 1 (some .int) ∈ gw := gw_of (List.mem_append_right _ (List.mem_of_getElem? (i := 1025) (by decide +kernel))) (by decide +kernel)
theorem cwv_X7_219 : CWv RX7 219 yX7_name cX7_name 1 (some .int) 0 := ⟨wd177, wd178, wd179, wd110, wd180, (by decide +kernel), (by decide +kernel), (by decide +kernel), (by decide +kernel)⟩
theorem wd181 : Cond.methodLink RX7 215 yX7_opens ∈ gw := gw_of (List.mem_append_right _ (List.mem_of_getElem? (i := 982) (by decide +kernel))) (by decide +kernel)
theorem wd182 : Cond.instanceMethod yX7_opens ∈ gw := gw_of (List.mem_append_right _ (List.mem_of_getElem? (i := 984) (by decide +kernel))) (by decide +kernel)
theorem wd183 : Cond.selects RX7 yX7_opens yX7_opens ∈ gw := gw_of (List.mem_append_left _ (List.mem_of_getElem? (i := 54) (by decide +kernel))) (by decide +kernel)
theorem wd184 : Cond.code yX7_opens cX7_opens 1 (some .boolean) ∈ gw := gw_of (List.mem_append_right _ (List.mem_of_getElem? (i := 985) (by decide +kernel))) (by decide +kernel)
theorem cwv_X7_215 : CWv RX7 215 yX7_opens cX7_opens 1 (some .boolean) 0 := ⟨wd181, wd182, wd183, wd110, wd184, (by decide +kernel), (by decide +kernel), (by decide +kernel), (by decide +kernel)⟩
theorem wd185 : Cond.methodLink RX7 223 yX7_atom5 ∈ gw := gw_of (List.mem_append_right _ (List.mem_of_getElem? (i := 1014) (by decide +kernel))) (by decide +kernel)
theorem wd186 : Cond.instanceMethod yX7_atom5 ∈ gw := gw_of (List.mem_append_right _ (List.mem_of_getElem? (i := 1016) (by decide +kernel))) (by decide +kernel)
theorem wd187 : Cond.selects RX7 yX7_atom5 yX7_atom5 ∈ gw := gw_of (List.mem_append_left _ (List.mem_of_getElem? (i := 62) (by decide +kernel))) (by decide +kernel)
theorem wd188 : Cond.code yX7_atom5 cX7_atom5 2 (some .int) ∈ gw := gw_of (List.mem_append_right _ (List.mem_of_getElem? (i := 1017) (by decide +kernel))) (by decide +kernel)
theorem cwv_X7_223 : CWv RX7 223 yX7_atom5 cX7_atom5 2 (some .int) 0 := ⟨wd185, wd186, wd187, wd110, wd188, (by decide +kernel), (by decide +kernel), (by decide +kernel), (by decide +kernel)⟩
theorem wd189 : Cond.methodLink RX7 226 yX7_term5 ∈ gw := gw_of (List.mem_append_right _ (List.mem_of_getElem? (i := 1010) (by decide +kernel))) (by decide +kernel)
theorem wd190 : Cond.instanceMethod yX7_term5 ∈ gw := gw_of (List.mem_append_right _ (List.mem_of_getElem? (i := 1012) (by decide +kernel))) (by decide +kernel)
theorem wd191 : Cond.selects RX7 yX7_term5 yX7_term5 ∈ gw := gw_of (List.mem_append_left _ (List.mem_of_getElem? (i := 61) (by decide +kernel))) (by decide +kernel)
theorem wd192 : Cond.code yX7_term5 cX7_term5 2 (some .int) ∈ gw := gw_of (List.mem_append_right _ (List.mem_of_getElem? (i := 1013) (by decide +kernel))) (by decide +kernel)
theorem cwv_X7_226 : CWv RX7 226 yX7_term5 cX7_term5 2 (some .int) 0 := ⟨wd189, wd190, wd191, wd110, wd192, (by decide +kernel), (by decide +kernel), (by decide +kernel), (by decide +kernel)⟩
theorem wd193 : Cond.constantLong RX7 229 (43) ∈ gw := gw_of (List.mem_append_right _ (List.mem_of_getElem? (i := 1026) (by decide +kernel))) (by decide +kernel)
theorem wd194 : Cond.methodLink RX7 231 yX7_added5 ∈ gw := gw_of (List.mem_append_right _ (List.mem_of_getElem? (i := 1006) (by decide +kernel))) (by decide +kernel)
theorem wd195 : Cond.instanceMethod yX7_added5 ∈ gw := gw_of (List.mem_append_right _ (List.mem_of_getElem? (i := 1008) (by decide +kernel))) (by decide +kernel)
theorem wd196 : Cond.selects RX7 yX7_added5 yX7_added5 ∈ gw := gw_of (List.mem_append_left _ (List.mem_of_getElem? (i := 60) (by decide +kernel))) (by decide +kernel)
theorem wd197 : Cond.code yX7_added5 cX7_added5 4 (some .int) ∈ gw := gw_of (List.mem_append_right _ (List.mem_of_getElem? (i := 1009) (by decide +kernel))) (by decide +kernel)
theorem cwv_X7_231 : CWv RX7 231 yX7_added5 cX7_added5 4 (some .int) 0 := ⟨wd194, wd195, wd196, wd110, wd197, (by decide +kernel), (by decide +kernel), (by decide +kernel), (by decide +kernel)⟩
theorem wd198 : Cond.constantLong RX7 234 (60) ∈ gw := gw_of (List.mem_append_right _ (List.mem_of_getElem? (i := 1027) (by decide +kernel))) (by decide +kernel)
theorem wd199 : Cond.methodLink RX7 236 yX7_not5 ∈ gw := gw_of (List.mem_append_right _ (List.mem_of_getElem? (i := 1002) (by decide +kernel))) (by decide +kernel)
theorem wd200 : Cond.instanceMethod yX7_not5 ∈ gw := gw_of (List.mem_append_right _ (List.mem_of_getElem? (i := 1004) (by decide +kernel))) (by decide +kernel)
theorem wd201 : Cond.selects RX7 yX7_not5 yX7_not5 ∈ gw := gw_of (List.mem_append_left _ (List.mem_of_getElem? (i := 59) (by decide +kernel))) (by decide +kernel)
theorem wd202 : Cond.code yX7_not5 cX7_not5 4 (some .int) ∈ gw := gw_of (List.mem_append_right _ (List.mem_of_getElem? (i := 1005) (by decide +kernel))) (by decide +kernel)
theorem cwv_X7_236 : CWv RX7 236 yX7_not5 cX7_not5 4 (some .int) 0 := ⟨wd199, wd200, wd201, wd110, wd202, (by decide +kernel), (by decide +kernel), (by decide +kernel), (by decide +kernel)⟩
theorem wd203 : Cond.methodLink RX7 239 yX7_both5 ∈ gw := gw_of (List.mem_append_right _ (List.mem_of_getElem? (i := 1044) (by decide +kernel))) (by decide +kernel)
theorem wd204 : Cond.instanceMethod yX7_both5 ∈ gw := gw_of (List.mem_append_right _ (List.mem_of_getElem? (i := 1046) (by decide +kernel))) (by decide +kernel)
theorem wd205 : Cond.selects RX7 yX7_both5 yX7_both5 ∈ gw := gw_of (List.mem_append_left _ (List.mem_of_getElem? (i := 69) (by decide +kernel))) (by decide +kernel)
theorem wd206 : Cond.code yX7_both5 cX7_both5 3 (some .int) ∈ gw := gw_of (List.mem_append_right _ (List.mem_of_getElem? (i := 1047) (by decide +kernel))) (by decide +kernel)
theorem cwv_X7_239 : CWv RX7 239 yX7_both5 cX7_both5 3 (some .int) 0 := ⟨wd203, wd204, wd205, wd110, wd206, (by decide +kernel), (by decide +kernel), (by decide +kernel), (by decide +kernel)⟩
theorem wd207 : Cond.methodLink RX7 242 yX7_either5 ∈ gw := gw_of (List.mem_append_right _ (List.mem_of_getElem? (i := 1040) (by decide +kernel))) (by decide +kernel)
theorem wd208 : Cond.instanceMethod yX7_either5 ∈ gw := gw_of (List.mem_append_right _ (List.mem_of_getElem? (i := 1042) (by decide +kernel))) (by decide +kernel)
theorem wd209 : Cond.selects RX7 yX7_either5 yX7_either5 ∈ gw := gw_of (List.mem_append_left _ (List.mem_of_getElem? (i := 68) (by decide +kernel))) (by decide +kernel)
theorem wd210 : Cond.code yX7_either5 cX7_either5 3 (some .int) ∈ gw := gw_of (List.mem_append_right _ (List.mem_of_getElem? (i := 1043) (by decide +kernel))) (by decide +kernel)
theorem cwv_X7_242 : CWv RX7 242 yX7_either5 cX7_either5 3 (some .int) 0 := ⟨wd207, wd208, wd209, wd110, wd210, (by decide +kernel), (by decide +kernel), (by decide +kernel), (by decide +kernel)⟩
theorem wd211 : Cond.methodLink RX7 245 yX7_atom4 ∈ gw := gw_of (List.mem_append_right _ (List.mem_of_getElem? (i := 1036) (by decide +kernel))) (by decide +kernel)
theorem wd212 : Cond.instanceMethod yX7_atom4 ∈ gw := gw_of (List.mem_append_right _ (List.mem_of_getElem? (i := 1038) (by decide +kernel))) (by decide +kernel)
theorem wd213 : Cond.selects RX7 yX7_atom4 yX7_atom4 ∈ gw := gw_of (List.mem_append_left _ (List.mem_of_getElem? (i := 67) (by decide +kernel))) (by decide +kernel)
theorem wd214 : Cond.code yX7_atom4 cX7_atom4 2 (some .int) ∈ gw := gw_of (List.mem_append_right _ (List.mem_of_getElem? (i := 1039) (by decide +kernel))) (by decide +kernel)
theorem cwv_X7_245 : CWv RX7 245 yX7_atom4 cX7_atom4 2 (some .int) 0 := ⟨wd211, wd212, wd213, wd110, wd214, (by decide +kernel), (by decide +kernel), (by decide +kernel), (by decide +kernel)⟩
theorem wd215 : Cond.methodLink RX7 248 yX7_term4 ∈ gw := gw_of (List.mem_append_right _ (List.mem_of_getElem? (i := 1032) (by decide +kernel))) (by decide +kernel)
theorem wd216 : Cond.instanceMethod yX7_term4 ∈ gw := gw_of (List.mem_append_right _ (List.mem_of_getElem? (i := 1034) (by decide +kernel))) (by decide +kernel)
theorem wd217 : Cond.selects RX7 yX7_term4 yX7_term4 ∈ gw := gw_of (List.mem_append_left _ (List.mem_of_getElem? (i := 66) (by decide +kernel))) (by decide +kernel)
theorem wd218 : Cond.code yX7_term4 cX7_term4 2 (some .int) ∈ gw := gw_of (List.mem_append_right _ (List.mem_of_getElem? (i := 1035) (by decide +kernel))) (by decide +kernel)
theorem cwv_X7_248 : CWv RX7 248 yX7_term4 cX7_term4 2 (some .int) 0 := ⟨wd215, wd216, wd217, wd110, wd218, (by decide +kernel), (by decide +kernel), (by decide +kernel), (by decide +kernel)⟩
theorem wd219 : Cond.methodLink RX7 251 yX7_added4 ∈ gw := gw_of (List.mem_append_right _ (List.mem_of_getElem? (i := 1028) (by decide +kernel))) (by decide +kernel)
theorem wd220 : Cond.instanceMethod yX7_added4 ∈ gw := gw_of (List.mem_append_right _ (List.mem_of_getElem? (i := 1030) (by decide +kernel))) (by decide +kernel)
theorem wd221 : Cond.selects RX7 yX7_added4 yX7_added4 ∈ gw := gw_of (List.mem_append_left _ (List.mem_of_getElem? (i := 65) (by decide +kernel))) (by decide +kernel)
theorem wd222 : Cond.code yX7_added4 cX7_added4 4 (some .int) ∈ gw := gw_of (List.mem_append_right _ (List.mem_of_getElem? (i := 1031) (by decide +kernel))) (by decide +kernel)
theorem cwv_X7_251 : CWv RX7 251 yX7_added4 cX7_added4 4 (some .int) 0 := ⟨wd219, wd220, wd221, wd110, wd222, (by decide +kernel), (by decide +kernel), (by decide +kernel), (by decide +kernel)⟩
theorem wd223 : Cond.methodLink RX7 254 yX7_not4 ∈ gw := gw_of (List.mem_append_right _ (List.mem_of_getElem? (i := 998) (by decide +kernel))) (by decide +kernel)
theorem wd224 : Cond.instanceMethod yX7_not4 ∈ gw := gw_of (List.mem_append_right _ (List.mem_of_getElem? (i := 1000) (by decide +kernel))) (by decide +kernel)
theorem wd225 : Cond.selects RX7 yX7_not4 yX7_not4 ∈ gw := gw_of (List.mem_append_left _ (List.mem_of_getElem? (i := 58) (by decide +kernel))) (by decide +kernel)
theorem wd226 : Cond.code yX7_not4 cX7_not4 4 (some .int) ∈ gw := gw_of (List.mem_append_right _ (List.mem_of_getElem? (i := 1001) (by decide +kernel))) (by decide +kernel)
theorem cwv_X7_254 : CWv RX7 254 yX7_not4 cX7_not4 4 (some .int) 0 := ⟨wd223, wd224, wd225, wd110, wd226, (by decide +kernel), (by decide +kernel), (by decide +kernel), (by decide +kernel)⟩
theorem wd227 : Cond.methodLink RX7 257 yX7_both4 ∈ gw := gw_of (List.mem_append_right _ (List.mem_of_getElem? (i := 1064) (by decide +kernel))) (by decide +kernel)
theorem wd228 : Cond.instanceMethod yX7_both4 ∈ gw := gw_of (List.mem_append_right _ (List.mem_of_getElem? (i := 1066) (by decide +kernel))) (by decide +kernel)
theorem wd229 : Cond.selects RX7 yX7_both4 yX7_both4 ∈ gw := gw_of (List.mem_append_left _ (List.mem_of_getElem? (i := 74) (by decide +kernel))) (by decide +kernel)
theorem wd230 : Cond.code yX7_both4 cX7_both4 3 (some .int) ∈ gw := gw_of (List.mem_append_right _ (List.mem_of_getElem? (i := 1067) (by decide +kernel))) (by decide +kernel)
theorem cwv_X7_257 : CWv RX7 257 yX7_both4 cX7_both4 3 (some .int) 0 := ⟨wd227, wd228, wd229, wd110, wd230, (by decide +kernel), (by decide +kernel), (by decide +kernel), (by decide +kernel)⟩
theorem wd231 : Cond.methodLink RX7 260 yX7_either4 ∈ gw := gw_of (List.mem_append_right _ (List.mem_of_getElem? (i := 1060) (by decide +kernel))) (by decide +kernel)
theorem wd232 : Cond.instanceMethod yX7_either4 ∈ gw := gw_of (List.mem_append_right _ (List.mem_of_getElem? (i := 1062) (by decide +kernel))) (by decide +kernel)
theorem wd233 : Cond.selects RX7 yX7_either4 yX7_either4 ∈ gw := gw_of (List.mem_append_left _ (List.mem_of_getElem? (i := 73) (by decide +kernel))) (by decide +kernel)
theorem wd234 : Cond.code yX7_either4 cX7_either4 3 (some .int) ∈ gw := gw_of (List.mem_append_right _ (List.mem_of_getElem? (i := 1063) (by decide +kernel))) (by decide +kernel)
theorem cwv_X7_260 : CWv RX7 260 yX7_either4 cX7_either4 3 (some .int) 0 := ⟨wd231, wd232, wd233, wd110, wd234, (by decide +kernel), (by decide +kernel), (by decide +kernel), (by decide +kernel)⟩
theorem wd235 : Cond.methodLink RX7 263 yX7_atom3 ∈ gw := gw_of (List.mem_append_right _ (List.mem_of_getElem? (i := 1056) (by decide +kernel))) (by decide +kernel)
theorem wd236 : Cond.instanceMethod yX7_atom3 ∈ gw := gw_of (List.mem_append_right _ (List.mem_of_getElem? (i := 1058) (by decide +kernel))) (by decide +kernel)
theorem wd237 : Cond.selects RX7 yX7_atom3 yX7_atom3 ∈ gw := gw_of (List.mem_append_left _ (List.mem_of_getElem? (i := 72) (by decide +kernel))) (by decide +kernel)
theorem wd238 : Cond.code yX7_atom3 cX7_atom3 2 (some .int) ∈ gw := gw_of (List.mem_append_right _ (List.mem_of_getElem? (i := 1059) (by decide +kernel))) (by decide +kernel)
theorem cwv_X7_263 : CWv RX7 263 yX7_atom3 cX7_atom3 2 (some .int) 0 := ⟨wd235, wd236, wd237, wd110, wd238, (by decide +kernel), (by decide +kernel), (by decide +kernel), (by decide +kernel)⟩
theorem wd239 : Cond.methodLink RX7 266 yX7_term3 ∈ gw := gw_of (List.mem_append_right _ (List.mem_of_getElem? (i := 1052) (by decide +kernel))) (by decide +kernel)
theorem wd240 : Cond.instanceMethod yX7_term3 ∈ gw := gw_of (List.mem_append_right _ (List.mem_of_getElem? (i := 1054) (by decide +kernel))) (by decide +kernel)
theorem wd241 : Cond.selects RX7 yX7_term3 yX7_term3 ∈ gw := gw_of (List.mem_append_left _ (List.mem_of_getElem? (i := 71) (by decide +kernel))) (by decide +kernel)
theorem wd242 : Cond.code yX7_term3 cX7_term3 2 (some .int) ∈ gw := gw_of (List.mem_append_right _ (List.mem_of_getElem? (i := 1055) (by decide +kernel))) (by decide +kernel)
theorem cwv_X7_266 : CWv RX7 266 yX7_term3 cX7_term3 2 (some .int) 0 := ⟨wd239, wd240, wd241, wd110, wd242, (by decide +kernel), (by decide +kernel), (by decide +kernel), (by decide +kernel)⟩
theorem wd243 : Cond.methodLink RX7 269 yX7_added3 ∈ gw := gw_of (List.mem_append_right _ (List.mem_of_getElem? (i := 1048) (by decide +kernel))) (by decide +kernel)
theorem wd244 : Cond.instanceMethod yX7_added3 ∈ gw := gw_of (List.mem_append_right _ (List.mem_of_getElem? (i := 1050) (by decide +kernel))) (by decide +kernel)
theorem wd245 : Cond.selects RX7 yX7_added3 yX7_added3 ∈ gw := gw_of (List.mem_append_left _ (List.mem_of_getElem? (i := 70) (by decide +kernel))) (by decide +kernel)
theorem wd246 : Cond.code yX7_added3 cX7_added3 4 (some .int) ∈ gw := gw_of (List.mem_append_right _ (List.mem_of_getElem? (i := 1051) (by decide +kernel))) (by decide +kernel)
theorem cwv_X7_269 : CWv RX7 269 yX7_added3 cX7_added3 4 (some .int) 0 := ⟨wd243, wd244, wd245, wd110, wd246, (by decide +kernel), (by decide +kernel), (by decide +kernel), (by decide +kernel)⟩
theorem wd247 : Cond.methodLink RX7 272 yX7_not3 ∈ gw := gw_of (List.mem_append_right _ (List.mem_of_getElem? (i := 994) (by decide +kernel))) (by decide +kernel)
theorem wd248 : Cond.instanceMethod yX7_not3 ∈ gw := gw_of (List.mem_append_right _ (List.mem_of_getElem? (i := 996) (by decide +kernel))) (by decide +kernel)
theorem wd249 : Cond.selects RX7 yX7_not3 yX7_not3 ∈ gw := gw_of (List.mem_append_left _ (List.mem_of_getElem? (i := 57) (by decide +kernel))) (by decide +kernel)
theorem wd250 : Cond.code yX7_not3 cX7_not3 4 (some .int) ∈ gw := gw_of (List.mem_append_right _ (List.mem_of_getElem? (i := 997) (by decide +kernel))) (by decide +kernel)
theorem cwv_X7_272 : CWv RX7 272 yX7_not3 cX7_not3 4 (some .int) 0 := ⟨wd247, wd248, wd249, wd110, wd250, (by decide +kernel), (by decide +kernel), (by decide +kernel), (by decide +kernel)⟩
theorem wd251 : Cond.methodLink RX7 275 yX7_both3 ∈ gw := gw_of (List.mem_append_right _ (List.mem_of_getElem? (i := 1084) (by decide +kernel))) (by decide +kernel)
theorem wd252 : Cond.instanceMethod yX7_both3 ∈ gw := gw_of (List.mem_append_right _ (List.mem_of_getElem? (i := 1086) (by decide +kernel))) (by decide +kernel)
theorem wd253 : Cond.selects RX7 yX7_both3 yX7_both3 ∈ gw := gw_of (List.mem_append_left _ (List.mem_of_getElem? (i := 79) (by decide +kernel))) (by decide +kernel)
theorem wd254 : Cond.code yX7_both3 cX7_both3 3 (some .int) ∈ gw := gw_of (List.mem_append_right _ (List.mem_of_getElem? (i := 1087) (by decide +kernel))) (by decide +kernel)
theorem cwv_X7_275 : CWv RX7 275 yX7_both3 cX7_both3 3 (some .int) 0 := ⟨wd251, wd252, wd253, wd110, wd254, (by decide +kernel), (by decide +kernel), (by decide +kernel), (by decide +kernel)⟩
theorem wd255 : Cond.methodLink RX7 278 yX7_either3 ∈ gw := gw_of (List.mem_append_right _ (List.mem_of_getElem? (i := 1080) (by decide +kernel))) (by decide +kernel)
theorem wd256 : Cond.instanceMethod yX7_either3 ∈ gw := gw_of (List.mem_append_right _ (List.mem_of_getElem? (i := 1082) (by decide +kernel))) (by decide +kernel)
theorem wd257 : Cond.selects RX7 yX7_either3 yX7_either3 ∈ gw := gw_of (List.mem_append_left _ (List.mem_of_getElem? (i := 78) (by decide +kernel))) (by decide +kernel)
theorem wd258 : Cond.code yX7_either3 cX7_either3 3 (some .int) ∈ gw := gw_of (List.mem_append_right _ (List.mem_of_getElem? (i := 1083) (by decide +kernel))) (by decide +kernel)
theorem cwv_X7_278 : CWv RX7 278 yX7_either3 cX7_either3 3 (some .int) 0 := ⟨wd255, wd256, wd257, wd110, wd258, (by decide +kernel), (by decide +kernel), (by decide +kernel), (by decide +kernel)⟩
theorem wd259 : Cond.methodLink RX7 281 yX7_atom2 ∈ gw := gw_of (List.mem_append_right _ (List.mem_of_getElem? (i := 1076) (by decide +kernel))) (by decide +kernel)
theorem wd260 : Cond.instanceMethod yX7_atom2 ∈ gw := gw_of (List.mem_append_right _ (List.mem_of_getElem? (i := 1078) (by decide +kernel))) (by decide +kernel)
theorem wd261 : Cond.selects RX7 yX7_atom2 yX7_atom2 ∈ gw := gw_of (List.mem_append_left _ (List.mem_of_getElem? (i := 77) (by decide +kernel))) (by decide +kernel)
theorem wd262 : Cond.code yX7_atom2 cX7_atom2 2 (some .int) ∈ gw := gw_of (List.mem_append_right _ (List.mem_of_getElem? (i := 1079) (by decide +kernel))) (by decide +kernel)
theorem cwv_X7_281 : CWv RX7 281 yX7_atom2 cX7_atom2 2 (some .int) 0 := ⟨wd259, wd260, wd261, wd110, wd262, (by decide +kernel), (by decide +kernel), (by decide +kernel), (by decide +kernel)⟩
theorem wd263 : Cond.methodLink RX7 284 yX7_term2 ∈ gw := gw_of (List.mem_append_right _ (List.mem_of_getElem? (i := 1072) (by decide +kernel))) (by decide +kernel)
theorem wd264 : Cond.instanceMethod yX7_term2 ∈ gw := gw_of (List.mem_append_right _ (List.mem_of_getElem? (i := 1074) (by decide +kernel))) (by decide +kernel)
theorem wd265 : Cond.selects RX7 yX7_term2 yX7_term2 ∈ gw := gw_of (List.mem_append_left _ (List.mem_of_getElem? (i := 76) (by decide +kernel))) (by decide +kernel)
theorem wd266 : Cond.code yX7_term2 cX7_term2 2 (some .int) ∈ gw := gw_of (List.mem_append_right _ (List.mem_of_getElem? (i := 1075) (by decide +kernel))) (by decide +kernel)
theorem cwv_X7_284 : CWv RX7 284 yX7_term2 cX7_term2 2 (some .int) 0 := ⟨wd263, wd264, wd265, wd110, wd266, (by decide +kernel), (by decide +kernel), (by decide +kernel), (by decide +kernel)⟩
theorem wd267 : Cond.methodLink RX7 287 yX7_added2 ∈ gw := gw_of (List.mem_append_right _ (List.mem_of_getElem? (i := 1068) (by decide +kernel))) (by decide +kernel)
theorem wd268 : Cond.instanceMethod yX7_added2 ∈ gw := gw_of (List.mem_append_right _ (List.mem_of_getElem? (i := 1070) (by decide +kernel))) (by decide +kernel)
theorem wd269 : Cond.selects RX7 yX7_added2 yX7_added2 ∈ gw := gw_of (List.mem_append_left _ (List.mem_of_getElem? (i := 75) (by decide +kernel))) (by decide +kernel)
theorem wd270 : Cond.code yX7_added2 cX7_added2 4 (some .int) ∈ gw := gw_of (List.mem_append_right _ (List.mem_of_getElem? (i := 1071) (by decide +kernel))) (by decide +kernel)
theorem cwv_X7_287 : CWv RX7 287 yX7_added2 cX7_added2 4 (some .int) 0 := ⟨wd267, wd268, wd269, wd110, wd270, (by decide +kernel), (by decide +kernel), (by decide +kernel), (by decide +kernel)⟩
theorem wd271 : Cond.methodLink RX7 290 yX7_not2 ∈ gw := gw_of (List.mem_append_right _ (List.mem_of_getElem? (i := 990) (by decide +kernel))) (by decide +kernel)
theorem wd272 : Cond.instanceMethod yX7_not2 ∈ gw := gw_of (List.mem_append_right _ (List.mem_of_getElem? (i := 992) (by decide +kernel))) (by decide +kernel)
theorem wd273 : Cond.selects RX7 yX7_not2 yX7_not2 ∈ gw := gw_of (List.mem_append_left _ (List.mem_of_getElem? (i := 56) (by decide +kernel))) (by decide +kernel)
theorem wd274 : Cond.code yX7_not2 cX7_not2 4 (some .int) ∈ gw := gw_of (List.mem_append_right _ (List.mem_of_getElem? (i := 993) (by decide +kernel))) (by decide +kernel)
theorem cwv_X7_290 : CWv RX7 290 yX7_not2 cX7_not2 4 (some .int) 0 := ⟨wd271, wd272, wd273, wd110, wd274, (by decide +kernel), (by decide +kernel), (by decide +kernel), (by decide +kernel)⟩
theorem wd275 : Cond.methodLink RX7 293 yX7_both2 ∈ gw := gw_of (List.mem_append_right _ (List.mem_of_getElem? (i := 1104) (by decide +kernel))) (by decide +kernel)
theorem wd276 : Cond.instanceMethod yX7_both2 ∈ gw := gw_of (List.mem_append_right _ (List.mem_of_getElem? (i := 1106) (by decide +kernel))) (by decide +kernel)
theorem wd277 : Cond.selects RX7 yX7_both2 yX7_both2 ∈ gw := gw_of (List.mem_append_left _ (List.mem_of_getElem? (i := 84) (by decide +kernel))) (by decide +kernel)
theorem wd278 : Cond.code yX7_both2 cX7_both2 3 (some .int) ∈ gw := gw_of (List.mem_append_right _ (List.mem_of_getElem? (i := 1107) (by decide +kernel))) (by decide +kernel)
theorem cwv_X7_293 : CWv RX7 293 yX7_both2 cX7_both2 3 (some .int) 0 := ⟨wd275, wd276, wd277, wd110, wd278, (by decide +kernel), (by decide +kernel), (by decide +kernel), (by decide +kernel)⟩
theorem wd279 : Cond.methodLink RX7 296 yX7_either2 ∈ gw := gw_of (List.mem_append_right _ (List.mem_of_getElem? (i := 1100) (by decide +kernel))) (by decide +kernel)
theorem wd280 : Cond.instanceMethod yX7_either2 ∈ gw := gw_of (List.mem_append_right _ (List.mem_of_getElem? (i := 1102) (by decide +kernel))) (by decide +kernel)
theorem wd281 : Cond.selects RX7 yX7_either2 yX7_either2 ∈ gw := gw_of (List.mem_append_left _ (List.mem_of_getElem? (i := 83) (by decide +kernel))) (by decide +kernel)
theorem wd282 : Cond.code yX7_either2 cX7_either2 3 (some .int) ∈ gw := gw_of (List.mem_append_right _ (List.mem_of_getElem? (i := 1103) (by decide +kernel))) (by decide +kernel)
theorem cwv_X7_296 : CWv RX7 296 yX7_either2 cX7_either2 3 (some .int) 0 := ⟨wd279, wd280, wd281, wd110, wd282, (by decide +kernel), (by decide +kernel), (by decide +kernel), (by decide +kernel)⟩
theorem wd283 : Cond.methodLink RX7 299 yX7_atom1 ∈ gw := gw_of (List.mem_append_right _ (List.mem_of_getElem? (i := 1096) (by decide +kernel))) (by decide +kernel)
theorem wd284 : Cond.instanceMethod yX7_atom1 ∈ gw := gw_of (List.mem_append_right _ (List.mem_of_getElem? (i := 1098) (by decide +kernel))) (by decide +kernel)
theorem wd285 : Cond.selects RX7 yX7_atom1 yX7_atom1 ∈ gw := gw_of (List.mem_append_left _ (List.mem_of_getElem? (i := 82) (by decide +kernel))) (by decide +kernel)
theorem wd286 : Cond.code yX7_atom1 cX7_atom1 2 (some .int) ∈ gw := gw_of (List.mem_append_right _ (List.mem_of_getElem? (i := 1099) (by decide +kernel))) (by decide +kernel)
theorem cwv_X7_299 : CWv RX7 299 yX7_atom1 cX7_atom1 2 (some .int) 0 := ⟨wd283, wd284, wd285, wd110, wd286, (by decide +kernel), (by decide +kernel), (by decide +kernel), (by decide +kernel)⟩
theorem wd287 : Cond.methodLink RX7 302 yX7_term1 ∈ gw := gw_of (List.mem_append_right _ (List.mem_of_getElem? (i := 1092) (by decide +kernel))) (by decide +kernel)
theorem wd288 : Cond.instanceMethod yX7_term1 ∈ gw := gw_of (List.mem_append_right _ (List.mem_of_getElem? (i := 1094) (by decide +kernel))) (by decide +kernel)
theorem wd289 : Cond.selects RX7 yX7_term1 yX7_term1 ∈ gw := gw_of (List.mem_append_left _ (List.mem_of_getElem? (i := 81) (by decide +kernel))) (by decide +kernel)
theorem wd290 : Cond.code yX7_term1 cX7_term1 2 (some .int) ∈ gw := gw_of (List.mem_append_right _ (List.mem_of_getElem? (i := 1095) (by decide +kernel))) (by decide +kernel)
theorem cwv_X7_302 : CWv RX7 302 yX7_term1 cX7_term1 2 (some .int) 0 := ⟨wd287, wd288, wd289, wd110, wd290, (by decide +kernel), (by decide +kernel), (by decide +kernel), (by decide +kernel)⟩
theorem wd291 : Cond.methodLink RX7 305 yX7_added1 ∈ gw := gw_of (List.mem_append_right _ (List.mem_of_getElem? (i := 1088) (by decide +kernel))) (by decide +kernel)
theorem wd292 : Cond.instanceMethod yX7_added1 ∈ gw := gw_of (List.mem_append_right _ (List.mem_of_getElem? (i := 1090) (by decide +kernel))) (by decide +kernel)
theorem wd293 : Cond.selects RX7 yX7_added1 yX7_added1 ∈ gw := gw_of (List.mem_append_left _ (List.mem_of_getElem? (i := 80) (by decide +kernel))) (by decide +kernel)
theorem wd294 : Cond.code yX7_added1 cX7_added1 4 (some .int) ∈ gw := gw_of (List.mem_append_right _ (List.mem_of_getElem? (i := 1091) (by decide +kernel))) (by decide +kernel)
theorem cwv_X7_305 : CWv RX7 305 yX7_added1 cX7_added1 4 (some .int) 0 := ⟨wd291, wd292, wd293, wd110, wd294, (by decide +kernel), (by decide +kernel), (by decide +kernel), (by decide +kernel)⟩
theorem wd295 : Cond.methodLink RX7 308 yX7_not1 ∈ gw := gw_of (List.mem_append_right _ (List.mem_of_getElem? (i := 986) (by decide +kernel))) (by decide +kernel)
theorem wd296 : Cond.instanceMethod yX7_not1 ∈ gw := gw_of (List.mem_append_right _ (List.mem_of_getElem? (i := 988) (by decide +kernel))) (by decide +kernel)
theorem wd297 : Cond.selects RX7 yX7_not1 yX7_not1 ∈ gw := gw_of (List.mem_append_left _ (List.mem_of_getElem? (i := 55) (by decide +kernel))) (by decide +kernel)
theorem wd298 : Cond.code yX7_not1 cX7_not1 4 (some .int) ∈ gw := gw_of (List.mem_append_right _ (List.mem_of_getElem? (i := 989) (by decide +kernel))) (by decide +kernel)
theorem cwv_X7_308 : CWv RX7 308 yX7_not1 cX7_not1 4 (some .int) 0 := ⟨wd295, wd296, wd297, wd110, wd298, (by decide +kernel), (by decide +kernel), (by decide +kernel), (by decide +kernel)⟩
theorem wd299 : Cond.methodLink RX7 311 yX7_both1 ∈ gw := gw_of (List.mem_append_right _ (List.mem_of_getElem? (i := 1124) (by decide +kernel))) (by decide +kernel)
theorem wd300 : Cond.instanceMethod yX7_both1 ∈ gw := gw_of (List.mem_append_right _ (List.mem_of_getElem? (i := 1126) (by decide +kernel))) (by decide +kernel)
theorem wd301 : Cond.selects RX7 yX7_both1 yX7_both1 ∈ gw := gw_of (List.mem_append_left _ (List.mem_of_getElem? (i := 89) (by decide +kernel))) (by decide +kernel)
theorem wd302 : Cond.code yX7_both1 cX7_both1 3 (some .int) ∈ gw := gw_of (List.mem_append_right _ (List.mem_of_getElem? (i := 1127) (by decide +kernel))) (by decide +kernel)
theorem cwv_X7_311 : CWv RX7 311 yX7_both1 cX7_both1 3 (some .int) 0 := ⟨wd299, wd300, wd301, wd110, wd302, (by decide +kernel), (by decide +kernel), (by decide +kernel), (by decide +kernel)⟩
theorem wd303 : Cond.methodLink RX7 314 yX7_either1 ∈ gw := gw_of (List.mem_append_right _ (List.mem_of_getElem? (i := 1120) (by decide +kernel))) (by decide +kernel)
theorem wd304 : Cond.instanceMethod yX7_either1 ∈ gw := gw_of (List.mem_append_right _ (List.mem_of_getElem? (i := 1122) (by decide +kernel))) (by decide +kernel)
theorem wd305 : Cond.selects RX7 yX7_either1 yX7_either1 ∈ gw := gw_of (List.mem_append_left _ (List.mem_of_getElem? (i := 88) (by decide +kernel))) (by decide +kernel)
theorem wd306 : Cond.code yX7_either1 cX7_either1 3 (some .int) ∈ gw := gw_of (List.mem_append_right _ (List.mem_of_getElem? (i := 1123) (by decide +kernel))) (by decide +kernel)
theorem cwv_X7_314 : CWv RX7 314 yX7_either1 cX7_either1 3 (some .int) 0 := ⟨wd303, wd304, wd305, wd110, wd306, (by decide +kernel), (by decide +kernel), (by decide +kernel), (by decide +kernel)⟩
theorem wd307 : Cond.methodLink RX7 317 yX7_atom0 ∈ gw := gw_of (List.mem_append_right _ (List.mem_of_getElem? (i := 1116) (by decide +kernel))) (by decide +kernel)
theorem wd308 : Cond.instanceMethod yX7_atom0 ∈ gw := gw_of (List.mem_append_right _ (List.mem_of_getElem? (i := 1118) (by decide +kernel))) (by decide +kernel)
theorem wd309 : Cond.selects RX7 yX7_atom0 yX7_atom0 ∈ gw := gw_of (List.mem_append_left _ (List.mem_of_getElem? (i := 87) (by decide +kernel))) (by decide +kernel)
theorem wd310 : Cond.code yX7_atom0 cX7_atom0 2 (some .int) ∈ gw := gw_of (List.mem_append_right _ (List.mem_of_getElem? (i := 1119) (by decide +kernel))) (by decide +kernel)
theorem cwv_X7_317 : CWv RX7 317 yX7_atom0 cX7_atom0 2 (some .int) 0 := ⟨wd307, wd308, wd309, wd110, wd310, (by decide +kernel), (by decide +kernel), (by decide +kernel), (by decide +kernel)⟩
theorem wd311 : Cond.methodLink RX7 320 yX7_term0 ∈ gw := gw_of (List.mem_append_right _ (List.mem_of_getElem? (i := 1112) (by decide +kernel))) (by decide +kernel)
theorem wd312 : Cond.instanceMethod yX7_term0 ∈ gw := gw_of (List.mem_append_right _ (List.mem_of_getElem? (i := 1114) (by decide +kernel))) (by decide +kernel)
theorem wd313 : Cond.selects RX7 yX7_term0 yX7_term0 ∈ gw := gw_of (List.mem_append_left _ (List.mem_of_getElem? (i := 86) (by decide +kernel))) (by decide +kernel)
theorem wd314 : Cond.code yX7_term0 cX7_term0 2 (some .int) ∈ gw := gw_of (List.mem_append_right _ (List.mem_of_getElem? (i := 1115) (by decide +kernel))) (by decide +kernel)
theorem cwv_X7_320 : CWv RX7 320 yX7_term0 cX7_term0 2 (some .int) 0 := ⟨wd311, wd312, wd313, wd110, wd314, (by decide +kernel), (by decide +kernel), (by decide +kernel), (by decide +kernel)⟩
theorem wd315 : Cond.methodLink RX7 323 yX7_added0 ∈ gw := gw_of (List.mem_append_right _ (List.mem_of_getElem? (i := 1108) (by decide +kernel))) (by decide +kernel)
theorem wd316 : Cond.instanceMethod yX7_added0 ∈ gw := gw_of (List.mem_append_right _ (List.mem_of_getElem? (i := 1110) (by decide +kernel))) (by decide +kernel)
theorem wd317 : Cond.selects RX7 yX7_added0 yX7_added0 ∈ gw := gw_of (List.mem_append_left _ (List.mem_of_getElem? (i := 85) (by decide +kernel))) (by decide +kernel)
theorem wd318 : Cond.code yX7_added0 cX7_added0 4 (some .int) ∈ gw := gw_of (List.mem_append_right _ (List.mem_of_getElem? (i := 1111) (by decide +kernel))) (by decide +kernel)
theorem cwv_X7_323 : CWv RX7 323 yX7_added0 cX7_added0 4 (some .int) 0 := ⟨wd315, wd316, wd317, wd110, wd318, (by decide +kernel), (by decide +kernel), (by decide +kernel), (by decide +kernel)⟩
theorem wd319 : Cond.methodLink RX7 326 yX7_not0 ∈ gw := gw_of (List.mem_append_right _ (List.mem_of_getElem? (i := 978) (by decide +kernel))) (by decide +kernel)
theorem wd320 : Cond.instanceMethod yX7_not0 ∈ gw := gw_of (List.mem_append_right _ (List.mem_of_getElem? (i := 980) (by decide +kernel))) (by decide +kernel)
theorem wd321 : Cond.selects RX7 yX7_not0 yX7_not0 ∈ gw := gw_of (List.mem_append_left _ (List.mem_of_getElem? (i := 53) (by decide +kernel))) (by decide +kernel)
theorem wd322 : Cond.code yX7_not0 cX7_not0 4 (some .int) ∈ gw := gw_of (List.mem_append_right _ (List.mem_of_getElem? (i := 981) (by decide +kernel))) (by decide +kernel)
theorem cwv_X7_326 : CWv RX7 326 yX7_not0 cX7_not0 4 (some .int) 0 := ⟨wd319, wd320, wd321, wd110, wd322, (by decide +kernel), (by decide +kernel), (by decide +kernel), (by decide +kernel)⟩
theorem wd323 : Cond.methodLink RX7 329 yX7_both0 ∈ gw := gw_of (List.mem_append_right _ (List.mem_of_getElem? (i := 974) (by decide +kernel))) (by decide +kernel)
theorem wd324 : Cond.instanceMethod yX7_both0 ∈ gw := gw_of (List.mem_append_right _ (List.mem_of_getElem? (i := 976) (by decide +kernel))) (by decide +kernel)
theorem wd325 : Cond.selects RX7 yX7_both0 yX7_both0 ∈ gw := gw_of (List.mem_append_left _ (List.mem_of_getElem? (i := 52) (by decide +kernel))) (by decide +kernel)
theorem wd326 : Cond.code yX7_both0 cX7_both0 3 (some .int) ∈ gw := gw_of (List.mem_append_right _ (List.mem_of_getElem? (i := 977) (by decide +kernel))) (by decide +kernel)
theorem cwv_X7_329 : CWv RX7 329 yX7_both0 cX7_both0 3 (some .int) 0 := ⟨wd323, wd324, wd325, wd110, wd326, (by decide +kernel), (by decide +kernel), (by decide +kernel), (by decide +kernel)⟩
theorem wd327 : Cond.methodLink RX7 332 yX7_either0 ∈ gw := gw_of (List.mem_append_right _ (List.mem_of_getElem? (i := 970) (by decide +kernel))) (by decide +kernel)
theorem wd328 : Cond.instanceMethod yX7_either0 ∈ gw := gw_of (List.mem_append_right _ (List.mem_of_getElem? (i := 972) (by decide +kernel))) (by decide +kernel)
theorem wd329 : Cond.selects RX7 yX7_either0 yX7_either0 ∈ gw := gw_of (List.mem_append_left _ (List.mem_of_getElem? (i := 51) (by decide +kernel))) (by decide +kernel)
theorem wd330 : Cond.code yX7_either0 cX7_either0 3 (some .int) ∈ gw := gw_of (List.mem_append_right _ (List.mem_of_getElem? (i := 973) (by decide +kernel))) (by decide +kernel)
theorem cwv_X7_332 : CWv RX7 332 yX7_either0 cX7_either0 3 (some .int) 0 := ⟨wd327, wd328, wd329, wd110, wd330, (by decide +kernel), (by decide +kernel), (by decide +kernel), (by decide +kernel)⟩
theorem wd331 : Cond.fieldLink RX7 17 RX7 "textSize" "[I" ∈ gw := gw_of (List.mem_append_right _ (List.mem_of_getElem? (i := 759) (by decide +kernel))) (by decide +kernel)
theorem wd332 : Cond.methodLink RX7 335 yX7_part ∈ gw := gw_of (List.mem_append_right _ (List.mem_of_getElem? (i := 962) (by decide +kernel))) (by decide +kernel)
theorem wd333 : Cond.instanceMethod yX7_part ∈ gw := gw_of (List.mem_append_right _ (List.mem_of_getElem? (i := 964) (by decide +kernel))) (by decide +kernel)
theorem wd334 : Cond.selects RX7 yX7_part yX7_part ∈ gw := gw_of (List.mem_append_left _ (List.mem_of_getElem? (i := 49) (by decide +kernel))) (by decide +kernel)
theorem wd335 : Cond.code yX7_part cX7_part 3 (some .int) ∈ gw := gw_of (List.mem_append_right _ (List.mem_of_getElem? (i := 965) (by decide +kernel))) (by decide +kernel)
theorem cwv_X7_335 : CWv RX7 335 yX7_part cX7_part 3 (some .int) 1 := ⟨wd332, wd333, wd334, wd110, wd335, (by decide +kernel), (by decide +kernel), (by decide +kernel), (by decide +kernel)⟩
theorem wd336 : Cond.fieldLink RX7 67 RX7 "textCount" "I" ∈ gw := gw_of (List.mem_append_right _ (List.mem_of_getElem? (i := 760) (by decide +kernel))) (by decide +kernel)
theorem wd337 : Cond.methodLink RX7 339 yX7_read ∈ gw := gw_of (List.mem_append_right _ (List.mem_of_getElem? (i := 938) (by decide +kernel))) (by decide +kernel)
theorem wd338 : Cond.instanceMethod yX7_read ∈ gw := gw_of (List.mem_append_right _ (List.mem_of_getElem? (i := 940) (by decide +kernel))) (by decide +kernel)
theorem wd339 : Cond.selects RX7 yX7_read yX7_read ∈ gw := gw_of (List.mem_append_left _ (List.mem_of_getElem? (i := 44) (by decide +kernel))) (by decide +kernel)
theorem wd340 : Cond.code yX7_read cX7_read 6 (some .int) ∈ gw := gw_of (List.mem_append_right _ (List.mem_of_getElem? (i := 941) (by decide +kernel))) (by decide +kernel)
theorem cwv_X7_339 : CWv RX7 339 yX7_read cX7_read 6 (some .int) 2 := ⟨wd337, wd338, wd339, wd110, wd340, (by decide +kernel), (by decide +kernel), (by decide +kernel), (by decide +kernel)⟩
theorem wd341 : Cond.methodLink RX7 342 yX7_easelOf ∈ gw := gw_of (List.mem_append_right _ (List.mem_of_getElem? (i := 916) (by decide +kernel))) (by decide +kernel)
theorem wd342 : Cond.instanceMethod yX7_easelOf ∈ gw := gw_of (List.mem_append_right _ (List.mem_of_getElem? (i := 918) (by decide +kernel))) (by decide +kernel)
theorem wd343 : Cond.selects RX7 yX7_easelOf yX7_easelOf ∈ gw := gw_of (List.mem_append_left _ (List.mem_of_getElem? (i := 40) (by decide +kernel))) (by decide +kernel)
theorem wd344 : Cond.code yX7_easelOf cX7_easelOf 2 (some .int) ∈ gw := gw_of (List.mem_append_right _ (List.mem_of_getElem? (i := 919) (by decide +kernel))) (by decide +kernel)
theorem cwv_X7_342 : CWv RX7 342 yX7_easelOf cX7_easelOf 2 (some .int) 1 := ⟨wd341, wd342, wd343, wd110, wd344, (by decide +kernel), (by decide +kernel), (by decide +kernel), (by decide +kernel)⟩
theorem wd345 : Cond.methodLink RX7 345 yX7_round1 ∈ gw := gw_of (List.mem_append_right _ (List.mem_of_getElem? (i := 920) (by decide +kernel))) (by decide +kernel)
theorem wd346 : Cond.static yX7_round1 ∈ gw := gw_of (List.mem_append_right _ (List.mem_of_getElem? (i := 921) (by decide +kernel))) (by decide +kernel)
theorem wd347 : Cond.code yX7_round1 cX7_round1 1 (some .int) ∈ gw := gw_of (List.mem_append_right _ (List.mem_of_getElem? (i := 922) (by decide +kernel))) (by decide +kernel)
theorem cws_X7_345 : CWs RX7 345 yX7_round1 cX7_round1 1 (some .int) 1 := ⟨wd345, wd346, wd110, wd347, (by decide +kernel), (by decide +kernel), (by decide +kernel), (by decide +kernel)⟩
theorem wd348 : Cond.methodLink RX7 118 yX7_sideOf ∈ gw := gw_of (List.mem_append_right _ (List.mem_of_getElem? (i := 912) (by decide +kernel))) (by decide +kernel)
theorem wd349 : Cond.instanceMethod yX7_sideOf ∈ gw := gw_of (List.mem_append_right _ (List.mem_of_getElem? (i := 914) (by decide +kernel))) (by decide +kernel)
theorem wd350 : Cond.selects RX7 yX7_sideOf yX7_sideOf ∈ gw := gw_of (List.mem_append_left _ (List.mem_of_getElem? (i := 39) (by decide +kernel))) (by decide +kernel)
theorem wd351 : Cond.code yX7_sideOf cX7_sideOf 2 (some .int) ∈ gw := gw_of (List.mem_append_right _ (List.mem_of_getElem? (i := 915) (by decide +kernel))) (by decide +kernel)
theorem cwv_X7_118 : CWv RX7 118 yX7_sideOf cX7_sideOf 2 (some .int) 1 := ⟨wd348, wd349, wd350, wd110, wd351, (by decide +kernel), (by decide +kernel), (by decide +kernel), (by decide +kernel)⟩
theorem wd352 : Cond.methodLink RX7 348 yX7_away ∈ gw := gw_of (List.mem_append_right _ (List.mem_of_getElem? (i := 927) (by decide +kernel))) (by decide +kernel)
theorem wd353 : Cond.static yX7_away ∈ gw := gw_of (List.mem_append_right _ (List.mem_of_getElem? (i := 928) (by decide +kernel))) (by decide +kernel)
theorem wd354 : Cond.code yX7_away cX7_away 3 (some .int) ∈ gw := gw_of (List.mem_append_right _ (List.mem_of_getElem? (i := 929) (by decide +kernel))) (by decide +kernel)
theorem cws_X7_348 : CWs RX7 348 yX7_away cX7_away 3 (some .int) 2 := ⟨wd352, wd353, wd110, wd354, (by decide +kernel), (by decide +kernel), (by decide +kernel), (by decide +kernel)⟩
theorem wd355 : Cond.methodLink RX7 133 yX7_nearOf ∈ gw := gw_of (List.mem_append_right _ (List.mem_of_getElem? (i := 934) (by decide +kernel))) (by decide +kernel)
theorem wd356 : Cond.instanceMethod yX7_nearOf ∈ gw := gw_of (List.mem_append_right _ (List.mem_of_getElem? (i := 936) (by decide +kernel))) (by decide +kernel)
theorem wd357 : Cond.selects RX7 yX7_nearOf yX7_nearOf ∈ gw := gw_of (List.mem_append_left _ (List.mem_of_getElem? (i := 43) (by decide +kernel))) (by decide +kernel)
theorem wd358 : Cond.code yX7_nearOf cX7_nearOf 2 (some .int) ∈ gw := gw_of (List.mem_append_right _ (List.mem_of_getElem? (i := 937) (by decide +kernel))) (by decide +kernel)
theorem cwv_X7_133 : CWv RX7 133 yX7_nearOf cX7_nearOf 2 (some .int) 1 := ⟨wd355, wd356, wd357, wd110, wd358, (by decide +kernel), (by decide +kernel), (by decide +kernel), (by decide +kernel)⟩
theorem wd359 : Cond.methodLink RX7 351 yX7_within ∈ gw := gw_of (List.mem_append_right _ (List.mem_of_getElem? (i := 1128) (by decide +kernel))) (by decide +kernel)
theorem wd360 : Cond.static yX7_within ∈ gw := gw_of (List.mem_append_right _ (List.mem_of_getElem? (i := 1129) (by decide +kernel))) (by decide +kernel)
theorem wd361 : Cond.code yX7_within cX7_within 3 (some .int) ∈ gw := gw_of (List.mem_append_right _ (List.mem_of_getElem? (i := 1130) (by decide +kernel))) (by decide +kernel)
theorem cws_X7_351 : CWs RX7 351 yX7_within cX7_within 3 (some .int) 3 := ⟨wd359, wd360, wd110, wd361, (by decide +kernel), (by decide +kernel), (by decide +kernel), (by decide +kernel)⟩
theorem wd362 : Cond.methodLink RX7 355 yX7_says ∈ gw := gw_of (List.mem_append_right _ (List.mem_of_getElem? (i := 930) (by decide +kernel))) (by decide +kernel)
theorem wd363 : Cond.instanceMethod yX7_says ∈ gw := gw_of (List.mem_append_right _ (List.mem_of_getElem? (i := 932) (by decide +kernel))) (by decide +kernel)
theorem wd364 : Cond.selects RX7 yX7_says yX7_says ∈ gw := gw_of (List.mem_append_left _ (List.mem_of_getElem? (i := 42) (by decide +kernel))) (by decide +kernel)
theorem wd365 : Cond.code yX7_says cX7_says 3 (some .int) ∈ gw := gw_of (List.mem_append_right _ (List.mem_of_getElem? (i := 933) (by decide +kernel))) (by decide +kernel)
theorem cwv_X7_355 : CWv RX7 355 yX7_says cX7_says 3 (some .int) 2 := ⟨wd362, wd363, wd364, wd110, wd365, (by decide +kernel), (by decide +kernel), (by decide +kernel), (by decide +kernel)⟩
theorem wd366 : Cond.methodLink RX7 121 yX7_viewOf ∈ gw := gw_of (List.mem_append_right _ (List.mem_of_getElem? (i := 923) (by decide +kernel))) (by decide +kernel)
theorem wd367 : Cond.instanceMethod yX7_viewOf ∈ gw := gw_of (List.mem_append_right _ (List.mem_of_getElem? (i := 925) (by decide +kernel))) (by decide +kernel)
theorem wd368 : Cond.selects RX7 yX7_viewOf yX7_viewOf ∈ gw := gw_of (List.mem_append_left _ (List.mem_of_getElem? (i := 41) (by decide +kernel))) (by decide +kernel)
theorem wd369 : Cond.code yX7_viewOf cX7_viewOf 5 (some .int) ∈ gw := gw_of (List.mem_append_right _ (List.mem_of_getElem? (i := 926) (by decide +kernel))) (by decide +kernel)
theorem cwv_X7_121 : CWv RX7 121 yX7_viewOf cX7_viewOf 5 (some .int) 1 := ⟨wd366, wd367, wd368, wd110, wd369, (by decide +kernel), (by decide +kernel), (by decide +kernel), (by decide +kernel)⟩
theorem wd370 : Cond.methodLink RX7 124 yX7_warmthOf ∈ gw := gw_of (List.mem_append_right _ (List.mem_of_getElem? (i := 1131) (by decide +kernel))) (by decide +kernel)
theorem wd371 : Cond.instanceMethod yX7_warmthOf ∈ gw := gw_of (List.mem_append_right _ (List.mem_of_getElem? (i := 1133) (by decide +kernel))) (by decide +kernel)
theorem wd372 : Cond.selects RX7 yX7_warmthOf yX7_warmthOf ∈ gw := gw_of (List.mem_append_left _ (List.mem_of_getElem? (i := 90) (by decide +kernel))) (by decide +kernel)
theorem wd373 : Cond.code yX7_warmthOf cX7_warmthOf 5 (some .int) ∈ gw := gw_of (List.mem_append_right _ (List.mem_of_getElem? (i := 1134) (by decide +kernel))) (by decide +kernel)
theorem cwv_X7_124 : CWv RX7 124 yX7_warmthOf cX7_warmthOf 5 (some .int) 1 := ⟨wd370, wd371, wd372, wd110, wd373, (by decide +kernel), (by decide +kernel), (by decide +kernel), (by decide +kernel)⟩
theorem wd374 : Cond.methodLink RX7 127 yX7_mindsOf ∈ gw := gw_of (List.mem_append_right _ (List.mem_of_getElem? (i := 1135) (by decide +kernel))) (by decide +kernel)
theorem wd375 : Cond.instanceMethod yX7_mindsOf ∈ gw := gw_of (List.mem_append_right _ (List.mem_of_getElem? (i := 1137) (by decide +kernel))) (by decide +kernel)
theorem wd376 : Cond.selects RX7 yX7_mindsOf yX7_mindsOf ∈ gw := gw_of (List.mem_append_left _ (List.mem_of_getElem? (i := 91) (by decide +kernel))) (by decide +kernel)
theorem wd377 : Cond.code yX7_mindsOf cX7_mindsOf 4 (some .int) ∈ gw := gw_of (List.mem_append_right _ (List.mem_of_getElem? (i := 1138) (by decide +kernel))) (by decide +kernel)
theorem cwv_X7_127 : CWv RX7 127 yX7_mindsOf cX7_mindsOf 4 (some .int) 1 := ⟨wd374, wd375, wd376, wd110, wd377, (by decide +kernel), (by decide +kernel), (by decide +kernel), (by decide +kernel)⟩
theorem wd378 : Cond.constantLong RX7 115 (14) ∈ gw := gw_of (List.mem_append_right _ (List.mem_of_getElem? (i := 910) (by decide +kernel))) (by decide +kernel)
theorem wd379 : Cond.constant RX7 117 (-100000) ∈ gw := gw_of (List.mem_append_right _ (List.mem_of_getElem? (i := 911) (by decide +kernel))) (by decide +kernel)
theorem wd380 : Cond.methodLink RX7 130 yX7_pleasedBy ∈ gw := gw_of (List.mem_append_right _ (List.mem_of_getElem? (i := 1139) (by decide +kernel))) (by decide +kernel)
theorem wd381 : Cond.instanceMethod yX7_pleasedBy ∈ gw := gw_of (List.mem_append_right _ (List.mem_of_getElem? (i := 1141) (by decide +kernel))) (by decide +kernel)
theorem wd382 : Cond.selects RX7 yX7_pleasedBy yX7_pleasedBy ∈ gw := gw_of (List.mem_append_left _ (List.mem_of_getElem? (i := 92) (by decide +kernel))) (by decide +kernel)
theorem wd383 : Cond.code yX7_pleasedBy cX7_pleasedBy 2 (some .int) ∈ gw := gw_of (List.mem_append_right _ (List.mem_of_getElem? (i := 1142) (by decide +kernel))) (by decide +kernel)
theorem cwv_X7_130 : CWv RX7 130 yX7_pleasedBy cX7_pleasedBy 2 (some .int) 1 := ⟨wd380, wd381, wd382, wd110, wd383, (by decide +kernel), (by decide +kernel), (by decide +kernel), (by decide +kernel)⟩
theorem wd384 : Cond.methodLink RX7 97 yX7_isOne ∈ gw := gw_of (List.mem_append_right _ (List.mem_of_getElem? (i := 884) (by decide +kernel))) (by decide +kernel)
theorem wd385 : Cond.instanceMethod yX7_isOne ∈ gw := gw_of (List.mem_append_right _ (List.mem_of_getElem? (i := 886) (by decide +kernel))) (by decide +kernel)
theorem wd386 : Cond.selects RX7 yX7_isOne yX7_isOne ∈ gw := gw_of (List.mem_append_left _ (List.mem_of_getElem? (i := 35) (by decide +kernel))) (by decide +kernel)
theorem wd387 : Cond.code yX7_isOne cX7_isOne 2 (some .boolean) ∈ gw := gw_of (List.mem_append_right _ (List.mem_of_getElem? (i := 887) (by decide +kernel))) (by decide +kernel)
theorem cwv_X7_97 : CWv RX7 97 yX7_isOne cX7_isOne 2 (some .boolean) 1 := ⟨wd384, wd385, wd386, wd110, wd387, (by decide +kernel), (by decide +kernel), (by decide +kernel), (by decide +kernel)⟩
theorem wd388 : Cond.methodLink RX7 100 yX7_isValue ∈ gw := gw_of (List.mem_append_right _ (List.mem_of_getElem? (i := 888) (by decide +kernel))) (by decide +kernel)
theorem wd389 : Cond.instanceMethod yX7_isValue ∈ gw := gw_of (List.mem_append_right _ (List.mem_of_getElem? (i := 890) (by decide +kernel))) (by decide +kernel)
theorem wd390 : Cond.selects RX7 yX7_isValue yX7_isValue ∈ gw := gw_of (List.mem_append_left _ (List.mem_of_getElem? (i := 36) (by decide +kernel))) (by decide +kernel)
theorem wd391 : Cond.code yX7_isValue cX7_isValue 4 (some .boolean) ∈ gw := gw_of (List.mem_append_right _ (List.mem_of_getElem? (i := 891) (by decide +kernel))) (by decide +kernel)
theorem cwv_X7_100 : CWv RX7 100 yX7_isValue cX7_isValue 4 (some .boolean) 3 := ⟨wd388, wd389, wd390, wd110, wd391, (by decide +kernel), (by decide +kernel), (by decide +kernel), (by decide +kernel)⟩
theorem wd392 : Cond.methodLink RX7 104 yX7_told ∈ gw := gw_of (List.mem_append_right _ (List.mem_of_getElem? (i := 906) (by decide +kernel))) (by decide +kernel)
theorem wd393 : Cond.instanceMethod yX7_told ∈ gw := gw_of (List.mem_append_right _ (List.mem_of_getElem? (i := 907) (by decide +kernel))) (by decide +kernel)
theorem wd394 : Cond.selects RX7 yX7_told yX7_told ∈ gw := gw_of (List.mem_append_right _ (List.mem_of_getElem? (i := 908) (by decide +kernel))) (by decide +kernel)
theorem wd395 : Cond.code yX7_told cX7_told 3 (some .int) ∈ gw := gw_of (List.mem_append_right _ (List.mem_of_getElem? (i := 909) (by decide +kernel))) (by decide +kernel)
theorem cwv_X7_104 : CWv RX7 104 yX7_told cX7_told 3 (some .int) 2 := ⟨wd392, wd393, wd394, wd110, wd395, (by decide +kernel), (by decide +kernel), (by decide +kernel), (by decide +kernel)⟩
theorem wd396 : Cond.methodLink RX7 108 yX7_lays ∈ gw := gw_of (List.mem_append_right _ (List.mem_of_getElem? (i := 1143) (by decide +kernel))) (by decide +kernel)
theorem wd397 : Cond.instanceMethod yX7_lays ∈ gw := gw_of (List.mem_append_right _ (List.mem_of_getElem? (i := 1145) (by decide +kernel))) (by decide +kernel)
theorem wd398 : Cond.selects RX7 yX7_lays yX7_lays ∈ gw := gw_of (List.mem_append_left _ (List.mem_of_getElem? (i := 93) (by decide +kernel))) (by decide +kernel)
theorem wd399 : Cond.code yX7_lays cX7_lays 4 none ∈ gw := gw_of (List.mem_append_right _ (List.mem_of_getElem? (i := 1146) (by decide +kernel))) (by decide +kernel)
theorem cwv_X7_108 : CWv RX7 108 yX7_lays cX7_lays 4 none 3 := ⟨wd396, wd397, wd398, wd110, wd399, (by decide +kernel), (by decide +kernel), (by decide +kernel), (by decide +kernel)⟩
theorem wd400 : Cond.constantLong RX7 358 (1010) ∈ gw := gw_of (List.mem_append_right _ (List.mem_of_getElem? (i := 1172) (by decide +kernel))) (by decide +kernel)
theorem wd401 : Cond.fieldLink RX7 32 RX7 "now" "[I" ∈ gw := gw_of (List.mem_append_right _ (List.mem_of_getElem? (i := 783) (by decide +kernel))) (by decide +kernel)
theorem wd402 : Cond.fieldLink RX7 35 RX7 "gained" "[I" ∈ gw := gw_of (List.mem_append_right _ (List.mem_of_getElem? (i := 784) (by decide +kernel))) (by decide +kernel)
theorem wd403 : Cond.constant RX7 360 (-99999) ∈ gw := gw_of (List.mem_append_right _ (List.mem_of_getElem? (i := 1177) (by decide +kernel))) (by decide +kernel)
theorem wd404 : Cond.constant RX7 361 (99999) ∈ gw := gw_of (List.mem_append_right _ (List.mem_of_getElem? (i := 1178) (by decide +kernel))) (by decide +kernel)
theorem wd405 : Cond.methodLink RX7 362 yX7_isTurnStep ∈ gw := gw_of (List.mem_append_right _ (List.mem_of_getElem? (i := 1169) (by decide +kernel))) (by decide +kernel)
theorem wd406 : Cond.static yX7_isTurnStep ∈ gw := gw_of (List.mem_append_right _ (List.mem_of_getElem? (i := 1170) (by decide +kernel))) (by decide +kernel)
theorem wd407 : Cond.code yX7_isTurnStep cX7_isTurnStep 1 (some .boolean) ∈ gw := gw_of (List.mem_append_right _ (List.mem_of_getElem? (i := 1171) (by decide +kernel))) (by decide +kernel)
theorem cws_X7_362 : CWs RX7 362 yX7_isTurnStep cX7_isTurnStep 1 (some .boolean) 1 := ⟨wd405, wd406, wd110, wd407, (by decide +kernel), (by decide +kernel), (by decide +kernel), (by decide +kernel)⟩
theorem wd408 : Cond.methodLink RX7 365 yX7_passes ∈ gw := gw_of (List.mem_append_right _ (List.mem_of_getElem? (i := 1173) (by decide +kernel))) (by decide +kernel)
theorem wd409 : Cond.instanceMethod yX7_passes ∈ gw := gw_of (List.mem_append_right _ (List.mem_of_getElem? (i := 1175) (by decide +kernel))) (by decide +kernel)
theorem wd410 : Cond.selects RX7 yX7_passes yX7_passes ∈ gw := gw_of (List.mem_append_left _ (List.mem_of_getElem? (i := 94) (by decide +kernel))) (by decide +kernel)
theorem wd411 : Cond.code yX7_passes cX7_passes 5 (some .int) ∈ gw := gw_of (List.mem_append_right _ (List.mem_of_getElem? (i := 1176) (by decide +kernel))) (by decide +kernel)
theorem cwv_X7_365 : CWv RX7 365 yX7_passes cX7_passes 5 (some .int) 2 := ⟨wd408, wd409, wd410, wd110, wd411, (by decide +kernel), (by decide +kernel), (by decide +kernel), (by decide +kernel)⟩
theorem wd412 : Cond.fieldLink RX7 368 RX7 "faceWas" "I" ∈ gw := gw_of (List.mem_append_right _ (List.mem_of_getElem? (i := 786) (by decide +kernel))) (by decide +kernel)
theorem wd413 : Cond.fieldLink RX7 371 RX7 "poseWas" "I" ∈ gw := gw_of (List.mem_append_right _ (List.mem_of_getElem? (i := 787) (by decide +kernel))) (by decide +kernel)
theorem wd414 : Cond.fieldLink RX7 38 RX7 "rowsWas" "[I" ∈ gw := gw_of (List.mem_append_right _ (List.mem_of_getElem? (i := 785) (by decide +kernel))) (by decide +kernel)
theorem wd415 : Cond.methodLink RX7 374 yX7_leastWho ∈ gw := gw_of (List.mem_append_right _ (List.mem_of_getElem? (i := 1200) (by decide +kernel))) (by decide +kernel)
theorem wd416 : Cond.instanceMethod yX7_leastWho ∈ gw := gw_of (List.mem_append_right _ (List.mem_of_getElem? (i := 1202) (by decide +kernel))) (by decide +kernel)
theorem wd417 : Cond.selects RX7 yX7_leastWho yX7_leastWho ∈ gw := gw_of (List.mem_append_left _ (List.mem_of_getElem? (i := 98) (by decide +kernel))) (by decide +kernel)
theorem wd418 : Cond.code yX7_leastWho cX7_leastWho 3 (some .int) ∈ gw := gw_of (List.mem_append_right _ (List.mem_of_getElem? (i := 1203) (by decide +kernel))) (by decide +kernel)
theorem cwv_X7_374 : CWv RX7 374 yX7_leastWho cX7_leastWho 3 (some .int) 0 := ⟨wd415, wd416, wd417, wd110, wd418, (by decide +kernel), (by decide +kernel), (by decide +kernel), (by decide +kernel)⟩
theorem wd419 : Cond.constantLong RX7 377 (15) ∈ gw := gw_of (List.mem_append_right _ (List.mem_of_getElem? (i := 1183) (by decide +kernel))) (by decide +kernel)
theorem wd420 : Cond.constantLong RX7 383 (40) ∈ gw := gw_of (List.mem_append_right _ (List.mem_of_getElem? (i := 1186) (by decide +kernel))) (by decide +kernel)
theorem wd421 : Cond.constantLong RX7 385 (3) ∈ gw := gw_of (List.mem_append_right _ (List.mem_of_getElem? (i := 1187) (by decide +kernel))) (by decide +kernel)
theorem wd422 : Cond.methodLink RX7 387 yX7_laysAside ∈ gw := gw_of (List.mem_append_right _ (List.mem_of_getElem? (i := 1188) (by decide +kernel))) (by decide +kernel)
theorem wd423 : Cond.instanceMethod yX7_laysAside ∈ gw := gw_of (List.mem_append_right _ (List.mem_of_getElem? (i := 1190) (by decide +kernel))) (by decide +kernel)
theorem wd424 : Cond.selects RX7 yX7_laysAside yX7_laysAside ∈ gw := gw_of (List.mem_append_left _ (List.mem_of_getElem? (i := 95) (by decide +kernel))) (by decide +kernel)
theorem wd425 : Cond.code yX7_laysAside cX7_laysAside 2 none ∈ gw := gw_of (List.mem_append_right _ (List.mem_of_getElem? (i := 1191) (by decide +kernel))) (by decide +kernel)
theorem cwv_X7_387 : CWv RX7 387 yX7_laysAside cX7_laysAside 2 none 0 := ⟨wd422, wd423, wd424, wd110, wd425, (by decide +kernel), (by decide +kernel), (by decide +kernel), (by decide +kernel)⟩
theorem wd426 : Cond.methodLink RX7 390 yX7_sumBy ∈ gw := gw_of (List.mem_append_right _ (List.mem_of_getElem? (i := 1192) (by decide +kernel))) (by decide +kernel)
theorem wd427 : Cond.instanceMethod yX7_sumBy ∈ gw := gw_of (List.mem_append_right _ (List.mem_of_getElem? (i := 1194) (by decide +kernel))) (by decide +kernel)
theorem wd428 : Cond.selects RX7 yX7_sumBy yX7_sumBy ∈ gw := gw_of (List.mem_append_left _ (List.mem_of_getElem? (i := 96) (by decide +kernel))) (by decide +kernel)
theorem wd429 : Cond.code yX7_sumBy cX7_sumBy 5 (some .int) ∈ gw := gw_of (List.mem_append_right _ (List.mem_of_getElem? (i := 1195) (by decide +kernel))) (by decide +kernel)
theorem cwv_X7_390 : CWv RX7 390 yX7_sumBy cX7_sumBy 5 (some .int) 2 := ⟨wd426, wd427, wd428, wd110, wd429, (by decide +kernel), (by decide +kernel), (by decide +kernel), (by decide +kernel)⟩
theorem wd430 : Cond.methodLink RX7 396 yX7_laysBack ∈ gw := gw_of (List.mem_append_right _ (List.mem_of_getElem? (i := 1204) (by decide +kernel))) (by decide +kernel)
theorem wd431 : Cond.instanceMethod yX7_laysBack ∈ gw := gw_of (List.mem_append_right _ (List.mem_of_getElem? (i := 1206) (by decide +kernel))) (by decide +kernel)
theorem wd432 : Cond.selects RX7 yX7_laysBack yX7_laysBack ∈ gw := gw_of (List.mem_append_left _ (List.mem_of_getElem? (i := 99) (by decide +kernel))) (by decide +kernel)
theorem wd433 : Cond.code yX7_laysBack cX7_laysBack 2 none ∈ gw := gw_of (List.mem_append_right _ (List.mem_of_getElem? (i := 1207) (by decide +kernel))) (by decide +kernel)
theorem cwv_X7_396 : CWv RX7 396 yX7_laysBack cX7_laysBack 2 none 0 := ⟨wd430, wd431, wd432, wd110, wd433, (by decide +kernel), (by decide +kernel), (by decide +kernel), (by decide +kernel)⟩
theorem wd434 : Cond.methodLink RX7 393 yX7_leastOf ∈ gw := gw_of (List.mem_append_right _ (List.mem_of_getElem? (i := 1196) (by decide +kernel))) (by decide +kernel)
theorem wd435 : Cond.instanceMethod yX7_leastOf ∈ gw := gw_of (List.mem_append_right _ (List.mem_of_getElem? (i := 1198) (by decide +kernel))) (by decide +kernel)
theorem wd436 : Cond.selects RX7 yX7_leastOf yX7_leastOf ∈ gw := gw_of (List.mem_append_left _ (List.mem_of_getElem? (i := 97) (by decide +kernel))) (by decide +kernel)
theorem wd437 : Cond.code yX7_leastOf cX7_leastOf 1 (some .int) ∈ gw := gw_of (List.mem_append_right _ (List.mem_of_getElem? (i := 1199) (by decide +kernel))) (by decide +kernel)
theorem cwv_X7_393 : CWv RX7 393 yX7_leastOf cX7_leastOf 1 (some .int) 0 := ⟨wd434, wd435, wd436, wd110, wd437, (by decide +kernel), (by decide +kernel), (by decide +kernel), (by decide +kernel)⟩
theorem wd438 : Cond.constantLong RX7 379 (20) ∈ gw := gw_of (List.mem_append_right _ (List.mem_of_getElem? (i := 1184) (by decide +kernel))) (by decide +kernel)
theorem wd439 : Cond.constantLong RX7 381 (25) ∈ gw := gw_of (List.mem_append_right _ (List.mem_of_getElem? (i := 1185) (by decide +kernel))) (by decide +kernel)
theorem wd440 : Cond.methodLink RX7 399 yX7_freeSet ∈ gw := gw_of (List.mem_append_right _ (List.mem_of_getElem? (i := 1220) (by decide +kernel))) (by decide +kernel)
theorem wd441 : Cond.instanceMethod yX7_freeSet ∈ gw := gw_of (List.mem_append_right _ (List.mem_of_getElem? (i := 1222) (by decide +kernel))) (by decide +kernel)
theorem wd442 : Cond.selects RX7 yX7_freeSet yX7_freeSet ∈ gw := gw_of (List.mem_append_left _ (List.mem_of_getElem? (i := 102) (by decide +kernel))) (by decide +kernel)
theorem wd443 : Cond.code yX7_freeSet cX7_freeSet 3 (some .int) ∈ gw := gw_of (List.mem_append_right _ (List.mem_of_getElem? (i := 1223) (by decide +kernel))) (by decide +kernel)
theorem cwv_X7_399 : CWv RX7 399 yX7_freeSet cX7_freeSet 3 (some .int) 0 := ⟨wd440, wd441, wd442, wd110, wd443, (by decide +kernel), (by decide +kernel), (by decide +kernel), (by decide +kernel)⟩
theorem wd444 : Cond.methodLink RX7 408 yX7_worstEasel ∈ gw := gw_of (List.mem_append_right _ (List.mem_of_getElem? (i := 1224) (by decide +kernel))) (by decide +kernel)
theorem wd445 : Cond.instanceMethod yX7_worstEasel ∈ gw := gw_of (List.mem_append_right _ (List.mem_of_getElem? (i := 1226) (by decide +kernel))) (by decide +kernel)
theorem wd446 : Cond.selects RX7 yX7_worstEasel yX7_worstEasel ∈ gw := gw_of (List.mem_append_left _ (List.mem_of_getElem? (i := 103) (by decide +kernel))) (by decide +kernel)
theorem wd447 : Cond.code yX7_worstEasel cX7_worstEasel 7 (some .int) ∈ gw := gw_of (List.mem_append_right _ (List.mem_of_getElem? (i := 1227) (by decide +kernel))) (by decide +kernel)
theorem cwv_X7_408 : CWv RX7 408 yX7_worstEasel cX7_worstEasel 7 (some .int) 0 := ⟨wd444, wd445, wd446, wd110, wd447, (by decide +kernel), (by decide +kernel), (by decide +kernel), (by decide +kernel)⟩
theorem wd448 : Cond.methodLink RX7 405 yX7_mostWho ∈ gw := gw_of (List.mem_append_right _ (List.mem_of_getElem? (i := 1216) (by decide +kernel))) (by decide +kernel)
theorem wd449 : Cond.instanceMethod yX7_mostWho ∈ gw := gw_of (List.mem_append_right _ (List.mem_of_getElem? (i := 1218) (by decide +kernel))) (by decide +kernel)
theorem wd450 : Cond.selects RX7 yX7_mostWho yX7_mostWho ∈ gw := gw_of (List.mem_append_left _ (List.mem_of_getElem? (i := 101) (by decide +kernel))) (by decide +kernel)
theorem wd451 : Cond.code yX7_mostWho cX7_mostWho 3 (some .int) ∈ gw := gw_of (List.mem_append_right _ (List.mem_of_getElem? (i := 1219) (by decide +kernel))) (by decide +kernel)
theorem cwv_X7_405 : CWv RX7 405 yX7_mostWho cX7_mostWho 3 (some .int) 0 := ⟨wd448, wd449, wd450, wd110, wd451, (by decide +kernel), (by decide +kernel), (by decide +kernel), (by decide +kernel)⟩
theorem wd452 : Cond.methodLink RX7 402 yX7_wholeNow ∈ gw := gw_of (List.mem_append_right _ (List.mem_of_getElem? (i := 1212) (by decide +kernel))) (by decide +kernel)
theorem wd453 : Cond.instanceMethod yX7_wholeNow ∈ gw := gw_of (List.mem_append_right _ (List.mem_of_getElem? (i := 1214) (by decide +kernel))) (by decide +kernel)
theorem wd454 : Cond.selects RX7 yX7_wholeNow yX7_wholeNow ∈ gw := gw_of (List.mem_append_left _ (List.mem_of_getElem? (i := 100) (by decide +kernel))) (by decide +kernel)
theorem wd455 : Cond.code yX7_wholeNow cX7_wholeNow 3 (some .int) ∈ gw := gw_of (List.mem_append_right _ (List.mem_of_getElem? (i := 1215) (by decide +kernel))) (by decide +kernel)
theorem cwv_X7_402 : CWv RX7 402 yX7_wholeNow cX7_wholeNow 3 (some .int) 0 := ⟨wd452, wd453, wd454, wd110, wd455, (by decide +kernel), (by decide +kernel), (by decide +kernel), (by decide +kernel)⟩
theorem wd456 : Cond.constantLong RX7 411 (-4611686018427387904) ∈ gw := gw_of (List.mem_append_right _ (List.mem_of_getElem? (i := 1232) (by decide +kernel))) (by decide +kernel)
theorem wd457 : Cond.methodLink RX7 413 yX7_run ∈ gw := gw_of (List.mem_append_right _ (List.mem_of_getElem? (i := 1233) (by decide +kernel))) (by decide +kernel)
theorem wd458 : Cond.instanceMethod yX7_run ∈ gw := gw_of (List.mem_append_right _ (List.mem_of_getElem? (i := 1180) (by decide +kernel))) (by decide +kernel)
theorem wd459 : Cond.selects RX7 yX7_run yX7_run ∈ gw := gw_of (List.mem_append_right _ (List.mem_of_getElem? (i := 1181) (by decide +kernel))) (by decide +kernel)
theorem wd460 : Cond.code yX7_run cX7_run 8 (some .int) ∈ gw := gw_of (List.mem_append_right _ (List.mem_of_getElem? (i := 1182) (by decide +kernel))) (by decide +kernel)
theorem cwv_X7_413 : CWv RX7 413 yX7_run cX7_run 8 (some .int) 3 := ⟨wd457, wd458, wd459, wd110, wd460, (by decide +kernel), (by decide +kernel), (by decide +kernel), (by decide +kernel)⟩
theorem wd461 : Cond.methodLink RX7 416 yX7_lowest ∈ gw := gw_of (List.mem_append_right _ (List.mem_of_getElem? (i := 1234) (by decide +kernel))) (by decide +kernel)
theorem wd462 : Cond.static yX7_lowest ∈ gw := gw_of (List.mem_append_right _ (List.mem_of_getElem? (i := 1235) (by decide +kernel))) (by decide +kernel)
theorem wd463 : Cond.code yX7_lowest cX7_lowest 11 (some .long) ∈ gw := gw_of (List.mem_append_right _ (List.mem_of_getElem? (i := 1236) (by decide +kernel))) (by decide +kernel)
theorem cws_X7_416 : CWs RX7 416 yX7_lowest cX7_lowest 11 (some .long) 3 := ⟨wd461, wd462, wd110, wd463, (by decide +kernel), (by decide +kernel), (by decide +kernel), (by decide +kernel)⟩
theorem wd464 : Cond.methodLink RX7 420 yX7_swaps ∈ gw := gw_of (List.mem_append_right _ (List.mem_of_getElem? (i := 1254) (by decide +kernel))) (by decide +kernel)
theorem wd465 : Cond.instanceMethod yX7_swaps ∈ gw := gw_of (List.mem_append_right _ (List.mem_of_getElem? (i := 1256) (by decide +kernel))) (by decide +kernel)
theorem wd466 : Cond.selects RX7 yX7_swaps yX7_swaps ∈ gw := gw_of (List.mem_append_left _ (List.mem_of_getElem? (i := 105) (by decide +kernel))) (by decide +kernel)
theorem wd467 : Cond.code yX7_swaps cX7_swaps 4 none ∈ gw := gw_of (List.mem_append_right _ (List.mem_of_getElem? (i := 1257) (by decide +kernel))) (by decide +kernel)
theorem cwv_X7_420 : CWv RX7 420 yX7_swaps cX7_swaps 4 none 2 := ⟨wd464, wd465, wd466, wd110, wd467, (by decide +kernel), (by decide +kernel), (by decide +kernel), (by decide +kernel)⟩
theorem wd468 : Cond.constantLong RX7 424 (7) ∈ gw := gw_of (List.mem_append_right _ (List.mem_of_getElem? (i := 1249) (by decide +kernel))) (by decide +kernel)
theorem wd469 : Cond.methodLink RX7 429 yX7_placed ∈ gw := gw_of (List.mem_append_right _ (List.mem_of_getElem? (i := 1258) (by decide +kernel))) (by decide +kernel)
theorem wd470 : Cond.instanceMethod yX7_placed ∈ gw := gw_of (List.mem_append_right _ (List.mem_of_getElem? (i := 1260) (by decide +kernel))) (by decide +kernel)
theorem wd471 : Cond.selects RX7 yX7_placed yX7_placed ∈ gw := gw_of (List.mem_append_left _ (List.mem_of_getElem? (i := 106) (by decide +kernel))) (by decide +kernel)
theorem wd472 : Cond.code yX7_placed cX7_placed 8 (some .int) ∈ gw := gw_of (List.mem_append_right _ (List.mem_of_getElem? (i := 1261) (by decide +kernel))) (by decide +kernel)
theorem cwv_X7_429 : CWv RX7 429 yX7_placed cX7_placed 8 (some .int) 2 := ⟨wd469, wd470, wd471, wd110, wd472, (by decide +kernel), (by decide +kernel), (by decide +kernel), (by decide +kernel)⟩
theorem wd473 : Cond.methodLink RX7 426 yX7_changed ∈ gw := gw_of (List.mem_append_right _ (List.mem_of_getElem? (i := 1250) (by decide +kernel))) (by decide +kernel)
theorem wd474 : Cond.instanceMethod yX7_changed ∈ gw := gw_of (List.mem_append_right _ (List.mem_of_getElem? (i := 1252) (by decide +kernel))) (by decide +kernel)
theorem wd475 : Cond.selects RX7 yX7_changed yX7_changed ∈ gw := gw_of (List.mem_append_left _ (List.mem_of_getElem? (i := 104) (by decide +kernel))) (by decide +kernel)
theorem wd476 : Cond.code yX7_changed cX7_changed 7 (some .int) ∈ gw := gw_of (List.mem_append_right _ (List.mem_of_getElem? (i := 1253) (by decide +kernel))) (by decide +kernel)
theorem cwv_X7_426 : CWv RX7 426 yX7_changed cX7_changed 7 (some .int) 1 := ⟨wd473, wd474, wd475, wd110, wd476, (by decide +kernel), (by decide +kernel), (by decide +kernel), (by decide +kernel)⟩
theorem wd477 : Cond.fieldLink RX7 57 RX7 "sheetSize" "[I" ∈ gw := gw_of (List.mem_append_right _ (List.mem_of_getElem? (i := 794) (by decide +kernel))) (by decide +kernel)
theorem wd478 : Cond.fieldLink RX7 60 RX7 "items" "[I" ∈ gw := gw_of (List.mem_append_right _ (List.mem_of_getElem? (i := 795) (by decide +kernel))) (by decide +kernel)
theorem wd479 : Cond.methodLink RX7 433 yX7_isSheet ∈ gw := gw_of (List.mem_append_right _ (List.mem_of_getElem? (i := 1270) (by decide +kernel))) (by decide +kernel)
theorem wd480 : Cond.static yX7_isSheet ∈ gw := gw_of (List.mem_append_right _ (List.mem_of_getElem? (i := 1271) (by decide +kernel))) (by decide +kernel)
theorem wd481 : Cond.code yX7_isSheet cX7_isSheet 1 (some .boolean) ∈ gw := gw_of (List.mem_append_right _ (List.mem_of_getElem? (i := 1272) (by decide +kernel))) (by decide +kernel)
theorem cws_X7_433 : CWs RX7 433 yX7_isSheet cX7_isSheet 1 (some .boolean) 1 := ⟨wd479, wd480, wd110, wd481, (by decide +kernel), (by decide +kernel), (by decide +kernel), (by decide +kernel)⟩
theorem wd482 : Cond.fieldLink RX7 50 RX7 "isThere" "[Z" ∈ gw := gw_of (List.mem_append_right _ (List.mem_of_getElem? (i := 792) (by decide +kernel))) (by decide +kernel)
theorem wd483 : Cond.methodLink RX7 436 yX7_firstOther ∈ gw := gw_of (List.mem_append_right _ (List.mem_of_getElem? (i := 1273) (by decide +kernel))) (by decide +kernel)
theorem wd484 : Cond.instanceMethod yX7_firstOther ∈ gw := gw_of (List.mem_append_right _ (List.mem_of_getElem? (i := 1275) (by decide +kernel))) (by decide +kernel)
theorem wd485 : Cond.selects RX7 yX7_firstOther yX7_firstOther ∈ gw := gw_of (List.mem_append_left _ (List.mem_of_getElem? (i := 107) (by decide +kernel))) (by decide +kernel)
theorem wd486 : Cond.code yX7_firstOther cX7_firstOther 6 (some .int) ∈ gw := gw_of (List.mem_append_right _ (List.mem_of_getElem? (i := 1276) (by decide +kernel))) (by decide +kernel)
theorem cwv_X7_436 : CWv RX7 436 yX7_firstOther cX7_firstOther 6 (some .int) 3 := ⟨wd483, wd484, wd485, wd110, wd486, (by decide +kernel), (by decide +kernel), (by decide +kernel), (by decide +kernel)⟩
theorem wd487 : Cond.constantLong RX7 453 (-1) ∈ gw := gw_of (List.mem_append_right _ (List.mem_of_getElem? (i := 1285) (by decide +kernel))) (by decide +kernel)
theorem wd488 : Cond.constantLong RX7 455 (2) ∈ gw := gw_of (List.mem_append_right _ (List.mem_of_getElem? (i := 1286) (by decide +kernel))) (by decide +kernel)
theorem wd489 : Cond.fieldLink RX7 54 RX7 "sorts" "[I" ∈ gw := gw_of (List.mem_append_right _ (List.mem_of_getElem? (i := 793) (by decide +kernel))) (by decide +kernel)
theorem wd490 : Cond.methodLink RX7 439 yX7_sheet ∈ gw := gw_of (List.mem_append_right _ (List.mem_of_getElem? (i := 1281) (by decide +kernel))) (by decide +kernel)
theorem wd491 : Cond.instanceMethod yX7_sheet ∈ gw := gw_of (List.mem_append_right _ (List.mem_of_getElem? (i := 1282) (by decide +kernel))) (by decide +kernel)
theorem wd492 : Cond.selects RX7 yX7_sheet yX7_sheet ∈ gw := gw_of (List.mem_append_right _ (List.mem_of_getElem? (i := 1283) (by decide +kernel))) (by decide +kernel)
theorem wd493 : Cond.code yX7_sheet cX7_sheet 5 (some .int) ∈ gw := gw_of (List.mem_append_right _ (List.mem_of_getElem? (i := 1284) (by decide +kernel))) (by decide +kernel)
theorem cwv_X7_439 : CWv RX7 439 yX7_sheet cX7_sheet 5 (some .int) 3 := ⟨wd490, wd491, wd492, wd110, wd493, (by decide +kernel), (by decide +kernel), (by decide +kernel), (by decide +kernel)⟩
theorem wd494 : Cond.constant RX7 442 (1103515245) ∈ gw := gw_of (List.mem_append_right _ (List.mem_of_getElem? (i := 1295) (by decide +kernel))) (by decide +kernel)
theorem wd495 : Cond.methodLink RX7 443 yX7_sumDrawn ∈ gw := gw_of (List.mem_append_right _ (List.mem_of_getElem? (i := 1291) (by decide +kernel))) (by decide +kernel)
theorem wd496 : Cond.instanceMethod yX7_sumDrawn ∈ gw := gw_of (List.mem_append_right _ (List.mem_of_getElem? (i := 1293) (by decide +kernel))) (by decide +kernel)
theorem wd497 : Cond.selects RX7 yX7_sumDrawn yX7_sumDrawn ∈ gw := gw_of (List.mem_append_left _ (List.mem_of_getElem? (i := 108) (by decide +kernel))) (by decide +kernel)
theorem wd498 : Cond.code yX7_sumDrawn cX7_sumDrawn 6 (some .int) ∈ gw := gw_of (List.mem_append_right _ (List.mem_of_getElem? (i := 1294) (by decide +kernel))) (by decide +kernel)
theorem cwv_X7_443 : CWv RX7 443 yX7_sumDrawn cX7_sumDrawn 6 (some .int) 2 := ⟨wd495, wd496, wd497, wd110, wd498, (by decide +kernel), (by decide +kernel), (by decide +kernel), (by decide +kernel)⟩
theorem wd499 : Cond.constantLong RX7 446 (-99999) ∈ gw := gw_of (List.mem_append_right _ (List.mem_of_getElem? (i := 1300) (by decide +kernel))) (by decide +kernel)
theorem wd500 : Cond.constantLong RX7 448 (99999) ∈ gw := gw_of (List.mem_append_right _ (List.mem_of_getElem? (i := 1301) (by decide +kernel))) (by decide +kernel)
theorem wd501 : Cond.fieldLink RX7 47 RX7 "manyKept" "I" ∈ gw := gw_of (List.mem_append_right _ (List.mem_of_getElem? (i := 790) (by decide +kernel))) (by decide +kernel)
theorem wd502 : Cond.fieldLink RX7 450 RX7 "ruleKept" "I" ∈ gw := gw_of (List.mem_append_right _ (List.mem_of_getElem? (i := 791) (by decide +kernel))) (by decide +kernel)
theorem wd503 : Cond.fieldLink RX7 44 RX7 "rowsKept" "[I" ∈ gw := gw_of (List.mem_append_right _ (List.mem_of_getElem? (i := 789) (by decide +kernel))) (by decide +kernel)
theorem wd504 : Cond.fieldLink RX7 41 RX7 "roomKept" "[I" ∈ gw := gw_of (List.mem_append_right _ (List.mem_of_getElem? (i := 788) (by decide +kernel))) (by decide +kernel)
theorem wd505 : Cond.constantLong RX7 457 (6) ∈ gw := gw_of (List.mem_append_right _ (List.mem_of_getElem? (i := 1327) (by decide +kernel))) (by decide +kernel)
theorem wd506 : Cond.methodLink RX7 459 yX7_painter ∈ gw := gw_of (List.mem_append_right _ (List.mem_of_getElem? (i := 1328) (by decide +kernel))) (by decide +kernel)
theorem wd507 : Cond.instanceMethod yX7_painter ∈ gw := gw_of (List.mem_append_right _ (List.mem_of_getElem? (i := 1148) (by decide +kernel))) (by decide +kernel)
theorem wd508 : Cond.selects RX7 yX7_painter yX7_painter ∈ gw := gw_of (List.mem_append_right _ (List.mem_of_getElem? (i := 1149) (by decide +kernel))) (by decide +kernel)
theorem wd509 : Cond.code yX7_painter cX7_painter 4 (some .int) ∈ gw := gw_of (List.mem_append_right _ (List.mem_of_getElem? (i := 1150) (by decide +kernel))) (by decide +kernel)
theorem cwv_X7_459 : CWv RX7 459 yX7_painter cX7_painter 4 (some .int) 3 := ⟨wd506, wd507, wd508, wd110, wd509, (by decide +kernel), (by decide +kernel), (by decide +kernel), (by decide +kernel)⟩
theorem wd510 : Cond.methodLink RX7 462 yX7_over ∈ gw := gw_of (List.mem_append_right _ (List.mem_of_getElem? (i := 1333) (by decide +kernel))) (by decide +kernel)
theorem wd511 : Cond.static yX7_over ∈ gw := gw_of (List.mem_append_right _ (List.mem_of_getElem? (i := 1334) (by decide +kernel))) (by decide +kernel)
theorem wd512 : Cond.code yX7_over cX7_over 1 (some .int) ∈ gw := gw_of (List.mem_append_right _ (List.mem_of_getElem? (i := 1335) (by decide +kernel))) (by decide +kernel)
theorem cws_X7_462 : CWs RX7 462 yX7_over cX7_over 1 (some .int) 1 := ⟨wd510, wd511, wd110, wd512, (by decide +kernel), (by decide +kernel), (by decide +kernel), (by decide +kernel)⟩
theorem wd513 : Cond.fieldLink RX4 28 RX2 "easel" "[I" ∈ gw := gw_of (List.mem_append_right _ (List.mem_of_getElem? (i := 52) (by decide +kernel))) (by decide +kernel)
theorem wd514 : Cond.methodLink RX4 33 yX2_sideOf ∈ gw := gw_of (List.mem_append_right _ (List.mem_of_getElem? (i := 438) (by decide +kernel))) (by decide +kernel)
theorem cwv_X4_33 : CWv RX4 33 yX2_sideOf cX2_sideOf 2 (some .int) 1 := ⟨wd514, wd30, wd31, wd17, wd32, (by decide +kernel), (by decide +kernel), (by decide +kernel), (by decide +kernel)⟩
theorem wd515 : Cond.fieldLink RX4 37 RX2 "lamp" "I" ∈ gw := gw_of (List.mem_append_right _ (List.mem_of_getElem? (i := 33) (by decide +kernel))) (by decide +kernel)
theorem wd516 : Cond.methodLink RX4 40 yX2_awayOf ∈ gw := gw_of (List.mem_append_right _ (List.mem_of_getElem? (i := 439) (by decide +kernel))) (by decide +kernel)
theorem cws_X4_40 : CWs RX4 40 yX2_awayOf cX2_awayOf 3 (some .int) 2 := ⟨wd516, wd27, wd17, wd28, (by decide +kernel), (by decide +kernel), (by decide +kernel), (by decide +kernel)⟩
theorem wd517 : Cond.fieldLink RX4 44 RX2 "stove" "I" ∈ gw := gw_of (List.mem_append_right _ (List.mem_of_getElem? (i := 36) (by decide +kernel))) (by decide +kernel)
theorem wd518 : Cond.fieldLink RX4 47 RX2 "number" "[I" ∈ gw := gw_of (List.mem_append_right _ (List.mem_of_getElem? (i := 49) (by decide +kernel))) (by decide +kernel)
theorem wd519 : Cond.fieldLink RX4 50 RX2 "pose" "I" ∈ gw := gw_of (List.mem_append_right _ (List.mem_of_getElem? (i := 39) (by decide +kernel))) (by decide +kernel)
theorem wd520 : Cond.methodLink RX4 53 yX2_nearOf ∈ gw := gw_of (List.mem_append_right _ (List.mem_of_getElem? (i := 446) (by decide +kernel))) (by decide +kernel)
theorem wd521 : Cond.instanceMethod yX2_nearOf ∈ gw := gw_of (List.mem_append_right _ (List.mem_of_getElem? (i := 447) (by decide +kernel))) (by decide +kernel)
theorem wd522 : Cond.selects RX2 yX2_nearOf yX2_nearOf ∈ gw := gw_of (List.mem_append_right _ (List.mem_of_getElem? (i := 448) (by decide +kernel))) (by decide +kernel)
theorem wd523 : Cond.code yX2_nearOf cX2_nearOf 4 (some .int) ∈ gw := gw_of (List.mem_append_right _ (List.mem_of_getElem? (i := 449) (by decide +kernel))) (by decide +kernel)
theorem cwv_X4_53 : CWv RX4 53 yX2_nearOf cX2_nearOf 4 (some .int) 1 := ⟨wd520, wd521, wd522, wd17, wd523, (by decide +kernel), (by decide +kernel), (by decide +kernel), (by decide +kernel)⟩
theorem wd524 : Cond.fieldLink RX4 56 RX2 "rule" "I" ∈ gw := gw_of (List.mem_append_right _ (List.mem_of_getElem? (i := 42) (by decide +kernel))) (by decide +kernel)
theorem wd525 : Cond.fieldLink RX4 15 RX4 "stack" "[I" ∈ gw := gw_of (List.mem_append_right _ (List.mem_of_getElem? (i := 128) (by decide +kernel))) (by decide +kernel)
theorem wd526 : Cond.methodLink RX4 59 yX5_tell ∈ gw := gw_of (List.mem_append_right _ (List.mem_of_getElem? (i := 451) (by decide +kernel))) (by decide +kernel)
theorem wd527 : Cond.instanceMethod yX5_tell ∈ gw := gw_of (List.mem_append_right _ (List.mem_of_getElem? (i := 452) (by decide +kernel))) (by decide +kernel)
theorem wd528 : Cond.selects RX5 yX5_tell yX5_tell ∈ gw := gw_of (List.mem_append_right _ (List.mem_of_getElem? (i := 453) (by decide +kernel))) (by decide +kernel)
theorem wd529 : Cond.code yX5_tell cX5_tell 8 (some .int) ∈ gw := gw_of (List.mem_append_right _ (List.mem_of_getElem? (i := 454) (by decide +kernel))) (by decide +kernel)
theorem cwv_X4_59 : CWv RX4 59 yX5_tell cX5_tell 8 (some .int) 3 := ⟨wd526, wd527, wd528, wd57, wd529, (by decide +kernel), (by decide +kernel), (by decide +kernel), (by decide +kernel)⟩
theorem xinX6 : ∀ w ∈ u_ws RX6 TX6 10, w ∈ gw := by
  have h : (u_ws RX6 TX6 10).all (fun w => decide (w ∈ lw_tbl) && goodWord w) = true := by decide +kernel
  intro w hw
  have h1 := List.all_eq_true.mp h w hw
  simp only [Bool.and_eq_true, decide_eq_true_eq] at h1
  exact gw_of h1.1 h1.2
theorem wd530 : Cond.fieldLink RX6 46 RX6 "sight" "LRoundTheModel$Sight;" ∈ gw := gw_of (List.mem_append_right _ (List.mem_of_getElem? (i := 349) (by decide +kernel))) (by decide +kernel)
theorem wd531 : Cond.fieldLink RX6 35 RX6 "texts" "[LRoundTheModel$Text;" ∈ gw := gw_of (List.mem_append_right _ (List.mem_of_getElem? (i := 347) (by decide +kernel))) (by decide +kernel)
theorem wd532 : Cond.methodLink RX6 123 yX4_see ∈ gw := gw_of (List.mem_append_right _ (List.mem_of_getElem? (i := 434) (by decide +kernel))) (by decide +kernel)
theorem wd533 : Cond.instanceMethod yX4_see ∈ gw := gw_of (List.mem_append_right _ (List.mem_of_getElem? (i := 435) (by decide +kernel))) (by decide +kernel)
theorem wd534 : Cond.selects RX4 yX4_see yX4_see ∈ gw := gw_of (List.mem_append_right _ (List.mem_of_getElem? (i := 436) (by decide +kernel))) (by decide +kernel)
theorem wd535 : Cond.code yX4_see cX4_see 6 none ∈ gw := gw_of (List.mem_append_right _ (List.mem_of_getElem? (i := 437) (by decide +kernel))) (by decide +kernel)
theorem cwv_X6_123 : CWv RX6 123 yX4_see cX4_see 6 none 3 := ⟨wd532, wd533, wd534, wd69, wd535, (by decide +kernel), (by decide +kernel), (by decide +kernel), (by decide +kernel)⟩
theorem wd536 : Cond.fieldLink RX6 127 RX2 "kind" "[I" ∈ gw := gw_of (List.mem_append_right _ (List.mem_of_getElem? (i := 47) (by decide +kernel))) (by decide +kernel)
theorem wd537 : Cond.methodLink RX6 131 yX4_view ∈ gw := gw_of (List.mem_append_right _ (List.mem_of_getElem? (i := 468) (by decide +kernel))) (by decide +kernel)
theorem wd538 : Cond.instanceMethod yX4_view ∈ gw := gw_of (List.mem_append_right _ (List.mem_of_getElem? (i := 469) (by decide +kernel))) (by decide +kernel)
theorem wd539 : Cond.selects RX4 yX4_view yX4_view ∈ gw := gw_of (List.mem_append_right _ (List.mem_of_getElem? (i := 470) (by decide +kernel))) (by decide +kernel)
theorem wd540 : Cond.code yX4_view cX4_view 2 (some .int) ∈ gw := gw_of (List.mem_append_right _ (List.mem_of_getElem? (i := 471) (by decide +kernel))) (by decide +kernel)
theorem cwv_X6_131 : CWv RX6 131 yX4_view cX4_view 2 (some .int) 1 := ⟨wd537, wd538, wd539, wd69, wd540, (by decide +kernel), (by decide +kernel), (by decide +kernel), (by decide +kernel)⟩
theorem wd541 : Cond.methodLink RX6 135 yX4_warmth ∈ gw := gw_of (List.mem_append_right _ (List.mem_of_getElem? (i := 484) (by decide +kernel))) (by decide +kernel)
theorem wd542 : Cond.instanceMethod yX4_warmth ∈ gw := gw_of (List.mem_append_right _ (List.mem_of_getElem? (i := 485) (by decide +kernel))) (by decide +kernel)
theorem wd543 : Cond.selects RX4 yX4_warmth yX4_warmth ∈ gw := gw_of (List.mem_append_right _ (List.mem_of_getElem? (i := 486) (by decide +kernel))) (by decide +kernel)
theorem wd544 : Cond.code yX4_warmth cX4_warmth 2 (some .int) ∈ gw := gw_of (List.mem_append_right _ (List.mem_of_getElem? (i := 487) (by decide +kernel))) (by decide +kernel)
theorem cwv_X6_135 : CWv RX6 135 yX4_warmth cX4_warmth 2 (some .int) 1 := ⟨wd541, wd542, wd543, wd69, wd544, (by decide +kernel), (by decide +kernel), (by decide +kernel), (by decide +kernel)⟩
theorem wd545 : Cond.methodLink RX6 138 yX4_minding ∈ gw := gw_of (List.mem_append_right _ (List.mem_of_getElem? (i := 496) (by decide +kernel))) (by decide +kernel)
theorem wd546 : Cond.instanceMethod yX4_minding ∈ gw := gw_of (List.mem_append_right _ (List.mem_of_getElem? (i := 497) (by decide +kernel))) (by decide +kernel)
theorem wd547 : Cond.selects RX4 yX4_minding yX4_minding ∈ gw := gw_of (List.mem_append_right _ (List.mem_of_getElem? (i := 498) (by decide +kernel))) (by decide +kernel)
theorem wd548 : Cond.code yX4_minding cX4_minding 2 (some .int) ∈ gw := gw_of (List.mem_append_right _ (List.mem_of_getElem? (i := 499) (by decide +kernel))) (by decide +kernel)
theorem cwv_X6_138 : CWv RX6 138 yX4_minding cX4_minding 2 (some .int) 1 := ⟨wd545, wd546, wd547, wd69, wd548, (by decide +kernel), (by decide +kernel), (by decide +kernel), (by decide +kernel)⟩
theorem wd549 : Cond.fieldLink RX6 113 RX2 "painters" "I" ∈ gw := gw_of (List.mem_append_right _ (List.mem_of_getElem? (i := 45) (by decide +kernel))) (by decide +kernel)
theorem wd550 : Cond.methodLink RX6 141 yX6_pleasedBy ∈ gw := gw_of (List.mem_append_right _ (List.mem_of_getElem? (i := 504) (by decide +kernel))) (by decide +kernel)
theorem wd551 : Cond.instanceMethod yX6_pleasedBy ∈ gw := gw_of (List.mem_append_right _ (List.mem_of_getElem? (i := 506) (by decide +kernel))) (by decide +kernel)
theorem wd552 : Cond.selects RX6 yX6_pleasedBy yX6_pleasedBy ∈ gw := gw_of (List.mem_append_left _ (List.mem_of_getElem? (i := 21) (by decide +kernel))) (by decide +kernel)
theorem wd553 : Cond.code yX6_pleasedBy cX6_pleasedBy 4 (some .int) ∈ gw := gw_of (List.mem_append_right _ (List.mem_of_getElem? (i := 507) (by decide +kernel))) (by decide +kernel)
theorem cwv_X6_141 : CWv RX6 141 yX6_pleasedBy cX6_pleasedBy 4 (some .int) 2 := ⟨wd550, wd551, wd552, wd12, wd553, (by decide +kernel), (by decide +kernel), (by decide +kernel), (by decide +kernel)⟩
theorem wd554 : Cond.fieldLink RX6 12 RX6 "now" "LRoundTheModel$Ring;" ∈ gw := gw_of (List.mem_append_right _ (List.mem_of_getElem? (i := 342) (by decide +kernel))) (by decide +kernel)
theorem wd555 : Cond.fieldLink RX6 145 RX4 "names" "[I" ∈ gw := gw_of (List.mem_append_right _ (List.mem_of_getElem? (i := 127) (by decide +kernel))) (by decide +kernel)
theorem wd556 : Cond.methodLink RX6 251 yX2_haveSides ∈ gw := gw_of (List.mem_append_right _ (List.mem_of_getElem? (i := 542) (by decide +kernel))) (by decide +kernel)
theorem wd557 : Cond.instanceMethod yX2_haveSides ∈ gw := gw_of (List.mem_append_right _ (List.mem_of_getElem? (i := 543) (by decide +kernel))) (by decide +kernel)
theorem wd558 : Cond.selects RX2 yX2_haveSides yX2_haveSides ∈ gw := gw_of (List.mem_append_right _ (List.mem_of_getElem? (i := 544) (by decide +kernel))) (by decide +kernel)
theorem wd559 : Cond.code yX2_haveSides cX2_haveSides 2 none ∈ gw := gw_of (List.mem_append_right _ (List.mem_of_getElem? (i := 545) (by decide +kernel))) (by decide +kernel)
theorem cwv_X6_251 : CWv RX6 251 yX2_haveSides cX2_haveSides 2 none 0 := ⟨wd556, wd557, wd558, wd17, wd559, (by decide +kernel), (by decide +kernel), (by decide +kernel), (by decide +kernel)⟩
theorem wd560 : Cond.methodLink RX6 254 yX2_move ∈ gw := gw_of (List.mem_append_right _ (List.mem_of_getElem? (i := 546) (by decide +kernel))) (by decide +kernel)
theorem wd561 : Cond.instanceMethod yX2_move ∈ gw := gw_of (List.mem_append_right _ (List.mem_of_getElem? (i := 547) (by decide +kernel))) (by decide +kernel)
theorem wd562 : Cond.selects RX2 yX2_move yX2_move ∈ gw := gw_of (List.mem_append_right _ (List.mem_of_getElem? (i := 548) (by decide +kernel))) (by decide +kernel)
theorem wd563 : Cond.code yX2_move cX2_move 4 none ∈ gw := gw_of (List.mem_append_right _ (List.mem_of_getElem? (i := 549) (by decide +kernel))) (by decide +kernel)
theorem cwv_X6_254 : CWv RX6 254 yX2_move cX2_move 4 none 2 := ⟨wd560, wd561, wd562, wd17, wd563, (by decide +kernel), (by decide +kernel), (by decide +kernel), (by decide +kernel)⟩
theorem wd564 : Cond.methodLink RX6 328 yX2_please ∈ gw := gw_of (List.mem_append_right _ (List.mem_of_getElem? (i := 535) (by decide +kernel))) (by decide +kernel)
theorem wd565 : Cond.instanceMethod yX2_please ∈ gw := gw_of (List.mem_append_right _ (List.mem_of_getElem? (i := 536) (by decide +kernel))) (by decide +kernel)
theorem wd566 : Cond.selects RX2 yX2_please yX2_please ∈ gw := gw_of (List.mem_append_right _ (List.mem_of_getElem? (i := 537) (by decide +kernel))) (by decide +kernel)
theorem wd567 : Cond.code yX2_please cX2_please 3 none ∈ gw := gw_of (List.mem_append_right _ (List.mem_of_getElem? (i := 538) (by decide +kernel))) (by decide +kernel)
theorem cwv_X6_328 : CWv RX6 328 yX2_please cX2_please 3 none 2 := ⟨wd564, wd565, wd566, wd17, wd567, (by decide +kernel), (by decide +kernel), (by decide +kernel), (by decide +kernel)⟩
theorem wd568 : Cond.fieldLink RX6 16 RX6 "thought" "LRoundTheModel$Ring;" ∈ gw := gw_of (List.mem_append_right _ (List.mem_of_getElem? (i := 343) (by decide +kernel))) (by decide +kernel)
theorem wd569 : Cond.methodLink RX6 217 yX2_take ∈ gw := gw_of (List.mem_append_right _ (List.mem_of_getElem? (i := 569) (by decide +kernel))) (by decide +kernel)
theorem wd570 : Cond.instanceMethod yX2_take ∈ gw := gw_of (List.mem_append_right _ (List.mem_of_getElem? (i := 570) (by decide +kernel))) (by decide +kernel)
theorem wd571 : Cond.selects RX2 yX2_take yX2_take ∈ gw := gw_of (List.mem_append_right _ (List.mem_of_getElem? (i := 571) (by decide +kernel))) (by decide +kernel)
theorem wd572 : Cond.code yX2_take cX2_take 2 none ∈ gw := gw_of (List.mem_append_right _ (List.mem_of_getElem? (i := 572) (by decide +kernel))) (by decide +kernel)
theorem cwv_X6_217 : CWv RX6 217 yX2_take cX2_take 2 none 1 := ⟨wd569, wd570, wd571, wd17, wd572, (by decide +kernel), (by decide +kernel), (by decide +kernel), (by decide +kernel)⟩
theorem wd573 : Cond.fieldLink RX6 192 RX2 "pleased" "[I" ∈ gw := gw_of (List.mem_append_right _ (List.mem_of_getElem? (i := 57) (by decide +kernel))) (by decide +kernel)
theorem wd574 : Cond.methodLink RX6 331 yJ7_fill_53178 ∈ gw := gw_of (List.mem_append_right _ (List.mem_of_getElem? (i := 574) (by decide +kernel))) (by decide +kernel)
theorem cws_X6_331 : CWs RX6 331 yJ7_fill_53178 cJ7_fill_53178 4 none 2 := ⟨wd574, wd50, wd51, wd52, (by decide +kernel), (by decide +kernel), (by decide +kernel), (by decide +kernel)⟩
theorem wd575 : Cond.methodLink RX6 286 yX6_beginThought ∈ gw := gw_of (List.mem_append_right _ (List.mem_of_getElem? (i := 565) (by decide +kernel))) (by decide +kernel)
theorem wd576 : Cond.instanceMethod yX6_beginThought ∈ gw := gw_of (List.mem_append_right _ (List.mem_of_getElem? (i := 567) (by decide +kernel))) (by decide +kernel)
theorem wd577 : Cond.selects RX6 yX6_beginThought yX6_beginThought ∈ gw := gw_of (List.mem_append_left _ (List.mem_of_getElem? (i := 26) (by decide +kernel))) (by decide +kernel)
theorem wd578 : Cond.code yX6_beginThought cX6_beginThought 1 none ∈ gw := gw_of (List.mem_append_right _ (List.mem_of_getElem? (i := 568) (by decide +kernel))) (by decide +kernel)
theorem cwv_X6_286 : CWv RX6 286 yX6_beginThought cX6_beginThought 1 none 0 := ⟨wd575, wd576, wd577, wd12, wd578, (by decide +kernel), (by decide +kernel), (by decide +kernel), (by decide +kernel)⟩
theorem wd579 : Cond.methodLink RX6 167 yX6_pass ∈ gw := gw_of (List.mem_append_right _ (List.mem_of_getElem? (i := 531) (by decide +kernel))) (by decide +kernel)
theorem wd580 : Cond.instanceMethod yX6_pass ∈ gw := gw_of (List.mem_append_right _ (List.mem_of_getElem? (i := 533) (by decide +kernel))) (by decide +kernel)
theorem wd581 : Cond.selects RX6 yX6_pass yX6_pass ∈ gw := gw_of (List.mem_append_left _ (List.mem_of_getElem? (i := 23) (by decide +kernel))) (by decide +kernel)
theorem wd582 : Cond.code yX6_pass cX6_pass 5 none ∈ gw := gw_of (List.mem_append_right _ (List.mem_of_getElem? (i := 534) (by decide +kernel))) (by decide +kernel)
theorem cwv_X6_167 : CWv RX6 167 yX6_pass cX6_pass 5 none 3 := ⟨wd579, wd580, wd581, wd12, wd582, (by decide +kernel), (by decide +kernel), (by decide +kernel), (by decide +kernel)⟩
theorem wd583 : Cond.methodLink RX6 180 yX2_sum ∈ gw := gw_of (List.mem_append_right _ (List.mem_of_getElem? (i := 577) (by decide +kernel))) (by decide +kernel)
theorem wd584 : Cond.instanceMethod yX2_sum ∈ gw := gw_of (List.mem_append_right _ (List.mem_of_getElem? (i := 578) (by decide +kernel))) (by decide +kernel)
theorem wd585 : Cond.selects RX2 yX2_sum yX2_sum ∈ gw := gw_of (List.mem_append_right _ (List.mem_of_getElem? (i := 579) (by decide +kernel))) (by decide +kernel)
theorem wd586 : Cond.code yX2_sum cX2_sum 3 (some .int) ∈ gw := gw_of (List.mem_append_right _ (List.mem_of_getElem? (i := 580) (by decide +kernel))) (by decide +kernel)
theorem cwv_X6_180 : CWv RX6 180 yX2_sum cX2_sum 3 (some .int) 0 := ⟨wd583, wd584, wd585, wd17, wd586, (by decide +kernel), (by decide +kernel), (by decide +kernel), (by decide +kernel)⟩
theorem wd587 : Cond.constant RX6 289 (1103515245) ∈ gw := gw_of (List.mem_append_right _ (List.mem_of_getElem? (i := 695) (by decide +kernel))) (by decide +kernel)
theorem wd588 : Cond.methodLink RX6 96 yX6_isEasel ∈ gw := gw_of (List.mem_append_right _ (List.mem_of_getElem? (i := 381) (by decide +kernel))) (by decide +kernel)
theorem cws_X6_96 : CWs RX6 96 yX6_isEasel cX6_isEasel 1 (some .boolean) 1 := ⟨wd588, wd11, wd12, wd13, (by decide +kernel), (by decide +kernel), (by decide +kernel), (by decide +kernel)⟩
theorem wd589 : Cond.methodLink RX6 100 yX2_has ∈ gw := gw_of (List.mem_append_right _ (List.mem_of_getElem? (i := 384) (by decide +kernel))) (by decide +kernel)
theorem wd590 : Cond.instanceMethod yX2_has ∈ gw := gw_of (List.mem_append_right _ (List.mem_of_getElem? (i := 385) (by decide +kernel))) (by decide +kernel)
theorem wd591 : Cond.selects RX2 yX2_has yX2_has ∈ gw := gw_of (List.mem_append_right _ (List.mem_of_getElem? (i := 386) (by decide +kernel))) (by decide +kernel)
theorem wd592 : Cond.code yX2_has cX2_has 2 (some .boolean) ∈ gw := gw_of (List.mem_append_right _ (List.mem_of_getElem? (i := 387) (by decide +kernel))) (by decide +kernel)
theorem cwv_X6_100 : CWv RX6 100 yX2_has cX2_has 2 (some .boolean) 1 := ⟨wd589, wd590, wd591, wd17, wd592, (by decide +kernel), (by decide +kernel), (by decide +kernel), (by decide +kernel)⟩
theorem wd593 : Cond.methodLink RX6 103 yX2_maySitAt ∈ gw := gw_of (List.mem_append_right _ (List.mem_of_getElem? (i := 388) (by decide +kernel))) (by decide +kernel)
theorem wd594 : Cond.instanceMethod yX2_maySitAt ∈ gw := gw_of (List.mem_append_right _ (List.mem_of_getElem? (i := 389) (by decide +kernel))) (by decide +kernel)
theorem wd595 : Cond.selects RX2 yX2_maySitAt yX2_maySitAt ∈ gw := gw_of (List.mem_append_right _ (List.mem_of_getElem? (i := 390) (by decide +kernel))) (by decide +kernel)
theorem wd596 : Cond.code yX2_maySitAt cX2_maySitAt 3 (some .boolean) ∈ gw := gw_of (List.mem_append_right _ (List.mem_of_getElem? (i := 391) (by decide +kernel))) (by decide +kernel)
theorem cwv_X6_103 : CWv RX6 103 yX2_maySitAt cX2_maySitAt 3 (some .boolean) 2 := ⟨wd593, wd594, wd595, wd17, wd596, (by decide +kernel), (by decide +kernel), (by decide +kernel), (by decide +kernel)⟩
theorem wd597 : Cond.methodLink RX6 84 yX6_maySet ∈ gw := gw_of (List.mem_append_right _ (List.mem_of_getElem? (i := 377) (by decide +kernel))) (by decide +kernel)
theorem wd598 : Cond.instanceMethod yX6_maySet ∈ gw := gw_of (List.mem_append_right _ (List.mem_of_getElem? (i := 379) (by decide +kernel))) (by decide +kernel)
theorem wd599 : Cond.selects RX6 yX6_maySet yX6_maySet ∈ gw := gw_of (List.mem_append_left _ (List.mem_of_getElem? (i := 13) (by decide +kernel))) (by decide +kernel)
theorem wd600 : Cond.code yX6_maySet cX6_maySet 4 (some .boolean) ∈ gw := gw_of (List.mem_append_right _ (List.mem_of_getElem? (i := 380) (by decide +kernel))) (by decide +kernel)
theorem cwv_X6_84 : CWv RX6 84 yX6_maySet cX6_maySet 4 (some .boolean) 3 := ⟨wd597, wd598, wd599, wd12, wd600, (by decide +kernel), (by decide +kernel), (by decide +kernel), (by decide +kernel)⟩
theorem wd601 : Cond.methodLink RX6 88 yX2_toldPlain ∈ gw := gw_of (List.mem_append_right _ (List.mem_of_getElem? (i := 401) (by decide +kernel))) (by decide +kernel)
theorem wd602 : Cond.instanceMethod yX2_toldPlain ∈ gw := gw_of (List.mem_append_right _ (List.mem_of_getElem? (i := 402) (by decide +kernel))) (by decide +kernel)
theorem wd603 : Cond.selects RX2 yX2_toldPlain yX2_toldPlain ∈ gw := gw_of (List.mem_append_right _ (List.mem_of_getElem? (i := 403) (by decide +kernel))) (by decide +kernel)
theorem wd604 : Cond.code yX2_toldPlain cX2_toldPlain 3 (some .int) ∈ gw := gw_of (List.mem_append_right _ (List.mem_of_getElem? (i := 404) (by decide +kernel))) (by decide +kernel)
theorem cwv_X6_88 : CWv RX6 88 yX2_toldPlain cX2_toldPlain 3 (some .int) 2 := ⟨wd601, wd602, wd603, wd17, wd604, (by decide +kernel), (by decide +kernel), (by decide +kernel), (by decide +kernel)⟩
theorem wd605 : Cond.methodLink RX6 92 yX2_put ∈ gw := gw_of (List.mem_append_right _ (List.mem_of_getElem? (i := 409) (by decide +kernel))) (by decide +kernel)
theorem wd606 : Cond.instanceMethod yX2_put ∈ gw := gw_of (List.mem_append_right _ (List.mem_of_getElem? (i := 410) (by decide +kernel))) (by decide +kernel)
theorem wd607 : Cond.selects RX2 yX2_put yX2_put ∈ gw := gw_of (List.mem_append_right _ (List.mem_of_getElem? (i := 411) (by decide +kernel))) (by decide +kernel)
theorem wd608 : Cond.code yX2_put cX2_put 4 none ∈ gw := gw_of (List.mem_append_right _ (List.mem_of_getElem? (i := 412) (by decide +kernel))) (by decide +kernel)
theorem cwv_X6_92 : CWv RX6 92 yX2_put cX2_put 4 none 3 := ⟨wd605, wd606, wd607, wd17, wd608, (by decide +kernel), (by decide +kernel), (by decide +kernel), (by decide +kernel)⟩
theorem wd609 : Cond.methodLink RX6 107 yX6_isKind ∈ gw := gw_of (List.mem_append_right _ (List.mem_of_getElem? (i := 417) (by decide +kernel))) (by decide +kernel)
theorem wd610 : Cond.static yX6_isKind ∈ gw := gw_of (List.mem_append_right _ (List.mem_of_getElem? (i := 418) (by decide +kernel))) (by decide +kernel)
theorem wd611 : Cond.code yX6_isKind cX6_isKind 1 (some .boolean) ∈ gw := gw_of (List.mem_append_right _ (List.mem_of_getElem? (i := 419) (by decide +kernel))) (by decide +kernel)
theorem cws_X6_107 : CWs RX6 107 yX6_isKind cX6_isKind 1 (some .boolean) 1 := ⟨wd609, wd610, wd12, wd611, (by decide +kernel), (by decide +kernel), (by decide +kernel), (by decide +kernel)⟩
theorem wd612 : Cond.methodLink RX6 110 yX2_isFree ∈ gw := gw_of (List.mem_append_right _ (List.mem_of_getElem? (i := 420) (by decide +kernel))) (by decide +kernel)
theorem cwv_X6_110 : CWv RX6 110 yX2_isFree cX2_isFree 2 (some .boolean) 1 := ⟨wd612, wd20, wd21, wd17, wd22, (by decide +kernel), (by decide +kernel), (by decide +kernel), (by decide +kernel)⟩
theorem wd613 : Cond.methodLink RX6 116 yX2_come ∈ gw := gw_of (List.mem_append_right _ (List.mem_of_getElem? (i := 421) (by decide +kernel))) (by decide +kernel)
theorem wd614 : Cond.instanceMethod yX2_come ∈ gw := gw_of (List.mem_append_right _ (List.mem_of_getElem? (i := 422) (by decide +kernel))) (by decide +kernel)
theorem wd615 : Cond.selects RX2 yX2_come yX2_come ∈ gw := gw_of (List.mem_append_right _ (List.mem_of_getElem? (i := 423) (by decide +kernel))) (by decide +kernel)
theorem wd616 : Cond.code yX2_come cX2_come 4 none ∈ gw := gw_of (List.mem_append_right _ (List.mem_of_getElem? (i := 424) (by decide +kernel))) (by decide +kernel)
theorem cwv_X6_116 : CWv RX6 116 yX2_come cX2_come 4 none 3 := ⟨wd613, wd614, wd615, wd17, wd616, (by decide +kernel), (by decide +kernel), (by decide +kernel), (by decide +kernel)⟩
theorem wd617 : Cond.constant RX6 119 (-100000) ∈ gw := gw_of (List.mem_append_right _ (List.mem_of_getElem? (i := 429) (by decide +kernel))) (by decide +kernel)
theorem wd618 : Cond.methodLink RX6 120 yX6_toldSeen ∈ gw := gw_of (List.mem_append_right _ (List.mem_of_getElem? (i := 430) (by decide +kernel))) (by decide +kernel)
theorem wd619 : Cond.instanceMethod yX6_toldSeen ∈ gw := gw_of (List.mem_append_right _ (List.mem_of_getElem? (i := 432) (by decide +kernel))) (by decide +kernel)
theorem wd620 : Cond.selects RX6 yX6_toldSeen yX6_toldSeen ∈ gw := gw_of (List.mem_append_left _ (List.mem_of_getElem? (i := 14) (by decide +kernel))) (by decide +kernel)
theorem wd621 : Cond.code yX6_toldSeen cX6_toldSeen 4 (some .int) ∈ gw := gw_of (List.mem_append_right _ (List.mem_of_getElem? (i := 433) (by decide +kernel))) (by decide +kernel)
theorem cwv_X6_120 : CWv RX6 120 yX6_toldSeen cX6_toldSeen 4 (some .int) 2 := ⟨wd618, wd619, wd620, wd12, wd621, (by decide +kernel), (by decide +kernel), (by decide +kernel), (by decide +kernel)⟩
theorem wd622 : Cond.fieldLink RX6 29 RX6 "reader" "LRoundTheModel$Reader;" ∈ gw := gw_of (List.mem_append_right _ (List.mem_of_getElem? (i := 346) (by decide +kernel))) (by decide +kernel)
theorem wd623 : Cond.fieldLink RX6 148 RX1 "size" "I" ∈ gw := gw_of (List.mem_append_right _ (List.mem_of_getElem? (i := 89) (by decide +kernel))) (by decide +kernel)
theorem wd624 : Cond.methodLink RX6 76 yX1_add ∈ gw := gw_of (List.mem_append_right _ (List.mem_of_getElem? (i := 229) (by decide +kernel))) (by decide +kernel)
theorem wd625 : Cond.instanceMethod yX1_add ∈ gw := gw_of (List.mem_append_right _ (List.mem_of_getElem? (i := 230) (by decide +kernel))) (by decide +kernel)
theorem wd626 : Cond.selects RX1 yX1_add yX1_add ∈ gw := gw_of (List.mem_append_right _ (List.mem_of_getElem? (i := 231) (by decide +kernel))) (by decide +kernel)
theorem wd627 : Cond.code yX1_add cX1_add 2 none ∈ gw := gw_of (List.mem_append_right _ (List.mem_of_getElem? (i := 232) (by decide +kernel))) (by decide +kernel)
theorem cwv_X6_76 : CWv RX6 76 yX1_add cX1_add 2 none 1 := ⟨wd624, wd625, wd626, wd104, wd627, (by decide +kernel), (by decide +kernel), (by decide +kernel), (by decide +kernel)⟩
theorem wd628 : Cond.fieldLink RX6 39 RX6 "textCount" "I" ∈ gw := gw_of (List.mem_append_right _ (List.mem_of_getElem? (i := 348) (by decide +kernel))) (by decide +kernel)
theorem wd629 : Cond.fieldLink RX6 154 RX2 "rule" "I" ∈ gw := gw_of (List.mem_append_right _ (List.mem_of_getElem? (i := 43) (by decide +kernel))) (by decide +kernel)
theorem wd630 : Cond.methodLink RX6 157 yX6_isTurnStep ∈ gw := gw_of (List.mem_append_right _ (List.mem_of_getElem? (i := 524) (by decide +kernel))) (by decide +kernel)
theorem wd631 : Cond.static yX6_isTurnStep ∈ gw := gw_of (List.mem_append_right _ (List.mem_of_getElem? (i := 525) (by decide +kernel))) (by decide +kernel)
theorem wd632 : Cond.code yX6_isTurnStep cX6_isTurnStep 1 (some .boolean) ∈ gw := gw_of (List.mem_append_right _ (List.mem_of_getElem? (i := 526) (by decide +kernel))) (by decide +kernel)
theorem cws_X6_157 : CWs RX6 157 yX6_isTurnStep cX6_isTurnStep 1 (some .boolean) 1 := ⟨wd630, wd631, wd12, wd632, (by decide +kernel), (by decide +kernel), (by decide +kernel), (by decide +kernel)⟩
theorem wd633 : Cond.fieldLink RX6 160 RX2 "pose" "I" ∈ gw := gw_of (List.mem_append_right _ (List.mem_of_getElem? (i := 40) (by decide +kernel))) (by decide +kernel)
theorem wd634 : Cond.methodLink RX6 163 yX6_wholeOf ∈ gw := gw_of (List.mem_append_right _ (List.mem_of_getElem? (i := 527) (by decide +kernel))) (by decide +kernel)
theorem wd635 : Cond.instanceMethod yX6_wholeOf ∈ gw := gw_of (List.mem_append_right _ (List.mem_of_getElem? (i := 529) (by decide +kernel))) (by decide +kernel)
theorem wd636 : Cond.selects RX6 yX6_wholeOf yX6_wholeOf ∈ gw := gw_of (List.mem_append_left _ (List.mem_of_getElem? (i := 22) (by decide +kernel))) (by decide +kernel)
theorem wd637 : Cond.code yX6_wholeOf cX6_wholeOf 4 (some .int) ∈ gw := gw_of (List.mem_append_right _ (List.mem_of_getElem? (i := 530) (by decide +kernel))) (by decide +kernel)
theorem cwv_X6_163 : CWv RX6 163 yX6_wholeOf cX6_wholeOf 4 (some .int) 1 := ⟨wd634, wd635, wd636, wd12, wd637, (by decide +kernel), (by decide +kernel), (by decide +kernel), (by decide +kernel)⟩
theorem wd638 : Cond.methodLink RX6 171 yX6_isPoses ∈ gw := gw_of (List.mem_append_right _ (List.mem_of_getElem? (i := 554) (by decide +kernel))) (by decide +kernel)
theorem wd639 : Cond.static yX6_isPoses ∈ gw := gw_of (List.mem_append_right _ (List.mem_of_getElem? (i := 555) (by decide +kernel))) (by decide +kernel)
theorem wd640 : Cond.code yX6_isPoses cX6_isPoses 1 (some .boolean) ∈ gw := gw_of (List.mem_append_right _ (List.mem_of_getElem? (i := 556) (by decide +kernel))) (by decide +kernel)
theorem cws_X6_171 : CWs RX6 171 yX6_isPoses cX6_isPoses 1 (some .boolean) 1 := ⟨wd638, wd639, wd12, wd640, (by decide +kernel), (by decide +kernel), (by decide +kernel), (by decide +kernel)⟩
theorem wd641 : Cond.methodLink RX6 174 yX6_isRunWhat ∈ gw := gw_of (List.mem_append_right _ (List.mem_of_getElem? (i := 557) (by decide +kernel))) (by decide +kernel)
theorem wd642 : Cond.instanceMethod yX6_isRunWhat ∈ gw := gw_of (List.mem_append_right _ (List.mem_of_getElem? (i := 559) (by decide +kernel))) (by decide +kernel)
theorem wd643 : Cond.selects RX6 yX6_isRunWhat yX6_isRunWhat ∈ gw := gw_of (List.mem_append_left _ (List.mem_of_getElem? (i := 24) (by decide +kernel))) (by decide +kernel)
theorem wd644 : Cond.code yX6_isRunWhat cX6_isRunWhat 2 (some .boolean) ∈ gw := gw_of (List.mem_append_right _ (List.mem_of_getElem? (i := 560) (by decide +kernel))) (by decide +kernel)
theorem cwv_X6_174 : CWv RX6 174 yX6_isRunWhat cX6_isRunWhat 2 (some .boolean) 1 := ⟨wd641, wd642, wd643, wd12, wd644, (by decide +kernel), (by decide +kernel), (by decide +kernel), (by decide +kernel)⟩
theorem wd645 : Cond.methodLink RX6 177 yX6_think ∈ gw := gw_of (List.mem_append_right _ (List.mem_of_getElem? (i := 561) (by decide +kernel))) (by decide +kernel)
theorem wd646 : Cond.instanceMethod yX6_think ∈ gw := gw_of (List.mem_append_right _ (List.mem_of_getElem? (i := 563) (by decide +kernel))) (by decide +kernel)
theorem wd647 : Cond.selects RX6 yX6_think yX6_think ∈ gw := gw_of (List.mem_append_left _ (List.mem_of_getElem? (i := 25) (by decide +kernel))) (by decide +kernel)
theorem wd648 : Cond.code yX6_think cX6_think 5 none ∈ gw := gw_of (List.mem_append_right _ (List.mem_of_getElem? (i := 564) (by decide +kernel))) (by decide +kernel)
theorem cwv_X6_177 : CWv RX6 177 yX6_think cX6_think 5 none 3 := ⟨wd645, wd646, wd647, wd12, wd648, (by decide +kernel), (by decide +kernel), (by decide +kernel), (by decide +kernel)⟩
theorem wd649 : Cond.fieldLink RX6 195 RX2 "had" "[I" ∈ gw := gw_of (List.mem_append_right _ (List.mem_of_getElem? (i := 55) (by decide +kernel))) (by decide +kernel)
theorem wd650 : Cond.methodLink RX6 183 yX2_least ∈ gw := gw_of (List.mem_append_right _ (List.mem_of_getElem? (i := 581) (by decide +kernel))) (by decide +kernel)
theorem wd651 : Cond.instanceMethod yX2_least ∈ gw := gw_of (List.mem_append_right _ (List.mem_of_getElem? (i := 582) (by decide +kernel))) (by decide +kernel)
theorem wd652 : Cond.selects RX2 yX2_least yX2_least ∈ gw := gw_of (List.mem_append_right _ (List.mem_of_getElem? (i := 583) (by decide +kernel))) (by decide +kernel)
theorem wd653 : Cond.code yX2_least cX2_least 2 (some .int) ∈ gw := gw_of (List.mem_append_right _ (List.mem_of_getElem? (i := 584) (by decide +kernel))) (by decide +kernel)
theorem cwv_X6_183 : CWv RX6 183 yX2_least cX2_least 2 (some .int) 0 := ⟨wd650, wd651, wd652, wd17, wd653, (by decide +kernel), (by decide +kernel), (by decide +kernel), (by decide +kernel)⟩
theorem wd654 : Cond.methodLink RX6 186 yX2_leastPleased ∈ gw := gw_of (List.mem_append_right _ (List.mem_of_getElem? (i := 589) (by decide +kernel))) (by decide +kernel)
theorem cwv_X6_186 : CWv RX6 186 yX2_leastPleased cX2_leastPleased 3 (some .int) 0 := ⟨wd654, wd41, wd42, wd17, wd43, (by decide +kernel), (by decide +kernel), (by decide +kernel), (by decide +kernel)⟩
theorem wd655 : Cond.fieldLink RX6 189 RX2 "face" "I" ∈ gw := gw_of (List.mem_append_right _ (List.mem_of_getElem? (i := 31) (by decide +kernel))) (by decide +kernel)
theorem wd656 : Cond.fieldLink RX6 53 RX6 "most" "LRoundTheModel$Most;" ∈ gw := gw_of (List.mem_append_right _ (List.mem_of_getElem? (i := 350) (by decide +kernel))) (by decide +kernel)
theorem wd657 : Cond.methodLink RX6 207 yX0_clear ∈ gw := gw_of (List.mem_append_right _ (List.mem_of_getElem? (i := 598) (by decide +kernel))) (by decide +kernel)
theorem wd658 : Cond.instanceMethod yX0_clear ∈ gw := gw_of (List.mem_append_right _ (List.mem_of_getElem? (i := 599) (by decide +kernel))) (by decide +kernel)
theorem wd659 : Cond.selects RX0 yX0_clear yX0_clear ∈ gw := gw_of (List.mem_append_right _ (List.mem_of_getElem? (i := 600) (by decide +kernel))) (by decide +kernel)
theorem wd660 : Cond.initialized RX0 ∈ gw := gw_of (List.mem_append_right _ (List.mem_of_getElem? (i := 5) (by decide +kernel))) (by decide +kernel)
theorem wd661 : Cond.code yX0_clear cX0_clear 1 none ∈ gw := gw_of (List.mem_append_right _ (List.mem_of_getElem? (i := 601) (by decide +kernel))) (by decide +kernel)
theorem cwv_X6_207 : CWv RX6 207 yX0_clear cX0_clear 1 none 0 := ⟨wd657, wd658, wd659, wd660, wd661, (by decide +kernel), (by decide +kernel), (by decide +kernel), (by decide +kernel)⟩
theorem wd662 : Cond.fieldLink RX6 214 RX0 "at" "I" ∈ gw := gw_of (List.mem_append_right _ (List.mem_of_getElem? (i := 150) (by decide +kernel))) (by decide +kernel)
theorem wd663 : Cond.methodLink RX6 210 yX0_offer ∈ gw := gw_of (List.mem_append_right _ (List.mem_of_getElem? (i := 602) (by decide +kernel))) (by decide +kernel)
theorem wd664 : Cond.instanceMethod yX0_offer ∈ gw := gw_of (List.mem_append_right _ (List.mem_of_getElem? (i := 603) (by decide +kernel))) (by decide +kernel)
theorem wd665 : Cond.selects RX0 yX0_offer yX0_offer ∈ gw := gw_of (List.mem_append_right _ (List.mem_of_getElem? (i := 604) (by decide +kernel))) (by decide +kernel)
theorem wd666 : Cond.code yX0_offer cX0_offer 3 none ∈ gw := gw_of (List.mem_append_right _ (List.mem_of_getElem? (i := 605) (by decide +kernel))) (by decide +kernel)
theorem cwv_X6_210 : CWv RX6 210 yX0_offer cX0_offer 3 none 2 := ⟨wd663, wd664, wd665, wd660, wd666, (by decide +kernel), (by decide +kernel), (by decide +kernel), (by decide +kernel)⟩
theorem wd667 : Cond.fieldLink RX6 221 RX2 "easel" "[I" ∈ gw := gw_of (List.mem_append_right _ (List.mem_of_getElem? (i := 53) (by decide +kernel))) (by decide +kernel)
theorem wd668 : Cond.methodLink RX6 198 yX6_mostPleased ∈ gw := gw_of (List.mem_append_right _ (List.mem_of_getElem? (i := 594) (by decide +kernel))) (by decide +kernel)
theorem wd669 : Cond.instanceMethod yX6_mostPleased ∈ gw := gw_of (List.mem_append_right _ (List.mem_of_getElem? (i := 596) (by decide +kernel))) (by decide +kernel)
theorem wd670 : Cond.selects RX6 yX6_mostPleased yX6_mostPleased ∈ gw := gw_of (List.mem_append_left _ (List.mem_of_getElem? (i := 27) (by decide +kernel))) (by decide +kernel)
theorem wd671 : Cond.code yX6_mostPleased cX6_mostPleased 2 (some .int) ∈ gw := gw_of (List.mem_append_right _ (List.mem_of_getElem? (i := 597) (by decide +kernel))) (by decide +kernel)
theorem cwv_X6_198 : CWv RX6 198 yX6_mostPleased cX6_mostPleased 2 (some .int) 0 := ⟨wd668, wd669, wd670, wd12, wd671, (by decide +kernel), (by decide +kernel), (by decide +kernel), (by decide +kernel)⟩
theorem wd672 : Cond.methodLink RX6 201 yX2_freeEasels ∈ gw := gw_of (List.mem_append_right _ (List.mem_of_getElem? (i := 606) (by decide +kernel))) (by decide +kernel)
theorem cwv_X6_201 : CWv RX6 201 yX2_freeEasels cX2_freeEasels 3 (some .int) 0 := ⟨wd672, wd15, wd16, wd17, wd18, (by decide +kernel), (by decide +kernel), (by decide +kernel), (by decide +kernel)⟩
theorem wd673 : Cond.methodLink RX6 204 yX6_worst ∈ gw := gw_of (List.mem_append_right _ (List.mem_of_getElem? (i := 607) (by decide +kernel))) (by decide +kernel)
theorem wd674 : Cond.instanceMethod yX6_worst ∈ gw := gw_of (List.mem_append_right _ (List.mem_of_getElem? (i := 609) (by decide +kernel))) (by decide +kernel)
theorem wd675 : Cond.selects RX6 yX6_worst yX6_worst ∈ gw := gw_of (List.mem_append_left _ (List.mem_of_getElem? (i := 28) (by decide +kernel))) (by decide +kernel)
theorem wd676 : Cond.code yX6_worst cX6_worst 2 (some .int) ∈ gw := gw_of (List.mem_append_right _ (List.mem_of_getElem? (i := 610) (by decide +kernel))) (by decide +kernel)
theorem cwv_X6_204 : CWv RX6 204 yX6_worst cX6_worst 2 (some .int) 0 := ⟨wd673, wd674, wd675, wd12, wd676, (by decide +kernel), (by decide +kernel), (by decide +kernel), (by decide +kernel)⟩
theorem wd677 : Cond.methodLink RX6 224 yX6_isPart ∈ gw := gw_of (List.mem_append_right _ (List.mem_of_getElem? (i := 615) (by decide +kernel))) (by decide +kernel)
theorem wd678 : Cond.static yX6_isPart ∈ gw := gw_of (List.mem_append_right _ (List.mem_of_getElem? (i := 616) (by decide +kernel))) (by decide +kernel)
theorem wd679 : Cond.code yX6_isPart cX6_isPart 1 (some .boolean) ∈ gw := gw_of (List.mem_append_right _ (List.mem_of_getElem? (i := 617) (by decide +kernel))) (by decide +kernel)
theorem cws_X6_224 : CWs RX6 224 yX6_isPart cX6_isPart 1 (some .boolean) 1 := ⟨wd677, wd678, wd12, wd679, (by decide +kernel), (by decide +kernel), (by decide +kernel), (by decide +kernel)⟩
theorem wd680 : Cond.methodLink RX6 229 yX6_lowest ∈ gw := gw_of (List.mem_append_right _ (List.mem_of_getElem? (i := 619) (by decide +kernel))) (by decide +kernel)
theorem wd681 : Cond.static yX6_lowest ∈ gw := gw_of (List.mem_append_right _ (List.mem_of_getElem? (i := 620) (by decide +kernel))) (by decide +kernel)
theorem wd682 : Cond.code yX6_lowest cX6_lowest 7 (some .long) ∈ gw := gw_of (List.mem_append_right _ (List.mem_of_getElem? (i := 621) (by decide +kernel))) (by decide +kernel)
theorem cws_X6_229 : CWs RX6 229 yX6_lowest cX6_lowest 7 (some .long) 3 := ⟨wd680, wd681, wd12, wd682, (by decide +kernel), (by decide +kernel), (by decide +kernel), (by decide +kernel)⟩
theorem wd683 : Cond.methodLink RX6 233 yX0_atOrValue ∈ gw := gw_of (List.mem_append_right _ (List.mem_of_getElem? (i := 627) (by decide +kernel))) (by decide +kernel)
theorem wd684 : Cond.instanceMethod yX0_atOrValue ∈ gw := gw_of (List.mem_append_right _ (List.mem_of_getElem? (i := 628) (by decide +kernel))) (by decide +kernel)
theorem wd685 : Cond.selects RX0 yX0_atOrValue yX0_atOrValue ∈ gw := gw_of (List.mem_append_right _ (List.mem_of_getElem? (i := 629) (by decide +kernel))) (by decide +kernel)
theorem wd686 : Cond.code yX0_atOrValue cX0_atOrValue 2 (some .int) ∈ gw := gw_of (List.mem_append_right _ (List.mem_of_getElem? (i := 630) (by decide +kernel))) (by decide +kernel)
theorem cwv_X6_233 : CWv RX6 233 yX0_atOrValue cX0_atOrValue 2 (some .int) 1 := ⟨wd683, wd684, wd685, wd660, wd686, (by decide +kernel), (by decide +kernel), (by decide +kernel), (by decide +kernel)⟩
theorem wd687 : Cond.methodLink RX6 242 yX2_exchange ∈ gw := gw_of (List.mem_append_right _ (List.mem_of_getElem? (i := 643) (by decide +kernel))) (by decide +kernel)
theorem wd688 : Cond.instanceMethod yX2_exchange ∈ gw := gw_of (List.mem_append_right _ (List.mem_of_getElem? (i := 644) (by decide +kernel))) (by decide +kernel)
theorem wd689 : Cond.selects RX2 yX2_exchange yX2_exchange ∈ gw := gw_of (List.mem_append_right _ (List.mem_of_getElem? (i := 645) (by decide +kernel))) (by decide +kernel)
theorem wd690 : Cond.code yX2_exchange cX2_exchange 4 none ∈ gw := gw_of (List.mem_append_right _ (List.mem_of_getElem? (i := 646) (by decide +kernel))) (by decide +kernel)
theorem cwv_X6_242 : CWv RX6 242 yX2_exchange cX2_exchange 4 none 2 := ⟨wd687, wd688, wd689, wd17, wd690, (by decide +kernel), (by decide +kernel), (by decide +kernel), (by decide +kernel)⟩
theorem wd691 : Cond.fieldLink RX6 248 RX2 "stove" "I" ∈ gw := gw_of (List.mem_append_right _ (List.mem_of_getElem? (i := 37) (by decide +kernel))) (by decide +kernel)
theorem wd692 : Cond.fieldLink RX6 245 RX2 "lamp" "I" ∈ gw := gw_of (List.mem_append_right _ (List.mem_of_getElem? (i := 34) (by decide +kernel))) (by decide +kernel)
theorem wd693 : Cond.methodLink RX6 239 yX6_offerPlaces ∈ gw := gw_of (List.mem_append_right _ (List.mem_of_getElem? (i := 647) (by decide +kernel))) (by decide +kernel)
theorem wd694 : Cond.instanceMethod yX6_offerPlaces ∈ gw := gw_of (List.mem_append_right _ (List.mem_of_getElem? (i := 649) (by decide +kernel))) (by decide +kernel)
theorem wd695 : Cond.selects RX6 yX6_offerPlaces yX6_offerPlaces ∈ gw := gw_of (List.mem_append_left _ (List.mem_of_getElem? (i := 30) (by decide +kernel))) (by decide +kernel)
theorem wd696 : Cond.code yX6_offerPlaces cX6_offerPlaces 3 none ∈ gw := gw_of (List.mem_append_right _ (List.mem_of_getElem? (i := 650) (by decide +kernel))) (by decide +kernel)
theorem cwv_X6_239 : CWv RX6 239 yX6_offerPlaces cX6_offerPlaces 3 none 1 := ⟨wd693, wd694, wd695, wd12, wd696, (by decide +kernel), (by decide +kernel), (by decide +kernel), (by decide +kernel)⟩
theorem wd697 : Cond.methodLink RX6 236 yX6_offerPairs ∈ gw := gw_of (List.mem_append_right _ (List.mem_of_getElem? (i := 639) (by decide +kernel))) (by decide +kernel)
theorem wd698 : Cond.instanceMethod yX6_offerPairs ∈ gw := gw_of (List.mem_append_right _ (List.mem_of_getElem? (i := 641) (by decide +kernel))) (by decide +kernel)
theorem wd699 : Cond.selects RX6 yX6_offerPairs yX6_offerPairs ∈ gw := gw_of (List.mem_append_left _ (List.mem_of_getElem? (i := 29) (by decide +kernel))) (by decide +kernel)
theorem wd700 : Cond.code yX6_offerPairs cX6_offerPairs 3 none ∈ gw := gw_of (List.mem_append_right _ (List.mem_of_getElem? (i := 642) (by decide +kernel))) (by decide +kernel)
theorem cwv_X6_236 : CWv RX6 236 yX6_offerPairs cX6_offerPairs 3 none 0 := ⟨wd697, wd698, wd699, wd12, wd700, (by decide +kernel), (by decide +kernel), (by decide +kernel), (by decide +kernel)⟩
theorem wd701 : Cond.fieldLink RX6 264 RX3 "size" "I" ∈ gw := gw_of (List.mem_append_right _ (List.mem_of_getElem? (i := 170) (by decide +kernel))) (by decide +kernel)
theorem wd702 : Cond.fieldLink RX6 275 RX3 "items" "[I" ∈ gw := gw_of (List.mem_append_right _ (List.mem_of_getElem? (i := 172) (by decide +kernel))) (by decide +kernel)
theorem wd703 : Cond.fieldLink RX6 272 RX2 "number" "[I" ∈ gw := gw_of (List.mem_append_right _ (List.mem_of_getElem? (i := 50) (by decide +kernel))) (by decide +kernel)
theorem wd704 : Cond.methodLink RX6 257 yX6_isSheet ∈ gw := gw_of (List.mem_append_right _ (List.mem_of_getElem? (i := 659) (by decide +kernel))) (by decide +kernel)
theorem wd705 : Cond.static yX6_isSheet ∈ gw := gw_of (List.mem_append_right _ (List.mem_of_getElem? (i := 660) (by decide +kernel))) (by decide +kernel)
theorem wd706 : Cond.code yX6_isSheet cX6_isSheet 1 (some .boolean) ∈ gw := gw_of (List.mem_append_right _ (List.mem_of_getElem? (i := 661) (by decide +kernel))) (by decide +kernel)
theorem cws_X6_257 : CWs RX6 257 yX6_isSheet cX6_isSheet 1 (some .boolean) 1 := ⟨wd704, wd705, wd12, wd706, (by decide +kernel), (by decide +kernel), (by decide +kernel), (by decide +kernel)⟩
theorem wd707 : Cond.fieldLink RX6 59 RX6 "sheets" "[LRoundTheModel$Sheet;" ∈ gw := gw_of (List.mem_append_right _ (List.mem_of_getElem? (i := 351) (by decide +kernel))) (by decide +kernel)
theorem wd708 : Cond.methodLink RX6 260 yX3_isMissing ∈ gw := gw_of (List.mem_append_right _ (List.mem_of_getElem? (i := 662) (by decide +kernel))) (by decide +kernel)
theorem wd709 : Cond.instanceMethod yX3_isMissing ∈ gw := gw_of (List.mem_append_right _ (List.mem_of_getElem? (i := 663) (by decide +kernel))) (by decide +kernel)
theorem wd710 : Cond.selects RX3 yX3_isMissing yX3_isMissing ∈ gw := gw_of (List.mem_append_right _ (List.mem_of_getElem? (i := 664) (by decide +kernel))) (by decide +kernel)
theorem wd711 : Cond.initialized RX3 ∈ gw := gw_of (List.mem_append_right _ (List.mem_of_getElem? (i := 6) (by decide +kernel))) (by decide +kernel)
theorem wd712 : Cond.code yX3_isMissing cX3_isMissing 1 (some .boolean) ∈ gw := gw_of (List.mem_append_right _ (List.mem_of_getElem? (i := 665) (by decide +kernel))) (by decide +kernel)
theorem cwv_X6_260 : CWv RX6 260 yX3_isMissing cX3_isMissing 1 (some .boolean) 0 := ⟨wd708, wd709, wd710, wd711, wd712, (by decide +kernel), (by decide +kernel), (by decide +kernel), (by decide +kernel)⟩
theorem wd713 : Cond.methodLink RX6 269 yX6_suppose ∈ gw := gw_of (List.mem_append_right _ (List.mem_of_getElem? (i := 670) (by decide +kernel))) (by decide +kernel)
theorem wd714 : Cond.instanceMethod yX6_suppose ∈ gw := gw_of (List.mem_append_right _ (List.mem_of_getElem? (i := 672) (by decide +kernel))) (by decide +kernel)
theorem wd715 : Cond.selects RX6 yX6_suppose yX6_suppose ∈ gw := gw_of (List.mem_append_left _ (List.mem_of_getElem? (i := 32) (by decide +kernel))) (by decide +kernel)
theorem wd716 : Cond.code yX6_suppose cX6_suppose 4 (some .boolean) ∈ gw := gw_of (List.mem_append_right _ (List.mem_of_getElem? (i := 673) (by decide +kernel))) (by decide +kernel)
theorem cwv_X6_269 : CWv RX6 269 yX6_suppose cX6_suppose 4 (some .boolean) 3 := ⟨wd713, wd714, wd715, wd12, wd716, (by decide +kernel), (by decide +kernel), (by decide +kernel), (by decide +kernel)⟩
theorem wd717 : Cond.methodLink RX6 265 yX6_firstOtherwise ∈ gw := gw_of (List.mem_append_right _ (List.mem_of_getElem? (i := 666) (by decide +kernel))) (by decide +kernel)
theorem wd718 : Cond.instanceMethod yX6_firstOtherwise ∈ gw := gw_of (List.mem_append_right _ (List.mem_of_getElem? (i := 668) (by decide +kernel))) (by decide +kernel)
theorem wd719 : Cond.selects RX6 yX6_firstOtherwise yX6_firstOtherwise ∈ gw := gw_of (List.mem_append_left _ (List.mem_of_getElem? (i := 31) (by decide +kernel))) (by decide +kernel)
theorem wd720 : Cond.code yX6_firstOtherwise cX6_firstOtherwise 5 (some .int) ∈ gw := gw_of (List.mem_append_right _ (List.mem_of_getElem? (i := 669) (by decide +kernel))) (by decide +kernel)
theorem cwv_X6_265 : CWv RX6 265 yX6_firstOtherwise cX6_firstOtherwise 5 (some .int) 3 := ⟨wd717, wd718, wd719, wd12, wd720, (by decide +kernel), (by decide +kernel), (by decide +kernel), (by decide +kernel)⟩
theorem wd721 : Cond.methodLink RX6 278 yX3_become ∈ gw := gw_of (List.mem_append_right _ (List.mem_of_getElem? (i := 678) (by decide +kernel))) (by decide +kernel)
theorem wd722 : Cond.instanceMethod yX3_become ∈ gw := gw_of (List.mem_append_right _ (List.mem_of_getElem? (i := 679) (by decide +kernel))) (by decide +kernel)
theorem wd723 : Cond.selects RX3 yX3_become yX3_become ∈ gw := gw_of (List.mem_append_right _ (List.mem_of_getElem? (i := 680) (by decide +kernel))) (by decide +kernel)
theorem wd724 : Cond.code yX3_become cX3_become 3 none ∈ gw := gw_of (List.mem_append_right _ (List.mem_of_getElem? (i := 681) (by decide +kernel))) (by decide +kernel)
theorem cwv_X6_278 : CWv RX6 278 yX3_become cX3_become 3 none 2 := ⟨wd721, wd722, wd723, wd711, wd724, (by decide +kernel), (by decide +kernel), (by decide +kernel), (by decide +kernel)⟩
theorem wd725 : Cond.methodLink RX6 281 yX3_put ∈ gw := gw_of (List.mem_append_right _ (List.mem_of_getElem? (i := 683) (by decide +kernel))) (by decide +kernel)
theorem wd726 : Cond.instanceMethod yX3_put ∈ gw := gw_of (List.mem_append_right _ (List.mem_of_getElem? (i := 684) (by decide +kernel))) (by decide +kernel)
theorem wd727 : Cond.selects RX3 yX3_put yX3_put ∈ gw := gw_of (List.mem_append_right _ (List.mem_of_getElem? (i := 685) (by decide +kernel))) (by decide +kernel)
theorem wd728 : Cond.code yX3_put cX3_put 3 none ∈ gw := gw_of (List.mem_append_right _ (List.mem_of_getElem? (i := 686) (by decide +kernel))) (by decide +kernel)
theorem cwv_X6_281 : CWv RX6 281 yX3_put cX3_put 3 none 2 := ⟨wd725, wd726, wd727, wd711, wd728, (by decide +kernel), (by decide +kernel), (by decide +kernel), (by decide +kernel)⟩
theorem wd729 : Cond.methodLink RX6 283 yX6_chalkSum ∈ gw := gw_of (List.mem_append_right _ (List.mem_of_getElem? (i := 691) (by decide +kernel))) (by decide +kernel)
theorem wd730 : Cond.instanceMethod yX6_chalkSum ∈ gw := gw_of (List.mem_append_right _ (List.mem_of_getElem? (i := 693) (by decide +kernel))) (by decide +kernel)
theorem wd731 : Cond.selects RX6 yX6_chalkSum yX6_chalkSum ∈ gw := gw_of (List.mem_append_left _ (List.mem_of_getElem? (i := 33) (by decide +kernel))) (by decide +kernel)
theorem wd732 : Cond.code yX6_chalkSum cX6_chalkSum 5 (some .int) ∈ gw := gw_of (List.mem_append_right _ (List.mem_of_getElem? (i := 694) (by decide +kernel))) (by decide +kernel)
theorem cwv_X6_283 : CWv RX6 283 yX6_chalkSum cX6_chalkSum 5 (some .int) 2 := ⟨wd729, wd730, wd731, wd12, wd732, (by decide +kernel), (by decide +kernel), (by decide +kernel), (by decide +kernel)⟩
theorem wd733 : Cond.constant RX6 290 (-99999) ∈ gw := gw_of (List.mem_append_right _ (List.mem_of_getElem? (i := 700) (by decide +kernel))) (by decide +kernel)
theorem wd734 : Cond.constant RX6 291 (99999) ∈ gw := gw_of (List.mem_append_right _ (List.mem_of_getElem? (i := 701) (by decide +kernel))) (by decide +kernel)
theorem wd735 : Cond.fieldLink RX6 19 RX6 "kept" "LRoundTheModel$Ring;" ∈ gw := gw_of (List.mem_append_right _ (List.mem_of_getElem? (i := 344) (by decide +kernel))) (by decide +kernel)
theorem wd736 : Cond.fieldLink RX6 22 RX6 "isKept" "Z" ∈ gw := gw_of (List.mem_append_right _ (List.mem_of_getElem? (i := 345) (by decide +kernel))) (by decide +kernel)
theorem wd737 : Cond.methodLink RX6 292 yX6_isSort ∈ gw := gw_of (List.mem_append_right _ (List.mem_of_getElem? (i := 718) (by decide +kernel))) (by decide +kernel)
theorem wd738 : Cond.static yX6_isSort ∈ gw := gw_of (List.mem_append_right _ (List.mem_of_getElem? (i := 719) (by decide +kernel))) (by decide +kernel)
theorem wd739 : Cond.code yX6_isSort cX6_isSort 1 (some .boolean) ∈ gw := gw_of (List.mem_append_right _ (List.mem_of_getElem? (i := 720) (by decide +kernel))) (by decide +kernel)
theorem cws_X6_292 : CWs RX6 292 yX6_isSort cX6_isSort 1 (some .boolean) 1 := ⟨wd737, wd738, wd12, wd739, (by decide +kernel), (by decide +kernel), (by decide +kernel), (by decide +kernel)⟩
theorem wd740 : Cond.methodLink RX6 295 yX3_hasItems ∈ gw := gw_of (List.mem_append_right _ (List.mem_of_getElem? (i := 725) (by decide +kernel))) (by decide +kernel)
theorem wd741 : Cond.instanceMethod yX3_hasItems ∈ gw := gw_of (List.mem_append_right _ (List.mem_of_getElem? (i := 726) (by decide +kernel))) (by decide +kernel)
theorem wd742 : Cond.selects RX3 yX3_hasItems yX3_hasItems ∈ gw := gw_of (List.mem_append_right _ (List.mem_of_getElem? (i := 727) (by decide +kernel))) (by decide +kernel)
theorem wd743 : Cond.code yX3_hasItems cX3_hasItems 3 (some .boolean) ∈ gw := gw_of (List.mem_append_right _ (List.mem_of_getElem? (i := 728) (by decide +kernel))) (by decide +kernel)
theorem cwv_X6_295 : CWv RX6 295 yX3_hasItems cX3_hasItems 3 (some .boolean) 2 := ⟨wd740, wd741, wd742, wd711, wd743, (by decide +kernel), (by decide +kernel), (by decide +kernel), (by decide +kernel)⟩
theorem wd744 : Cond.fieldLink RX6 298 RX3 "sort" "I" ∈ gw := gw_of (List.mem_append_right _ (List.mem_of_getElem? (i := 168) (by decide +kernel))) (by decide +kernel)
theorem wd745 : Cond.methodLink RX6 301 (⟨"java/lang/System", "arraycopy", "(Ljava/lang/Object;ILjava/lang/Object;II)V"⟩ : MethodName) ∈ gw := gw_of (List.mem_append_right _ (List.mem_of_getElem? (i := 733) (by decide +kernel))) (by decide +kernel)
theorem wd746 : Cond.methodLink RX6 307 yX6_painter ∈ gw := gw_of (List.mem_append_right _ (List.mem_of_getElem? (i := 738) (by decide +kernel))) (by decide +kernel)
theorem wd747 : Cond.instanceMethod yX6_painter ∈ gw := gw_of (List.mem_append_right _ (List.mem_of_getElem? (i := 414) (by decide +kernel))) (by decide +kernel)
theorem wd748 : Cond.selects RX6 yX6_painter yX6_painter ∈ gw := gw_of (List.mem_append_right _ (List.mem_of_getElem? (i := 415) (by decide +kernel))) (by decide +kernel)
theorem wd749 : Cond.code yX6_painter cX6_painter 4 (some .int) ∈ gw := gw_of (List.mem_append_right _ (List.mem_of_getElem? (i := 416) (by decide +kernel))) (by decide +kernel)
theorem cwv_X6_307 : CWv RX6 307 yX6_painter cX6_painter 4 (some .int) 3 := ⟨wd746, wd747, wd748, wd12, wd749, (by decide +kernel), (by decide +kernel), (by decide +kernel), (by decide +kernel)⟩
