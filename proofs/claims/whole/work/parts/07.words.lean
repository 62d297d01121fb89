theorem xinX0 : ∀ w ∈ u_ws RX0 TX0 3, w ∈ gw := by
  have h : (u_ws RX0 TX0 3).all (fun w => decide (w ∈ lw_tbl) && goodWord w) = true := by decide +kernel
  intro w hw
  have h1 := List.all_eq_true.mp h w hw
  simp only [Bool.and_eq_true, decide_eq_true_eq] at h1
  exact gw_of h1.1 h1.2
theorem wd0 : Cond.fieldLink RX0 9 RX0 "at" "I" ∈ gw := gw_of (List.mem_append_right _ (List.mem_of_getElem? (i := 149) (by decide +kernel))) (by decide +kernel)
theorem wd1 : Cond.fieldLink RX0 15 RX0 "value" "I" ∈ gw := gw_of (List.mem_append_right _ (List.mem_of_getElem? (i := 151) (by decide +kernel))) (by decide +kernel)
theorem wd2 : Cond.fieldLink RX0 18 RX0 "isOffered" "Z" ∈ gw := gw_of (List.mem_append_right _ (List.mem_of_getElem? (i := 152) (by decide +kernel))) (by decide +kernel)
theorem wd3 : Cond.methodLink RX6 317 yJ9_min_7cf53 ∈ gw := gw_of (List.mem_append_right _ (List.mem_of_getElem? (i := 464) (by decide +kernel))) (by decide +kernel)
theorem wd4 : Cond.methodLink RX6 322 yJ9_max_7cf53 ∈ gw := gw_of (List.mem_append_right _ (List.mem_of_getElem? (i := 465) (by decide +kernel))) (by decide +kernel)
theorem xinX2 : ∀ w ∈ u_ws RX2 TX2 11, w ∈ gw := by
  have h : (u_ws RX2 TX2 11).all (fun w => decide (w ∈ lw_tbl) && goodWord w) = true := by decide +kernel
  intro w hw
  have h1 := List.all_eq_true.mp h w hw
  simp only [Bool.and_eq_true, decide_eq_true_eq] at h1
  exact gw_of h1.1 h1.2
theorem wd5 : Cond.fieldLink RX2 27 RX2 "painters" "I" ∈ gw := gw_of (List.mem_append_right _ (List.mem_of_getElem? (i := 44) (by decide +kernel))) (by decide +kernel)
theorem wd6 : Cond.fieldLink RX2 30 RX2 "kind" "[I" ∈ gw := gw_of (List.mem_append_right _ (List.mem_of_getElem? (i := 46) (by decide +kernel))) (by decide +kernel)
theorem wd7 : Cond.fieldLink RX2 34 RX2 "number" "[I" ∈ gw := gw_of (List.mem_append_right _ (List.mem_of_getElem? (i := 48) (by decide +kernel))) (by decide +kernel)
theorem wd8 : Cond.fieldLink RX2 37 RX2 "easel" "[I" ∈ gw := gw_of (List.mem_append_right _ (List.mem_of_getElem? (i := 51) (by decide +kernel))) (by decide +kernel)
theorem wd9 : Cond.fieldLink RX2 40 RX2 "had" "[I" ∈ gw := gw_of (List.mem_append_right _ (List.mem_of_getElem? (i := 54) (by decide +kernel))) (by decide +kernel)
theorem wd10 : Cond.fieldLink RX2 43 RX2 "pleased" "[I" ∈ gw := gw_of (List.mem_append_right _ (List.mem_of_getElem? (i := 56) (by decide +kernel))) (by decide +kernel)
theorem wd11 : Cond.static yX6_isEasel ∈ gw := gw_of (List.mem_append_right _ (List.mem_of_getElem? (i := 382) (by decide +kernel))) (by decide +kernel)
theorem wd12 : Cond.initialized RX6 ∈ gw := gw_of (List.mem_append_right _ (List.mem_of_getElem? (i := 1) (by decide +kernel))) (by decide +kernel)
theorem wd13 : Cond.code yX6_isEasel cX6_isEasel 1 (some .boolean) ∈ gw := gw_of (List.mem_append_right _ (List.mem_of_getElem? (i := 383) (by decide +kernel))) (by decide +kernel)
theorem cwn_X2_52 : CWn RX2 RX6 52 yX6_isEasel cX6_isEasel 1 (some .boolean) 1 := ⟨by decide +kernel, wd11, wd12, wd13, (by decide +kernel), (by decide +kernel), (by decide +kernel), (by decide +kernel)⟩
theorem wd14 : Cond.methodLink RX2 56 yX2_freeEasels ∈ gw := gw_of (List.mem_append_right _ (List.mem_of_getElem? (i := 397) (by decide +kernel))) (by decide +kernel)
theorem wd15 : Cond.instanceMethod yX2_freeEasels ∈ gw := gw_of (List.mem_append_right _ (List.mem_of_getElem? (i := 398) (by decide +kernel))) (by decide +kernel)
theorem wd16 : Cond.selects RX2 yX2_freeEasels yX2_freeEasels ∈ gw := gw_of (List.mem_append_right _ (List.mem_of_getElem? (i := 399) (by decide +kernel))) (by decide +kernel)
theorem wd17 : Cond.initialized RX2 ∈ gw := gw_of (List.mem_append_right _ (List.mem_of_getElem? (i := 2) (by decide +kernel))) (by decide +kernel)
theorem wd18 : Cond.code yX2_freeEasels cX2_freeEasels 3 (some .int) ∈ gw := gw_of (List.mem_append_right _ (List.mem_of_getElem? (i := 400) (by decide +kernel))) (by decide +kernel)
theorem cwv_X2_56 : CWv RX2 56 yX2_freeEasels cX2_freeEasels 3 (some .int) 0 := ⟨wd14, wd15, wd16, wd17, wd18, (by decide +kernel), (by decide +kernel), (by decide +kernel), (by decide +kernel)⟩
theorem wd19 : Cond.methodLink RX2 60 yX2_isFree ∈ gw := gw_of (List.mem_append_right _ (List.mem_of_getElem? (i := 392) (by decide +kernel))) (by decide +kernel)
theorem wd20 : Cond.instanceMethod yX2_isFree ∈ gw := gw_of (List.mem_append_right _ (List.mem_of_getElem? (i := 393) (by decide +kernel))) (by decide +kernel)
theorem wd21 : Cond.selects RX2 yX2_isFree yX2_isFree ∈ gw := gw_of (List.mem_append_right _ (List.mem_of_getElem? (i := 394) (by decide +kernel))) (by decide +kernel)
theorem wd22 : Cond.code yX2_isFree cX2_isFree 2 (some .boolean) ∈ gw := gw_of (List.mem_append_right _ (List.mem_of_getElem? (i := 395) (by decide +kernel))) (by decide +kernel)
theorem cwv_X2_60 : CWv RX2 60 yX2_isFree cX2_isFree 2 (some .boolean) 1 := ⟨wd19, wd20, wd21, wd17, wd22, (by decide +kernel), (by decide +kernel), (by decide +kernel), (by decide +kernel)⟩
theorem wd23 : Cond.fieldLink RX2 9 RX2 "face" "I" ∈ gw := gw_of (List.mem_append_right _ (List.mem_of_getElem? (i := 30) (by decide +kernel))) (by decide +kernel)
theorem wd24 : Cond.methodLink RX2 67 yJ9_abs_0f7a4 ∈ gw := gw_of (List.mem_append_right _ (List.mem_of_getElem? (i := 442) (by decide +kernel))) (by decide +kernel)
theorem wd25 : Cond.methodLink RX2 73 yJ9_min_7cf53 ∈ gw := gw_of (List.mem_append_right _ (List.mem_of_getElem? (i := 445) (by decide +kernel))) (by decide +kernel)
theorem wd26 : Cond.methodLink RX2 63 yX2_awayOf ∈ gw := gw_of (List.mem_append_right _ (List.mem_of_getElem? (i := 450) (by decide +kernel))) (by decide +kernel)
theorem wd27 : Cond.static yX2_awayOf ∈ gw := gw_of (List.mem_append_right _ (List.mem_of_getElem? (i := 440) (by decide +kernel))) (by decide +kernel)
theorem wd28 : Cond.code yX2_awayOf cX2_awayOf 3 (some .int) ∈ gw := gw_of (List.mem_append_right _ (List.mem_of_getElem? (i := 441) (by decide +kernel))) (by decide +kernel)
theorem cws_X2_63 : CWs RX2 63 yX2_awayOf cX2_awayOf 3 (some .int) 2 := ⟨wd26, wd27, wd17, wd28, (by decide +kernel), (by decide +kernel), (by decide +kernel), (by decide +kernel)⟩
theorem wd29 : Cond.methodLink RX2 76 yX2_sideOf ∈ gw := gw_of (List.mem_append_right _ (List.mem_of_getElem? (i := 405) (by decide +kernel))) (by decide +kernel)
theorem wd30 : Cond.instanceMethod yX2_sideOf ∈ gw := gw_of (List.mem_append_right _ (List.mem_of_getElem? (i := 406) (by decide +kernel))) (by decide +kernel)
theorem wd31 : Cond.selects RX2 yX2_sideOf yX2_sideOf ∈ gw := gw_of (List.mem_append_right _ (List.mem_of_getElem? (i := 407) (by decide +kernel))) (by decide +kernel)
theorem wd32 : Cond.code yX2_sideOf cX2_sideOf 2 (some .int) ∈ gw := gw_of (List.mem_append_right _ (List.mem_of_getElem? (i := 408) (by decide +kernel))) (by decide +kernel)
theorem cwv_X2_76 : CWv RX2 76 yX2_sideOf cX2_sideOf 2 (some .int) 1 := ⟨wd29, wd30, wd31, wd17, wd32, (by decide +kernel), (by decide +kernel), (by decide +kernel), (by decide +kernel)⟩
theorem wd33 : Cond.fieldLink RX2 15 RX2 "lamp" "I" ∈ gw := gw_of (List.mem_append_right _ (List.mem_of_getElem? (i := 32) (by decide +kernel))) (by decide +kernel)
theorem wd34 : Cond.fieldLink RX2 18 RX2 "stove" "I" ∈ gw := gw_of (List.mem_append_right _ (List.mem_of_getElem? (i := 35) (by decide +kernel))) (by decide +kernel)
theorem wd35 : Cond.fieldLink RX2 21 RX2 "pose" "I" ∈ gw := gw_of (List.mem_append_right _ (List.mem_of_getElem? (i := 38) (by decide +kernel))) (by decide +kernel)
theorem wd36 : Cond.constant RX2 79 (-99999) ∈ gw := gw_of (List.mem_append_right _ (List.mem_of_getElem? (i := 539) (by decide +kernel))) (by decide +kernel)
theorem wd37 : Cond.constant RX2 80 (99999) ∈ gw := gw_of (List.mem_append_right _ (List.mem_of_getElem? (i := 540) (by decide +kernel))) (by decide +kernel)
theorem wd38 : Cond.static yX6_within ∈ gw := gw_of (List.mem_append_right _ (List.mem_of_getElem? (i := 462) (by decide +kernel))) (by decide +kernel)
theorem wd39 : Cond.code yX6_within cX6_within 3 (some .int) ∈ gw := gw_of (List.mem_append_right _ (List.mem_of_getElem? (i := 463) (by decide +kernel))) (by decide +kernel)
theorem cwn_X2_81 : CWn RX2 RX6 81 yX6_within cX6_within 3 (some .int) 3 := ⟨by decide +kernel, wd38, wd12, wd39, (by decide +kernel), (by decide +kernel), (by decide +kernel), (by decide +kernel)⟩
theorem wd40 : Cond.methodLink RX2 85 yX2_leastPleased ∈ gw := gw_of (List.mem_append_right _ (List.mem_of_getElem? (i := 585) (by decide +kernel))) (by decide +kernel)
theorem wd41 : Cond.instanceMethod yX2_leastPleased ∈ gw := gw_of (List.mem_append_right _ (List.mem_of_getElem? (i := 586) (by decide +kernel))) (by decide +kernel)
theorem wd42 : Cond.selects RX2 yX2_leastPleased yX2_leastPleased ∈ gw := gw_of (List.mem_append_right _ (List.mem_of_getElem? (i := 587) (by decide +kernel))) (by decide +kernel)
theorem wd43 : Cond.code yX2_leastPleased cX2_leastPleased 3 (some .int) ∈ gw := gw_of (List.mem_append_right _ (List.mem_of_getElem? (i := 588) (by decide +kernel))) (by decide +kernel)
theorem cwv_X2_85 : CWv RX2 85 yX2_leastPleased cX2_leastPleased 3 (some .int) 0 := ⟨wd40, wd41, wd42, wd17, wd43, (by decide +kernel), (by decide +kernel), (by decide +kernel), (by decide +kernel)⟩
theorem wd44 : Cond.fieldLink RX2 24 RX2 "rule" "I" ∈ gw := gw_of (List.mem_append_right _ (List.mem_of_getElem? (i := 41) (by decide +kernel))) (by decide +kernel)
theorem wd45 : Cond.methodLink RX2 46 (⟨"java/lang/System", "arraycopy", "(Ljava/lang/Object;ILjava/lang/Object;II)V"⟩ : MethodName) ∈ gw := gw_of (List.mem_append_right _ (List.mem_of_getElem? (i := 573) (by decide +kernel))) (by decide +kernel)
