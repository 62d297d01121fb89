theorem xinX7 : ∀ w ∈ u_ws RX7 TX7 39, w ∈ gw := by
  have h : (u_ws RX7 TX7 39).all (fun w => decide (w ∈ lw_tbl) && goodWord w) = true := by decide +kernel
  intro w hw
  have h1 := List.all_eq_true.mp h w hw
  simp only [Bool.and_eq_true, decide_eq_true_eq] at h1
  exact gw_of h1.1 h1.2
theorem wd106 : Cond.fieldLink RX7 13 RX7 "texts" "[I" ∈ gw := gw_of (List.mem_append_right _ (List.mem_of_getElem? (i := 758) (by decide +kernel))) (by decide +kernel)
theorem wd107 : Cond.fieldLink RX7 70 RX7 "many" "I" ∈ gw := gw_of (List.mem_append_right _ (List.mem_of_getElem? (i := 767) (by decide +kernel))) (by decide +kernel)
theorem wd108 : Cond.methodLink RX7 73 yX7_in ∈ gw := gw_of (List.mem_append_right _ (List.mem_of_getElem? (i := 881) (by decide +kernel))) (by decide +kernel)
theorem wd109 : Cond.static yX7_in ∈ gw := gw_of (List.mem_append_right _ (List.mem_of_getElem? (i := 882) (by decide +kernel))) (by decide +kernel)
theorem wd110 : Cond.initialized RX7 ∈ gw := gw_of (List.mem_append_right _ (List.mem_of_getElem? (i := 15) (by decide +kernel))) (by decide +kernel)
theorem wd111 : Cond.code yX7_in cX7_in 6 (some .boolean) ∈ gw := gw_of (List.mem_append_right _ (List.mem_of_getElem? (i := 883) (by decide +kernel))) (by decide +kernel)
theorem cws_X7_73 : CWs RX7 73 yX7_in cX7_in 6 (some .boolean) 3 := ⟨wd108, wd109, wd110, wd111, (by decide +kernel), (by decide +kernel), (by decide +kernel), (by decide +kernel)⟩
theorem wd112 : Cond.constantLong RX7 77 (10) ∈ gw := gw_of (List.mem_append_right _ (List.mem_of_getElem? (i := 899) (by decide +kernel))) (by decide +kernel)
theorem wd113 : Cond.fieldLink RX7 29 RX7 "rows" "[I" ∈ gw := gw_of (List.mem_append_right _ (List.mem_of_getElem? (i := 766) (by decide +kernel))) (by decide +kernel)
theorem wd114 : Cond.methodLink RX7 79 yX7_isEasel ∈ gw := gw_of (List.mem_append_right _ (List.mem_of_getElem? (i := 896) (by decide +kernel))) (by decide +kernel)
theorem wd115 : Cond.static yX7_isEasel ∈ gw := gw_of (List.mem_append_right _ (List.mem_of_getElem? (i := 897) (by decide +kernel))) (by decide +kernel)
theorem wd116 : Cond.code yX7_isEasel cX7_isEasel 1 (some .boolean) ∈ gw := gw_of (List.mem_append_right _ (List.mem_of_getElem? (i := 898) (by decide +kernel))) (by decide +kernel)
theorem cws_X7_79 : CWs RX7 79 yX7_isEasel cX7_isEasel 1 (some .boolean) 1 := ⟨wd114, wd115, wd110, wd116, (by decide +kernel), (by decide +kernel), (by decide +kernel), (by decide +kernel)⟩
theorem wd117 : Cond.methodLink RX7 83 yX7_whoAt ∈ gw := gw_of (List.mem_append_right _ (List.mem_of_getElem? (i := 900) (by decide +kernel))) (by decide +kernel)
theorem wd118 : Cond.instanceMethod yX7_whoAt ∈ gw := gw_of (List.mem_append_right _ (List.mem_of_getElem? (i := 902) (by decide +kernel))) (by decide +kernel)
theorem wd119 : Cond.selects RX7 yX7_whoAt yX7_whoAt ∈ gw := gw_of (List.mem_append_left _ (List.mem_of_getElem? (i := 38) (by decide +kernel))) (by decide +kernel)
theorem wd120 : Cond.code yX7_whoAt cX7_whoAt 3 (some .int) ∈ gw := gw_of (List.mem_append_right _ (List.mem_of_getElem? (i := 903) (by decide +kernel))) (by decide +kernel)
theorem cwv_X7_83 : CWv RX7 83 yX7_whoAt cX7_whoAt 3 (some .int) 1 := ⟨wd117, wd118, wd119, wd110, wd120, (by decide +kernel), (by decide +kernel), (by decide +kernel), (by decide +kernel)⟩
theorem wd121 : Cond.constantLong RX7 93 (9) ∈ gw := gw_of (List.mem_append_right _ (List.mem_of_getElem? (i := 905) (by decide +kernel))) (by decide +kernel)
theorem wd122 : Cond.constantLong RX7 91 (999) ∈ gw := gw_of (List.mem_append_right _ (List.mem_of_getElem? (i := 904) (by decide +kernel))) (by decide +kernel)
theorem wd123 : Cond.methodLink RX7 87 yX7_isFreeFor ∈ gw := gw_of (List.mem_append_right _ (List.mem_of_getElem? (i := 892) (by decide +kernel))) (by decide +kernel)
theorem wd124 : Cond.instanceMethod yX7_isFreeFor ∈ gw := gw_of (List.mem_append_right _ (List.mem_of_getElem? (i := 894) (by decide +kernel))) (by decide +kernel)
theorem wd125 : Cond.selects RX7 yX7_isFreeFor yX7_isFreeFor ∈ gw := gw_of (List.mem_append_left _ (List.mem_of_getElem? (i := 37) (by decide +kernel))) (by decide +kernel)
theorem wd126 : Cond.code yX7_isFreeFor cX7_isFreeFor 3 (some .boolean) ∈ gw := gw_of (List.mem_append_right _ (List.mem_of_getElem? (i := 895) (by decide +kernel))) (by decide +kernel)
theorem cwv_X7_87 : CWv RX7 87 yX7_isFreeFor cX7_isFreeFor 3 (some .boolean) 2 := ⟨wd123, wd124, wd125, wd110, wd126, (by decide +kernel), (by decide +kernel), (by decide +kernel), (by decide +kernel)⟩
theorem wd127 : Cond.fieldLink RX7 112 RX7 "rule" "I" ∈ gw := gw_of (List.mem_append_right _ (List.mem_of_getElem? (i := 761) (by decide +kernel))) (by decide +kernel)
theorem wd128 : Cond.fieldLink RX7 26 RX7 "kinds" "[I" ∈ gw := gw_of (List.mem_append_right _ (List.mem_of_getElem? (i := 765) (by decide +kernel))) (by decide +kernel)
theorem wd129 : Cond.fieldLink RX7 23 RX7 "room" "[I" ∈ gw := gw_of (List.mem_append_right _ (List.mem_of_getElem? (i := 764) (by decide +kernel))) (by decide +kernel)
theorem wd130 : Cond.constantLong RX7 95 (5) ∈ gw := gw_of (List.mem_append_right _ (List.mem_of_getElem? (i := 880) (by decide +kernel))) (by decide +kernel)
theorem wd131 : Cond.constantLong RX7 136 (255) ∈ gw := gw_of (List.mem_append_right _ (List.mem_of_getElem? (i := 1156) (by decide +kernel))) (by decide +kernel)
theorem wd132 : Cond.fieldLink RX7 138 RX7 "taped" "I" ∈ gw := gw_of (List.mem_append_right _ (List.mem_of_getElem? (i := 763) (by decide +kernel))) (by decide +kernel)
theorem wd133 : Cond.fieldLink RX7 20 RX7 "tape" "[I" ∈ gw := gw_of (List.mem_append_right _ (List.mem_of_getElem? (i := 762) (by decide +kernel))) (by decide +kernel)
theorem wd134 : Cond.fieldLink RX7 141 RX7 "size" "I" ∈ gw := gw_of (List.mem_append_right _ (List.mem_of_getElem? (i := 775) (by decide +kernel))) (by decide +kernel)
theorem wd135 : Cond.fieldLink RX7 144 RX7 "from" "I" ∈ gw := gw_of (List.mem_append_right _ (List.mem_of_getElem? (i := 774) (by decide +kernel))) (by decide +kernel)
theorem wd136 : Cond.fieldLink RX7 147 RX7 "here" "I" ∈ gw := gw_of (List.mem_append_right _ (List.mem_of_getElem? (i := 776) (by decide +kernel))) (by decide +kernel)
theorem wd137 : Cond.methodLink RX7 150 yX7_byteAt ∈ gw := gw_of (List.mem_append_right _ (List.mem_of_getElem? (i := 946) (by decide +kernel))) (by decide +kernel)
theorem wd138 : Cond.instanceMethod yX7_byteAt ∈ gw := gw_of (List.mem_append_right _ (List.mem_of_getElem? (i := 948) (by decide +kernel))) (by decide +kernel)
theorem wd139 : Cond.selects RX7 yX7_byteAt yX7_byteAt ∈ gw := gw_of (List.mem_append_left _ (List.mem_of_getElem? (i := 46) (by decide +kernel))) (by decide +kernel)
theorem wd140 : Cond.code yX7_byteAt cX7_byteAt 2 (some .int) ∈ gw := gw_of (List.mem_append_right _ (List.mem_of_getElem? (i := 949) (by decide +kernel))) (by decide +kernel)
theorem cwv_X7_150 : CWv RX7 150 yX7_byteAt cX7_byteAt 2 (some .int) 1 := ⟨wd137, wd138, wd139, wd110, wd140, (by decide +kernel), (by decide +kernel), (by decide +kernel), (by decide +kernel)⟩
theorem wd141 : Cond.fieldLink RX7 153 RX7 "tokenAt" "I" ∈ gw := gw_of (List.mem_append_right _ (List.mem_of_getElem? (i := 778) (by decide +kernel))) (by decide +kernel)
theorem wd142 : Cond.fieldLink RX7 156 RX7 "token" "I" ∈ gw := gw_of (List.mem_append_right _ (List.mem_of_getElem? (i := 777) (by decide +kernel))) (by decide +kernel)
theorem wd143 : Cond.constantLong RX7 159 (97) ∈ gw := gw_of (List.mem_append_right _ (List.mem_of_getElem? (i := 950) (by decide +kernel))) (by decide +kernel)
theorem wd144 : Cond.constantLong RX7 161 (122) ∈ gw := gw_of (List.mem_append_right _ (List.mem_of_getElem? (i := 951) (by decide +kernel))) (by decide +kernel)
theorem wd145 : Cond.constantLong RX7 163 (48) ∈ gw := gw_of (List.mem_append_right _ (List.mem_of_getElem? (i := 952) (by decide +kernel))) (by decide +kernel)
theorem wd146 : Cond.constantLong RX7 165 (57) ∈ gw := gw_of (List.mem_append_right _ (List.mem_of_getElem? (i := 953) (by decide +kernel))) (by decide +kernel)
theorem wd147 : Cond.fieldLink RX7 167 RX7 "tokenWorth" "J" ∈ gw := gw_of (List.mem_append_right _ (List.mem_of_getElem? (i := 779) (by decide +kernel))) (by decide +kernel)
theorem wd148 : Cond.fieldLink RX7 171 RX7 "bad" "Z" ∈ gw := gw_of (List.mem_append_right _ (List.mem_of_getElem? (i := 781) (by decide +kernel))) (by decide +kernel)
theorem wd149 : Cond.fieldLink RX7 175 RX7 "fault" "I" ∈ gw := gw_of (List.mem_append_right _ (List.mem_of_getElem? (i := 782) (by decide +kernel))) (by decide +kernel)
theorem wd150 : Cond.methodLink RX7 178 yX7_isLetter ∈ gw := gw_of (List.mem_append_right _ (List.mem_of_getElem? (i := 958) (by decide +kernel))) (by decide +kernel)
theorem wd151 : Cond.instanceMethod yX7_isLetter ∈ gw := gw_of (List.mem_append_right _ (List.mem_of_getElem? (i := 960) (by decide +kernel))) (by decide +kernel)
theorem wd152 : Cond.selects RX7 yX7_isLetter yX7_isLetter ∈ gw := gw_of (List.mem_append_left _ (List.mem_of_getElem? (i := 48) (by decide +kernel))) (by decide +kernel)
theorem wd153 : Cond.code yX7_isLetter cX7_isLetter 3 (some .boolean) ∈ gw := gw_of (List.mem_append_right _ (List.mem_of_getElem? (i := 961) (by decide +kernel))) (by decide +kernel)
theorem cwv_X7_178 : CWv RX7 178 yX7_isLetter cX7_isLetter 3 (some .boolean) 2 := ⟨wd150, wd151, wd152, wd110, wd153, (by decide +kernel), (by decide +kernel), (by decide +kernel), (by decide +kernel)⟩
theorem wd154 : Cond.fieldLink RX7 181 RX7 "open" "I" ∈ gw := gw_of (List.mem_append_right _ (List.mem_of_getElem? (i := 780) (by decide +kernel))) (by decide +kernel)
theorem wd155 : Cond.methodLink RX7 187 yX7_next ∈ gw := gw_of (List.mem_append_right _ (List.mem_of_getElem? (i := 942) (by decide +kernel))) (by decide +kernel)
theorem wd156 : Cond.instanceMethod yX7_next ∈ gw := gw_of (List.mem_append_right _ (List.mem_of_getElem? (i := 944) (by decide +kernel))) (by decide +kernel)
theorem wd157 : Cond.selects RX7 yX7_next yX7_next ∈ gw := gw_of (List.mem_append_left _ (List.mem_of_getElem? (i := 45) (by decide +kernel))) (by decide +kernel)
theorem wd158 : Cond.code yX7_next cX7_next 3 none ∈ gw := gw_of (List.mem_append_right _ (List.mem_of_getElem? (i := 945) (by decide +kernel))) (by decide +kernel)
theorem cwv_X7_187 : CWv RX7 187 yX7_next cX7_next 3 none 0 := ⟨wd155, wd156, wd157, wd110, wd158, (by decide +kernel), (by decide +kernel), (by decide +kernel), (by decide +kernel)⟩
theorem wd159 : Cond.methodLink RX7 184 yX7_fail ∈ gw := gw_of (List.mem_append_right _ (List.mem_of_getElem? (i := 966) (by decide +kernel))) (by decide +kernel)
theorem wd160 : Cond.instanceMethod yX7_fail ∈ gw := gw_of (List.mem_append_right _ (List.mem_of_getElem? (i := 968) (by decide +kernel))) (by decide +kernel)
theorem wd161 : Cond.selects RX7 yX7_fail yX7_fail ∈ gw := gw_of (List.mem_append_left _ (List.mem_of_getElem? (i := 50) (by decide +kernel))) (by decide +kernel)
theorem wd162 : Cond.code yX7_fail cX7_fail 1 none ∈ gw := gw_of (List.mem_append_right _ (List.mem_of_getElem? (i := 969) (by decide +kernel))) (by decide +kernel)
theorem cwv_X7_184 : CWv RX7 184 yX7_fail cX7_fail 1 none 0 := ⟨wd159, wd160, wd161, wd110, wd162, (by decide +kernel), (by decide +kernel), (by decide +kernel), (by decide +kernel)⟩
theorem wd163 : Cond.methodLink RX7 190 yX7_isWord ∈ gw := gw_of (List.mem_append_right _ (List.mem_of_getElem? (i := 954) (by decide +kernel))) (by decide +kernel)
theorem wd164 : Cond.instanceMethod yX7_isWord ∈ gw := gw_of (List.mem_append_right _ (List.mem_of_getElem? (i := 956) (by decide +kernel))) (by decide +kernel)
theorem wd165 : Cond.selects RX7 yX7_isWord yX7_isWord ∈ gw := gw_of (List.mem_append_left _ (List.mem_of_getElem? (i := 47) (by decide +kernel))) (by decide +kernel)
theorem wd166 : Cond.code yX7_isWord cX7_isWord 9 (some .boolean) ∈ gw := gw_of (List.mem_append_right _ (List.mem_of_getElem? (i := 957) (by decide +kernel))) (by decide +kernel)
theorem cwv_X7_190 : CWv RX7 190 yX7_isWord cX7_isWord 9 (some .boolean) 8 := ⟨wd163, wd164, wd165, wd110, wd166, (by decide +kernel), (by decide +kernel), (by decide +kernel), (by decide +kernel)⟩
theorem wd167 : Cond.fieldLink RX7 209 RX7 "ofNear" "I" ∈ gw := gw_of (List.mem_append_right _ (List.mem_of_getElem? (i := 773) (by decide +kernel))) (by decide +kernel)
theorem wd168 : Cond.fieldLink RX7 206 RX7 "ofPose" "I" ∈ gw := gw_of (List.mem_append_right _ (List.mem_of_getElem? (i := 772) (by decide +kernel))) (by decide +kernel)
theorem wd169 : Cond.fieldLink RX7 203 RX7 "ofNumber" "I" ∈ gw := gw_of (List.mem_append_right _ (List.mem_of_getElem? (i := 771) (by decide +kernel))) (by decide +kernel)
theorem wd170 : Cond.fieldLink RX7 200 RX7 "ofStove" "I" ∈ gw := gw_of (List.mem_append_right _ (List.mem_of_getElem? (i := 770) (by decide +kernel))) (by decide +kernel)
theorem wd171 : Cond.fieldLink RX7 197 RX7 "ofLamp" "I" ∈ gw := gw_of (List.mem_append_right _ (List.mem_of_getElem? (i := 769) (by decide +kernel))) (by decide +kernel)
theorem wd172 : Cond.fieldLink RX7 194 RX7 "ofSide" "I" ∈ gw := gw_of (List.mem_append_right _ (List.mem_of_getElem? (i := 768) (by decide +kernel))) (by decide +kernel)
def f_X7_in (l0 : Int64) (l2 : Int64) (l4 : Int64) : Option (Int32) :=
  if (lg_cmp l0 l2) < 0 then (
  some 0) else (
  if 0 < (lg_cmp l0 l4) then (
  some 0) else (
  some 1))
set_option maxRecDepth 100000 in
set_option maxHeartbeats 4000000 in
theorem t_X7_in {x : VX} {r : Int32} {l0 : Int64} {l2 : Int64} {l4 : Int64} (X : Cx x cX7_in RX7 1) (hN : vxn x = 6) (hR : narrow .boolean (.int r) = .int r → RetI x cX7_in 0 0 r []) (hf : f_X7_in l0 l2 l4 = some r) : V x 0 0 [] [(0, .long l0), (2, .long l2), (4, .long l4)] 0 [] := by
  unfold f_X7_in at hf
  refine v_lload_n X 0 rfl dX7_in_0 ?_
  refine v_lload_n X 1 rfl dX7_in_1 ?_
  refine v_lcmp X dX7_in_2 ?_
  refine v_if_lt X (tgt := 17) hf (by decide) dX7_in_3 (fun c3 hf => ?_) (fun c3 hf => ?_)
  · refine v_iconst X (v := 0) (by decide) dX7_in_17 ?_
    obtain rfl := Option.some.inj hf
    exact v_iret (hR nz0) dX7_in_18
  · refine v_lload_n X 0 rfl dX7_in_6 ?_
    refine v_lload X 2 rfl dX7_in_7 ?_
    refine v_lcmp X dX7_in_9 ?_
    refine v_if_gt X (tgt := 17) hf (by decide) dX7_in_10 (fun c10 hf => ?_) (fun c10 hf => ?_)
    · refine v_iconst X (v := 0) (by decide) dX7_in_17 ?_
      obtain rfl := Option.some.inj hf
      exact v_iret (hR nz0) dX7_in_18
    · refine v_iconst X (v := 1) (by decide) dX7_in_13 ?_
      refine v_goto X (tgt := 18) (by decide) dX7_in_14 ?_
      obtain rfl := Option.some.inj hf
      exact v_iret (hR nz1) dX7_in_18
set_option maxRecDepth 100000 in
set_option maxHeartbeats 4000000 in
theorem c_X7_in {l : Launch} {D : va_G} {qT : Nat → ClassId} {Z : (Nat → Prop) → State → Heap → Prop} {r : Int32} {l0 : Int64} {l2 : Int64} {l4 : Int64} (hZ : ZOK Z) (hf : f_X7_in l0 l2 l4 = some r) :
    CI l D qT Z yX7_in cX7_in 6 (some .boolean) 1 0 0 [.long l0, .long l2, .long l4] [] r [] := by
  refine CZ_of hZ (by decide) (Nat.le_of_ble_eq_true rfl) ?_
  intro x e1 e2 e3 e4 e5 e6 hin X hR
  subst e1 e2 e3 e4
  exact t_X7_in X e6 hR hf
def f_X7_within (l0 : Int32) (l1 : Int32) (l2 : Int32) : Option (Int32) :=
  if l1 ≤ l0 then (
  if l0 ≤ l2 then (
  some l0) else (
  some l2)) else (
  some l1)
set_option maxRecDepth 100000 in
set_option maxHeartbeats 4000000 in
theorem t_X7_within {x : VX} {r : Int32} {l0 : Int32} {l1 : Int32} {l2 : Int32} (X : Cx x cX7_within RX7 1) (hN : vxn x = 3) (hR : RetI x cX7_within 0 0 r []) (hf : f_X7_within l0 l1 l2 = some r) : V x 0 0 [] [(0, .int l0), (1, .int l1), (2, .int l2)] 0 [] := by
  unfold f_X7_within at hf
  refine v_iload_n X 0 rfl dX7_within_0 ?_
  refine v_iload_n X 1 rfl dX7_within_1 ?_
  refine v_icmp_ge X (tgt := 9) hf (by decide) dX7_within_2 (fun c2 hf => ?_) (fun c2 hf => ?_)
  · refine v_iload_n X 0 rfl dX7_within_9 ?_
    refine v_iload_n X 2 rfl dX7_within_10 ?_
    refine v_icmp_le X (tgt := 18) hf (by decide) dX7_within_11 (fun c11 hf => ?_) (fun c11 hf => ?_)
    · refine v_iload_n X 0 rfl dX7_within_18 ?_
      obtain rfl := Option.some.inj hf
      exact v_iret hR dX7_within_19
    · refine v_iload_n X 2 rfl dX7_within_14 ?_
      refine v_goto X (tgt := 19) (by decide) dX7_within_15 ?_
      obtain rfl := Option.some.inj hf
      exact v_iret hR dX7_within_19
  · refine v_iload_n X 1 rfl dX7_within_5 ?_
    refine v_goto X (tgt := 19) (by decide) dX7_within_6 ?_
    obtain rfl := Option.some.inj hf
    exact v_iret hR dX7_within_19
set_option maxRecDepth 100000 in
set_option maxHeartbeats 4000000 in
theorem c_X7_within {l : Launch} {D : va_G} {qT : Nat → ClassId} {Z : (Nat → Prop) → State → Heap → Prop} {r : Int32} {l0 : Int32} {l1 : Int32} {l2 : Int32} (hZ : ZOK Z) (hf : f_X7_within l0 l1 l2 = some r) :
    CI l D qT Z yX7_within cX7_within 3 (some .int) 1 0 0 [.int l0, .int l1, .int l2] [] r [] := by
  refine CI_of hZ (by decide) (Nat.le_of_ble_eq_true rfl) ?_
  intro x e1 e2 e3 e4 e5 e6 hin X hR
  subst e1 e2 e3 e4
  exact t_X7_within X e6 hR hf
def f_X7_spell (l1 : Int32) (l2 : Int32) (l3 : Int32) (l4 : Int32) (l5 : Int32) (l6 : Int32) (l7 : Int32) (l8 : Int32) (l9 : Int32) (s_texts : Nat → Int32) : Option ((Nat → Int32)) :=
  if inb l1 960 = true then (
  if inb (l1 + 1) 960 = true then (
  if inb (l1 + 2) 960 = true then (
  if inb (l1 + 3) 960 = true then (
  if inb (l1 + 4) 960 = true then (
  if inb (l1 + 5) 960 = true then (
  if inb (l1 + 6) 960 = true then (
  if inb (l1 + 7) 960 = true then (
  some (upd (upd (upd (upd (upd (upd (upd (upd s_texts (Int32.toNatClampNeg l1) l2) (Int32.toNatClampNeg (l1 + 1)) l3) (Int32.toNatClampNeg (l1 + 2)) l4) (Int32.toNatClampNeg (l1 + 3)) l5) (Int32.toNatClampNeg (l1 + 4)) l6) (Int32.toNatClampNeg (l1 + 5)) l7) (Int32.toNatClampNeg (l1 + 6)) l8) (Int32.toNatClampNeg (l1 + 7)) l9)) else none) else none) else none) else none) else none) else none) else none) else none
set_option maxRecDepth 100000 in
set_option maxHeartbeats 4000000 in
theorem t_X7_spell {x : VX} {r : (Nat → Int32)} {a0 : Nat} {a_texts : Nat} {a_textSize : Nat} {a_tape : Nat} {a_room : Nat} {a_kinds : Nat} {a_rows : Nat} {a_now : Nat} {a_gained : Nat} {a_rowsWas : Nat} {a_roomKept : Nat} {a_rowsKept : Nat} {a_isThere : Nat} {a_sorts : Nat} {a_sheetSize : Nat} {a_items : Nat} {s_thrown : Int32} {s_textCount : Int32} {s_rule : Int32} {s_taped : Int32} {s_many : Int32} {s_ofSide : Int32} {s_ofLamp : Int32} {s_ofStove : Int32} {s_ofNumber : Int32} {s_ofPose : Int32} {s_ofNear : Int32} {s_from : Int32} {s_size : Int32} {s_here : Int32} {s_token : Int32} {s_tokenAt : Int32} {s_tokenWorth : Int64} {s_open : Int32} {s_bad : Int32} {s_fault : Int32} {s_faceWas : Int32} {s_poseWas : Int32} {s_manyKept : Int32} {s_ruleKept : Int32} {s_texts : Nat → Int32} {l1 : Int32} {l2 : Int32} {l3 : Int32} {l4 : Int32} {l5 : Int32} {l6 : Int32} {l7 : Int32} {l8 : Int32} {l9 : Int32} (X : Cx x cX7_spell RX7 1) (hN : vxn x = 10) (hR : RetV x cX7_spell 0 0 [(a0, .inr (7, [.int s_thrown, .ref a_texts, .ref a_textSize, .int s_textCount, .int s_rule, .ref a_tape, .int s_taped, .ref a_room, .ref a_kinds, .ref a_rows, .int s_many, .int s_ofSide, .int s_ofLamp, .int s_ofStove, .int s_ofNumber, .int s_ofPose, .int s_ofNear, .int s_from, .int s_size, .int s_here, .int s_token, .int s_tokenAt, .long s_tokenWorth, .int s_open, .int s_bad, .int s_fault, .ref a_now, .ref a_gained, .ref a_rowsWas, .int s_faceWas, .int s_poseWas, .ref a_roomKept, .ref a_rowsKept, .int s_manyKept, .int s_ruleKept, .ref a_isThere, .ref a_sorts, .ref a_sheetSize, .ref a_items])), (a_texts, .inl (vxT x 0, 960, .inl r))]) (hf : f_X7_spell l1 l2 l3 l4 l5 l6 l7 l8 l9 s_texts = some r) : V x 0 0 [(a0, .inr (7, [.int s_thrown, .ref a_texts, .ref a_textSize, .int s_textCount, .int s_rule, .ref a_tape, .int s_taped, .ref a_room, .ref a_kinds, .ref a_rows, .int s_many, .int s_ofSide, .int s_ofLamp, .int s_ofStove, .int s_ofNumber, .int s_ofPose, .int s_ofNear, .int s_from, .int s_size, .int s_here, .int s_token, .int s_tokenAt, .long s_tokenWorth, .int s_open, .int s_bad, .int s_fault, .ref a_now, .ref a_gained, .ref a_rowsWas, .int s_faceWas, .int s_poseWas, .ref a_roomKept, .ref a_rowsKept, .int s_manyKept, .int s_ruleKept, .ref a_isThere, .ref a_sorts, .ref a_sheetSize, .ref a_items])), (a_texts, .inl (vxT x 0, 960, .inl s_texts))] [(0, .ref a0), (1, .int l1), (2, .int l2), (3, .int l3), (4, .int l4), (5, .int l5), (6, .int l6), (7, .int l7), (8, .int l8), (9, .int l9)] 0 [] := by
  unfold f_X7_spell at hf
  refine v_aload_n X 0 rfl dX7_spell_0 ?_
  refine v_get X xinX7 0 rfl rfl 1 (by decide) wd106 rfl rfl dX7_spell_1 ?_
  refine v_iload_n X 1 rfl dX7_spell_4 ?_
  refine v_iload_n X 2 rfl dX7_spell_5 ?_
  refine v_iast X 1 rfl hf (ws' := [(a0, .inr (7, [.int s_thrown, .ref a_texts, .ref a_textSize, .int s_textCount, .int s_rule, .ref a_tape, .int s_taped, .ref a_room, .ref a_kinds, .ref a_rows, .int s_many, .int s_ofSide, .int s_ofLamp, .int s_ofStove, .int s_ofNumber, .int s_ofPose, .int s_ofNear, .int s_from, .int s_size, .int s_here, .int s_token, .int s_tokenAt, .long s_tokenWorth, .int s_open, .int s_bad, .int s_fault, .ref a_now, .ref a_gained, .ref a_rowsWas, .int s_faceWas, .int s_poseWas, .ref a_roomKept, .ref a_rowsKept, .int s_manyKept, .int s_ruleKept, .ref a_isThere, .ref a_sorts, .ref a_sheetSize, .ref a_items])), (a_texts, .inl (vxT x 0, 960, .inl (upd s_texts (Int32.toNatClampNeg l1) l2)))]) rfl dX7_spell_6 (fun h6 hf => ?_)
  refine v_aload_n X 0 rfl dX7_spell_7 ?_
  refine v_get X xinX7 0 rfl rfl 1 (by decide) wd106 rfl rfl dX7_spell_8 ?_
  refine v_iload_n X 1 rfl dX7_spell_11 ?_
  refine v_iconst X (v := 1) (by decide) dX7_spell_12 ?_
  refine v_iadd X dX7_spell_13 ?_
  refine v_iload_n X 3 rfl dX7_spell_14 ?_
  refine v_iast X 1 rfl hf (ws' := [(a0, .inr (7, [.int s_thrown, .ref a_texts, .ref a_textSize, .int s_textCount, .int s_rule, .ref a_tape, .int s_taped, .ref a_room, .ref a_kinds, .ref a_rows, .int s_many, .int s_ofSide, .int s_ofLamp, .int s_ofStove, .int s_ofNumber, .int s_ofPose, .int s_ofNear, .int s_from, .int s_size, .int s_here, .int s_token, .int s_tokenAt, .long s_tokenWorth, .int s_open, .int s_bad, .int s_fault, .ref a_now, .ref a_gained, .ref a_rowsWas, .int s_faceWas, .int s_poseWas, .ref a_roomKept, .ref a_rowsKept, .int s_manyKept, .int s_ruleKept, .ref a_isThere, .ref a_sorts, .ref a_sheetSize, .ref a_items])), (a_texts, .inl (vxT x 0, 960, .inl (upd (upd s_texts (Int32.toNatClampNeg l1) l2) (Int32.toNatClampNeg (l1 + 1)) l3)))]) rfl dX7_spell_15 (fun h15 hf => ?_)
  refine v_aload_n X 0 rfl dX7_spell_16 ?_
  refine v_get X xinX7 0 rfl rfl 1 (by decide) wd106 rfl rfl dX7_spell_17 ?_
  refine v_iload_n X 1 rfl dX7_spell_20 ?_
  refine v_iconst X (v := 2) (by decide) dX7_spell_21 ?_
  refine v_iadd X dX7_spell_22 ?_
  refine v_iload X 4 rfl dX7_spell_23 ?_
  refine v_iast X 1 rfl hf (ws' := [(a0, .inr (7, [.int s_thrown, .ref a_texts, .ref a_textSize, .int s_textCount, .int s_rule, .ref a_tape, .int s_taped, .ref a_room, .ref a_kinds, .ref a_rows, .int s_many, .int s_ofSide, .int s_ofLamp, .int s_ofStove, .int s_ofNumber, .int s_ofPose, .int s_ofNear, .int s_from, .int s_size, .int s_here, .int s_token, .int s_tokenAt, .long s_tokenWorth, .int s_open, .int s_bad, .int s_fault, .ref a_now, .ref a_gained, .ref a_rowsWas, .int s_faceWas, .int s_poseWas, .ref a_roomKept, .ref a_rowsKept, .int s_manyKept, .int s_ruleKept, .ref a_isThere, .ref a_sorts, .ref a_sheetSize, .ref a_items])), (a_texts, .inl (vxT x 0, 960, .inl (upd (upd (upd s_texts (Int32.toNatClampNeg l1) l2) (Int32.toNatClampNeg (l1 + 1)) l3) (Int32.toNatClampNeg (l1 + 2)) l4)))]) rfl dX7_spell_25 (fun h25 hf => ?_)
  refine v_aload_n X 0 rfl dX7_spell_26 ?_
  refine v_get X xinX7 0 rfl rfl 1 (by decide) wd106 rfl rfl dX7_spell_27 ?_
  refine v_iload_n X 1 rfl dX7_spell_30 ?_
  refine v_iconst X (v := 3) (by decide) dX7_spell_31 ?_
  refine v_iadd X dX7_spell_32 ?_
  refine v_iload X 5 rfl dX7_spell_33 ?_
  refine v_iast X 1 rfl hf (ws' := [(a0, .inr (7, [.int s_thrown, .ref a_texts, .ref a_textSize, .int s_textCount, .int s_rule, .ref a_tape, .int s_taped, .ref a_room, .ref a_kinds, .ref a_rows, .int s_many, .int s_ofSide, .int s_ofLamp, .int s_ofStove, .int s_ofNumber, .int s_ofPose, .int s_ofNear, .int s_from, .int s_size, .int s_here, .int s_token, .int s_tokenAt, .long s_tokenWorth, .int s_open, .int s_bad, .int s_fault, .ref a_now, .ref a_gained, .ref a_rowsWas, .int s_faceWas, .int s_poseWas, .ref a_roomKept, .ref a_rowsKept, .int s_manyKept, .int s_ruleKept, .ref a_isThere, .ref a_sorts, .ref a_sheetSize, .ref a_items])), (a_texts, .inl (vxT x 0, 960, .inl (upd (upd (upd (upd s_texts (Int32.toNatClampNeg l1) l2) (Int32.toNatClampNeg (l1 + 1)) l3) (Int32.toNatClampNeg (l1 + 2)) l4) (Int32.toNatClampNeg (l1 + 3)) l5)))]) rfl dX7_spell_35 (fun h35 hf => ?_)
  refine v_aload_n X 0 rfl dX7_spell_36 ?_
  refine v_get X xinX7 0 rfl rfl 1 (by decide) wd106 rfl rfl dX7_spell_37 ?_
  refine v_iload_n X 1 rfl dX7_spell_40 ?_
  refine v_iconst X (v := 4) (by decide) dX7_spell_41 ?_
  refine v_iadd X dX7_spell_42 ?_
  refine v_iload X 6 rfl dX7_spell_43 ?_
  refine v_iast X 1 rfl hf (ws' := [(a0, .inr (7, [.int s_thrown, .ref a_texts, .ref a_textSize, .int s_textCount, .int s_rule, .ref a_tape, .int s_taped, .ref a_room, .ref a_kinds, .ref a_rows, .int s_many, .int s_ofSide, .int s_ofLamp, .int s_ofStove, .int s_ofNumber, .int s_ofPose, .int s_ofNear, .int s_from, .int s_size, .int s_here, .int s_token, .int s_tokenAt, .long s_tokenWorth, .int s_open, .int s_bad, .int s_fault, .ref a_now, .ref a_gained, .ref a_rowsWas, .int s_faceWas, .int s_poseWas, .ref a_roomKept, .ref a_rowsKept, .int s_manyKept, .int s_ruleKept, .ref a_isThere, .ref a_sorts, .ref a_sheetSize, .ref a_items])), (a_texts, .inl (vxT x 0, 960, .inl (upd (upd (upd (upd (upd s_texts (Int32.toNatClampNeg l1) l2) (Int32.toNatClampNeg (l1 + 1)) l3) (Int32.toNatClampNeg (l1 + 2)) l4) (Int32.toNatClampNeg (l1 + 3)) l5) (Int32.toNatClampNeg (l1 + 4)) l6)))]) rfl dX7_spell_45 (fun h45 hf => ?_)
  refine v_aload_n X 0 rfl dX7_spell_46 ?_
  refine v_get X xinX7 0 rfl rfl 1 (by decide) wd106 rfl rfl dX7_spell_47 ?_
  refine v_iload_n X 1 rfl dX7_spell_50 ?_
  refine v_iconst X (v := 5) (by decide) dX7_spell_51 ?_
  refine v_iadd X dX7_spell_52 ?_
  refine v_iload X 7 rfl dX7_spell_53 ?_
  refine v_iast X 1 rfl hf (ws' := [(a0, .inr (7, [.int s_thrown, .ref a_texts, .ref a_textSize, .int s_textCount, .int s_rule, .ref a_tape, .int s_taped, .ref a_room, .ref a_kinds, .ref a_rows, .int s_many, .int s_ofSide, .int s_ofLamp, .int s_ofStove, .int s_ofNumber, .int s_ofPose, .int s_ofNear, .int s_from, .int s_size, .int s_here, .int s_token, .int s_tokenAt, .long s_tokenWorth, .int s_open, .int s_bad, .int s_fault, .ref a_now, .ref a_gained, .ref a_rowsWas, .int s_faceWas, .int s_poseWas, .ref a_roomKept, .ref a_rowsKept, .int s_manyKept, .int s_ruleKept, .ref a_isThere, .ref a_sorts, .ref a_sheetSize, .ref a_items])), (a_texts, .inl (vxT x 0, 960, .inl (upd (upd (upd (upd (upd (upd s_texts (Int32.toNatClampNeg l1) l2) (Int32.toNatClampNeg (l1 + 1)) l3) (Int32.toNatClampNeg (l1 + 2)) l4) (Int32.toNatClampNeg (l1 + 3)) l5) (Int32.toNatClampNeg (l1 + 4)) l6) (Int32.toNatClampNeg (l1 + 5)) l7)))]) rfl dX7_spell_55 (fun h55 hf => ?_)
  refine v_aload_n X 0 rfl dX7_spell_56 ?_
  refine v_get X xinX7 0 rfl rfl 1 (by decide) wd106 rfl rfl dX7_spell_57 ?_
  refine v_iload_n X 1 rfl dX7_spell_60 ?_
  refine v_bipush X (v := 6) (by decide) dX7_spell_61 ?_
  refine v_iadd X dX7_spell_63 ?_
  refine v_iload X 8 rfl dX7_spell_64 ?_
  refine v_iast X 1 rfl hf (ws' := [(a0, .inr (7, [.int s_thrown, .ref a_texts, .ref a_textSize, .int s_textCount, .int s_rule, .ref a_tape, .int s_taped, .ref a_room, .ref a_kinds, .ref a_rows, .int s_many, .int s_ofSide, .int s_ofLamp, .int s_ofStove, .int s_ofNumber, .int s_ofPose, .int s_ofNear, .int s_from, .int s_size, .int s_here, .int s_token, .int s_tokenAt, .long s_tokenWorth, .int s_open, .int s_bad, .int s_fault, .ref a_now, .ref a_gained, .ref a_rowsWas, .int s_faceWas, .int s_poseWas, .ref a_roomKept, .ref a_rowsKept, .int s_manyKept, .int s_ruleKept, .ref a_isThere, .ref a_sorts, .ref a_sheetSize, .ref a_items])), (a_texts, .inl (vxT x 0, 960, .inl (upd (upd (upd (upd (upd (upd (upd s_texts (Int32.toNatClampNeg l1) l2) (Int32.toNatClampNeg (l1 + 1)) l3) (Int32.toNatClampNeg (l1 + 2)) l4) (Int32.toNatClampNeg (l1 + 3)) l5) (Int32.toNatClampNeg (l1 + 4)) l6) (Int32.toNatClampNeg (l1 + 5)) l7) (Int32.toNatClampNeg (l1 + 6)) l8)))]) rfl dX7_spell_66 (fun h66 hf => ?_)
  refine v_aload_n X 0 rfl dX7_spell_67 ?_
  refine v_get X xinX7 0 rfl rfl 1 (by decide) wd106 rfl rfl dX7_spell_68 ?_
  refine v_iload_n X 1 rfl dX7_spell_71 ?_
  refine v_bipush X (v := 7) (by decide) dX7_spell_72 ?_
  refine v_iadd X dX7_spell_74 ?_
  refine v_iload X 9 rfl dX7_spell_75 ?_
  refine v_iast X 1 rfl hf (ws' := [(a0, .inr (7, [.int s_thrown, .ref a_texts, .ref a_textSize, .int s_textCount, .int s_rule, .ref a_tape, .int s_taped, .ref a_room, .ref a_kinds, .ref a_rows, .int s_many, .int s_ofSide, .int s_ofLamp, .int s_ofStove, .int s_ofNumber, .int s_ofPose, .int s_ofNear, .int s_from, .int s_size, .int s_here, .int s_token, .int s_tokenAt, .long s_tokenWorth, .int s_open, .int s_bad, .int s_fault, .ref a_now, .ref a_gained, .ref a_rowsWas, .int s_faceWas, .int s_poseWas, .ref a_roomKept, .ref a_rowsKept, .int s_manyKept, .int s_ruleKept, .ref a_isThere, .ref a_sorts, .ref a_sheetSize, .ref a_items])), (a_texts, .inl (vxT x 0, 960, .inl (upd (upd (upd (upd (upd (upd (upd (upd s_texts (Int32.toNatClampNeg l1) l2) (Int32.toNatClampNeg (l1 + 1)) l3) (Int32.toNatClampNeg (l1 + 2)) l4) (Int32.toNatClampNeg (l1 + 3)) l5) (Int32.toNatClampNeg (l1 + 4)) l6) (Int32.toNatClampNeg (l1 + 5)) l7) (Int32.toNatClampNeg (l1 + 6)) l8) (Int32.toNatClampNeg (l1 + 7)) l9)))]) rfl dX7_spell_77 (fun h77 hf => ?_)
  obtain rfl := Option.some.inj hf
  exact v_vret hR dX7_spell_78
set_option maxRecDepth 100000 in
set_option maxHeartbeats 4000000 in
theorem c_X7_spell {l : Launch} {D : va_G} {qT : Nat → ClassId} {Z : (Nat → Prop) → State → Heap → Prop} {r : (Nat → Int32)} {a0 : Nat} {a_texts : Nat} {a_textSize : Nat} {a_tape : Nat} {a_room : Nat} {a_kinds : Nat} {a_rows : Nat} {a_now : Nat} {a_gained : Nat} {a_rowsWas : Nat} {a_roomKept : Nat} {a_rowsKept : Nat} {a_isThere : Nat} {a_sorts : Nat} {a_sheetSize : Nat} {a_items : Nat} {s_thrown : Int32} {s_textCount : Int32} {s_rule : Int32} {s_taped : Int32} {s_many : Int32} {s_ofSide : Int32} {s_ofLamp : Int32} {s_ofStove : Int32} {s_ofNumber : Int32} {s_ofPose : Int32} {s_ofNear : Int32} {s_from : Int32} {s_size : Int32} {s_here : Int32} {s_token : Int32} {s_tokenAt : Int32} {s_tokenWorth : Int64} {s_open : Int32} {s_bad : Int32} {s_fault : Int32} {s_faceWas : Int32} {s_poseWas : Int32} {s_manyKept : Int32} {s_ruleKept : Int32} {s_texts : Nat → Int32} {l1 : Int32} {l2 : Int32} {l3 : Int32} {l4 : Int32} {l5 : Int32} {l6 : Int32} {l7 : Int32} {l8 : Int32} {l9 : Int32} (hZ : ZOK Z) (hf : f_X7_spell l1 l2 l3 l4 l5 l6 l7 l8 l9 s_texts = some r) :
    CV l D qT Z yX7_spell cX7_spell 10 none 1 0 0 [.ref a0, .int l1, .int l2, .int l3, .int l4, .int l5, .int l6, .int l7, .int l8, .int l9] [(a0, .inr (7, [.int s_thrown, .ref a_texts, .ref a_textSize, .int s_textCount, .int s_rule, .ref a_tape, .int s_taped, .ref a_room, .ref a_kinds, .ref a_rows, .int s_many, .int s_ofSide, .int s_ofLamp, .int s_ofStove, .int s_ofNumber, .int s_ofPose, .int s_ofNear, .int s_from, .int s_size, .int s_here, .int s_token, .int s_tokenAt, .long s_tokenWorth, .int s_open, .int s_bad, .int s_fault, .ref a_now, .ref a_gained, .ref a_rowsWas, .int s_faceWas, .int s_poseWas, .ref a_roomKept, .ref a_rowsKept, .int s_manyKept, .int s_ruleKept, .ref a_isThere, .ref a_sorts, .ref a_sheetSize, .ref a_items])), (a_texts, .inl (qT 0, 960, .inl s_texts))] [(a0, .inr (7, [.int s_thrown, .ref a_texts, .ref a_textSize, .int s_textCount, .int s_rule, .ref a_tape, .int s_taped, .ref a_room, .ref a_kinds, .ref a_rows, .int s_many, .int s_ofSide, .int s_ofLamp, .int s_ofStove, .int s_ofNumber, .int s_ofPose, .int s_ofNear, .int s_from, .int s_size, .int s_here, .int s_token, .int s_tokenAt, .long s_tokenWorth, .int s_open, .int s_bad, .int s_fault, .ref a_now, .ref a_gained, .ref a_rowsWas, .int s_faceWas, .int s_poseWas, .ref a_roomKept, .ref a_rowsKept, .int s_manyKept, .int s_ruleKept, .ref a_isThere, .ref a_sorts, .ref a_sheetSize, .ref a_items])), (a_texts, .inl (qT 0, 960, .inl r))] := by
  refine CV_of hZ (by decide) (Nat.le_of_ble_eq_true rfl) ?_
  intro x e1 e2 e3 e4 e5 e6 hin X hR
  subst e1 e2 e3 e4
  exact t_X7_spell X e6 hR hf
def f_X7_isOne (l1 : Int32) (s_many : Int32) : Option (Int32) :=
  (f_X7_in (Int32.toInt64 l1) 0 (Int32.toInt64 (s_many - 1))).bind (fun v10_1 =>
  if isZ v10_1 = true then some v10_1 else none)
set_option maxRecDepth 100000 in
set_option maxHeartbeats 4000000 in
theorem t_X7_isOne {x : VX} {r : Int32} {a0 : Nat} {a_texts : Nat} {a_textSize : Nat} {a_tape : Nat} {a_room : Nat} {a_kinds : Nat} {a_rows : Nat} {a_now : Nat} {a_gained : Nat} {a_rowsWas : Nat} {a_roomKept : Nat} {a_rowsKept : Nat} {a_isThere : Nat} {a_sorts : Nat} {a_sheetSize : Nat} {a_items : Nat} {s_thrown : Int32} {s_textCount : Int32} {s_rule : Int32} {s_taped : Int32} {s_many : Int32} {s_ofSide : Int32} {s_ofLamp : Int32} {s_ofStove : Int32} {s_ofNumber : Int32} {s_ofPose : Int32} {s_ofNear : Int32} {s_from : Int32} {s_size : Int32} {s_here : Int32} {s_token : Int32} {s_tokenAt : Int32} {s_tokenWorth : Int64} {s_open : Int32} {s_bad : Int32} {s_fault : Int32} {s_faceWas : Int32} {s_poseWas : Int32} {s_manyKept : Int32} {s_ruleKept : Int32} {l1 : Int32} (X : Cx x cX7_isOne RX7 2) (hN : vxn x = 2) (hR : narrow .boolean (.int r) = .int r → RetI x cX7_isOne 0 0 r [(a0, .inr (7, [.int s_thrown, .ref a_texts, .ref a_textSize, .int s_textCount, .int s_rule, .ref a_tape, .int s_taped, .ref a_room, .ref a_kinds, .ref a_rows, .int s_many, .int s_ofSide, .int s_ofLamp, .int s_ofStove, .int s_ofNumber, .int s_ofPose, .int s_ofNear, .int s_from, .int s_size, .int s_here, .int s_token, .int s_tokenAt, .long s_tokenWorth, .int s_open, .int s_bad, .int s_fault, .ref a_now, .ref a_gained, .ref a_rowsWas, .int s_faceWas, .int s_poseWas, .ref a_roomKept, .ref a_rowsKept, .int s_manyKept, .int s_ruleKept, .ref a_isThere, .ref a_sorts, .ref a_sheetSize, .ref a_items]))]) (hf : f_X7_isOne l1 s_many = some r) : V x 0 0 [(a0, .inr (7, [.int s_thrown, .ref a_texts, .ref a_textSize, .int s_textCount, .int s_rule, .ref a_tape, .int s_taped, .ref a_room, .ref a_kinds, .ref a_rows, .int s_many, .int s_ofSide, .int s_ofLamp, .int s_ofStove, .int s_ofNumber, .int s_ofPose, .int s_ofNear, .int s_from, .int s_size, .int s_here, .int s_token, .int s_tokenAt, .long s_tokenWorth, .int s_open, .int s_bad, .int s_fault, .ref a_now, .ref a_gained, .ref a_rowsWas, .int s_faceWas, .int s_poseWas, .ref a_roomKept, .ref a_rowsKept, .int s_manyKept, .int s_ruleKept, .ref a_isThere, .ref a_sorts, .ref a_sheetSize, .ref a_items]))] [(0, .ref a0), (1, .int l1)] 0 [] := by
  unfold f_X7_isOne at hf
  refine v_iload_n X 1 rfl dX7_isOne_0 ?_
  refine v_i2l X dX7_isOne_1 ?_
  refine v_lconst X (v := 0) (by decide) dX7_isOne_2 ?_
  refine v_aload_n X 0 rfl dX7_isOne_3 ?_
  refine v_get X xinX7 0 rfl rfl 10 (by decide) wd107 rfl rfl dX7_isOne_4 ?_
  refine v_iconst X (v := 1) (by decide) dX7_isOne_7 ?_
  refine v_isub X dX7_isOne_8 ?_
  refine v_i2l X dX7_isOne_9 ?_
  obtain ⟨v10_1, hv10_1, hf⟩ := bd_some hf
  refine v_scallI X (c_X7_in X.2.2.2.2.2.2.2.1 hv10_1) cws_X7_73 rfl (by decide) ⟨Nat.zero_le _, Nat.zero_le _⟩ [] [0] [0] rfl (by decide) (wr := [(a0, .inr (7, [.int s_thrown, .ref a_texts, .ref a_textSize, .int s_textCount, .int s_rule, .ref a_tape, .int s_taped, .ref a_room, .ref a_kinds, .ref a_rows, .int s_many, .int s_ofSide, .int s_ofLamp, .int s_ofStove, .int s_ofNumber, .int s_ofPose, .int s_ofNear, .int s_from, .int s_size, .int s_here, .int s_token, .int s_tokenAt, .long s_tokenWorth, .int s_open, .int s_bad, .int s_fault, .ref a_now, .ref a_gained, .ref a_rowsWas, .int s_faceWas, .int s_poseWas, .ref a_roomKept, .ref a_rowsKept, .int s_manyKept, .int s_ruleKept, .ref a_isThere, .ref a_sorts, .ref a_sheetSize, .ref a_items]))]) rfl (by decide) (by decide) (ws2 := [(a0, .inr (7, [.int s_thrown, .ref a_texts, .ref a_textSize, .int s_textCount, .int s_rule, .ref a_tape, .int s_taped, .ref a_room, .ref a_kinds, .ref a_rows, .int s_many, .int s_ofSide, .int s_ofLamp, .int s_ofStove, .int s_ofNumber, .int s_ofPose, .int s_ofNear, .int s_from, .int s_size, .int s_here, .int s_token, .int s_tokenAt, .long s_tokenWorth, .int s_open, .int s_bad, .int s_fault, .ref a_now, .ref a_gained, .ref a_rowsWas, .int s_faceWas, .int s_poseWas, .ref a_roomKept, .ref a_rowsKept, .int s_manyKept, .int s_ruleKept, .ref a_isThere, .ref a_sorts, .ref a_sheetSize, .ref a_items]))]) rfl (by decide) (Nat.le_of_ble_eq_true rfl) rfl dX7_isOne_10 ?_
  obtain ⟨hz, hf⟩ := if_some hf
  obtain rfl := Option.some.inj hf
  exact v_iret (hR (isZ_n hz)) dX7_isOne_13
set_option maxRecDepth 100000 in
set_option maxHeartbeats 4000000 in
theorem c_X7_isOne {l : Launch} {D : va_G} {qT : Nat → ClassId} {Z : (Nat → Prop) → State → Heap → Prop} {r : Int32} {a0 : Nat} {a_texts : Nat} {a_textSize : Nat} {a_tape : Nat} {a_room : Nat} {a_kinds : Nat} {a_rows : Nat} {a_now : Nat} {a_gained : Nat} {a_rowsWas : Nat} {a_roomKept : Nat} {a_rowsKept : Nat} {a_isThere : Nat} {a_sorts : Nat} {a_sheetSize : Nat} {a_items : Nat} {s_thrown : Int32} {s_textCount : Int32} {s_rule : Int32} {s_taped : Int32} {s_many : Int32} {s_ofSide : Int32} {s_ofLamp : Int32} {s_ofStove : Int32} {s_ofNumber : Int32} {s_ofPose : Int32} {s_ofNear : Int32} {s_from : Int32} {s_size : Int32} {s_here : Int32} {s_token : Int32} {s_tokenAt : Int32} {s_tokenWorth : Int64} {s_open : Int32} {s_bad : Int32} {s_fault : Int32} {s_faceWas : Int32} {s_poseWas : Int32} {s_manyKept : Int32} {s_ruleKept : Int32} {l1 : Int32} (hZ : ZOK Z) (hf : f_X7_isOne l1 s_many = some r) :
    CI l D qT Z yX7_isOne cX7_isOne 2 (some .boolean) 2 0 0 [.ref a0, .int l1] [(a0, .inr (7, [.int s_thrown, .ref a_texts, .ref a_textSize, .int s_textCount, .int s_rule, .ref a_tape, .int s_taped, .ref a_room, .ref a_kinds, .ref a_rows, .int s_many, .int s_ofSide, .int s_ofLamp, .int s_ofStove, .int s_ofNumber, .int s_ofPose, .int s_ofNear, .int s_from, .int s_size, .int s_here, .int s_token, .int s_tokenAt, .long s_tokenWorth, .int s_open, .int s_bad, .int s_fault, .ref a_now, .ref a_gained, .ref a_rowsWas, .int s_faceWas, .int s_poseWas, .ref a_roomKept, .ref a_rowsKept, .int s_manyKept, .int s_ruleKept, .ref a_isThere, .ref a_sorts, .ref a_sheetSize, .ref a_items]))] r [(a0, .inr (7, [.int s_thrown, .ref a_texts, .ref a_textSize, .int s_textCount, .int s_rule, .ref a_tape, .int s_taped, .ref a_room, .ref a_kinds, .ref a_rows, .int s_many, .int s_ofSide, .int s_ofLamp, .int s_ofStove, .int s_ofNumber, .int s_ofPose, .int s_ofNear, .int s_from, .int s_size, .int s_here, .int s_token, .int s_tokenAt, .long s_tokenWorth, .int s_open, .int s_bad, .int s_fault, .ref a_now, .ref a_gained, .ref a_rowsWas, .int s_faceWas, .int s_poseWas, .ref a_roomKept, .ref a_rowsKept, .int s_manyKept, .int s_ruleKept, .ref a_isThere, .ref a_sorts, .ref a_sheetSize, .ref a_items]))] := by
  refine CZ_of hZ (by decide) (Nat.le_of_ble_eq_true rfl) ?_
  intro x e1 e2 e3 e4 e5 e6 hin X hR
  subst e1 e2 e3 e4
  exact t_X7_isOne X e6 hR hf
def f_X7_isEasel (l0 : Int32) : Option (Int32) :=
  (f_X7_in (Int32.toInt64 l0) 0 10).bind (fun v6_1 =>
  if isZ v6_1 = true then some v6_1 else none)
set_option maxRecDepth 100000 in
set_option maxHeartbeats 4000000 in
theorem t_X7_isEasel {x : VX} {r : Int32} {l0 : Int32} (X : Cx x cX7_isEasel RX7 2) (hN : vxn x = 1) (hR : narrow .boolean (.int r) = .int r → RetI x cX7_isEasel 0 0 r []) (hf : f_X7_isEasel l0 = some r) : V x 0 0 [] [(0, .int l0)] 0 [] := by
  unfold f_X7_isEasel at hf
  refine v_iload_n X 0 rfl dX7_isEasel_0 ?_
  refine v_i2l X dX7_isEasel_1 ?_
  refine v_lconst X (v := 0) (by decide) dX7_isEasel_2 ?_
  refine v_ldc2 X wd112 dX7_isEasel_3 ?_
  obtain ⟨v6_1, hv6_1, hf⟩ := bd_some hf
  refine v_scallI X (c_X7_in X.2.2.2.2.2.2.2.1 hv6_1) cws_X7_73 rfl (by decide) ⟨Nat.zero_le _, Nat.zero_le _⟩ [] [] [] rfl (by decide) (wr := []) rfl (by decide) (by decide) (ws2 := []) rfl (by decide) (Nat.le_of_ble_eq_true rfl) rfl dX7_isEasel_6 ?_
  obtain ⟨hz, hf⟩ := if_some hf
  obtain rfl := Option.some.inj hf
  exact v_iret (hR (isZ_n hz)) dX7_isEasel_9
set_option maxRecDepth 100000 in
set_option maxHeartbeats 4000000 in
theorem c_X7_isEasel {l : Launch} {D : va_G} {qT : Nat → ClassId} {Z : (Nat → Prop) → State → Heap → Prop} {r : Int32} {l0 : Int32} (hZ : ZOK Z) (hf : f_X7_isEasel l0 = some r) :
    CI l D qT Z yX7_isEasel cX7_isEasel 1 (some .boolean) 2 0 0 [.int l0] [] r [] := by
  refine CZ_of hZ (by decide) (Nat.le_of_ble_eq_true rfl) ?_
  intro x e1 e2 e3 e4 e5 e6 hin X hR
  subst e1 e2 e3 e4
  exact t_X7_isEasel X e6 hR hf
def f_X7_round1 (l0 : Int32) : Option (Int32) :=
  some (l0 - l0 / 11 * 11)
set_option maxRecDepth 100000 in
set_option maxHeartbeats 4000000 in
theorem t_X7_round1 {x : VX} {r : Int32} {l0 : Int32} (X : Cx x cX7_round1 RX7 1) (hN : vxn x = 1) (hR : RetI x cX7_round1 0 0 r []) (hf : f_X7_round1 l0 = some r) : V x 0 0 [] [(0, .int l0)] 0 [] := by
  unfold f_X7_round1 at hf
  refine v_iload_n X 0 rfl dX7_round1_0 ?_
  refine v_bipush X (v := 11) (by decide) dX7_round1_1 ?_
  refine v_irem X (by decide) dX7_round1_3 ?_
  obtain rfl := Option.some.inj hf
  exact v_iret hR dX7_round1_4
set_option maxRecDepth 100000 in
set_option maxHeartbeats 4000000 in
theorem c_X7_round1 {l : Launch} {D : va_G} {qT : Nat → ClassId} {Z : (Nat → Prop) → State → Heap → Prop} {r : Int32} {l0 : Int32} (hZ : ZOK Z) (hf : f_X7_round1 l0 = some r) :
    CI l D qT Z yX7_round1 cX7_round1 1 (some .int) 1 0 0 [.int l0] [] r [] := by
  refine CI_of hZ (by decide) (Nat.le_of_ble_eq_true rfl) ?_
  intro x e1 e2 e3 e4 e5 e6 hin X hR
  subst e1 e2 e3 e4
  exact t_X7_round1 X e6 hR hf
def f_X7_away_14 (k0 : Int32) : Option (Int32) :=
  if k0 ≤ (11 - k0) then (
  some k0) else (
  some (11 - k0))
def f_X7_away (l0 : Int32) (l1 : Int32) : Option (Int32) :=
  if l0 ≤ l1 then (
  f_X7_away_14 (l1 - l0)) else (
  f_X7_away_14 (l0 - l1))
set_option maxRecDepth 100000 in
set_option maxHeartbeats 4000000 in
theorem t_X7_away_14 {x : VX} {r : Int32} {k0 : Int32} (X : Cx x cX7_away RX7 1) (hN : vxn x = 3) (hR : RetI x cX7_away 0 0 r []) (hf : f_X7_away_14 k0 = some r) : V x 0 0 [] [] 14 [.int k0] := by
  unfold f_X7_away_14 at hf
  refine v_istore_n X rfl (by rw [hN]; decide) (lv' := [(2, .int k0)]) rfl dX7_away_14 ?_
  refine v_iload_n X 0 rfl dX7_away_15 ?_
  refine v_bipush X (v := 11) (by decide) dX7_away_16 ?_
  refine v_iload_n X 0 rfl dX7_away_18 ?_
  refine v_isub X dX7_away_19 ?_
  refine v_icmp_le X (tgt := 30) hf (by decide) dX7_away_20 (fun c20 hf => ?_) (fun c20 hf => ?_)
  · refine v_iload_n X 0 rfl dX7_away_30 ?_
    obtain rfl := Option.some.inj hf
    exact v_iret hR dX7_away_31
  · refine v_bipush X (v := 11) (by decide) dX7_away_23 ?_
    refine v_iload_n X 0 rfl dX7_away_25 ?_
    refine v_isub X dX7_away_26 ?_
    refine v_goto X (tgt := 31) (by decide) dX7_away_27 ?_
    obtain rfl := Option.some.inj hf
    exact v_iret hR dX7_away_31
set_option maxRecDepth 100000 in
set_option maxHeartbeats 4000000 in
theorem t_X7_away {x : VX} {r : Int32} {l0 : Int32} {l1 : Int32} (X : Cx x cX7_away RX7 1) (hN : vxn x = 3) (hR : RetI x cX7_away 0 0 r []) (hf : f_X7_away l0 l1 = some r) : V x 0 0 [] [(0, .int l0), (1, .int l1)] 0 [] := by
  unfold f_X7_away at hf
  refine v_iload_n X 0 rfl dX7_away_0 ?_
  refine v_iload_n X 1 rfl dX7_away_1 ?_
  refine v_icmp_le X (tgt := 11) hf (by decide) dX7_away_2 (fun c2 hf => ?_) (fun c2 hf => ?_)
  · refine v_iload_n X 1 rfl dX7_away_11 ?_
    refine v_iload_n X 0 rfl dX7_away_12 ?_
    refine v_isub X dX7_away_13 ?_
    refine v_lv [] rfl ?_
    exact t_X7_away_14 X hN hR hf
  · refine v_iload_n X 0 rfl dX7_away_5 ?_
    refine v_iload_n X 1 rfl dX7_away_6 ?_
    refine v_isub X dX7_away_7 ?_
    refine v_goto X (tgt := 14) (by decide) dX7_away_8 ?_
    refine v_lv [] rfl ?_
    exact t_X7_away_14 X hN hR hf
set_option maxRecDepth 100000 in
set_option maxHeartbeats 4000000 in
theorem c_X7_away {l : Launch} {D : va_G} {qT : Nat → ClassId} {Z : (Nat → Prop) → State → Heap → Prop} {r : Int32} {l0 : Int32} {l1 : Int32} (hZ : ZOK Z) (hf : f_X7_away l0 l1 = some r) :
    CI l D qT Z yX7_away cX7_away 3 (some .int) 1 0 0 [.int l0, .int l1] [] r [] := by
  refine CI_of hZ (by decide) (Nat.le_of_ble_eq_true rfl) ?_
  intro x e1 e2 e3 e4 e5 e6 hin X hR
  subst e1 e2 e3 e4
  exact t_X7_away X e6 hR hf
def f_X7_whoAt_2 (s_many : Int32) (s_rows : Nat → Int32) (l1 : Int32) (kp_2 : Int32 → Option (Int32)) (l2 : Int32) : Option (Int32) :=
  if s_many ≤ l2 then (
  some (-1)) else (
  if inb ((4 * l2) + 1) 24 = true then (
  if (s_rows (Int32.toNatClampNeg ((4 * l2) + 1))) = l1 then (
  some l2) else (
  kp_2 (l2 + 1))) else none)
def f_X7_whoAt (l1 : Int32) (s_many : Int32) (s_rows : Nat → Int32) : Option (Int32) :=
  lq1 (f_X7_whoAt_2 s_many s_rows l1) 200 0
set_option maxRecDepth 100000 in
set_option maxHeartbeats 4000000 in
theorem t_X7_whoAt_2 {x : VX} {r : Int32} {a0 : Nat} {a_rows : Nat} {a_texts : Nat} {a_textSize : Nat} {a_tape : Nat} {a_room : Nat} {a_kinds : Nat} {a_now : Nat} {a_gained : Nat} {a_rowsWas : Nat} {a_roomKept : Nat} {a_rowsKept : Nat} {a_isThere : Nat} {a_sorts : Nat} {a_sheetSize : Nat} {a_items : Nat} {s_thrown : Int32} {s_textCount : Int32} {s_rule : Int32} {s_taped : Int32} {s_many : Int32} {s_ofSide : Int32} {s_ofLamp : Int32} {s_ofStove : Int32} {s_ofNumber : Int32} {s_ofPose : Int32} {s_ofNear : Int32} {s_from : Int32} {s_size : Int32} {s_here : Int32} {s_token : Int32} {s_tokenAt : Int32} {s_tokenWorth : Int64} {s_open : Int32} {s_bad : Int32} {s_fault : Int32} {s_faceWas : Int32} {s_poseWas : Int32} {s_manyKept : Int32} {s_ruleKept : Int32} {s_rows : Nat → Int32} {l1 : Int32} (X : Cx x cX7_whoAt RX7 1) (hN : vxn x = 3) (hR : RetI x cX7_whoAt 0 0 r [(a0, .inr (7, [.int s_thrown, .ref a_texts, .ref a_textSize, .int s_textCount, .int s_rule, .ref a_tape, .int s_taped, .ref a_room, .ref a_kinds, .ref a_rows, .int s_many, .int s_ofSide, .int s_ofLamp, .int s_ofStove, .int s_ofNumber, .int s_ofPose, .int s_ofNear, .int s_from, .int s_size, .int s_here, .int s_token, .int s_tokenAt, .long s_tokenWorth, .int s_open, .int s_bad, .int s_fault, .ref a_now, .ref a_gained, .ref a_rowsWas, .int s_faceWas, .int s_poseWas, .ref a_roomKept, .ref a_rowsKept, .int s_manyKept, .int s_ruleKept, .ref a_isThere, .ref a_sorts, .ref a_sheetSize, .ref a_items])), (a_rows, .inl (vxT x 0, 24, .inl s_rows))]) :
    ∀ (fu : Nat) (l2 : Int32), lq1 (f_X7_whoAt_2 s_many s_rows l1) fu l2 = some r → V x 0 0 [(a0, .inr (7, [.int s_thrown, .ref a_texts, .ref a_textSize, .int s_textCount, .int s_rule, .ref a_tape, .int s_taped, .ref a_room, .ref a_kinds, .ref a_rows, .int s_many, .int s_ofSide, .int s_ofLamp, .int s_ofStove, .int s_ofNumber, .int s_ofPose, .int s_ofNear, .int s_from, .int s_size, .int s_here, .int s_token, .int s_tokenAt, .long s_tokenWorth, .int s_open, .int s_bad, .int s_fault, .ref a_now, .ref a_gained, .ref a_rowsWas, .int s_faceWas, .int s_poseWas, .ref a_roomKept, .ref a_rowsKept, .int s_manyKept, .int s_ruleKept, .ref a_isThere, .ref a_sorts, .ref a_sheetSize, .ref a_items])), (a_rows, .inl (vxT x 0, 24, .inl s_rows))] [(0, .ref a0), (1, .int l1), (2, .int l2)] 2 [] := by
  refine lq1_V (G := fun l2 => V x 0 0 [(a0, .inr (7, [.int s_thrown, .ref a_texts, .ref a_textSize, .int s_textCount, .int s_rule, .ref a_tape, .int s_taped, .ref a_room, .ref a_kinds, .ref a_rows, .int s_many, .int s_ofSide, .int s_ofLamp, .int s_ofStove, .int s_ofNumber, .int s_ofPose, .int s_ofNear, .int s_from, .int s_size, .int s_here, .int s_token, .int s_tokenAt, .long s_tokenWorth, .int s_open, .int s_bad, .int s_fault, .ref a_now, .ref a_gained, .ref a_rowsWas, .int s_faceWas, .int s_poseWas, .ref a_roomKept, .ref a_rowsKept, .int s_manyKept, .int s_ruleKept, .ref a_isThere, .ref a_sorts, .ref a_sheetSize, .ref a_items])), (a_rows, .inl (vxT x 0, 24, .inl s_rows))] [(0, .ref a0), (1, .int l1), (2, .int l2)] 2 []) ?_
  intro kp_2 hk_2 l2 hf
  unfold f_X7_whoAt_2 at hf
  refine v_iload_n X 2 rfl dX7_whoAt_2 ?_
  refine v_aload_n X 0 rfl dX7_whoAt_3 ?_
  refine v_get X xinX7 0 rfl rfl 10 (by decide) wd107 rfl rfl dX7_whoAt_4 ?_
  refine v_icmp_ge X (tgt := 32) hf (by decide) dX7_whoAt_7 (fun c7 hf => ?_) (fun c7 hf => ?_)
  · refine v_iconst X (v := (-1)) (by decide) dX7_whoAt_32 ?_
    obtain rfl := Option.some.inj hf
    exact v_iret hR dX7_whoAt_33
  · refine v_aload_n X 0 rfl dX7_whoAt_10 ?_
    refine v_get X xinX7 0 rfl rfl 9 (by decide) wd113 rfl rfl dX7_whoAt_11 ?_
    refine v_iconst X (v := 4) (by decide) dX7_whoAt_14 ?_
    refine v_iload_n X 2 rfl dX7_whoAt_15 ?_
    refine v_imul X dX7_whoAt_16 ?_
    refine v_iconst X (v := 1) (by decide) dX7_whoAt_17 ?_
    refine v_iadd X dX7_whoAt_18 ?_
    refine v_iald X 1 rfl hf dX7_whoAt_19 (fun h19 hf => ?_)
    refine v_iload_n X 1 rfl dX7_whoAt_20 ?_
    refine v_icmp_ne X (tgt := 26) hf (by decide) dX7_whoAt_21 (fun c21 hf => ?_) (fun c21 hf => ?_)
    · refine v_iinc X 2 rfl (v := (l2 + 1)) rfl (by rw [hN]; decide) (lv' := [(2, .int (l2 + 1)), (0, .ref a0), (1, .int l1)]) rfl dX7_whoAt_26 ?_
      refine v_goto X (tgt := 2) (by decide) dX7_whoAt_29 ?_
      refine v_lv [1, 2, 0] rfl ?_
      exact hk_2 _ hf
    · refine v_iload_n X 2 rfl dX7_whoAt_24 ?_
      obtain rfl := Option.some.inj hf
      exact v_iret hR dX7_whoAt_25
set_option maxRecDepth 100000 in
set_option maxHeartbeats 4000000 in
theorem t_X7_whoAt {x : VX} {r : Int32} {a0 : Nat} {a_rows : Nat} {a_texts : Nat} {a_textSize : Nat} {a_tape : Nat} {a_room : Nat} {a_kinds : Nat} {a_now : Nat} {a_gained : Nat} {a_rowsWas : Nat} {a_roomKept : Nat} {a_rowsKept : Nat} {a_isThere : Nat} {a_sorts : Nat} {a_sheetSize : Nat} {a_items : Nat} {s_thrown : Int32} {s_textCount : Int32} {s_rule : Int32} {s_taped : Int32} {s_many : Int32} {s_ofSide : Int32} {s_ofLamp : Int32} {s_ofStove : Int32} {s_ofNumber : Int32} {s_ofPose : Int32} {s_ofNear : Int32} {s_from : Int32} {s_size : Int32} {s_here : Int32} {s_token : Int32} {s_tokenAt : Int32} {s_tokenWorth : Int64} {s_open : Int32} {s_bad : Int32} {s_fault : Int32} {s_faceWas : Int32} {s_poseWas : Int32} {s_manyKept : Int32} {s_ruleKept : Int32} {s_rows : Nat → Int32} {l1 : Int32} (X : Cx x cX7_whoAt RX7 1) (hN : vxn x = 3) (hR : RetI x cX7_whoAt 0 0 r [(a0, .inr (7, [.int s_thrown, .ref a_texts, .ref a_textSize, .int s_textCount, .int s_rule, .ref a_tape, .int s_taped, .ref a_room, .ref a_kinds, .ref a_rows, .int s_many, .int s_ofSide, .int s_ofLamp, .int s_ofStove, .int s_ofNumber, .int s_ofPose, .int s_ofNear, .int s_from, .int s_size, .int s_here, .int s_token, .int s_tokenAt, .long s_tokenWorth, .int s_open, .int s_bad, .int s_fault, .ref a_now, .ref a_gained, .ref a_rowsWas, .int s_faceWas, .int s_poseWas, .ref a_roomKept, .ref a_rowsKept, .int s_manyKept, .int s_ruleKept, .ref a_isThere, .ref a_sorts, .ref a_sheetSize, .ref a_items])), (a_rows, .inl (vxT x 0, 24, .inl s_rows))]) (hf : f_X7_whoAt l1 s_many s_rows = some r) : V x 0 0 [(a0, .inr (7, [.int s_thrown, .ref a_texts, .ref a_textSize, .int s_textCount, .int s_rule, .ref a_tape, .int s_taped, .ref a_room, .ref a_kinds, .ref a_rows, .int s_many, .int s_ofSide, .int s_ofLamp, .int s_ofStove, .int s_ofNumber, .int s_ofPose, .int s_ofNear, .int s_from, .int s_size, .int s_here, .int s_token, .int s_tokenAt, .long s_tokenWorth, .int s_open, .int s_bad, .int s_fault, .ref a_now, .ref a_gained, .ref a_rowsWas, .int s_faceWas, .int s_poseWas, .ref a_roomKept, .ref a_rowsKept, .int s_manyKept, .int s_ruleKept, .ref a_isThere, .ref a_sorts, .ref a_sheetSize, .ref a_items])), (a_rows, .inl (vxT x 0, 24, .inl s_rows))] [(0, .ref a0), (1, .int l1)] 0 [] := by
  unfold f_X7_whoAt at hf
  refine v_iconst X (v := 0) (by decide) dX7_whoAt_0 ?_
  refine v_istore_n X rfl (by rw [hN]; decide) (lv' := [(2, .int 0), (0, .ref a0), (1, .int l1)]) rfl dX7_whoAt_1 ?_
  refine v_lv [1, 2, 0] rfl ?_
  exact t_X7_whoAt_2 X hN hR 200 _ hf
set_option maxRecDepth 100000 in
set_option maxHeartbeats 4000000 in
theorem c_X7_whoAt {l : Launch} {D : va_G} {qT : Nat → ClassId} {Z : (Nat → Prop) → State → Heap → Prop} {r : Int32} {a0 : Nat} {a_rows : Nat} {a_texts : Nat} {a_textSize : Nat} {a_tape : Nat} {a_room : Nat} {a_kinds : Nat} {a_now : Nat} {a_gained : Nat} {a_rowsWas : Nat} {a_roomKept : Nat} {a_rowsKept : Nat} {a_isThere : Nat} {a_sorts : Nat} {a_sheetSize : Nat} {a_items : Nat} {s_thrown : Int32} {s_textCount : Int32} {s_rule : Int32} {s_taped : Int32} {s_many : Int32} {s_ofSide : Int32} {s_ofLamp : Int32} {s_ofStove : Int32} {s_ofNumber : Int32} {s_ofPose : Int32} {s_ofNear : Int32} {s_from : Int32} {s_size : Int32} {s_here : Int32} {s_token : Int32} {s_tokenAt : Int32} {s_tokenWorth : Int64} {s_open : Int32} {s_bad : Int32} {s_fault : Int32} {s_faceWas : Int32} {s_poseWas : Int32} {s_manyKept : Int32} {s_ruleKept : Int32} {s_rows : Nat → Int32} {l1 : Int32} (hZ : ZOK Z) (hf : f_X7_whoAt l1 s_many s_rows = some r) :
    CI l D qT Z yX7_whoAt cX7_whoAt 3 (some .int) 1 0 0 [.ref a0, .int l1] [(a0, .inr (7, [.int s_thrown, .ref a_texts, .ref a_textSize, .int s_textCount, .int s_rule, .ref a_tape, .int s_taped, .ref a_room, .ref a_kinds, .ref a_rows, .int s_many, .int s_ofSide, .int s_ofLamp, .int s_ofStove, .int s_ofNumber, .int s_ofPose, .int s_ofNear, .int s_from, .int s_size, .int s_here, .int s_token, .int s_tokenAt, .long s_tokenWorth, .int s_open, .int s_bad, .int s_fault, .ref a_now, .ref a_gained, .ref a_rowsWas, .int s_faceWas, .int s_poseWas, .ref a_roomKept, .ref a_rowsKept, .int s_manyKept, .int s_ruleKept, .ref a_isThere, .ref a_sorts, .ref a_sheetSize, .ref a_items])), (a_rows, .inl (qT 0, 24, .inl s_rows))] r [(a0, .inr (7, [.int s_thrown, .ref a_texts, .ref a_textSize, .int s_textCount, .int s_rule, .ref a_tape, .int s_taped, .ref a_room, .ref a_kinds, .ref a_rows, .int s_many, .int s_ofSide, .int s_ofLamp, .int s_ofStove, .int s_ofNumber, .int s_ofPose, .int s_ofNear, .int s_from, .int s_size, .int s_here, .int s_token, .int s_tokenAt, .long s_tokenWorth, .int s_open, .int s_bad, .int s_fault, .ref a_now, .ref a_gained, .ref a_rowsWas, .int s_faceWas, .int s_poseWas, .ref a_roomKept, .ref a_rowsKept, .int s_manyKept, .int s_ruleKept, .ref a_isThere, .ref a_sorts, .ref a_sheetSize, .ref a_items])), (a_rows, .inl (qT 0, 24, .inl s_rows))] := by
  refine CI_of hZ (by decide) (Nat.le_of_ble_eq_true rfl) ?_
  intro x e1 e2 e3 e4 e5 e6 hin X hR
  subst e1 e2 e3 e4
  exact t_X7_whoAt X e6 hR hf
def f_X7_isFreeFor (l1 : Int32) (l2 : Int32) (s_many : Int32) (s_rows : Nat → Int32) : Option (Int32) :=
  (f_X7_isEasel l1).bind (fun v1_1 =>
  if v1_1 = 0 then (
  some 0) else (
  (f_X7_whoAt l1 s_many s_rows).bind (fun v9_2 =>
  if v9_2 = (-1) then (
  some 1) else (
  (f_X7_whoAt l1 s_many s_rows).bind (fun v18_3 =>
  if v18_3 = l2 then (
  some 1) else (
  some 0))))))
set_option maxRecDepth 100000 in
set_option maxHeartbeats 4000000 in
theorem t_X7_isFreeFor {x : VX} {r : Int32} {a0 : Nat} {a_rows : Nat} {a_texts : Nat} {a_textSize : Nat} {a_tape : Nat} {a_room : Nat} {a_kinds : Nat} {a_now : Nat} {a_gained : Nat} {a_rowsWas : Nat} {a_roomKept : Nat} {a_rowsKept : Nat} {a_isThere : Nat} {a_sorts : Nat} {a_sheetSize : Nat} {a_items : Nat} {s_thrown : Int32} {s_textCount : Int32} {s_rule : Int32} {s_taped : Int32} {s_many : Int32} {s_ofSide : Int32} {s_ofLamp : Int32} {s_ofStove : Int32} {s_ofNumber : Int32} {s_ofPose : Int32} {s_ofNear : Int32} {s_from : Int32} {s_size : Int32} {s_here : Int32} {s_token : Int32} {s_tokenAt : Int32} {s_tokenWorth : Int64} {s_open : Int32} {s_bad : Int32} {s_fault : Int32} {s_faceWas : Int32} {s_poseWas : Int32} {s_manyKept : Int32} {s_ruleKept : Int32} {s_rows : Nat → Int32} {l1 : Int32} {l2 : Int32} (X : Cx x cX7_isFreeFor RX7 3) (hN : vxn x = 3) (hR : narrow .boolean (.int r) = .int r → RetI x cX7_isFreeFor 0 0 r [(a0, .inr (7, [.int s_thrown, .ref a_texts, .ref a_textSize, .int s_textCount, .int s_rule, .ref a_tape, .int s_taped, .ref a_room, .ref a_kinds, .ref a_rows, .int s_many, .int s_ofSide, .int s_ofLamp, .int s_ofStove, .int s_ofNumber, .int s_ofPose, .int s_ofNear, .int s_from, .int s_size, .int s_here, .int s_token, .int s_tokenAt, .long s_tokenWorth, .int s_open, .int s_bad, .int s_fault, .ref a_now, .ref a_gained, .ref a_rowsWas, .int s_faceWas, .int s_poseWas, .ref a_roomKept, .ref a_rowsKept, .int s_manyKept, .int s_ruleKept, .ref a_isThere, .ref a_sorts, .ref a_sheetSize, .ref a_items])), (a_rows, .inl (vxT x 0, 24, .inl s_rows))]) (hf : f_X7_isFreeFor l1 l2 s_many s_rows = some r) : V x 0 0 [(a0, .inr (7, [.int s_thrown, .ref a_texts, .ref a_textSize, .int s_textCount, .int s_rule, .ref a_tape, .int s_taped, .ref a_room, .ref a_kinds, .ref a_rows, .int s_many, .int s_ofSide, .int s_ofLamp, .int s_ofStove, .int s_ofNumber, .int s_ofPose, .int s_ofNear, .int s_from, .int s_size, .int s_here, .int s_token, .int s_tokenAt, .long s_tokenWorth, .int s_open, .int s_bad, .int s_fault, .ref a_now, .ref a_gained, .ref a_rowsWas, .int s_faceWas, .int s_poseWas, .ref a_roomKept, .ref a_rowsKept, .int s_manyKept, .int s_ruleKept, .ref a_isThere, .ref a_sorts, .ref a_sheetSize, .ref a_items])), (a_rows, .inl (vxT x 0, 24, .inl s_rows))] [(0, .ref a0), (1, .int l1), (2, .int l2)] 0 [] := by
  unfold f_X7_isFreeFor at hf
  refine v_iload_n X 1 rfl dX7_isFreeFor_0 ?_
  obtain ⟨v1_1, hv1_1, hf⟩ := bd_some hf
  refine v_scallI X (c_X7_isEasel X.2.2.2.2.2.2.2.1 hv1_1) cws_X7_79 rfl (by decide) ⟨Nat.zero_le _, Nat.zero_le _⟩ [] [0, 1] [0, 1] rfl (by decide) (wr := [(a0, .inr (7, [.int s_thrown, .ref a_texts, .ref a_textSize, .int s_textCount, .int s_rule, .ref a_tape, .int s_taped, .ref a_room, .ref a_kinds, .ref a_rows, .int s_many, .int s_ofSide, .int s_ofLamp, .int s_ofStove, .int s_ofNumber, .int s_ofPose, .int s_ofNear, .int s_from, .int s_size, .int s_here, .int s_token, .int s_tokenAt, .long s_tokenWorth, .int s_open, .int s_bad, .int s_fault, .ref a_now, .ref a_gained, .ref a_rowsWas, .int s_faceWas, .int s_poseWas, .ref a_roomKept, .ref a_rowsKept, .int s_manyKept, .int s_ruleKept, .ref a_isThere, .ref a_sorts, .ref a_sheetSize, .ref a_items])), (a_rows, .inl (vxT x 0, 24, .inl s_rows))]) rfl (by decide) (by decide) (ws2 := [(a0, .inr (7, [.int s_thrown, .ref a_texts, .ref a_textSize, .int s_textCount, .int s_rule, .ref a_tape, .int s_taped, .ref a_room, .ref a_kinds, .ref a_rows, .int s_many, .int s_ofSide, .int s_ofLamp, .int s_ofStove, .int s_ofNumber, .int s_ofPose, .int s_ofNear, .int s_from, .int s_size, .int s_here, .int s_token, .int s_tokenAt, .long s_tokenWorth, .int s_open, .int s_bad, .int s_fault, .ref a_now, .ref a_gained, .ref a_rowsWas, .int s_faceWas, .int s_poseWas, .ref a_roomKept, .ref a_rowsKept, .int s_manyKept, .int s_ruleKept, .ref a_isThere, .ref a_sorts, .ref a_sheetSize, .ref a_items])), (a_rows, .inl (vxT x 0, 24, .inl s_rows))]) rfl (by decide) (Nat.le_of_ble_eq_true rfl) rfl dX7_isFreeFor_1 ?_
  refine v_if_eq X (tgt := 29) hf (by decide) dX7_isFreeFor_4 (fun c4 hf => ?_) (fun c4 hf => ?_)
  · refine v_iconst X (v := 0) (by decide) dX7_isFreeFor_29 ?_
    obtain rfl := Option.some.inj hf
    exact v_iret (hR nz0) dX7_isFreeFor_30
  · refine v_aload_n X 0 rfl dX7_isFreeFor_7 ?_
    refine v_iload_n X 1 rfl dX7_isFreeFor_8 ?_
    obtain ⟨v9_2, hv9_2, hf⟩ := bd_some hf
    refine v_callI X (c_X7_whoAt X.2.2.2.2.2.2.2.1 hv9_2) cwv_X7_83 rfl (by decide) ⟨Nat.zero_le _, Nat.zero_le _⟩ 0 rfl rfl [0, 1] [] [0, 1] rfl (by decide) (wr := []) rfl (by decide) (by decide) (ws2 := [(a0, .inr (7, [.int s_thrown, .ref a_texts, .ref a_textSize, .int s_textCount, .int s_rule, .ref a_tape, .int s_taped, .ref a_room, .ref a_kinds, .ref a_rows, .int s_many, .int s_ofSide, .int s_ofLamp, .int s_ofStove, .int s_ofNumber, .int s_ofPose, .int s_ofNear, .int s_from, .int s_size, .int s_here, .int s_token, .int s_tokenAt, .long s_tokenWorth, .int s_open, .int s_bad, .int s_fault, .ref a_now, .ref a_gained, .ref a_rowsWas, .int s_faceWas, .int s_poseWas, .ref a_roomKept, .ref a_rowsKept, .int s_manyKept, .int s_ruleKept, .ref a_isThere, .ref a_sorts, .ref a_sheetSize, .ref a_items])), (a_rows, .inl (vxT x 0, 24, .inl s_rows))]) rfl (by decide) (Nat.le_of_ble_eq_true rfl) rfl dX7_isFreeFor_9 ?_
    refine v_iconst X (v := (-1)) (by decide) dX7_isFreeFor_12 ?_
    refine v_icmp_eq X (tgt := 25) hf (by decide) dX7_isFreeFor_13 (fun c13 hf => ?_) (fun c13 hf => ?_)
    · refine v_iconst X (v := 1) (by decide) dX7_isFreeFor_25 ?_
      refine v_goto X (tgt := 30) (by decide) dX7_isFreeFor_26 ?_
      obtain rfl := Option.some.inj hf
      exact v_iret (hR nz1) dX7_isFreeFor_30
    · refine v_aload_n X 0 rfl dX7_isFreeFor_16 ?_
      refine v_iload_n X 1 rfl dX7_isFreeFor_17 ?_
      obtain ⟨v18_3, hv18_3, hf⟩ := bd_some hf
      refine v_callI X (c_X7_whoAt X.2.2.2.2.2.2.2.1 hv18_3) cwv_X7_83 rfl (by decide) ⟨Nat.zero_le _, Nat.zero_le _⟩ 0 rfl rfl [0, 1] [] [0, 1] rfl (by decide) (wr := []) rfl (by decide) (by decide) (ws2 := [(a0, .inr (7, [.int s_thrown, .ref a_texts, .ref a_textSize, .int s_textCount, .int s_rule, .ref a_tape, .int s_taped, .ref a_room, .ref a_kinds, .ref a_rows, .int s_many, .int s_ofSide, .int s_ofLamp, .int s_ofStove, .int s_ofNumber, .int s_ofPose, .int s_ofNear, .int s_from, .int s_size, .int s_here, .int s_token, .int s_tokenAt, .long s_tokenWorth, .int s_open, .int s_bad, .int s_fault, .ref a_now, .ref a_gained, .ref a_rowsWas, .int s_faceWas, .int s_poseWas, .ref a_roomKept, .ref a_rowsKept, .int s_manyKept, .int s_ruleKept, .ref a_isThere, .ref a_sorts, .ref a_sheetSize, .ref a_items])), (a_rows, .inl (vxT x 0, 24, .inl s_rows))]) rfl (by decide) (Nat.le_of_ble_eq_true rfl) rfl dX7_isFreeFor_18 ?_
      refine v_iload_n X 2 rfl dX7_isFreeFor_21 ?_
      refine v_icmp_ne X (tgt := 29) hf (by decide) dX7_isFreeFor_22 (fun c22 hf => ?_) (fun c22 hf => ?_)
      · refine v_iconst X (v := 0) (by decide) dX7_isFreeFor_29 ?_
        obtain rfl := Option.some.inj hf
        exact v_iret (hR nz0) dX7_isFreeFor_30
      · refine v_iconst X (v := 1) (by decide) dX7_isFreeFor_25 ?_
        refine v_goto X (tgt := 30) (by decide) dX7_isFreeFor_26 ?_
        obtain rfl := Option.some.inj hf
        exact v_iret (hR nz1) dX7_isFreeFor_30
set_option maxRecDepth 100000 in
set_option maxHeartbeats 4000000 in
theorem c_X7_isFreeFor {l : Launch} {D : va_G} {qT : Nat → ClassId} {Z : (Nat → Prop) → State → Heap → Prop} {r : Int32} {a0 : Nat} {a_rows : Nat} {a_texts : Nat} {a_textSize : Nat} {a_tape : Nat} {a_room : Nat} {a_kinds : Nat} {a_now : Nat} {a_gained : Nat} {a_rowsWas : Nat} {a_roomKept : Nat} {a_rowsKept : Nat} {a_isThere : Nat} {a_sorts : Nat} {a_sheetSize : Nat} {a_items : Nat} {s_thrown : Int32} {s_textCount : Int32} {s_rule : Int32} {s_taped : Int32} {s_many : Int32} {s_ofSide : Int32} {s_ofLamp : Int32} {s_ofStove : Int32} {s_ofNumber : Int32} {s_ofPose : Int32} {s_ofNear : Int32} {s_from : Int32} {s_size : Int32} {s_here : Int32} {s_token : Int32} {s_tokenAt : Int32} {s_tokenWorth : Int64} {s_open : Int32} {s_bad : Int32} {s_fault : Int32} {s_faceWas : Int32} {s_poseWas : Int32} {s_manyKept : Int32} {s_ruleKept : Int32} {s_rows : Nat → Int32} {l1 : Int32} {l2 : Int32} (hZ : ZOK Z) (hf : f_X7_isFreeFor l1 l2 s_many s_rows = some r) :
    CI l D qT Z yX7_isFreeFor cX7_isFreeFor 3 (some .boolean) 3 0 0 [.ref a0, .int l1, .int l2] [(a0, .inr (7, [.int s_thrown, .ref a_texts, .ref a_textSize, .int s_textCount, .int s_rule, .ref a_tape, .int s_taped, .ref a_room, .ref a_kinds, .ref a_rows, .int s_many, .int s_ofSide, .int s_ofLamp, .int s_ofStove, .int s_ofNumber, .int s_ofPose, .int s_ofNear, .int s_from, .int s_size, .int s_here, .int s_token, .int s_tokenAt, .long s_tokenWorth, .int s_open, .int s_bad, .int s_fault, .ref a_now, .ref a_gained, .ref a_rowsWas, .int s_faceWas, .int s_poseWas, .ref a_roomKept, .ref a_rowsKept, .int s_manyKept, .int s_ruleKept, .ref a_isThere, .ref a_sorts, .ref a_sheetSize, .ref a_items])), (a_rows, .inl (qT 0, 24, .inl s_rows))] r [(a0, .inr (7, [.int s_thrown, .ref a_texts, .ref a_textSize, .int s_textCount, .int s_rule, .ref a_tape, .int s_taped, .ref a_room, .ref a_kinds, .ref a_rows, .int s_many, .int s_ofSide, .int s_ofLamp, .int s_ofStove, .int s_ofNumber, .int s_ofPose, .int s_ofNear, .int s_from, .int s_size, .int s_here, .int s_token, .int s_tokenAt, .long s_tokenWorth, .int s_open, .int s_bad, .int s_fault, .ref a_now, .ref a_gained, .ref a_rowsWas, .int s_faceWas, .int s_poseWas, .ref a_roomKept, .ref a_rowsKept, .int s_manyKept, .int s_ruleKept, .ref a_isThere, .ref a_sorts, .ref a_sheetSize, .ref a_items])), (a_rows, .inl (qT 0, 24, .inl s_rows))] := by
  refine CZ_of hZ (by decide) (Nat.le_of_ble_eq_true rfl) ?_
  intro x e1 e2 e3 e4 e5 e6 hin X hR
  subst e1 e2 e3 e4
  exact t_X7_isFreeFor X e6 hR hf
def f_X7_isValue (l1 : Int32) (l2 : Int32) (l3 : Int32) (s_many : Int32) (s_rows : Nat → Int32) : Option (Int32) :=
  if l1 = 5 then (
  (f_X7_isFreeFor l3 l2 s_many s_rows).bind (fun v8_4 =>
  if isZ v8_4 = true then some v8_4 else none)) else (
  if 3 ≤ l1 then (
  if l1 = 3 then (
  (f_X7_in (Int32.toInt64 l3) 0 999).bind (fun v40_2 =>
  if isZ v40_2 = true then some v40_2 else none)) else (
  (f_X7_in (Int32.toInt64 l3) 0 9).bind (fun v40_1 =>
  if isZ v40_1 = true then some v40_1 else none))) else (
  (f_X7_in (Int32.toInt64 l3) 0 10).bind (fun v40_3 =>
  if isZ v40_3 = true then some v40_3 else none)))
set_option maxRecDepth 100000 in
set_option maxHeartbeats 4000000 in
theorem t_X7_isValue {x : VX} {r : Int32} {a0 : Nat} {a_rows : Nat} {a_texts : Nat} {a_textSize : Nat} {a_tape : Nat} {a_room : Nat} {a_kinds : Nat} {a_now : Nat} {a_gained : Nat} {a_rowsWas : Nat} {a_roomKept : Nat} {a_rowsKept : Nat} {a_isThere : Nat} {a_sorts : Nat} {a_sheetSize : Nat} {a_items : Nat} {s_thrown : Int32} {s_textCount : Int32} {s_rule : Int32} {s_taped : Int32} {s_many : Int32} {s_ofSide : Int32} {s_ofLamp : Int32} {s_ofStove : Int32} {s_ofNumber : Int32} {s_ofPose : Int32} {s_ofNear : Int32} {s_from : Int32} {s_size : Int32} {s_here : Int32} {s_token : Int32} {s_tokenAt : Int32} {s_tokenWorth : Int64} {s_open : Int32} {s_bad : Int32} {s_fault : Int32} {s_faceWas : Int32} {s_poseWas : Int32} {s_manyKept : Int32} {s_ruleKept : Int32} {s_rows : Nat → Int32} {l1 : Int32} {l2 : Int32} {l3 : Int32} (X : Cx x cX7_isValue RX7 4) (hN : vxn x = 4) (hR : narrow .boolean (.int r) = .int r → RetI x cX7_isValue 0 0 r [(a0, .inr (7, [.int s_thrown, .ref a_texts, .ref a_textSize, .int s_textCount, .int s_rule, .ref a_tape, .int s_taped, .ref a_room, .ref a_kinds, .ref a_rows, .int s_many, .int s_ofSide, .int s_ofLamp, .int s_ofStove, .int s_ofNumber, .int s_ofPose, .int s_ofNear, .int s_from, .int s_size, .int s_here, .int s_token, .int s_tokenAt, .long s_tokenWorth, .int s_open, .int s_bad, .int s_fault, .ref a_now, .ref a_gained, .ref a_rowsWas, .int s_faceWas, .int s_poseWas, .ref a_roomKept, .ref a_rowsKept, .int s_manyKept, .int s_ruleKept, .ref a_isThere, .ref a_sorts, .ref a_sheetSize, .ref a_items])), (a_rows, .inl (vxT x 0, 24, .inl s_rows))]) (hf : f_X7_isValue l1 l2 l3 s_many s_rows = some r) : V x 0 0 [(a0, .inr (7, [.int s_thrown, .ref a_texts, .ref a_textSize, .int s_textCount, .int s_rule, .ref a_tape, .int s_taped, .ref a_room, .ref a_kinds, .ref a_rows, .int s_many, .int s_ofSide, .int s_ofLamp, .int s_ofStove, .int s_ofNumber, .int s_ofPose, .int s_ofNear, .int s_from, .int s_size, .int s_here, .int s_token, .int s_tokenAt, .long s_tokenWorth, .int s_open, .int s_bad, .int s_fault, .ref a_now, .ref a_gained, .ref a_rowsWas, .int s_faceWas, .int s_poseWas, .ref a_roomKept, .ref a_rowsKept, .int s_manyKept, .int s_ruleKept, .ref a_isThere, .ref a_sorts, .ref a_sheetSize, .ref a_items])), (a_rows, .inl (vxT x 0, 24, .inl s_rows))] [(0, .ref a0), (1, .int l1), (2, .int l2), (3, .int l3)] 0 [] := by
  unfold f_X7_isValue at hf
  refine v_iload_n X 1 rfl dX7_isValue_0 ?_
  refine v_iconst X (v := 5) (by decide) dX7_isValue_1 ?_
  refine v_icmp_ne X (tgt := 12) hf (by decide) dX7_isValue_2 (fun c2 hf => ?_) (fun c2 hf => ?_)
  · refine v_iload_n X 3 rfl dX7_isValue_12 ?_
    refine v_i2l X dX7_isValue_13 ?_
    refine v_lconst X (v := 0) (by decide) dX7_isValue_14 ?_
    refine v_iload_n X 1 rfl dX7_isValue_15 ?_
    refine v_iconst X (v := 3) (by decide) dX7_isValue_16 ?_
    refine v_icmp_ge X (tgt := 26) hf (by decide) dX7_isValue_17 (fun c17 hf => ?_) (fun c17 hf => ?_)
    · refine v_iload_n X 1 rfl dX7_isValue_26 ?_
      refine v_iconst X (v := 3) (by decide) dX7_isValue_27 ?_
      refine v_icmp_ne X (tgt := 37) hf (by decide) dX7_isValue_28 (fun c28 hf => ?_) (fun c28 hf => ?_)
      · refine v_ldc2 X wd121 dX7_isValue_37 ?_
        obtain ⟨v40_1, hv40_1, hf⟩ := bd_some hf
        refine v_scallI X (c_X7_in X.2.2.2.2.2.2.2.1 hv40_1) cws_X7_73 rfl (by decide) ⟨Nat.zero_le _, Nat.zero_le _⟩ [] [0, 1] [0, 1] rfl (by decide) (wr := [(a0, .inr (7, [.int s_thrown, .ref a_texts, .ref a_textSize, .int s_textCount, .int s_rule, .ref a_tape, .int s_taped, .ref a_room, .ref a_kinds, .ref a_rows, .int s_many, .int s_ofSide, .int s_ofLamp, .int s_ofStove, .int s_ofNumber, .int s_ofPose, .int s_ofNear, .int s_from, .int s_size, .int s_here, .int s_token, .int s_tokenAt, .long s_tokenWorth, .int s_open, .int s_bad, .int s_fault, .ref a_now, .ref a_gained, .ref a_rowsWas, .int s_faceWas, .int s_poseWas, .ref a_roomKept, .ref a_rowsKept, .int s_manyKept, .int s_ruleKept, .ref a_isThere, .ref a_sorts, .ref a_sheetSize, .ref a_items])), (a_rows, .inl (vxT x 0, 24, .inl s_rows))]) rfl (by decide) (by decide) (ws2 := [(a0, .inr (7, [.int s_thrown, .ref a_texts, .ref a_textSize, .int s_textCount, .int s_rule, .ref a_tape, .int s_taped, .ref a_room, .ref a_kinds, .ref a_rows, .int s_many, .int s_ofSide, .int s_ofLamp, .int s_ofStove, .int s_ofNumber, .int s_ofPose, .int s_ofNear, .int s_from, .int s_size, .int s_here, .int s_token, .int s_tokenAt, .long s_tokenWorth, .int s_open, .int s_bad, .int s_fault, .ref a_now, .ref a_gained, .ref a_rowsWas, .int s_faceWas, .int s_poseWas, .ref a_roomKept, .ref a_rowsKept, .int s_manyKept, .int s_ruleKept, .ref a_isThere, .ref a_sorts, .ref a_sheetSize, .ref a_items])), (a_rows, .inl (vxT x 0, 24, .inl s_rows))]) rfl (by decide) (Nat.le_of_ble_eq_true rfl) rfl dX7_isValue_40 ?_
        obtain ⟨hz, hf⟩ := if_some hf
        obtain rfl := Option.some.inj hf
        exact v_iret (hR (isZ_n hz)) dX7_isValue_43
      · refine v_ldc2 X wd122 dX7_isValue_31 ?_
        refine v_goto X (tgt := 40) (by decide) dX7_isValue_34 ?_
        obtain ⟨v40_2, hv40_2, hf⟩ := bd_some hf
        refine v_scallI X (c_X7_in X.2.2.2.2.2.2.2.1 hv40_2) cws_X7_73 rfl (by decide) ⟨Nat.zero_le _, Nat.zero_le _⟩ [] [0, 1] [0, 1] rfl (by decide) (wr := [(a0, .inr (7, [.int s_thrown, .ref a_texts, .ref a_textSize, .int s_textCount, .int s_rule, .ref a_tape, .int s_taped, .ref a_room, .ref a_kinds, .ref a_rows, .int s_many, .int s_ofSide, .int s_ofLamp, .int s_ofStove, .int s_ofNumber, .int s_ofPose, .int s_ofNear, .int s_from, .int s_size, .int s_here, .int s_token, .int s_tokenAt, .long s_tokenWorth, .int s_open, .int s_bad, .int s_fault, .ref a_now, .ref a_gained, .ref a_rowsWas, .int s_faceWas, .int s_poseWas, .ref a_roomKept, .ref a_rowsKept, .int s_manyKept, .int s_ruleKept, .ref a_isThere, .ref a_sorts, .ref a_sheetSize, .ref a_items])), (a_rows, .inl (vxT x 0, 24, .inl s_rows))]) rfl (by decide) (by decide) (ws2 := [(a0, .inr (7, [.int s_thrown, .ref a_texts, .ref a_textSize, .int s_textCount, .int s_rule, .ref a_tape, .int s_taped, .ref a_room, .ref a_kinds, .ref a_rows, .int s_many, .int s_ofSide, .int s_ofLamp, .int s_ofStove, .int s_ofNumber, .int s_ofPose, .int s_ofNear, .int s_from, .int s_size, .int s_here, .int s_token, .int s_tokenAt, .long s_tokenWorth, .int s_open, .int s_bad, .int s_fault, .ref a_now, .ref a_gained, .ref a_rowsWas, .int s_faceWas, .int s_poseWas, .ref a_roomKept, .ref a_rowsKept, .int s_manyKept, .int s_ruleKept, .ref a_isThere, .ref a_sorts, .ref a_sheetSize, .ref a_items])), (a_rows, .inl (vxT x 0, 24, .inl s_rows))]) rfl (by decide) (Nat.le_of_ble_eq_true rfl) rfl dX7_isValue_40 ?_
        obtain ⟨hz, hf⟩ := if_some hf
        obtain rfl := Option.some.inj hf
        exact v_iret (hR (isZ_n hz)) dX7_isValue_43
    · refine v_ldc2 X wd112 dX7_isValue_20 ?_
      refine v_goto X (tgt := 40) (by decide) dX7_isValue_23 ?_
      obtain ⟨v40_3, hv40_3, hf⟩ := bd_some hf
      refine v_scallI X (c_X7_in X.2.2.2.2.2.2.2.1 hv40_3) cws_X7_73 rfl (by decide) ⟨Nat.zero_le _, Nat.zero_le _⟩ [] [0, 1] [0, 1] rfl (by decide) (wr := [(a0, .inr (7, [.int s_thrown, .ref a_texts, .ref a_textSize, .int s_textCount, .int s_rule, .ref a_tape, .int s_taped, .ref a_room, .ref a_kinds, .ref a_rows, .int s_many, .int s_ofSide, .int s_ofLamp, .int s_ofStove, .int s_ofNumber, .int s_ofPose, .int s_ofNear, .int s_from, .int s_size, .int s_here, .int s_token, .int s_tokenAt, .long s_tokenWorth, .int s_open, .int s_bad, .int s_fault, .ref a_now, .ref a_gained, .ref a_rowsWas, .int s_faceWas, .int s_poseWas, .ref a_roomKept, .ref a_rowsKept, .int s_manyKept, .int s_ruleKept, .ref a_isThere, .ref a_sorts, .ref a_sheetSize, .ref a_items])), (a_rows, .inl (vxT x 0, 24, .inl s_rows))]) rfl (by decide) (by decide) (ws2 := [(a0, .inr (7, [.int s_thrown, .ref a_texts, .ref a_textSize, .int s_textCount, .int s_rule, .ref a_tape, .int s_taped, .ref a_room, .ref a_kinds, .ref a_rows, .int s_many, .int s_ofSide, .int s_ofLamp, .int s_ofStove, .int s_ofNumber, .int s_ofPose, .int s_ofNear, .int s_from, .int s_size, .int s_here, .int s_token, .int s_tokenAt, .long s_tokenWorth, .int s_open, .int s_bad, .int s_fault, .ref a_now, .ref a_gained, .ref a_rowsWas, .int s_faceWas, .int s_poseWas, .ref a_roomKept, .ref a_rowsKept, .int s_manyKept, .int s_ruleKept, .ref a_isThere, .ref a_sorts, .ref a_sheetSize, .ref a_items])), (a_rows, .inl (vxT x 0, 24, .inl s_rows))]) rfl (by decide) (Nat.le_of_ble_eq_true rfl) rfl dX7_isValue_40 ?_
      obtain ⟨hz, hf⟩ := if_some hf
      obtain rfl := Option.some.inj hf
      exact v_iret (hR (isZ_n hz)) dX7_isValue_43
  · refine v_aload_n X 0 rfl dX7_isValue_5 ?_
    refine v_iload_n X 3 rfl dX7_isValue_6 ?_
    refine v_iload_n X 2 rfl dX7_isValue_7 ?_
    obtain ⟨v8_4, hv8_4, hf⟩ := bd_some hf
    refine v_callI X (c_X7_isFreeFor X.2.2.2.2.2.2.2.1 hv8_4) cwv_X7_87 rfl (by decide) ⟨Nat.zero_le _, Nat.zero_le _⟩ 0 rfl rfl [0, 1] [] [0, 1] rfl (by decide) (wr := []) rfl (by decide) (by decide) (ws2 := [(a0, .inr (7, [.int s_thrown, .ref a_texts, .ref a_textSize, .int s_textCount, .int s_rule, .ref a_tape, .int s_taped, .ref a_room, .ref a_kinds, .ref a_rows, .int s_many, .int s_ofSide, .int s_ofLamp, .int s_ofStove, .int s_ofNumber, .int s_ofPose, .int s_ofNear, .int s_from, .int s_size, .int s_here, .int s_token, .int s_tokenAt, .long s_tokenWorth, .int s_open, .int s_bad, .int s_fault, .ref a_now, .ref a_gained, .ref a_rowsWas, .int s_faceWas, .int s_poseWas, .ref a_roomKept, .ref a_rowsKept, .int s_manyKept, .int s_ruleKept, .ref a_isThere, .ref a_sorts, .ref a_sheetSize, .ref a_items])), (a_rows, .inl (vxT x 0, 24, .inl s_rows))]) rfl (by decide) (Nat.le_of_ble_eq_true rfl) rfl dX7_isValue_8 ?_
    obtain ⟨hz, hf⟩ := if_some hf
    obtain rfl := Option.some.inj hf
    exact v_iret (hR (isZ_n hz)) dX7_isValue_11
set_option maxRecDepth 100000 in
set_option maxHeartbeats 4000000 in
theorem c_X7_isValue {l : Launch} {D : va_G} {qT : Nat → ClassId} {Z : (Nat → Prop) → State → Heap → Prop} {r : Int32} {a0 : Nat} {a_rows : Nat} {a_texts : Nat} {a_textSize : Nat} {a_tape : Nat} {a_room : Nat} {a_kinds : Nat} {a_now : Nat} {a_gained : Nat} {a_rowsWas : Nat} {a_roomKept : Nat} {a_rowsKept : Nat} {a_isThere : Nat} {a_sorts : Nat} {a_sheetSize : Nat} {a_items : Nat} {s_thrown : Int32} {s_textCount : Int32} {s_rule : Int32} {s_taped : Int32} {s_many : Int32} {s_ofSide : Int32} {s_ofLamp : Int32} {s_ofStove : Int32} {s_ofNumber : Int32} {s_ofPose : Int32} {s_ofNear : Int32} {s_from : Int32} {s_size : Int32} {s_here : Int32} {s_token : Int32} {s_tokenAt : Int32} {s_tokenWorth : Int64} {s_open : Int32} {s_bad : Int32} {s_fault : Int32} {s_faceWas : Int32} {s_poseWas : Int32} {s_manyKept : Int32} {s_ruleKept : Int32} {s_rows : Nat → Int32} {l1 : Int32} {l2 : Int32} {l3 : Int32} (hZ : ZOK Z) (hf : f_X7_isValue l1 l2 l3 s_many s_rows = some r) :
    CI l D qT Z yX7_isValue cX7_isValue 4 (some .boolean) 4 0 0 [.ref a0, .int l1, .int l2, .int l3] [(a0, .inr (7, [.int s_thrown, .ref a_texts, .ref a_textSize, .int s_textCount, .int s_rule, .ref a_tape, .int s_taped, .ref a_room, .ref a_kinds, .ref a_rows, .int s_many, .int s_ofSide, .int s_ofLamp, .int s_ofStove, .int s_ofNumber, .int s_ofPose, .int s_ofNear, .int s_from, .int s_size, .int s_here, .int s_token, .int s_tokenAt, .long s_tokenWorth, .int s_open, .int s_bad, .int s_fault, .ref a_now, .ref a_gained, .ref a_rowsWas, .int s_faceWas, .int s_poseWas, .ref a_roomKept, .ref a_rowsKept, .int s_manyKept, .int s_ruleKept, .ref a_isThere, .ref a_sorts, .ref a_sheetSize, .ref a_items])), (a_rows, .inl (qT 0, 24, .inl s_rows))] r [(a0, .inr (7, [.int s_thrown, .ref a_texts, .ref a_textSize, .int s_textCount, .int s_rule, .ref a_tape, .int s_taped, .ref a_room, .ref a_kinds, .ref a_rows, .int s_many, .int s_ofSide, .int s_ofLamp, .int s_ofStove, .int s_ofNumber, .int s_ofPose, .int s_ofNear, .int s_from, .int s_size, .int s_here, .int s_token, .int s_tokenAt, .long s_tokenWorth, .int s_open, .int s_bad, .int s_fault, .ref a_now, .ref a_gained, .ref a_rowsWas, .int s_faceWas, .int s_poseWas, .ref a_roomKept, .ref a_rowsKept, .int s_manyKept, .int s_ruleKept, .ref a_isThere, .ref a_sorts, .ref a_sheetSize, .ref a_items])), (a_rows, .inl (qT 0, 24, .inl s_rows))] := by
  refine CZ_of hZ (by decide) (Nat.le_of_ble_eq_true rfl) ?_
  intro x e1 e2 e3 e4 e5 e6 hin X hR
  subst e1 e2 e3 e4
  exact t_X7_isValue X e6 hR hf
def f_X7_lays (l1 : Int32) (l2 : Int32) (l3 : Int32) (s_rule : Int32) (s_kinds : Nat → Int32) (s_rows : Nat → Int32) (s_room : Nat → Int32) : Option (Int32 × (Nat → Int32) × (Nat → Int32) × (Nat → Int32)) :=
  if 4 ≤ l1 then (
  if 6 ≤ l1 then (
  if l1 = 6 then (
  if inb l2 6 = true then (
  some (s_rule, (upd s_kinds (Int32.toNatClampNeg l2) l3), s_rows, s_room)) else none) else (
  some (l3, s_kinds, s_rows, s_room))) else (
  if inb (((4 * l2) + l1) - 4) 24 = true then (
  some (s_rule, s_kinds, (upd s_rows (Int32.toNatClampNeg (((4 * l2) + l1) - 4)) l3), s_room)) else none)) else (
  if inb l1 4 = true then (
  some (s_rule, s_kinds, s_rows, (upd s_room (Int32.toNatClampNeg l1) l3))) else none)
set_option maxRecDepth 100000 in
set_option maxHeartbeats 4000000 in
theorem t_X7_lays {x : VX} {r : Int32 × (Nat → Int32) × (Nat → Int32) × (Nat → Int32)} {a0 : Nat} {a_kinds : Nat} {a_rows : Nat} {a_room : Nat} {a_texts : Nat} {a_textSize : Nat} {a_tape : Nat} {a_now : Nat} {a_gained : Nat} {a_rowsWas : Nat} {a_roomKept : Nat} {a_rowsKept : Nat} {a_isThere : Nat} {a_sorts : Nat} {a_sheetSize : Nat} {a_items : Nat} {s_thrown : Int32} {s_textCount : Int32} {s_rule : Int32} {s_taped : Int32} {s_many : Int32} {s_ofSide : Int32} {s_ofLamp : Int32} {s_ofStove : Int32} {s_ofNumber : Int32} {s_ofPose : Int32} {s_ofNear : Int32} {s_from : Int32} {s_size : Int32} {s_here : Int32} {s_token : Int32} {s_tokenAt : Int32} {s_tokenWorth : Int64} {s_open : Int32} {s_bad : Int32} {s_fault : Int32} {s_faceWas : Int32} {s_poseWas : Int32} {s_manyKept : Int32} {s_ruleKept : Int32} {s_kinds : Nat → Int32} {s_rows : Nat → Int32} {s_room : Nat → Int32} {l1 : Int32} {l2 : Int32} {l3 : Int32} (X : Cx x cX7_lays RX7 1) (hN : vxn x = 4) (hR : RetV x cX7_lays 0 0 [(a0, .inr (7, [.int s_thrown, .ref a_texts, .ref a_textSize, .int s_textCount, .int r.1, .ref a_tape, .int s_taped, .ref a_room, .ref a_kinds, .ref a_rows, .int s_many, .int s_ofSide, .int s_ofLamp, .int s_ofStove, .int s_ofNumber, .int s_ofPose, .int s_ofNear, .int s_from, .int s_size, .int s_here, .int s_token, .int s_tokenAt, .long s_tokenWorth, .int s_open, .int s_bad, .int s_fault, .ref a_now, .ref a_gained, .ref a_rowsWas, .int s_faceWas, .int s_poseWas, .ref a_roomKept, .ref a_rowsKept, .int s_manyKept, .int s_ruleKept, .ref a_isThere, .ref a_sorts, .ref a_sheetSize, .ref a_items])), (a_kinds, .inl (vxT x 0, 6, .inl r.2.1)), (a_rows, .inl (vxT x 0, 24, .inl r.2.2.1)), (a_room, .inl (vxT x 0, 4, .inl r.2.2.2))]) (hf : f_X7_lays l1 l2 l3 s_rule s_kinds s_rows s_room = some r) : V x 0 0 [(a0, .inr (7, [.int s_thrown, .ref a_texts, .ref a_textSize, .int s_textCount, .int s_rule, .ref a_tape, .int s_taped, .ref a_room, .ref a_kinds, .ref a_rows, .int s_many, .int s_ofSide, .int s_ofLamp, .int s_ofStove, .int s_ofNumber, .int s_ofPose, .int s_ofNear, .int s_from, .int s_size, .int s_here, .int s_token, .int s_tokenAt, .long s_tokenWorth, .int s_open, .int s_bad, .int s_fault, .ref a_now, .ref a_gained, .ref a_rowsWas, .int s_faceWas, .int s_poseWas, .ref a_roomKept, .ref a_rowsKept, .int s_manyKept, .int s_ruleKept, .ref a_isThere, .ref a_sorts, .ref a_sheetSize, .ref a_items])), (a_kinds, .inl (vxT x 0, 6, .inl s_kinds)), (a_rows, .inl (vxT x 0, 24, .inl s_rows)), (a_room, .inl (vxT x 0, 4, .inl s_room))] [(0, .ref a0), (1, .int l1), (2, .int l2), (3, .int l3)] 0 [] := by
  unfold f_X7_lays at hf
  refine v_iload_n X 1 rfl dX7_lays_0 ?_
  refine v_iconst X (v := 4) (by decide) dX7_lays_1 ?_
  refine v_icmp_ge X (tgt := 15) hf (by decide) dX7_lays_2 (fun c2 hf => ?_) (fun c2 hf => ?_)
  · refine v_iload_n X 1 rfl dX7_lays_15 ?_
    refine v_bipush X (v := 6) (by decide) dX7_lays_16 ?_
    refine v_icmp_ge X (tgt := 37) hf (by decide) dX7_lays_18 (fun c18 hf => ?_) (fun c18 hf => ?_)
    · refine v_iload_n X 1 rfl dX7_lays_37 ?_
      refine v_bipush X (v := 6) (by decide) dX7_lays_38 ?_
      refine v_icmp_ne X (tgt := 53) hf (by decide) dX7_lays_40 (fun c40 hf => ?_) (fun c40 hf => ?_)
      · refine v_aload_n X 0 rfl dX7_lays_53 ?_
        refine v_iload_n X 3 rfl dX7_lays_54 ?_
        refine v_put X xinX7 tyX7 tyX7_ok nmX7 0 rfl rfl 4 (by decide) wd127 rfl rfl rfl rfl rfl (Nat.le_of_ble_eq_true rfl) (ws' := [(a0, .inr (7, [.int s_thrown, .ref a_texts, .ref a_textSize, .int s_textCount, .int l3, .ref a_tape, .int s_taped, .ref a_room, .ref a_kinds, .ref a_rows, .int s_many, .int s_ofSide, .int s_ofLamp, .int s_ofStove, .int s_ofNumber, .int s_ofPose, .int s_ofNear, .int s_from, .int s_size, .int s_here, .int s_token, .int s_tokenAt, .long s_tokenWorth, .int s_open, .int s_bad, .int s_fault, .ref a_now, .ref a_gained, .ref a_rowsWas, .int s_faceWas, .int s_poseWas, .ref a_roomKept, .ref a_rowsKept, .int s_manyKept, .int s_ruleKept, .ref a_isThere, .ref a_sorts, .ref a_sheetSize, .ref a_items])), (a_kinds, .inl (vxT x 0, 6, .inl s_kinds)), (a_rows, .inl (vxT x 0, 24, .inl s_rows)), (a_room, .inl (vxT x 0, 4, .inl s_room))]) rfl dX7_lays_55 ?_
        obtain rfl := Option.some.inj hf
        exact v_vret hR dX7_lays_58
      · refine v_aload_n X 0 rfl dX7_lays_43 ?_
        refine v_get X xinX7 0 rfl rfl 8 (by decide) wd128 rfl rfl dX7_lays_44 ?_
        refine v_iload_n X 2 rfl dX7_lays_47 ?_
        refine v_iload_n X 3 rfl dX7_lays_48 ?_
        refine v_iast X 1 rfl hf (ws' := [(a0, .inr (7, [.int s_thrown, .ref a_texts, .ref a_textSize, .int s_textCount, .int s_rule, .ref a_tape, .int s_taped, .ref a_room, .ref a_kinds, .ref a_rows, .int s_many, .int s_ofSide, .int s_ofLamp, .int s_ofStove, .int s_ofNumber, .int s_ofPose, .int s_ofNear, .int s_from, .int s_size, .int s_here, .int s_token, .int s_tokenAt, .long s_tokenWorth, .int s_open, .int s_bad, .int s_fault, .ref a_now, .ref a_gained, .ref a_rowsWas, .int s_faceWas, .int s_poseWas, .ref a_roomKept, .ref a_rowsKept, .int s_manyKept, .int s_ruleKept, .ref a_isThere, .ref a_sorts, .ref a_sheetSize, .ref a_items])), (a_kinds, .inl (vxT x 0, 6, .inl (upd s_kinds (Int32.toNatClampNeg l2) l3))), (a_rows, .inl (vxT x 0, 24, .inl s_rows)), (a_room, .inl (vxT x 0, 4, .inl s_room))]) rfl dX7_lays_49 (fun h49 hf => ?_)
        refine v_goto X (tgt := 58) (by decide) dX7_lays_50 ?_
        obtain rfl := Option.some.inj hf
        exact v_vret hR dX7_lays_58
    · refine v_aload_n X 0 rfl dX7_lays_21 ?_
      refine v_get X xinX7 0 rfl rfl 9 (by decide) wd113 rfl rfl dX7_lays_22 ?_
      refine v_iconst X (v := 4) (by decide) dX7_lays_25 ?_
      refine v_iload_n X 2 rfl dX7_lays_26 ?_
      refine v_imul X dX7_lays_27 ?_
      refine v_iload_n X 1 rfl dX7_lays_28 ?_
      refine v_iadd X dX7_lays_29 ?_
      refine v_iconst X (v := 4) (by decide) dX7_lays_30 ?_
      refine v_isub X dX7_lays_31 ?_
      refine v_iload_n X 3 rfl dX7_lays_32 ?_
      refine v_iast X 2 rfl hf (ws' := [(a0, .inr (7, [.int s_thrown, .ref a_texts, .ref a_textSize, .int s_textCount, .int s_rule, .ref a_tape, .int s_taped, .ref a_room, .ref a_kinds, .ref a_rows, .int s_many, .int s_ofSide, .int s_ofLamp, .int s_ofStove, .int s_ofNumber, .int s_ofPose, .int s_ofNear, .int s_from, .int s_size, .int s_here, .int s_token, .int s_tokenAt, .long s_tokenWorth, .int s_open, .int s_bad, .int s_fault, .ref a_now, .ref a_gained, .ref a_rowsWas, .int s_faceWas, .int s_poseWas, .ref a_roomKept, .ref a_rowsKept, .int s_manyKept, .int s_ruleKept, .ref a_isThere, .ref a_sorts, .ref a_sheetSize, .ref a_items])), (a_kinds, .inl (vxT x 0, 6, .inl s_kinds)), (a_rows, .inl (vxT x 0, 24, .inl (upd s_rows (Int32.toNatClampNeg (((4 * l2) + l1) - 4)) l3))), (a_room, .inl (vxT x 0, 4, .inl s_room))]) rfl dX7_lays_33 (fun h33 hf => ?_)
      refine v_goto X (tgt := 58) (by decide) dX7_lays_34 ?_
      obtain rfl := Option.some.inj hf
      exact v_vret hR dX7_lays_58
  · refine v_aload_n X 0 rfl dX7_lays_5 ?_
    refine v_get X xinX7 0 rfl rfl 7 (by decide) wd129 rfl rfl dX7_lays_6 ?_
    refine v_iload_n X 1 rfl dX7_lays_9 ?_
    refine v_iload_n X 3 rfl dX7_lays_10 ?_
    refine v_iast X 3 rfl hf (ws' := [(a0, .inr (7, [.int s_thrown, .ref a_texts, .ref a_textSize, .int s_textCount, .int s_rule, .ref a_tape, .int s_taped, .ref a_room, .ref a_kinds, .ref a_rows, .int s_many, .int s_ofSide, .int s_ofLamp, .int s_ofStove, .int s_ofNumber, .int s_ofPose, .int s_ofNear, .int s_from, .int s_size, .int s_here, .int s_token, .int s_tokenAt, .long s_tokenWorth, .int s_open, .int s_bad, .int s_fault, .ref a_now, .ref a_gained, .ref a_rowsWas, .int s_faceWas, .int s_poseWas, .ref a_roomKept, .ref a_rowsKept, .int s_manyKept, .int s_ruleKept, .ref a_isThere, .ref a_sorts, .ref a_sheetSize, .ref a_items])), (a_kinds, .inl (vxT x 0, 6, .inl s_kinds)), (a_rows, .inl (vxT x 0, 24, .inl s_rows)), (a_room, .inl (vxT x 0, 4, .inl (upd s_room (Int32.toNatClampNeg l1) l3)))]) rfl dX7_lays_11 (fun h11 hf => ?_)
    refine v_goto X (tgt := 58) (by decide) dX7_lays_12 ?_
    obtain rfl := Option.some.inj hf
    exact v_vret hR dX7_lays_58
set_option maxRecDepth 100000 in
set_option maxHeartbeats 4000000 in
theorem c_X7_lays {l : Launch} {D : va_G} {qT : Nat → ClassId} {Z : (Nat → Prop) → State → Heap → Prop} {r : Int32 × (Nat → Int32) × (Nat → Int32) × (Nat → Int32)} {a0 : Nat} {a_kinds : Nat} {a_rows : Nat} {a_room : Nat} {a_texts : Nat} {a_textSize : Nat} {a_tape : Nat} {a_now : Nat} {a_gained : Nat} {a_rowsWas : Nat} {a_roomKept : Nat} {a_rowsKept : Nat} {a_isThere : Nat} {a_sorts : Nat} {a_sheetSize : Nat} {a_items : Nat} {s_thrown : Int32} {s_textCount : Int32} {s_rule : Int32} {s_taped : Int32} {s_many : Int32} {s_ofSide : Int32} {s_ofLamp : Int32} {s_ofStove : Int32} {s_ofNumber : Int32} {s_ofPose : Int32} {s_ofNear : Int32} {s_from : Int32} {s_size : Int32} {s_here : Int32} {s_token : Int32} {s_tokenAt : Int32} {s_tokenWorth : Int64} {s_open : Int32} {s_bad : Int32} {s_fault : Int32} {s_faceWas : Int32} {s_poseWas : Int32} {s_manyKept : Int32} {s_ruleKept : Int32} {s_kinds : Nat → Int32} {s_rows : Nat → Int32} {s_room : Nat → Int32} {l1 : Int32} {l2 : Int32} {l3 : Int32} (hZ : ZOK Z) (hf : f_X7_lays l1 l2 l3 s_rule s_kinds s_rows s_room = some r) :
    CV l D qT Z yX7_lays cX7_lays 4 none 1 0 0 [.ref a0, .int l1, .int l2, .int l3] [(a0, .inr (7, [.int s_thrown, .ref a_texts, .ref a_textSize, .int s_textCount, .int s_rule, .ref a_tape, .int s_taped, .ref a_room, .ref a_kinds, .ref a_rows, .int s_many, .int s_ofSide, .int s_ofLamp, .int s_ofStove, .int s_ofNumber, .int s_ofPose, .int s_ofNear, .int s_from, .int s_size, .int s_here, .int s_token, .int s_tokenAt, .long s_tokenWorth, .int s_open, .int s_bad, .int s_fault, .ref a_now, .ref a_gained, .ref a_rowsWas, .int s_faceWas, .int s_poseWas, .ref a_roomKept, .ref a_rowsKept, .int s_manyKept, .int s_ruleKept, .ref a_isThere, .ref a_sorts, .ref a_sheetSize, .ref a_items])), (a_kinds, .inl (qT 0, 6, .inl s_kinds)), (a_rows, .inl (qT 0, 24, .inl s_rows)), (a_room, .inl (qT 0, 4, .inl s_room))] [(a0, .inr (7, [.int s_thrown, .ref a_texts, .ref a_textSize, .int s_textCount, .int r.1, .ref a_tape, .int s_taped, .ref a_room, .ref a_kinds, .ref a_rows, .int s_many, .int s_ofSide, .int s_ofLamp, .int s_ofStove, .int s_ofNumber, .int s_ofPose, .int s_ofNear, .int s_from, .int s_size, .int s_here, .int s_token, .int s_tokenAt, .long s_tokenWorth, .int s_open, .int s_bad, .int s_fault, .ref a_now, .ref a_gained, .ref a_rowsWas, .int s_faceWas, .int s_poseWas, .ref a_roomKept, .ref a_rowsKept, .int s_manyKept, .int s_ruleKept, .ref a_isThere, .ref a_sorts, .ref a_sheetSize, .ref a_items])), (a_kinds, .inl (qT 0, 6, .inl r.2.1)), (a_rows, .inl (qT 0, 24, .inl r.2.2.1)), (a_room, .inl (qT 0, 4, .inl r.2.2.2))] := by
  refine CV_of hZ (by decide) (Nat.le_of_ble_eq_true rfl) ?_
  intro x e1 e2 e3 e4 e5 e6 hin X hR
  subst e1 e2 e3 e4
  exact t_X7_lays X e6 hR hf
def f_X7_painter (l1 : Int32) (l2 : Int32) (l3 : Int32) (s_many : Int32) (s_rows : Nat → Int32) (s_kinds : Nat → Int32) : Option (Int32 × Int32 × (Nat → Int32) × (Nat → Int32)) :=
  (f_X7_in (Int32.toInt64 l1) 0 5).bind (fun v6_1 =>
  if v6_1 = 0 then (
  some ((-2), s_many, s_rows, s_kinds)) else (
  (f_X7_in (Int32.toInt64 l2) 0 9).bind (fun v18_2 =>
  if v18_2 = 0 then (
  some ((-2), s_many, s_rows, s_kinds)) else (
  (f_X7_isFreeFor l3 6 s_many s_rows).bind (fun v28_3 =>
  if v28_3 = 0 then (
  some ((-2), s_many, s_rows, s_kinds)) else (
  if s_many = 6 then (
  some ((-4), s_many, s_rows, s_kinds)) else (
  if inb s_many 6 = true then (
  if inb (4 * s_many) 24 = true then (
  if inb ((4 * s_many) + 1) 24 = true then (
  if inb ((4 * s_many) + 2) 24 = true then (
  if inb ((4 * s_many) + 3) 24 = true then (
  some (((s_many + 1) - 1), (s_many + 1), (upd (upd (upd (upd s_rows (Int32.toNatClampNeg (4 * s_many)) l2) (Int32.toNatClampNeg ((4 * s_many) + 1)) l3) (Int32.toNatClampNeg ((4 * s_many) + 2)) 0) (Int32.toNatClampNeg ((4 * s_many) + 3)) 0), (upd s_kinds (Int32.toNatClampNeg s_many) l1))) else none) else none) else none) else none) else none)))))))
set_option maxRecDepth 100000 in
set_option maxHeartbeats 4000000 in
theorem t_X7_painter {x : VX} {r : Int32 × Int32 × (Nat → Int32) × (Nat → Int32)} {a0 : Nat} {a_rows : Nat} {a_kinds : Nat} {a_texts : Nat} {a_textSize : Nat} {a_tape : Nat} {a_room : Nat} {a_now : Nat} {a_gained : Nat} {a_rowsWas : Nat} {a_roomKept : Nat} {a_rowsKept : Nat} {a_isThere : Nat} {a_sorts : Nat} {a_sheetSize : Nat} {a_items : Nat} {s_thrown : Int32} {s_textCount : Int32} {s_rule : Int32} {s_taped : Int32} {s_many : Int32} {s_ofSide : Int32} {s_ofLamp : Int32} {s_ofStove : Int32} {s_ofNumber : Int32} {s_ofPose : Int32} {s_ofNear : Int32} {s_from : Int32} {s_size : Int32} {s_here : Int32} {s_token : Int32} {s_tokenAt : Int32} {s_tokenWorth : Int64} {s_open : Int32} {s_bad : Int32} {s_fault : Int32} {s_faceWas : Int32} {s_poseWas : Int32} {s_manyKept : Int32} {s_ruleKept : Int32} {s_rows : Nat → Int32} {s_kinds : Nat → Int32} {l1 : Int32} {l2 : Int32} {l3 : Int32} (X : Cx x cX7_painter RX7 4) (hN : vxn x = 4) (hR : RetI x cX7_painter 0 0 r.1 [(a0, .inr (7, [.int s_thrown, .ref a_texts, .ref a_textSize, .int s_textCount, .int s_rule, .ref a_tape, .int s_taped, .ref a_room, .ref a_kinds, .ref a_rows, .int r.2.1, .int s_ofSide, .int s_ofLamp, .int s_ofStove, .int s_ofNumber, .int s_ofPose, .int s_ofNear, .int s_from, .int s_size, .int s_here, .int s_token, .int s_tokenAt, .long s_tokenWorth, .int s_open, .int s_bad, .int s_fault, .ref a_now, .ref a_gained, .ref a_rowsWas, .int s_faceWas, .int s_poseWas, .ref a_roomKept, .ref a_rowsKept, .int s_manyKept, .int s_ruleKept, .ref a_isThere, .ref a_sorts, .ref a_sheetSize, .ref a_items])), (a_rows, .inl (vxT x 0, 24, .inl r.2.2.1)), (a_kinds, .inl (vxT x 0, 6, .inl r.2.2.2))]) (hf : f_X7_painter l1 l2 l3 s_many s_rows s_kinds = some r) : V x 0 0 [(a0, .inr (7, [.int s_thrown, .ref a_texts, .ref a_textSize, .int s_textCount, .int s_rule, .ref a_tape, .int s_taped, .ref a_room, .ref a_kinds, .ref a_rows, .int s_many, .int s_ofSide, .int s_ofLamp, .int s_ofStove, .int s_ofNumber, .int s_ofPose, .int s_ofNear, .int s_from, .int s_size, .int s_here, .int s_token, .int s_tokenAt, .long s_tokenWorth, .int s_open, .int s_bad, .int s_fault, .ref a_now, .ref a_gained, .ref a_rowsWas, .int s_faceWas, .int s_poseWas, .ref a_roomKept, .ref a_rowsKept, .int s_manyKept, .int s_ruleKept, .ref a_isThere, .ref a_sorts, .ref a_sheetSize, .ref a_items])), (a_rows, .inl (vxT x 0, 24, .inl s_rows)), (a_kinds, .inl (vxT x 0, 6, .inl s_kinds))] [(0, .ref a0), (1, .int l1), (2, .int l2), (3, .int l3)] 0 [] := by
  unfold f_X7_painter at hf
  refine v_iload_n X 1 rfl dX7_painter_0 ?_
  refine v_i2l X dX7_painter_1 ?_
  refine v_lconst X (v := 0) (by decide) dX7_painter_2 ?_
  refine v_ldc2 X wd130 dX7_painter_3 ?_
  obtain ⟨v6_1, hv6_1, hf⟩ := bd_some hf
  refine v_scallI X (c_X7_in X.2.2.2.2.2.2.2.1 hv6_1) cws_X7_73 rfl (by decide) ⟨Nat.zero_le _, Nat.zero_le _⟩ [] [0, 1, 2] [0, 1, 2] rfl (by decide) (wr := [(a0, .inr (7, [.int s_thrown, .ref a_texts, .ref a_textSize, .int s_textCount, .int s_rule, .ref a_tape, .int s_taped, .ref a_room, .ref a_kinds, .ref a_rows, .int s_many, .int s_ofSide, .int s_ofLamp, .int s_ofStove, .int s_ofNumber, .int s_ofPose, .int s_ofNear, .int s_from, .int s_size, .int s_here, .int s_token, .int s_tokenAt, .long s_tokenWorth, .int s_open, .int s_bad, .int s_fault, .ref a_now, .ref a_gained, .ref a_rowsWas, .int s_faceWas, .int s_poseWas, .ref a_roomKept, .ref a_rowsKept, .int s_manyKept, .int s_ruleKept, .ref a_isThere, .ref a_sorts, .ref a_sheetSize, .ref a_items])), (a_rows, .inl (vxT x 0, 24, .inl s_rows)), (a_kinds, .inl (vxT x 0, 6, .inl s_kinds))]) rfl (by decide) (by decide) (ws2 := [(a0, .inr (7, [.int s_thrown, .ref a_texts, .ref a_textSize, .int s_textCount, .int s_rule, .ref a_tape, .int s_taped, .ref a_room, .ref a_kinds, .ref a_rows, .int s_many, .int s_ofSide, .int s_ofLamp, .int s_ofStove, .int s_ofNumber, .int s_ofPose, .int s_ofNear, .int s_from, .int s_size, .int s_here, .int s_token, .int s_tokenAt, .long s_tokenWorth, .int s_open, .int s_bad, .int s_fault, .ref a_now, .ref a_gained, .ref a_rowsWas, .int s_faceWas, .int s_poseWas, .ref a_roomKept, .ref a_rowsKept, .int s_manyKept, .int s_ruleKept, .ref a_isThere, .ref a_sorts, .ref a_sheetSize, .ref a_items])), (a_rows, .inl (vxT x 0, 24, .inl s_rows)), (a_kinds, .inl (vxT x 0, 6, .inl s_kinds))]) rfl (by decide) (Nat.le_of_ble_eq_true rfl) rfl dX7_painter_6 ?_
  refine v_if_eq X (tgt := 34) hf (by decide) dX7_painter_9 (fun c9 hf => ?_) (fun c9 hf => ?_)
  · refine v_bipush X (v := (-2)) (by decide) dX7_painter_34 ?_
    obtain rfl := Option.some.inj hf
    exact v_iret hR dX7_painter_36
  · refine v_iload_n X 2 rfl dX7_painter_12 ?_
    refine v_i2l X dX7_painter_13 ?_
    refine v_lconst X (v := 0) (by decide) dX7_painter_14 ?_
    refine v_ldc2 X wd121 dX7_painter_15 ?_
    obtain ⟨v18_2, hv18_2, hf⟩ := bd_some hf
    refine v_scallI X (c_X7_in X.2.2.2.2.2.2.2.1 hv18_2) cws_X7_73 rfl (by decide) ⟨Nat.zero_le _, Nat.zero_le _⟩ [] [0, 1, 2] [0, 1, 2] rfl (by decide) (wr := [(a0, .inr (7, [.int s_thrown, .ref a_texts, .ref a_textSize, .int s_textCount, .int s_rule, .ref a_tape, .int s_taped, .ref a_room, .ref a_kinds, .ref a_rows, .int s_many, .int s_ofSide, .int s_ofLamp, .int s_ofStove, .int s_ofNumber, .int s_ofPose, .int s_ofNear, .int s_from, .int s_size, .int s_here, .int s_token, .int s_tokenAt, .long s_tokenWorth, .int s_open, .int s_bad, .int s_fault, .ref a_now, .ref a_gained, .ref a_rowsWas, .int s_faceWas, .int s_poseWas, .ref a_roomKept, .ref a_rowsKept, .int s_manyKept, .int s_ruleKept, .ref a_isThere, .ref a_sorts, .ref a_sheetSize, .ref a_items])), (a_rows, .inl (vxT x 0, 24, .inl s_rows)), (a_kinds, .inl (vxT x 0, 6, .inl s_kinds))]) rfl (by decide) (by decide) (ws2 := [(a0, .inr (7, [.int s_thrown, .ref a_texts, .ref a_textSize, .int s_textCount, .int s_rule, .ref a_tape, .int s_taped, .ref a_room, .ref a_kinds, .ref a_rows, .int s_many, .int s_ofSide, .int s_ofLamp, .int s_ofStove, .int s_ofNumber, .int s_ofPose, .int s_ofNear, .int s_from, .int s_size, .int s_here, .int s_token, .int s_tokenAt, .long s_tokenWorth, .int s_open, .int s_bad, .int s_fault, .ref a_now, .ref a_gained, .ref a_rowsWas, .int s_faceWas, .int s_poseWas, .ref a_roomKept, .ref a_rowsKept, .int s_manyKept, .int s_ruleKept, .ref a_isThere, .ref a_sorts, .ref a_sheetSize, .ref a_items])), (a_rows, .inl (vxT x 0, 24, .inl s_rows)), (a_kinds, .inl (vxT x 0, 6, .inl s_kinds))]) rfl (by decide) (Nat.le_of_ble_eq_true rfl) rfl dX7_painter_18 ?_
    refine v_if_eq X (tgt := 34) hf (by decide) dX7_painter_21 (fun c21 hf => ?_) (fun c21 hf => ?_)
    · refine v_bipush X (v := (-2)) (by decide) dX7_painter_34 ?_
      obtain rfl := Option.some.inj hf
      exact v_iret hR dX7_painter_36
    · refine v_aload_n X 0 rfl dX7_painter_24 ?_
      refine v_iload_n X 3 rfl dX7_painter_25 ?_
      refine v_bipush X (v := 6) (by decide) dX7_painter_26 ?_
      obtain ⟨v28_3, hv28_3, hf⟩ := bd_some hf
      refine v_callI X (c_X7_isFreeFor X.2.2.2.2.2.2.2.1 hv28_3) cwv_X7_87 rfl (by decide) ⟨Nat.zero_le _, Nat.zero_le _⟩ 0 rfl rfl [0, 1] [2] [1, 2, 0] rfl (by decide) (wr := [(a_kinds, .inl (vxT x 0, 6, .inl s_kinds))]) rfl (by decide) (by decide) (ws2 := [(a0, .inr (7, [.int s_thrown, .ref a_texts, .ref a_textSize, .int s_textCount, .int s_rule, .ref a_tape, .int s_taped, .ref a_room, .ref a_kinds, .ref a_rows, .int s_many, .int s_ofSide, .int s_ofLamp, .int s_ofStove, .int s_ofNumber, .int s_ofPose, .int s_ofNear, .int s_from, .int s_size, .int s_here, .int s_token, .int s_tokenAt, .long s_tokenWorth, .int s_open, .int s_bad, .int s_fault, .ref a_now, .ref a_gained, .ref a_rowsWas, .int s_faceWas, .int s_poseWas, .ref a_roomKept, .ref a_rowsKept, .int s_manyKept, .int s_ruleKept, .ref a_isThere, .ref a_sorts, .ref a_sheetSize, .ref a_items])), (a_rows, .inl (vxT x 0, 24, .inl s_rows)), (a_kinds, .inl (vxT x 0, 6, .inl s_kinds))]) rfl (by decide) (Nat.le_of_ble_eq_true rfl) rfl dX7_painter_28 ?_
      refine v_if_ne X (tgt := 37) hf (by decide) dX7_painter_31 (fun c31 hf => ?_) (fun c31 hf => ?_)
      · refine v_aload_n X 0 rfl dX7_painter_37 ?_
        refine v_get X xinX7 0 rfl rfl 10 (by decide) wd107 rfl rfl dX7_painter_38 ?_
        refine v_bipush X (v := 6) (by decide) dX7_painter_41 ?_
        refine v_icmp_ne X (tgt := 49) hf (by decide) dX7_painter_43 (fun c43 hf => ?_) (fun c43 hf => ?_)
        · refine v_aload_n X 0 rfl dX7_painter_49 ?_
          refine v_get X xinX7 0 rfl rfl 8 (by decide) wd128 rfl rfl dX7_painter_50 ?_
          refine v_aload_n X 0 rfl dX7_painter_53 ?_
          refine v_get X xinX7 0 rfl rfl 10 (by decide) wd107 rfl rfl dX7_painter_54 ?_
          refine v_iload_n X 1 rfl dX7_painter_57 ?_
          refine v_iast X 2 rfl hf (ws' := [(a0, .inr (7, [.int s_thrown, .ref a_texts, .ref a_textSize, .int s_textCount, .int s_rule, .ref a_tape, .int s_taped, .ref a_room, .ref a_kinds, .ref a_rows, .int s_many, .int s_ofSide, .int s_ofLamp, .int s_ofStove, .int s_ofNumber, .int s_ofPose, .int s_ofNear, .int s_from, .int s_size, .int s_here, .int s_token, .int s_tokenAt, .long s_tokenWorth, .int s_open, .int s_bad, .int s_fault, .ref a_now, .ref a_gained, .ref a_rowsWas, .int s_faceWas, .int s_poseWas, .ref a_roomKept, .ref a_rowsKept, .int s_manyKept, .int s_ruleKept, .ref a_isThere, .ref a_sorts, .ref a_sheetSize, .ref a_items])), (a_rows, .inl (vxT x 0, 24, .inl s_rows)), (a_kinds, .inl (vxT x 0, 6, .inl (upd s_kinds (Int32.toNatClampNeg s_many) l1)))]) rfl dX7_painter_58 (fun h58 hf => ?_)
          refine v_aload_n X 0 rfl dX7_painter_59 ?_
          refine v_get X xinX7 0 rfl rfl 9 (by decide) wd113 rfl rfl dX7_painter_60 ?_
          refine v_iconst X (v := 4) (by decide) dX7_painter_63 ?_
          refine v_aload_n X 0 rfl dX7_painter_64 ?_
          refine v_get X xinX7 0 rfl rfl 10 (by decide) wd107 rfl rfl dX7_painter_65 ?_
          refine v_imul X dX7_painter_68 ?_
          refine v_iload_n X 2 rfl dX7_painter_69 ?_
          refine v_iast X 1 rfl hf (ws' := [(a0, .inr (7, [.int s_thrown, .ref a_texts, .ref a_textSize, .int s_textCount, .int s_rule, .ref a_tape, .int s_taped, .ref a_room, .ref a_kinds, .ref a_rows, .int s_many, .int s_ofSide, .int s_ofLamp, .int s_ofStove, .int s_ofNumber, .int s_ofPose, .int s_ofNear, .int s_from, .int s_size, .int s_here, .int s_token, .int s_tokenAt, .long s_tokenWorth, .int s_open, .int s_bad, .int s_fault, .ref a_now, .ref a_gained, .ref a_rowsWas, .int s_faceWas, .int s_poseWas, .ref a_roomKept, .ref a_rowsKept, .int s_manyKept, .int s_ruleKept, .ref a_isThere, .ref a_sorts, .ref a_sheetSize, .ref a_items])), (a_rows, .inl (vxT x 0, 24, .inl (upd s_rows (Int32.toNatClampNeg (4 * s_many)) l2))), (a_kinds, .inl (vxT x 0, 6, .inl (upd s_kinds (Int32.toNatClampNeg s_many) l1)))]) rfl dX7_painter_70 (fun h70 hf => ?_)
          refine v_aload_n X 0 rfl dX7_painter_71 ?_
          refine v_get X xinX7 0 rfl rfl 9 (by decide) wd113 rfl rfl dX7_painter_72 ?_
          refine v_iconst X (v := 4) (by decide) dX7_painter_75 ?_
          refine v_aload_n X 0 rfl dX7_painter_76 ?_
          refine v_get X xinX7 0 rfl rfl 10 (by decide) wd107 rfl rfl dX7_painter_77 ?_
          refine v_imul X dX7_painter_80 ?_
          refine v_iconst X (v := 1) (by decide) dX7_painter_81 ?_
          refine v_iadd X dX7_painter_82 ?_
          refine v_iload_n X 3 rfl dX7_painter_83 ?_
          refine v_iast X 1 rfl hf (ws' := [(a0, .inr (7, [.int s_thrown, .ref a_texts, .ref a_textSize, .int s_textCount, .int s_rule, .ref a_tape, .int s_taped, .ref a_room, .ref a_kinds, .ref a_rows, .int s_many, .int s_ofSide, .int s_ofLamp, .int s_ofStove, .int s_ofNumber, .int s_ofPose, .int s_ofNear, .int s_from, .int s_size, .int s_here, .int s_token, .int s_tokenAt, .long s_tokenWorth, .int s_open, .int s_bad, .int s_fault, .ref a_now, .ref a_gained, .ref a_rowsWas, .int s_faceWas, .int s_poseWas, .ref a_roomKept, .ref a_rowsKept, .int s_manyKept, .int s_ruleKept, .ref a_isThere, .ref a_sorts, .ref a_sheetSize, .ref a_items])), (a_rows, .inl (vxT x 0, 24, .inl (upd (upd s_rows (Int32.toNatClampNeg (4 * s_many)) l2) (Int32.toNatClampNeg ((4 * s_many) + 1)) l3))), (a_kinds, .inl (vxT x 0, 6, .inl (upd s_kinds (Int32.toNatClampNeg s_many) l1)))]) rfl dX7_painter_84 (fun h84 hf => ?_)
          refine v_aload_n X 0 rfl dX7_painter_85 ?_
          refine v_get X xinX7 0 rfl rfl 9 (by decide) wd113 rfl rfl dX7_painter_86 ?_
          refine v_iconst X (v := 4) (by decide) dX7_painter_89 ?_
          refine v_aload_n X 0 rfl dX7_painter_90 ?_
          refine v_get X xinX7 0 rfl rfl 10 (by decide) wd107 rfl rfl dX7_painter_91 ?_
          refine v_imul X dX7_painter_94 ?_
          refine v_iconst X (v := 2) (by decide) dX7_painter_95 ?_
          refine v_iadd X dX7_painter_96 ?_
          refine v_iconst X (v := 0) (by decide) dX7_painter_97 ?_
          refine v_iast X 1 rfl hf (ws' := [(a0, .inr (7, [.int s_thrown, .ref a_texts, .ref a_textSize, .int s_textCount, .int s_rule, .ref a_tape, .int s_taped, .ref a_room, .ref a_kinds, .ref a_rows, .int s_many, .int s_ofSide, .int s_ofLamp, .int s_ofStove, .int s_ofNumber, .int s_ofPose, .int s_ofNear, .int s_from, .int s_size, .int s_here, .int s_token, .int s_tokenAt, .long s_tokenWorth, .int s_open, .int s_bad, .int s_fault, .ref a_now, .ref a_gained, .ref a_rowsWas, .int s_faceWas, .int s_poseWas, .ref a_roomKept, .ref a_rowsKept, .int s_manyKept, .int s_ruleKept, .ref a_isThere, .ref a_sorts, .ref a_sheetSize, .ref a_items])), (a_rows, .inl (vxT x 0, 24, .inl (upd (upd (upd s_rows (Int32.toNatClampNeg (4 * s_many)) l2) (Int32.toNatClampNeg ((4 * s_many) + 1)) l3) (Int32.toNatClampNeg ((4 * s_many) + 2)) 0))), (a_kinds, .inl (vxT x 0, 6, .inl (upd s_kinds (Int32.toNatClampNeg s_many) l1)))]) rfl dX7_painter_98 (fun h98 hf => ?_)
          refine v_aload_n X 0 rfl dX7_painter_99 ?_
          refine v_get X xinX7 0 rfl rfl 9 (by decide) wd113 rfl rfl dX7_painter_100 ?_
          refine v_iconst X (v := 4) (by decide) dX7_painter_103 ?_
          refine v_aload_n X 0 rfl dX7_painter_104 ?_
          refine v_get X xinX7 0 rfl rfl 10 (by decide) wd107 rfl rfl dX7_painter_105 ?_
          refine v_imul X dX7_painter_108 ?_
          refine v_iconst X (v := 3) (by decide) dX7_painter_109 ?_
          refine v_iadd X dX7_painter_110 ?_
          refine v_iconst X (v := 0) (by decide) dX7_painter_111 ?_
          refine v_iast X 1 rfl hf (ws' := [(a0, .inr (7, [.int s_thrown, .ref a_texts, .ref a_textSize, .int s_textCount, .int s_rule, .ref a_tape, .int s_taped, .ref a_room, .ref a_kinds, .ref a_rows, .int s_many, .int s_ofSide, .int s_ofLamp, .int s_ofStove, .int s_ofNumber, .int s_ofPose, .int s_ofNear, .int s_from, .int s_size, .int s_here, .int s_token, .int s_tokenAt, .long s_tokenWorth, .int s_open, .int s_bad, .int s_fault, .ref a_now, .ref a_gained, .ref a_rowsWas, .int s_faceWas, .int s_poseWas, .ref a_roomKept, .ref a_rowsKept, .int s_manyKept, .int s_ruleKept, .ref a_isThere, .ref a_sorts, .ref a_sheetSize, .ref a_items])), (a_rows, .inl (vxT x 0, 24, .inl (upd (upd (upd (upd s_rows (Int32.toNatClampNeg (4 * s_many)) l2) (Int32.toNatClampNeg ((4 * s_many) + 1)) l3) (Int32.toNatClampNeg ((4 * s_many) + 2)) 0) (Int32.toNatClampNeg ((4 * s_many) + 3)) 0))), (a_kinds, .inl (vxT x 0, 6, .inl (upd s_kinds (Int32.toNatClampNeg s_many) l1)))]) rfl dX7_painter_112 (fun h112 hf => ?_)
          refine v_aload_n X 0 rfl dX7_painter_113 ?_
          refine v_dup X rfl dX7_painter_114 ?_
          refine v_get X xinX7 0 rfl rfl 10 (by decide) wd107 rfl rfl dX7_painter_115 ?_
          refine v_iconst X (v := 1) (by decide) dX7_painter_118 ?_
          refine v_iadd X dX7_painter_119 ?_
          refine v_put X xinX7 tyX7 tyX7_ok nmX7 0 rfl rfl 10 (by decide) wd107 rfl rfl rfl rfl rfl (Nat.le_of_ble_eq_true rfl) (ws' := [(a0, .inr (7, [.int s_thrown, .ref a_texts, .ref a_textSize, .int s_textCount, .int s_rule, .ref a_tape, .int s_taped, .ref a_room, .ref a_kinds, .ref a_rows, .int (s_many + 1), .int s_ofSide, .int s_ofLamp, .int s_ofStove, .int s_ofNumber, .int s_ofPose, .int s_ofNear, .int s_from, .int s_size, .int s_here, .int s_token, .int s_tokenAt, .long s_tokenWorth, .int s_open, .int s_bad, .int s_fault, .ref a_now, .ref a_gained, .ref a_rowsWas, .int s_faceWas, .int s_poseWas, .ref a_roomKept, .ref a_rowsKept, .int s_manyKept, .int s_ruleKept, .ref a_isThere, .ref a_sorts, .ref a_sheetSize, .ref a_items])), (a_rows, .inl (vxT x 0, 24, .inl (upd (upd (upd (upd s_rows (Int32.toNatClampNeg (4 * s_many)) l2) (Int32.toNatClampNeg ((4 * s_many) + 1)) l3) (Int32.toNatClampNeg ((4 * s_many) + 2)) 0) (Int32.toNatClampNeg ((4 * s_many) + 3)) 0))), (a_kinds, .inl (vxT x 0, 6, .inl (upd s_kinds (Int32.toNatClampNeg s_many) l1)))]) rfl dX7_painter_120 ?_
          refine v_aload_n X 0 rfl dX7_painter_123 ?_
          refine v_get X xinX7 0 rfl rfl 10 (by decide) wd107 rfl rfl dX7_painter_124 ?_
          refine v_iconst X (v := 1) (by decide) dX7_painter_127 ?_
          refine v_isub X dX7_painter_128 ?_
          obtain rfl := Option.some.inj hf
          exact v_iret hR dX7_painter_129
        · refine v_bipush X (v := (-4)) (by decide) dX7_painter_46 ?_
          obtain rfl := Option.some.inj hf
          exact v_iret hR dX7_painter_48
      · refine v_bipush X (v := (-2)) (by decide) dX7_painter_34 ?_
        obtain rfl := Option.some.inj hf
        exact v_iret hR dX7_painter_36
set_option maxRecDepth 100000 in
set_option maxHeartbeats 4000000 in
theorem c_X7_painter {l : Launch} {D : va_G} {qT : Nat → ClassId} {Z : (Nat → Prop) → State → Heap → Prop} {r : Int32 × Int32 × (Nat → Int32) × (Nat → Int32)} {a0 : Nat} {a_rows : Nat} {a_kinds : Nat} {a_texts : Nat} {a_textSize : Nat} {a_tape : Nat} {a_room : Nat} {a_now : Nat} {a_gained : Nat} {a_rowsWas : Nat} {a_roomKept : Nat} {a_rowsKept : Nat} {a_isThere : Nat} {a_sorts : Nat} {a_sheetSize : Nat} {a_items : Nat} {s_thrown : Int32} {s_textCount : Int32} {s_rule : Int32} {s_taped : Int32} {s_many : Int32} {s_ofSide : Int32} {s_ofLamp : Int32} {s_ofStove : Int32} {s_ofNumber : Int32} {s_ofPose : Int32} {s_ofNear : Int32} {s_from : Int32} {s_size : Int32} {s_here : Int32} {s_token : Int32} {s_tokenAt : Int32} {s_tokenWorth : Int64} {s_open : Int32} {s_bad : Int32} {s_fault : Int32} {s_faceWas : Int32} {s_poseWas : Int32} {s_manyKept : Int32} {s_ruleKept : Int32} {s_rows : Nat → Int32} {s_kinds : Nat → Int32} {l1 : Int32} {l2 : Int32} {l3 : Int32} (hZ : ZOK Z) (hf : f_X7_painter l1 l2 l3 s_many s_rows s_kinds = some r) :
    CI l D qT Z yX7_painter cX7_painter 4 (some .int) 4 0 0 [.ref a0, .int l1, .int l2, .int l3] [(a0, .inr (7, [.int s_thrown, .ref a_texts, .ref a_textSize, .int s_textCount, .int s_rule, .ref a_tape, .int s_taped, .ref a_room, .ref a_kinds, .ref a_rows, .int s_many, .int s_ofSide, .int s_ofLamp, .int s_ofStove, .int s_ofNumber, .int s_ofPose, .int s_ofNear, .int s_from, .int s_size, .int s_here, .int s_token, .int s_tokenAt, .long s_tokenWorth, .int s_open, .int s_bad, .int s_fault, .ref a_now, .ref a_gained, .ref a_rowsWas, .int s_faceWas, .int s_poseWas, .ref a_roomKept, .ref a_rowsKept, .int s_manyKept, .int s_ruleKept, .ref a_isThere, .ref a_sorts, .ref a_sheetSize, .ref a_items])), (a_rows, .inl (qT 0, 24, .inl s_rows)), (a_kinds, .inl (qT 0, 6, .inl s_kinds))] r.1 [(a0, .inr (7, [.int s_thrown, .ref a_texts, .ref a_textSize, .int s_textCount, .int s_rule, .ref a_tape, .int s_taped, .ref a_room, .ref a_kinds, .ref a_rows, .int r.2.1, .int s_ofSide, .int s_ofLamp, .int s_ofStove, .int s_ofNumber, .int s_ofPose, .int s_ofNear, .int s_from, .int s_size, .int s_here, .int s_token, .int s_tokenAt, .long s_tokenWorth, .int s_open, .int s_bad, .int s_fault, .ref a_now, .ref a_gained, .ref a_rowsWas, .int s_faceWas, .int s_poseWas, .ref a_roomKept, .ref a_rowsKept, .int s_manyKept, .int s_ruleKept, .ref a_isThere, .ref a_sorts, .ref a_sheetSize, .ref a_items])), (a_rows, .inl (qT 0, 24, .inl r.2.2.1)), (a_kinds, .inl (qT 0, 6, .inl r.2.2.2))] := by
  refine CI_of hZ (by decide) (Nat.le_of_ble_eq_true rfl) ?_
  intro x e1 e2 e3 e4 e5 e6 hin X hR
  subst e1 e2 e3 e4
  exact t_X7_painter X e6 hR hf
def f_X7_feed (l1 : Int32) (s_taped : Int32) (s_tape : Nat → Int32) : Option (Int32 × Int32 × (Nat → Int32)) :=
  (f_X7_in (Int32.toInt64 l1) 0 255).bind (fun v6_1 =>
  if v6_1 = 0 then (
  some ((-2), s_taped, s_tape)) else (
  if s_taped = 160 then (
  some ((-4), s_taped, s_tape)) else (
  if inb s_taped 160 = true then (
  some ((s_taped + 1), (s_taped + 1), (upd s_tape (Int32.toNatClampNeg s_taped) l1))) else none)))
set_option maxRecDepth 100000 in
set_option maxHeartbeats 4000000 in
theorem t_X7_feed {x : VX} {r : Int32 × Int32 × (Nat → Int32)} {a0 : Nat} {a_tape : Nat} {a_texts : Nat} {a_textSize : Nat} {a_room : Nat} {a_kinds : Nat} {a_rows : Nat} {a_now : Nat} {a_gained : Nat} {a_rowsWas : Nat} {a_roomKept : Nat} {a_rowsKept : Nat} {a_isThere : Nat} {a_sorts : Nat} {a_sheetSize : Nat} {a_items : Nat} {s_thrown : Int32} {s_textCount : Int32} {s_rule : Int32} {s_taped : Int32} {s_many : Int32} {s_ofSide : Int32} {s_ofLamp : Int32} {s_ofStove : Int32} {s_ofNumber : Int32} {s_ofPose : Int32} {s_ofNear : Int32} {s_from : Int32} {s_size : Int32} {s_here : Int32} {s_token : Int32} {s_tokenAt : Int32} {s_tokenWorth : Int64} {s_open : Int32} {s_bad : Int32} {s_fault : Int32} {s_faceWas : Int32} {s_poseWas : Int32} {s_manyKept : Int32} {s_ruleKept : Int32} {s_tape : Nat → Int32} {l1 : Int32} (X : Cx x cX7_feed RX7 2) (hN : vxn x = 2) (hR : RetI x cX7_feed 0 0 r.1 [(a0, .inr (7, [.int s_thrown, .ref a_texts, .ref a_textSize, .int s_textCount, .int s_rule, .ref a_tape, .int r.2.1, .ref a_room, .ref a_kinds, .ref a_rows, .int s_many, .int s_ofSide, .int s_ofLamp, .int s_ofStove, .int s_ofNumber, .int s_ofPose, .int s_ofNear, .int s_from, .int s_size, .int s_here, .int s_token, .int s_tokenAt, .long s_tokenWorth, .int s_open, .int s_bad, .int s_fault, .ref a_now, .ref a_gained, .ref a_rowsWas, .int s_faceWas, .int s_poseWas, .ref a_roomKept, .ref a_rowsKept, .int s_manyKept, .int s_ruleKept, .ref a_isThere, .ref a_sorts, .ref a_sheetSize, .ref a_items])), (a_tape, .inl (vxT x 0, 160, .inl r.2.2))]) (hf : f_X7_feed l1 s_taped s_tape = some r) : V x 0 0 [(a0, .inr (7, [.int s_thrown, .ref a_texts, .ref a_textSize, .int s_textCount, .int s_rule, .ref a_tape, .int s_taped, .ref a_room, .ref a_kinds, .ref a_rows, .int s_many, .int s_ofSide, .int s_ofLamp, .int s_ofStove, .int s_ofNumber, .int s_ofPose, .int s_ofNear, .int s_from, .int s_size, .int s_here, .int s_token, .int s_tokenAt, .long s_tokenWorth, .int s_open, .int s_bad, .int s_fault, .ref a_now, .ref a_gained, .ref a_rowsWas, .int s_faceWas, .int s_poseWas, .ref a_roomKept, .ref a_rowsKept, .int s_manyKept, .int s_ruleKept, .ref a_isThere, .ref a_sorts, .ref a_sheetSize, .ref a_items])), (a_tape, .inl (vxT x 0, 160, .inl s_tape))] [(0, .ref a0), (1, .int l1)] 0 [] := by
  unfold f_X7_feed at hf
  refine v_iload_n X 1 rfl dX7_feed_0 ?_
  refine v_i2l X dX7_feed_1 ?_
  refine v_lconst X (v := 0) (by decide) dX7_feed_2 ?_
  refine v_ldc2 X wd131 dX7_feed_3 ?_
  obtain ⟨v6_1, hv6_1, hf⟩ := bd_some hf
  refine v_scallI X (c_X7_in X.2.2.2.2.2.2.2.1 hv6_1) cws_X7_73 rfl (by decide) ⟨Nat.zero_le _, Nat.zero_le _⟩ [] [0, 1] [0, 1] rfl (by decide) (wr := [(a0, .inr (7, [.int s_thrown, .ref a_texts, .ref a_textSize, .int s_textCount, .int s_rule, .ref a_tape, .int s_taped, .ref a_room, .ref a_kinds, .ref a_rows, .int s_many, .int s_ofSide, .int s_ofLamp, .int s_ofStove, .int s_ofNumber, .int s_ofPose, .int s_ofNear, .int s_from, .int s_size, .int s_here, .int s_token, .int s_tokenAt, .long s_tokenWorth, .int s_open, .int s_bad, .int s_fault, .ref a_now, .ref a_gained, .ref a_rowsWas, .int s_faceWas, .int s_poseWas, .ref a_roomKept, .ref a_rowsKept, .int s_manyKept, .int s_ruleKept, .ref a_isThere, .ref a_sorts, .ref a_sheetSize, .ref a_items])), (a_tape, .inl (vxT x 0, 160, .inl s_tape))]) rfl (by decide) (by decide) (ws2 := [(a0, .inr (7, [.int s_thrown, .ref a_texts, .ref a_textSize, .int s_textCount, .int s_rule, .ref a_tape, .int s_taped, .ref a_room, .ref a_kinds, .ref a_rows, .int s_many, .int s_ofSide, .int s_ofLamp, .int s_ofStove, .int s_ofNumber, .int s_ofPose, .int s_ofNear, .int s_from, .int s_size, .int s_here, .int s_token, .int s_tokenAt, .long s_tokenWorth, .int s_open, .int s_bad, .int s_fault, .ref a_now, .ref a_gained, .ref a_rowsWas, .int s_faceWas, .int s_poseWas, .ref a_roomKept, .ref a_rowsKept, .int s_manyKept, .int s_ruleKept, .ref a_isThere, .ref a_sorts, .ref a_sheetSize, .ref a_items])), (a_tape, .inl (vxT x 0, 160, .inl s_tape))]) rfl (by decide) (Nat.le_of_ble_eq_true rfl) rfl dX7_feed_6 ?_
  refine v_if_ne X (tgt := 15) hf (by decide) dX7_feed_9 (fun c9 hf => ?_) (fun c9 hf => ?_)
  · refine v_aload_n X 0 rfl dX7_feed_15 ?_
    refine v_get X xinX7 0 rfl rfl 6 (by decide) wd132 rfl rfl dX7_feed_16 ?_
    refine v_sipush X (v := 160) (by decide) dX7_feed_19 ?_
    refine v_icmp_ne X (tgt := 28) hf (by decide) dX7_feed_22 (fun c22 hf => ?_) (fun c22 hf => ?_)
    · refine v_aload_n X 0 rfl dX7_feed_28 ?_
      refine v_get X xinX7 0 rfl rfl 5 (by decide) wd133 rfl rfl dX7_feed_29 ?_
      refine v_aload_n X 0 rfl dX7_feed_32 ?_
      refine v_get X xinX7 0 rfl rfl 6 (by decide) wd132 rfl rfl dX7_feed_33 ?_
      refine v_iload_n X 1 rfl dX7_feed_36 ?_
      refine v_iast X 1 rfl hf (ws' := [(a0, .inr (7, [.int s_thrown, .ref a_texts, .ref a_textSize, .int s_textCount, .int s_rule, .ref a_tape, .int s_taped, .ref a_room, .ref a_kinds, .ref a_rows, .int s_many, .int s_ofSide, .int s_ofLamp, .int s_ofStove, .int s_ofNumber, .int s_ofPose, .int s_ofNear, .int s_from, .int s_size, .int s_here, .int s_token, .int s_tokenAt, .long s_tokenWorth, .int s_open, .int s_bad, .int s_fault, .ref a_now, .ref a_gained, .ref a_rowsWas, .int s_faceWas, .int s_poseWas, .ref a_roomKept, .ref a_rowsKept, .int s_manyKept, .int s_ruleKept, .ref a_isThere, .ref a_sorts, .ref a_sheetSize, .ref a_items])), (a_tape, .inl (vxT x 0, 160, .inl (upd s_tape (Int32.toNatClampNeg s_taped) l1)))]) rfl dX7_feed_37 (fun h37 hf => ?_)
      refine v_aload_n X 0 rfl dX7_feed_38 ?_
      refine v_dup X rfl dX7_feed_39 ?_
      refine v_get X xinX7 0 rfl rfl 6 (by decide) wd132 rfl rfl dX7_feed_40 ?_
      refine v_iconst X (v := 1) (by decide) dX7_feed_43 ?_
      refine v_iadd X dX7_feed_44 ?_
      refine v_put X xinX7 tyX7 tyX7_ok nmX7 0 rfl rfl 6 (by decide) wd132 rfl rfl rfl rfl rfl (Nat.le_of_ble_eq_true rfl) (ws' := [(a0, .inr (7, [.int s_thrown, .ref a_texts, .ref a_textSize, .int s_textCount, .int s_rule, .ref a_tape, .int (s_taped + 1), .ref a_room, .ref a_kinds, .ref a_rows, .int s_many, .int s_ofSide, .int s_ofLamp, .int s_ofStove, .int s_ofNumber, .int s_ofPose, .int s_ofNear, .int s_from, .int s_size, .int s_here, .int s_token, .int s_tokenAt, .long s_tokenWorth, .int s_open, .int s_bad, .int s_fault, .ref a_now, .ref a_gained, .ref a_rowsWas, .int s_faceWas, .int s_poseWas, .ref a_roomKept, .ref a_rowsKept, .int s_manyKept, .int s_ruleKept, .ref a_isThere, .ref a_sorts, .ref a_sheetSize, .ref a_items])), (a_tape, .inl (vxT x 0, 160, .inl (upd s_tape (Int32.toNatClampNeg s_taped) l1)))]) rfl dX7_feed_45 ?_
      refine v_aload_n X 0 rfl dX7_feed_48 ?_
      refine v_get X xinX7 0 rfl rfl 6 (by decide) wd132 rfl rfl dX7_feed_49 ?_
      obtain rfl := Option.some.inj hf
      exact v_iret hR dX7_feed_52
    · refine v_bipush X (v := (-4)) (by decide) dX7_feed_25 ?_
      obtain rfl := Option.some.inj hf
      exact v_iret hR dX7_feed_27
  · refine v_bipush X (v := (-2)) (by decide) dX7_feed_12 ?_
    obtain rfl := Option.some.inj hf
    exact v_iret hR dX7_feed_14
set_option maxRecDepth 100000 in
set_option maxHeartbeats 4000000 in
theorem c_X7_feed {l : Launch} {D : va_G} {qT : Nat → ClassId} {Z : (Nat → Prop) → State → Heap → Prop} {r : Int32 × Int32 × (Nat → Int32)} {a0 : Nat} {a_tape : Nat} {a_texts : Nat} {a_textSize : Nat} {a_room : Nat} {a_kinds : Nat} {a_rows : Nat} {a_now : Nat} {a_gained : Nat} {a_rowsWas : Nat} {a_roomKept : Nat} {a_rowsKept : Nat} {a_isThere : Nat} {a_sorts : Nat} {a_sheetSize : Nat} {a_items : Nat} {s_thrown : Int32} {s_textCount : Int32} {s_rule : Int32} {s_taped : Int32} {s_many : Int32} {s_ofSide : Int32} {s_ofLamp : Int32} {s_ofStove : Int32} {s_ofNumber : Int32} {s_ofPose : Int32} {s_ofNear : Int32} {s_from : Int32} {s_size : Int32} {s_here : Int32} {s_token : Int32} {s_tokenAt : Int32} {s_tokenWorth : Int64} {s_open : Int32} {s_bad : Int32} {s_fault : Int32} {s_faceWas : Int32} {s_poseWas : Int32} {s_manyKept : Int32} {s_ruleKept : Int32} {s_tape : Nat → Int32} {l1 : Int32} (hZ : ZOK Z) (hf : f_X7_feed l1 s_taped s_tape = some r) :
    CI l D qT Z yX7_feed cX7_feed 2 (some .int) 2 0 0 [.ref a0, .int l1] [(a0, .inr (7, [.int s_thrown, .ref a_texts, .ref a_textSize, .int s_textCount, .int s_rule, .ref a_tape, .int s_taped, .ref a_room, .ref a_kinds, .ref a_rows, .int s_many, .int s_ofSide, .int s_ofLamp, .int s_ofStove, .int s_ofNumber, .int s_ofPose, .int s_ofNear, .int s_from, .int s_size, .int s_here, .int s_token, .int s_tokenAt, .long s_tokenWorth, .int s_open, .int s_bad, .int s_fault, .ref a_now, .ref a_gained, .ref a_rowsWas, .int s_faceWas, .int s_poseWas, .ref a_roomKept, .ref a_rowsKept, .int s_manyKept, .int s_ruleKept, .ref a_isThere, .ref a_sorts, .ref a_sheetSize, .ref a_items])), (a_tape, .inl (qT 0, 160, .inl s_tape))] r.1 [(a0, .inr (7, [.int s_thrown, .ref a_texts, .ref a_textSize, .int s_textCount, .int s_rule, .ref a_tape, .int r.2.1, .ref a_room, .ref a_kinds, .ref a_rows, .int s_many, .int s_ofSide, .int s_ofLamp, .int s_ofStove, .int s_ofNumber, .int s_ofPose, .int s_ofNear, .int s_from, .int s_size, .int s_here, .int s_token, .int s_tokenAt, .long s_tokenWorth, .int s_open, .int s_bad, .int s_fault, .ref a_now, .ref a_gained, .ref a_rowsWas, .int s_faceWas, .int s_poseWas, .ref a_roomKept, .ref a_rowsKept, .int s_manyKept, .int s_ruleKept, .ref a_isThere, .ref a_sorts, .ref a_sheetSize, .ref a_items])), (a_tape, .inl (qT 0, 160, .inl r.2.2))] := by
  refine CI_of hZ (by decide) (Nat.le_of_ble_eq_true rfl) ?_
  intro x e1 e2 e3 e4 e5 e6 hin X hR
  subst e1 e2 e3 e4
  exact t_X7_feed X e6 hR hf
def f_X7_byteAt (l1 : Int32) (s_from : Int32) (s_size : Int32) (s_texts : Nat → Int32) : Option (Int32) :=
  if s_size ≤ l1 then (
  some (-1)) else (
  if inb (s_from + l1) 960 = true then (
  some (s_texts (Int32.toNatClampNeg (s_from + l1)))) else none)
set_option maxRecDepth 100000 in
set_option maxHeartbeats 4000000 in
theorem t_X7_byteAt {x : VX} {r : Int32} {a0 : Nat} {a_texts : Nat} {a_textSize : Nat} {a_tape : Nat} {a_room : Nat} {a_kinds : Nat} {a_rows : Nat} {a_now : Nat} {a_gained : Nat} {a_rowsWas : Nat} {a_roomKept : Nat} {a_rowsKept : Nat} {a_isThere : Nat} {a_sorts : Nat} {a_sheetSize : Nat} {a_items : Nat} {s_thrown : Int32} {s_textCount : Int32} {s_rule : Int32} {s_taped : Int32} {s_many : Int32} {s_ofSide : Int32} {s_ofLamp : Int32} {s_ofStove : Int32} {s_ofNumber : Int32} {s_ofPose : Int32} {s_ofNear : Int32} {s_from : Int32} {s_size : Int32} {s_here : Int32} {s_token : Int32} {s_tokenAt : Int32} {s_tokenWorth : Int64} {s_open : Int32} {s_bad : Int32} {s_fault : Int32} {s_faceWas : Int32} {s_poseWas : Int32} {s_manyKept : Int32} {s_ruleKept : Int32} {s_texts : Nat → Int32} {l1 : Int32} (X : Cx x cX7_byteAt RX7 1) (hN : vxn x = 2) (hR : RetI x cX7_byteAt 0 0 r [(a0, .inr (7, [.int s_thrown, .ref a_texts, .ref a_textSize, .int s_textCount, .int s_rule, .ref a_tape, .int s_taped, .ref a_room, .ref a_kinds, .ref a_rows, .int s_many, .int s_ofSide, .int s_ofLamp, .int s_ofStove, .int s_ofNumber, .int s_ofPose, .int s_ofNear, .int s_from, .int s_size, .int s_here, .int s_token, .int s_tokenAt, .long s_tokenWorth, .int s_open, .int s_bad, .int s_fault, .ref a_now, .ref a_gained, .ref a_rowsWas, .int s_faceWas, .int s_poseWas, .ref a_roomKept, .ref a_rowsKept, .int s_manyKept, .int s_ruleKept, .ref a_isThere, .ref a_sorts, .ref a_sheetSize, .ref a_items])), (a_texts, .inl (vxT x 0, 960, .inl s_texts))]) (hf : f_X7_byteAt l1 s_from s_size s_texts = some r) : V x 0 0 [(a0, .inr (7, [.int s_thrown, .ref a_texts, .ref a_textSize, .int s_textCount, .int s_rule, .ref a_tape, .int s_taped, .ref a_room, .ref a_kinds, .ref a_rows, .int s_many, .int s_ofSide, .int s_ofLamp, .int s_ofStove, .int s_ofNumber, .int s_ofPose, .int s_ofNear, .int s_from, .int s_size, .int s_here, .int s_token, .int s_tokenAt, .long s_tokenWorth, .int s_open, .int s_bad, .int s_fault, .ref a_now, .ref a_gained, .ref a_rowsWas, .int s_faceWas, .int s_poseWas, .ref a_roomKept, .ref a_rowsKept, .int s_manyKept, .int s_ruleKept, .ref a_isThere, .ref a_sorts, .ref a_sheetSize, .ref a_items])), (a_texts, .inl (vxT x 0, 960, .inl s_texts))] [(0, .ref a0), (1, .int l1)] 0 [] := by
  unfold f_X7_byteAt at hf
  refine v_iload_n X 1 rfl dX7_byteAt_0 ?_
  refine v_aload_n X 0 rfl dX7_byteAt_1 ?_
  refine v_get X xinX7 0 rfl rfl 18 (by decide) wd134 rfl rfl dX7_byteAt_2 ?_
  refine v_icmp_ge X (tgt := 22) hf (by decide) dX7_byteAt_5 (fun c5 hf => ?_) (fun c5 hf => ?_)
  · refine v_iconst X (v := (-1)) (by decide) dX7_byteAt_22 ?_
    obtain rfl := Option.some.inj hf
    exact v_iret hR dX7_byteAt_23
  · refine v_aload_n X 0 rfl dX7_byteAt_8 ?_
    refine v_get X xinX7 0 rfl rfl 1 (by decide) wd106 rfl rfl dX7_byteAt_9 ?_
    refine v_aload_n X 0 rfl dX7_byteAt_12 ?_
    refine v_get X xinX7 0 rfl rfl 17 (by decide) wd135 rfl rfl dX7_byteAt_13 ?_
    refine v_iload_n X 1 rfl dX7_byteAt_16 ?_
    refine v_iadd X dX7_byteAt_17 ?_
    refine v_iald X 1 rfl hf dX7_byteAt_18 (fun h18 hf => ?_)
    refine v_goto X (tgt := 23) (by decide) dX7_byteAt_19 ?_
    obtain rfl := Option.some.inj hf
    exact v_iret hR dX7_byteAt_23
set_option maxRecDepth 100000 in
set_option maxHeartbeats 4000000 in
theorem c_X7_byteAt {l : Launch} {D : va_G} {qT : Nat → ClassId} {Z : (Nat → Prop) → State → Heap → Prop} {r : Int32} {a0 : Nat} {a_texts : Nat} {a_textSize : Nat} {a_tape : Nat} {a_room : Nat} {a_kinds : Nat} {a_rows : Nat} {a_now : Nat} {a_gained : Nat} {a_rowsWas : Nat} {a_roomKept : Nat} {a_rowsKept : Nat} {a_isThere : Nat} {a_sorts : Nat} {a_sheetSize : Nat} {a_items : Nat} {s_thrown : Int32} {s_textCount : Int32} {s_rule : Int32} {s_taped : Int32} {s_many : Int32} {s_ofSide : Int32} {s_ofLamp : Int32} {s_ofStove : Int32} {s_ofNumber : Int32} {s_ofPose : Int32} {s_ofNear : Int32} {s_from : Int32} {s_size : Int32} {s_here : Int32} {s_token : Int32} {s_tokenAt : Int32} {s_tokenWorth : Int64} {s_open : Int32} {s_bad : Int32} {s_fault : Int32} {s_faceWas : Int32} {s_poseWas : Int32} {s_manyKept : Int32} {s_ruleKept : Int32} {s_texts : Nat → Int32} {l1 : Int32} (hZ : ZOK Z) (hf : f_X7_byteAt l1 s_from s_size s_texts = some r) :
    CI l D qT Z yX7_byteAt cX7_byteAt 2 (some .int) 1 0 0 [.ref a0, .int l1] [(a0, .inr (7, [.int s_thrown, .ref a_texts, .ref a_textSize, .int s_textCount, .int s_rule, .ref a_tape, .int s_taped, .ref a_room, .ref a_kinds, .ref a_rows, .int s_many, .int s_ofSide, .int s_ofLamp, .int s_ofStove, .int s_ofNumber, .int s_ofPose, .int s_ofNear, .int s_from, .int s_size, .int s_here, .int s_token, .int s_tokenAt, .long s_tokenWorth, .int s_open, .int s_bad, .int s_fault, .ref a_now, .ref a_gained, .ref a_rowsWas, .int s_faceWas, .int s_poseWas, .ref a_roomKept, .ref a_rowsKept, .int s_manyKept, .int s_ruleKept, .ref a_isThere, .ref a_sorts, .ref a_sheetSize, .ref a_items])), (a_texts, .inl (qT 0, 960, .inl s_texts))] r [(a0, .inr (7, [.int s_thrown, .ref a_texts, .ref a_textSize, .int s_textCount, .int s_rule, .ref a_tape, .int s_taped, .ref a_room, .ref a_kinds, .ref a_rows, .int s_many, .int s_ofSide, .int s_ofLamp, .int s_ofStove, .int s_ofNumber, .int s_ofPose, .int s_ofNear, .int s_from, .int s_size, .int s_here, .int s_token, .int s_tokenAt, .long s_tokenWorth, .int s_open, .int s_bad, .int s_fault, .ref a_now, .ref a_gained, .ref a_rowsWas, .int s_faceWas, .int s_poseWas, .ref a_roomKept, .ref a_rowsKept, .int s_manyKept, .int s_ruleKept, .ref a_isThere, .ref a_sorts, .ref a_sheetSize, .ref a_items])), (a_texts, .inl (qT 0, 960, .inl s_texts))] := by
  refine CI_of hZ (by decide) (Nat.le_of_ble_eq_true rfl) ?_
  intro x e1 e2 e3 e4 e5 e6 hin X hR
  subst e1 e2 e3 e4
  exact t_X7_byteAt X e6 hR hf
def f_X7_next_300 (s_here : Int32) (s_tokenAt : Int32) (l1 : Int32) : Option (Int32 × Int32 × Int32 × Int64) :=
  some ((s_here + 1), 3, s_tokenAt, (Int32.toInt64 l1))
def f_X7_next_160 (s_from : Int32) (s_size : Int32) (s_tokenAt : Int32) (s_texts : Nat → Int32) (kp_160 : Int32 → Int32 → Int64 → Option (Int32 × Int32 × Int32 × Int64)) (l2 : Int32) (s_here : Int32) (s_tokenWorth : Int64) : Option (Int32 × Int32 × Int32 × Int64) :=
  (f_X7_byteAt s_here s_from s_size s_texts).bind (fun v165_6 =>
  (f_X7_in (Int32.toInt64 v165_6) 48 57).bind (fun v175_7 =>
  if v175_7 = 0 then (
  if l2 ≤ 4 then (
  some (s_here, 2, s_tokenAt, s_tokenWorth)) else (
  some (s_here, 4, s_tokenAt, s_tokenWorth))) else (
  if 4 ≤ l2 then (
  kp_160 (l2 + 1) (s_here + 1) s_tokenWorth) else (
  (f_X7_byteAt s_here s_from s_size s_texts).bind (fun v200_8 =>
  kp_160 (l2 + 1) (s_here + 1) (((10 * s_tokenWorth) + (Int32.toInt64 v200_8)) - 48))))))
def f_X7_next_100 (s_from : Int32) (s_size : Int32) (s_token : Int32) (s_tokenAt : Int32) (s_tokenWorth : Int64) (s_texts : Nat → Int32) (kp_100 : Int32 → Option (Int32 × Int32 × Int32 × Int64)) (s_here : Int32) : Option (Int32 × Int32 × Int32 × Int64) :=
  (f_X7_byteAt s_here s_from s_size s_texts).bind (fun v105_9 =>
  (f_X7_in (Int32.toInt64 v105_9) 97 122).bind (fun v115_10 =>
  if v115_10 = 0 then (
  some (s_here, s_token, s_tokenAt, s_tokenWorth)) else (
  kp_100 (s_here + 1))))
def f_X7_next_0 (s_from : Int32) (s_size : Int32) (s_tokenWorth : Int64) (s_texts : Nat → Int32) (kp_0 : Int32 → Option (Int32 × Int32 × Int32 × Int64)) (s_here : Int32) : Option (Int32 × Int32 × Int32 × Int64) :=
  (f_X7_byteAt s_here s_from s_size s_texts).bind (fun v5_1 =>
  if v5_1 = 32 then (
  kp_0 (s_here + 1)) else (
  (f_X7_byteAt s_here s_from s_size s_texts).bind (fun v18_2 =>
  if v18_2 = 10 then (
  kp_0 (s_here + 1)) else (
  (f_X7_byteAt s_here s_from s_size s_texts).bind (fun v52_3 =>
  if 0 ≤ v52_3 then (
  (f_X7_in (Int32.toInt64 v52_3) 97 122).bind (fun v89_4 =>
  if v89_4 = 0 then (
  (f_X7_in (Int32.toInt64 v52_3) 48 57).bind (fun v142_5 =>
  if v142_5 = 0 then (
  if v52_3 = 40 then (
  f_X7_next_300 s_here s_here v52_3) else (
  if v52_3 = 41 then (
  f_X7_next_300 s_here s_here v52_3) else (
  if v52_3 = 59 then (
  f_X7_next_300 s_here s_here v52_3) else (
  if v52_3 = 43 then (
  f_X7_next_300 s_here s_here v52_3) else (
  if v52_3 = 45 then (
  f_X7_next_300 s_here s_here v52_3) else (
  if v52_3 = 42 then (
  f_X7_next_300 s_here s_here v52_3) else (
  if v52_3 = 60 then (
  f_X7_next_300 s_here s_here v52_3) else (
  if v52_3 = 61 then (
  f_X7_next_300 s_here s_here v52_3) else (
  some (s_here, 4, s_here, s_tokenWorth)))))))))) else (
  lq3 (f_X7_next_160 s_from s_size s_here s_texts) 200 0 s_here 0))) else (
  lq1 (f_X7_next_100 s_from s_size 1 s_here s_tokenWorth s_texts) 200 s_here))) else (
  some (s_here, 0, s_size, s_tokenWorth)))))))
def f_X7_next (s_from : Int32) (s_size : Int32) (s_here : Int32) (s_tokenWorth : Int64) (s_texts : Nat → Int32) : Option (Int32 × Int32 × Int32 × Int64) :=
  lq1 (f_X7_next_0 s_from s_size s_tokenWorth s_texts) 200 s_here
set_option maxRecDepth 100000 in
set_option maxHeartbeats 4000000 in
theorem t_X7_next_300 {x : VX} {r : Int32 × Int32 × Int32 × Int64} {a0 : Nat} {a_texts : Nat} {a_textSize : Nat} {a_tape : Nat} {a_room : Nat} {a_kinds : Nat} {a_rows : Nat} {a_now : Nat} {a_gained : Nat} {a_rowsWas : Nat} {a_roomKept : Nat} {a_rowsKept : Nat} {a_isThere : Nat} {a_sorts : Nat} {a_sheetSize : Nat} {a_items : Nat} {s_thrown : Int32} {s_textCount : Int32} {s_rule : Int32} {s_taped : Int32} {s_many : Int32} {s_ofSide : Int32} {s_ofLamp : Int32} {s_ofStove : Int32} {s_ofNumber : Int32} {s_ofPose : Int32} {s_ofNear : Int32} {s_from : Int32} {s_size : Int32} {s_here : Int32} {s_token : Int32} {s_tokenAt : Int32} {s_tokenWorth : Int64} {s_open : Int32} {s_bad : Int32} {s_fault : Int32} {s_faceWas : Int32} {s_poseWas : Int32} {s_manyKept : Int32} {s_ruleKept : Int32} {s_texts : Nat → Int32} {l1 : Int32} (X : Cx x cX7_next RX7 2) (hN : vxn x = 3) (hR : RetV x cX7_next 0 0 [(a0, .inr (7, [.int s_thrown, .ref a_texts, .ref a_textSize, .int s_textCount, .int s_rule, .ref a_tape, .int s_taped, .ref a_room, .ref a_kinds, .ref a_rows, .int s_many, .int s_ofSide, .int s_ofLamp, .int s_ofStove, .int s_ofNumber, .int s_ofPose, .int s_ofNear, .int s_from, .int s_size, .int r.1, .int r.2.1, .int r.2.2.1, .long r.2.2.2, .int s_open, .int s_bad, .int s_fault, .ref a_now, .ref a_gained, .ref a_rowsWas, .int s_faceWas, .int s_poseWas, .ref a_roomKept, .ref a_rowsKept, .int s_manyKept, .int s_ruleKept, .ref a_isThere, .ref a_sorts, .ref a_sheetSize, .ref a_items])), (a_texts, .inl (vxT x 0, 960, .inl s_texts))]) (hf : f_X7_next_300 s_here s_tokenAt l1 = some r) : V x 0 0 [(a0, .inr (7, [.int s_thrown, .ref a_texts, .ref a_textSize, .int s_textCount, .int s_rule, .ref a_tape, .int s_taped, .ref a_room, .ref a_kinds, .ref a_rows, .int s_many, .int s_ofSide, .int s_ofLamp, .int s_ofStove, .int s_ofNumber, .int s_ofPose, .int s_ofNear, .int s_from, .int s_size, .int s_here, .int s_token, .int s_tokenAt, .long s_tokenWorth, .int s_open, .int s_bad, .int s_fault, .ref a_now, .ref a_gained, .ref a_rowsWas, .int s_faceWas, .int s_poseWas, .ref a_roomKept, .ref a_rowsKept, .int s_manyKept, .int s_ruleKept, .ref a_isThere, .ref a_sorts, .ref a_sheetSize, .ref a_items])), (a_texts, .inl (vxT x 0, 960, .inl s_texts))] [(0, .ref a0), (1, .int l1)] 300 [] := by
  unfold f_X7_next_300 at hf
  refine v_aload_n X 0 rfl dX7_next_300 ?_
  refine v_iconst X (v := 3) (by decide) dX7_next_301 ?_
  refine v_put X xinX7 tyX7 tyX7_ok nmX7 0 rfl rfl 20 (by decide) wd142 rfl rfl rfl rfl rfl (Nat.le_of_ble_eq_true rfl) (ws' := [(a0, .inr (7, [.int s_thrown, .ref a_texts, .ref a_textSize, .int s_textCount, .int s_rule, .ref a_tape, .int s_taped, .ref a_room, .ref a_kinds, .ref a_rows, .int s_many, .int s_ofSide, .int s_ofLamp, .int s_ofStove, .int s_ofNumber, .int s_ofPose, .int s_ofNear, .int s_from, .int s_size, .int s_here, .int 3, .int s_tokenAt, .long s_tokenWorth, .int s_open, .int s_bad, .int s_fault, .ref a_now, .ref a_gained, .ref a_rowsWas, .int s_faceWas, .int s_poseWas, .ref a_roomKept, .ref a_rowsKept, .int s_manyKept, .int s_ruleKept, .ref a_isThere, .ref a_sorts, .ref a_sheetSize, .ref a_items])), (a_texts, .inl (vxT x 0, 960, .inl s_texts))]) rfl dX7_next_302 ?_
  refine v_aload_n X 0 rfl dX7_next_305 ?_
  refine v_iload_n X 1 rfl dX7_next_306 ?_
  refine v_i2l X dX7_next_307 ?_
  refine v_put X xinX7 tyX7 tyX7_ok nmX7 0 rfl rfl 22 (by decide) wd147 rfl rfl rfl rfl rfl (Nat.le_of_ble_eq_true rfl) (ws' := [(a0, .inr (7, [.int s_thrown, .ref a_texts, .ref a_textSize, .int s_textCount, .int s_rule, .ref a_tape, .int s_taped, .ref a_room, .ref a_kinds, .ref a_rows, .int s_many, .int s_ofSide, .int s_ofLamp, .int s_ofStove, .int s_ofNumber, .int s_ofPose, .int s_ofNear, .int s_from, .int s_size, .int s_here, .int 3, .int s_tokenAt, .long (Int32.toInt64 l1), .int s_open, .int s_bad, .int s_fault, .ref a_now, .ref a_gained, .ref a_rowsWas, .int s_faceWas, .int s_poseWas, .ref a_roomKept, .ref a_rowsKept, .int s_manyKept, .int s_ruleKept, .ref a_isThere, .ref a_sorts, .ref a_sheetSize, .ref a_items])), (a_texts, .inl (vxT x 0, 960, .inl s_texts))]) rfl dX7_next_308 ?_
  refine v_aload_n X 0 rfl dX7_next_311 ?_
  refine v_dup X rfl dX7_next_312 ?_
  refine v_get X xinX7 0 rfl rfl 19 (by decide) wd136 rfl rfl dX7_next_313 ?_
  refine v_iconst X (v := 1) (by decide) dX7_next_316 ?_
  refine v_iadd X dX7_next_317 ?_
  refine v_put X xinX7 tyX7 tyX7_ok nmX7 0 rfl rfl 19 (by decide) wd136 rfl rfl rfl rfl rfl (Nat.le_of_ble_eq_true rfl) (ws' := [(a0, .inr (7, [.int s_thrown, .ref a_texts, .ref a_textSize, .int s_textCount, .int s_rule, .ref a_tape, .int s_taped, .ref a_room, .ref a_kinds, .ref a_rows, .int s_many, .int s_ofSide, .int s_ofLamp, .int s_ofStove, .int s_ofNumber, .int s_ofPose, .int s_ofNear, .int s_from, .int s_size, .int (s_here + 1), .int 3, .int s_tokenAt, .long (Int32.toInt64 l1), .int s_open, .int s_bad, .int s_fault, .ref a_now, .ref a_gained, .ref a_rowsWas, .int s_faceWas, .int s_poseWas, .ref a_roomKept, .ref a_rowsKept, .int s_manyKept, .int s_ruleKept, .ref a_isThere, .ref a_sorts, .ref a_sheetSize, .ref a_items])), (a_texts, .inl (vxT x 0, 960, .inl s_texts))]) rfl dX7_next_318 ?_
  obtain rfl := Option.some.inj hf
  exact v_vret hR dX7_next_321
set_option maxRecDepth 100000 in
set_option maxHeartbeats 4000000 in
theorem t_X7_next_160 {x : VX} {r : Int32 × Int32 × Int32 × Int64} {a0 : Nat} {a_texts : Nat} {a_textSize : Nat} {a_tape : Nat} {a_room : Nat} {a_kinds : Nat} {a_rows : Nat} {a_now : Nat} {a_gained : Nat} {a_rowsWas : Nat} {a_roomKept : Nat} {a_rowsKept : Nat} {a_isThere : Nat} {a_sorts : Nat} {a_sheetSize : Nat} {a_items : Nat} {s_thrown : Int32} {s_textCount : Int32} {s_rule : Int32} {s_taped : Int32} {s_many : Int32} {s_ofSide : Int32} {s_ofLamp : Int32} {s_ofStove : Int32} {s_ofNumber : Int32} {s_ofPose : Int32} {s_ofNear : Int32} {s_from : Int32} {s_size : Int32} {s_token : Int32} {s_tokenAt : Int32} {s_open : Int32} {s_bad : Int32} {s_fault : Int32} {s_faceWas : Int32} {s_poseWas : Int32} {s_manyKept : Int32} {s_ruleKept : Int32} {s_texts : Nat → Int32} (X : Cx x cX7_next RX7 2) (hN : vxn x = 3) (hR : RetV x cX7_next 0 0 [(a0, .inr (7, [.int s_thrown, .ref a_texts, .ref a_textSize, .int s_textCount, .int s_rule, .ref a_tape, .int s_taped, .ref a_room, .ref a_kinds, .ref a_rows, .int s_many, .int s_ofSide, .int s_ofLamp, .int s_ofStove, .int s_ofNumber, .int s_ofPose, .int s_ofNear, .int s_from, .int s_size, .int r.1, .int r.2.1, .int r.2.2.1, .long r.2.2.2, .int s_open, .int s_bad, .int s_fault, .ref a_now, .ref a_gained, .ref a_rowsWas, .int s_faceWas, .int s_poseWas, .ref a_roomKept, .ref a_rowsKept, .int s_manyKept, .int s_ruleKept, .ref a_isThere, .ref a_sorts, .ref a_sheetSize, .ref a_items])), (a_texts, .inl (vxT x 0, 960, .inl s_texts))]) :
    ∀ (fu : Nat) (l2 : Int32) (s_here : Int32) (s_tokenWorth : Int64), lq3 (f_X7_next_160 s_from s_size s_tokenAt s_texts) fu l2 s_here s_tokenWorth = some r → V x 0 0 [(a0, .inr (7, [.int s_thrown, .ref a_texts, .ref a_textSize, .int s_textCount, .int s_rule, .ref a_tape, .int s_taped, .ref a_room, .ref a_kinds, .ref a_rows, .int s_many, .int s_ofSide, .int s_ofLamp, .int s_ofStove, .int s_ofNumber, .int s_ofPose, .int s_ofNear, .int s_from, .int s_size, .int s_here, .int s_token, .int s_tokenAt, .long s_tokenWorth, .int s_open, .int s_bad, .int s_fault, .ref a_now, .ref a_gained, .ref a_rowsWas, .int s_faceWas, .int s_poseWas, .ref a_roomKept, .ref a_rowsKept, .int s_manyKept, .int s_ruleKept, .ref a_isThere, .ref a_sorts, .ref a_sheetSize, .ref a_items])), (a_texts, .inl (vxT x 0, 960, .inl s_texts))] [(0, .ref a0), (2, .int l2)] 160 [] := by
  refine lq3_V (G := fun l2 s_here s_tokenWorth => V x 0 0 [(a0, .inr (7, [.int s_thrown, .ref a_texts, .ref a_textSize, .int s_textCount, .int s_rule, .ref a_tape, .int s_taped, .ref a_room, .ref a_kinds, .ref a_rows, .int s_many, .int s_ofSide, .int s_ofLamp, .int s_ofStove, .int s_ofNumber, .int s_ofPose, .int s_ofNear, .int s_from, .int s_size, .int s_here, .int s_token, .int s_tokenAt, .long s_tokenWorth, .int s_open, .int s_bad, .int s_fault, .ref a_now, .ref a_gained, .ref a_rowsWas, .int s_faceWas, .int s_poseWas, .ref a_roomKept, .ref a_rowsKept, .int s_manyKept, .int s_ruleKept, .ref a_isThere, .ref a_sorts, .ref a_sheetSize, .ref a_items])), (a_texts, .inl (vxT x 0, 960, .inl s_texts))] [(0, .ref a0), (2, .int l2)] 160 []) ?_
  intro kp_160 hk_160 l2 s_here s_tokenWorth hf
  unfold f_X7_next_160 at hf
  refine v_aload_n X 0 rfl dX7_next_160 ?_
  refine v_aload_n X 0 rfl dX7_next_161 ?_
  refine v_get X xinX7 0 rfl rfl 19 (by decide) wd136 rfl rfl dX7_next_162 ?_
  obtain ⟨v165_6, hv165_6, hf⟩ := bd_some hf
  refine v_callI X (c_X7_byteAt X.2.2.2.2.2.2.2.1 hv165_6) cwv_X7_150 rfl (by decide) ⟨Nat.zero_le _, Nat.zero_le _⟩ 0 rfl rfl [0, 1] [] [0, 1] rfl (by decide) (wr := []) rfl (by decide) (by decide) (ws2 := [(a0, .inr (7, [.int s_thrown, .ref a_texts, .ref a_textSize, .int s_textCount, .int s_rule, .ref a_tape, .int s_taped, .ref a_room, .ref a_kinds, .ref a_rows, .int s_many, .int s_ofSide, .int s_ofLamp, .int s_ofStove, .int s_ofNumber, .int s_ofPose, .int s_ofNear, .int s_from, .int s_size, .int s_here, .int s_token, .int s_tokenAt, .long s_tokenWorth, .int s_open, .int s_bad, .int s_fault, .ref a_now, .ref a_gained, .ref a_rowsWas, .int s_faceWas, .int s_poseWas, .ref a_roomKept, .ref a_rowsKept, .int s_manyKept, .int s_ruleKept, .ref a_isThere, .ref a_sorts, .ref a_sheetSize, .ref a_items])), (a_texts, .inl (vxT x 0, 960, .inl s_texts))]) rfl (by decide) (Nat.le_of_ble_eq_true rfl) rfl dX7_next_165 ?_
  refine v_i2l X dX7_next_168 ?_
  refine v_ldc2 X wd145 dX7_next_169 ?_
  refine v_ldc2 X wd146 dX7_next_172 ?_
  obtain ⟨v175_7, hv175_7, hf⟩ := bd_some hf
  refine v_scallI X (c_X7_in X.2.2.2.2.2.2.2.1 hv175_7) cws_X7_73 rfl (by decide) ⟨Nat.zero_le _, Nat.zero_le _⟩ [] [0, 1] [0, 1] rfl (by decide) (wr := [(a0, .inr (7, [.int s_thrown, .ref a_texts, .ref a_textSize, .int s_textCount, .int s_rule, .ref a_tape, .int s_taped, .ref a_room, .ref a_kinds, .ref a_rows, .int s_many, .int s_ofSide, .int s_ofLamp, .int s_ofStove, .int s_ofNumber, .int s_ofPose, .int s_ofNear, .int s_from, .int s_size, .int s_here, .int s_token, .int s_tokenAt, .long s_tokenWorth, .int s_open, .int s_bad, .int s_fault, .ref a_now, .ref a_gained, .ref a_rowsWas, .int s_faceWas, .int s_poseWas, .ref a_roomKept, .ref a_rowsKept, .int s_manyKept, .int s_ruleKept, .ref a_isThere, .ref a_sorts, .ref a_sheetSize, .ref a_items])), (a_texts, .inl (vxT x 0, 960, .inl s_texts))]) rfl (by decide) (by decide) (ws2 := [(a0, .inr (7, [.int s_thrown, .ref a_texts, .ref a_textSize, .int s_textCount, .int s_rule, .ref a_tape, .int s_taped, .ref a_room, .ref a_kinds, .ref a_rows, .int s_many, .int s_ofSide, .int s_ofLamp, .int s_ofStove, .int s_ofNumber, .int s_ofPose, .int s_ofNear, .int s_from, .int s_size, .int s_here, .int s_token, .int s_tokenAt, .long s_tokenWorth, .int s_open, .int s_bad, .int s_fault, .ref a_now, .ref a_gained, .ref a_rowsWas, .int s_faceWas, .int s_poseWas, .ref a_roomKept, .ref a_rowsKept, .int s_manyKept, .int s_ruleKept, .ref a_isThere, .ref a_sorts, .ref a_sheetSize, .ref a_items])), (a_texts, .inl (vxT x 0, 960, .inl s_texts))]) rfl (by decide) (Nat.le_of_ble_eq_true rfl) rfl dX7_next_175 ?_
  refine v_if_eq X (tgt := 235) hf (by decide) dX7_next_178 (fun c178 hf => ?_) (fun c178 hf => ?_)
  · refine v_aload_n X 0 rfl dX7_next_235 ?_
    refine v_iload_n X 1 rfl dX7_next_236 ?_
    refine v_iconst X (v := 4) (by decide) dX7_next_237 ?_
    refine v_icmp_le X (tgt := 245) hf (by decide) dX7_next_238 (fun c238 hf => ?_) (fun c238 hf => ?_)
    · refine v_iconst X (v := 2) (by decide) dX7_next_245 ?_
      refine v_put X xinX7 tyX7 tyX7_ok nmX7 0 rfl rfl 20 (by decide) wd142 rfl rfl rfl rfl rfl (Nat.le_of_ble_eq_true rfl) (ws' := [(a0, .inr (7, [.int s_thrown, .ref a_texts, .ref a_textSize, .int s_textCount, .int s_rule, .ref a_tape, .int s_taped, .ref a_room, .ref a_kinds, .ref a_rows, .int s_many, .int s_ofSide, .int s_ofLamp, .int s_ofStove, .int s_ofNumber, .int s_ofPose, .int s_ofNear, .int s_from, .int s_size, .int s_here, .int 2, .int s_tokenAt, .long s_tokenWorth, .int s_open, .int s_bad, .int s_fault, .ref a_now, .ref a_gained, .ref a_rowsWas, .int s_faceWas, .int s_poseWas, .ref a_roomKept, .ref a_rowsKept, .int s_manyKept, .int s_ruleKept, .ref a_isThere, .ref a_sorts, .ref a_sheetSize, .ref a_items])), (a_texts, .inl (vxT x 0, 960, .inl s_texts))]) rfl dX7_next_246 ?_
      refine v_goto X (tgt := 321) (by decide) dX7_next_249 ?_
      obtain rfl := Option.some.inj hf
      exact v_vret hR dX7_next_321
    · refine v_iconst X (v := 4) (by decide) dX7_next_241 ?_
      refine v_goto X (tgt := 246) (by decide) dX7_next_242 ?_
      refine v_put X xinX7 tyX7 tyX7_ok nmX7 0 rfl rfl 20 (by decide) wd142 rfl rfl rfl rfl rfl (Nat.le_of_ble_eq_true rfl) (ws' := [(a0, .inr (7, [.int s_thrown, .ref a_texts, .ref a_textSize, .int s_textCount, .int s_rule, .ref a_tape, .int s_taped, .ref a_room, .ref a_kinds, .ref a_rows, .int s_many, .int s_ofSide, .int s_ofLamp, .int s_ofStove, .int s_ofNumber, .int s_ofPose, .int s_ofNear, .int s_from, .int s_size, .int s_here, .int 4, .int s_tokenAt, .long s_tokenWorth, .int s_open, .int s_bad, .int s_fault, .ref a_now, .ref a_gained, .ref a_rowsWas, .int s_faceWas, .int s_poseWas, .ref a_roomKept, .ref a_rowsKept, .int s_manyKept, .int s_ruleKept, .ref a_isThere, .ref a_sorts, .ref a_sheetSize, .ref a_items])), (a_texts, .inl (vxT x 0, 960, .inl s_texts))]) rfl dX7_next_246 ?_
      refine v_goto X (tgt := 321) (by decide) dX7_next_249 ?_
      obtain rfl := Option.some.inj hf
      exact v_vret hR dX7_next_321
  · refine v_aload_n X 0 rfl dX7_next_181 ?_
    refine v_iload_n X 1 rfl dX7_next_182 ?_
    refine v_iconst X (v := 4) (by decide) dX7_next_183 ?_
    refine v_icmp_ge X (tgt := 212) hf (by decide) dX7_next_184 (fun c184 hf => ?_) (fun c184 hf => ?_)
    · refine v_aload_n X 0 rfl dX7_next_212 ?_
      refine v_get X xinX7 0 rfl rfl 22 (by decide) wd147 rfl rfl dX7_next_213 ?_
      refine v_put X xinX7 tyX7 tyX7_ok nmX7 0 rfl rfl 22 (by decide) wd147 rfl rfl rfl rfl rfl (Nat.le_of_ble_eq_true rfl) (ws' := [(a0, .inr (7, [.int s_thrown, .ref a_texts, .ref a_textSize, .int s_textCount, .int s_rule, .ref a_tape, .int s_taped, .ref a_room, .ref a_kinds, .ref a_rows, .int s_many, .int s_ofSide, .int s_ofLamp, .int s_ofStove, .int s_ofNumber, .int s_ofPose, .int s_ofNear, .int s_from, .int s_size, .int s_here, .int s_token, .int s_tokenAt, .long s_tokenWorth, .int s_open, .int s_bad, .int s_fault, .ref a_now, .ref a_gained, .ref a_rowsWas, .int s_faceWas, .int s_poseWas, .ref a_roomKept, .ref a_rowsKept, .int s_manyKept, .int s_ruleKept, .ref a_isThere, .ref a_sorts, .ref a_sheetSize, .ref a_items])), (a_texts, .inl (vxT x 0, 960, .inl s_texts))]) rfl dX7_next_216 ?_
      refine v_iinc X 1 rfl (v := (l2 + 1)) rfl (by rw [hN]; decide) (lv' := [(2, .int (l2 + 1)), (0, .ref a0)]) rfl dX7_next_219 ?_
      refine v_aload_n X 1 rfl dX7_next_222 ?_
      refine v_dup X rfl dX7_next_223 ?_
      refine v_get X xinX7 0 rfl rfl 19 (by decide) wd136 rfl rfl dX7_next_224 ?_
      refine v_iconst X (v := 1) (by decide) dX7_next_227 ?_
      refine v_iadd X dX7_next_228 ?_
      refine v_put X xinX7 tyX7 tyX7_ok nmX7 0 rfl rfl 19 (by decide) wd136 rfl rfl rfl rfl rfl (Nat.le_of_ble_eq_true rfl) (ws' := [(a0, .inr (7, [.int s_thrown, .ref a_texts, .ref a_textSize, .int s_textCount, .int s_rule, .ref a_tape, .int s_taped, .ref a_room, .ref a_kinds, .ref a_rows, .int s_many, .int s_ofSide, .int s_ofLamp, .int s_ofStove, .int s_ofNumber, .int s_ofPose, .int s_ofNear, .int s_from, .int s_size, .int (s_here + 1), .int s_token, .int s_tokenAt, .long s_tokenWorth, .int s_open, .int s_bad, .int s_fault, .ref a_now, .ref a_gained, .ref a_rowsWas, .int s_faceWas, .int s_poseWas, .ref a_roomKept, .ref a_rowsKept, .int s_manyKept, .int s_ruleKept, .ref a_isThere, .ref a_sorts, .ref a_sheetSize, .ref a_items])), (a_texts, .inl (vxT x 0, 960, .inl s_texts))]) rfl dX7_next_229 ?_
      refine v_goto X (tgt := 160) (by decide) dX7_next_232 ?_
      refine v_lv [1, 0] rfl ?_
      exact hk_160 _ _ _ hf
    · refine v_ldc2 X wd112 dX7_next_187 ?_
      refine v_aload_n X 0 rfl dX7_next_190 ?_
      refine v_get X xinX7 0 rfl rfl 22 (by decide) wd147 rfl rfl dX7_next_191 ?_
      refine v_lmul X dX7_next_194 ?_
      refine v_aload_n X 0 rfl dX7_next_195 ?_
      refine v_aload_n X 0 rfl dX7_next_196 ?_
      refine v_get X xinX7 0 rfl rfl 19 (by decide) wd136 rfl rfl dX7_next_197 ?_
      obtain ⟨v200_8, hv200_8, hf⟩ := bd_some hf
      refine v_callI X (c_X7_byteAt X.2.2.2.2.2.2.2.1 hv200_8) cwv_X7_150 rfl (by decide) ⟨Nat.zero_le _, Nat.zero_le _⟩ 0 rfl rfl [0, 1] [] [0, 1] rfl (by decide) (wr := []) rfl (by decide) (by decide) (ws2 := [(a0, .inr (7, [.int s_thrown, .ref a_texts, .ref a_textSize, .int s_textCount, .int s_rule, .ref a_tape, .int s_taped, .ref a_room, .ref a_kinds, .ref a_rows, .int s_many, .int s_ofSide, .int s_ofLamp, .int s_ofStove, .int s_ofNumber, .int s_ofPose, .int s_ofNear, .int s_from, .int s_size, .int s_here, .int s_token, .int s_tokenAt, .long s_tokenWorth, .int s_open, .int s_bad, .int s_fault, .ref a_now, .ref a_gained, .ref a_rowsWas, .int s_faceWas, .int s_poseWas, .ref a_roomKept, .ref a_rowsKept, .int s_manyKept, .int s_ruleKept, .ref a_isThere, .ref a_sorts, .ref a_sheetSize, .ref a_items])), (a_texts, .inl (vxT x 0, 960, .inl s_texts))]) rfl (by decide) (Nat.le_of_ble_eq_true rfl) rfl dX7_next_200 ?_
      refine v_i2l X dX7_next_203 ?_
      refine v_ladd X dX7_next_204 ?_
      refine v_ldc2 X wd145 dX7_next_205 ?_
      refine v_lsub X dX7_next_208 ?_
      refine v_goto X (tgt := 216) (by decide) dX7_next_209 ?_
      refine v_put X xinX7 tyX7 tyX7_ok nmX7 0 rfl rfl 22 (by decide) wd147 rfl rfl rfl rfl rfl (Nat.le_of_ble_eq_true rfl) (ws' := [(a0, .inr (7, [.int s_thrown, .ref a_texts, .ref a_textSize, .int s_textCount, .int s_rule, .ref a_tape, .int s_taped, .ref a_room, .ref a_kinds, .ref a_rows, .int s_many, .int s_ofSide, .int s_ofLamp, .int s_ofStove, .int s_ofNumber, .int s_ofPose, .int s_ofNear, .int s_from, .int s_size, .int s_here, .int s_token, .int s_tokenAt, .long (((10 * s_tokenWorth) + (Int32.toInt64 v200_8)) - 48), .int s_open, .int s_bad, .int s_fault, .ref a_now, .ref a_gained, .ref a_rowsWas, .int s_faceWas, .int s_poseWas, .ref a_roomKept, .ref a_rowsKept, .int s_manyKept, .int s_ruleKept, .ref a_isThere, .ref a_sorts, .ref a_sheetSize, .ref a_items])), (a_texts, .inl (vxT x 0, 960, .inl s_texts))]) rfl dX7_next_216 ?_
      refine v_iinc X 1 rfl (v := (l2 + 1)) rfl (by rw [hN]; decide) (lv' := [(2, .int (l2 + 1)), (0, .ref a0)]) rfl dX7_next_219 ?_
      refine v_aload_n X 1 rfl dX7_next_222 ?_
      refine v_dup X rfl dX7_next_223 ?_
      refine v_get X xinX7 0 rfl rfl 19 (by decide) wd136 rfl rfl dX7_next_224 ?_
      refine v_iconst X (v := 1) (by decide) dX7_next_227 ?_
      refine v_iadd X dX7_next_228 ?_
      refine v_put X xinX7 tyX7 tyX7_ok nmX7 0 rfl rfl 19 (by decide) wd136 rfl rfl rfl rfl rfl (Nat.le_of_ble_eq_true rfl) (ws' := [(a0, .inr (7, [.int s_thrown, .ref a_texts, .ref a_textSize, .int s_textCount, .int s_rule, .ref a_tape, .int s_taped, .ref a_room, .ref a_kinds, .ref a_rows, .int s_many, .int s_ofSide, .int s_ofLamp, .int s_ofStove, .int s_ofNumber, .int s_ofPose, .int s_ofNear, .int s_from, .int s_size, .int (s_here + 1), .int s_token, .int s_tokenAt, .long (((10 * s_tokenWorth) + (Int32.toInt64 v200_8)) - 48), .int s_open, .int s_bad, .int s_fault, .ref a_now, .ref a_gained, .ref a_rowsWas, .int s_faceWas, .int s_poseWas, .ref a_roomKept, .ref a_rowsKept, .int s_manyKept, .int s_ruleKept, .ref a_isThere, .ref a_sorts, .ref a_sheetSize, .ref a_items])), (a_texts, .inl (vxT x 0, 960, .inl s_texts))]) rfl dX7_next_229 ?_
      refine v_goto X (tgt := 160) (by decide) dX7_next_232 ?_
      refine v_lv [1, 0] rfl ?_
      exact hk_160 _ _ _ hf
set_option maxRecDepth 100000 in
set_option maxHeartbeats 4000000 in
theorem t_X7_next_100 {x : VX} {r : Int32 × Int32 × Int32 × Int64} {a0 : Nat} {a_texts : Nat} {a_textSize : Nat} {a_tape : Nat} {a_room : Nat} {a_kinds : Nat} {a_rows : Nat} {a_now : Nat} {a_gained : Nat} {a_rowsWas : Nat} {a_roomKept : Nat} {a_rowsKept : Nat} {a_isThere : Nat} {a_sorts : Nat} {a_sheetSize : Nat} {a_items : Nat} {s_thrown : Int32} {s_textCount : Int32} {s_rule : Int32} {s_taped : Int32} {s_many : Int32} {s_ofSide : Int32} {s_ofLamp : Int32} {s_ofStove : Int32} {s_ofNumber : Int32} {s_ofPose : Int32} {s_ofNear : Int32} {s_from : Int32} {s_size : Int32} {s_token : Int32} {s_tokenAt : Int32} {s_tokenWorth : Int64} {s_open : Int32} {s_bad : Int32} {s_fault : Int32} {s_faceWas : Int32} {s_poseWas : Int32} {s_manyKept : Int32} {s_ruleKept : Int32} {s_texts : Nat → Int32} (X : Cx x cX7_next RX7 2) (hN : vxn x = 3) (hR : RetV x cX7_next 0 0 [(a0, .inr (7, [.int s_thrown, .ref a_texts, .ref a_textSize, .int s_textCount, .int s_rule, .ref a_tape, .int s_taped, .ref a_room, .ref a_kinds, .ref a_rows, .int s_many, .int s_ofSide, .int s_ofLamp, .int s_ofStove, .int s_ofNumber, .int s_ofPose, .int s_ofNear, .int s_from, .int s_size, .int r.1, .int r.2.1, .int r.2.2.1, .long r.2.2.2, .int s_open, .int s_bad, .int s_fault, .ref a_now, .ref a_gained, .ref a_rowsWas, .int s_faceWas, .int s_poseWas, .ref a_roomKept, .ref a_rowsKept, .int s_manyKept, .int s_ruleKept, .ref a_isThere, .ref a_sorts, .ref a_sheetSize, .ref a_items])), (a_texts, .inl (vxT x 0, 960, .inl s_texts))]) :
    ∀ (fu : Nat) (s_here : Int32), lq1 (f_X7_next_100 s_from s_size s_token s_tokenAt s_tokenWorth s_texts) fu s_here = some r → V x 0 0 [(a0, .inr (7, [.int s_thrown, .ref a_texts, .ref a_textSize, .int s_textCount, .int s_rule, .ref a_tape, .int s_taped, .ref a_room, .ref a_kinds, .ref a_rows, .int s_many, .int s_ofSide, .int s_ofLamp, .int s_ofStove, .int s_ofNumber, .int s_ofPose, .int s_ofNear, .int s_from, .int s_size, .int s_here, .int s_token, .int s_tokenAt, .long s_tokenWorth, .int s_open, .int s_bad, .int s_fault, .ref a_now, .ref a_gained, .ref a_rowsWas, .int s_faceWas, .int s_poseWas, .ref a_roomKept, .ref a_rowsKept, .int s_manyKept, .int s_ruleKept, .ref a_isThere, .ref a_sorts, .ref a_sheetSize, .ref a_items])), (a_texts, .inl (vxT x 0, 960, .inl s_texts))] [(0, .ref a0)] 100 [] := by
  refine lq1_V (G := fun s_here => V x 0 0 [(a0, .inr (7, [.int s_thrown, .ref a_texts, .ref a_textSize, .int s_textCount, .int s_rule, .ref a_tape, .int s_taped, .ref a_room, .ref a_kinds, .ref a_rows, .int s_many, .int s_ofSide, .int s_ofLamp, .int s_ofStove, .int s_ofNumber, .int s_ofPose, .int s_ofNear, .int s_from, .int s_size, .int s_here, .int s_token, .int s_tokenAt, .long s_tokenWorth, .int s_open, .int s_bad, .int s_fault, .ref a_now, .ref a_gained, .ref a_rowsWas, .int s_faceWas, .int s_poseWas, .ref a_roomKept, .ref a_rowsKept, .int s_manyKept, .int s_ruleKept, .ref a_isThere, .ref a_sorts, .ref a_sheetSize, .ref a_items])), (a_texts, .inl (vxT x 0, 960, .inl s_texts))] [(0, .ref a0)] 100 []) ?_
  intro kp_100 hk_100 s_here hf
  unfold f_X7_next_100 at hf
  refine v_aload_n X 0 rfl dX7_next_100 ?_
  refine v_aload_n X 0 rfl dX7_next_101 ?_
  refine v_get X xinX7 0 rfl rfl 19 (by decide) wd136 rfl rfl dX7_next_102 ?_
  obtain ⟨v105_9, hv105_9, hf⟩ := bd_some hf
  refine v_callI X (c_X7_byteAt X.2.2.2.2.2.2.2.1 hv105_9) cwv_X7_150 rfl (by decide) ⟨Nat.zero_le _, Nat.zero_le _⟩ 0 rfl rfl [0, 1] [] [0, 1] rfl (by decide) (wr := []) rfl (by decide) (by decide) (ws2 := [(a0, .inr (7, [.int s_thrown, .ref a_texts, .ref a_textSize, .int s_textCount, .int s_rule, .ref a_tape, .int s_taped, .ref a_room, .ref a_kinds, .ref a_rows, .int s_many, .int s_ofSide, .int s_ofLamp, .int s_ofStove, .int s_ofNumber, .int s_ofPose, .int s_ofNear, .int s_from, .int s_size, .int s_here, .int s_token, .int s_tokenAt, .long s_tokenWorth, .int s_open, .int s_bad, .int s_fault, .ref a_now, .ref a_gained, .ref a_rowsWas, .int s_faceWas, .int s_poseWas, .ref a_roomKept, .ref a_rowsKept, .int s_manyKept, .int s_ruleKept, .ref a_isThere, .ref a_sorts, .ref a_sheetSize, .ref a_items])), (a_texts, .inl (vxT x 0, 960, .inl s_texts))]) rfl (by decide) (Nat.le_of_ble_eq_true rfl) rfl dX7_next_105 ?_
  refine v_i2l X dX7_next_108 ?_
  refine v_ldc2 X wd143 dX7_next_109 ?_
  refine v_ldc2 X wd144 dX7_next_112 ?_
  obtain ⟨v115_10, hv115_10, hf⟩ := bd_some hf
  refine v_scallI X (c_X7_in X.2.2.2.2.2.2.2.1 hv115_10) cws_X7_73 rfl (by decide) ⟨Nat.zero_le _, Nat.zero_le _⟩ [] [0, 1] [0, 1] rfl (by decide) (wr := [(a0, .inr (7, [.int s_thrown, .ref a_texts, .ref a_textSize, .int s_textCount, .int s_rule, .ref a_tape, .int s_taped, .ref a_room, .ref a_kinds, .ref a_rows, .int s_many, .int s_ofSide, .int s_ofLamp, .int s_ofStove, .int s_ofNumber, .int s_ofPose, .int s_ofNear, .int s_from, .int s_size, .int s_here, .int s_token, .int s_tokenAt, .long s_tokenWorth, .int s_open, .int s_bad, .int s_fault, .ref a_now, .ref a_gained, .ref a_rowsWas, .int s_faceWas, .int s_poseWas, .ref a_roomKept, .ref a_rowsKept, .int s_manyKept, .int s_ruleKept, .ref a_isThere, .ref a_sorts, .ref a_sheetSize, .ref a_items])), (a_texts, .inl (vxT x 0, 960, .inl s_texts))]) rfl (by decide) (by decide) (ws2 := [(a0, .inr (7, [.int s_thrown, .ref a_texts, .ref a_textSize, .int s_textCount, .int s_rule, .ref a_tape, .int s_taped, .ref a_room, .ref a_kinds, .ref a_rows, .int s_many, .int s_ofSide, .int s_ofLamp, .int s_ofStove, .int s_ofNumber, .int s_ofPose, .int s_ofNear, .int s_from, .int s_size, .int s_here, .int s_token, .int s_tokenAt, .long s_tokenWorth, .int s_open, .int s_bad, .int s_fault, .ref a_now, .ref a_gained, .ref a_rowsWas, .int s_faceWas, .int s_poseWas, .ref a_roomKept, .ref a_rowsKept, .int s_manyKept, .int s_ruleKept, .ref a_isThere, .ref a_sorts, .ref a_sheetSize, .ref a_items])), (a_texts, .inl (vxT x 0, 960, .inl s_texts))]) rfl (by decide) (Nat.le_of_ble_eq_true rfl) rfl dX7_next_115 ?_
  refine v_if_eq X (tgt := 321) hf (by decide) dX7_next_118 (fun c118 hf => ?_) (fun c118 hf => ?_)
  · obtain rfl := Option.some.inj hf
    exact v_vret hR dX7_next_321
  · refine v_aload_n X 0 rfl dX7_next_121 ?_
    refine v_dup X rfl dX7_next_122 ?_
    refine v_get X xinX7 0 rfl rfl 19 (by decide) wd136 rfl rfl dX7_next_123 ?_
    refine v_iconst X (v := 1) (by decide) dX7_next_126 ?_
    refine v_iadd X dX7_next_127 ?_
    refine v_put X xinX7 tyX7 tyX7_ok nmX7 0 rfl rfl 19 (by decide) wd136 rfl rfl rfl rfl rfl (Nat.le_of_ble_eq_true rfl) (ws' := [(a0, .inr (7, [.int s_thrown, .ref a_texts, .ref a_textSize, .int s_textCount, .int s_rule, .ref a_tape, .int s_taped, .ref a_room, .ref a_kinds, .ref a_rows, .int s_many, .int s_ofSide, .int s_ofLamp, .int s_ofStove, .int s_ofNumber, .int s_ofPose, .int s_ofNear, .int s_from, .int s_size, .int (s_here + 1), .int s_token, .int s_tokenAt, .long s_tokenWorth, .int s_open, .int s_bad, .int s_fault, .ref a_now, .ref a_gained, .ref a_rowsWas, .int s_faceWas, .int s_poseWas, .ref a_roomKept, .ref a_rowsKept, .int s_manyKept, .int s_ruleKept, .ref a_isThere, .ref a_sorts, .ref a_sheetSize, .ref a_items])), (a_texts, .inl (vxT x 0, 960, .inl s_texts))]) rfl dX7_next_128 ?_
    refine v_goto X (tgt := 100) (by decide) dX7_next_131 ?_
    exact hk_100 _ hf
set_option maxRecDepth 100000 in
set_option maxHeartbeats 4000000 in
theorem t_X7_next_0 {x : VX} {r : Int32 × Int32 × Int32 × Int64} {a0 : Nat} {a_texts : Nat} {a_textSize : Nat} {a_tape : Nat} {a_room : Nat} {a_kinds : Nat} {a_rows : Nat} {a_now : Nat} {a_gained : Nat} {a_rowsWas : Nat} {a_roomKept : Nat} {a_rowsKept : Nat} {a_isThere : Nat} {a_sorts : Nat} {a_sheetSize : Nat} {a_items : Nat} {s_thrown : Int32} {s_textCount : Int32} {s_rule : Int32} {s_taped : Int32} {s_many : Int32} {s_ofSide : Int32} {s_ofLamp : Int32} {s_ofStove : Int32} {s_ofNumber : Int32} {s_ofPose : Int32} {s_ofNear : Int32} {s_from : Int32} {s_size : Int32} {s_token : Int32} {s_tokenAt : Int32} {s_tokenWorth : Int64} {s_open : Int32} {s_bad : Int32} {s_fault : Int32} {s_faceWas : Int32} {s_poseWas : Int32} {s_manyKept : Int32} {s_ruleKept : Int32} {s_texts : Nat → Int32} (X : Cx x cX7_next RX7 2) (hN : vxn x = 3) (hR : RetV x cX7_next 0 0 [(a0, .inr (7, [.int s_thrown, .ref a_texts, .ref a_textSize, .int s_textCount, .int s_rule, .ref a_tape, .int s_taped, .ref a_room, .ref a_kinds, .ref a_rows, .int s_many, .int s_ofSide, .int s_ofLamp, .int s_ofStove, .int s_ofNumber, .int s_ofPose, .int s_ofNear, .int s_from, .int s_size, .int r.1, .int r.2.1, .int r.2.2.1, .long r.2.2.2, .int s_open, .int s_bad, .int s_fault, .ref a_now, .ref a_gained, .ref a_rowsWas, .int s_faceWas, .int s_poseWas, .ref a_roomKept, .ref a_rowsKept, .int s_manyKept, .int s_ruleKept, .ref a_isThere, .ref a_sorts, .ref a_sheetSize, .ref a_items])), (a_texts, .inl (vxT x 0, 960, .inl s_texts))]) :
    ∀ (fu : Nat) (s_here : Int32), lq1 (f_X7_next_0 s_from s_size s_tokenWorth s_texts) fu s_here = some r → V x 0 0 [(a0, .inr (7, [.int s_thrown, .ref a_texts, .ref a_textSize, .int s_textCount, .int s_rule, .ref a_tape, .int s_taped, .ref a_room, .ref a_kinds, .ref a_rows, .int s_many, .int s_ofSide, .int s_ofLamp, .int s_ofStove, .int s_ofNumber, .int s_ofPose, .int s_ofNear, .int s_from, .int s_size, .int s_here, .int s_token, .int s_tokenAt, .long s_tokenWorth, .int s_open, .int s_bad, .int s_fault, .ref a_now, .ref a_gained, .ref a_rowsWas, .int s_faceWas, .int s_poseWas, .ref a_roomKept, .ref a_rowsKept, .int s_manyKept, .int s_ruleKept, .ref a_isThere, .ref a_sorts, .ref a_sheetSize, .ref a_items])), (a_texts, .inl (vxT x 0, 960, .inl s_texts))] [(0, .ref a0)] 0 [] := by
  refine lq1_V (G := fun s_here => V x 0 0 [(a0, .inr (7, [.int s_thrown, .ref a_texts, .ref a_textSize, .int s_textCount, .int s_rule, .ref a_tape, .int s_taped, .ref a_room, .ref a_kinds, .ref a_rows, .int s_many, .int s_ofSide, .int s_ofLamp, .int s_ofStove, .int s_ofNumber, .int s_ofPose, .int s_ofNear, .int s_from, .int s_size, .int s_here, .int s_token, .int s_tokenAt, .long s_tokenWorth, .int s_open, .int s_bad, .int s_fault, .ref a_now, .ref a_gained, .ref a_rowsWas, .int s_faceWas, .int s_poseWas, .ref a_roomKept, .ref a_rowsKept, .int s_manyKept, .int s_ruleKept, .ref a_isThere, .ref a_sorts, .ref a_sheetSize, .ref a_items])), (a_texts, .inl (vxT x 0, 960, .inl s_texts))] [(0, .ref a0)] 0 []) ?_
  intro kp_0 hk_0 s_here hf
  unfold f_X7_next_0 at hf
  refine v_aload_n X 0 rfl dX7_next_0 ?_
  refine v_aload_n X 0 rfl dX7_next_1 ?_
  refine v_get X xinX7 0 rfl rfl 19 (by decide) wd136 rfl rfl dX7_next_2 ?_
  obtain ⟨v5_1, hv5_1, hf⟩ := bd_some hf
  refine v_callI X (c_X7_byteAt X.2.2.2.2.2.2.2.1 hv5_1) cwv_X7_150 rfl (by decide) ⟨Nat.zero_le _, Nat.zero_le _⟩ 0 rfl rfl [0, 1] [] [0, 1] rfl (by decide) (wr := []) rfl (by decide) (by decide) (ws2 := [(a0, .inr (7, [.int s_thrown, .ref a_texts, .ref a_textSize, .int s_textCount, .int s_rule, .ref a_tape, .int s_taped, .ref a_room, .ref a_kinds, .ref a_rows, .int s_many, .int s_ofSide, .int s_ofLamp, .int s_ofStove, .int s_ofNumber, .int s_ofPose, .int s_ofNear, .int s_from, .int s_size, .int s_here, .int s_token, .int s_tokenAt, .long s_tokenWorth, .int s_open, .int s_bad, .int s_fault, .ref a_now, .ref a_gained, .ref a_rowsWas, .int s_faceWas, .int s_poseWas, .ref a_roomKept, .ref a_rowsKept, .int s_manyKept, .int s_ruleKept, .ref a_isThere, .ref a_sorts, .ref a_sheetSize, .ref a_items])), (a_texts, .inl (vxT x 0, 960, .inl s_texts))]) rfl (by decide) (Nat.le_of_ble_eq_true rfl) rfl dX7_next_5 ?_
  refine v_bipush X (v := 32) (by decide) dX7_next_8 ?_
  refine v_icmp_eq X (tgt := 26) hf (by decide) dX7_next_10 (fun c10 hf => ?_) (fun c10 hf => ?_)
  · refine v_aload_n X 0 rfl dX7_next_26 ?_
    refine v_dup X rfl dX7_next_27 ?_
    refine v_get X xinX7 0 rfl rfl 19 (by decide) wd136 rfl rfl dX7_next_28 ?_
    refine v_iconst X (v := 1) (by decide) dX7_next_31 ?_
    refine v_iadd X dX7_next_32 ?_
    refine v_put X xinX7 tyX7 tyX7_ok nmX7 0 rfl rfl 19 (by decide) wd136 rfl rfl rfl rfl rfl (Nat.le_of_ble_eq_true rfl) (ws' := [(a0, .inr (7, [.int s_thrown, .ref a_texts, .ref a_textSize, .int s_textCount, .int s_rule, .ref a_tape, .int s_taped, .ref a_room, .ref a_kinds, .ref a_rows, .int s_many, .int s_ofSide, .int s_ofLamp, .int s_ofStove, .int s_ofNumber, .int s_ofPose, .int s_ofNear, .int s_from, .int s_size, .int (s_here + 1), .int s_token, .int s_tokenAt, .long s_tokenWorth, .int s_open, .int s_bad, .int s_fault, .ref a_now, .ref a_gained, .ref a_rowsWas, .int s_faceWas, .int s_poseWas, .ref a_roomKept, .ref a_rowsKept, .int s_manyKept, .int s_ruleKept, .ref a_isThere, .ref a_sorts, .ref a_sheetSize, .ref a_items])), (a_texts, .inl (vxT x 0, 960, .inl s_texts))]) rfl dX7_next_33 ?_
    refine v_goto X (tgt := 0) (by decide) dX7_next_36 ?_
    exact hk_0 _ hf
  · refine v_aload_n X 0 rfl dX7_next_13 ?_
    refine v_aload_n X 0 rfl dX7_next_14 ?_
    refine v_get X xinX7 0 rfl rfl 19 (by decide) wd136 rfl rfl dX7_next_15 ?_
    obtain ⟨v18_2, hv18_2, hf⟩ := bd_some hf
    refine v_callI X (c_X7_byteAt X.2.2.2.2.2.2.2.1 hv18_2) cwv_X7_150 rfl (by decide) ⟨Nat.zero_le _, Nat.zero_le _⟩ 0 rfl rfl [0, 1] [] [0, 1] rfl (by decide) (wr := []) rfl (by decide) (by decide) (ws2 := [(a0, .inr (7, [.int s_thrown, .ref a_texts, .ref a_textSize, .int s_textCount, .int s_rule, .ref a_tape, .int s_taped, .ref a_room, .ref a_kinds, .ref a_rows, .int s_many, .int s_ofSide, .int s_ofLamp, .int s_ofStove, .int s_ofNumber, .int s_ofPose, .int s_ofNear, .int s_from, .int s_size, .int s_here, .int s_token, .int s_tokenAt, .long s_tokenWorth, .int s_open, .int s_bad, .int s_fault, .ref a_now, .ref a_gained, .ref a_rowsWas, .int s_faceWas, .int s_poseWas, .ref a_roomKept, .ref a_rowsKept, .int s_manyKept, .int s_ruleKept, .ref a_isThere, .ref a_sorts, .ref a_sheetSize, .ref a_items])), (a_texts, .inl (vxT x 0, 960, .inl s_texts))]) rfl (by decide) (Nat.le_of_ble_eq_true rfl) rfl dX7_next_18 ?_
    refine v_bipush X (v := 10) (by decide) dX7_next_21 ?_
    refine v_icmp_ne X (tgt := 39) hf (by decide) dX7_next_23 (fun c23 hf => ?_) (fun c23 hf => ?_)
    · refine v_aload_n X 0 rfl dX7_next_39 ?_
      refine v_aload_n X 0 rfl dX7_next_40 ?_
      refine v_get X xinX7 0 rfl rfl 19 (by decide) wd136 rfl rfl dX7_next_41 ?_
      refine v_put X xinX7 tyX7 tyX7_ok nmX7 0 rfl rfl 21 (by decide) wd141 rfl rfl rfl rfl rfl (Nat.le_of_ble_eq_true rfl) (ws' := [(a0, .inr (7, [.int s_thrown, .ref a_texts, .ref a_textSize, .int s_textCount, .int s_rule, .ref a_tape, .int s_taped, .ref a_room, .ref a_kinds, .ref a_rows, .int s_many, .int s_ofSide, .int s_ofLamp, .int s_ofStove, .int s_ofNumber, .int s_ofPose, .int s_ofNear, .int s_from, .int s_size, .int s_here, .int s_token, .int s_here, .long s_tokenWorth, .int s_open, .int s_bad, .int s_fault, .ref a_now, .ref a_gained, .ref a_rowsWas, .int s_faceWas, .int s_poseWas, .ref a_roomKept, .ref a_rowsKept, .int s_manyKept, .int s_ruleKept, .ref a_isThere, .ref a_sorts, .ref a_sheetSize, .ref a_items])), (a_texts, .inl (vxT x 0, 960, .inl s_texts))]) rfl dX7_next_44 ?_
      refine v_aload_n X 0 rfl dX7_next_47 ?_
      refine v_aload_n X 0 rfl dX7_next_48 ?_
      refine v_get X xinX7 0 rfl rfl 19 (by decide) wd136 rfl rfl dX7_next_49 ?_
      obtain ⟨v52_3, hv52_3, hf⟩ := bd_some hf
      refine v_callI X (c_X7_byteAt X.2.2.2.2.2.2.2.1 hv52_3) cwv_X7_150 rfl (by decide) ⟨Nat.zero_le _, Nat.zero_le _⟩ 0 rfl rfl [0, 1] [] [0, 1] rfl (by decide) (wr := []) rfl (by decide) (by decide) (ws2 := [(a0, .inr (7, [.int s_thrown, .ref a_texts, .ref a_textSize, .int s_textCount, .int s_rule, .ref a_tape, .int s_taped, .ref a_room, .ref a_kinds, .ref a_rows, .int s_many, .int s_ofSide, .int s_ofLamp, .int s_ofStove, .int s_ofNumber, .int s_ofPose, .int s_ofNear, .int s_from, .int s_size, .int s_here, .int s_token, .int s_here, .long s_tokenWorth, .int s_open, .int s_bad, .int s_fault, .ref a_now, .ref a_gained, .ref a_rowsWas, .int s_faceWas, .int s_poseWas, .ref a_roomKept, .ref a_rowsKept, .int s_manyKept, .int s_ruleKept, .ref a_isThere, .ref a_sorts, .ref a_sheetSize, .ref a_items])), (a_texts, .inl (vxT x 0, 960, .inl s_texts))]) rfl (by decide) (Nat.le_of_ble_eq_true rfl) rfl dX7_next_52 ?_
      refine v_istore_n X rfl (by rw [hN]; decide) (lv' := [(1, .int v52_3), (0, .ref a0)]) rfl dX7_next_55 ?_
      refine v_aload_n X 1 rfl dX7_next_56 ?_
      refine v_iconst X (v := 4) (by decide) dX7_next_57 ?_
      refine v_put X xinX7 tyX7 tyX7_ok nmX7 0 rfl rfl 20 (by decide) wd142 rfl rfl rfl rfl rfl (Nat.le_of_ble_eq_true rfl) (ws' := [(a0, .inr (7, [.int s_thrown, .ref a_texts, .ref a_textSize, .int s_textCount, .int s_rule, .ref a_tape, .int s_taped, .ref a_room, .ref a_kinds, .ref a_rows, .int s_many, .int s_ofSide, .int s_ofLamp, .int s_ofStove, .int s_ofNumber, .int s_ofPose, .int s_ofNear, .int s_from, .int s_size, .int s_here, .int 4, .int s_here, .long s_tokenWorth, .int s_open, .int s_bad, .int s_fault, .ref a_now, .ref a_gained, .ref a_rowsWas, .int s_faceWas, .int s_poseWas, .ref a_roomKept, .ref a_rowsKept, .int s_manyKept, .int s_ruleKept, .ref a_isThere, .ref a_sorts, .ref a_sheetSize, .ref a_items])), (a_texts, .inl (vxT x 0, 960, .inl s_texts))]) rfl dX7_next_58 ?_
      refine v_iload_n X 0 rfl dX7_next_61 ?_
      refine v_if_ge X (tgt := 81) hf (by decide) dX7_next_62 (fun c62 hf => ?_) (fun c62 hf => ?_)
      · refine v_iload_n X 0 rfl dX7_next_81 ?_
        refine v_i2l X dX7_next_82 ?_
        refine v_ldc2 X wd143 dX7_next_83 ?_
        refine v_ldc2 X wd144 dX7_next_86 ?_
        obtain ⟨v89_4, hv89_4, hf⟩ := bd_some hf
        refine v_scallI X (c_X7_in X.2.2.2.2.2.2.2.1 hv89_4) cws_X7_73 rfl (by decide) ⟨Nat.zero_le _, Nat.zero_le _⟩ [] [0, 1] [0, 1] rfl (by decide) (wr := [(a0, .inr (7, [.int s_thrown, .ref a_texts, .ref a_textSize, .int s_textCount, .int s_rule, .ref a_tape, .int s_taped, .ref a_room, .ref a_kinds, .ref a_rows, .int s_many, .int s_ofSide, .int s_ofLamp, .int s_ofStove, .int s_ofNumber, .int s_ofPose, .int s_ofNear, .int s_from, .int s_size, .int s_here, .int 4, .int s_here, .long s_tokenWorth, .int s_open, .int s_bad, .int s_fault, .ref a_now, .ref a_gained, .ref a_rowsWas, .int s_faceWas, .int s_poseWas, .ref a_roomKept, .ref a_rowsKept, .int s_manyKept, .int s_ruleKept, .ref a_isThere, .ref a_sorts, .ref a_sheetSize, .ref a_items])), (a_texts, .inl (vxT x 0, 960, .inl s_texts))]) rfl (by decide) (by decide) (ws2 := [(a0, .inr (7, [.int s_thrown, .ref a_texts, .ref a_textSize, .int s_textCount, .int s_rule, .ref a_tape, .int s_taped, .ref a_room, .ref a_kinds, .ref a_rows, .int s_many, .int s_ofSide, .int s_ofLamp, .int s_ofStove, .int s_ofNumber, .int s_ofPose, .int s_ofNear, .int s_from, .int s_size, .int s_here, .int 4, .int s_here, .long s_tokenWorth, .int s_open, .int s_bad, .int s_fault, .ref a_now, .ref a_gained, .ref a_rowsWas, .int s_faceWas, .int s_poseWas, .ref a_roomKept, .ref a_rowsKept, .int s_manyKept, .int s_ruleKept, .ref a_isThere, .ref a_sorts, .ref a_sheetSize, .ref a_items])), (a_texts, .inl (vxT x 0, 960, .inl s_texts))]) rfl (by decide) (Nat.le_of_ble_eq_true rfl) rfl dX7_next_89 ?_
        refine v_if_eq X (tgt := 134) hf (by decide) dX7_next_92 (fun c92 hf => ?_) (fun c92 hf => ?_)
        · refine v_iload_n X 0 rfl dX7_next_134 ?_
          refine v_i2l X dX7_next_135 ?_
          refine v_ldc2 X wd145 dX7_next_136 ?_
          refine v_ldc2 X wd146 dX7_next_139 ?_
          obtain ⟨v142_5, hv142_5, hf⟩ := bd_some hf
          refine v_scallI X (c_X7_in X.2.2.2.2.2.2.2.1 hv142_5) cws_X7_73 rfl (by decide) ⟨Nat.zero_le _, Nat.zero_le _⟩ [] [0, 1] [0, 1] rfl (by decide) (wr := [(a0, .inr (7, [.int s_thrown, .ref a_texts, .ref a_textSize, .int s_textCount, .int s_rule, .ref a_tape, .int s_taped, .ref a_room, .ref a_kinds, .ref a_rows, .int s_many, .int s_ofSide, .int s_ofLamp, .int s_ofStove, .int s_ofNumber, .int s_ofPose, .int s_ofNear, .int s_from, .int s_size, .int s_here, .int 4, .int s_here, .long s_tokenWorth, .int s_open, .int s_bad, .int s_fault, .ref a_now, .ref a_gained, .ref a_rowsWas, .int s_faceWas, .int s_poseWas, .ref a_roomKept, .ref a_rowsKept, .int s_manyKept, .int s_ruleKept, .ref a_isThere, .ref a_sorts, .ref a_sheetSize, .ref a_items])), (a_texts, .inl (vxT x 0, 960, .inl s_texts))]) rfl (by decide) (by decide) (ws2 := [(a0, .inr (7, [.int s_thrown, .ref a_texts, .ref a_textSize, .int s_textCount, .int s_rule, .ref a_tape, .int s_taped, .ref a_room, .ref a_kinds, .ref a_rows, .int s_many, .int s_ofSide, .int s_ofLamp, .int s_ofStove, .int s_ofNumber, .int s_ofPose, .int s_ofNear, .int s_from, .int s_size, .int s_here, .int 4, .int s_here, .long s_tokenWorth, .int s_open, .int s_bad, .int s_fault, .ref a_now, .ref a_gained, .ref a_rowsWas, .int s_faceWas, .int s_poseWas, .ref a_roomKept, .ref a_rowsKept, .int s_manyKept, .int s_ruleKept, .ref a_isThere, .ref a_sorts, .ref a_sheetSize, .ref a_items])), (a_texts, .inl (vxT x 0, 960, .inl s_texts))]) rfl (by decide) (Nat.le_of_ble_eq_true rfl) rfl dX7_next_142 ?_
          refine v_if_eq X (tgt := 252) hf (by decide) dX7_next_145 (fun c145 hf => ?_) (fun c145 hf => ?_)
          · refine v_iload_n X 0 rfl dX7_next_252 ?_
            refine v_bipush X (v := 40) (by decide) dX7_next_253 ?_
            refine v_icmp_eq X (tgt := 300) hf (by decide) dX7_next_255 (fun c255 hf => ?_) (fun c255 hf => ?_)
            · refine v_lv [1, 0] rfl ?_
              exact t_X7_next_300 X hN hR hf
            · refine v_iload_n X 0 rfl dX7_next_258 ?_
              refine v_bipush X (v := 41) (by decide) dX7_next_259 ?_
              refine v_icmp_eq X (tgt := 300) hf (by decide) dX7_next_261 (fun c261 hf => ?_) (fun c261 hf => ?_)
              · refine v_lv [1, 0] rfl ?_
                exact t_X7_next_300 X hN hR hf
              · refine v_iload_n X 0 rfl dX7_next_264 ?_
                refine v_bipush X (v := 59) (by decide) dX7_next_265 ?_
                refine v_icmp_eq X (tgt := 300) hf (by decide) dX7_next_267 (fun c267 hf => ?_) (fun c267 hf => ?_)
                · refine v_lv [1, 0] rfl ?_
                  exact t_X7_next_300 X hN hR hf
                · refine v_iload_n X 0 rfl dX7_next_270 ?_
                  refine v_bipush X (v := 43) (by decide) dX7_next_271 ?_
                  refine v_icmp_eq X (tgt := 300) hf (by decide) dX7_next_273 (fun c273 hf => ?_) (fun c273 hf => ?_)
                  · refine v_lv [1, 0] rfl ?_
                    exact t_X7_next_300 X hN hR hf
                  · refine v_iload_n X 0 rfl dX7_next_276 ?_
                    refine v_bipush X (v := 45) (by decide) dX7_next_277 ?_
                    refine v_icmp_eq X (tgt := 300) hf (by decide) dX7_next_279 (fun c279 hf => ?_) (fun c279 hf => ?_)
                    · refine v_lv [1, 0] rfl ?_
                      exact t_X7_next_300 X hN hR hf
                    · refine v_iload_n X 0 rfl dX7_next_282 ?_
                      refine v_bipush X (v := 42) (by decide) dX7_next_283 ?_
                      refine v_icmp_eq X (tgt := 300) hf (by decide) dX7_next_285 (fun c285 hf => ?_) (fun c285 hf => ?_)
                      · refine v_lv [1, 0] rfl ?_
                        exact t_X7_next_300 X hN hR hf
                      · refine v_iload_n X 0 rfl dX7_next_288 ?_
                        refine v_bipush X (v := 60) (by decide) dX7_next_289 ?_
                        refine v_icmp_eq X (tgt := 300) hf (by decide) dX7_next_291 (fun c291 hf => ?_) (fun c291 hf => ?_)
                        · refine v_lv [1, 0] rfl ?_
                          exact t_X7_next_300 X hN hR hf
                        · refine v_iload_n X 0 rfl dX7_next_294 ?_
                          refine v_bipush X (v := 61) (by decide) dX7_next_295 ?_
                          refine v_icmp_ne X (tgt := 321) hf (by decide) dX7_next_297 (fun c297 hf => ?_) (fun c297 hf => ?_)
                          · obtain rfl := Option.some.inj hf
                            exact v_vret hR dX7_next_321
                          · refine v_lv [1, 0] rfl ?_
                            exact t_X7_next_300 X hN hR hf
          · refine v_aload_n X 1 rfl dX7_next_148 ?_
            refine v_iconst X (v := 2) (by decide) dX7_next_149 ?_
            refine v_put X xinX7 tyX7 tyX7_ok nmX7 0 rfl rfl 20 (by decide) wd142 rfl rfl rfl rfl rfl (Nat.le_of_ble_eq_true rfl) (ws' := [(a0, .inr (7, [.int s_thrown, .ref a_texts, .ref a_textSize, .int s_textCount, .int s_rule, .ref a_tape, .int s_taped, .ref a_room, .ref a_kinds, .ref a_rows, .int s_many, .int s_ofSide, .int s_ofLamp, .int s_ofStove, .int s_ofNumber, .int s_ofPose, .int s_ofNear, .int s_from, .int s_size, .int s_here, .int 2, .int s_here, .long s_tokenWorth, .int s_open, .int s_bad, .int s_fault, .ref a_now, .ref a_gained, .ref a_rowsWas, .int s_faceWas, .int s_poseWas, .ref a_roomKept, .ref a_rowsKept, .int s_manyKept, .int s_ruleKept, .ref a_isThere, .ref a_sorts, .ref a_sheetSize, .ref a_items])), (a_texts, .inl (vxT x 0, 960, .inl s_texts))]) rfl dX7_next_150 ?_
            refine v_aload_n X 1 rfl dX7_next_153 ?_
            refine v_lconst X (v := 0) (by decide) dX7_next_154 ?_
            refine v_put X xinX7 tyX7 tyX7_ok nmX7 0 rfl rfl 22 (by decide) wd147 rfl rfl rfl rfl rfl (Nat.le_of_ble_eq_true rfl) (ws' := [(a0, .inr (7, [.int s_thrown, .ref a_texts, .ref a_textSize, .int s_textCount, .int s_rule, .ref a_tape, .int s_taped, .ref a_room, .ref a_kinds, .ref a_rows, .int s_many, .int s_ofSide, .int s_ofLamp, .int s_ofStove, .int s_ofNumber, .int s_ofPose, .int s_ofNear, .int s_from, .int s_size, .int s_here, .int 2, .int s_here, .long 0, .int s_open, .int s_bad, .int s_fault, .ref a_now, .ref a_gained, .ref a_rowsWas, .int s_faceWas, .int s_poseWas, .ref a_roomKept, .ref a_rowsKept, .int s_manyKept, .int s_ruleKept, .ref a_isThere, .ref a_sorts, .ref a_sheetSize, .ref a_items])), (a_texts, .inl (vxT x 0, 960, .inl s_texts))]) rfl dX7_next_155 ?_
            refine v_iconst X (v := 0) (by decide) dX7_next_158 ?_
            refine v_istore_n X rfl (by rw [hN]; decide) (lv' := [(2, .int 0), (1, .int v52_3), (0, .ref a0)]) rfl dX7_next_159 ?_
            refine v_lv [2, 0] rfl ?_
            exact t_X7_next_160 X hN hR 200 _ _ _ hf
        · refine v_aload_n X 1 rfl dX7_next_95 ?_
          refine v_iconst X (v := 1) (by decide) dX7_next_96 ?_
          refine v_put X xinX7 tyX7 tyX7_ok nmX7 0 rfl rfl 20 (by decide) wd142 rfl rfl rfl rfl rfl (Nat.le_of_ble_eq_true rfl) (ws' := [(a0, .inr (7, [.int s_thrown, .ref a_texts, .ref a_textSize, .int s_textCount, .int s_rule, .ref a_tape, .int s_taped, .ref a_room, .ref a_kinds, .ref a_rows, .int s_many, .int s_ofSide, .int s_ofLamp, .int s_ofStove, .int s_ofNumber, .int s_ofPose, .int s_ofNear, .int s_from, .int s_size, .int s_here, .int 1, .int s_here, .long s_tokenWorth, .int s_open, .int s_bad, .int s_fault, .ref a_now, .ref a_gained, .ref a_rowsWas, .int s_faceWas, .int s_poseWas, .ref a_roomKept, .ref a_rowsKept, .int s_manyKept, .int s_ruleKept, .ref a_isThere, .ref a_sorts, .ref a_sheetSize, .ref a_items])), (a_texts, .inl (vxT x 0, 960, .inl s_texts))]) rfl dX7_next_97 ?_
          refine v_lv [1] rfl ?_
          exact t_X7_next_100 X hN hR 200 _ hf
      · refine v_aload_n X 1 rfl dX7_next_65 ?_
        refine v_iconst X (v := 0) (by decide) dX7_next_66 ?_
        refine v_put X xinX7 tyX7 tyX7_ok nmX7 0 rfl rfl 20 (by decide) wd142 rfl rfl rfl rfl rfl (Nat.le_of_ble_eq_true rfl) (ws' := [(a0, .inr (7, [.int s_thrown, .ref a_texts, .ref a_textSize, .int s_textCount, .int s_rule, .ref a_tape, .int s_taped, .ref a_room, .ref a_kinds, .ref a_rows, .int s_many, .int s_ofSide, .int s_ofLamp, .int s_ofStove, .int s_ofNumber, .int s_ofPose, .int s_ofNear, .int s_from, .int s_size, .int s_here, .int 0, .int s_here, .long s_tokenWorth, .int s_open, .int s_bad, .int s_fault, .ref a_now, .ref a_gained, .ref a_rowsWas, .int s_faceWas, .int s_poseWas, .ref a_roomKept, .ref a_rowsKept, .int s_manyKept, .int s_ruleKept, .ref a_isThere, .ref a_sorts, .ref a_sheetSize, .ref a_items])), (a_texts, .inl (vxT x 0, 960, .inl s_texts))]) rfl dX7_next_67 ?_
        refine v_aload_n X 1 rfl dX7_next_70 ?_
        refine v_aload_n X 1 rfl dX7_next_71 ?_
        refine v_get X xinX7 0 rfl rfl 18 (by decide) wd134 rfl rfl dX7_next_72 ?_
        refine v_put X xinX7 tyX7 tyX7_ok nmX7 0 rfl rfl 21 (by decide) wd141 rfl rfl rfl rfl rfl (Nat.le_of_ble_eq_true rfl) (ws' := [(a0, .inr (7, [.int s_thrown, .ref a_texts, .ref a_textSize, .int s_textCount, .int s_rule, .ref a_tape, .int s_taped, .ref a_room, .ref a_kinds, .ref a_rows, .int s_many, .int s_ofSide, .int s_ofLamp, .int s_ofStove, .int s_ofNumber, .int s_ofPose, .int s_ofNear, .int s_from, .int s_size, .int s_here, .int 0, .int s_size, .long s_tokenWorth, .int s_open, .int s_bad, .int s_fault, .ref a_now, .ref a_gained, .ref a_rowsWas, .int s_faceWas, .int s_poseWas, .ref a_roomKept, .ref a_rowsKept, .int s_manyKept, .int s_ruleKept, .ref a_isThere, .ref a_sorts, .ref a_sheetSize, .ref a_items])), (a_texts, .inl (vxT x 0, 960, .inl s_texts))]) rfl dX7_next_75 ?_
        refine v_goto X (tgt := 321) (by decide) dX7_next_78 ?_
        obtain rfl := Option.some.inj hf
        exact v_vret hR dX7_next_321
    · refine v_aload_n X 0 rfl dX7_next_26 ?_
      refine v_dup X rfl dX7_next_27 ?_
      refine v_get X xinX7 0 rfl rfl 19 (by decide) wd136 rfl rfl dX7_next_28 ?_
      refine v_iconst X (v := 1) (by decide) dX7_next_31 ?_
      refine v_iadd X dX7_next_32 ?_
      refine v_put X xinX7 tyX7 tyX7_ok nmX7 0 rfl rfl 19 (by decide) wd136 rfl rfl rfl rfl rfl (Nat.le_of_ble_eq_true rfl) (ws' := [(a0, .inr (7, [.int s_thrown, .ref a_texts, .ref a_textSize, .int s_textCount, .int s_rule, .ref a_tape, .int s_taped, .ref a_room, .ref a_kinds, .ref a_rows, .int s_many, .int s_ofSide, .int s_ofLamp, .int s_ofStove, .int s_ofNumber, .int s_ofPose, .int s_ofNear, .int s_from, .int s_size, .int (s_here + 1), .int s_token, .int s_tokenAt, .long s_tokenWorth, .int s_open, .int s_bad, .int s_fault, .ref a_now, .ref a_gained, .ref a_rowsWas, .int s_faceWas, .int s_poseWas, .ref a_roomKept, .ref a_rowsKept, .int s_manyKept, .int s_ruleKept, .ref a_isThere, .ref a_sorts, .ref a_sheetSize, .ref a_items])), (a_texts, .inl (vxT x 0, 960, .inl s_texts))]) rfl dX7_next_33 ?_
      refine v_goto X (tgt := 0) (by decide) dX7_next_36 ?_
      exact hk_0 _ hf
set_option maxRecDepth 100000 in
set_option maxHeartbeats 4000000 in
theorem t_X7_next {x : VX} {r : Int32 × Int32 × Int32 × Int64} {a0 : Nat} {a_texts : Nat} {a_textSize : Nat} {a_tape : Nat} {a_room : Nat} {a_kinds : Nat} {a_rows : Nat} {a_now : Nat} {a_gained : Nat} {a_rowsWas : Nat} {a_roomKept : Nat} {a_rowsKept : Nat} {a_isThere : Nat} {a_sorts : Nat} {a_sheetSize : Nat} {a_items : Nat} {s_thrown : Int32} {s_textCount : Int32} {s_rule : Int32} {s_taped : Int32} {s_many : Int32} {s_ofSide : Int32} {s_ofLamp : Int32} {s_ofStove : Int32} {s_ofNumber : Int32} {s_ofPose : Int32} {s_ofNear : Int32} {s_from : Int32} {s_size : Int32} {s_here : Int32} {s_token : Int32} {s_tokenAt : Int32} {s_tokenWorth : Int64} {s_open : Int32} {s_bad : Int32} {s_fault : Int32} {s_faceWas : Int32} {s_poseWas : Int32} {s_manyKept : Int32} {s_ruleKept : Int32} {s_texts : Nat → Int32} (X : Cx x cX7_next RX7 2) (hN : vxn x = 3) (hR : RetV x cX7_next 0 0 [(a0, .inr (7, [.int s_thrown, .ref a_texts, .ref a_textSize, .int s_textCount, .int s_rule, .ref a_tape, .int s_taped, .ref a_room, .ref a_kinds, .ref a_rows, .int s_many, .int s_ofSide, .int s_ofLamp, .int s_ofStove, .int s_ofNumber, .int s_ofPose, .int s_ofNear, .int s_from, .int s_size, .int r.1, .int r.2.1, .int r.2.2.1, .long r.2.2.2, .int s_open, .int s_bad, .int s_fault, .ref a_now, .ref a_gained, .ref a_rowsWas, .int s_faceWas, .int s_poseWas, .ref a_roomKept, .ref a_rowsKept, .int s_manyKept, .int s_ruleKept, .ref a_isThere, .ref a_sorts, .ref a_sheetSize, .ref a_items])), (a_texts, .inl (vxT x 0, 960, .inl s_texts))]) (hf : f_X7_next s_from s_size s_here s_tokenWorth s_texts = some r) : V x 0 0 [(a0, .inr (7, [.int s_thrown, .ref a_texts, .ref a_textSize, .int s_textCount, .int s_rule, .ref a_tape, .int s_taped, .ref a_room, .ref a_kinds, .ref a_rows, .int s_many, .int s_ofSide, .int s_ofLamp, .int s_ofStove, .int s_ofNumber, .int s_ofPose, .int s_ofNear, .int s_from, .int s_size, .int s_here, .int s_token, .int s_tokenAt, .long s_tokenWorth, .int s_open, .int s_bad, .int s_fault, .ref a_now, .ref a_gained, .ref a_rowsWas, .int s_faceWas, .int s_poseWas, .ref a_roomKept, .ref a_rowsKept, .int s_manyKept, .int s_ruleKept, .ref a_isThere, .ref a_sorts, .ref a_sheetSize, .ref a_items])), (a_texts, .inl (vxT x 0, 960, .inl s_texts))] [(0, .ref a0)] 0 [] := by
  unfold f_X7_next at hf
  exact t_X7_next_0 X hN hR 200 _ hf
set_option maxRecDepth 100000 in
set_option maxHeartbeats 4000000 in
theorem c_X7_next {l : Launch} {D : va_G} {qT : Nat → ClassId} {Z : (Nat → Prop) → State → Heap → Prop} {r : Int32 × Int32 × Int32 × Int64} {a0 : Nat} {a_texts : Nat} {a_textSize : Nat} {a_tape : Nat} {a_room : Nat} {a_kinds : Nat} {a_rows : Nat} {a_now : Nat} {a_gained : Nat} {a_rowsWas : Nat} {a_roomKept : Nat} {a_rowsKept : Nat} {a_isThere : Nat} {a_sorts : Nat} {a_sheetSize : Nat} {a_items : Nat} {s_thrown : Int32} {s_textCount : Int32} {s_rule : Int32} {s_taped : Int32} {s_many : Int32} {s_ofSide : Int32} {s_ofLamp : Int32} {s_ofStove : Int32} {s_ofNumber : Int32} {s_ofPose : Int32} {s_ofNear : Int32} {s_from : Int32} {s_size : Int32} {s_here : Int32} {s_token : Int32} {s_tokenAt : Int32} {s_tokenWorth : Int64} {s_open : Int32} {s_bad : Int32} {s_fault : Int32} {s_faceWas : Int32} {s_poseWas : Int32} {s_manyKept : Int32} {s_ruleKept : Int32} {s_texts : Nat → Int32} (hZ : ZOK Z) (hf : f_X7_next s_from s_size s_here s_tokenWorth s_texts = some r) :
    CV l D qT Z yX7_next cX7_next 3 none 2 0 0 [.ref a0] [(a0, .inr (7, [.int s_thrown, .ref a_texts, .ref a_textSize, .int s_textCount, .int s_rule, .ref a_tape, .int s_taped, .ref a_room, .ref a_kinds, .ref a_rows, .int s_many, .int s_ofSide, .int s_ofLamp, .int s_ofStove, .int s_ofNumber, .int s_ofPose, .int s_ofNear, .int s_from, .int s_size, .int s_here, .int s_token, .int s_tokenAt, .long s_tokenWorth, .int s_open, .int s_bad, .int s_fault, .ref a_now, .ref a_gained, .ref a_rowsWas, .int s_faceWas, .int s_poseWas, .ref a_roomKept, .ref a_rowsKept, .int s_manyKept, .int s_ruleKept, .ref a_isThere, .ref a_sorts, .ref a_sheetSize, .ref a_items])), (a_texts, .inl (qT 0, 960, .inl s_texts))] [(a0, .inr (7, [.int s_thrown, .ref a_texts, .ref a_textSize, .int s_textCount, .int s_rule, .ref a_tape, .int s_taped, .ref a_room, .ref a_kinds, .ref a_rows, .int s_many, .int s_ofSide, .int s_ofLamp, .int s_ofStove, .int s_ofNumber, .int s_ofPose, .int s_ofNear, .int s_from, .int s_size, .int r.1, .int r.2.1, .int r.2.2.1, .long r.2.2.2, .int s_open, .int s_bad, .int s_fault, .ref a_now, .ref a_gained, .ref a_rowsWas, .int s_faceWas, .int s_poseWas, .ref a_roomKept, .ref a_rowsKept, .int s_manyKept, .int s_ruleKept, .ref a_isThere, .ref a_sorts, .ref a_sheetSize, .ref a_items])), (a_texts, .inl (qT 0, 960, .inl s_texts))] := by
  refine CV_of hZ (by decide) (Nat.le_of_ble_eq_true rfl) ?_
  intro x e1 e2 e3 e4 e5 e6 hin X hR
  subst e1 e2 e3 e4
  exact t_X7_next X e6 hR hf
def f_X7_fail (s_tokenAt : Int32) (s_bad : Int32) (s_fault : Int32) : Option (Int32 × Int32) :=
  if s_bad = 0 then (
  some (1, s_tokenAt)) else (
  some (s_bad, s_fault))
set_option maxRecDepth 100000 in
set_option maxHeartbeats 4000000 in
theorem t_X7_fail {x : VX} {r : Int32 × Int32} {a0 : Nat} {a_texts : Nat} {a_textSize : Nat} {a_tape : Nat} {a_room : Nat} {a_kinds : Nat} {a_rows : Nat} {a_now : Nat} {a_gained : Nat} {a_rowsWas : Nat} {a_roomKept : Nat} {a_rowsKept : Nat} {a_isThere : Nat} {a_sorts : Nat} {a_sheetSize : Nat} {a_items : Nat} {s_thrown : Int32} {s_textCount : Int32} {s_rule : Int32} {s_taped : Int32} {s_many : Int32} {s_ofSide : Int32} {s_ofLamp : Int32} {s_ofStove : Int32} {s_ofNumber : Int32} {s_ofPose : Int32} {s_ofNear : Int32} {s_from : Int32} {s_size : Int32} {s_here : Int32} {s_token : Int32} {s_tokenAt : Int32} {s_tokenWorth : Int64} {s_open : Int32} {s_bad : Int32} {s_fault : Int32} {s_faceWas : Int32} {s_poseWas : Int32} {s_manyKept : Int32} {s_ruleKept : Int32} (X : Cx x cX7_fail RX7 1) (hN : vxn x = 1) (hR : RetV x cX7_fail 0 0 [(a0, .inr (7, [.int s_thrown, .ref a_texts, .ref a_textSize, .int s_textCount, .int s_rule, .ref a_tape, .int s_taped, .ref a_room, .ref a_kinds, .ref a_rows, .int s_many, .int s_ofSide, .int s_ofLamp, .int s_ofStove, .int s_ofNumber, .int s_ofPose, .int s_ofNear, .int s_from, .int s_size, .int s_here, .int s_token, .int s_tokenAt, .long s_tokenWorth, .int s_open, .int r.1, .int r.2, .ref a_now, .ref a_gained, .ref a_rowsWas, .int s_faceWas, .int s_poseWas, .ref a_roomKept, .ref a_rowsKept, .int s_manyKept, .int s_ruleKept, .ref a_isThere, .ref a_sorts, .ref a_sheetSize, .ref a_items]))]) (hf : f_X7_fail s_tokenAt s_bad s_fault = some r) : V x 0 0 [(a0, .inr (7, [.int s_thrown, .ref a_texts, .ref a_textSize, .int s_textCount, .int s_rule, .ref a_tape, .int s_taped, .ref a_room, .ref a_kinds, .ref a_rows, .int s_many, .int s_ofSide, .int s_ofLamp, .int s_ofStove, .int s_ofNumber, .int s_ofPose, .int s_ofNear, .int s_from, .int s_size, .int s_here, .int s_token, .int s_tokenAt, .long s_tokenWorth, .int s_open, .int s_bad, .int s_fault, .ref a_now, .ref a_gained, .ref a_rowsWas, .int s_faceWas, .int s_poseWas, .ref a_roomKept, .ref a_rowsKept, .int s_manyKept, .int s_ruleKept, .ref a_isThere, .ref a_sorts, .ref a_sheetSize, .ref a_items]))] [(0, .ref a0)] 0 [] := by
  unfold f_X7_fail at hf
  refine v_aload_n X 0 rfl dX7_fail_0 ?_
  refine v_get X xinX7 0 rfl rfl 24 (by decide) wd148 rfl rfl dX7_fail_1 ?_
  refine v_if_ne X (tgt := 20) hf (by decide) dX7_fail_4 (fun c4 hf => ?_) (fun c4 hf => ?_)
  · obtain rfl := Option.some.inj hf
    exact v_vret hR dX7_fail_20
  · refine v_aload_n X 0 rfl dX7_fail_7 ?_
    refine v_iconst X (v := 1) (by decide) dX7_fail_8 ?_
    refine v_put X xinX7 tyX7 tyX7_ok nmX7 0 rfl rfl 24 (by decide) wd148 rfl rfl rfl (by decide) rfl (Nat.le_of_ble_eq_true rfl) (ws' := [(a0, .inr (7, [.int s_thrown, .ref a_texts, .ref a_textSize, .int s_textCount, .int s_rule, .ref a_tape, .int s_taped, .ref a_room, .ref a_kinds, .ref a_rows, .int s_many, .int s_ofSide, .int s_ofLamp, .int s_ofStove, .int s_ofNumber, .int s_ofPose, .int s_ofNear, .int s_from, .int s_size, .int s_here, .int s_token, .int s_tokenAt, .long s_tokenWorth, .int s_open, .int 1, .int s_fault, .ref a_now, .ref a_gained, .ref a_rowsWas, .int s_faceWas, .int s_poseWas, .ref a_roomKept, .ref a_rowsKept, .int s_manyKept, .int s_ruleKept, .ref a_isThere, .ref a_sorts, .ref a_sheetSize, .ref a_items]))]) rfl dX7_fail_9 ?_
    refine v_aload_n X 0 rfl dX7_fail_12 ?_
    refine v_aload_n X 0 rfl dX7_fail_13 ?_
    refine v_get X xinX7 0 rfl rfl 21 (by decide) wd141 rfl rfl dX7_fail_14 ?_
    refine v_put X xinX7 tyX7 tyX7_ok nmX7 0 rfl rfl 25 (by decide) wd149 rfl rfl rfl rfl rfl (Nat.le_of_ble_eq_true rfl) (ws' := [(a0, .inr (7, [.int s_thrown, .ref a_texts, .ref a_textSize, .int s_textCount, .int s_rule, .ref a_tape, .int s_taped, .ref a_room, .ref a_kinds, .ref a_rows, .int s_many, .int s_ofSide, .int s_ofLamp, .int s_ofStove, .int s_ofNumber, .int s_ofPose, .int s_ofNear, .int s_from, .int s_size, .int s_here, .int s_token, .int s_tokenAt, .long s_tokenWorth, .int s_open, .int 1, .int s_tokenAt, .ref a_now, .ref a_gained, .ref a_rowsWas, .int s_faceWas, .int s_poseWas, .ref a_roomKept, .ref a_rowsKept, .int s_manyKept, .int s_ruleKept, .ref a_isThere, .ref a_sorts, .ref a_sheetSize, .ref a_items]))]) rfl dX7_fail_17 ?_
    obtain rfl := Option.some.inj hf
    exact v_vret hR dX7_fail_20
set_option maxRecDepth 100000 in
set_option maxHeartbeats 4000000 in
theorem c_X7_fail {l : Launch} {D : va_G} {qT : Nat → ClassId} {Z : (Nat → Prop) → State → Heap → Prop} {r : Int32 × Int32} {a0 : Nat} {a_texts : Nat} {a_textSize : Nat} {a_tape : Nat} {a_room : Nat} {a_kinds : Nat} {a_rows : Nat} {a_now : Nat} {a_gained : Nat} {a_rowsWas : Nat} {a_roomKept : Nat} {a_rowsKept : Nat} {a_isThere : Nat} {a_sorts : Nat} {a_sheetSize : Nat} {a_items : Nat} {s_thrown : Int32} {s_textCount : Int32} {s_rule : Int32} {s_taped : Int32} {s_many : Int32} {s_ofSide : Int32} {s_ofLamp : Int32} {s_ofStove : Int32} {s_ofNumber : Int32} {s_ofPose : Int32} {s_ofNear : Int32} {s_from : Int32} {s_size : Int32} {s_here : Int32} {s_token : Int32} {s_tokenAt : Int32} {s_tokenWorth : Int64} {s_open : Int32} {s_bad : Int32} {s_fault : Int32} {s_faceWas : Int32} {s_poseWas : Int32} {s_manyKept : Int32} {s_ruleKept : Int32} (hZ : ZOK Z) (hf : f_X7_fail s_tokenAt s_bad s_fault = some r) :
    CV l D qT Z yX7_fail cX7_fail 1 none 1 0 0 [.ref a0] [(a0, .inr (7, [.int s_thrown, .ref a_texts, .ref a_textSize, .int s_textCount, .int s_rule, .ref a_tape, .int s_taped, .ref a_room, .ref a_kinds, .ref a_rows, .int s_many, .int s_ofSide, .int s_ofLamp, .int s_ofStove, .int s_ofNumber, .int s_ofPose, .int s_ofNear, .int s_from, .int s_size, .int s_here, .int s_token, .int s_tokenAt, .long s_tokenWorth, .int s_open, .int s_bad, .int s_fault, .ref a_now, .ref a_gained, .ref a_rowsWas, .int s_faceWas, .int s_poseWas, .ref a_roomKept, .ref a_rowsKept, .int s_manyKept, .int s_ruleKept, .ref a_isThere, .ref a_sorts, .ref a_sheetSize, .ref a_items]))] [(a0, .inr (7, [.int s_thrown, .ref a_texts, .ref a_textSize, .int s_textCount, .int s_rule, .ref a_tape, .int s_taped, .ref a_room, .ref a_kinds, .ref a_rows, .int s_many, .int s_ofSide, .int s_ofLamp, .int s_ofStove, .int s_ofNumber, .int s_ofPose, .int s_ofNear, .int s_from, .int s_size, .int s_here, .int s_token, .int s_tokenAt, .long s_tokenWorth, .int s_open, .int r.1, .int r.2, .ref a_now, .ref a_gained, .ref a_rowsWas, .int s_faceWas, .int s_poseWas, .ref a_roomKept, .ref a_rowsKept, .int s_manyKept, .int s_ruleKept, .ref a_isThere, .ref a_sorts, .ref a_sheetSize, .ref a_items]))] := by
  refine CV_of hZ (by decide) (Nat.le_of_ble_eq_true rfl) ?_
  intro x e1 e2 e3 e4 e5 e6 hin X hR
  subst e1 e2 e3 e4
  exact t_X7_fail X e6 hR hf
def f_X7_isLetter (l1 : Int32) (l2 : Int32) (s_from : Int32) (s_size : Int32) (s_here : Int32) (s_tokenAt : Int32) (s_texts : Nat → Int32) : Option (Int32) :=
  if s_here ≤ (s_tokenAt + l1) then (
  if l2 = 0 then (
  some 1) else (
  some 0)) else (
  (f_X7_byteAt (s_tokenAt + l1) s_from s_size s_texts).bind (fun v20_1 =>
  if v20_1 = l2 then (
  some 1) else (
  some 0)))
set_option maxRecDepth 100000 in
set_option maxHeartbeats 4000000 in
theorem t_X7_isLetter {x : VX} {r : Int32} {a0 : Nat} {a_texts : Nat} {a_textSize : Nat} {a_tape : Nat} {a_room : Nat} {a_kinds : Nat} {a_rows : Nat} {a_now : Nat} {a_gained : Nat} {a_rowsWas : Nat} {a_roomKept : Nat} {a_rowsKept : Nat} {a_isThere : Nat} {a_sorts : Nat} {a_sheetSize : Nat} {a_items : Nat} {s_thrown : Int32} {s_textCount : Int32} {s_rule : Int32} {s_taped : Int32} {s_many : Int32} {s_ofSide : Int32} {s_ofLamp : Int32} {s_ofStove : Int32} {s_ofNumber : Int32} {s_ofPose : Int32} {s_ofNear : Int32} {s_from : Int32} {s_size : Int32} {s_here : Int32} {s_token : Int32} {s_tokenAt : Int32} {s_tokenWorth : Int64} {s_open : Int32} {s_bad : Int32} {s_fault : Int32} {s_faceWas : Int32} {s_poseWas : Int32} {s_manyKept : Int32} {s_ruleKept : Int32} {s_texts : Nat → Int32} {l1 : Int32} {l2 : Int32} (X : Cx x cX7_isLetter RX7 2) (hN : vxn x = 3) (hR : narrow .boolean (.int r) = .int r → RetI x cX7_isLetter 0 0 r [(a0, .inr (7, [.int s_thrown, .ref a_texts, .ref a_textSize, .int s_textCount, .int s_rule, .ref a_tape, .int s_taped, .ref a_room, .ref a_kinds, .ref a_rows, .int s_many, .int s_ofSide, .int s_ofLamp, .int s_ofStove, .int s_ofNumber, .int s_ofPose, .int s_ofNear, .int s_from, .int s_size, .int s_here, .int s_token, .int s_tokenAt, .long s_tokenWorth, .int s_open, .int s_bad, .int s_fault, .ref a_now, .ref a_gained, .ref a_rowsWas, .int s_faceWas, .int s_poseWas, .ref a_roomKept, .ref a_rowsKept, .int s_manyKept, .int s_ruleKept, .ref a_isThere, .ref a_sorts, .ref a_sheetSize, .ref a_items])), (a_texts, .inl (vxT x 0, 960, .inl s_texts))]) (hf : f_X7_isLetter l1 l2 s_from s_size s_here s_tokenAt s_texts = some r) : V x 0 0 [(a0, .inr (7, [.int s_thrown, .ref a_texts, .ref a_textSize, .int s_textCount, .int s_rule, .ref a_tape, .int s_taped, .ref a_room, .ref a_kinds, .ref a_rows, .int s_many, .int s_ofSide, .int s_ofLamp, .int s_ofStove, .int s_ofNumber, .int s_ofPose, .int s_ofNear, .int s_from, .int s_size, .int s_here, .int s_token, .int s_tokenAt, .long s_tokenWorth, .int s_open, .int s_bad, .int s_fault, .ref a_now, .ref a_gained, .ref a_rowsWas, .int s_faceWas, .int s_poseWas, .ref a_roomKept, .ref a_rowsKept, .int s_manyKept, .int s_ruleKept, .ref a_isThere, .ref a_sorts, .ref a_sheetSize, .ref a_items])), (a_texts, .inl (vxT x 0, 960, .inl s_texts))] [(0, .ref a0), (1, .int l1), (2, .int l2)] 0 [] := by
  unfold f_X7_isLetter at hf
  refine v_aload_n X 0 rfl dX7_isLetter_0 ?_
  refine v_get X xinX7 0 rfl rfl 21 (by decide) wd141 rfl rfl dX7_isLetter_1 ?_
  refine v_iload_n X 1 rfl dX7_isLetter_4 ?_
  refine v_iadd X dX7_isLetter_5 ?_
  refine v_aload_n X 0 rfl dX7_isLetter_6 ?_
  refine v_get X xinX7 0 rfl rfl 19 (by decide) wd136 rfl rfl dX7_isLetter_7 ?_
  refine v_icmp_ge X (tgt := 35) hf (by decide) dX7_isLetter_10 (fun c10 hf => ?_) (fun c10 hf => ?_)
  · refine v_iload_n X 2 rfl dX7_isLetter_35 ?_
    refine v_if_ne X (tgt := 43) hf (by decide) dX7_isLetter_36 (fun c36 hf => ?_) (fun c36 hf => ?_)
    · refine v_iconst X (v := 0) (by decide) dX7_isLetter_43 ?_
      obtain rfl := Option.some.inj hf
      exact v_iret (hR nz0) dX7_isLetter_44
    · refine v_iconst X (v := 1) (by decide) dX7_isLetter_39 ?_
      refine v_goto X (tgt := 44) (by decide) dX7_isLetter_40 ?_
      obtain rfl := Option.some.inj hf
      exact v_iret (hR nz1) dX7_isLetter_44
  · refine v_aload_n X 0 rfl dX7_isLetter_13 ?_
    refine v_aload_n X 0 rfl dX7_isLetter_14 ?_
    refine v_get X xinX7 0 rfl rfl 21 (by decide) wd141 rfl rfl dX7_isLetter_15 ?_
    refine v_iload_n X 1 rfl dX7_isLetter_18 ?_
    refine v_iadd X dX7_isLetter_19 ?_
    obtain ⟨v20_1, hv20_1, hf⟩ := bd_some hf
    refine v_callI X (c_X7_byteAt X.2.2.2.2.2.2.2.1 hv20_1) cwv_X7_150 rfl (by decide) ⟨Nat.zero_le _, Nat.zero_le _⟩ 0 rfl rfl [0, 1] [] [0, 1] rfl (by decide) (wr := []) rfl (by decide) (by decide) (ws2 := [(a0, .inr (7, [.int s_thrown, .ref a_texts, .ref a_textSize, .int s_textCount, .int s_rule, .ref a_tape, .int s_taped, .ref a_room, .ref a_kinds, .ref a_rows, .int s_many, .int s_ofSide, .int s_ofLamp, .int s_ofStove, .int s_ofNumber, .int s_ofPose, .int s_ofNear, .int s_from, .int s_size, .int s_here, .int s_token, .int s_tokenAt, .long s_tokenWorth, .int s_open, .int s_bad, .int s_fault, .ref a_now, .ref a_gained, .ref a_rowsWas, .int s_faceWas, .int s_poseWas, .ref a_roomKept, .ref a_rowsKept, .int s_manyKept, .int s_ruleKept, .ref a_isThere, .ref a_sorts, .ref a_sheetSize, .ref a_items])), (a_texts, .inl (vxT x 0, 960, .inl s_texts))]) rfl (by decide) (Nat.le_of_ble_eq_true rfl) rfl dX7_isLetter_20 ?_
    refine v_iload_n X 2 rfl dX7_isLetter_23 ?_
    refine v_icmp_ne X (tgt := 31) hf (by decide) dX7_isLetter_24 (fun c24 hf => ?_) (fun c24 hf => ?_)
    · refine v_iconst X (v := 0) (by decide) dX7_isLetter_31 ?_
      refine v_goto X (tgt := 44) (by decide) dX7_isLetter_32 ?_
      obtain rfl := Option.some.inj hf
      exact v_iret (hR nz0) dX7_isLetter_44
    · refine v_iconst X (v := 1) (by decide) dX7_isLetter_27 ?_
      refine v_goto X (tgt := 44) (by decide) dX7_isLetter_28 ?_
      obtain rfl := Option.some.inj hf
      exact v_iret (hR nz1) dX7_isLetter_44
set_option maxRecDepth 100000 in
set_option maxHeartbeats 4000000 in
theorem c_X7_isLetter {l : Launch} {D : va_G} {qT : Nat → ClassId} {Z : (Nat → Prop) → State → Heap → Prop} {r : Int32} {a0 : Nat} {a_texts : Nat} {a_textSize : Nat} {a_tape : Nat} {a_room : Nat} {a_kinds : Nat} {a_rows : Nat} {a_now : Nat} {a_gained : Nat} {a_rowsWas : Nat} {a_roomKept : Nat} {a_rowsKept : Nat} {a_isThere : Nat} {a_sorts : Nat} {a_sheetSize : Nat} {a_items : Nat} {s_thrown : Int32} {s_textCount : Int32} {s_rule : Int32} {s_taped : Int32} {s_many : Int32} {s_ofSide : Int32} {s_ofLamp : Int32} {s_ofStove : Int32} {s_ofNumber : Int32} {s_ofPose : Int32} {s_ofNear : Int32} {s_from : Int32} {s_size : Int32} {s_here : Int32} {s_token : Int32} {s_tokenAt : Int32} {s_tokenWorth : Int64} {s_open : Int32} {s_bad : Int32} {s_fault : Int32} {s_faceWas : Int32} {s_poseWas : Int32} {s_manyKept : Int32} {s_ruleKept : Int32} {s_texts : Nat → Int32} {l1 : Int32} {l2 : Int32} (hZ : ZOK Z) (hf : f_X7_isLetter l1 l2 s_from s_size s_here s_tokenAt s_texts = some r) :
    CI l D qT Z yX7_isLetter cX7_isLetter 3 (some .boolean) 2 0 0 [.ref a0, .int l1, .int l2] [(a0, .inr (7, [.int s_thrown, .ref a_texts, .ref a_textSize, .int s_textCount, .int s_rule, .ref a_tape, .int s_taped, .ref a_room, .ref a_kinds, .ref a_rows, .int s_many, .int s_ofSide, .int s_ofLamp, .int s_ofStove, .int s_ofNumber, .int s_ofPose, .int s_ofNear, .int s_from, .int s_size, .int s_here, .int s_token, .int s_tokenAt, .long s_tokenWorth, .int s_open, .int s_bad, .int s_fault, .ref a_now, .ref a_gained, .ref a_rowsWas, .int s_faceWas, .int s_poseWas, .ref a_roomKept, .ref a_rowsKept, .int s_manyKept, .int s_ruleKept, .ref a_isThere, .ref a_sorts, .ref a_sheetSize, .ref a_items])), (a_texts, .inl (qT 0, 960, .inl s_texts))] r [(a0, .inr (7, [.int s_thrown, .ref a_texts, .ref a_textSize, .int s_textCount, .int s_rule, .ref a_tape, .int s_taped, .ref a_room, .ref a_kinds, .ref a_rows, .int s_many, .int s_ofSide, .int s_ofLamp, .int s_ofStove, .int s_ofNumber, .int s_ofPose, .int s_ofNear, .int s_from, .int s_size, .int s_here, .int s_token, .int s_tokenAt, .long s_tokenWorth, .int s_open, .int s_bad, .int s_fault, .ref a_now, .ref a_gained, .ref a_rowsWas, .int s_faceWas, .int s_poseWas, .ref a_roomKept, .ref a_rowsKept, .int s_manyKept, .int s_ruleKept, .ref a_isThere, .ref a_sorts, .ref a_sheetSize, .ref a_items])), (a_texts, .inl (qT 0, 960, .inl s_texts))] := by
  refine CZ_of hZ (by decide) (Nat.le_of_ble_eq_true rfl) ?_
  intro x e1 e2 e3 e4 e5 e6 hin X hR
  subst e1 e2 e3 e4
  exact t_X7_isLetter X e6 hR hf
def f_X7_isWord (l1 : Int32) (l2 : Int32) (l3 : Int32) (l4 : Int32) (l5 : Int32) (l6 : Int32) (l7 : Int32) (l8 : Int32) (s_from : Int32) (s_size : Int32) (s_here : Int32) (s_token : Int32) (s_tokenAt : Int32) (s_bad : Int32) (s_texts : Nat → Int32) : Option (Int32) :=
  if s_bad = 0 then (
  if s_token = 1 then (
  if (s_tokenAt + 8) < s_here then (
  some 0) else (
  (f_X7_isLetter 0 l1 s_from s_size s_here s_tokenAt s_texts).bind (fun v32_1 =>
  if v32_1 = 0 then (
  some 0) else (
  (f_X7_isLetter 1 l2 s_from s_size s_here s_tokenAt s_texts).bind (fun v41_2 =>
  if v41_2 = 0 then (
  some 0) else (
  (f_X7_isLetter 2 l3 s_from s_size s_here s_tokenAt s_texts).bind (fun v50_3 =>
  if v50_3 = 0 then (
  some 0) else (
  (f_X7_isLetter 3 l4 s_from s_size s_here s_tokenAt s_texts).bind (fun v60_4 =>
  if v60_4 = 0 then (
  some 0) else (
  (f_X7_isLetter 4 l5 s_from s_size s_here s_tokenAt s_texts).bind (fun v70_5 =>
  if v70_5 = 0 then (
  some 0) else (
  (f_X7_isLetter 5 l6 s_from s_size s_here s_tokenAt s_texts).bind (fun v80_6 =>
  if v80_6 = 0 then (
  some 0) else (
  (f_X7_isLetter 6 l7 s_from s_size s_here s_tokenAt s_texts).bind (fun v91_7 =>
  if v91_7 = 0 then (
  some 0) else (
  (f_X7_isLetter 7 l8 s_from s_size s_here s_tokenAt s_texts).bind (fun v102_8 =>
  if v102_8 = 0 then (
  some 0) else (
  some 1)))))))))))))))))) else (
  some 0)) else (
  some 0)
set_option maxRecDepth 100000 in
set_option maxHeartbeats 4000000 in
theorem t_X7_isWord {x : VX} {r : Int32} {a0 : Nat} {a_texts : Nat} {a_textSize : Nat} {a_tape : Nat} {a_room : Nat} {a_kinds : Nat} {a_rows : Nat} {a_now : Nat} {a_gained : Nat} {a_rowsWas : Nat} {a_roomKept : Nat} {a_rowsKept : Nat} {a_isThere : Nat} {a_sorts : Nat} {a_sheetSize : Nat} {a_items : Nat} {s_thrown : Int32} {s_textCount : Int32} {s_rule : Int32} {s_taped : Int32} {s_many : Int32} {s_ofSide : Int32} {s_ofLamp : Int32} {s_ofStove : Int32} {s_ofNumber : Int32} {s_ofPose : Int32} {s_ofNear : Int32} {s_from : Int32} {s_size : Int32} {s_here : Int32} {s_token : Int32} {s_tokenAt : Int32} {s_tokenWorth : Int64} {s_open : Int32} {s_bad : Int32} {s_fault : Int32} {s_faceWas : Int32} {s_poseWas : Int32} {s_manyKept : Int32} {s_ruleKept : Int32} {s_texts : Nat → Int32} {l1 : Int32} {l2 : Int32} {l3 : Int32} {l4 : Int32} {l5 : Int32} {l6 : Int32} {l7 : Int32} {l8 : Int32} (X : Cx x cX7_isWord RX7 3) (hN : vxn x = 9) (hR : narrow .boolean (.int r) = .int r → RetI x cX7_isWord 0 0 r [(a0, .inr (7, [.int s_thrown, .ref a_texts, .ref a_textSize, .int s_textCount, .int s_rule, .ref a_tape, .int s_taped, .ref a_room, .ref a_kinds, .ref a_rows, .int s_many, .int s_ofSide, .int s_ofLamp, .int s_ofStove, .int s_ofNumber, .int s_ofPose, .int s_ofNear, .int s_from, .int s_size, .int s_here, .int s_token, .int s_tokenAt, .long s_tokenWorth, .int s_open, .int s_bad, .int s_fault, .ref a_now, .ref a_gained, .ref a_rowsWas, .int s_faceWas, .int s_poseWas, .ref a_roomKept, .ref a_rowsKept, .int s_manyKept, .int s_ruleKept, .ref a_isThere, .ref a_sorts, .ref a_sheetSize, .ref a_items])), (a_texts, .inl (vxT x 0, 960, .inl s_texts))]) (hf : f_X7_isWord l1 l2 l3 l4 l5 l6 l7 l8 s_from s_size s_here s_token s_tokenAt s_bad s_texts = some r) : V x 0 0 [(a0, .inr (7, [.int s_thrown, .ref a_texts, .ref a_textSize, .int s_textCount, .int s_rule, .ref a_tape, .int s_taped, .ref a_room, .ref a_kinds, .ref a_rows, .int s_many, .int s_ofSide, .int s_ofLamp, .int s_ofStove, .int s_ofNumber, .int s_ofPose, .int s_ofNear, .int s_from, .int s_size, .int s_here, .int s_token, .int s_tokenAt, .long s_tokenWorth, .int s_open, .int s_bad, .int s_fault, .ref a_now, .ref a_gained, .ref a_rowsWas, .int s_faceWas, .int s_poseWas, .ref a_roomKept, .ref a_rowsKept, .int s_manyKept, .int s_ruleKept, .ref a_isThere, .ref a_sorts, .ref a_sheetSize, .ref a_items])), (a_texts, .inl (vxT x 0, 960, .inl s_texts))] [(0, .ref a0), (1, .int l1), (2, .int l2), (3, .int l3), (4, .int l4), (5, .int l5), (6, .int l6), (7, .int l7), (8, .int l8)] 0 [] := by
  unfold f_X7_isWord at hf
  refine v_aload_n X 0 rfl dX7_isWord_0 ?_
  refine v_get X xinX7 0 rfl rfl 24 (by decide) wd148 rfl rfl dX7_isWord_1 ?_
  refine v_if_ne X (tgt := 112) hf (by decide) dX7_isWord_4 (fun c4 hf => ?_) (fun c4 hf => ?_)
  · refine v_iconst X (v := 0) (by decide) dX7_isWord_112 ?_
    obtain rfl := Option.some.inj hf
    exact v_iret (hR nz0) dX7_isWord_113
  · refine v_aload_n X 0 rfl dX7_isWord_7 ?_
    refine v_get X xinX7 0 rfl rfl 20 (by decide) wd142 rfl rfl dX7_isWord_8 ?_
    refine v_iconst X (v := 1) (by decide) dX7_isWord_11 ?_
    refine v_icmp_ne X (tgt := 112) hf (by decide) dX7_isWord_12 (fun c12 hf => ?_) (fun c12 hf => ?_)
    · refine v_iconst X (v := 0) (by decide) dX7_isWord_112 ?_
      obtain rfl := Option.some.inj hf
      exact v_iret (hR nz0) dX7_isWord_113
    · refine v_aload_n X 0 rfl dX7_isWord_15 ?_
      refine v_get X xinX7 0 rfl rfl 19 (by decide) wd136 rfl rfl dX7_isWord_16 ?_
      refine v_aload_n X 0 rfl dX7_isWord_19 ?_
      refine v_get X xinX7 0 rfl rfl 21 (by decide) wd141 rfl rfl dX7_isWord_20 ?_
      refine v_bipush X (v := 8) (by decide) dX7_isWord_23 ?_
      refine v_iadd X dX7_isWord_25 ?_
      refine v_icmp_gt X (tgt := 112) hf (by decide) dX7_isWord_26 (fun c26 hf => ?_) (fun c26 hf => ?_)
      · refine v_iconst X (v := 0) (by decide) dX7_isWord_112 ?_
        obtain rfl := Option.some.inj hf
        exact v_iret (hR nz0) dX7_isWord_113
      · refine v_aload_n X 0 rfl dX7_isWord_29 ?_
        refine v_iconst X (v := 0) (by decide) dX7_isWord_30 ?_
        refine v_iload_n X 1 rfl dX7_isWord_31 ?_
        obtain ⟨v32_1, hv32_1, hf⟩ := bd_some hf
        refine v_callI X (c_X7_isLetter X.2.2.2.2.2.2.2.1 hv32_1) cwv_X7_178 rfl (by decide) ⟨Nat.zero_le _, Nat.zero_le _⟩ 0 rfl rfl [0, 1] [] [0, 1] rfl (by decide) (wr := []) rfl (by decide) (by decide) (ws2 := [(a0, .inr (7, [.int s_thrown, .ref a_texts, .ref a_textSize, .int s_textCount, .int s_rule, .ref a_tape, .int s_taped, .ref a_room, .ref a_kinds, .ref a_rows, .int s_many, .int s_ofSide, .int s_ofLamp, .int s_ofStove, .int s_ofNumber, .int s_ofPose, .int s_ofNear, .int s_from, .int s_size, .int s_here, .int s_token, .int s_tokenAt, .long s_tokenWorth, .int s_open, .int s_bad, .int s_fault, .ref a_now, .ref a_gained, .ref a_rowsWas, .int s_faceWas, .int s_poseWas, .ref a_roomKept, .ref a_rowsKept, .int s_manyKept, .int s_ruleKept, .ref a_isThere, .ref a_sorts, .ref a_sheetSize, .ref a_items])), (a_texts, .inl (vxT x 0, 960, .inl s_texts))]) rfl (by decide) (Nat.le_of_ble_eq_true rfl) rfl dX7_isWord_32 ?_
        refine v_if_eq X (tgt := 112) hf (by decide) dX7_isWord_35 (fun c35 hf => ?_) (fun c35 hf => ?_)
        · refine v_iconst X (v := 0) (by decide) dX7_isWord_112 ?_
          obtain rfl := Option.some.inj hf
          exact v_iret (hR nz0) dX7_isWord_113
        · refine v_aload_n X 0 rfl dX7_isWord_38 ?_
          refine v_iconst X (v := 1) (by decide) dX7_isWord_39 ?_
          refine v_iload_n X 2 rfl dX7_isWord_40 ?_
          obtain ⟨v41_2, hv41_2, hf⟩ := bd_some hf
          refine v_callI X (c_X7_isLetter X.2.2.2.2.2.2.2.1 hv41_2) cwv_X7_178 rfl (by decide) ⟨Nat.zero_le _, Nat.zero_le _⟩ 0 rfl rfl [0, 1] [] [0, 1] rfl (by decide) (wr := []) rfl (by decide) (by decide) (ws2 := [(a0, .inr (7, [.int s_thrown, .ref a_texts, .ref a_textSize, .int s_textCount, .int s_rule, .ref a_tape, .int s_taped, .ref a_room, .ref a_kinds, .ref a_rows, .int s_many, .int s_ofSide, .int s_ofLamp, .int s_ofStove, .int s_ofNumber, .int s_ofPose, .int s_ofNear, .int s_from, .int s_size, .int s_here, .int s_token, .int s_tokenAt, .long s_tokenWorth, .int s_open, .int s_bad, .int s_fault, .ref a_now, .ref a_gained, .ref a_rowsWas, .int s_faceWas, .int s_poseWas, .ref a_roomKept, .ref a_rowsKept, .int s_manyKept, .int s_ruleKept, .ref a_isThere, .ref a_sorts, .ref a_sheetSize, .ref a_items])), (a_texts, .inl (vxT x 0, 960, .inl s_texts))]) rfl (by decide) (Nat.le_of_ble_eq_true rfl) rfl dX7_isWord_41 ?_
          refine v_if_eq X (tgt := 112) hf (by decide) dX7_isWord_44 (fun c44 hf => ?_) (fun c44 hf => ?_)
          · refine v_iconst X (v := 0) (by decide) dX7_isWord_112 ?_
            obtain rfl := Option.some.inj hf
            exact v_iret (hR nz0) dX7_isWord_113
          · refine v_aload_n X 0 rfl dX7_isWord_47 ?_
            refine v_iconst X (v := 2) (by decide) dX7_isWord_48 ?_
            refine v_iload_n X 3 rfl dX7_isWord_49 ?_
            obtain ⟨v50_3, hv50_3, hf⟩ := bd_some hf
            refine v_callI X (c_X7_isLetter X.2.2.2.2.2.2.2.1 hv50_3) cwv_X7_178 rfl (by decide) ⟨Nat.zero_le _, Nat.zero_le _⟩ 0 rfl rfl [0, 1] [] [0, 1] rfl (by decide) (wr := []) rfl (by decide) (by decide) (ws2 := [(a0, .inr (7, [.int s_thrown, .ref a_texts, .ref a_textSize, .int s_textCount, .int s_rule, .ref a_tape, .int s_taped, .ref a_room, .ref a_kinds, .ref a_rows, .int s_many, .int s_ofSide, .int s_ofLamp, .int s_ofStove, .int s_ofNumber, .int s_ofPose, .int s_ofNear, .int s_from, .int s_size, .int s_here, .int s_token, .int s_tokenAt, .long s_tokenWorth, .int s_open, .int s_bad, .int s_fault, .ref a_now, .ref a_gained, .ref a_rowsWas, .int s_faceWas, .int s_poseWas, .ref a_roomKept, .ref a_rowsKept, .int s_manyKept, .int s_ruleKept, .ref a_isThere, .ref a_sorts, .ref a_sheetSize, .ref a_items])), (a_texts, .inl (vxT x 0, 960, .inl s_texts))]) rfl (by decide) (Nat.le_of_ble_eq_true rfl) rfl dX7_isWord_50 ?_
            refine v_if_eq X (tgt := 112) hf (by decide) dX7_isWord_53 (fun c53 hf => ?_) (fun c53 hf => ?_)
            · refine v_iconst X (v := 0) (by decide) dX7_isWord_112 ?_
              obtain rfl := Option.some.inj hf
              exact v_iret (hR nz0) dX7_isWord_113
            · refine v_aload_n X 0 rfl dX7_isWord_56 ?_
              refine v_iconst X (v := 3) (by decide) dX7_isWord_57 ?_
              refine v_iload X 4 rfl dX7_isWord_58 ?_
              obtain ⟨v60_4, hv60_4, hf⟩ := bd_some hf
              refine v_callI X (c_X7_isLetter X.2.2.2.2.2.2.2.1 hv60_4) cwv_X7_178 rfl (by decide) ⟨Nat.zero_le _, Nat.zero_le _⟩ 0 rfl rfl [0, 1] [] [0, 1] rfl (by decide) (wr := []) rfl (by decide) (by decide) (ws2 := [(a0, .inr (7, [.int s_thrown, .ref a_texts, .ref a_textSize, .int s_textCount, .int s_rule, .ref a_tape, .int s_taped, .ref a_room, .ref a_kinds, .ref a_rows, .int s_many, .int s_ofSide, .int s_ofLamp, .int s_ofStove, .int s_ofNumber, .int s_ofPose, .int s_ofNear, .int s_from, .int s_size, .int s_here, .int s_token, .int s_tokenAt, .long s_tokenWorth, .int s_open, .int s_bad, .int s_fault, .ref a_now, .ref a_gained, .ref a_rowsWas, .int s_faceWas, .int s_poseWas, .ref a_roomKept, .ref a_rowsKept, .int s_manyKept, .int s_ruleKept, .ref a_isThere, .ref a_sorts, .ref a_sheetSize, .ref a_items])), (a_texts, .inl (vxT x 0, 960, .inl s_texts))]) rfl (by decide) (Nat.le_of_ble_eq_true rfl) rfl dX7_isWord_60 ?_
              refine v_if_eq X (tgt := 112) hf (by decide) dX7_isWord_63 (fun c63 hf => ?_) (fun c63 hf => ?_)
              · refine v_iconst X (v := 0) (by decide) dX7_isWord_112 ?_
                obtain rfl := Option.some.inj hf
                exact v_iret (hR nz0) dX7_isWord_113
              · refine v_aload_n X 0 rfl dX7_isWord_66 ?_
                refine v_iconst X (v := 4) (by decide) dX7_isWord_67 ?_
                refine v_iload X 5 rfl dX7_isWord_68 ?_
                obtain ⟨v70_5, hv70_5, hf⟩ := bd_some hf
                refine v_callI X (c_X7_isLetter X.2.2.2.2.2.2.2.1 hv70_5) cwv_X7_178 rfl (by decide) ⟨Nat.zero_le _, Nat.zero_le _⟩ 0 rfl rfl [0, 1] [] [0, 1] rfl (by decide) (wr := []) rfl (by decide) (by decide) (ws2 := [(a0, .inr (7, [.int s_thrown, .ref a_texts, .ref a_textSize, .int s_textCount, .int s_rule, .ref a_tape, .int s_taped, .ref a_room, .ref a_kinds, .ref a_rows, .int s_many, .int s_ofSide, .int s_ofLamp, .int s_ofStove, .int s_ofNumber, .int s_ofPose, .int s_ofNear, .int s_from, .int s_size, .int s_here, .int s_token, .int s_tokenAt, .long s_tokenWorth, .int s_open, .int s_bad, .int s_fault, .ref a_now, .ref a_gained, .ref a_rowsWas, .int s_faceWas, .int s_poseWas, .ref a_roomKept, .ref a_rowsKept, .int s_manyKept, .int s_ruleKept, .ref a_isThere, .ref a_sorts, .ref a_sheetSize, .ref a_items])), (a_texts, .inl (vxT x 0, 960, .inl s_texts))]) rfl (by decide) (Nat.le_of_ble_eq_true rfl) rfl dX7_isWord_70 ?_
                refine v_if_eq X (tgt := 112) hf (by decide) dX7_isWord_73 (fun c73 hf => ?_) (fun c73 hf => ?_)
                · refine v_iconst X (v := 0) (by decide) dX7_isWord_112 ?_
                  obtain rfl := Option.some.inj hf
                  exact v_iret (hR nz0) dX7_isWord_113
                · refine v_aload_n X 0 rfl dX7_isWord_76 ?_
                  refine v_iconst X (v := 5) (by decide) dX7_isWord_77 ?_
                  refine v_iload X 6 rfl dX7_isWord_78 ?_
                  obtain ⟨v80_6, hv80_6, hf⟩ := bd_some hf
                  refine v_callI X (c_X7_isLetter X.2.2.2.2.2.2.2.1 hv80_6) cwv_X7_178 rfl (by decide) ⟨Nat.zero_le _, Nat.zero_le _⟩ 0 rfl rfl [0, 1] [] [0, 1] rfl (by decide) (wr := []) rfl (by decide) (by decide) (ws2 := [(a0, .inr (7, [.int s_thrown, .ref a_texts, .ref a_textSize, .int s_textCount, .int s_rule, .ref a_tape, .int s_taped, .ref a_room, .ref a_kinds, .ref a_rows, .int s_many, .int s_ofSide, .int s_ofLamp, .int s_ofStove, .int s_ofNumber, .int s_ofPose, .int s_ofNear, .int s_from, .int s_size, .int s_here, .int s_token, .int s_tokenAt, .long s_tokenWorth, .int s_open, .int s_bad, .int s_fault, .ref a_now, .ref a_gained, .ref a_rowsWas, .int s_faceWas, .int s_poseWas, .ref a_roomKept, .ref a_rowsKept, .int s_manyKept, .int s_ruleKept, .ref a_isThere, .ref a_sorts, .ref a_sheetSize, .ref a_items])), (a_texts, .inl (vxT x 0, 960, .inl s_texts))]) rfl (by decide) (Nat.le_of_ble_eq_true rfl) rfl dX7_isWord_80 ?_
                  refine v_if_eq X (tgt := 112) hf (by decide) dX7_isWord_83 (fun c83 hf => ?_) (fun c83 hf => ?_)
                  · refine v_iconst X (v := 0) (by decide) dX7_isWord_112 ?_
                    obtain rfl := Option.some.inj hf
                    exact v_iret (hR nz0) dX7_isWord_113
                  · refine v_aload_n X 0 rfl dX7_isWord_86 ?_
                    refine v_bipush X (v := 6) (by decide) dX7_isWord_87 ?_
                    refine v_iload X 7 rfl dX7_isWord_89 ?_
                    obtain ⟨v91_7, hv91_7, hf⟩ := bd_some hf
                    refine v_callI X (c_X7_isLetter X.2.2.2.2.2.2.2.1 hv91_7) cwv_X7_178 rfl (by decide) ⟨Nat.zero_le _, Nat.zero_le _⟩ 0 rfl rfl [0, 1] [] [0, 1] rfl (by decide) (wr := []) rfl (by decide) (by decide) (ws2 := [(a0, .inr (7, [.int s_thrown, .ref a_texts, .ref a_textSize, .int s_textCount, .int s_rule, .ref a_tape, .int s_taped, .ref a_room, .ref a_kinds, .ref a_rows, .int s_many, .int s_ofSide, .int s_ofLamp, .int s_ofStove, .int s_ofNumber, .int s_ofPose, .int s_ofNear, .int s_from, .int s_size, .int s_here, .int s_token, .int s_tokenAt, .long s_tokenWorth, .int s_open, .int s_bad, .int s_fault, .ref a_now, .ref a_gained, .ref a_rowsWas, .int s_faceWas, .int s_poseWas, .ref a_roomKept, .ref a_rowsKept, .int s_manyKept, .int s_ruleKept, .ref a_isThere, .ref a_sorts, .ref a_sheetSize, .ref a_items])), (a_texts, .inl (vxT x 0, 960, .inl s_texts))]) rfl (by decide) (Nat.le_of_ble_eq_true rfl) rfl dX7_isWord_91 ?_
                    refine v_if_eq X (tgt := 112) hf (by decide) dX7_isWord_94 (fun c94 hf => ?_) (fun c94 hf => ?_)
                    · refine v_iconst X (v := 0) (by decide) dX7_isWord_112 ?_
                      obtain rfl := Option.some.inj hf
                      exact v_iret (hR nz0) dX7_isWord_113
                    · refine v_aload_n X 0 rfl dX7_isWord_97 ?_
                      refine v_bipush X (v := 7) (by decide) dX7_isWord_98 ?_
                      refine v_iload X 8 rfl dX7_isWord_100 ?_
                      obtain ⟨v102_8, hv102_8, hf⟩ := bd_some hf
                      refine v_callI X (c_X7_isLetter X.2.2.2.2.2.2.2.1 hv102_8) cwv_X7_178 rfl (by decide) ⟨Nat.zero_le _, Nat.zero_le _⟩ 0 rfl rfl [0, 1] [] [0, 1] rfl (by decide) (wr := []) rfl (by decide) (by decide) (ws2 := [(a0, .inr (7, [.int s_thrown, .ref a_texts, .ref a_textSize, .int s_textCount, .int s_rule, .ref a_tape, .int s_taped, .ref a_room, .ref a_kinds, .ref a_rows, .int s_many, .int s_ofSide, .int s_ofLamp, .int s_ofStove, .int s_ofNumber, .int s_ofPose, .int s_ofNear, .int s_from, .int s_size, .int s_here, .int s_token, .int s_tokenAt, .long s_tokenWorth, .int s_open, .int s_bad, .int s_fault, .ref a_now, .ref a_gained, .ref a_rowsWas, .int s_faceWas, .int s_poseWas, .ref a_roomKept, .ref a_rowsKept, .int s_manyKept, .int s_ruleKept, .ref a_isThere, .ref a_sorts, .ref a_sheetSize, .ref a_items])), (a_texts, .inl (vxT x 0, 960, .inl s_texts))]) rfl (by decide) (Nat.le_of_ble_eq_true rfl) rfl dX7_isWord_102 ?_
                      refine v_if_eq X (tgt := 112) hf (by decide) dX7_isWord_105 (fun c105 hf => ?_) (fun c105 hf => ?_)
                      · refine v_iconst X (v := 0) (by decide) dX7_isWord_112 ?_
                        obtain rfl := Option.some.inj hf
                        exact v_iret (hR nz0) dX7_isWord_113
                      · refine v_iconst X (v := 1) (by decide) dX7_isWord_108 ?_
                        refine v_goto X (tgt := 113) (by decide) dX7_isWord_109 ?_
                        obtain rfl := Option.some.inj hf
                        exact v_iret (hR nz1) dX7_isWord_113
set_option maxRecDepth 100000 in
set_option maxHeartbeats 4000000 in
theorem c_X7_isWord {l : Launch} {D : va_G} {qT : Nat → ClassId} {Z : (Nat → Prop) → State → Heap → Prop} {r : Int32} {a0 : Nat} {a_texts : Nat} {a_textSize : Nat} {a_tape : Nat} {a_room : Nat} {a_kinds : Nat} {a_rows : Nat} {a_now : Nat} {a_gained : Nat} {a_rowsWas : Nat} {a_roomKept : Nat} {a_rowsKept : Nat} {a_isThere : Nat} {a_sorts : Nat} {a_sheetSize : Nat} {a_items : Nat} {s_thrown : Int32} {s_textCount : Int32} {s_rule : Int32} {s_taped : Int32} {s_many : Int32} {s_ofSide : Int32} {s_ofLamp : Int32} {s_ofStove : Int32} {s_ofNumber : Int32} {s_ofPose : Int32} {s_ofNear : Int32} {s_from : Int32} {s_size : Int32} {s_here : Int32} {s_token : Int32} {s_tokenAt : Int32} {s_tokenWorth : Int64} {s_open : Int32} {s_bad : Int32} {s_fault : Int32} {s_faceWas : Int32} {s_poseWas : Int32} {s_manyKept : Int32} {s_ruleKept : Int32} {s_texts : Nat → Int32} {l1 : Int32} {l2 : Int32} {l3 : Int32} {l4 : Int32} {l5 : Int32} {l6 : Int32} {l7 : Int32} {l8 : Int32} (hZ : ZOK Z) (hf : f_X7_isWord l1 l2 l3 l4 l5 l6 l7 l8 s_from s_size s_here s_token s_tokenAt s_bad s_texts = some r) :
    CI l D qT Z yX7_isWord cX7_isWord 9 (some .boolean) 3 0 0 [.ref a0, .int l1, .int l2, .int l3, .int l4, .int l5, .int l6, .int l7, .int l8] [(a0, .inr (7, [.int s_thrown, .ref a_texts, .ref a_textSize, .int s_textCount, .int s_rule, .ref a_tape, .int s_taped, .ref a_room, .ref a_kinds, .ref a_rows, .int s_many, .int s_ofSide, .int s_ofLamp, .int s_ofStove, .int s_ofNumber, .int s_ofPose, .int s_ofNear, .int s_from, .int s_size, .int s_here, .int s_token, .int s_tokenAt, .long s_tokenWorth, .int s_open, .int s_bad, .int s_fault, .ref a_now, .ref a_gained, .ref a_rowsWas, .int s_faceWas, .int s_poseWas, .ref a_roomKept, .ref a_rowsKept, .int s_manyKept, .int s_ruleKept, .ref a_isThere, .ref a_sorts, .ref a_sheetSize, .ref a_items])), (a_texts, .inl (qT 0, 960, .inl s_texts))] r [(a0, .inr (7, [.int s_thrown, .ref a_texts, .ref a_textSize, .int s_textCount, .int s_rule, .ref a_tape, .int s_taped, .ref a_room, .ref a_kinds, .ref a_rows, .int s_many, .int s_ofSide, .int s_ofLamp, .int s_ofStove, .int s_ofNumber, .int s_ofPose, .int s_ofNear, .int s_from, .int s_size, .int s_here, .int s_token, .int s_tokenAt, .long s_tokenWorth, .int s_open, .int s_bad, .int s_fault, .ref a_now, .ref a_gained, .ref a_rowsWas, .int s_faceWas, .int s_poseWas, .ref a_roomKept, .ref a_rowsKept, .int s_manyKept, .int s_ruleKept, .ref a_isThere, .ref a_sorts, .ref a_sheetSize, .ref a_items])), (a_texts, .inl (qT 0, 960, .inl s_texts))] := by
  refine CZ_of hZ (by decide) (Nat.le_of_ble_eq_true rfl) ?_
  intro x e1 e2 e3 e4 e5 e6 hin X hR
  subst e1 e2 e3 e4
  exact t_X7_isWord X e6 hR hf
def f_X7_isSign (l1 : Int32) (s_token : Int32) (s_tokenWorth : Int64) (s_bad : Int32) : Option (Int32) :=
  if s_bad = 0 then (
  if s_token = 3 then (
  if (lg_cmp s_tokenWorth (Int32.toInt64 l1)) = 0 then (
  some 1) else (
  some 0)) else (
  some 0)) else (
  some 0)
set_option maxRecDepth 100000 in
set_option maxHeartbeats 4000000 in
theorem t_X7_isSign {x : VX} {r : Int32} {a0 : Nat} {a_texts : Nat} {a_textSize : Nat} {a_tape : Nat} {a_room : Nat} {a_kinds : Nat} {a_rows : Nat} {a_now : Nat} {a_gained : Nat} {a_rowsWas : Nat} {a_roomKept : Nat} {a_rowsKept : Nat} {a_isThere : Nat} {a_sorts : Nat} {a_sheetSize : Nat} {a_items : Nat} {s_thrown : Int32} {s_textCount : Int32} {s_rule : Int32} {s_taped : Int32} {s_many : Int32} {s_ofSide : Int32} {s_ofLamp : Int32} {s_ofStove : Int32} {s_ofNumber : Int32} {s_ofPose : Int32} {s_ofNear : Int32} {s_from : Int32} {s_size : Int32} {s_here : Int32} {s_token : Int32} {s_tokenAt : Int32} {s_tokenWorth : Int64} {s_open : Int32} {s_bad : Int32} {s_fault : Int32} {s_faceWas : Int32} {s_poseWas : Int32} {s_manyKept : Int32} {s_ruleKept : Int32} {l1 : Int32} (X : Cx x cX7_isSign RX7 1) (hN : vxn x = 2) (hR : narrow .boolean (.int r) = .int r → RetI x cX7_isSign 0 0 r [(a0, .inr (7, [.int s_thrown, .ref a_texts, .ref a_textSize, .int s_textCount, .int s_rule, .ref a_tape, .int s_taped, .ref a_room, .ref a_kinds, .ref a_rows, .int s_many, .int s_ofSide, .int s_ofLamp, .int s_ofStove, .int s_ofNumber, .int s_ofPose, .int s_ofNear, .int s_from, .int s_size, .int s_here, .int s_token, .int s_tokenAt, .long s_tokenWorth, .int s_open, .int s_bad, .int s_fault, .ref a_now, .ref a_gained, .ref a_rowsWas, .int s_faceWas, .int s_poseWas, .ref a_roomKept, .ref a_rowsKept, .int s_manyKept, .int s_ruleKept, .ref a_isThere, .ref a_sorts, .ref a_sheetSize, .ref a_items]))]) (hf : f_X7_isSign l1 s_token s_tokenWorth s_bad = some r) : V x 0 0 [(a0, .inr (7, [.int s_thrown, .ref a_texts, .ref a_textSize, .int s_textCount, .int s_rule, .ref a_tape, .int s_taped, .ref a_room, .ref a_kinds, .ref a_rows, .int s_many, .int s_ofSide, .int s_ofLamp, .int s_ofStove, .int s_ofNumber, .int s_ofPose, .int s_ofNear, .int s_from, .int s_size, .int s_here, .int s_token, .int s_tokenAt, .long s_tokenWorth, .int s_open, .int s_bad, .int s_fault, .ref a_now, .ref a_gained, .ref a_rowsWas, .int s_faceWas, .int s_poseWas, .ref a_roomKept, .ref a_rowsKept, .int s_manyKept, .int s_ruleKept, .ref a_isThere, .ref a_sorts, .ref a_sheetSize, .ref a_items]))] [(0, .ref a0), (1, .int l1)] 0 [] := by
  unfold f_X7_isSign at hf
  refine v_aload_n X 0 rfl dX7_isSign_0 ?_
  refine v_get X xinX7 0 rfl rfl 24 (by decide) wd148 rfl rfl dX7_isSign_1 ?_
  refine v_if_ne X (tgt := 29) hf (by decide) dX7_isSign_4 (fun c4 hf => ?_) (fun c4 hf => ?_)
  · refine v_iconst X (v := 0) (by decide) dX7_isSign_29 ?_
    obtain rfl := Option.some.inj hf
    exact v_iret (hR nz0) dX7_isSign_30
  · refine v_aload_n X 0 rfl dX7_isSign_7 ?_
    refine v_get X xinX7 0 rfl rfl 20 (by decide) wd142 rfl rfl dX7_isSign_8 ?_
    refine v_iconst X (v := 3) (by decide) dX7_isSign_11 ?_
    refine v_icmp_ne X (tgt := 29) hf (by decide) dX7_isSign_12 (fun c12 hf => ?_) (fun c12 hf => ?_)
    · refine v_iconst X (v := 0) (by decide) dX7_isSign_29 ?_
      obtain rfl := Option.some.inj hf
      exact v_iret (hR nz0) dX7_isSign_30
    · refine v_aload_n X 0 rfl dX7_isSign_15 ?_
      refine v_get X xinX7 0 rfl rfl 22 (by decide) wd147 rfl rfl dX7_isSign_16 ?_
      refine v_iload_n X 1 rfl dX7_isSign_19 ?_
      refine v_i2l X dX7_isSign_20 ?_
      refine v_lcmp X dX7_isSign_21 ?_
      refine v_if_ne X (tgt := 29) hf (by decide) dX7_isSign_22 (fun c22 hf => ?_) (fun c22 hf => ?_)
      · refine v_iconst X (v := 0) (by decide) dX7_isSign_29 ?_
        obtain rfl := Option.some.inj hf
        exact v_iret (hR nz0) dX7_isSign_30
      · refine v_iconst X (v := 1) (by decide) dX7_isSign_25 ?_
        refine v_goto X (tgt := 30) (by decide) dX7_isSign_26 ?_
        obtain rfl := Option.some.inj hf
        exact v_iret (hR nz1) dX7_isSign_30
set_option maxRecDepth 100000 in
set_option maxHeartbeats 4000000 in
theorem c_X7_isSign {l : Launch} {D : va_G} {qT : Nat → ClassId} {Z : (Nat → Prop) → State → Heap → Prop} {r : Int32} {a0 : Nat} {a_texts : Nat} {a_textSize : Nat} {a_tape : Nat} {a_room : Nat} {a_kinds : Nat} {a_rows : Nat} {a_now : Nat} {a_gained : Nat} {a_rowsWas : Nat} {a_roomKept : Nat} {a_rowsKept : Nat} {a_isThere : Nat} {a_sorts : Nat} {a_sheetSize : Nat} {a_items : Nat} {s_thrown : Int32} {s_textCount : Int32} {s_rule : Int32} {s_taped : Int32} {s_many : Int32} {s_ofSide : Int32} {s_ofLamp : Int32} {s_ofStove : Int32} {s_ofNumber : Int32} {s_ofPose : Int32} {s_ofNear : Int32} {s_from : Int32} {s_size : Int32} {s_here : Int32} {s_token : Int32} {s_tokenAt : Int32} {s_tokenWorth : Int64} {s_open : Int32} {s_bad : Int32} {s_fault : Int32} {s_faceWas : Int32} {s_poseWas : Int32} {s_manyKept : Int32} {s_ruleKept : Int32} {l1 : Int32} (hZ : ZOK Z) (hf : f_X7_isSign l1 s_token s_tokenWorth s_bad = some r) :
    CI l D qT Z yX7_isSign cX7_isSign 2 (some .boolean) 1 0 0 [.ref a0, .int l1] [(a0, .inr (7, [.int s_thrown, .ref a_texts, .ref a_textSize, .int s_textCount, .int s_rule, .ref a_tape, .int s_taped, .ref a_room, .ref a_kinds, .ref a_rows, .int s_many, .int s_ofSide, .int s_ofLamp, .int s_ofStove, .int s_ofNumber, .int s_ofPose, .int s_ofNear, .int s_from, .int s_size, .int s_here, .int s_token, .int s_tokenAt, .long s_tokenWorth, .int s_open, .int s_bad, .int s_fault, .ref a_now, .ref a_gained, .ref a_rowsWas, .int s_faceWas, .int s_poseWas, .ref a_roomKept, .ref a_rowsKept, .int s_manyKept, .int s_ruleKept, .ref a_isThere, .ref a_sorts, .ref a_sheetSize, .ref a_items]))] r [(a0, .inr (7, [.int s_thrown, .ref a_texts, .ref a_textSize, .int s_textCount, .int s_rule, .ref a_tape, .int s_taped, .ref a_room, .ref a_kinds, .ref a_rows, .int s_many, .int s_ofSide, .int s_ofLamp, .int s_ofStove, .int s_ofNumber, .int s_ofPose, .int s_ofNear, .int s_from, .int s_size, .int s_here, .int s_token, .int s_tokenAt, .long s_tokenWorth, .int s_open, .int s_bad, .int s_fault, .ref a_now, .ref a_gained, .ref a_rowsWas, .int s_faceWas, .int s_poseWas, .ref a_roomKept, .ref a_rowsKept, .int s_manyKept, .int s_ruleKept, .ref a_isThere, .ref a_sorts, .ref a_sheetSize, .ref a_items]))] := by
  refine CZ_of hZ (by decide) (Nat.le_of_ble_eq_true rfl) ?_
  intro x e1 e2 e3 e4 e5 e6 hin X hR
  subst e1 e2 e3 e4
  exact t_X7_isSign X e6 hR hf
def f_X7_opens (s_from : Int32) (s_size : Int32) (s_here : Int32) (s_token : Int32) (s_tokenAt : Int32) (s_tokenWorth : Int64) (s_open : Int32) (s_bad : Int32) (s_fault : Int32) (s_texts : Nat → Int32) : Option (Int32 × Int32 × Int32 × Int32 × Int64 × Int32 × Int32 × Int32) :=
  if s_open = 5 then (
  (f_X7_fail s_tokenAt s_bad s_fault).bind (fun v9_2 =>
  some (0, s_here, s_token, s_tokenAt, s_tokenWorth, s_open, v9_2.1, v9_2.2))) else (
  (f_X7_next s_from s_size s_here s_tokenWorth s_texts).bind (fun v25_1 =>
  some (1, v25_1.1, v25_1.2.1, v25_1.2.2.1, v25_1.2.2.2, (s_open + 1), s_bad, s_fault)))
set_option maxRecDepth 100000 in
set_option maxHeartbeats 4000000 in
theorem t_X7_opens {x : VX} {r : Int32 × Int32 × Int32 × Int32 × Int64 × Int32 × Int32 × Int32} {a0 : Nat} {a_texts : Nat} {a_textSize : Nat} {a_tape : Nat} {a_room : Nat} {a_kinds : Nat} {a_rows : Nat} {a_now : Nat} {a_gained : Nat} {a_rowsWas : Nat} {a_roomKept : Nat} {a_rowsKept : Nat} {a_isThere : Nat} {a_sorts : Nat} {a_sheetSize : Nat} {a_items : Nat} {s_thrown : Int32} {s_textCount : Int32} {s_rule : Int32} {s_taped : Int32} {s_many : Int32} {s_ofSide : Int32} {s_ofLamp : Int32} {s_ofStove : Int32} {s_ofNumber : Int32} {s_ofPose : Int32} {s_ofNear : Int32} {s_from : Int32} {s_size : Int32} {s_here : Int32} {s_token : Int32} {s_tokenAt : Int32} {s_tokenWorth : Int64} {s_open : Int32} {s_bad : Int32} {s_fault : Int32} {s_faceWas : Int32} {s_poseWas : Int32} {s_manyKept : Int32} {s_ruleKept : Int32} {s_texts : Nat → Int32} (X : Cx x cX7_opens RX7 3) (hN : vxn x = 1) (hR : narrow .boolean (.int r.1) = .int r.1 → RetI x cX7_opens 0 0 r.1 [(a0, .inr (7, [.int s_thrown, .ref a_texts, .ref a_textSize, .int s_textCount, .int s_rule, .ref a_tape, .int s_taped, .ref a_room, .ref a_kinds, .ref a_rows, .int s_many, .int s_ofSide, .int s_ofLamp, .int s_ofStove, .int s_ofNumber, .int s_ofPose, .int s_ofNear, .int s_from, .int s_size, .int r.2.1, .int r.2.2.1, .int r.2.2.2.1, .long r.2.2.2.2.1, .int r.2.2.2.2.2.1, .int r.2.2.2.2.2.2.1, .int r.2.2.2.2.2.2.2, .ref a_now, .ref a_gained, .ref a_rowsWas, .int s_faceWas, .int s_poseWas, .ref a_roomKept, .ref a_rowsKept, .int s_manyKept, .int s_ruleKept, .ref a_isThere, .ref a_sorts, .ref a_sheetSize, .ref a_items])), (a_texts, .inl (vxT x 0, 960, .inl s_texts))]) (hf : f_X7_opens s_from s_size s_here s_token s_tokenAt s_tokenWorth s_open s_bad s_fault s_texts = some r) : V x 0 0 [(a0, .inr (7, [.int s_thrown, .ref a_texts, .ref a_textSize, .int s_textCount, .int s_rule, .ref a_tape, .int s_taped, .ref a_room, .ref a_kinds, .ref a_rows, .int s_many, .int s_ofSide, .int s_ofLamp, .int s_ofStove, .int s_ofNumber, .int s_ofPose, .int s_ofNear, .int s_from, .int s_size, .int s_here, .int s_token, .int s_tokenAt, .long s_tokenWorth, .int s_open, .int s_bad, .int s_fault, .ref a_now, .ref a_gained, .ref a_rowsWas, .int s_faceWas, .int s_poseWas, .ref a_roomKept, .ref a_rowsKept, .int s_manyKept, .int s_ruleKept, .ref a_isThere, .ref a_sorts, .ref a_sheetSize, .ref a_items])), (a_texts, .inl (vxT x 0, 960, .inl s_texts))] [(0, .ref a0)] 0 [] := by
  unfold f_X7_opens at hf
  refine v_aload_n X 0 rfl dX7_opens_0 ?_
  refine v_get X xinX7 0 rfl rfl 23 (by decide) wd154 rfl rfl dX7_opens_1 ?_
  refine v_iconst X (v := 5) (by decide) dX7_opens_4 ?_
  refine v_icmp_ne X (tgt := 14) hf (by decide) dX7_opens_5 (fun c5 hf => ?_) (fun c5 hf => ?_)
  · refine v_aload_n X 0 rfl dX7_opens_14 ?_
    refine v_dup X rfl dX7_opens_15 ?_
    refine v_get X xinX7 0 rfl rfl 23 (by decide) wd154 rfl rfl dX7_opens_16 ?_
    refine v_iconst X (v := 1) (by decide) dX7_opens_19 ?_
    refine v_iadd X dX7_opens_20 ?_
    refine v_put X xinX7 tyX7 tyX7_ok nmX7 0 rfl rfl 23 (by decide) wd154 rfl rfl rfl rfl rfl (Nat.le_of_ble_eq_true rfl) (ws' := [(a0, .inr (7, [.int s_thrown, .ref a_texts, .ref a_textSize, .int s_textCount, .int s_rule, .ref a_tape, .int s_taped, .ref a_room, .ref a_kinds, .ref a_rows, .int s_many, .int s_ofSide, .int s_ofLamp, .int s_ofStove, .int s_ofNumber, .int s_ofPose, .int s_ofNear, .int s_from, .int s_size, .int s_here, .int s_token, .int s_tokenAt, .long s_tokenWorth, .int (s_open + 1), .int s_bad, .int s_fault, .ref a_now, .ref a_gained, .ref a_rowsWas, .int s_faceWas, .int s_poseWas, .ref a_roomKept, .ref a_rowsKept, .int s_manyKept, .int s_ruleKept, .ref a_isThere, .ref a_sorts, .ref a_sheetSize, .ref a_items])), (a_texts, .inl (vxT x 0, 960, .inl s_texts))]) rfl dX7_opens_21 ?_
    refine v_aload_n X 0 rfl dX7_opens_24 ?_
    obtain ⟨v25_1, hv25_1, hf⟩ := bd_some hf
    refine v_callV X (c_X7_next X.2.2.2.2.2.2.2.1 hv25_1) cwv_X7_187 rfl (by decide) ⟨Nat.zero_le _, Nat.zero_le _⟩ 0 rfl rfl [0, 1] [] [0, 1] rfl (by decide) (wr := []) rfl (by decide) (by decide) (ws2 := [(a0, .inr (7, [.int s_thrown, .ref a_texts, .ref a_textSize, .int s_textCount, .int s_rule, .ref a_tape, .int s_taped, .ref a_room, .ref a_kinds, .ref a_rows, .int s_many, .int s_ofSide, .int s_ofLamp, .int s_ofStove, .int s_ofNumber, .int s_ofPose, .int s_ofNear, .int s_from, .int s_size, .int v25_1.1, .int v25_1.2.1, .int v25_1.2.2.1, .long v25_1.2.2.2, .int (s_open + 1), .int s_bad, .int s_fault, .ref a_now, .ref a_gained, .ref a_rowsWas, .int s_faceWas, .int s_poseWas, .ref a_roomKept, .ref a_rowsKept, .int s_manyKept, .int s_ruleKept, .ref a_isThere, .ref a_sorts, .ref a_sheetSize, .ref a_items])), (a_texts, .inl (vxT x 0, 960, .inl s_texts))]) rfl (by decide) (Nat.le_of_ble_eq_true rfl) rfl dX7_opens_25 ?_
    refine v_iconst X (v := 1) (by decide) dX7_opens_28 ?_
    obtain rfl := Option.some.inj hf
    exact v_iret (hR nz1) dX7_opens_29
  · refine v_aload_n X 0 rfl dX7_opens_8 ?_
    obtain ⟨v9_2, hv9_2, hf⟩ := bd_some hf
    refine v_callV X (c_X7_fail X.2.2.2.2.2.2.2.1 hv9_2) cwv_X7_184 rfl (by decide) ⟨Nat.zero_le _, Nat.zero_le _⟩ 0 rfl rfl [0] [1] [1, 0] rfl (by decide) (wr := [(a_texts, .inl (vxT x 0, 960, .inl s_texts))]) rfl (by decide) (by decide) (ws2 := [(a0, .inr (7, [.int s_thrown, .ref a_texts, .ref a_textSize, .int s_textCount, .int s_rule, .ref a_tape, .int s_taped, .ref a_room, .ref a_kinds, .ref a_rows, .int s_many, .int s_ofSide, .int s_ofLamp, .int s_ofStove, .int s_ofNumber, .int s_ofPose, .int s_ofNear, .int s_from, .int s_size, .int s_here, .int s_token, .int s_tokenAt, .long s_tokenWorth, .int s_open, .int v9_2.1, .int v9_2.2, .ref a_now, .ref a_gained, .ref a_rowsWas, .int s_faceWas, .int s_poseWas, .ref a_roomKept, .ref a_rowsKept, .int s_manyKept, .int s_ruleKept, .ref a_isThere, .ref a_sorts, .ref a_sheetSize, .ref a_items])), (a_texts, .inl (vxT x 0, 960, .inl s_texts))]) rfl (by decide) (Nat.le_of_ble_eq_true rfl) rfl dX7_opens_9 ?_
    refine v_iconst X (v := 0) (by decide) dX7_opens_12 ?_
    obtain rfl := Option.some.inj hf
    exact v_iret (hR nz0) dX7_opens_13
set_option maxRecDepth 100000 in
set_option maxHeartbeats 4000000 in
theorem c_X7_opens {l : Launch} {D : va_G} {qT : Nat → ClassId} {Z : (Nat → Prop) → State → Heap → Prop} {r : Int32 × Int32 × Int32 × Int32 × Int64 × Int32 × Int32 × Int32} {a0 : Nat} {a_texts : Nat} {a_textSize : Nat} {a_tape : Nat} {a_room : Nat} {a_kinds : Nat} {a_rows : Nat} {a_now : Nat} {a_gained : Nat} {a_rowsWas : Nat} {a_roomKept : Nat} {a_rowsKept : Nat} {a_isThere : Nat} {a_sorts : Nat} {a_sheetSize : Nat} {a_items : Nat} {s_thrown : Int32} {s_textCount : Int32} {s_rule : Int32} {s_taped : Int32} {s_many : Int32} {s_ofSide : Int32} {s_ofLamp : Int32} {s_ofStove : Int32} {s_ofNumber : Int32} {s_ofPose : Int32} {s_ofNear : Int32} {s_from : Int32} {s_size : Int32} {s_here : Int32} {s_token : Int32} {s_tokenAt : Int32} {s_tokenWorth : Int64} {s_open : Int32} {s_bad : Int32} {s_fault : Int32} {s_faceWas : Int32} {s_poseWas : Int32} {s_manyKept : Int32} {s_ruleKept : Int32} {s_texts : Nat → Int32} (hZ : ZOK Z) (hf : f_X7_opens s_from s_size s_here s_token s_tokenAt s_tokenWorth s_open s_bad s_fault s_texts = some r) :
    CI l D qT Z yX7_opens cX7_opens 1 (some .boolean) 3 0 0 [.ref a0] [(a0, .inr (7, [.int s_thrown, .ref a_texts, .ref a_textSize, .int s_textCount, .int s_rule, .ref a_tape, .int s_taped, .ref a_room, .ref a_kinds, .ref a_rows, .int s_many, .int s_ofSide, .int s_ofLamp, .int s_ofStove, .int s_ofNumber, .int s_ofPose, .int s_ofNear, .int s_from, .int s_size, .int s_here, .int s_token, .int s_tokenAt, .long s_tokenWorth, .int s_open, .int s_bad, .int s_fault, .ref a_now, .ref a_gained, .ref a_rowsWas, .int s_faceWas, .int s_poseWas, .ref a_roomKept, .ref a_rowsKept, .int s_manyKept, .int s_ruleKept, .ref a_isThere, .ref a_sorts, .ref a_sheetSize, .ref a_items])), (a_texts, .inl (qT 0, 960, .inl s_texts))] r.1 [(a0, .inr (7, [.int s_thrown, .ref a_texts, .ref a_textSize, .int s_textCount, .int s_rule, .ref a_tape, .int s_taped, .ref a_room, .ref a_kinds, .ref a_rows, .int s_many, .int s_ofSide, .int s_ofLamp, .int s_ofStove, .int s_ofNumber, .int s_ofPose, .int s_ofNear, .int s_from, .int s_size, .int r.2.1, .int r.2.2.1, .int r.2.2.2.1, .long r.2.2.2.2.1, .int r.2.2.2.2.2.1, .int r.2.2.2.2.2.2.1, .int r.2.2.2.2.2.2.2, .ref a_now, .ref a_gained, .ref a_rowsWas, .int s_faceWas, .int s_poseWas, .ref a_roomKept, .ref a_rowsKept, .int s_manyKept, .int s_ruleKept, .ref a_isThere, .ref a_sorts, .ref a_sheetSize, .ref a_items])), (a_texts, .inl (qT 0, 960, .inl s_texts))] := by
  refine CZ_of hZ (by decide) (Nat.le_of_ble_eq_true rfl) ?_
  intro x e1 e2 e3 e4 e5 e6 hin X hR
  subst e1 e2 e3 e4
  exact t_X7_opens X e6 hR hf
def f_X7_name (s_ofSide : Int32) (s_ofLamp : Int32) (s_ofStove : Int32) (s_ofNumber : Int32) (s_ofPose : Int32) (s_ofNear : Int32) (s_from : Int32) (s_size : Int32) (s_here : Int32) (s_token : Int32) (s_tokenAt : Int32) (s_bad : Int32) (s_fault : Int32) (s_texts : Nat → Int32) : Option (Int32 × Int32 × Int32) :=
  (f_X7_isWord 115 105 100 101 0 0 0 0 s_from s_size s_here s_token s_tokenAt s_bad s_texts).bind (fun v13_1 =>
  if v13_1 = 0 then (
  (f_X7_isWord 108 97 109 112 0 0 0 0 s_from s_size s_here s_token s_tokenAt s_bad s_texts).bind (fun v37_2 =>
  if v37_2 = 0 then (
  (f_X7_isWord 115 116 111 118 101 0 0 0 s_from s_size s_here s_token s_tokenAt s_bad s_texts).bind (fun v62_3 =>
  if v62_3 = 0 then (
  (f_X7_isWord 110 117 109 98 101 114 0 0 s_from s_size s_here s_token s_tokenAt s_bad s_texts).bind (fun v88_4 =>
  if v88_4 = 0 then (
  (f_X7_isWord 112 111 115 101 0 0 0 0 s_from s_size s_here s_token s_tokenAt s_bad s_texts).bind (fun v112_5 =>
  if v112_5 = 0 then (
  (f_X7_isWord 110 101 97 114 0 0 0 0 s_from s_size s_here s_token s_tokenAt s_bad s_texts).bind (fun v136_6 =>
  if v136_6 = 0 then (
  (f_X7_fail s_tokenAt s_bad s_fault).bind (fun v148_7 =>
  some (0, v148_7.1, v148_7.2))) else (
  some (s_ofNear, s_bad, s_fault)))) else (
  some (s_ofPose, s_bad, s_fault)))) else (
  some (s_ofNumber, s_bad, s_fault)))) else (
  some (s_ofStove, s_bad, s_fault)))) else (
  some (s_ofLamp, s_bad, s_fault)))) else (
  some (s_ofSide, s_bad, s_fault)))
set_option maxRecDepth 100000 in
set_option maxHeartbeats 4000000 in
theorem t_X7_name {x : VX} {r : Int32 × Int32 × Int32} {a0 : Nat} {a_texts : Nat} {a_textSize : Nat} {a_tape : Nat} {a_room : Nat} {a_kinds : Nat} {a_rows : Nat} {a_now : Nat} {a_gained : Nat} {a_rowsWas : Nat} {a_roomKept : Nat} {a_rowsKept : Nat} {a_isThere : Nat} {a_sorts : Nat} {a_sheetSize : Nat} {a_items : Nat} {s_thrown : Int32} {s_textCount : Int32} {s_rule : Int32} {s_taped : Int32} {s_many : Int32} {s_ofSide : Int32} {s_ofLamp : Int32} {s_ofStove : Int32} {s_ofNumber : Int32} {s_ofPose : Int32} {s_ofNear : Int32} {s_from : Int32} {s_size : Int32} {s_here : Int32} {s_token : Int32} {s_tokenAt : Int32} {s_tokenWorth : Int64} {s_open : Int32} {s_bad : Int32} {s_fault : Int32} {s_faceWas : Int32} {s_poseWas : Int32} {s_manyKept : Int32} {s_ruleKept : Int32} {s_texts : Nat → Int32} (X : Cx x cX7_name RX7 4) (hN : vxn x = 1) (hR : RetI x cX7_name 0 0 r.1 [(a0, .inr (7, [.int s_thrown, .ref a_texts, .ref a_textSize, .int s_textCount, .int s_rule, .ref a_tape, .int s_taped, .ref a_room, .ref a_kinds, .ref a_rows, .int s_many, .int s_ofSide, .int s_ofLamp, .int s_ofStove, .int s_ofNumber, .int s_ofPose, .int s_ofNear, .int s_from, .int s_size, .int s_here, .int s_token, .int s_tokenAt, .long s_tokenWorth, .int s_open, .int r.2.1, .int r.2.2, .ref a_now, .ref a_gained, .ref a_rowsWas, .int s_faceWas, .int s_poseWas, .ref a_roomKept, .ref a_rowsKept, .int s_manyKept, .int s_ruleKept, .ref a_isThere, .ref a_sorts, .ref a_sheetSize, .ref a_items])), (a_texts, .inl (vxT x 0, 960, .inl s_texts))]) (hf : f_X7_name s_ofSide s_ofLamp s_ofStove s_ofNumber s_ofPose s_ofNear s_from s_size s_here s_token s_tokenAt s_bad s_fault s_texts = some r) : V x 0 0 [(a0, .inr (7, [.int s_thrown, .ref a_texts, .ref a_textSize, .int s_textCount, .int s_rule, .ref a_tape, .int s_taped, .ref a_room, .ref a_kinds, .ref a_rows, .int s_many, .int s_ofSide, .int s_ofLamp, .int s_ofStove, .int s_ofNumber, .int s_ofPose, .int s_ofNear, .int s_from, .int s_size, .int s_here, .int s_token, .int s_tokenAt, .long s_tokenWorth, .int s_open, .int s_bad, .int s_fault, .ref a_now, .ref a_gained, .ref a_rowsWas, .int s_faceWas, .int s_poseWas, .ref a_roomKept, .ref a_rowsKept, .int s_manyKept, .int s_ruleKept, .ref a_isThere, .ref a_sorts, .ref a_sheetSize, .ref a_items])), (a_texts, .inl (vxT x 0, 960, .inl s_texts))] [(0, .ref a0)] 0 [] := by
  unfold f_X7_name at hf
  refine v_aload_n X 0 rfl dX7_name_0 ?_
  refine v_bipush X (v := 115) (by decide) dX7_name_1 ?_
  refine v_bipush X (v := 105) (by decide) dX7_name_3 ?_
  refine v_bipush X (v := 100) (by decide) dX7_name_5 ?_
  refine v_bipush X (v := 101) (by decide) dX7_name_7 ?_
  refine v_iconst X (v := 0) (by decide) dX7_name_9 ?_
  refine v_iconst X (v := 0) (by decide) dX7_name_10 ?_
  refine v_iconst X (v := 0) (by decide) dX7_name_11 ?_
  refine v_iconst X (v := 0) (by decide) dX7_name_12 ?_
  obtain ⟨v13_1, hv13_1, hf⟩ := bd_some hf
  refine v_callI X (c_X7_isWord X.2.2.2.2.2.2.2.1 hv13_1) cwv_X7_190 rfl (by decide) ⟨Nat.zero_le _, Nat.zero_le _⟩ 0 rfl rfl [0, 1] [] [0, 1] rfl (by decide) (wr := []) rfl (by decide) (by decide) (ws2 := [(a0, .inr (7, [.int s_thrown, .ref a_texts, .ref a_textSize, .int s_textCount, .int s_rule, .ref a_tape, .int s_taped, .ref a_room, .ref a_kinds, .ref a_rows, .int s_many, .int s_ofSide, .int s_ofLamp, .int s_ofStove, .int s_ofNumber, .int s_ofPose, .int s_ofNear, .int s_from, .int s_size, .int s_here, .int s_token, .int s_tokenAt, .long s_tokenWorth, .int s_open, .int s_bad, .int s_fault, .ref a_now, .ref a_gained, .ref a_rowsWas, .int s_faceWas, .int s_poseWas, .ref a_roomKept, .ref a_rowsKept, .int s_manyKept, .int s_ruleKept, .ref a_isThere, .ref a_sorts, .ref a_sheetSize, .ref a_items])), (a_texts, .inl (vxT x 0, 960, .inl s_texts))]) rfl (by decide) (Nat.le_of_ble_eq_true rfl) rfl dX7_name_13 ?_
  refine v_if_eq X (tgt := 24) hf (by decide) dX7_name_16 (fun c16 hf => ?_) (fun c16 hf => ?_)
  · refine v_aload_n X 0 rfl dX7_name_24 ?_
    refine v_bipush X (v := 108) (by decide) dX7_name_25 ?_
    refine v_bipush X (v := 97) (by decide) dX7_name_27 ?_
    refine v_bipush X (v := 109) (by decide) dX7_name_29 ?_
    refine v_bipush X (v := 112) (by decide) dX7_name_31 ?_
    refine v_iconst X (v := 0) (by decide) dX7_name_33 ?_
    refine v_iconst X (v := 0) (by decide) dX7_name_34 ?_
    refine v_iconst X (v := 0) (by decide) dX7_name_35 ?_
    refine v_iconst X (v := 0) (by decide) dX7_name_36 ?_
    obtain ⟨v37_2, hv37_2, hf⟩ := bd_some hf
    refine v_callI X (c_X7_isWord X.2.2.2.2.2.2.2.1 hv37_2) cwv_X7_190 rfl (by decide) ⟨Nat.zero_le _, Nat.zero_le _⟩ 0 rfl rfl [0, 1] [] [0, 1] rfl (by decide) (wr := []) rfl (by decide) (by decide) (ws2 := [(a0, .inr (7, [.int s_thrown, .ref a_texts, .ref a_textSize, .int s_textCount, .int s_rule, .ref a_tape, .int s_taped, .ref a_room, .ref a_kinds, .ref a_rows, .int s_many, .int s_ofSide, .int s_ofLamp, .int s_ofStove, .int s_ofNumber, .int s_ofPose, .int s_ofNear, .int s_from, .int s_size, .int s_here, .int s_token, .int s_tokenAt, .long s_tokenWorth, .int s_open, .int s_bad, .int s_fault, .ref a_now, .ref a_gained, .ref a_rowsWas, .int s_faceWas, .int s_poseWas, .ref a_roomKept, .ref a_rowsKept, .int s_manyKept, .int s_ruleKept, .ref a_isThere, .ref a_sorts, .ref a_sheetSize, .ref a_items])), (a_texts, .inl (vxT x 0, 960, .inl s_texts))]) rfl (by decide) (Nat.le_of_ble_eq_true rfl) rfl dX7_name_37 ?_
    refine v_if_eq X (tgt := 48) hf (by decide) dX7_name_40 (fun c40 hf => ?_) (fun c40 hf => ?_)
    · refine v_aload_n X 0 rfl dX7_name_48 ?_
      refine v_bipush X (v := 115) (by decide) dX7_name_49 ?_
      refine v_bipush X (v := 116) (by decide) dX7_name_51 ?_
      refine v_bipush X (v := 111) (by decide) dX7_name_53 ?_
      refine v_bipush X (v := 118) (by decide) dX7_name_55 ?_
      refine v_bipush X (v := 101) (by decide) dX7_name_57 ?_
      refine v_iconst X (v := 0) (by decide) dX7_name_59 ?_
      refine v_iconst X (v := 0) (by decide) dX7_name_60 ?_
      refine v_iconst X (v := 0) (by decide) dX7_name_61 ?_
      obtain ⟨v62_3, hv62_3, hf⟩ := bd_some hf
      refine v_callI X (c_X7_isWord X.2.2.2.2.2.2.2.1 hv62_3) cwv_X7_190 rfl (by decide) ⟨Nat.zero_le _, Nat.zero_le _⟩ 0 rfl rfl [0, 1] [] [0, 1] rfl (by decide) (wr := []) rfl (by decide) (by decide) (ws2 := [(a0, .inr (7, [.int s_thrown, .ref a_texts, .ref a_textSize, .int s_textCount, .int s_rule, .ref a_tape, .int s_taped, .ref a_room, .ref a_kinds, .ref a_rows, .int s_many, .int s_ofSide, .int s_ofLamp, .int s_ofStove, .int s_ofNumber, .int s_ofPose, .int s_ofNear, .int s_from, .int s_size, .int s_here, .int s_token, .int s_tokenAt, .long s_tokenWorth, .int s_open, .int s_bad, .int s_fault, .ref a_now, .ref a_gained, .ref a_rowsWas, .int s_faceWas, .int s_poseWas, .ref a_roomKept, .ref a_rowsKept, .int s_manyKept, .int s_ruleKept, .ref a_isThere, .ref a_sorts, .ref a_sheetSize, .ref a_items])), (a_texts, .inl (vxT x 0, 960, .inl s_texts))]) rfl (by decide) (Nat.le_of_ble_eq_true rfl) rfl dX7_name_62 ?_
      refine v_if_eq X (tgt := 73) hf (by decide) dX7_name_65 (fun c65 hf => ?_) (fun c65 hf => ?_)
      · refine v_aload_n X 0 rfl dX7_name_73 ?_
        refine v_bipush X (v := 110) (by decide) dX7_name_74 ?_
        refine v_bipush X (v := 117) (by decide) dX7_name_76 ?_
        refine v_bipush X (v := 109) (by decide) dX7_name_78 ?_
        refine v_bipush X (v := 98) (by decide) dX7_name_80 ?_
        refine v_bipush X (v := 101) (by decide) dX7_name_82 ?_
        refine v_bipush X (v := 114) (by decide) dX7_name_84 ?_
        refine v_iconst X (v := 0) (by decide) dX7_name_86 ?_
        refine v_iconst X (v := 0) (by decide) dX7_name_87 ?_
        obtain ⟨v88_4, hv88_4, hf⟩ := bd_some hf
        refine v_callI X (c_X7_isWord X.2.2.2.2.2.2.2.1 hv88_4) cwv_X7_190 rfl (by decide) ⟨Nat.zero_le _, Nat.zero_le _⟩ 0 rfl rfl [0, 1] [] [0, 1] rfl (by decide) (wr := []) rfl (by decide) (by decide) (ws2 := [(a0, .inr (7, [.int s_thrown, .ref a_texts, .ref a_textSize, .int s_textCount, .int s_rule, .ref a_tape, .int s_taped, .ref a_room, .ref a_kinds, .ref a_rows, .int s_many, .int s_ofSide, .int s_ofLamp, .int s_ofStove, .int s_ofNumber, .int s_ofPose, .int s_ofNear, .int s_from, .int s_size, .int s_here, .int s_token, .int s_tokenAt, .long s_tokenWorth, .int s_open, .int s_bad, .int s_fault, .ref a_now, .ref a_gained, .ref a_rowsWas, .int s_faceWas, .int s_poseWas, .ref a_roomKept, .ref a_rowsKept, .int s_manyKept, .int s_ruleKept, .ref a_isThere, .ref a_sorts, .ref a_sheetSize, .ref a_items])), (a_texts, .inl (vxT x 0, 960, .inl s_texts))]) rfl (by decide) (Nat.le_of_ble_eq_true rfl) rfl dX7_name_88 ?_
        refine v_if_eq X (tgt := 99) hf (by decide) dX7_name_91 (fun c91 hf => ?_) (fun c91 hf => ?_)
        · refine v_aload_n X 0 rfl dX7_name_99 ?_
          refine v_bipush X (v := 112) (by decide) dX7_name_100 ?_
          refine v_bipush X (v := 111) (by decide) dX7_name_102 ?_
          refine v_bipush X (v := 115) (by decide) dX7_name_104 ?_
          refine v_bipush X (v := 101) (by decide) dX7_name_106 ?_
          refine v_iconst X (v := 0) (by decide) dX7_name_108 ?_
          refine v_iconst X (v := 0) (by decide) dX7_name_109 ?_
          refine v_iconst X (v := 0) (by decide) dX7_name_110 ?_
          refine v_iconst X (v := 0) (by decide) dX7_name_111 ?_
          obtain ⟨v112_5, hv112_5, hf⟩ := bd_some hf
          refine v_callI X (c_X7_isWord X.2.2.2.2.2.2.2.1 hv112_5) cwv_X7_190 rfl (by decide) ⟨Nat.zero_le _, Nat.zero_le _⟩ 0 rfl rfl [0, 1] [] [0, 1] rfl (by decide) (wr := []) rfl (by decide) (by decide) (ws2 := [(a0, .inr (7, [.int s_thrown, .ref a_texts, .ref a_textSize, .int s_textCount, .int s_rule, .ref a_tape, .int s_taped, .ref a_room, .ref a_kinds, .ref a_rows, .int s_many, .int s_ofSide, .int s_ofLamp, .int s_ofStove, .int s_ofNumber, .int s_ofPose, .int s_ofNear, .int s_from, .int s_size, .int s_here, .int s_token, .int s_tokenAt, .long s_tokenWorth, .int s_open, .int s_bad, .int s_fault, .ref a_now, .ref a_gained, .ref a_rowsWas, .int s_faceWas, .int s_poseWas, .ref a_roomKept, .ref a_rowsKept, .int s_manyKept, .int s_ruleKept, .ref a_isThere, .ref a_sorts, .ref a_sheetSize, .ref a_items])), (a_texts, .inl (vxT x 0, 960, .inl s_texts))]) rfl (by decide) (Nat.le_of_ble_eq_true rfl) rfl dX7_name_112 ?_
          refine v_if_eq X (tgt := 123) hf (by decide) dX7_name_115 (fun c115 hf => ?_) (fun c115 hf => ?_)
          · refine v_aload_n X 0 rfl dX7_name_123 ?_
            refine v_bipush X (v := 110) (by decide) dX7_name_124 ?_
            refine v_bipush X (v := 101) (by decide) dX7_name_126 ?_
            refine v_bipush X (v := 97) (by decide) dX7_name_128 ?_
            refine v_bipush X (v := 114) (by decide) dX7_name_130 ?_
            refine v_iconst X (v := 0) (by decide) dX7_name_132 ?_
            refine v_iconst X (v := 0) (by decide) dX7_name_133 ?_
            refine v_iconst X (v := 0) (by decide) dX7_name_134 ?_
            refine v_iconst X (v := 0) (by decide) dX7_name_135 ?_
            obtain ⟨v136_6, hv136_6, hf⟩ := bd_some hf
            refine v_callI X (c_X7_isWord X.2.2.2.2.2.2.2.1 hv136_6) cwv_X7_190 rfl (by decide) ⟨Nat.zero_le _, Nat.zero_le _⟩ 0 rfl rfl [0, 1] [] [0, 1] rfl (by decide) (wr := []) rfl (by decide) (by decide) (ws2 := [(a0, .inr (7, [.int s_thrown, .ref a_texts, .ref a_textSize, .int s_textCount, .int s_rule, .ref a_tape, .int s_taped, .ref a_room, .ref a_kinds, .ref a_rows, .int s_many, .int s_ofSide, .int s_ofLamp, .int s_ofStove, .int s_ofNumber, .int s_ofPose, .int s_ofNear, .int s_from, .int s_size, .int s_here, .int s_token, .int s_tokenAt, .long s_tokenWorth, .int s_open, .int s_bad, .int s_fault, .ref a_now, .ref a_gained, .ref a_rowsWas, .int s_faceWas, .int s_poseWas, .ref a_roomKept, .ref a_rowsKept, .int s_manyKept, .int s_ruleKept, .ref a_isThere, .ref a_sorts, .ref a_sheetSize, .ref a_items])), (a_texts, .inl (vxT x 0, 960, .inl s_texts))]) rfl (by decide) (Nat.le_of_ble_eq_true rfl) rfl dX7_name_136 ?_
            refine v_if_eq X (tgt := 147) hf (by decide) dX7_name_139 (fun c139 hf => ?_) (fun c139 hf => ?_)
            · refine v_aload_n X 0 rfl dX7_name_147 ?_
              obtain ⟨v148_7, hv148_7, hf⟩ := bd_some hf
              refine v_callV X (c_X7_fail X.2.2.2.2.2.2.2.1 hv148_7) cwv_X7_184 rfl (by decide) ⟨Nat.zero_le _, Nat.zero_le _⟩ 0 rfl rfl [0] [1] [1, 0] rfl (by decide) (wr := [(a_texts, .inl (vxT x 0, 960, .inl s_texts))]) rfl (by decide) (by decide) (ws2 := [(a0, .inr (7, [.int s_thrown, .ref a_texts, .ref a_textSize, .int s_textCount, .int s_rule, .ref a_tape, .int s_taped, .ref a_room, .ref a_kinds, .ref a_rows, .int s_many, .int s_ofSide, .int s_ofLamp, .int s_ofStove, .int s_ofNumber, .int s_ofPose, .int s_ofNear, .int s_from, .int s_size, .int s_here, .int s_token, .int s_tokenAt, .long s_tokenWorth, .int s_open, .int v148_7.1, .int v148_7.2, .ref a_now, .ref a_gained, .ref a_rowsWas, .int s_faceWas, .int s_poseWas, .ref a_roomKept, .ref a_rowsKept, .int s_manyKept, .int s_ruleKept, .ref a_isThere, .ref a_sorts, .ref a_sheetSize, .ref a_items])), (a_texts, .inl (vxT x 0, 960, .inl s_texts))]) rfl (by decide) (Nat.le_of_ble_eq_true rfl) rfl dX7_name_148 ?_
              refine v_iconst X (v := 0) (by decide) dX7_name_151 ?_
              obtain rfl := Option.some.inj hf
              exact v_iret hR dX7_name_152
            · refine v_aload_n X 0 rfl dX7_name_142 ?_
              refine v_get X xinX7 0 rfl rfl 16 (by decide) wd167 rfl rfl dX7_name_143 ?_
              obtain rfl := Option.some.inj hf
              exact v_iret hR dX7_name_146
          · refine v_aload_n X 0 rfl dX7_name_118 ?_
            refine v_get X xinX7 0 rfl rfl 15 (by decide) wd168 rfl rfl dX7_name_119 ?_
            obtain rfl := Option.some.inj hf
            exact v_iret hR dX7_name_122
        · refine v_aload_n X 0 rfl dX7_name_94 ?_
          refine v_get X xinX7 0 rfl rfl 14 (by decide) wd169 rfl rfl dX7_name_95 ?_
          obtain rfl := Option.some.inj hf
          exact v_iret hR dX7_name_98
      · refine v_aload_n X 0 rfl dX7_name_68 ?_
        refine v_get X xinX7 0 rfl rfl 13 (by decide) wd170 rfl rfl dX7_name_69 ?_
        obtain rfl := Option.some.inj hf
        exact v_iret hR dX7_name_72
    · refine v_aload_n X 0 rfl dX7_name_43 ?_
      refine v_get X xinX7 0 rfl rfl 12 (by decide) wd171 rfl rfl dX7_name_44 ?_
      obtain rfl := Option.some.inj hf
      exact v_iret hR dX7_name_47
  · refine v_aload_n X 0 rfl dX7_name_19 ?_
    refine v_get X xinX7 0 rfl rfl 11 (by decide) wd172 rfl rfl dX7_name_20 ?_
    obtain rfl := Option.some.inj hf
    exact v_iret hR dX7_name_23
set_option maxRecDepth 100000 in
set_option maxHeartbeats 4000000 in
theorem c_X7_name {l : Launch} {D : va_G} {qT : Nat → ClassId} {Z : (Nat → Prop) → State → Heap → Prop} {r : Int32 × Int32 × Int32} {a0 : Nat} {a_texts : Nat} {a_textSize : Nat} {a_tape : Nat} {a_room : Nat} {a_kinds : Nat} {a_rows : Nat} {a_now : Nat} {a_gained : Nat} {a_rowsWas : Nat} {a_roomKept : Nat} {a_rowsKept : Nat} {a_isThere : Nat} {a_sorts : Nat} {a_sheetSize : Nat} {a_items : Nat} {s_thrown : Int32} {s_textCount : Int32} {s_rule : Int32} {s_taped : Int32} {s_many : Int32} {s_ofSide : Int32} {s_ofLamp : Int32} {s_ofStove : Int32} {s_ofNumber : Int32} {s_ofPose : Int32} {s_ofNear : Int32} {s_from : Int32} {s_size : Int32} {s_here : Int32} {s_token : Int32} {s_tokenAt : Int32} {s_tokenWorth : Int64} {s_open : Int32} {s_bad : Int32} {s_fault : Int32} {s_faceWas : Int32} {s_poseWas : Int32} {s_manyKept : Int32} {s_ruleKept : Int32} {s_texts : Nat → Int32} (hZ : ZOK Z) (hf : f_X7_name s_ofSide s_ofLamp s_ofStove s_ofNumber s_ofPose s_ofNear s_from s_size s_here s_token s_tokenAt s_bad s_fault s_texts = some r) :
    CI l D qT Z yX7_name cX7_name 1 (some .int) 4 0 0 [.ref a0] [(a0, .inr (7, [.int s_thrown, .ref a_texts, .ref a_textSize, .int s_textCount, .int s_rule, .ref a_tape, .int s_taped, .ref a_room, .ref a_kinds, .ref a_rows, .int s_many, .int s_ofSide, .int s_ofLamp, .int s_ofStove, .int s_ofNumber, .int s_ofPose, .int s_ofNear, .int s_from, .int s_size, .int s_here, .int s_token, .int s_tokenAt, .long s_tokenWorth, .int s_open, .int s_bad, .int s_fault, .ref a_now, .ref a_gained, .ref a_rowsWas, .int s_faceWas, .int s_poseWas, .ref a_roomKept, .ref a_rowsKept, .int s_manyKept, .int s_ruleKept, .ref a_isThere, .ref a_sorts, .ref a_sheetSize, .ref a_items])), (a_texts, .inl (qT 0, 960, .inl s_texts))] r.1 [(a0, .inr (7, [.int s_thrown, .ref a_texts, .ref a_textSize, .int s_textCount, .int s_rule, .ref a_tape, .int s_taped, .ref a_room, .ref a_kinds, .ref a_rows, .int s_many, .int s_ofSide, .int s_ofLamp, .int s_ofStove, .int s_ofNumber, .int s_ofPose, .int s_ofNear, .int s_from, .int s_size, .int s_here, .int s_token, .int s_tokenAt, .long s_tokenWorth, .int s_open, .int r.2.1, .int r.2.2, .ref a_now, .ref a_gained, .ref a_rowsWas, .int s_faceWas, .int s_poseWas, .ref a_roomKept, .ref a_rowsKept, .int s_manyKept, .int s_ruleKept, .ref a_isThere, .ref a_sorts, .ref a_sheetSize, .ref a_items])), (a_texts, .inl (qT 0, 960, .inl s_texts))] := by
  refine CI_of hZ (by decide) (Nat.le_of_ble_eq_true rfl) ?_
  intro x e1 e2 e3 e4 e5 e6 hin X hR
  subst e1 e2 e3 e4
  exact t_X7_name X e6 hR hf
