theorem wd501 : Cond.fieldLink RX7 47 RX7 "manyKept" "I" ∈ gw := gw_of (List.mem_append_right _ (List.mem_of_getElem? (i := 790) (by decide +kernel))) (by decide +kernel)
theorem wd502 : Cond.fieldLink RX7 450 RX7 "ruleKept" "I" ∈ gw := gw_of (List.mem_append_right _ (List.mem_of_getElem? (i := 791) (by decide +kernel))) (by decide +kernel)
theorem wd503 : Cond.fieldLink RX7 44 RX7 "rowsKept" "[I" ∈ gw := gw_of (List.mem_append_right _ (List.mem_of_getElem? (i := 789) (by decide +kernel))) (by decide +kernel)
theorem wd504 : Cond.fieldLink RX7 41 RX7 "roomKept" "[I" ∈ gw := gw_of (List.mem_append_right _ (List.mem_of_getElem? (i := 788) (by decide +kernel))) (by decide +kernel)
theorem wd505 : Cond.constantLong RX7 457 (6) ∈ gw := gw_of (List.mem_append_right _ (List.mem_of_getElem? (i := 1327) (by decide +kernel))) (by decide +kernel)
theorem wd506 : Cond.methodLink RX7 459 yX7_painter ∈ gw := gw_of (List.mem_append_right _ (List.mem_of_getElem? (i := 1328) (by decide +kernel))) (by decide +kernel)
theorem wd507 : Cond.instanceMethod yX7_painter ∈ gw := gw_of (List.mem_append_right _ (List.mem_of_getElem? (i := 1148) (by decide +kernel))) (by decide +kernel)
theorem wd508 : Cond.selects RX7 yX7_painter yX7_painter ∈ gw := gw_of (List.mem_append_right _ (List.mem_of_getElem? (i := 1149) (by decide +kernel))) (by decide +kernel)
theorem wd509 : Cond.code yX7_painter cX7_painter 4 (some .int) ∈ gw := gw_of (List.mem_append_right _ (List.mem_of_getElem? (i := 1150) (by decide +kernel))) (by decide +kernel)
theorem cwv_X7_459 : CWv RX7 459 yX7_painter cX7_painter 4 (some .int) 3 := ⟨wd506, wd507, wd508, wd110, wd509, (by decide +kernel), (by decide +kernel), (by decide +kernel), (by decide +kernel)⟩
theorem wd510 : Cond.methodLink RX7 462 yX7_over ∈ gw := gw_of (List.mem_append_right _ (List.mem_of_getElem? (i := 1333) (by decide +kernel))) (by decide +kernel)
theorem wd511 : Cond.static yX7_over ∈ gw := gw_of (List.mem_append_right _ (List.mem_of_getElem? (i := 1334) (by decide +kernel))) (by decide +kernel)
theorem wd512 : Cond.code yX7_over cX7_over 1 (some .int) ∈ gw := gw_of (List.mem_append_right _ (List.mem_of_getElem? (i := 1335) (by decide +kernel))) (by decide +kernel)
theorem cws_X7_462 : CWs RX7 462 yX7_over cX7_over 1 (some .int) 1 := ⟨wd510, wd511, wd110, wd512, (by decide +kernel), (by decide +kernel), (by decide +kernel), (by decide +kernel)⟩
def f_X7_image_27 (s_rule : Int32) (s_many : Int32) (s_rows : Nat → Int32) (s_roomKept : Nat → Int32) (kp_27 : Int32 → (Nat → Int32) → Option (Int32 × Int32 × Int32 × (Nat → Int32) × (Nat → Int32))) (l1 : Int32) (s_rowsKept : Nat → Int32) : Option (Int32 × Int32 × Int32 × (Nat → Int32) × (Nat → Int32)) :=
  if 24 ≤ l1 then (
  some (s_many, s_many, s_rule, s_rowsKept, s_roomKept)) else (
  if inb l1 24 = true then (
  if inb l1 24 = true then (
  kp_27 (l1 + 1) (upd s_rowsKept (Int32.toNatClampNeg l1) (s_rows (Int32.toNatClampNeg l1)))) else none) else none)
def f_X7_image_2 (s_rule : Int32) (s_many : Int32) (s_rows : Nat → Int32) (s_rowsKept : Nat → Int32) (s_room : Nat → Int32) (kp_2 : Int32 → (Nat → Int32) → Option (Int32 × Int32 × Int32 × (Nat → Int32) × (Nat → Int32))) (l1 : Int32) (s_roomKept : Nat → Int32) : Option (Int32 × Int32 × Int32 × (Nat → Int32) × (Nat → Int32)) :=
  if 4 ≤ l1 then (
  lq2 (f_X7_image_27 s_rule s_many s_rows s_roomKept) 200 0 s_rowsKept) else (
  if inb l1 4 = true then (
  if inb l1 4 = true then (
  kp_2 (l1 + 1) (upd s_roomKept (Int32.toNatClampNeg l1) (s_room (Int32.toNatClampNeg l1)))) else none) else none)
def f_X7_image (s_rule : Int32) (s_many : Int32) (s_rows : Nat → Int32) (s_rowsKept : Nat → Int32) (s_room : Nat → Int32) (s_roomKept : Nat → Int32) : Option (Int32 × Int32 × Int32 × (Nat → Int32) × (Nat → Int32)) :=
  lq2 (f_X7_image_2 s_rule s_many s_rows s_rowsKept s_room) 200 0 s_roomKept
set_option maxRecDepth 100000 in
set_option maxHeartbeats 4000000 in
theorem t_X7_image_27 {x : VX} {r : Int32 × Int32 × Int32 × (Nat → Int32) × (Nat → Int32)} {a0 : Nat} {a_rows : Nat} {a_rowsKept : Nat} {a_room : Nat} {a_roomKept : Nat} {a_texts : Nat} {a_textSize : Nat} {a_tape : Nat} {a_kinds : Nat} {a_now : Nat} {a_gained : Nat} {a_rowsWas : Nat} {a_isThere : Nat} {a_sorts : Nat} {a_sheetSize : Nat} {a_items : Nat} {s_thrown : Int32} {s_textCount : Int32} {s_rule : Int32} {s_taped : Int32} {s_many : Int32} {s_ofSide : Int32} {s_ofLamp : Int32} {s_ofStove : Int32} {s_ofNumber : Int32} {s_ofPose : Int32} {s_ofNear : Int32} {s_from : Int32} {s_size : Int32} {s_here : Int32} {s_token : Int32} {s_tokenAt : Int32} {s_tokenWorth : Int64} {s_open : Int32} {s_bad : Int32} {s_fault : Int32} {s_faceWas : Int32} {s_poseWas : Int32} {s_manyKept : Int32} {s_ruleKept : Int32} {s_rows : Nat → Int32} {s_room : Nat → Int32} {s_roomKept : Nat → Int32} (X : Cx x cX7_image RX7 1) (hN : vxn x = 2) (hR : RetI x cX7_image 0 0 r.1 [(a0, .inr (7, [.int s_thrown, .ref a_texts, .ref a_textSize, .int s_textCount, .int s_rule, .ref a_tape, .int s_taped, .ref a_room, .ref a_kinds, .ref a_rows, .int s_many, .int s_ofSide, .int s_ofLamp, .int s_ofStove, .int s_ofNumber, .int s_ofPose, .int s_ofNear, .int s_from, .int s_size, .int s_here, .int s_token, .int s_tokenAt, .long s_tokenWorth, .int s_open, .int s_bad, .int s_fault, .ref a_now, .ref a_gained, .ref a_rowsWas, .int s_faceWas, .int s_poseWas, .ref a_roomKept, .ref a_rowsKept, .int r.2.1, .int r.2.2.1, .ref a_isThere, .ref a_sorts, .ref a_sheetSize, .ref a_items])), (a_rows, .inl (vxT x 0, 24, .inl s_rows)), (a_rowsKept, .inl (vxT x 0, 24, .inl r.2.2.2.1)), (a_room, .inl (vxT x 0, 4, .inl s_room)), (a_roomKept, .inl (vxT x 0, 4, .inl r.2.2.2.2))]) :
    ∀ (fu : Nat) (l1 : Int32) (s_rowsKept : Nat → Int32), lq2 (f_X7_image_27 s_rule s_many s_rows s_roomKept) fu l1 s_rowsKept = some r → V x 0 0 [(a0, .inr (7, [.int s_thrown, .ref a_texts, .ref a_textSize, .int s_textCount, .int s_rule, .ref a_tape, .int s_taped, .ref a_room, .ref a_kinds, .ref a_rows, .int s_many, .int s_ofSide, .int s_ofLamp, .int s_ofStove, .int s_ofNumber, .int s_ofPose, .int s_ofNear, .int s_from, .int s_size, .int s_here, .int s_token, .int s_tokenAt, .long s_tokenWorth, .int s_open, .int s_bad, .int s_fault, .ref a_now, .ref a_gained, .ref a_rowsWas, .int s_faceWas, .int s_poseWas, .ref a_roomKept, .ref a_rowsKept, .int s_manyKept, .int s_ruleKept, .ref a_isThere, .ref a_sorts, .ref a_sheetSize, .ref a_items])), (a_rows, .inl (vxT x 0, 24, .inl s_rows)), (a_rowsKept, .inl (vxT x 0, 24, .inl s_rowsKept)), (a_room, .inl (vxT x 0, 4, .inl s_room)), (a_roomKept, .inl (vxT x 0, 4, .inl s_roomKept))] [(0, .ref a0), (1, .int l1)] 27 [] := by
  refine lq2_V (G := fun l1 s_rowsKept => V x 0 0 [(a0, .inr (7, [.int s_thrown, .ref a_texts, .ref a_textSize, .int s_textCount, .int s_rule, .ref a_tape, .int s_taped, .ref a_room, .ref a_kinds, .ref a_rows, .int s_many, .int s_ofSide, .int s_ofLamp, .int s_ofStove, .int s_ofNumber, .int s_ofPose, .int s_ofNear, .int s_from, .int s_size, .int s_here, .int s_token, .int s_tokenAt, .long s_tokenWorth, .int s_open, .int s_bad, .int s_fault, .ref a_now, .ref a_gained, .ref a_rowsWas, .int s_faceWas, .int s_poseWas, .ref a_roomKept, .ref a_rowsKept, .int s_manyKept, .int s_ruleKept, .ref a_isThere, .ref a_sorts, .ref a_sheetSize, .ref a_items])), (a_rows, .inl (vxT x 0, 24, .inl s_rows)), (a_rowsKept, .inl (vxT x 0, 24, .inl s_rowsKept)), (a_room, .inl (vxT x 0, 4, .inl s_room)), (a_roomKept, .inl (vxT x 0, 4, .inl s_roomKept))] [(0, .ref a0), (1, .int l1)] 27 []) ?_
  intro kp_27 hk_27 l1 s_rowsKept hf
  unfold f_X7_image_27 at hf
  refine v_iload_n X 1 rfl dX7_image_27 ?_
  refine v_bipush X (v := 24) (by decide) dX7_image_28 ?_
  refine v_icmp_ge X (tgt := 51) hf (by decide) dX7_image_30 (fun c30 hf => ?_) (fun c30 hf => ?_)
  · refine v_aload_n X 0 rfl dX7_image_51 ?_
    refine v_aload_n X 0 rfl dX7_image_52 ?_
    refine v_get X xinX7 0 rfl rfl 10 (by decide) wd107 rfl rfl dX7_image_53 ?_
    refine v_put X xinX7 tyX7 tyX7_ok nmX7 0 rfl rfl 33 (by decide) wd501 rfl rfl rfl rfl rfl (Nat.le_of_ble_eq_true rfl) (ws' := [(a0, .inr (7, [.int s_thrown, .ref a_texts, .ref a_textSize, .int s_textCount, .int s_rule, .ref a_tape, .int s_taped, .ref a_room, .ref a_kinds, .ref a_rows, .int s_many, .int s_ofSide, .int s_ofLamp, .int s_ofStove, .int s_ofNumber, .int s_ofPose, .int s_ofNear, .int s_from, .int s_size, .int s_here, .int s_token, .int s_tokenAt, .long s_tokenWorth, .int s_open, .int s_bad, .int s_fault, .ref a_now, .ref a_gained, .ref a_rowsWas, .int s_faceWas, .int s_poseWas, .ref a_roomKept, .ref a_rowsKept, .int s_many, .int s_ruleKept, .ref a_isThere, .ref a_sorts, .ref a_sheetSize, .ref a_items])), (a_rows, .inl (vxT x 0, 24, .inl s_rows)), (a_rowsKept, .inl (vxT x 0, 24, .inl s_rowsKept)), (a_room, .inl (vxT x 0, 4, .inl s_room)), (a_roomKept, .inl (vxT x 0, 4, .inl s_roomKept))]) rfl dX7_image_56 ?_
    refine v_aload_n X 0 rfl dX7_image_59 ?_
    refine v_aload_n X 0 rfl dX7_image_60 ?_
    refine v_get X xinX7 0 rfl rfl 4 (by decide) wd127 rfl rfl dX7_image_61 ?_
    refine v_put X xinX7 tyX7 tyX7_ok nmX7 0 rfl rfl 34 (by decide) wd502 rfl rfl rfl rfl rfl (Nat.le_of_ble_eq_true rfl) (ws' := [(a0, .inr (7, [.int s_thrown, .ref a_texts, .ref a_textSize, .int s_textCount, .int s_rule, .ref a_tape, .int s_taped, .ref a_room, .ref a_kinds, .ref a_rows, .int s_many, .int s_ofSide, .int s_ofLamp, .int s_ofStove, .int s_ofNumber, .int s_ofPose, .int s_ofNear, .int s_from, .int s_size, .int s_here, .int s_token, .int s_tokenAt, .long s_tokenWorth, .int s_open, .int s_bad, .int s_fault, .ref a_now, .ref a_gained, .ref a_rowsWas, .int s_faceWas, .int s_poseWas, .ref a_roomKept, .ref a_rowsKept, .int s_many, .int s_rule, .ref a_isThere, .ref a_sorts, .ref a_sheetSize, .ref a_items])), (a_rows, .inl (vxT x 0, 24, .inl s_rows)), (a_rowsKept, .inl (vxT x 0, 24, .inl s_rowsKept)), (a_room, .inl (vxT x 0, 4, .inl s_room)), (a_roomKept, .inl (vxT x 0, 4, .inl s_roomKept))]) rfl dX7_image_64 ?_
    refine v_aload_n X 0 rfl dX7_image_67 ?_
    refine v_get X xinX7 0 rfl rfl 10 (by decide) wd107 rfl rfl dX7_image_68 ?_
    obtain rfl := Option.some.inj hf
    exact v_iret hR dX7_image_71
  · refine v_aload_n X 0 rfl dX7_image_33 ?_
    refine v_get X xinX7 0 rfl rfl 32 (by decide) wd503 rfl rfl dX7_image_34 ?_
    refine v_iload_n X 1 rfl dX7_image_37 ?_
    refine v_aload_n X 0 rfl dX7_image_38 ?_
    refine v_get X xinX7 0 rfl rfl 9 (by decide) wd113 rfl rfl dX7_image_39 ?_
    refine v_iload_n X 1 rfl dX7_image_42 ?_
    refine v_iald X 1 rfl hf dX7_image_43 (fun h43 hf => ?_)
    refine v_iast X 2 rfl hf (ws' := [(a0, .inr (7, [.int s_thrown, .ref a_texts, .ref a_textSize, .int s_textCount, .int s_rule, .ref a_tape, .int s_taped, .ref a_room, .ref a_kinds, .ref a_rows, .int s_many, .int s_ofSide, .int s_ofLamp, .int s_ofStove, .int s_ofNumber, .int s_ofPose, .int s_ofNear, .int s_from, .int s_size, .int s_here, .int s_token, .int s_tokenAt, .long s_tokenWorth, .int s_open, .int s_bad, .int s_fault, .ref a_now, .ref a_gained, .ref a_rowsWas, .int s_faceWas, .int s_poseWas, .ref a_roomKept, .ref a_rowsKept, .int s_manyKept, .int s_ruleKept, .ref a_isThere, .ref a_sorts, .ref a_sheetSize, .ref a_items])), (a_rows, .inl (vxT x 0, 24, .inl s_rows)), (a_rowsKept, .inl (vxT x 0, 24, .inl (upd s_rowsKept (Int32.toNatClampNeg l1) (s_rows (Int32.toNatClampNeg l1))))), (a_room, .inl (vxT x 0, 4, .inl s_room)), (a_roomKept, .inl (vxT x 0, 4, .inl s_roomKept))]) rfl dX7_image_44 (fun h44 hf => ?_)
    refine v_iinc X 1 rfl (v := (l1 + 1)) rfl (by rw [hN]; decide) (lv' := [(1, .int (l1 + 1)), (0, .ref a0)]) rfl dX7_image_45 ?_
    refine v_goto X (tgt := 27) (by decide) dX7_image_48 ?_
    refine v_lv [1, 0] rfl ?_
    exact hk_27 _ _ hf
set_option maxRecDepth 100000 in
set_option maxHeartbeats 4000000 in
theorem t_X7_image_2 {x : VX} {r : Int32 × Int32 × Int32 × (Nat → Int32) × (Nat → Int32)} {a0 : Nat} {a_rows : Nat} {a_rowsKept : Nat} {a_room : Nat} {a_roomKept : Nat} {a_texts : Nat} {a_textSize : Nat} {a_tape : Nat} {a_kinds : Nat} {a_now : Nat} {a_gained : Nat} {a_rowsWas : Nat} {a_isThere : Nat} {a_sorts : Nat} {a_sheetSize : Nat} {a_items : Nat} {s_thrown : Int32} {s_textCount : Int32} {s_rule : Int32} {s_taped : Int32} {s_many : Int32} {s_ofSide : Int32} {s_ofLamp : Int32} {s_ofStove : Int32} {s_ofNumber : Int32} {s_ofPose : Int32} {s_ofNear : Int32} {s_from : Int32} {s_size : Int32} {s_here : Int32} {s_token : Int32} {s_tokenAt : Int32} {s_tokenWorth : Int64} {s_open : Int32} {s_bad : Int32} {s_fault : Int32} {s_faceWas : Int32} {s_poseWas : Int32} {s_manyKept : Int32} {s_ruleKept : Int32} {s_rows : Nat → Int32} {s_rowsKept : Nat → Int32} {s_room : Nat → Int32} (X : Cx x cX7_image RX7 1) (hN : vxn x = 2) (hR : RetI x cX7_image 0 0 r.1 [(a0, .inr (7, [.int s_thrown, .ref a_texts, .ref a_textSize, .int s_textCount, .int s_rule, .ref a_tape, .int s_taped, .ref a_room, .ref a_kinds, .ref a_rows, .int s_many, .int s_ofSide, .int s_ofLamp, .int s_ofStove, .int s_ofNumber, .int s_ofPose, .int s_ofNear, .int s_from, .int s_size, .int s_here, .int s_token, .int s_tokenAt, .long s_tokenWorth, .int s_open, .int s_bad, .int s_fault, .ref a_now, .ref a_gained, .ref a_rowsWas, .int s_faceWas, .int s_poseWas, .ref a_roomKept, .ref a_rowsKept, .int r.2.1, .int r.2.2.1, .ref a_isThere, .ref a_sorts, .ref a_sheetSize, .ref a_items])), (a_rows, .inl (vxT x 0, 24, .inl s_rows)), (a_rowsKept, .inl (vxT x 0, 24, .inl r.2.2.2.1)), (a_room, .inl (vxT x 0, 4, .inl s_room)), (a_roomKept, .inl (vxT x 0, 4, .inl r.2.2.2.2))]) :
    ∀ (fu : Nat) (l1 : Int32) (s_roomKept : Nat → Int32), lq2 (f_X7_image_2 s_rule s_many s_rows s_rowsKept s_room) fu l1 s_roomKept = some r → V x 0 0 [(a0, .inr (7, [.int s_thrown, .ref a_texts, .ref a_textSize, .int s_textCount, .int s_rule, .ref a_tape, .int s_taped, .ref a_room, .ref a_kinds, .ref a_rows, .int s_many, .int s_ofSide, .int s_ofLamp, .int s_ofStove, .int s_ofNumber, .int s_ofPose, .int s_ofNear, .int s_from, .int s_size, .int s_here, .int s_token, .int s_tokenAt, .long s_tokenWorth, .int s_open, .int s_bad, .int s_fault, .ref a_now, .ref a_gained, .ref a_rowsWas, .int s_faceWas, .int s_poseWas, .ref a_roomKept, .ref a_rowsKept, .int s_manyKept, .int s_ruleKept, .ref a_isThere, .ref a_sorts, .ref a_sheetSize, .ref a_items])), (a_rows, .inl (vxT x 0, 24, .inl s_rows)), (a_rowsKept, .inl (vxT x 0, 24, .inl s_rowsKept)), (a_room, .inl (vxT x 0, 4, .inl s_room)), (a_roomKept, .inl (vxT x 0, 4, .inl s_roomKept))] [(0, .ref a0), (1, .int l1)] 2 [] := by
  refine lq2_V (G := fun l1 s_roomKept => V x 0 0 [(a0, .inr (7, [.int s_thrown, .ref a_texts, .ref a_textSize, .int s_textCount, .int s_rule, .ref a_tape, .int s_taped, .ref a_room, .ref a_kinds, .ref a_rows, .int s_many, .int s_ofSide, .int s_ofLamp, .int s_ofStove, .int s_ofNumber, .int s_ofPose, .int s_ofNear, .int s_from, .int s_size, .int s_here, .int s_token, .int s_tokenAt, .long s_tokenWorth, .int s_open, .int s_bad, .int s_fault, .ref a_now, .ref a_gained, .ref a_rowsWas, .int s_faceWas, .int s_poseWas, .ref a_roomKept, .ref a_rowsKept, .int s_manyKept, .int s_ruleKept, .ref a_isThere, .ref a_sorts, .ref a_sheetSize, .ref a_items])), (a_rows, .inl (vxT x 0, 24, .inl s_rows)), (a_rowsKept, .inl (vxT x 0, 24, .inl s_rowsKept)), (a_room, .inl (vxT x 0, 4, .inl s_room)), (a_roomKept, .inl (vxT x 0, 4, .inl s_roomKept))] [(0, .ref a0), (1, .int l1)] 2 []) ?_
  intro kp_2 hk_2 l1 s_roomKept hf
  unfold f_X7_image_2 at hf
  refine v_iload_n X 1 rfl dX7_image_2 ?_
  refine v_iconst X (v := 4) (by decide) dX7_image_3 ?_
  refine v_icmp_ge X (tgt := 25) hf (by decide) dX7_image_4 (fun c4 hf => ?_) (fun c4 hf => ?_)
  · refine v_iconst X (v := 0) (by decide) dX7_image_25 ?_
    refine v_istore_n X rfl (by rw [hN]; decide) (lv' := [(1, .int 0), (0, .ref a0)]) rfl dX7_image_26 ?_
    refine v_lv [1, 0] rfl ?_
    exact t_X7_image_27 X hN hR 200 _ _ hf
  · refine v_aload_n X 0 rfl dX7_image_7 ?_
    refine v_get X xinX7 0 rfl rfl 31 (by decide) wd504 rfl rfl dX7_image_8 ?_
    refine v_iload_n X 1 rfl dX7_image_11 ?_
    refine v_aload_n X 0 rfl dX7_image_12 ?_
    refine v_get X xinX7 0 rfl rfl 7 (by decide) wd129 rfl rfl dX7_image_13 ?_
    refine v_iload_n X 1 rfl dX7_image_16 ?_
    refine v_iald X 3 rfl hf dX7_image_17 (fun h17 hf => ?_)
    refine v_iast X 4 rfl hf (ws' := [(a0, .inr (7, [.int s_thrown, .ref a_texts, .ref a_textSize, .int s_textCount, .int s_rule, .ref a_tape, .int s_taped, .ref a_room, .ref a_kinds, .ref a_rows, .int s_many, .int s_ofSide, .int s_ofLamp, .int s_ofStove, .int s_ofNumber, .int s_ofPose, .int s_ofNear, .int s_from, .int s_size, .int s_here, .int s_token, .int s_tokenAt, .long s_tokenWorth, .int s_open, .int s_bad, .int s_fault, .ref a_now, .ref a_gained, .ref a_rowsWas, .int s_faceWas, .int s_poseWas, .ref a_roomKept, .ref a_rowsKept, .int s_manyKept, .int s_ruleKept, .ref a_isThere, .ref a_sorts, .ref a_sheetSize, .ref a_items])), (a_rows, .inl (vxT x 0, 24, .inl s_rows)), (a_rowsKept, .inl (vxT x 0, 24, .inl s_rowsKept)), (a_room, .inl (vxT x 0, 4, .inl s_room)), (a_roomKept, .inl (vxT x 0, 4, .inl (upd s_roomKept (Int32.toNatClampNeg l1) (s_room (Int32.toNatClampNeg l1)))))]) rfl dX7_image_18 (fun h18 hf => ?_)
    refine v_iinc X 1 rfl (v := (l1 + 1)) rfl (by rw [hN]; decide) (lv' := [(1, .int (l1 + 1)), (0, .ref a0)]) rfl dX7_image_19 ?_
    refine v_goto X (tgt := 2) (by decide) dX7_image_22 ?_
    refine v_lv [1, 0] rfl ?_
    exact hk_2 _ _ hf
set_option maxRecDepth 100000 in
set_option maxHeartbeats 4000000 in
theorem t_X7_image {x : VX} {r : Int32 × Int32 × Int32 × (Nat → Int32) × (Nat → Int32)} {a0 : Nat} {a_rows : Nat} {a_rowsKept : Nat} {a_room : Nat} {a_roomKept : Nat} {a_texts : Nat} {a_textSize : Nat} {a_tape : Nat} {a_kinds : Nat} {a_now : Nat} {a_gained : Nat} {a_rowsWas : Nat} {a_isThere : Nat} {a_sorts : Nat} {a_sheetSize : Nat} {a_items : Nat} {s_thrown : Int32} {s_textCount : Int32} {s_rule : Int32} {s_taped : Int32} {s_many : Int32} {s_ofSide : Int32} {s_ofLamp : Int32} {s_ofStove : Int32} {s_ofNumber : Int32} {s_ofPose : Int32} {s_ofNear : Int32} {s_from : Int32} {s_size : Int32} {s_here : Int32} {s_token : Int32} {s_tokenAt : Int32} {s_tokenWorth : Int64} {s_open : Int32} {s_bad : Int32} {s_fault : Int32} {s_faceWas : Int32} {s_poseWas : Int32} {s_manyKept : Int32} {s_ruleKept : Int32} {s_rows : Nat → Int32} {s_rowsKept : Nat → Int32} {s_room : Nat → Int32} {s_roomKept : Nat → Int32} (X : Cx x cX7_image RX7 1) (hN : vxn x = 2) (hR : RetI x cX7_image 0 0 r.1 [(a0, .inr (7, [.int s_thrown, .ref a_texts, .ref a_textSize, .int s_textCount, .int s_rule, .ref a_tape, .int s_taped, .ref a_room, .ref a_kinds, .ref a_rows, .int s_many, .int s_ofSide, .int s_ofLamp, .int s_ofStove, .int s_ofNumber, .int s_ofPose, .int s_ofNear, .int s_from, .int s_size, .int s_here, .int s_token, .int s_tokenAt, .long s_tokenWorth, .int s_open, .int s_bad, .int s_fault, .ref a_now, .ref a_gained, .ref a_rowsWas, .int s_faceWas, .int s_poseWas, .ref a_roomKept, .ref a_rowsKept, .int r.2.1, .int r.2.2.1, .ref a_isThere, .ref a_sorts, .ref a_sheetSize, .ref a_items])), (a_rows, .inl (vxT x 0, 24, .inl s_rows)), (a_rowsKept, .inl (vxT x 0, 24, .inl r.2.2.2.1)), (a_room, .inl (vxT x 0, 4, .inl s_room)), (a_roomKept, .inl (vxT x 0, 4, .inl r.2.2.2.2))]) (hf : f_X7_image s_rule s_many s_rows s_rowsKept s_room s_roomKept = some r) : V x 0 0 [(a0, .inr (7, [.int s_thrown, .ref a_texts, .ref a_textSize, .int s_textCount, .int s_rule, .ref a_tape, .int s_taped, .ref a_room, .ref a_kinds, .ref a_rows, .int s_many, .int s_ofSide, .int s_ofLamp, .int s_ofStove, .int s_ofNumber, .int s_ofPose, .int s_ofNear, .int s_from, .int s_size, .int s_here, .int s_token, .int s_tokenAt, .long s_tokenWorth, .int s_open, .int s_bad, .int s_fault, .ref a_now, .ref a_gained, .ref a_rowsWas, .int s_faceWas, .int s_poseWas, .ref a_roomKept, .ref a_rowsKept, .int s_manyKept, .int s_ruleKept, .ref a_isThere, .ref a_sorts, .ref a_sheetSize, .ref a_items])), (a_rows, .inl (vxT x 0, 24, .inl s_rows)), (a_rowsKept, .inl (vxT x 0, 24, .inl s_rowsKept)), (a_room, .inl (vxT x 0, 4, .inl s_room)), (a_roomKept, .inl (vxT x 0, 4, .inl s_roomKept))] [(0, .ref a0)] 0 [] := by
  unfold f_X7_image at hf
  refine v_iconst X (v := 0) (by decide) dX7_image_0 ?_
  refine v_istore_n X rfl (by rw [hN]; decide) (lv' := [(1, .int 0), (0, .ref a0)]) rfl dX7_image_1 ?_
  refine v_lv [1, 0] rfl ?_
  exact t_X7_image_2 X hN hR 200 _ _ hf
set_option maxRecDepth 100000 in
set_option maxHeartbeats 4000000 in
theorem c_X7_image {l : Launch} {D : va_G} {qT : Nat → ClassId} {Z : (Nat → Prop) → State → Heap → Prop} {r : Int32 × Int32 × Int32 × (Nat → Int32) × (Nat → Int32)} {a0 : Nat} {a_rows : Nat} {a_rowsKept : Nat} {a_room : Nat} {a_roomKept : Nat} {a_texts : Nat} {a_textSize : Nat} {a_tape : Nat} {a_kinds : Nat} {a_now : Nat} {a_gained : Nat} {a_rowsWas : Nat} {a_isThere : Nat} {a_sorts : Nat} {a_sheetSize : Nat} {a_items : Nat} {s_thrown : Int32} {s_textCount : Int32} {s_rule : Int32} {s_taped : Int32} {s_many : Int32} {s_ofSide : Int32} {s_ofLamp : Int32} {s_ofStove : Int32} {s_ofNumber : Int32} {s_ofPose : Int32} {s_ofNear : Int32} {s_from : Int32} {s_size : Int32} {s_here : Int32} {s_token : Int32} {s_tokenAt : Int32} {s_tokenWorth : Int64} {s_open : Int32} {s_bad : Int32} {s_fault : Int32} {s_faceWas : Int32} {s_poseWas : Int32} {s_manyKept : Int32} {s_ruleKept : Int32} {s_rows : Nat → Int32} {s_rowsKept : Nat → Int32} {s_room : Nat → Int32} {s_roomKept : Nat → Int32} (hZ : ZOK Z) (hf : f_X7_image s_rule s_many s_rows s_rowsKept s_room s_roomKept = some r) :
    CI l D qT Z yX7_image cX7_image 2 (some .int) 1 0 0 [.ref a0] [(a0, .inr (7, [.int s_thrown, .ref a_texts, .ref a_textSize, .int s_textCount, .int s_rule, .ref a_tape, .int s_taped, .ref a_room, .ref a_kinds, .ref a_rows, .int s_many, .int s_ofSide, .int s_ofLamp, .int s_ofStove, .int s_ofNumber, .int s_ofPose, .int s_ofNear, .int s_from, .int s_size, .int s_here, .int s_token, .int s_tokenAt, .long s_tokenWorth, .int s_open, .int s_bad, .int s_fault, .ref a_now, .ref a_gained, .ref a_rowsWas, .int s_faceWas, .int s_poseWas, .ref a_roomKept, .ref a_rowsKept, .int s_manyKept, .int s_ruleKept, .ref a_isThere, .ref a_sorts, .ref a_sheetSize, .ref a_items])), (a_rows, .inl (qT 0, 24, .inl s_rows)), (a_rowsKept, .inl (qT 0, 24, .inl s_rowsKept)), (a_room, .inl (qT 0, 4, .inl s_room)), (a_roomKept, .inl (qT 0, 4, .inl s_roomKept))] r.1 [(a0, .inr (7, [.int s_thrown, .ref a_texts, .ref a_textSize, .int s_textCount, .int s_rule, .ref a_tape, .int s_taped, .ref a_room, .ref a_kinds, .ref a_rows, .int s_many, .int s_ofSide, .int s_ofLamp, .int s_ofStove, .int s_ofNumber, .int s_ofPose, .int s_ofNear, .int s_from, .int s_size, .int s_here, .int s_token, .int s_tokenAt, .long s_tokenWorth, .int s_open, .int s_bad, .int s_fault, .ref a_now, .ref a_gained, .ref a_rowsWas, .int s_faceWas, .int s_poseWas, .ref a_roomKept, .ref a_rowsKept, .int r.2.1, .int r.2.2.1, .ref a_isThere, .ref a_sorts, .ref a_sheetSize, .ref a_items])), (a_rows, .inl (qT 0, 24, .inl s_rows)), (a_rowsKept, .inl (qT 0, 24, .inl r.2.2.2.1)), (a_room, .inl (qT 0, 4, .inl s_room)), (a_roomKept, .inl (qT 0, 4, .inl r.2.2.2.2))] := by
  refine CI_of hZ (by decide) (Nat.le_of_ble_eq_true rfl) ?_
  intro x e1 e2 e3 e4 e5 e6 hin X hR
  subst e1 e2 e3 e4
  exact t_X7_image X e6 hR hf
def f_X7_back_38 (s_manyKept : Int32) (s_ruleKept : Int32) (s_rowsKept : Nat → Int32) (s_room : Nat → Int32) (kp_38 : Int32 → (Nat → Int32) → Option (Int32 × Int32 × Int32 × (Nat → Int32) × (Nat → Int32))) (l1 : Int32) (s_rows : Nat → Int32) : Option (Int32 × Int32 × Int32 × (Nat → Int32) × (Nat → Int32)) :=
  if 24 ≤ l1 then (
  some (s_manyKept, s_ruleKept, s_manyKept, s_rows, s_room)) else (
  if inb l1 24 = true then (
  if inb l1 24 = true then (
  kp_38 (l1 + 1) (upd s_rows (Int32.toNatClampNeg l1) (s_rowsKept (Int32.toNatClampNeg l1)))) else none) else none)
def f_X7_back_13 (s_manyKept : Int32) (s_ruleKept : Int32) (s_rowsKept : Nat → Int32) (s_rows : Nat → Int32) (s_roomKept : Nat → Int32) (kp_13 : Int32 → (Nat → Int32) → Option (Int32 × Int32 × Int32 × (Nat → Int32) × (Nat → Int32))) (l1 : Int32) (s_room : Nat → Int32) : Option (Int32 × Int32 × Int32 × (Nat → Int32) × (Nat → Int32)) :=
  if 4 ≤ l1 then (
  lq2 (f_X7_back_38 s_manyKept s_ruleKept s_rowsKept s_room) 200 0 s_rows) else (
  if inb l1 4 = true then (
  if inb l1 4 = true then (
  kp_13 (l1 + 1) (upd s_room (Int32.toNatClampNeg l1) (s_roomKept (Int32.toNatClampNeg l1)))) else none) else none)
def f_X7_back (s_rule : Int32) (s_many : Int32) (s_manyKept : Int32) (s_ruleKept : Int32) (s_rowsKept : Nat → Int32) (s_rows : Nat → Int32) (s_roomKept : Nat → Int32) (s_room : Nat → Int32) : Option (Int32 × Int32 × Int32 × (Nat → Int32) × (Nat → Int32)) :=
  if s_manyKept = (-1) then (
  some ((-3), s_rule, s_many, s_rows, s_room)) else (
  lq2 (f_X7_back_13 s_manyKept s_ruleKept s_rowsKept s_rows s_roomKept) 200 0 s_room)
set_option maxRecDepth 100000 in
set_option maxHeartbeats 4000000 in
theorem t_X7_back_38 {x : VX} {r : Int32 × Int32 × Int32 × (Nat → Int32) × (Nat → Int32)} {a0 : Nat} {a_rowsKept : Nat} {a_rows : Nat} {a_roomKept : Nat} {a_room : Nat} {a_texts : Nat} {a_textSize : Nat} {a_tape : Nat} {a_kinds : Nat} {a_now : Nat} {a_gained : Nat} {a_rowsWas : Nat} {a_isThere : Nat} {a_sorts : Nat} {a_sheetSize : Nat} {a_items : Nat} {s_thrown : Int32} {s_textCount : Int32} {s_rule : Int32} {s_taped : Int32} {s_many : Int32} {s_ofSide : Int32} {s_ofLamp : Int32} {s_ofStove : Int32} {s_ofNumber : Int32} {s_ofPose : Int32} {s_ofNear : Int32} {s_from : Int32} {s_size : Int32} {s_here : Int32} {s_token : Int32} {s_tokenAt : Int32} {s_tokenWorth : Int64} {s_open : Int32} {s_bad : Int32} {s_fault : Int32} {s_faceWas : Int32} {s_poseWas : Int32} {s_manyKept : Int32} {s_ruleKept : Int32} {s_rowsKept : Nat → Int32} {s_roomKept : Nat → Int32} {s_room : Nat → Int32} (X : Cx x cX7_back RX7 1) (hN : vxn x = 2) (hR : RetI x cX7_back 0 0 r.1 [(a0, .inr (7, [.int s_thrown, .ref a_texts, .ref a_textSize, .int s_textCount, .int r.2.1, .ref a_tape, .int s_taped, .ref a_room, .ref a_kinds, .ref a_rows, .int r.2.2.1, .int s_ofSide, .int s_ofLamp, .int s_ofStove, .int s_ofNumber, .int s_ofPose, .int s_ofNear, .int s_from, .int s_size, .int s_here, .int s_token, .int s_tokenAt, .long s_tokenWorth, .int s_open, .int s_bad, .int s_fault, .ref a_now, .ref a_gained, .ref a_rowsWas, .int s_faceWas, .int s_poseWas, .ref a_roomKept, .ref a_rowsKept, .int s_manyKept, .int s_ruleKept, .ref a_isThere, .ref a_sorts, .ref a_sheetSize, .ref a_items])), (a_rowsKept, .inl (vxT x 0, 24, .inl s_rowsKept)), (a_rows, .inl (vxT x 0, 24, .inl r.2.2.2.1)), (a_roomKept, .inl (vxT x 0, 4, .inl s_roomKept)), (a_room, .inl (vxT x 0, 4, .inl r.2.2.2.2))]) :
    ∀ (fu : Nat) (l1 : Int32) (s_rows : Nat → Int32), lq2 (f_X7_back_38 s_manyKept s_ruleKept s_rowsKept s_room) fu l1 s_rows = some r → V x 0 0 [(a0, .inr (7, [.int s_thrown, .ref a_texts, .ref a_textSize, .int s_textCount, .int s_rule, .ref a_tape, .int s_taped, .ref a_room, .ref a_kinds, .ref a_rows, .int s_many, .int s_ofSide, .int s_ofLamp, .int s_ofStove, .int s_ofNumber, .int s_ofPose, .int s_ofNear, .int s_from, .int s_size, .int s_here, .int s_token, .int s_tokenAt, .long s_tokenWorth, .int s_open, .int s_bad, .int s_fault, .ref a_now, .ref a_gained, .ref a_rowsWas, .int s_faceWas, .int s_poseWas, .ref a_roomKept, .ref a_rowsKept, .int s_manyKept, .int s_ruleKept, .ref a_isThere, .ref a_sorts, .ref a_sheetSize, .ref a_items])), (a_rowsKept, .inl (vxT x 0, 24, .inl s_rowsKept)), (a_rows, .inl (vxT x 0, 24, .inl s_rows)), (a_roomKept, .inl (vxT x 0, 4, .inl s_roomKept)), (a_room, .inl (vxT x 0, 4, .inl s_room))] [(0, .ref a0), (1, .int l1)] 38 [] := by
  refine lq2_V (G := fun l1 s_rows => V x 0 0 [(a0, .inr (7, [.int s_thrown, .ref a_texts, .ref a_textSize, .int s_textCount, .int s_rule, .ref a_tape, .int s_taped, .ref a_room, .ref a_kinds, .ref a_rows, .int s_many, .int s_ofSide, .int s_ofLamp, .int s_ofStove, .int s_ofNumber, .int s_ofPose, .int s_ofNear, .int s_from, .int s_size, .int s_here, .int s_token, .int s_tokenAt, .long s_tokenWorth, .int s_open, .int s_bad, .int s_fault, .ref a_now, .ref a_gained, .ref a_rowsWas, .int s_faceWas, .int s_poseWas, .ref a_roomKept, .ref a_rowsKept, .int s_manyKept, .int s_ruleKept, .ref a_isThere, .ref a_sorts, .ref a_sheetSize, .ref a_items])), (a_rowsKept, .inl (vxT x 0, 24, .inl s_rowsKept)), (a_rows, .inl (vxT x 0, 24, .inl s_rows)), (a_roomKept, .inl (vxT x 0, 4, .inl s_roomKept)), (a_room, .inl (vxT x 0, 4, .inl s_room))] [(0, .ref a0), (1, .int l1)] 38 []) ?_
  intro kp_38 hk_38 l1 s_rows hf
  unfold f_X7_back_38 at hf
  refine v_iload_n X 1 rfl dX7_back_38 ?_
  refine v_bipush X (v := 24) (by decide) dX7_back_39 ?_
  refine v_icmp_ge X (tgt := 62) hf (by decide) dX7_back_41 (fun c41 hf => ?_) (fun c41 hf => ?_)
  · refine v_aload_n X 0 rfl dX7_back_62 ?_
    refine v_aload_n X 0 rfl dX7_back_63 ?_
    refine v_get X xinX7 0 rfl rfl 33 (by decide) wd501 rfl rfl dX7_back_64 ?_
    refine v_put X xinX7 tyX7 tyX7_ok nmX7 0 rfl rfl 10 (by decide) wd107 rfl rfl rfl rfl rfl (Nat.le_of_ble_eq_true rfl) (ws' := [(a0, .inr (7, [.int s_thrown, .ref a_texts, .ref a_textSize, .int s_textCount, .int s_rule, .ref a_tape, .int s_taped, .ref a_room, .ref a_kinds, .ref a_rows, .int s_manyKept, .int s_ofSide, .int s_ofLamp, .int s_ofStove, .int s_ofNumber, .int s_ofPose, .int s_ofNear, .int s_from, .int s_size, .int s_here, .int s_token, .int s_tokenAt, .long s_tokenWorth, .int s_open, .int s_bad, .int s_fault, .ref a_now, .ref a_gained, .ref a_rowsWas, .int s_faceWas, .int s_poseWas, .ref a_roomKept, .ref a_rowsKept, .int s_manyKept, .int s_ruleKept, .ref a_isThere, .ref a_sorts, .ref a_sheetSize, .ref a_items])), (a_rowsKept, .inl (vxT x 0, 24, .inl s_rowsKept)), (a_rows, .inl (vxT x 0, 24, .inl s_rows)), (a_roomKept, .inl (vxT x 0, 4, .inl s_roomKept)), (a_room, .inl (vxT x 0, 4, .inl s_room))]) rfl dX7_back_67 ?_
    refine v_aload_n X 0 rfl dX7_back_70 ?_
    refine v_aload_n X 0 rfl dX7_back_71 ?_
    refine v_get X xinX7 0 rfl rfl 34 (by decide) wd502 rfl rfl dX7_back_72 ?_
    refine v_put X xinX7 tyX7 tyX7_ok nmX7 0 rfl rfl 4 (by decide) wd127 rfl rfl rfl rfl rfl (Nat.le_of_ble_eq_true rfl) (ws' := [(a0, .inr (7, [.int s_thrown, .ref a_texts, .ref a_textSize, .int s_textCount, .int s_ruleKept, .ref a_tape, .int s_taped, .ref a_room, .ref a_kinds, .ref a_rows, .int s_manyKept, .int s_ofSide, .int s_ofLamp, .int s_ofStove, .int s_ofNumber, .int s_ofPose, .int s_ofNear, .int s_from, .int s_size, .int s_here, .int s_token, .int s_tokenAt, .long s_tokenWorth, .int s_open, .int s_bad, .int s_fault, .ref a_now, .ref a_gained, .ref a_rowsWas, .int s_faceWas, .int s_poseWas, .ref a_roomKept, .ref a_rowsKept, .int s_manyKept, .int s_ruleKept, .ref a_isThere, .ref a_sorts, .ref a_sheetSize, .ref a_items])), (a_rowsKept, .inl (vxT x 0, 24, .inl s_rowsKept)), (a_rows, .inl (vxT x 0, 24, .inl s_rows)), (a_roomKept, .inl (vxT x 0, 4, .inl s_roomKept)), (a_room, .inl (vxT x 0, 4, .inl s_room))]) rfl dX7_back_75 ?_
    refine v_aload_n X 0 rfl dX7_back_78 ?_
    refine v_get X xinX7 0 rfl rfl 10 (by decide) wd107 rfl rfl dX7_back_79 ?_
    obtain rfl := Option.some.inj hf
    exact v_iret hR dX7_back_82
  · refine v_aload_n X 0 rfl dX7_back_44 ?_
    refine v_get X xinX7 0 rfl rfl 9 (by decide) wd113 rfl rfl dX7_back_45 ?_
    refine v_iload_n X 1 rfl dX7_back_48 ?_
    refine v_aload_n X 0 rfl dX7_back_49 ?_
    refine v_get X xinX7 0 rfl rfl 32 (by decide) wd503 rfl rfl dX7_back_50 ?_
    refine v_iload_n X 1 rfl dX7_back_53 ?_
    refine v_iald X 1 rfl hf dX7_back_54 (fun h54 hf => ?_)
    refine v_iast X 2 rfl hf (ws' := [(a0, .inr (7, [.int s_thrown, .ref a_texts, .ref a_textSize, .int s_textCount, .int s_rule, .ref a_tape, .int s_taped, .ref a_room, .ref a_kinds, .ref a_rows, .int s_many, .int s_ofSide, .int s_ofLamp, .int s_ofStove, .int s_ofNumber, .int s_ofPose, .int s_ofNear, .int s_from, .int s_size, .int s_here, .int s_token, .int s_tokenAt, .long s_tokenWorth, .int s_open, .int s_bad, .int s_fault, .ref a_now, .ref a_gained, .ref a_rowsWas, .int s_faceWas, .int s_poseWas, .ref a_roomKept, .ref a_rowsKept, .int s_manyKept, .int s_ruleKept, .ref a_isThere, .ref a_sorts, .ref a_sheetSize, .ref a_items])), (a_rowsKept, .inl (vxT x 0, 24, .inl s_rowsKept)), (a_rows, .inl (vxT x 0, 24, .inl (upd s_rows (Int32.toNatClampNeg l1) (s_rowsKept (Int32.toNatClampNeg l1))))), (a_roomKept, .inl (vxT x 0, 4, .inl s_roomKept)), (a_room, .inl (vxT x 0, 4, .inl s_room))]) rfl dX7_back_55 (fun h55 hf => ?_)
    refine v_iinc X 1 rfl (v := (l1 + 1)) rfl (by rw [hN]; decide) (lv' := [(1, .int (l1 + 1)), (0, .ref a0)]) rfl dX7_back_56 ?_
    refine v_goto X (tgt := 38) (by decide) dX7_back_59 ?_
    refine v_lv [1, 0] rfl ?_
    exact hk_38 _ _ hf
set_option maxRecDepth 100000 in
set_option maxHeartbeats 4000000 in
theorem t_X7_back_13 {x : VX} {r : Int32 × Int32 × Int32 × (Nat → Int32) × (Nat → Int32)} {a0 : Nat} {a_rowsKept : Nat} {a_rows : Nat} {a_roomKept : Nat} {a_room : Nat} {a_texts : Nat} {a_textSize : Nat} {a_tape : Nat} {a_kinds : Nat} {a_now : Nat} {a_gained : Nat} {a_rowsWas : Nat} {a_isThere : Nat} {a_sorts : Nat} {a_sheetSize : Nat} {a_items : Nat} {s_thrown : Int32} {s_textCount : Int32} {s_rule : Int32} {s_taped : Int32} {s_many : Int32} {s_ofSide : Int32} {s_ofLamp : Int32} {s_ofStove : Int32} {s_ofNumber : Int32} {s_ofPose : Int32} {s_ofNear : Int32} {s_from : Int32} {s_size : Int32} {s_here : Int32} {s_token : Int32} {s_tokenAt : Int32} {s_tokenWorth : Int64} {s_open : Int32} {s_bad : Int32} {s_fault : Int32} {s_faceWas : Int32} {s_poseWas : Int32} {s_manyKept : Int32} {s_ruleKept : Int32} {s_rowsKept : Nat → Int32} {s_rows : Nat → Int32} {s_roomKept : Nat → Int32} (X : Cx x cX7_back RX7 1) (hN : vxn x = 2) (hR : RetI x cX7_back 0 0 r.1 [(a0, .inr (7, [.int s_thrown, .ref a_texts, .ref a_textSize, .int s_textCount, .int r.2.1, .ref a_tape, .int s_taped, .ref a_room, .ref a_kinds, .ref a_rows, .int r.2.2.1, .int s_ofSide, .int s_ofLamp, .int s_ofStove, .int s_ofNumber, .int s_ofPose, .int s_ofNear, .int s_from, .int s_size, .int s_here, .int s_token, .int s_tokenAt, .long s_tokenWorth, .int s_open, .int s_bad, .int s_fault, .ref a_now, .ref a_gained, .ref a_rowsWas, .int s_faceWas, .int s_poseWas, .ref a_roomKept, .ref a_rowsKept, .int s_manyKept, .int s_ruleKept, .ref a_isThere, .ref a_sorts, .ref a_sheetSize, .ref a_items])), (a_rowsKept, .inl (vxT x 0, 24, .inl s_rowsKept)), (a_rows, .inl (vxT x 0, 24, .inl r.2.2.2.1)), (a_roomKept, .inl (vxT x 0, 4, .inl s_roomKept)), (a_room, .inl (vxT x 0, 4, .inl r.2.2.2.2))]) :
    ∀ (fu : Nat) (l1 : Int32) (s_room : Nat → Int32), lq2 (f_X7_back_13 s_manyKept s_ruleKept s_rowsKept s_rows s_roomKept) fu l1 s_room = some r → V x 0 0 [(a0, .inr (7, [.int s_thrown, .ref a_texts, .ref a_textSize, .int s_textCount, .int s_rule, .ref a_tape, .int s_taped, .ref a_room, .ref a_kinds, .ref a_rows, .int s_many, .int s_ofSide, .int s_ofLamp, .int s_ofStove, .int s_ofNumber, .int s_ofPose, .int s_ofNear, .int s_from, .int s_size, .int s_here, .int s_token, .int s_tokenAt, .long s_tokenWorth, .int s_open, .int s_bad, .int s_fault, .ref a_now, .ref a_gained, .ref a_rowsWas, .int s_faceWas, .int s_poseWas, .ref a_roomKept, .ref a_rowsKept, .int s_manyKept, .int s_ruleKept, .ref a_isThere, .ref a_sorts, .ref a_sheetSize, .ref a_items])), (a_rowsKept, .inl (vxT x 0, 24, .inl s_rowsKept)), (a_rows, .inl (vxT x 0, 24, .inl s_rows)), (a_roomKept, .inl (vxT x 0, 4, .inl s_roomKept)), (a_room, .inl (vxT x 0, 4, .inl s_room))] [(0, .ref a0), (1, .int l1)] 13 [] := by
  refine lq2_V (G := fun l1 s_room => V x 0 0 [(a0, .inr (7, [.int s_thrown, .ref a_texts, .ref a_textSize, .int s_textCount, .int s_rule, .ref a_tape, .int s_taped, .ref a_room, .ref a_kinds, .ref a_rows, .int s_many, .int s_ofSide, .int s_ofLamp, .int s_ofStove, .int s_ofNumber, .int s_ofPose, .int s_ofNear, .int s_from, .int s_size, .int s_here, .int s_token, .int s_tokenAt, .long s_tokenWorth, .int s_open, .int s_bad, .int s_fault, .ref a_now, .ref a_gained, .ref a_rowsWas, .int s_faceWas, .int s_poseWas, .ref a_roomKept, .ref a_rowsKept, .int s_manyKept, .int s_ruleKept, .ref a_isThere, .ref a_sorts, .ref a_sheetSize, .ref a_items])), (a_rowsKept, .inl (vxT x 0, 24, .inl s_rowsKept)), (a_rows, .inl (vxT x 0, 24, .inl s_rows)), (a_roomKept, .inl (vxT x 0, 4, .inl s_roomKept)), (a_room, .inl (vxT x 0, 4, .inl s_room))] [(0, .ref a0), (1, .int l1)] 13 []) ?_
  intro kp_13 hk_13 l1 s_room hf
  unfold f_X7_back_13 at hf
  refine v_iload_n X 1 rfl dX7_back_13 ?_
  refine v_iconst X (v := 4) (by decide) dX7_back_14 ?_
  refine v_icmp_ge X (tgt := 36) hf (by decide) dX7_back_15 (fun c15 hf => ?_) (fun c15 hf => ?_)
  · refine v_iconst X (v := 0) (by decide) dX7_back_36 ?_
    refine v_istore_n X rfl (by rw [hN]; decide) (lv' := [(1, .int 0), (0, .ref a0)]) rfl dX7_back_37 ?_
    refine v_lv [1, 0] rfl ?_
    exact t_X7_back_38 X hN hR 200 _ _ hf
  · refine v_aload_n X 0 rfl dX7_back_18 ?_
    refine v_get X xinX7 0 rfl rfl 7 (by decide) wd129 rfl rfl dX7_back_19 ?_
    refine v_iload_n X 1 rfl dX7_back_22 ?_
    refine v_aload_n X 0 rfl dX7_back_23 ?_
    refine v_get X xinX7 0 rfl rfl 31 (by decide) wd504 rfl rfl dX7_back_24 ?_
    refine v_iload_n X 1 rfl dX7_back_27 ?_
    refine v_iald X 3 rfl hf dX7_back_28 (fun h28 hf => ?_)
    refine v_iast X 4 rfl hf (ws' := [(a0, .inr (7, [.int s_thrown, .ref a_texts, .ref a_textSize, .int s_textCount, .int s_rule, .ref a_tape, .int s_taped, .ref a_room, .ref a_kinds, .ref a_rows, .int s_many, .int s_ofSide, .int s_ofLamp, .int s_ofStove, .int s_ofNumber, .int s_ofPose, .int s_ofNear, .int s_from, .int s_size, .int s_here, .int s_token, .int s_tokenAt, .long s_tokenWorth, .int s_open, .int s_bad, .int s_fault, .ref a_now, .ref a_gained, .ref a_rowsWas, .int s_faceWas, .int s_poseWas, .ref a_roomKept, .ref a_rowsKept, .int s_manyKept, .int s_ruleKept, .ref a_isThere, .ref a_sorts, .ref a_sheetSize, .ref a_items])), (a_rowsKept, .inl (vxT x 0, 24, .inl s_rowsKept)), (a_rows, .inl (vxT x 0, 24, .inl s_rows)), (a_roomKept, .inl (vxT x 0, 4, .inl s_roomKept)), (a_room, .inl (vxT x 0, 4, .inl (upd s_room (Int32.toNatClampNeg l1) (s_roomKept (Int32.toNatClampNeg l1)))))]) rfl dX7_back_29 (fun h29 hf => ?_)
    refine v_iinc X 1 rfl (v := (l1 + 1)) rfl (by rw [hN]; decide) (lv' := [(1, .int (l1 + 1)), (0, .ref a0)]) rfl dX7_back_30 ?_
    refine v_goto X (tgt := 13) (by decide) dX7_back_33 ?_
    refine v_lv [1, 0] rfl ?_
    exact hk_13 _ _ hf
set_option maxRecDepth 100000 in
set_option maxHeartbeats 4000000 in
theorem t_X7_back {x : VX} {r : Int32 × Int32 × Int32 × (Nat → Int32) × (Nat → Int32)} {a0 : Nat} {a_rowsKept : Nat} {a_rows : Nat} {a_roomKept : Nat} {a_room : Nat} {a_texts : Nat} {a_textSize : Nat} {a_tape : Nat} {a_kinds : Nat} {a_now : Nat} {a_gained : Nat} {a_rowsWas : Nat} {a_isThere : Nat} {a_sorts : Nat} {a_sheetSize : Nat} {a_items : Nat} {s_thrown : Int32} {s_textCount : Int32} {s_rule : Int32} {s_taped : Int32} {s_many : Int32} {s_ofSide : Int32} {s_ofLamp : Int32} {s_ofStove : Int32} {s_ofNumber : Int32} {s_ofPose : Int32} {s_ofNear : Int32} {s_from : Int32} {s_size : Int32} {s_here : Int32} {s_token : Int32} {s_tokenAt : Int32} {s_tokenWorth : Int64} {s_open : Int32} {s_bad : Int32} {s_fault : Int32} {s_faceWas : Int32} {s_poseWas : Int32} {s_manyKept : Int32} {s_ruleKept : Int32} {s_rowsKept : Nat → Int32} {s_rows : Nat → Int32} {s_roomKept : Nat → Int32} {s_room : Nat → Int32} (X : Cx x cX7_back RX7 1) (hN : vxn x = 2) (hR : RetI x cX7_back 0 0 r.1 [(a0, .inr (7, [.int s_thrown, .ref a_texts, .ref a_textSize, .int s_textCount, .int r.2.1, .ref a_tape, .int s_taped, .ref a_room, .ref a_kinds, .ref a_rows, .int r.2.2.1, .int s_ofSide, .int s_ofLamp, .int s_ofStove, .int s_ofNumber, .int s_ofPose, .int s_ofNear, .int s_from, .int s_size, .int s_here, .int s_token, .int s_tokenAt, .long s_tokenWorth, .int s_open, .int s_bad, .int s_fault, .ref a_now, .ref a_gained, .ref a_rowsWas, .int s_faceWas, .int s_poseWas, .ref a_roomKept, .ref a_rowsKept, .int s_manyKept, .int s_ruleKept, .ref a_isThere, .ref a_sorts, .ref a_sheetSize, .ref a_items])), (a_rowsKept, .inl (vxT x 0, 24, .inl s_rowsKept)), (a_rows, .inl (vxT x 0, 24, .inl r.2.2.2.1)), (a_roomKept, .inl (vxT x 0, 4, .inl s_roomKept)), (a_room, .inl (vxT x 0, 4, .inl r.2.2.2.2))]) (hf : f_X7_back s_rule s_many s_manyKept s_ruleKept s_rowsKept s_rows s_roomKept s_room = some r) : V x 0 0 [(a0, .inr (7, [.int s_thrown, .ref a_texts, .ref a_textSize, .int s_textCount, .int s_rule, .ref a_tape, .int s_taped, .ref a_room, .ref a_kinds, .ref a_rows, .int s_many, .int s_ofSide, .int s_ofLamp, .int s_ofStove, .int s_ofNumber, .int s_ofPose, .int s_ofNear, .int s_from, .int s_size, .int s_here, .int s_token, .int s_tokenAt, .long s_tokenWorth, .int s_open, .int s_bad, .int s_fault, .ref a_now, .ref a_gained, .ref a_rowsWas, .int s_faceWas, .int s_poseWas, .ref a_roomKept, .ref a_rowsKept, .int s_manyKept, .int s_ruleKept, .ref a_isThere, .ref a_sorts, .ref a_sheetSize, .ref a_items])), (a_rowsKept, .inl (vxT x 0, 24, .inl s_rowsKept)), (a_rows, .inl (vxT x 0, 24, .inl s_rows)), (a_roomKept, .inl (vxT x 0, 4, .inl s_roomKept)), (a_room, .inl (vxT x 0, 4, .inl s_room))] [(0, .ref a0)] 0 [] := by
  unfold f_X7_back at hf
  refine v_aload_n X 0 rfl dX7_back_0 ?_
  refine v_get X xinX7 0 rfl rfl 33 (by decide) wd501 rfl rfl dX7_back_1 ?_
  refine v_iconst X (v := (-1)) (by decide) dX7_back_4 ?_
  refine v_icmp_ne X (tgt := 11) hf (by decide) dX7_back_5 (fun c5 hf => ?_) (fun c5 hf => ?_)
  · refine v_iconst X (v := 0) (by decide) dX7_back_11 ?_
    refine v_istore_n X rfl (by rw [hN]; decide) (lv' := [(1, .int 0), (0, .ref a0)]) rfl dX7_back_12 ?_
    refine v_lv [1, 0] rfl ?_
    exact t_X7_back_13 X hN hR 200 _ _ hf
  · refine v_bipush X (v := (-3)) (by decide) dX7_back_8 ?_
    obtain rfl := Option.some.inj hf
    exact v_iret hR dX7_back_10
set_option maxRecDepth 100000 in
set_option maxHeartbeats 4000000 in
theorem c_X7_back {l : Launch} {D : va_G} {qT : Nat → ClassId} {Z : (Nat → Prop) → State → Heap → Prop} {r : Int32 × Int32 × Int32 × (Nat → Int32) × (Nat → Int32)} {a0 : Nat} {a_rowsKept : Nat} {a_rows : Nat} {a_roomKept : Nat} {a_room : Nat} {a_texts : Nat} {a_textSize : Nat} {a_tape : Nat} {a_kinds : Nat} {a_now : Nat} {a_gained : Nat} {a_rowsWas : Nat} {a_isThere : Nat} {a_sorts : Nat} {a_sheetSize : Nat} {a_items : Nat} {s_thrown : Int32} {s_textCount : Int32} {s_rule : Int32} {s_taped : Int32} {s_many : Int32} {s_ofSide : Int32} {s_ofLamp : Int32} {s_ofStove : Int32} {s_ofNumber : Int32} {s_ofPose : Int32} {s_ofNear : Int32} {s_from : Int32} {s_size : Int32} {s_here : Int32} {s_token : Int32} {s_tokenAt : Int32} {s_tokenWorth : Int64} {s_open : Int32} {s_bad : Int32} {s_fault : Int32} {s_faceWas : Int32} {s_poseWas : Int32} {s_manyKept : Int32} {s_ruleKept : Int32} {s_rowsKept : Nat → Int32} {s_rows : Nat → Int32} {s_roomKept : Nat → Int32} {s_room : Nat → Int32} (hZ : ZOK Z) (hf : f_X7_back s_rule s_many s_manyKept s_ruleKept s_rowsKept s_rows s_roomKept s_room = some r) :
    CI l D qT Z yX7_back cX7_back 2 (some .int) 1 0 0 [.ref a0] [(a0, .inr (7, [.int s_thrown, .ref a_texts, .ref a_textSize, .int s_textCount, .int s_rule, .ref a_tape, .int s_taped, .ref a_room, .ref a_kinds, .ref a_rows, .int s_many, .int s_ofSide, .int s_ofLamp, .int s_ofStove, .int s_ofNumber, .int s_ofPose, .int s_ofNear, .int s_from, .int s_size, .int s_here, .int s_token, .int s_tokenAt, .long s_tokenWorth, .int s_open, .int s_bad, .int s_fault, .ref a_now, .ref a_gained, .ref a_rowsWas, .int s_faceWas, .int s_poseWas, .ref a_roomKept, .ref a_rowsKept, .int s_manyKept, .int s_ruleKept, .ref a_isThere, .ref a_sorts, .ref a_sheetSize, .ref a_items])), (a_rowsKept, .inl (qT 0, 24, .inl s_rowsKept)), (a_rows, .inl (qT 0, 24, .inl s_rows)), (a_roomKept, .inl (qT 0, 4, .inl s_roomKept)), (a_room, .inl (qT 0, 4, .inl s_room))] r.1 [(a0, .inr (7, [.int s_thrown, .ref a_texts, .ref a_textSize, .int s_textCount, .int r.2.1, .ref a_tape, .int s_taped, .ref a_room, .ref a_kinds, .ref a_rows, .int r.2.2.1, .int s_ofSide, .int s_ofLamp, .int s_ofStove, .int s_ofNumber, .int s_ofPose, .int s_ofNear, .int s_from, .int s_size, .int s_here, .int s_token, .int s_tokenAt, .long s_tokenWorth, .int s_open, .int s_bad, .int s_fault, .ref a_now, .ref a_gained, .ref a_rowsWas, .int s_faceWas, .int s_poseWas, .ref a_roomKept, .ref a_rowsKept, .int s_manyKept, .int s_ruleKept, .ref a_isThere, .ref a_sorts, .ref a_sheetSize, .ref a_items])), (a_rowsKept, .inl (qT 0, 24, .inl s_rowsKept)), (a_rows, .inl (qT 0, 24, .inl r.2.2.2.1)), (a_roomKept, .inl (qT 0, 4, .inl s_roomKept)), (a_room, .inl (qT 0, 4, .inl r.2.2.2.2))] := by
  refine CI_of hZ (by decide) (Nat.le_of_ble_eq_true rfl) ?_
  intro x e1 e2 e3 e4 e5 e6 hin X hR
  subst e1 e2 e3 e4
  exact t_X7_back X e6 hR hf
def f_X7_count (l1 : Int32) (s_textCount : Int32) (s_rule : Int32) (s_taped : Int32) (s_many : Int32) (s_room : Nat → Int32) : Option (Int32) :=
  (f_X7_in (Int32.toInt64 l1) 0 5).bind (fun v6_1 =>
  if v6_1 = 0 then (
  some (-2)) else (
  if l1 = 0 then (
  some s_many) else (
  if l1 = 1 then (
  some (s_room (Int32.toNatClampNeg 3))) else (
  if l1 = 2 then (
  some (11 - s_many)) else (
  if l1 = 3 then (
  some s_textCount) else (
  if l1 = 4 then (
  some s_taped) else (
  some s_rule)))))))
set_option maxRecDepth 100000 in
set_option maxHeartbeats 4000000 in
theorem t_X7_count {x : VX} {r : Int32} {a0 : Nat} {a_room : Nat} {a_texts : Nat} {a_textSize : Nat} {a_tape : Nat} {a_kinds : Nat} {a_rows : Nat} {a_now : Nat} {a_gained : Nat} {a_rowsWas : Nat} {a_roomKept : Nat} {a_rowsKept : Nat} {a_isThere : Nat} {a_sorts : Nat} {a_sheetSize : Nat} {a_items : Nat} {s_thrown : Int32} {s_textCount : Int32} {s_rule : Int32} {s_taped : Int32} {s_many : Int32} {s_ofSide : Int32} {s_ofLamp : Int32} {s_ofStove : Int32} {s_ofNumber : Int32} {s_ofPose : Int32} {s_ofNear : Int32} {s_from : Int32} {s_size : Int32} {s_here : Int32} {s_token : Int32} {s_tokenAt : Int32} {s_tokenWorth : Int64} {s_open : Int32} {s_bad : Int32} {s_fault : Int32} {s_faceWas : Int32} {s_poseWas : Int32} {s_manyKept : Int32} {s_ruleKept : Int32} {s_room : Nat → Int32} {l1 : Int32} (X : Cx x cX7_count RX7 2) (hN : vxn x = 2) (hR : RetI x cX7_count 0 0 r [(a0, .inr (7, [.int s_thrown, .ref a_texts, .ref a_textSize, .int s_textCount, .int s_rule, .ref a_tape, .int s_taped, .ref a_room, .ref a_kinds, .ref a_rows, .int s_many, .int s_ofSide, .int s_ofLamp, .int s_ofStove, .int s_ofNumber, .int s_ofPose, .int s_ofNear, .int s_from, .int s_size, .int s_here, .int s_token, .int s_tokenAt, .long s_tokenWorth, .int s_open, .int s_bad, .int s_fault, .ref a_now, .ref a_gained, .ref a_rowsWas, .int s_faceWas, .int s_poseWas, .ref a_roomKept, .ref a_rowsKept, .int s_manyKept, .int s_ruleKept, .ref a_isThere, .ref a_sorts, .ref a_sheetSize, .ref a_items])), (a_room, .inl (vxT x 0, 4, .inl s_room))]) (hf : f_X7_count l1 s_textCount s_rule s_taped s_many s_room = some r) : V x 0 0 [(a0, .inr (7, [.int s_thrown, .ref a_texts, .ref a_textSize, .int s_textCount, .int s_rule, .ref a_tape, .int s_taped, .ref a_room, .ref a_kinds, .ref a_rows, .int s_many, .int s_ofSide, .int s_ofLamp, .int s_ofStove, .int s_ofNumber, .int s_ofPose, .int s_ofNear, .int s_from, .int s_size, .int s_here, .int s_token, .int s_tokenAt, .long s_tokenWorth, .int s_open, .int s_bad, .int s_fault, .ref a_now, .ref a_gained, .ref a_rowsWas, .int s_faceWas, .int s_poseWas, .ref a_roomKept, .ref a_rowsKept, .int s_manyKept, .int s_ruleKept, .ref a_isThere, .ref a_sorts, .ref a_sheetSize, .ref a_items])), (a_room, .inl (vxT x 0, 4, .inl s_room))] [(0, .ref a0), (1, .int l1)] 0 [] := by
  unfold f_X7_count at hf
  refine v_iload_n X 1 rfl dX7_count_0 ?_
  refine v_i2l X dX7_count_1 ?_
  refine v_lconst X (v := 0) (by decide) dX7_count_2 ?_
  refine v_ldc2 X wd130 dX7_count_3 ?_
  obtain ⟨v6_1, hv6_1, hf⟩ := bd_some hf
  refine v_scallI X (c_X7_in X.2.2.2.2.2.2.2.1 hv6_1) cws_X7_73 rfl (by decide) ⟨Nat.zero_le _, Nat.zero_le _⟩ [] [0, 1] [0, 1] rfl (by decide) (wr := [(a0, .inr (7, [.int s_thrown, .ref a_texts, .ref a_textSize, .int s_textCount, .int s_rule, .ref a_tape, .int s_taped, .ref a_room, .ref a_kinds, .ref a_rows, .int s_many, .int s_ofSide, .int s_ofLamp, .int s_ofStove, .int s_ofNumber, .int s_ofPose, .int s_ofNear, .int s_from, .int s_size, .int s_here, .int s_token, .int s_tokenAt, .long s_tokenWorth, .int s_open, .int s_bad, .int s_fault, .ref a_now, .ref a_gained, .ref a_rowsWas, .int s_faceWas, .int s_poseWas, .ref a_roomKept, .ref a_rowsKept, .int s_manyKept, .int s_ruleKept, .ref a_isThere, .ref a_sorts, .ref a_sheetSize, .ref a_items])), (a_room, .inl (vxT x 0, 4, .inl s_room))]) rfl (by decide) (by decide) (ws2 := [(a0, .inr (7, [.int s_thrown, .ref a_texts, .ref a_textSize, .int s_textCount, .int s_rule, .ref a_tape, .int s_taped, .ref a_room, .ref a_kinds, .ref a_rows, .int s_many, .int s_ofSide, .int s_ofLamp, .int s_ofStove, .int s_ofNumber, .int s_ofPose, .int s_ofNear, .int s_from, .int s_size, .int s_here, .int s_token, .int s_tokenAt, .long s_tokenWorth, .int s_open, .int s_bad, .int s_fault, .ref a_now, .ref a_gained, .ref a_rowsWas, .int s_faceWas, .int s_poseWas, .ref a_roomKept, .ref a_rowsKept, .int s_manyKept, .int s_ruleKept, .ref a_isThere, .ref a_sorts, .ref a_sheetSize, .ref a_items])), (a_room, .inl (vxT x 0, 4, .inl s_room))]) rfl (by decide) (Nat.le_of_ble_eq_true rfl) rfl dX7_count_6 ?_
  refine v_if_ne X (tgt := 15) hf (by decide) dX7_count_9 (fun c9 hf => ?_) (fun c9 hf => ?_)
  · refine v_iload_n X 1 rfl dX7_count_15 ?_
    refine v_if_ne X (tgt := 26) hf (by decide) dX7_count_16 (fun c16 hf => ?_) (fun c16 hf => ?_)
    · refine v_iload_n X 1 rfl dX7_count_26 ?_
      refine v_iconst X (v := 1) (by decide) dX7_count_27 ?_
      refine v_icmp_ne X (tgt := 40) hf (by decide) dX7_count_28 (fun c28 hf => ?_) (fun c28 hf => ?_)
      · refine v_iload_n X 1 rfl dX7_count_40 ?_
        refine v_iconst X (v := 2) (by decide) dX7_count_41 ?_
        refine v_icmp_ne X (tgt := 55) hf (by decide) dX7_count_42 (fun c42 hf => ?_) (fun c42 hf => ?_)
        · refine v_iload_n X 1 rfl dX7_count_55 ?_
          refine v_iconst X (v := 3) (by decide) dX7_count_56 ?_
          refine v_icmp_ne X (tgt := 67) hf (by decide) dX7_count_57 (fun c57 hf => ?_) (fun c57 hf => ?_)
          · refine v_iload_n X 1 rfl dX7_count_67 ?_
            refine v_iconst X (v := 4) (by decide) dX7_count_68 ?_
            refine v_icmp_ne X (tgt := 79) hf (by decide) dX7_count_69 (fun c69 hf => ?_) (fun c69 hf => ?_)
            · refine v_aload_n X 0 rfl dX7_count_79 ?_
              refine v_get X xinX7 0 rfl rfl 4 (by decide) wd127 rfl rfl dX7_count_80 ?_
              obtain rfl := Option.some.inj hf
              exact v_iret hR dX7_count_83
            · refine v_aload_n X 0 rfl dX7_count_72 ?_
              refine v_get X xinX7 0 rfl rfl 6 (by decide) wd132 rfl rfl dX7_count_73 ?_
              refine v_goto X (tgt := 83) (by decide) dX7_count_76 ?_
              obtain rfl := Option.some.inj hf
              exact v_iret hR dX7_count_83
          · refine v_aload_n X 0 rfl dX7_count_60 ?_
            refine v_get X xinX7 0 rfl rfl 3 (by decide) wd336 rfl rfl dX7_count_61 ?_
            refine v_goto X (tgt := 83) (by decide) dX7_count_64 ?_
            obtain rfl := Option.some.inj hf
            exact v_iret hR dX7_count_83
        · refine v_bipush X (v := 11) (by decide) dX7_count_45 ?_
          refine v_aload_n X 0 rfl dX7_count_47 ?_
          refine v_get X xinX7 0 rfl rfl 10 (by decide) wd107 rfl rfl dX7_count_48 ?_
          refine v_isub X dX7_count_51 ?_
          refine v_goto X (tgt := 83) (by decide) dX7_count_52 ?_
          obtain rfl := Option.some.inj hf
          exact v_iret hR dX7_count_83
      · refine v_aload_n X 0 rfl dX7_count_31 ?_
        refine v_get X xinX7 0 rfl rfl 7 (by decide) wd129 rfl rfl dX7_count_32 ?_
        refine v_iconst X (v := 3) (by decide) dX7_count_35 ?_
        refine v_iald_c X 1 rfl (by decide) dX7_count_36 ?_
        refine v_goto X (tgt := 83) (by decide) dX7_count_37 ?_
        obtain rfl := Option.some.inj hf
        exact v_iret hR dX7_count_83
    · refine v_aload_n X 0 rfl dX7_count_19 ?_
      refine v_get X xinX7 0 rfl rfl 10 (by decide) wd107 rfl rfl dX7_count_20 ?_
      refine v_goto X (tgt := 83) (by decide) dX7_count_23 ?_
      obtain rfl := Option.some.inj hf
      exact v_iret hR dX7_count_83
  · refine v_bipush X (v := (-2)) (by decide) dX7_count_12 ?_
    obtain rfl := Option.some.inj hf
    exact v_iret hR dX7_count_14
set_option maxRecDepth 100000 in
set_option maxHeartbeats 4000000 in
theorem c_X7_count {l : Launch} {D : va_G} {qT : Nat → ClassId} {Z : (Nat → Prop) → State → Heap → Prop} {r : Int32} {a0 : Nat} {a_room : Nat} {a_texts : Nat} {a_textSize : Nat} {a_tape : Nat} {a_kinds : Nat} {a_rows : Nat} {a_now : Nat} {a_gained : Nat} {a_rowsWas : Nat} {a_roomKept : Nat} {a_rowsKept : Nat} {a_isThere : Nat} {a_sorts : Nat} {a_sheetSize : Nat} {a_items : Nat} {s_thrown : Int32} {s_textCount : Int32} {s_rule : Int32} {s_taped : Int32} {s_many : Int32} {s_ofSide : Int32} {s_ofLamp : Int32} {s_ofStove : Int32} {s_ofNumber : Int32} {s_ofPose : Int32} {s_ofNear : Int32} {s_from : Int32} {s_size : Int32} {s_here : Int32} {s_token : Int32} {s_tokenAt : Int32} {s_tokenWorth : Int64} {s_open : Int32} {s_bad : Int32} {s_fault : Int32} {s_faceWas : Int32} {s_poseWas : Int32} {s_manyKept : Int32} {s_ruleKept : Int32} {s_room : Nat → Int32} {l1 : Int32} (hZ : ZOK Z) (hf : f_X7_count l1 s_textCount s_rule s_taped s_many s_room = some r) :
    CI l D qT Z yX7_count cX7_count 2 (some .int) 2 0 0 [.ref a0, .int l1] [(a0, .inr (7, [.int s_thrown, .ref a_texts, .ref a_textSize, .int s_textCount, .int s_rule, .ref a_tape, .int s_taped, .ref a_room, .ref a_kinds, .ref a_rows, .int s_many, .int s_ofSide, .int s_ofLamp, .int s_ofStove, .int s_ofNumber, .int s_ofPose, .int s_ofNear, .int s_from, .int s_size, .int s_here, .int s_token, .int s_tokenAt, .long s_tokenWorth, .int s_open, .int s_bad, .int s_fault, .ref a_now, .ref a_gained, .ref a_rowsWas, .int s_faceWas, .int s_poseWas, .ref a_roomKept, .ref a_rowsKept, .int s_manyKept, .int s_ruleKept, .ref a_isThere, .ref a_sorts, .ref a_sheetSize, .ref a_items])), (a_room, .inl (qT 0, 4, .inl s_room))] r [(a0, .inr (7, [.int s_thrown, .ref a_texts, .ref a_textSize, .int s_textCount, .int s_rule, .ref a_tape, .int s_taped, .ref a_room, .ref a_kinds, .ref a_rows, .int s_many, .int s_ofSide, .int s_ofLamp, .int s_ofStove, .int s_ofNumber, .int s_ofPose, .int s_ofNear, .int s_from, .int s_size, .int s_here, .int s_token, .int s_tokenAt, .long s_tokenWorth, .int s_open, .int s_bad, .int s_fault, .ref a_now, .ref a_gained, .ref a_rowsWas, .int s_faceWas, .int s_poseWas, .ref a_roomKept, .ref a_rowsKept, .int s_manyKept, .int s_ruleKept, .ref a_isThere, .ref a_sorts, .ref a_sheetSize, .ref a_items])), (a_room, .inl (qT 0, 4, .inl s_room))] := by
  refine CI_of hZ (by decide) (Nat.le_of_ble_eq_true rfl) ?_
  intro x e1 e2 e3 e4 e5 e6 hin X hR
  subst e1 e2 e3 e4
  exact t_X7_count X e6 hR hf
def f_X7_cell (l1 : Int32) (l2 : Int32) (l3 : Int32) (s_isThere : Nat → Int32) (s_sheetSize : Nat → Int32) (s_sorts : Nat → Int32) (s_items : Nat → Int32) : Option (Int32 × (Nat → Int32)) :=
  (f_X7_isSheet l1).bind (fun v1_1 =>
  if v1_1 = 0 then (
  some ((-2), s_items)) else (
  if inb l1 4 = true then (
  if (s_isThere (Int32.toNatClampNeg l1)) = 0 then (
  some ((-11), s_items)) else (
  if inb l1 4 = true then (
  (f_X7_in (Int32.toInt64 l2) 0 (Int32.toInt64 ((s_sheetSize (Int32.toNatClampNeg l1)) - 1))).bind (fun v34_2 =>
  if v34_2 = 0 then (
  some ((-12), s_items)) else (
  if inb l1 4 = true then (
  if (s_sorts (Int32.toNatClampNeg l1)) = 0 then (
  if inb ((40 * l1) + l2) 160 = true then (
  some (1, (upd s_items (Int32.toNatClampNeg ((40 * l1) + l2)) ((Int32.toInt8 l3).toInt32)))) else none) else (
  if inb l1 4 = true then (
  if (s_sorts (Int32.toNatClampNeg l1)) = 1 then (
  if inb ((40 * l1) + l2) 160 = true then (
  some (1, (upd s_items (Int32.toNatClampNeg ((40 * l1) + l2)) ((Int32.toInt16 l3).toInt32)))) else none) else (
  if inb ((40 * l1) + l2) 160 = true then (
  some (1, (upd s_items (Int32.toNatClampNeg ((40 * l1) + l2)) l3))) else none)) else none)) else none))) else none)) else none))
set_option maxRecDepth 100000 in
set_option maxHeartbeats 4000000 in
theorem t_X7_cell {x : VX} {r : Int32 × (Nat → Int32)} {a0 : Nat} {a_isThere : Nat} {a_sheetSize : Nat} {a_sorts : Nat} {a_items : Nat} {a_texts : Nat} {a_textSize : Nat} {a_tape : Nat} {a_room : Nat} {a_kinds : Nat} {a_rows : Nat} {a_now : Nat} {a_gained : Nat} {a_rowsWas : Nat} {a_roomKept : Nat} {a_rowsKept : Nat} {s_thrown : Int32} {s_textCount : Int32} {s_rule : Int32} {s_taped : Int32} {s_many : Int32} {s_ofSide : Int32} {s_ofLamp : Int32} {s_ofStove : Int32} {s_ofNumber : Int32} {s_ofPose : Int32} {s_ofNear : Int32} {s_from : Int32} {s_size : Int32} {s_here : Int32} {s_token : Int32} {s_tokenAt : Int32} {s_tokenWorth : Int64} {s_open : Int32} {s_bad : Int32} {s_fault : Int32} {s_faceWas : Int32} {s_poseWas : Int32} {s_manyKept : Int32} {s_ruleKept : Int32} {s_isThere : Nat → Int32} {s_sheetSize : Nat → Int32} {s_sorts : Nat → Int32} {s_items : Nat → Int32} {l1 : Int32} {l2 : Int32} {l3 : Int32} (X : Cx x cX7_cell RX7 3) (hN : vxn x = 4) (hR : RetI x cX7_cell 0 0 r.1 [(a0, .inr (7, [.int s_thrown, .ref a_texts, .ref a_textSize, .int s_textCount, .int s_rule, .ref a_tape, .int s_taped, .ref a_room, .ref a_kinds, .ref a_rows, .int s_many, .int s_ofSide, .int s_ofLamp, .int s_ofStove, .int s_ofNumber, .int s_ofPose, .int s_ofNear, .int s_from, .int s_size, .int s_here, .int s_token, .int s_tokenAt, .long s_tokenWorth, .int s_open, .int s_bad, .int s_fault, .ref a_now, .ref a_gained, .ref a_rowsWas, .int s_faceWas, .int s_poseWas, .ref a_roomKept, .ref a_rowsKept, .int s_manyKept, .int s_ruleKept, .ref a_isThere, .ref a_sorts, .ref a_sheetSize, .ref a_items])), (a_isThere, .inl (vxT x 1, 4, .inl s_isThere)), (a_sheetSize, .inl (vxT x 0, 4, .inl s_sheetSize)), (a_sorts, .inl (vxT x 0, 4, .inl s_sorts)), (a_items, .inl (vxT x 0, 160, .inl r.2))]) (hf : f_X7_cell l1 l2 l3 s_isThere s_sheetSize s_sorts s_items = some r) : V x 0 0 [(a0, .inr (7, [.int s_thrown, .ref a_texts, .ref a_textSize, .int s_textCount, .int s_rule, .ref a_tape, .int s_taped, .ref a_room, .ref a_kinds, .ref a_rows, .int s_many, .int s_ofSide, .int s_ofLamp, .int s_ofStove, .int s_ofNumber, .int s_ofPose, .int s_ofNear, .int s_from, .int s_size, .int s_here, .int s_token, .int s_tokenAt, .long s_tokenWorth, .int s_open, .int s_bad, .int s_fault, .ref a_now, .ref a_gained, .ref a_rowsWas, .int s_faceWas, .int s_poseWas, .ref a_roomKept, .ref a_rowsKept, .int s_manyKept, .int s_ruleKept, .ref a_isThere, .ref a_sorts, .ref a_sheetSize, .ref a_items])), (a_isThere, .inl (vxT x 1, 4, .inl s_isThere)), (a_sheetSize, .inl (vxT x 0, 4, .inl s_sheetSize)), (a_sorts, .inl (vxT x 0, 4, .inl s_sorts)), (a_items, .inl (vxT x 0, 160, .inl s_items))] [(0, .ref a0), (1, .int l1), (2, .int l2), (3, .int l3)] 0 [] := by
  unfold f_X7_cell at hf
  refine v_iload_n X 1 rfl dX7_cell_0 ?_
  obtain ⟨v1_1, hv1_1, hf⟩ := bd_some hf
  refine v_scallI X (c_X7_isSheet X.2.2.2.2.2.2.2.1 hv1_1) cws_X7_433 rfl (by decide) ⟨Nat.zero_le _, Nat.zero_le _⟩ [] [0, 1, 2, 3, 4] [0, 1, 2, 3, 4] rfl (by decide) (wr := [(a0, .inr (7, [.int s_thrown, .ref a_texts, .ref a_textSize, .int s_textCount, .int s_rule, .ref a_tape, .int s_taped, .ref a_room, .ref a_kinds, .ref a_rows, .int s_many, .int s_ofSide, .int s_ofLamp, .int s_ofStove, .int s_ofNumber, .int s_ofPose, .int s_ofNear, .int s_from, .int s_size, .int s_here, .int s_token, .int s_tokenAt, .long s_tokenWorth, .int s_open, .int s_bad, .int s_fault, .ref a_now, .ref a_gained, .ref a_rowsWas, .int s_faceWas, .int s_poseWas, .ref a_roomKept, .ref a_rowsKept, .int s_manyKept, .int s_ruleKept, .ref a_isThere, .ref a_sorts, .ref a_sheetSize, .ref a_items])), (a_isThere, .inl (vxT x 1, 4, .inl s_isThere)), (a_sheetSize, .inl (vxT x 0, 4, .inl s_sheetSize)), (a_sorts, .inl (vxT x 0, 4, .inl s_sorts)), (a_items, .inl (vxT x 0, 160, .inl s_items))]) rfl (by decide) (by decide) (ws2 := [(a0, .inr (7, [.int s_thrown, .ref a_texts, .ref a_textSize, .int s_textCount, .int s_rule, .ref a_tape, .int s_taped, .ref a_room, .ref a_kinds, .ref a_rows, .int s_many, .int s_ofSide, .int s_ofLamp, .int s_ofStove, .int s_ofNumber, .int s_ofPose, .int s_ofNear, .int s_from, .int s_size, .int s_here, .int s_token, .int s_tokenAt, .long s_tokenWorth, .int s_open, .int s_bad, .int s_fault, .ref a_now, .ref a_gained, .ref a_rowsWas, .int s_faceWas, .int s_poseWas, .ref a_roomKept, .ref a_rowsKept, .int s_manyKept, .int s_ruleKept, .ref a_isThere, .ref a_sorts, .ref a_sheetSize, .ref a_items])), (a_isThere, .inl (vxT x 1, 4, .inl s_isThere)), (a_sheetSize, .inl (vxT x 0, 4, .inl s_sheetSize)), (a_sorts, .inl (vxT x 0, 4, .inl s_sorts)), (a_items, .inl (vxT x 0, 160, .inl s_items))]) rfl (by decide) (Nat.le_of_ble_eq_true rfl) rfl dX7_cell_1 ?_
  refine v_if_ne X (tgt := 10) hf (by decide) dX7_cell_4 (fun c4 hf => ?_) (fun c4 hf => ?_)
  · refine v_aload_n X 0 rfl dX7_cell_10 ?_
    refine v_get X xinX7 0 rfl rfl 35 (by decide) wd482 rfl rfl dX7_cell_11 ?_
    refine v_iload_n X 1 rfl dX7_cell_14 ?_
    refine v_zald X 1 rfl hf dX7_cell_15 (fun h15 hf => ?_)
    refine v_if_ne X (tgt := 22) hf (by decide) dX7_cell_16 (fun c16 hf => ?_) (fun c16 hf => ?_)
    · refine v_iload_n X 2 rfl dX7_cell_22 ?_
      refine v_i2l X dX7_cell_23 ?_
      refine v_lconst X (v := 0) (by decide) dX7_cell_24 ?_
      refine v_aload_n X 0 rfl dX7_cell_25 ?_
      refine v_get X xinX7 0 rfl rfl 37 (by decide) wd477 rfl rfl dX7_cell_26 ?_
      refine v_iload_n X 1 rfl dX7_cell_29 ?_
      refine v_iald X 2 rfl hf dX7_cell_30 (fun h30 hf => ?_)
      refine v_iconst X (v := 1) (by decide) dX7_cell_31 ?_
      refine v_isub X dX7_cell_32 ?_
      refine v_i2l X dX7_cell_33 ?_
      obtain ⟨v34_2, hv34_2, hf⟩ := bd_some hf
      refine v_scallI X (c_X7_in X.2.2.2.2.2.2.2.1 hv34_2) cws_X7_73 rfl (by decide) ⟨Nat.zero_le _, Nat.zero_le _⟩ [] [0, 1, 2, 3, 4] [0, 1, 2, 3, 4] rfl (by decide) (wr := [(a0, .inr (7, [.int s_thrown, .ref a_texts, .ref a_textSize, .int s_textCount, .int s_rule, .ref a_tape, .int s_taped, .ref a_room, .ref a_kinds, .ref a_rows, .int s_many, .int s_ofSide, .int s_ofLamp, .int s_ofStove, .int s_ofNumber, .int s_ofPose, .int s_ofNear, .int s_from, .int s_size, .int s_here, .int s_token, .int s_tokenAt, .long s_tokenWorth, .int s_open, .int s_bad, .int s_fault, .ref a_now, .ref a_gained, .ref a_rowsWas, .int s_faceWas, .int s_poseWas, .ref a_roomKept, .ref a_rowsKept, .int s_manyKept, .int s_ruleKept, .ref a_isThere, .ref a_sorts, .ref a_sheetSize, .ref a_items])), (a_isThere, .inl (vxT x 1, 4, .inl s_isThere)), (a_sheetSize, .inl (vxT x 0, 4, .inl s_sheetSize)), (a_sorts, .inl (vxT x 0, 4, .inl s_sorts)), (a_items, .inl (vxT x 0, 160, .inl s_items))]) rfl (by decide) (by decide) (ws2 := [(a0, .inr (7, [.int s_thrown, .ref a_texts, .ref a_textSize, .int s_textCount, .int s_rule, .ref a_tape, .int s_taped, .ref a_room, .ref a_kinds, .ref a_rows, .int s_many, .int s_ofSide, .int s_ofLamp, .int s_ofStove, .int s_ofNumber, .int s_ofPose, .int s_ofNear, .int s_from, .int s_size, .int s_here, .int s_token, .int s_tokenAt, .long s_tokenWorth, .int s_open, .int s_bad, .int s_fault, .ref a_now, .ref a_gained, .ref a_rowsWas, .int s_faceWas, .int s_poseWas, .ref a_roomKept, .ref a_rowsKept, .int s_manyKept, .int s_ruleKept, .ref a_isThere, .ref a_sorts, .ref a_sheetSize, .ref a_items])), (a_isThere, .inl (vxT x 1, 4, .inl s_isThere)), (a_sheetSize, .inl (vxT x 0, 4, .inl s_sheetSize)), (a_sorts, .inl (vxT x 0, 4, .inl s_sorts)), (a_items, .inl (vxT x 0, 160, .inl s_items))]) rfl (by decide) (Nat.le_of_ble_eq_true rfl) rfl dX7_cell_34 ?_
      refine v_if_ne X (tgt := 43) hf (by decide) dX7_cell_37 (fun c37 hf => ?_) (fun c37 hf => ?_)
      · refine v_aload_n X 0 rfl dX7_cell_43 ?_
        refine v_get X xinX7 0 rfl rfl 38 (by decide) wd478 rfl rfl dX7_cell_44 ?_
        refine v_bipush X (v := 40) (by decide) dX7_cell_47 ?_
        refine v_iload_n X 1 rfl dX7_cell_49 ?_
        refine v_imul X dX7_cell_50 ?_
        refine v_iload_n X 2 rfl dX7_cell_51 ?_
        refine v_iadd X dX7_cell_52 ?_
        refine v_aload_n X 0 rfl dX7_cell_53 ?_
        refine v_get X xinX7 0 rfl rfl 36 (by decide) wd489 rfl rfl dX7_cell_54 ?_
        refine v_iload_n X 1 rfl dX7_cell_57 ?_
        refine v_iald X 3 rfl hf dX7_cell_58 (fun h58 hf => ?_)
        refine v_if_ne X (tgt := 67) hf (by decide) dX7_cell_59 (fun c59 hf => ?_) (fun c59 hf => ?_)
        · refine v_aload_n X 0 rfl dX7_cell_67 ?_
          refine v_get X xinX7 0 rfl rfl 36 (by decide) wd489 rfl rfl dX7_cell_68 ?_
          refine v_iload_n X 1 rfl dX7_cell_71 ?_
          refine v_iald X 3 rfl hf dX7_cell_72 (fun h72 hf => ?_)
          refine v_iconst X (v := 1) (by decide) dX7_cell_73 ?_
          refine v_icmp_ne X (tgt := 82) hf (by decide) dX7_cell_74 (fun c74 hf => ?_) (fun c74 hf => ?_)
          · refine v_iload_n X 3 rfl dX7_cell_82 ?_
            refine v_iast X 4 rfl hf (ws' := [(a0, .inr (7, [.int s_thrown, .ref a_texts, .ref a_textSize, .int s_textCount, .int s_rule, .ref a_tape, .int s_taped, .ref a_room, .ref a_kinds, .ref a_rows, .int s_many, .int s_ofSide, .int s_ofLamp, .int s_ofStove, .int s_ofNumber, .int s_ofPose, .int s_ofNear, .int s_from, .int s_size, .int s_here, .int s_token, .int s_tokenAt, .long s_tokenWorth, .int s_open, .int s_bad, .int s_fault, .ref a_now, .ref a_gained, .ref a_rowsWas, .int s_faceWas, .int s_poseWas, .ref a_roomKept, .ref a_rowsKept, .int s_manyKept, .int s_ruleKept, .ref a_isThere, .ref a_sorts, .ref a_sheetSize, .ref a_items])), (a_isThere, .inl (vxT x 1, 4, .inl s_isThere)), (a_sheetSize, .inl (vxT x 0, 4, .inl s_sheetSize)), (a_sorts, .inl (vxT x 0, 4, .inl s_sorts)), (a_items, .inl (vxT x 0, 160, .inl (upd s_items (Int32.toNatClampNeg ((40 * l1) + l2)) l3)))]) rfl dX7_cell_83 (fun h83 hf => ?_)
            refine v_iconst X (v := 1) (by decide) dX7_cell_84 ?_
            obtain rfl := Option.some.inj hf
            exact v_iret hR dX7_cell_85
          · refine v_iload_n X 3 rfl dX7_cell_77 ?_
            refine v_i2s X dX7_cell_78 ?_
            refine v_goto X (tgt := 83) (by decide) dX7_cell_79 ?_
            refine v_iast X 4 rfl hf (ws' := [(a0, .inr (7, [.int s_thrown, .ref a_texts, .ref a_textSize, .int s_textCount, .int s_rule, .ref a_tape, .int s_taped, .ref a_room, .ref a_kinds, .ref a_rows, .int s_many, .int s_ofSide, .int s_ofLamp, .int s_ofStove, .int s_ofNumber, .int s_ofPose, .int s_ofNear, .int s_from, .int s_size, .int s_here, .int s_token, .int s_tokenAt, .long s_tokenWorth, .int s_open, .int s_bad, .int s_fault, .ref a_now, .ref a_gained, .ref a_rowsWas, .int s_faceWas, .int s_poseWas, .ref a_roomKept, .ref a_rowsKept, .int s_manyKept, .int s_ruleKept, .ref a_isThere, .ref a_sorts, .ref a_sheetSize, .ref a_items])), (a_isThere, .inl (vxT x 1, 4, .inl s_isThere)), (a_sheetSize, .inl (vxT x 0, 4, .inl s_sheetSize)), (a_sorts, .inl (vxT x 0, 4, .inl s_sorts)), (a_items, .inl (vxT x 0, 160, .inl (upd s_items (Int32.toNatClampNeg ((40 * l1) + l2)) ((Int32.toInt16 l3).toInt32))))]) rfl dX7_cell_83 (fun h83 hf => ?_)
            refine v_iconst X (v := 1) (by decide) dX7_cell_84 ?_
            obtain rfl := Option.some.inj hf
            exact v_iret hR dX7_cell_85
        · refine v_iload_n X 3 rfl dX7_cell_62 ?_
          refine v_i2b X dX7_cell_63 ?_
          refine v_goto X (tgt := 83) (by decide) dX7_cell_64 ?_
          refine v_iast X 4 rfl hf (ws' := [(a0, .inr (7, [.int s_thrown, .ref a_texts, .ref a_textSize, .int s_textCount, .int s_rule, .ref a_tape, .int s_taped, .ref a_room, .ref a_kinds, .ref a_rows, .int s_many, .int s_ofSide, .int s_ofLamp, .int s_ofStove, .int s_ofNumber, .int s_ofPose, .int s_ofNear, .int s_from, .int s_size, .int s_here, .int s_token, .int s_tokenAt, .long s_tokenWorth, .int s_open, .int s_bad, .int s_fault, .ref a_now, .ref a_gained, .ref a_rowsWas, .int s_faceWas, .int s_poseWas, .ref a_roomKept, .ref a_rowsKept, .int s_manyKept, .int s_ruleKept, .ref a_isThere, .ref a_sorts, .ref a_sheetSize, .ref a_items])), (a_isThere, .inl (vxT x 1, 4, .inl s_isThere)), (a_sheetSize, .inl (vxT x 0, 4, .inl s_sheetSize)), (a_sorts, .inl (vxT x 0, 4, .inl s_sorts)), (a_items, .inl (vxT x 0, 160, .inl (upd s_items (Int32.toNatClampNeg ((40 * l1) + l2)) ((Int32.toInt8 l3).toInt32))))]) rfl dX7_cell_83 (fun h83 hf => ?_)
          refine v_iconst X (v := 1) (by decide) dX7_cell_84 ?_
          obtain rfl := Option.some.inj hf
          exact v_iret hR dX7_cell_85
      · refine v_bipush X (v := (-12)) (by decide) dX7_cell_40 ?_
        obtain rfl := Option.some.inj hf
        exact v_iret hR dX7_cell_42
    · refine v_bipush X (v := (-11)) (by decide) dX7_cell_19 ?_
      obtain rfl := Option.some.inj hf
      exact v_iret hR dX7_cell_21
  · refine v_bipush X (v := (-2)) (by decide) dX7_cell_7 ?_
    obtain rfl := Option.some.inj hf
    exact v_iret hR dX7_cell_9
set_option maxRecDepth 100000 in
set_option maxHeartbeats 4000000 in
theorem c_X7_cell {l : Launch} {D : va_G} {qT : Nat → ClassId} {Z : (Nat → Prop) → State → Heap → Prop} {r : Int32 × (Nat → Int32)} {a0 : Nat} {a_isThere : Nat} {a_sheetSize : Nat} {a_sorts : Nat} {a_items : Nat} {a_texts : Nat} {a_textSize : Nat} {a_tape : Nat} {a_room : Nat} {a_kinds : Nat} {a_rows : Nat} {a_now : Nat} {a_gained : Nat} {a_rowsWas : Nat} {a_roomKept : Nat} {a_rowsKept : Nat} {s_thrown : Int32} {s_textCount : Int32} {s_rule : Int32} {s_taped : Int32} {s_many : Int32} {s_ofSide : Int32} {s_ofLamp : Int32} {s_ofStove : Int32} {s_ofNumber : Int32} {s_ofPose : Int32} {s_ofNear : Int32} {s_from : Int32} {s_size : Int32} {s_here : Int32} {s_token : Int32} {s_tokenAt : Int32} {s_tokenWorth : Int64} {s_open : Int32} {s_bad : Int32} {s_fault : Int32} {s_faceWas : Int32} {s_poseWas : Int32} {s_manyKept : Int32} {s_ruleKept : Int32} {s_isThere : Nat → Int32} {s_sheetSize : Nat → Int32} {s_sorts : Nat → Int32} {s_items : Nat → Int32} {l1 : Int32} {l2 : Int32} {l3 : Int32} (hZ : ZOK Z) (hf : f_X7_cell l1 l2 l3 s_isThere s_sheetSize s_sorts s_items = some r) :
    CI l D qT Z yX7_cell cX7_cell 4 (some .int) 3 0 0 [.ref a0, .int l1, .int l2, .int l3] [(a0, .inr (7, [.int s_thrown, .ref a_texts, .ref a_textSize, .int s_textCount, .int s_rule, .ref a_tape, .int s_taped, .ref a_room, .ref a_kinds, .ref a_rows, .int s_many, .int s_ofSide, .int s_ofLamp, .int s_ofStove, .int s_ofNumber, .int s_ofPose, .int s_ofNear, .int s_from, .int s_size, .int s_here, .int s_token, .int s_tokenAt, .long s_tokenWorth, .int s_open, .int s_bad, .int s_fault, .ref a_now, .ref a_gained, .ref a_rowsWas, .int s_faceWas, .int s_poseWas, .ref a_roomKept, .ref a_rowsKept, .int s_manyKept, .int s_ruleKept, .ref a_isThere, .ref a_sorts, .ref a_sheetSize, .ref a_items])), (a_isThere, .inl (qT 1, 4, .inl s_isThere)), (a_sheetSize, .inl (qT 0, 4, .inl s_sheetSize)), (a_sorts, .inl (qT 0, 4, .inl s_sorts)), (a_items, .inl (qT 0, 160, .inl s_items))] r.1 [(a0, .inr (7, [.int s_thrown, .ref a_texts, .ref a_textSize, .int s_textCount, .int s_rule, .ref a_tape, .int s_taped, .ref a_room, .ref a_kinds, .ref a_rows, .int s_many, .int s_ofSide, .int s_ofLamp, .int s_ofStove, .int s_ofNumber, .int s_ofPose, .int s_ofNear, .int s_from, .int s_size, .int s_here, .int s_token, .int s_tokenAt, .long s_tokenWorth, .int s_open, .int s_bad, .int s_fault, .ref a_now, .ref a_gained, .ref a_rowsWas, .int s_faceWas, .int s_poseWas, .ref a_roomKept, .ref a_rowsKept, .int s_manyKept, .int s_ruleKept, .ref a_isThere, .ref a_sorts, .ref a_sheetSize, .ref a_items])), (a_isThere, .inl (qT 1, 4, .inl s_isThere)), (a_sheetSize, .inl (qT 0, 4, .inl s_sheetSize)), (a_sorts, .inl (qT 0, 4, .inl s_sorts)), (a_items, .inl (qT 0, 160, .inl r.2))] := by
  refine CI_of hZ (by decide) (Nat.le_of_ble_eq_true rfl) ?_
  intro x e1 e2 e3 e4 e5 e6 hin X hR
  subst e1 e2 e3 e4
  exact t_X7_cell X e6 hR hf
def f_X7_copy_145 (kp_121 : Int32 → (Nat → Int32) → Option (Int32 × (Nat → Int32))) (s_items : Nat → Int32) (l1 : Int32) (l2 : Int32) (l3 : Int32) (l4 : Int32) (l7 : Int32) (k0 : Int32) : Option (Int32 × (Nat → Int32)) :=
  if inb (((40 * l1) + l2) + k0) 160 = true then (
  if inb (((40 * l3) + l4) + k0) 160 = true then (
  kp_121 (l7 + 1) (upd s_items (Int32.toNatClampNeg (((40 * l3) + l4) + k0)) (s_items (Int32.toNatClampNeg (((40 * l1) + l2) + k0))))) else none) else none
def f_X7_copy_121 (l1 : Int32) (l2 : Int32) (l3 : Int32) (l4 : Int32) (l5 : Int32) (l6 : Int32) (kp_121 : Int32 → (Nat → Int32) → Option (Int32 × (Nat → Int32))) (l7 : Int32) (s_items : Nat → Int32) : Option (Int32 × (Nat → Int32)) :=
  if l5 ≤ l7 then (
  some (l5, s_items)) else (
  if l6 = 0 then (
  f_X7_copy_145 kp_121 s_items l1 l2 l3 l4 l7 l7) else (
  f_X7_copy_145 kp_121 s_items l1 l2 l3 l4 l7 ((l5 - 1) - l7)))
def f_X7_copy (l1 : Int32) (l2 : Int32) (l3 : Int32) (l4 : Int32) (l5 : Int32) (s_isThere : Nat → Int32) (s_sorts : Nat → Int32) (s_sheetSize : Nat → Int32) (s_items : Nat → Int32) : Option (Int32 × (Nat → Int32)) :=
  (f_X7_isSheet l1).bind (fun v1_1 =>
  if v1_1 = 0 then (
  some ((-2), s_items)) else (
  (f_X7_isSheet l3).bind (fun v8_2 =>
  if v8_2 = 0 then (
  some ((-2), s_items)) else (
  if inb l1 4 = true then (
  if (s_isThere (Int32.toNatClampNeg l1)) = 0 then (
  some ((-11), s_items)) else (
  if inb l3 4 = true then (
  if (s_isThere (Int32.toNatClampNeg l3)) = 0 then (
  some ((-11), s_items)) else (
  if inb l1 4 = true then (
  if inb l3 4 = true then (
  if (s_sorts (Int32.toNatClampNeg l1)) = (s_sorts (Int32.toNatClampNeg l3)) then (
  if l5 < 0 then (
  some ((-12), s_items)) else (
  if l2 < 0 then (
  some ((-12), s_items)) else (
  if l4 < 0 then (
  some ((-12), s_items)) else (
  if inb l1 4 = true then (
  if ((s_sheetSize (Int32.toNatClampNeg l1)) - l5) < l2 then (
  some ((-12), s_items)) else (
  if inb l3 4 = true then (
  if l4 ≤ ((s_sheetSize (Int32.toNatClampNeg l3)) - l5) then (
  if l1 = l3 then (
  if l4 ≤ l2 then (
  lq2 (f_X7_copy_121 l1 l2 l3 l4 l5 0) 200 0 s_items) else (
  lq2 (f_X7_copy_121 l1 l2 l3 l4 l5 1) 200 0 s_items)) else (
  lq2 (f_X7_copy_121 l1 l2 l3 l4 l5 0) 200 0 s_items)) else (
  some ((-12), s_items))) else none)) else none)))) else (
  some ((-13), s_items))) else none) else none)) else none)) else none))))
set_option maxRecDepth 100000 in
set_option maxHeartbeats 4000000 in
theorem t_X7_copy_145 {x : VX} {r : Int32 × (Nat → Int32)} {a0 : Nat} {a_isThere : Nat} {a_sorts : Nat} {a_sheetSize : Nat} {a_items : Nat} {a_texts : Nat} {a_textSize : Nat} {a_tape : Nat} {a_room : Nat} {a_kinds : Nat} {a_rows : Nat} {a_now : Nat} {a_gained : Nat} {a_rowsWas : Nat} {a_roomKept : Nat} {a_rowsKept : Nat} {s_thrown : Int32} {s_textCount : Int32} {s_rule : Int32} {s_taped : Int32} {s_many : Int32} {s_ofSide : Int32} {s_ofLamp : Int32} {s_ofStove : Int32} {s_ofNumber : Int32} {s_ofPose : Int32} {s_ofNear : Int32} {s_from : Int32} {s_size : Int32} {s_here : Int32} {s_token : Int32} {s_tokenAt : Int32} {s_tokenWorth : Int64} {s_open : Int32} {s_bad : Int32} {s_fault : Int32} {s_faceWas : Int32} {s_poseWas : Int32} {s_manyKept : Int32} {s_ruleKept : Int32} {s_isThere : Nat → Int32} {s_sorts : Nat → Int32} {s_sheetSize : Nat → Int32} {s_items : Nat → Int32} {l1 : Int32} {l2 : Int32} {l3 : Int32} {l4 : Int32} {l5 : Int32} {l6 : Int32} {l7 : Int32} {k0 : Int32} (X : Cx x cX7_copy RX7 3) (hN : vxn x = 9) {kp_121 : Int32 → (Nat → Int32) → Option (Int32 × (Nat → Int32))} (hk_121 : ∀ (l7 : Int32) (s_items : Nat → Int32), kp_121 l7 s_items = some r → V x 0 0 [(a0, .inr (7, [.int s_thrown, .ref a_texts, .ref a_textSize, .int s_textCount, .int s_rule, .ref a_tape, .int s_taped, .ref a_room, .ref a_kinds, .ref a_rows, .int s_many, .int s_ofSide, .int s_ofLamp, .int s_ofStove, .int s_ofNumber, .int s_ofPose, .int s_ofNear, .int s_from, .int s_size, .int s_here, .int s_token, .int s_tokenAt, .long s_tokenWorth, .int s_open, .int s_bad, .int s_fault, .ref a_now, .ref a_gained, .ref a_rowsWas, .int s_faceWas, .int s_poseWas, .ref a_roomKept, .ref a_rowsKept, .int s_manyKept, .int s_ruleKept, .ref a_isThere, .ref a_sorts, .ref a_sheetSize, .ref a_items])), (a_isThere, .inl (vxT x 1, 4, .inl s_isThere)), (a_sorts, .inl (vxT x 0, 4, .inl s_sorts)), (a_sheetSize, .inl (vxT x 0, 4, .inl s_sheetSize)), (a_items, .inl (vxT x 0, 160, .inl s_items))] [(0, .ref a0), (1, .int l1), (2, .int l2), (3, .int l3), (4, .int l4), (5, .int l5), (6, .int l6), (7, .int l7)] 121 []) (hR : RetI x cX7_copy 0 0 r.1 [(a0, .inr (7, [.int s_thrown, .ref a_texts, .ref a_textSize, .int s_textCount, .int s_rule, .ref a_tape, .int s_taped, .ref a_room, .ref a_kinds, .ref a_rows, .int s_many, .int s_ofSide, .int s_ofLamp, .int s_ofStove, .int s_ofNumber, .int s_ofPose, .int s_ofNear, .int s_from, .int s_size, .int s_here, .int s_token, .int s_tokenAt, .long s_tokenWorth, .int s_open, .int s_bad, .int s_fault, .ref a_now, .ref a_gained, .ref a_rowsWas, .int s_faceWas, .int s_poseWas, .ref a_roomKept, .ref a_rowsKept, .int s_manyKept, .int s_ruleKept, .ref a_isThere, .ref a_sorts, .ref a_sheetSize, .ref a_items])), (a_isThere, .inl (vxT x 1, 4, .inl s_isThere)), (a_sorts, .inl (vxT x 0, 4, .inl s_sorts)), (a_sheetSize, .inl (vxT x 0, 4, .inl s_sheetSize)), (a_items, .inl (vxT x 0, 160, .inl r.2))]) (hf : f_X7_copy_145 kp_121 s_items l1 l2 l3 l4 l7 k0 = some r) : V x 0 0 [(a0, .inr (7, [.int s_thrown, .ref a_texts, .ref a_textSize, .int s_textCount, .int s_rule, .ref a_tape, .int s_taped, .ref a_room, .ref a_kinds, .ref a_rows, .int s_many, .int s_ofSide, .int s_ofLamp, .int s_ofStove, .int s_ofNumber, .int s_ofPose, .int s_ofNear, .int s_from, .int s_size, .int s_here, .int s_token, .int s_tokenAt, .long s_tokenWorth, .int s_open, .int s_bad, .int s_fault, .ref a_now, .ref a_gained, .ref a_rowsWas, .int s_faceWas, .int s_poseWas, .ref a_roomKept, .ref a_rowsKept, .int s_manyKept, .int s_ruleKept, .ref a_isThere, .ref a_sorts, .ref a_sheetSize, .ref a_items])), (a_isThere, .inl (vxT x 1, 4, .inl s_isThere)), (a_sorts, .inl (vxT x 0, 4, .inl s_sorts)), (a_sheetSize, .inl (vxT x 0, 4, .inl s_sheetSize)), (a_items, .inl (vxT x 0, 160, .inl s_items))] [(0, .ref a0), (1, .int l1), (2, .int l2), (3, .int l3), (4, .int l4), (5, .int l5), (6, .int l6), (7, .int l7)] 145 [.int k0] := by
  unfold f_X7_copy_145 at hf
  refine v_istore X (by rw [hN]; decide) (lv' := [(8, .int k0), (0, .ref a0), (1, .int l1), (2, .int l2), (3, .int l3), (4, .int l4), (5, .int l5), (6, .int l6), (7, .int l7)]) rfl dX7_copy_145 ?_
  refine v_aload_n X 1 rfl dX7_copy_147 ?_
  refine v_get X xinX7 0 rfl rfl 38 (by decide) wd478 rfl rfl dX7_copy_148 ?_
  refine v_bipush X (v := 40) (by decide) dX7_copy_151 ?_
  refine v_iload_n X 4 rfl dX7_copy_153 ?_
  refine v_imul X dX7_copy_154 ?_
  refine v_iload X 5 rfl dX7_copy_155 ?_
  refine v_iadd X dX7_copy_157 ?_
  refine v_iload X 0 rfl dX7_copy_158 ?_
  refine v_iadd X dX7_copy_160 ?_
  refine v_aload_n X 1 rfl dX7_copy_161 ?_
  refine v_get X xinX7 0 rfl rfl 38 (by decide) wd478 rfl rfl dX7_copy_162 ?_
  refine v_bipush X (v := 40) (by decide) dX7_copy_165 ?_
  refine v_iload_n X 2 rfl dX7_copy_167 ?_
  refine v_imul X dX7_copy_168 ?_
  refine v_iload_n X 3 rfl dX7_copy_169 ?_
  refine v_iadd X dX7_copy_170 ?_
  refine v_iload X 0 rfl dX7_copy_171 ?_
  refine v_iadd X dX7_copy_173 ?_
  refine v_iald X 4 rfl hf dX7_copy_174 (fun h174 hf => ?_)
  refine v_iast X 4 rfl hf (ws' := [(a0, .inr (7, [.int s_thrown, .ref a_texts, .ref a_textSize, .int s_textCount, .int s_rule, .ref a_tape, .int s_taped, .ref a_room, .ref a_kinds, .ref a_rows, .int s_many, .int s_ofSide, .int s_ofLamp, .int s_ofStove, .int s_ofNumber, .int s_ofPose, .int s_ofNear, .int s_from, .int s_size, .int s_here, .int s_token, .int s_tokenAt, .long s_tokenWorth, .int s_open, .int s_bad, .int s_fault, .ref a_now, .ref a_gained, .ref a_rowsWas, .int s_faceWas, .int s_poseWas, .ref a_roomKept, .ref a_rowsKept, .int s_manyKept, .int s_ruleKept, .ref a_isThere, .ref a_sorts, .ref a_sheetSize, .ref a_items])), (a_isThere, .inl (vxT x 1, 4, .inl s_isThere)), (a_sorts, .inl (vxT x 0, 4, .inl s_sorts)), (a_sheetSize, .inl (vxT x 0, 4, .inl s_sheetSize)), (a_items, .inl (vxT x 0, 160, .inl (upd s_items (Int32.toNatClampNeg (((40 * l3) + l4) + k0)) (s_items (Int32.toNatClampNeg (((40 * l1) + l2) + k0))))))]) rfl dX7_copy_175 (fun h175 hf => ?_)
  refine v_iinc X 8 rfl (v := (l7 + 1)) rfl (by rw [hN]; decide) (lv' := [(7, .int (l7 + 1)), (8, .int k0), (0, .ref a0), (1, .int l1), (2, .int l2), (3, .int l3), (4, .int l4), (5, .int l5), (6, .int l6)]) rfl dX7_copy_176 ?_
  refine v_goto X (tgt := 121) (by decide) dX7_copy_179 ?_
  refine v_lv [2, 3, 4, 5, 6, 7, 8, 0] rfl ?_
  exact hk_121 _ _ hf
set_option maxRecDepth 100000 in
set_option maxHeartbeats 4000000 in
theorem t_X7_copy_121 {x : VX} {r : Int32 × (Nat → Int32)} {a0 : Nat} {a_isThere : Nat} {a_sorts : Nat} {a_sheetSize : Nat} {a_items : Nat} {a_texts : Nat} {a_textSize : Nat} {a_tape : Nat} {a_room : Nat} {a_kinds : Nat} {a_rows : Nat} {a_now : Nat} {a_gained : Nat} {a_rowsWas : Nat} {a_roomKept : Nat} {a_rowsKept : Nat} {s_thrown : Int32} {s_textCount : Int32} {s_rule : Int32} {s_taped : Int32} {s_many : Int32} {s_ofSide : Int32} {s_ofLamp : Int32} {s_ofStove : Int32} {s_ofNumber : Int32} {s_ofPose : Int32} {s_ofNear : Int32} {s_from : Int32} {s_size : Int32} {s_here : Int32} {s_token : Int32} {s_tokenAt : Int32} {s_tokenWorth : Int64} {s_open : Int32} {s_bad : Int32} {s_fault : Int32} {s_faceWas : Int32} {s_poseWas : Int32} {s_manyKept : Int32} {s_ruleKept : Int32} {s_isThere : Nat → Int32} {s_sorts : Nat → Int32} {s_sheetSize : Nat → Int32} {l1 : Int32} {l2 : Int32} {l3 : Int32} {l4 : Int32} {l5 : Int32} {l6 : Int32} (X : Cx x cX7_copy RX7 3) (hN : vxn x = 9) (hR : RetI x cX7_copy 0 0 r.1 [(a0, .inr (7, [.int s_thrown, .ref a_texts, .ref a_textSize, .int s_textCount, .int s_rule, .ref a_tape, .int s_taped, .ref a_room, .ref a_kinds, .ref a_rows, .int s_many, .int s_ofSide, .int s_ofLamp, .int s_ofStove, .int s_ofNumber, .int s_ofPose, .int s_ofNear, .int s_from, .int s_size, .int s_here, .int s_token, .int s_tokenAt, .long s_tokenWorth, .int s_open, .int s_bad, .int s_fault, .ref a_now, .ref a_gained, .ref a_rowsWas, .int s_faceWas, .int s_poseWas, .ref a_roomKept, .ref a_rowsKept, .int s_manyKept, .int s_ruleKept, .ref a_isThere, .ref a_sorts, .ref a_sheetSize, .ref a_items])), (a_isThere, .inl (vxT x 1, 4, .inl s_isThere)), (a_sorts, .inl (vxT x 0, 4, .inl s_sorts)), (a_sheetSize, .inl (vxT x 0, 4, .inl s_sheetSize)), (a_items, .inl (vxT x 0, 160, .inl r.2))]) :
    ∀ (fu : Nat) (l7 : Int32) (s_items : Nat → Int32), lq2 (f_X7_copy_121 l1 l2 l3 l4 l5 l6) fu l7 s_items = some r → V x 0 0 [(a0, .inr (7, [.int s_thrown, .ref a_texts, .ref a_textSize, .int s_textCount, .int s_rule, .ref a_tape, .int s_taped, .ref a_room, .ref a_kinds, .ref a_rows, .int s_many, .int s_ofSide, .int s_ofLamp, .int s_ofStove, .int s_ofNumber, .int s_ofPose, .int s_ofNear, .int s_from, .int s_size, .int s_here, .int s_token, .int s_tokenAt, .long s_tokenWorth, .int s_open, .int s_bad, .int s_fault, .ref a_now, .ref a_gained, .ref a_rowsWas, .int s_faceWas, .int s_poseWas, .ref a_roomKept, .ref a_rowsKept, .int s_manyKept, .int s_ruleKept, .ref a_isThere, .ref a_sorts, .ref a_sheetSize, .ref a_items])), (a_isThere, .inl (vxT x 1, 4, .inl s_isThere)), (a_sorts, .inl (vxT x 0, 4, .inl s_sorts)), (a_sheetSize, .inl (vxT x 0, 4, .inl s_sheetSize)), (a_items, .inl (vxT x 0, 160, .inl s_items))] [(0, .ref a0), (1, .int l1), (2, .int l2), (3, .int l3), (4, .int l4), (5, .int l5), (6, .int l6), (7, .int l7)] 121 [] := by
  refine lq2_V (G := fun l7 s_items => V x 0 0 [(a0, .inr (7, [.int s_thrown, .ref a_texts, .ref a_textSize, .int s_textCount, .int s_rule, .ref a_tape, .int s_taped, .ref a_room, .ref a_kinds, .ref a_rows, .int s_many, .int s_ofSide, .int s_ofLamp, .int s_ofStove, .int s_ofNumber, .int s_ofPose, .int s_ofNear, .int s_from, .int s_size, .int s_here, .int s_token, .int s_tokenAt, .long s_tokenWorth, .int s_open, .int s_bad, .int s_fault, .ref a_now, .ref a_gained, .ref a_rowsWas, .int s_faceWas, .int s_poseWas, .ref a_roomKept, .ref a_rowsKept, .int s_manyKept, .int s_ruleKept, .ref a_isThere, .ref a_sorts, .ref a_sheetSize, .ref a_items])), (a_isThere, .inl (vxT x 1, 4, .inl s_isThere)), (a_sorts, .inl (vxT x 0, 4, .inl s_sorts)), (a_sheetSize, .inl (vxT x 0, 4, .inl s_sheetSize)), (a_items, .inl (vxT x 0, 160, .inl s_items))] [(0, .ref a0), (1, .int l1), (2, .int l2), (3, .int l3), (4, .int l4), (5, .int l5), (6, .int l6), (7, .int l7)] 121 []) ?_
  intro kp_121 hk_121 l7 s_items hf
  unfold f_X7_copy_121 at hf
  refine v_iload X 7 rfl dX7_copy_121 ?_
  refine v_iload X 5 rfl dX7_copy_123 ?_
  refine v_icmp_ge X (tgt := 182) hf (by decide) dX7_copy_125 (fun c125 hf => ?_) (fun c125 hf => ?_)
  · refine v_iload X 5 rfl dX7_copy_182 ?_
    obtain rfl := Option.some.inj hf
    exact v_iret hR dX7_copy_184
  · refine v_iload X 6 rfl dX7_copy_128 ?_
    refine v_if_eq X (tgt := 143) hf (by decide) dX7_copy_130 (fun c130 hf => ?_) (fun c130 hf => ?_)
    · refine v_iload X 7 rfl dX7_copy_143 ?_
      exact t_X7_copy_145 X hN hk_121 hR hf
    · refine v_iload X 5 rfl dX7_copy_133 ?_
      refine v_iconst X (v := 1) (by decide) dX7_copy_135 ?_
      refine v_isub X dX7_copy_136 ?_
      refine v_iload X 7 rfl dX7_copy_137 ?_
      refine v_isub X dX7_copy_139 ?_
      refine v_goto X (tgt := 145) (by decide) dX7_copy_140 ?_
      exact t_X7_copy_145 X hN hk_121 hR hf
set_option maxRecDepth 100000 in
set_option maxHeartbeats 4000000 in
theorem t_X7_copy {x : VX} {r : Int32 × (Nat → Int32)} {a0 : Nat} {a_isThere : Nat} {a_sorts : Nat} {a_sheetSize : Nat} {a_items : Nat} {a_texts : Nat} {a_textSize : Nat} {a_tape : Nat} {a_room : Nat} {a_kinds : Nat} {a_rows : Nat} {a_now : Nat} {a_gained : Nat} {a_rowsWas : Nat} {a_roomKept : Nat} {a_rowsKept : Nat} {s_thrown : Int32} {s_textCount : Int32} {s_rule : Int32} {s_taped : Int32} {s_many : Int32} {s_ofSide : Int32} {s_ofLamp : Int32} {s_ofStove : Int32} {s_ofNumber : Int32} {s_ofPose : Int32} {s_ofNear : Int32} {s_from : Int32} {s_size : Int32} {s_here : Int32} {s_token : Int32} {s_tokenAt : Int32} {s_tokenWorth : Int64} {s_open : Int32} {s_bad : Int32} {s_fault : Int32} {s_faceWas : Int32} {s_poseWas : Int32} {s_manyKept : Int32} {s_ruleKept : Int32} {s_isThere : Nat → Int32} {s_sorts : Nat → Int32} {s_sheetSize : Nat → Int32} {s_items : Nat → Int32} {l1 : Int32} {l2 : Int32} {l3 : Int32} {l4 : Int32} {l5 : Int32} (X : Cx x cX7_copy RX7 3) (hN : vxn x = 9) (hR : RetI x cX7_copy 0 0 r.1 [(a0, .inr (7, [.int s_thrown, .ref a_texts, .ref a_textSize, .int s_textCount, .int s_rule, .ref a_tape, .int s_taped, .ref a_room, .ref a_kinds, .ref a_rows, .int s_many, .int s_ofSide, .int s_ofLamp, .int s_ofStove, .int s_ofNumber, .int s_ofPose, .int s_ofNear, .int s_from, .int s_size, .int s_here, .int s_token, .int s_tokenAt, .long s_tokenWorth, .int s_open, .int s_bad, .int s_fault, .ref a_now, .ref a_gained, .ref a_rowsWas, .int s_faceWas, .int s_poseWas, .ref a_roomKept, .ref a_rowsKept, .int s_manyKept, .int s_ruleKept, .ref a_isThere, .ref a_sorts, .ref a_sheetSize, .ref a_items])), (a_isThere, .inl (vxT x 1, 4, .inl s_isThere)), (a_sorts, .inl (vxT x 0, 4, .inl s_sorts)), (a_sheetSize, .inl (vxT x 0, 4, .inl s_sheetSize)), (a_items, .inl (vxT x 0, 160, .inl r.2))]) (hf : f_X7_copy l1 l2 l3 l4 l5 s_isThere s_sorts s_sheetSize s_items = some r) : V x 0 0 [(a0, .inr (7, [.int s_thrown, .ref a_texts, .ref a_textSize, .int s_textCount, .int s_rule, .ref a_tape, .int s_taped, .ref a_room, .ref a_kinds, .ref a_rows, .int s_many, .int s_ofSide, .int s_ofLamp, .int s_ofStove, .int s_ofNumber, .int s_ofPose, .int s_ofNear, .int s_from, .int s_size, .int s_here, .int s_token, .int s_tokenAt, .long s_tokenWorth, .int s_open, .int s_bad, .int s_fault, .ref a_now, .ref a_gained, .ref a_rowsWas, .int s_faceWas, .int s_poseWas, .ref a_roomKept, .ref a_rowsKept, .int s_manyKept, .int s_ruleKept, .ref a_isThere, .ref a_sorts, .ref a_sheetSize, .ref a_items])), (a_isThere, .inl (vxT x 1, 4, .inl s_isThere)), (a_sorts, .inl (vxT x 0, 4, .inl s_sorts)), (a_sheetSize, .inl (vxT x 0, 4, .inl s_sheetSize)), (a_items, .inl (vxT x 0, 160, .inl s_items))] [(0, .ref a0), (1, .int l1), (2, .int l2), (3, .int l3), (4, .int l4), (5, .int l5)] 0 [] := by
  unfold f_X7_copy at hf
  refine v_iload_n X 1 rfl dX7_copy_0 ?_
  obtain ⟨v1_1, hv1_1, hf⟩ := bd_some hf
  refine v_scallI X (c_X7_isSheet X.2.2.2.2.2.2.2.1 hv1_1) cws_X7_433 rfl (by decide) ⟨Nat.zero_le _, Nat.zero_le _⟩ [] [0, 1, 2, 3, 4] [0, 1, 2, 3, 4] rfl (by decide) (wr := [(a0, .inr (7, [.int s_thrown, .ref a_texts, .ref a_textSize, .int s_textCount, .int s_rule, .ref a_tape, .int s_taped, .ref a_room, .ref a_kinds, .ref a_rows, .int s_many, .int s_ofSide, .int s_ofLamp, .int s_ofStove, .int s_ofNumber, .int s_ofPose, .int s_ofNear, .int s_from, .int s_size, .int s_here, .int s_token, .int s_tokenAt, .long s_tokenWorth, .int s_open, .int s_bad, .int s_fault, .ref a_now, .ref a_gained, .ref a_rowsWas, .int s_faceWas, .int s_poseWas, .ref a_roomKept, .ref a_rowsKept, .int s_manyKept, .int s_ruleKept, .ref a_isThere, .ref a_sorts, .ref a_sheetSize, .ref a_items])), (a_isThere, .inl (vxT x 1, 4, .inl s_isThere)), (a_sorts, .inl (vxT x 0, 4, .inl s_sorts)), (a_sheetSize, .inl (vxT x 0, 4, .inl s_sheetSize)), (a_items, .inl (vxT x 0, 160, .inl s_items))]) rfl (by decide) (by decide) (ws2 := [(a0, .inr (7, [.int s_thrown, .ref a_texts, .ref a_textSize, .int s_textCount, .int s_rule, .ref a_tape, .int s_taped, .ref a_room, .ref a_kinds, .ref a_rows, .int s_many, .int s_ofSide, .int s_ofLamp, .int s_ofStove, .int s_ofNumber, .int s_ofPose, .int s_ofNear, .int s_from, .int s_size, .int s_here, .int s_token, .int s_tokenAt, .long s_tokenWorth, .int s_open, .int s_bad, .int s_fault, .ref a_now, .ref a_gained, .ref a_rowsWas, .int s_faceWas, .int s_poseWas, .ref a_roomKept, .ref a_rowsKept, .int s_manyKept, .int s_ruleKept, .ref a_isThere, .ref a_sorts, .ref a_sheetSize, .ref a_items])), (a_isThere, .inl (vxT x 1, 4, .inl s_isThere)), (a_sorts, .inl (vxT x 0, 4, .inl s_sorts)), (a_sheetSize, .inl (vxT x 0, 4, .inl s_sheetSize)), (a_items, .inl (vxT x 0, 160, .inl s_items))]) rfl (by decide) (Nat.le_of_ble_eq_true rfl) rfl dX7_copy_1 ?_
  refine v_if_eq X (tgt := 14) hf (by decide) dX7_copy_4 (fun c4 hf => ?_) (fun c4 hf => ?_)
  · refine v_bipush X (v := (-2)) (by decide) dX7_copy_14 ?_
    obtain rfl := Option.some.inj hf
    exact v_iret hR dX7_copy_16
  · refine v_iload_n X 3 rfl dX7_copy_7 ?_
    obtain ⟨v8_2, hv8_2, hf⟩ := bd_some hf
    refine v_scallI X (c_X7_isSheet X.2.2.2.2.2.2.2.1 hv8_2) cws_X7_433 rfl (by decide) ⟨Nat.zero_le _, Nat.zero_le _⟩ [] [0, 1, 2, 3, 4] [0, 1, 2, 3, 4] rfl (by decide) (wr := [(a0, .inr (7, [.int s_thrown, .ref a_texts, .ref a_textSize, .int s_textCount, .int s_rule, .ref a_tape, .int s_taped, .ref a_room, .ref a_kinds, .ref a_rows, .int s_many, .int s_ofSide, .int s_ofLamp, .int s_ofStove, .int s_ofNumber, .int s_ofPose, .int s_ofNear, .int s_from, .int s_size, .int s_here, .int s_token, .int s_tokenAt, .long s_tokenWorth, .int s_open, .int s_bad, .int s_fault, .ref a_now, .ref a_gained, .ref a_rowsWas, .int s_faceWas, .int s_poseWas, .ref a_roomKept, .ref a_rowsKept, .int s_manyKept, .int s_ruleKept, .ref a_isThere, .ref a_sorts, .ref a_sheetSize, .ref a_items])), (a_isThere, .inl (vxT x 1, 4, .inl s_isThere)), (a_sorts, .inl (vxT x 0, 4, .inl s_sorts)), (a_sheetSize, .inl (vxT x 0, 4, .inl s_sheetSize)), (a_items, .inl (vxT x 0, 160, .inl s_items))]) rfl (by decide) (by decide) (ws2 := [(a0, .inr (7, [.int s_thrown, .ref a_texts, .ref a_textSize, .int s_textCount, .int s_rule, .ref a_tape, .int s_taped, .ref a_room, .ref a_kinds, .ref a_rows, .int s_many, .int s_ofSide, .int s_ofLamp, .int s_ofStove, .int s_ofNumber, .int s_ofPose, .int s_ofNear, .int s_from, .int s_size, .int s_here, .int s_token, .int s_tokenAt, .long s_tokenWorth, .int s_open, .int s_bad, .int s_fault, .ref a_now, .ref a_gained, .ref a_rowsWas, .int s_faceWas, .int s_poseWas, .ref a_roomKept, .ref a_rowsKept, .int s_manyKept, .int s_ruleKept, .ref a_isThere, .ref a_sorts, .ref a_sheetSize, .ref a_items])), (a_isThere, .inl (vxT x 1, 4, .inl s_isThere)), (a_sorts, .inl (vxT x 0, 4, .inl s_sorts)), (a_sheetSize, .inl (vxT x 0, 4, .inl s_sheetSize)), (a_items, .inl (vxT x 0, 160, .inl s_items))]) rfl (by decide) (Nat.le_of_ble_eq_true rfl) rfl dX7_copy_8 ?_
    refine v_if_ne X (tgt := 17) hf (by decide) dX7_copy_11 (fun c11 hf => ?_) (fun c11 hf => ?_)
    · refine v_aload_n X 0 rfl dX7_copy_17 ?_
      refine v_get X xinX7 0 rfl rfl 35 (by decide) wd482 rfl rfl dX7_copy_18 ?_
      refine v_iload_n X 1 rfl dX7_copy_21 ?_
      refine v_zald X 1 rfl hf dX7_copy_22 (fun h22 hf => ?_)
      refine v_if_eq X (tgt := 35) hf (by decide) dX7_copy_23 (fun c23 hf => ?_) (fun c23 hf => ?_)
      · refine v_bipush X (v := (-11)) (by decide) dX7_copy_35 ?_
        obtain rfl := Option.some.inj hf
        exact v_iret hR dX7_copy_37
      · refine v_aload_n X 0 rfl dX7_copy_26 ?_
        refine v_get X xinX7 0 rfl rfl 35 (by decide) wd482 rfl rfl dX7_copy_27 ?_
        refine v_iload_n X 3 rfl dX7_copy_30 ?_
        refine v_zald X 1 rfl hf dX7_copy_31 (fun h31 hf => ?_)
        refine v_if_ne X (tgt := 38) hf (by decide) dX7_copy_32 (fun c32 hf => ?_) (fun c32 hf => ?_)
        · refine v_aload_n X 0 rfl dX7_copy_38 ?_
          refine v_get X xinX7 0 rfl rfl 36 (by decide) wd489 rfl rfl dX7_copy_39 ?_
          refine v_iload_n X 1 rfl dX7_copy_42 ?_
          refine v_iald X 2 rfl hf dX7_copy_43 (fun h43 hf => ?_)
          refine v_aload_n X 0 rfl dX7_copy_44 ?_
          refine v_get X xinX7 0 rfl rfl 36 (by decide) wd489 rfl rfl dX7_copy_45 ?_
          refine v_iload_n X 3 rfl dX7_copy_48 ?_
          refine v_iald X 2 rfl hf dX7_copy_49 (fun h49 hf => ?_)
          refine v_icmp_eq X (tgt := 56) hf (by decide) dX7_copy_50 (fun c50 hf => ?_) (fun c50 hf => ?_)
          · refine v_iload X 5 rfl dX7_copy_56 ?_
            refine v_if_lt X (tgt := 97) hf (by decide) dX7_copy_58 (fun c58 hf => ?_) (fun c58 hf => ?_)
            · refine v_bipush X (v := (-12)) (by decide) dX7_copy_97 ?_
              obtain rfl := Option.some.inj hf
              exact v_iret hR dX7_copy_99
            · refine v_iload_n X 2 rfl dX7_copy_61 ?_
              refine v_if_lt X (tgt := 97) hf (by decide) dX7_copy_62 (fun c62 hf => ?_) (fun c62 hf => ?_)
              · refine v_bipush X (v := (-12)) (by decide) dX7_copy_97 ?_
                obtain rfl := Option.some.inj hf
                exact v_iret hR dX7_copy_99
              · refine v_iload X 4 rfl dX7_copy_65 ?_
                refine v_if_lt X (tgt := 97) hf (by decide) dX7_copy_67 (fun c67 hf => ?_) (fun c67 hf => ?_)
                · refine v_bipush X (v := (-12)) (by decide) dX7_copy_97 ?_
                  obtain rfl := Option.some.inj hf
                  exact v_iret hR dX7_copy_99
                · refine v_iload_n X 2 rfl dX7_copy_70 ?_
                  refine v_aload_n X 0 rfl dX7_copy_71 ?_
                  refine v_get X xinX7 0 rfl rfl 37 (by decide) wd477 rfl rfl dX7_copy_72 ?_
                  refine v_iload_n X 1 rfl dX7_copy_75 ?_
                  refine v_iald X 3 rfl hf dX7_copy_76 (fun h76 hf => ?_)
                  refine v_iload X 5 rfl dX7_copy_77 ?_
                  refine v_isub X dX7_copy_79 ?_
                  refine v_icmp_gt X (tgt := 97) hf (by decide) dX7_copy_80 (fun c80 hf => ?_) (fun c80 hf => ?_)
                  · refine v_bipush X (v := (-12)) (by decide) dX7_copy_97 ?_
                    obtain rfl := Option.some.inj hf
                    exact v_iret hR dX7_copy_99
                  · refine v_iload X 4 rfl dX7_copy_83 ?_
                    refine v_aload_n X 0 rfl dX7_copy_85 ?_
                    refine v_get X xinX7 0 rfl rfl 37 (by decide) wd477 rfl rfl dX7_copy_86 ?_
                    refine v_iload_n X 3 rfl dX7_copy_89 ?_
                    refine v_iald X 3 rfl hf dX7_copy_90 (fun h90 hf => ?_)
                    refine v_iload X 5 rfl dX7_copy_91 ?_
                    refine v_isub X dX7_copy_93 ?_
                    refine v_icmp_le X (tgt := 100) hf (by decide) dX7_copy_94 (fun c94 hf => ?_) (fun c94 hf => ?_)
                    · refine v_iload_n X 1 rfl dX7_copy_100 ?_
                      refine v_iload_n X 3 rfl dX7_copy_101 ?_
                      refine v_icmp_ne X (tgt := 115) hf (by decide) dX7_copy_102 (fun c102 hf => ?_) (fun c102 hf => ?_)
                      · refine v_iconst X (v := 0) (by decide) dX7_copy_115 ?_
                        refine v_istore X (by rw [hN]; decide) (lv' := [(6, .int 0), (0, .ref a0), (1, .int l1), (2, .int l2), (3, .int l3), (4, .int l4), (5, .int l5)]) rfl dX7_copy_116 ?_
                        refine v_iconst X (v := 0) (by decide) dX7_copy_118 ?_
                        refine v_istore X (by rw [hN]; decide) (lv' := [(7, .int 0), (6, .int 0), (0, .ref a0), (1, .int l1), (2, .int l2), (3, .int l3), (4, .int l4), (5, .int l5)]) rfl dX7_copy_119 ?_
                        refine v_lv [2, 3, 4, 5, 6, 7, 1, 0] rfl ?_
                        exact t_X7_copy_121 X hN hR 200 _ _ hf
                      · refine v_iload_n X 2 rfl dX7_copy_105 ?_
                        refine v_iload X 4 rfl dX7_copy_106 ?_
                        refine v_icmp_ge X (tgt := 115) hf (by decide) dX7_copy_108 (fun c108 hf => ?_) (fun c108 hf => ?_)
                        · refine v_iconst X (v := 0) (by decide) dX7_copy_115 ?_
                          refine v_istore X (by rw [hN]; decide) (lv' := [(6, .int 0), (0, .ref a0), (1, .int l1), (2, .int l2), (3, .int l3), (4, .int l4), (5, .int l5)]) rfl dX7_copy_116 ?_
                          refine v_iconst X (v := 0) (by decide) dX7_copy_118 ?_
                          refine v_istore X (by rw [hN]; decide) (lv' := [(7, .int 0), (6, .int 0), (0, .ref a0), (1, .int l1), (2, .int l2), (3, .int l3), (4, .int l4), (5, .int l5)]) rfl dX7_copy_119 ?_
                          refine v_lv [2, 3, 4, 5, 6, 7, 1, 0] rfl ?_
                          exact t_X7_copy_121 X hN hR 200 _ _ hf
                        · refine v_iconst X (v := 1) (by decide) dX7_copy_111 ?_
                          refine v_goto X (tgt := 116) (by decide) dX7_copy_112 ?_
                          refine v_istore X (by rw [hN]; decide) (lv' := [(6, .int 1), (0, .ref a0), (1, .int l1), (2, .int l2), (3, .int l3), (4, .int l4), (5, .int l5)]) rfl dX7_copy_116 ?_
                          refine v_iconst X (v := 0) (by decide) dX7_copy_118 ?_
                          refine v_istore X (by rw [hN]; decide) (lv' := [(7, .int 0), (6, .int 1), (0, .ref a0), (1, .int l1), (2, .int l2), (3, .int l3), (4, .int l4), (5, .int l5)]) rfl dX7_copy_119 ?_
                          refine v_lv [2, 3, 4, 5, 6, 7, 1, 0] rfl ?_
                          exact t_X7_copy_121 X hN hR 200 _ _ hf
                    · refine v_bipush X (v := (-12)) (by decide) dX7_copy_97 ?_
                      obtain rfl := Option.some.inj hf
                      exact v_iret hR dX7_copy_99
          · refine v_bipush X (v := (-13)) (by decide) dX7_copy_53 ?_
            obtain rfl := Option.some.inj hf
            exact v_iret hR dX7_copy_55
        · refine v_bipush X (v := (-11)) (by decide) dX7_copy_35 ?_
          obtain rfl := Option.some.inj hf
          exact v_iret hR dX7_copy_37
    · refine v_bipush X (v := (-2)) (by decide) dX7_copy_14 ?_
      obtain rfl := Option.some.inj hf
      exact v_iret hR dX7_copy_16
set_option maxRecDepth 100000 in
set_option maxHeartbeats 4000000 in
theorem c_X7_copy {l : Launch} {D : va_G} {qT : Nat → ClassId} {Z : (Nat → Prop) → State → Heap → Prop} {r : Int32 × (Nat → Int32)} {a0 : Nat} {a_isThere : Nat} {a_sorts : Nat} {a_sheetSize : Nat} {a_items : Nat} {a_texts : Nat} {a_textSize : Nat} {a_tape : Nat} {a_room : Nat} {a_kinds : Nat} {a_rows : Nat} {a_now : Nat} {a_gained : Nat} {a_rowsWas : Nat} {a_roomKept : Nat} {a_rowsKept : Nat} {s_thrown : Int32} {s_textCount : Int32} {s_rule : Int32} {s_taped : Int32} {s_many : Int32} {s_ofSide : Int32} {s_ofLamp : Int32} {s_ofStove : Int32} {s_ofNumber : Int32} {s_ofPose : Int32} {s_ofNear : Int32} {s_from : Int32} {s_size : Int32} {s_here : Int32} {s_token : Int32} {s_tokenAt : Int32} {s_tokenWorth : Int64} {s_open : Int32} {s_bad : Int32} {s_fault : Int32} {s_faceWas : Int32} {s_poseWas : Int32} {s_manyKept : Int32} {s_ruleKept : Int32} {s_isThere : Nat → Int32} {s_sorts : Nat → Int32} {s_sheetSize : Nat → Int32} {s_items : Nat → Int32} {l1 : Int32} {l2 : Int32} {l3 : Int32} {l4 : Int32} {l5 : Int32} (hZ : ZOK Z) (hf : f_X7_copy l1 l2 l3 l4 l5 s_isThere s_sorts s_sheetSize s_items = some r) :
    CI l D qT Z yX7_copy cX7_copy 9 (some .int) 3 0 0 [.ref a0, .int l1, .int l2, .int l3, .int l4, .int l5] [(a0, .inr (7, [.int s_thrown, .ref a_texts, .ref a_textSize, .int s_textCount, .int s_rule, .ref a_tape, .int s_taped, .ref a_room, .ref a_kinds, .ref a_rows, .int s_many, .int s_ofSide, .int s_ofLamp, .int s_ofStove, .int s_ofNumber, .int s_ofPose, .int s_ofNear, .int s_from, .int s_size, .int s_here, .int s_token, .int s_tokenAt, .long s_tokenWorth, .int s_open, .int s_bad, .int s_fault, .ref a_now, .ref a_gained, .ref a_rowsWas, .int s_faceWas, .int s_poseWas, .ref a_roomKept, .ref a_rowsKept, .int s_manyKept, .int s_ruleKept, .ref a_isThere, .ref a_sorts, .ref a_sheetSize, .ref a_items])), (a_isThere, .inl (qT 1, 4, .inl s_isThere)), (a_sorts, .inl (qT 0, 4, .inl s_sorts)), (a_sheetSize, .inl (qT 0, 4, .inl s_sheetSize)), (a_items, .inl (qT 0, 160, .inl s_items))] r.1 [(a0, .inr (7, [.int s_thrown, .ref a_texts, .ref a_textSize, .int s_textCount, .int s_rule, .ref a_tape, .int s_taped, .ref a_room, .ref a_kinds, .ref a_rows, .int s_many, .int s_ofSide, .int s_ofLamp, .int s_ofStove, .int s_ofNumber, .int s_ofPose, .int s_ofNear, .int s_from, .int s_size, .int s_here, .int s_token, .int s_tokenAt, .long s_tokenWorth, .int s_open, .int s_bad, .int s_fault, .ref a_now, .ref a_gained, .ref a_rowsWas, .int s_faceWas, .int s_poseWas, .ref a_roomKept, .ref a_rowsKept, .int s_manyKept, .int s_ruleKept, .ref a_isThere, .ref a_sorts, .ref a_sheetSize, .ref a_items])), (a_isThere, .inl (qT 1, 4, .inl s_isThere)), (a_sorts, .inl (qT 0, 4, .inl s_sorts)), (a_sheetSize, .inl (qT 0, 4, .inl s_sheetSize)), (a_items, .inl (qT 0, 160, .inl r.2))] := by
  refine CI_of hZ (by decide) (Nat.le_of_ble_eq_true rfl) ?_
  intro x e1 e2 e3 e4 e5 e6 hin X hR
  subst e1 e2 e3 e4
  exact t_X7_copy X e6 hR hf
def f_X7_painters_75 (s_sheetSize : Nat → Int32) (s_items : Nat → Int32) (l1 : Int32) (l3 : Int32) (l4 : Int32) (kp_75 : Int32 → Int32 → Int32 → (Nat → Int32) → (Nat → Int32) → Option (Int32 × Int32 × (Nat → Int32) × (Nat → Int32))) (l5 : Int32) (l6 : Int32) (s_many : Int32) (s_rows : Nat → Int32) (s_kinds : Nat → Int32) : Option (Int32 × Int32 × (Nat → Int32) × (Nat → Int32)) :=
  if l4 ≤ l6 then (
  some (l5, s_many, s_rows, s_kinds)) else (
  if l3 < 0 then (
  some ((-12), s_many, s_rows, s_kinds)) else (
  if inb l1 4 = true then (
  if l3 ≤ (((s_sheetSize (Int32.toNatClampNeg l1)) - (3 * l6)) - 3) then (
  if inb (((40 * l1) + l3) + (3 * l6)) 160 = true then (
  if inb ((((40 * l1) + l3) + (3 * l6)) + 1) 160 = true then (
  if inb ((((40 * l1) + l3) + (3 * l6)) + 2) 160 = true then (
  (f_X7_painter (s_items (Int32.toNatClampNeg (((40 * l1) + l3) + (3 * l6)))) (s_items (Int32.toNatClampNeg ((((40 * l1) + l3) + (3 * l6)) + 1))) (s_items (Int32.toNatClampNeg ((((40 * l1) + l3) + (3 * l6)) + 2))) s_many s_rows s_kinds).bind (fun v147_4 =>
  if v147_4.1 < 0 then (
  kp_75 (l5 + 0) (l6 + 1) v147_4.2.1 v147_4.2.2.1 v147_4.2.2.2) else (
  kp_75 (l5 + 1) (l6 + 1) v147_4.2.1 v147_4.2.2.1 v147_4.2.2.2))) else none) else none) else none) else (
  some ((-12), s_many, s_rows, s_kinds))) else none))
def f_X7_painters_57 (s_many : Int32) (s_isThere : Nat → Int32) (s_sheetSize : Nat → Int32) (s_items : Nat → Int32) (s_rows : Nat → Int32) (s_kinds : Nat → Int32) (l1 : Int32) (l3 : Int32) (l4 : Int32) : Option (Int32 × Int32 × (Nat → Int32) × (Nat → Int32)) :=
  if inb l1 4 = true then (
  if (s_isThere (Int32.toNatClampNeg l1)) = 0 then (
  some ((-11), s_many, s_rows, s_kinds)) else (
  lq5 (f_X7_painters_75 s_sheetSize s_items l1 l3 l4) 200 0 0 s_many s_rows s_kinds)) else none
def f_X7_painters (l1 : Int32) (l2 : Int32) (l3 : Int32) (l4 : Int32) (s_many : Int32) (s_isThere : Nat → Int32) (s_sheetSize : Nat → Int32) (s_items : Nat → Int32) (s_rows : Nat → Int32) (s_kinds : Nat → Int32) (s_sorts : Nat → Int32) : Option (Int32 × Int32 × (Nat → Int32) × (Nat → Int32)) :=
  (f_X7_isSheet l1).bind (fun v1_1 =>
  if v1_1 = 0 then (
  some ((-2), s_many, s_rows, s_kinds)) else (
  (f_X7_in (Int32.toInt64 l2) 0 2).bind (fun v13_2 =>
  if v13_2 = 0 then (
  some ((-2), s_many, s_rows, s_kinds)) else (
  (f_X7_in (Int32.toInt64 l4) 0 6).bind (fun v26_3 =>
  if v26_3 = 0 then (
  some ((-2), s_many, s_rows, s_kinds)) else (
  if inb l1 4 = true then (
  if (s_isThere (Int32.toNatClampNeg l1)) = 0 then (
  f_X7_painters_57 s_many s_isThere s_sheetSize s_items s_rows s_kinds l1 l3 l4) else (
  if inb l1 4 = true then (
  if (s_sorts (Int32.toNatClampNeg l1)) = l2 then (
  f_X7_painters_57 s_many s_isThere s_sheetSize s_items s_rows s_kinds l1 l3 l4) else (
  some ((-13), s_many, s_rows, s_kinds))) else none)) else none))))))
set_option maxRecDepth 100000 in
set_option maxHeartbeats 4000000 in
theorem t_X7_painters_75 {x : VX} {r : Int32 × Int32 × (Nat → Int32) × (Nat → Int32)} {a0 : Nat} {a_isThere : Nat} {a_sheetSize : Nat} {a_items : Nat} {a_rows : Nat} {a_kinds : Nat} {a_sorts : Nat} {a_texts : Nat} {a_textSize : Nat} {a_tape : Nat} {a_room : Nat} {a_now : Nat} {a_gained : Nat} {a_rowsWas : Nat} {a_roomKept : Nat} {a_rowsKept : Nat} {s_thrown : Int32} {s_textCount : Int32} {s_rule : Int32} {s_taped : Int32} {s_ofSide : Int32} {s_ofLamp : Int32} {s_ofStove : Int32} {s_ofNumber : Int32} {s_ofPose : Int32} {s_ofNear : Int32} {s_from : Int32} {s_size : Int32} {s_here : Int32} {s_token : Int32} {s_tokenAt : Int32} {s_tokenWorth : Int64} {s_open : Int32} {s_bad : Int32} {s_fault : Int32} {s_faceWas : Int32} {s_poseWas : Int32} {s_manyKept : Int32} {s_ruleKept : Int32} {s_isThere : Nat → Int32} {s_sheetSize : Nat → Int32} {s_items : Nat → Int32} {s_sorts : Nat → Int32} {l1 : Int32} {l3 : Int32} {l4 : Int32} (X : Cx x cX7_painters RX7 5) (hN : vxn x = 8) (hR : RetI x cX7_painters 0 0 r.1 [(a0, .inr (7, [.int s_thrown, .ref a_texts, .ref a_textSize, .int s_textCount, .int s_rule, .ref a_tape, .int s_taped, .ref a_room, .ref a_kinds, .ref a_rows, .int r.2.1, .int s_ofSide, .int s_ofLamp, .int s_ofStove, .int s_ofNumber, .int s_ofPose, .int s_ofNear, .int s_from, .int s_size, .int s_here, .int s_token, .int s_tokenAt, .long s_tokenWorth, .int s_open, .int s_bad, .int s_fault, .ref a_now, .ref a_gained, .ref a_rowsWas, .int s_faceWas, .int s_poseWas, .ref a_roomKept, .ref a_rowsKept, .int s_manyKept, .int s_ruleKept, .ref a_isThere, .ref a_sorts, .ref a_sheetSize, .ref a_items])), (a_isThere, .inl (vxT x 1, 4, .inl s_isThere)), (a_sheetSize, .inl (vxT x 0, 4, .inl s_sheetSize)), (a_items, .inl (vxT x 0, 160, .inl s_items)), (a_rows, .inl (vxT x 0, 24, .inl r.2.2.1)), (a_kinds, .inl (vxT x 0, 6, .inl r.2.2.2)), (a_sorts, .inl (vxT x 0, 4, .inl s_sorts))]) :
    ∀ (fu : Nat) (l5 : Int32) (l6 : Int32) (s_many : Int32) (s_rows : Nat → Int32) (s_kinds : Nat → Int32), lq5 (f_X7_painters_75 s_sheetSize s_items l1 l3 l4) fu l5 l6 s_many s_rows s_kinds = some r → V x 0 0 [(a0, .inr (7, [.int s_thrown, .ref a_texts, .ref a_textSize, .int s_textCount, .int s_rule, .ref a_tape, .int s_taped, .ref a_room, .ref a_kinds, .ref a_rows, .int s_many, .int s_ofSide, .int s_ofLamp, .int s_ofStove, .int s_ofNumber, .int s_ofPose, .int s_ofNear, .int s_from, .int s_size, .int s_here, .int s_token, .int s_tokenAt, .long s_tokenWorth, .int s_open, .int s_bad, .int s_fault, .ref a_now, .ref a_gained, .ref a_rowsWas, .int s_faceWas, .int s_poseWas, .ref a_roomKept, .ref a_rowsKept, .int s_manyKept, .int s_ruleKept, .ref a_isThere, .ref a_sorts, .ref a_sheetSize, .ref a_items])), (a_isThere, .inl (vxT x 1, 4, .inl s_isThere)), (a_sheetSize, .inl (vxT x 0, 4, .inl s_sheetSize)), (a_items, .inl (vxT x 0, 160, .inl s_items)), (a_rows, .inl (vxT x 0, 24, .inl s_rows)), (a_kinds, .inl (vxT x 0, 6, .inl s_kinds)), (a_sorts, .inl (vxT x 0, 4, .inl s_sorts))] [(0, .ref a0), (1, .int l1), (3, .int l3), (4, .int l4), (5, .int l5), (6, .int l6)] 75 [] := by
  refine lq5_V (G := fun l5 l6 s_many s_rows s_kinds => V x 0 0 [(a0, .inr (7, [.int s_thrown, .ref a_texts, .ref a_textSize, .int s_textCount, .int s_rule, .ref a_tape, .int s_taped, .ref a_room, .ref a_kinds, .ref a_rows, .int s_many, .int s_ofSide, .int s_ofLamp, .int s_ofStove, .int s_ofNumber, .int s_ofPose, .int s_ofNear, .int s_from, .int s_size, .int s_here, .int s_token, .int s_tokenAt, .long s_tokenWorth, .int s_open, .int s_bad, .int s_fault, .ref a_now, .ref a_gained, .ref a_rowsWas, .int s_faceWas, .int s_poseWas, .ref a_roomKept, .ref a_rowsKept, .int s_manyKept, .int s_ruleKept, .ref a_isThere, .ref a_sorts, .ref a_sheetSize, .ref a_items])), (a_isThere, .inl (vxT x 1, 4, .inl s_isThere)), (a_sheetSize, .inl (vxT x 0, 4, .inl s_sheetSize)), (a_items, .inl (vxT x 0, 160, .inl s_items)), (a_rows, .inl (vxT x 0, 24, .inl s_rows)), (a_kinds, .inl (vxT x 0, 6, .inl s_kinds)), (a_sorts, .inl (vxT x 0, 4, .inl s_sorts))] [(0, .ref a0), (1, .int l1), (3, .int l3), (4, .int l4), (5, .int l5), (6, .int l6)] 75 []) ?_
  intro kp_75 hk_75 l5 l6 s_many s_rows s_kinds hf
  unfold f_X7_painters_75 at hf
  refine v_iload X 5 rfl dX7_painters_75 ?_
  refine v_iload X 3 rfl dX7_painters_77 ?_
  refine v_icmp_ge X (tgt := 167) hf (by decide) dX7_painters_79 (fun c79 hf => ?_) (fun c79 hf => ?_)
  · refine v_iload X 4 rfl dX7_painters_167 ?_
    obtain rfl := Option.some.inj hf
    exact v_iret hR dX7_painters_169
  · refine v_iload_n X 2 rfl dX7_painters_82 ?_
    refine v_if_lt X (tgt := 103) hf (by decide) dX7_painters_83 (fun c83 hf => ?_) (fun c83 hf => ?_)
    · refine v_bipush X (v := (-12)) (by decide) dX7_painters_103 ?_
      obtain rfl := Option.some.inj hf
      exact v_iret hR dX7_painters_105
    · refine v_iload_n X 2 rfl dX7_painters_86 ?_
      refine v_aload_n X 0 rfl dX7_painters_87 ?_
      refine v_get X xinX7 0 rfl rfl 37 (by decide) wd477 rfl rfl dX7_painters_88 ?_
      refine v_iload_n X 1 rfl dX7_painters_91 ?_
      refine v_iald X 2 rfl hf dX7_painters_92 (fun h92 hf => ?_)
      refine v_iconst X (v := 3) (by decide) dX7_painters_93 ?_
      refine v_iload X 5 rfl dX7_painters_94 ?_
      refine v_imul X dX7_painters_96 ?_
      refine v_isub X dX7_painters_97 ?_
      refine v_iconst X (v := 3) (by decide) dX7_painters_98 ?_
      refine v_isub X dX7_painters_99 ?_
      refine v_icmp_le X (tgt := 106) hf (by decide) dX7_painters_100 (fun c100 hf => ?_) (fun c100 hf => ?_)
      · refine v_bipush X (v := 40) (by decide) dX7_painters_106 ?_
        refine v_iload_n X 1 rfl dX7_painters_108 ?_
        refine v_imul X dX7_painters_109 ?_
        refine v_iload_n X 2 rfl dX7_painters_110 ?_
        refine v_iadd X dX7_painters_111 ?_
        refine v_iconst X (v := 3) (by decide) dX7_painters_112 ?_
        refine v_iload X 5 rfl dX7_painters_113 ?_
        refine v_imul X dX7_painters_115 ?_
        refine v_iadd X dX7_painters_116 ?_
        refine v_istore X (by rw [hN]; decide) (lv' := [(7, .int (((40 * l1) + l3) + (3 * l6))), (0, .ref a0), (1, .int l1), (3, .int l3), (4, .int l4), (5, .int l5), (6, .int l6)]) rfl dX7_painters_117 ?_
        refine v_iload X 5 rfl dX7_painters_119 ?_
        refine v_aload_n X 1 rfl dX7_painters_121 ?_
        refine v_aload_n X 1 rfl dX7_painters_122 ?_
        refine v_get X xinX7 0 rfl rfl 38 (by decide) wd478 rfl rfl dX7_painters_123 ?_
        refine v_iload X 0 rfl dX7_painters_126 ?_
        refine v_iald X 3 rfl hf dX7_painters_128 (fun h128 hf => ?_)
        refine v_aload_n X 1 rfl dX7_painters_129 ?_
        refine v_get X xinX7 0 rfl rfl 38 (by decide) wd478 rfl rfl dX7_painters_130 ?_
        refine v_iload X 0 rfl dX7_painters_133 ?_
        refine v_iconst X (v := 1) (by decide) dX7_painters_135 ?_
        refine v_iadd X dX7_painters_136 ?_
        refine v_iald X 3 rfl hf dX7_painters_137 (fun h137 hf => ?_)
        refine v_aload_n X 1 rfl dX7_painters_138 ?_
        refine v_get X xinX7 0 rfl rfl 38 (by decide) wd478 rfl rfl dX7_painters_139 ?_
        refine v_iload X 0 rfl dX7_painters_142 ?_
        refine v_iconst X (v := 2) (by decide) dX7_painters_144 ?_
        refine v_iadd X dX7_painters_145 ?_
        refine v_iald X 3 rfl hf dX7_painters_146 (fun h146 hf => ?_)
        obtain ⟨v147_4, hv147_4, hf⟩ := bd_some hf
        refine v_callI X (c_X7_painter X.2.2.2.2.2.2.2.1 hv147_4) cwv_X7_459 rfl (by decide) ⟨Nat.zero_le _, Nat.zero_le _⟩ 0 rfl rfl [0, 4, 5] [1, 2, 3, 6] [4, 0, 1, 2, 5, 6, 3] rfl (by decide) (wr := [(a_isThere, .inl (vxT x 1, 4, .inl s_isThere)), (a_sheetSize, .inl (vxT x 0, 4, .inl s_sheetSize)), (a_items, .inl (vxT x 0, 160, .inl s_items)), (a_sorts, .inl (vxT x 0, 4, .inl s_sorts))]) rfl (by decide) (by decide) (ws2 := [(a0, .inr (7, [.int s_thrown, .ref a_texts, .ref a_textSize, .int s_textCount, .int s_rule, .ref a_tape, .int s_taped, .ref a_room, .ref a_kinds, .ref a_rows, .int v147_4.2.1, .int s_ofSide, .int s_ofLamp, .int s_ofStove, .int s_ofNumber, .int s_ofPose, .int s_ofNear, .int s_from, .int s_size, .int s_here, .int s_token, .int s_tokenAt, .long s_tokenWorth, .int s_open, .int s_bad, .int s_fault, .ref a_now, .ref a_gained, .ref a_rowsWas, .int s_faceWas, .int s_poseWas, .ref a_roomKept, .ref a_rowsKept, .int s_manyKept, .int s_ruleKept, .ref a_isThere, .ref a_sorts, .ref a_sheetSize, .ref a_items])), (a_isThere, .inl (vxT x 1, 4, .inl s_isThere)), (a_sheetSize, .inl (vxT x 0, 4, .inl s_sheetSize)), (a_items, .inl (vxT x 0, 160, .inl s_items)), (a_rows, .inl (vxT x 0, 24, .inl v147_4.2.2.1)), (a_kinds, .inl (vxT x 0, 6, .inl v147_4.2.2.2)), (a_sorts, .inl (vxT x 0, 4, .inl s_sorts))]) rfl (by decide) (Nat.le_of_ble_eq_true rfl) rfl dX7_painters_147 ?_
        refine v_if_lt X (tgt := 157) hf (by decide) dX7_painters_150 (fun c150 hf => ?_) (fun c150 hf => ?_)
        · refine v_iconst X (v := 0) (by decide) dX7_painters_157 ?_
          refine v_iadd X dX7_painters_158 ?_
          refine v_istore X (by rw [hN]; decide) (lv' := [(5, .int (l5 + 0)), (7, .int (((40 * l1) + l3) + (3 * l6))), (0, .ref a0), (1, .int l1), (3, .int l3), (4, .int l4), (6, .int l6)]) rfl dX7_painters_159 ?_
          refine v_iinc X 6 rfl (v := (l6 + 1)) rfl (by rw [hN]; decide) (lv' := [(6, .int (l6 + 1)), (5, .int (l5 + 0)), (7, .int (((40 * l1) + l3) + (3 * l6))), (0, .ref a0), (1, .int l1), (3, .int l3), (4, .int l4)]) rfl dX7_painters_161 ?_
          refine v_goto X (tgt := 75) (by decide) dX7_painters_164 ?_
          refine v_lv [3, 4, 5, 6, 1, 0] rfl ?_
          exact hk_75 _ _ _ _ _ hf
        · refine v_iconst X (v := 1) (by decide) dX7_painters_153 ?_
          refine v_goto X (tgt := 158) (by decide) dX7_painters_154 ?_
          refine v_iadd X dX7_painters_158 ?_
          refine v_istore X (by rw [hN]; decide) (lv' := [(5, .int (l5 + 1)), (7, .int (((40 * l1) + l3) + (3 * l6))), (0, .ref a0), (1, .int l1), (3, .int l3), (4, .int l4), (6, .int l6)]) rfl dX7_painters_159 ?_
          refine v_iinc X 6 rfl (v := (l6 + 1)) rfl (by rw [hN]; decide) (lv' := [(6, .int (l6 + 1)), (5, .int (l5 + 1)), (7, .int (((40 * l1) + l3) + (3 * l6))), (0, .ref a0), (1, .int l1), (3, .int l3), (4, .int l4)]) rfl dX7_painters_161 ?_
          refine v_goto X (tgt := 75) (by decide) dX7_painters_164 ?_
          refine v_lv [3, 4, 5, 6, 1, 0] rfl ?_
          exact hk_75 _ _ _ _ _ hf
      · refine v_bipush X (v := (-12)) (by decide) dX7_painters_103 ?_
        obtain rfl := Option.some.inj hf
        exact v_iret hR dX7_painters_105
set_option maxRecDepth 100000 in
set_option maxHeartbeats 4000000 in
theorem t_X7_painters_57 {x : VX} {r : Int32 × Int32 × (Nat → Int32) × (Nat → Int32)} {a0 : Nat} {a_isThere : Nat} {a_sheetSize : Nat} {a_items : Nat} {a_rows : Nat} {a_kinds : Nat} {a_sorts : Nat} {a_texts : Nat} {a_textSize : Nat} {a_tape : Nat} {a_room : Nat} {a_now : Nat} {a_gained : Nat} {a_rowsWas : Nat} {a_roomKept : Nat} {a_rowsKept : Nat} {s_thrown : Int32} {s_textCount : Int32} {s_rule : Int32} {s_taped : Int32} {s_many : Int32} {s_ofSide : Int32} {s_ofLamp : Int32} {s_ofStove : Int32} {s_ofNumber : Int32} {s_ofPose : Int32} {s_ofNear : Int32} {s_from : Int32} {s_size : Int32} {s_here : Int32} {s_token : Int32} {s_tokenAt : Int32} {s_tokenWorth : Int64} {s_open : Int32} {s_bad : Int32} {s_fault : Int32} {s_faceWas : Int32} {s_poseWas : Int32} {s_manyKept : Int32} {s_ruleKept : Int32} {s_isThere : Nat → Int32} {s_sheetSize : Nat → Int32} {s_items : Nat → Int32} {s_rows : Nat → Int32} {s_kinds : Nat → Int32} {s_sorts : Nat → Int32} {l1 : Int32} {l3 : Int32} {l4 : Int32} (X : Cx x cX7_painters RX7 5) (hN : vxn x = 8) (hR : RetI x cX7_painters 0 0 r.1 [(a0, .inr (7, [.int s_thrown, .ref a_texts, .ref a_textSize, .int s_textCount, .int s_rule, .ref a_tape, .int s_taped, .ref a_room, .ref a_kinds, .ref a_rows, .int r.2.1, .int s_ofSide, .int s_ofLamp, .int s_ofStove, .int s_ofNumber, .int s_ofPose, .int s_ofNear, .int s_from, .int s_size, .int s_here, .int s_token, .int s_tokenAt, .long s_tokenWorth, .int s_open, .int s_bad, .int s_fault, .ref a_now, .ref a_gained, .ref a_rowsWas, .int s_faceWas, .int s_poseWas, .ref a_roomKept, .ref a_rowsKept, .int s_manyKept, .int s_ruleKept, .ref a_isThere, .ref a_sorts, .ref a_sheetSize, .ref a_items])), (a_isThere, .inl (vxT x 1, 4, .inl s_isThere)), (a_sheetSize, .inl (vxT x 0, 4, .inl s_sheetSize)), (a_items, .inl (vxT x 0, 160, .inl s_items)), (a_rows, .inl (vxT x 0, 24, .inl r.2.2.1)), (a_kinds, .inl (vxT x 0, 6, .inl r.2.2.2)), (a_sorts, .inl (vxT x 0, 4, .inl s_sorts))]) (hf : f_X7_painters_57 s_many s_isThere s_sheetSize s_items s_rows s_kinds l1 l3 l4 = some r) : V x 0 0 [(a0, .inr (7, [.int s_thrown, .ref a_texts, .ref a_textSize, .int s_textCount, .int s_rule, .ref a_tape, .int s_taped, .ref a_room, .ref a_kinds, .ref a_rows, .int s_many, .int s_ofSide, .int s_ofLamp, .int s_ofStove, .int s_ofNumber, .int s_ofPose, .int s_ofNear, .int s_from, .int s_size, .int s_here, .int s_token, .int s_tokenAt, .long s_tokenWorth, .int s_open, .int s_bad, .int s_fault, .ref a_now, .ref a_gained, .ref a_rowsWas, .int s_faceWas, .int s_poseWas, .ref a_roomKept, .ref a_rowsKept, .int s_manyKept, .int s_ruleKept, .ref a_isThere, .ref a_sorts, .ref a_sheetSize, .ref a_items])), (a_isThere, .inl (vxT x 1, 4, .inl s_isThere)), (a_sheetSize, .inl (vxT x 0, 4, .inl s_sheetSize)), (a_items, .inl (vxT x 0, 160, .inl s_items)), (a_rows, .inl (vxT x 0, 24, .inl s_rows)), (a_kinds, .inl (vxT x 0, 6, .inl s_kinds)), (a_sorts, .inl (vxT x 0, 4, .inl s_sorts))] [(0, .ref a0), (1, .int l1), (3, .int l3), (4, .int l4)] 57 [] := by
  unfold f_X7_painters_57 at hf
  refine v_aload_n X 0 rfl dX7_painters_57 ?_
  refine v_get X xinX7 0 rfl rfl 35 (by decide) wd482 rfl rfl dX7_painters_58 ?_
  refine v_iload_n X 1 rfl dX7_painters_61 ?_
  refine v_zald X 1 rfl hf dX7_painters_62 (fun h62 hf => ?_)
  refine v_if_ne X (tgt := 69) hf (by decide) dX7_painters_63 (fun c63 hf => ?_) (fun c63 hf => ?_)
  · refine v_iconst X (v := 0) (by decide) dX7_painters_69 ?_
    refine v_istore X (by rw [hN]; decide) (lv' := [(5, .int 0), (0, .ref a0), (1, .int l1), (3, .int l3), (4, .int l4)]) rfl dX7_painters_70 ?_
    refine v_iconst X (v := 0) (by decide) dX7_painters_72 ?_
    refine v_istore X (by rw [hN]; decide) (lv' := [(6, .int 0), (5, .int 0), (0, .ref a0), (1, .int l1), (3, .int l3), (4, .int l4)]) rfl dX7_painters_73 ?_
    refine v_lv [2, 3, 4, 5, 1, 0] rfl ?_
    exact t_X7_painters_75 X hN hR 200 _ _ _ _ _ hf
  · refine v_bipush X (v := (-11)) (by decide) dX7_painters_66 ?_
    obtain rfl := Option.some.inj hf
    exact v_iret hR dX7_painters_68
set_option maxRecDepth 100000 in
set_option maxHeartbeats 4000000 in
theorem t_X7_painters {x : VX} {r : Int32 × Int32 × (Nat → Int32) × (Nat → Int32)} {a0 : Nat} {a_isThere : Nat} {a_sheetSize : Nat} {a_items : Nat} {a_rows : Nat} {a_kinds : Nat} {a_sorts : Nat} {a_texts : Nat} {a_textSize : Nat} {a_tape : Nat} {a_room : Nat} {a_now : Nat} {a_gained : Nat} {a_rowsWas : Nat} {a_roomKept : Nat} {a_rowsKept : Nat} {s_thrown : Int32} {s_textCount : Int32} {s_rule : Int32} {s_taped : Int32} {s_many : Int32} {s_ofSide : Int32} {s_ofLamp : Int32} {s_ofStove : Int32} {s_ofNumber : Int32} {s_ofPose : Int32} {s_ofNear : Int32} {s_from : Int32} {s_size : Int32} {s_here : Int32} {s_token : Int32} {s_tokenAt : Int32} {s_tokenWorth : Int64} {s_open : Int32} {s_bad : Int32} {s_fault : Int32} {s_faceWas : Int32} {s_poseWas : Int32} {s_manyKept : Int32} {s_ruleKept : Int32} {s_isThere : Nat → Int32} {s_sheetSize : Nat → Int32} {s_items : Nat → Int32} {s_rows : Nat → Int32} {s_kinds : Nat → Int32} {s_sorts : Nat → Int32} {l1 : Int32} {l2 : Int32} {l3 : Int32} {l4 : Int32} (X : Cx x cX7_painters RX7 5) (hN : vxn x = 8) (hR : RetI x cX7_painters 0 0 r.1 [(a0, .inr (7, [.int s_thrown, .ref a_texts, .ref a_textSize, .int s_textCount, .int s_rule, .ref a_tape, .int s_taped, .ref a_room, .ref a_kinds, .ref a_rows, .int r.2.1, .int s_ofSide, .int s_ofLamp, .int s_ofStove, .int s_ofNumber, .int s_ofPose, .int s_ofNear, .int s_from, .int s_size, .int s_here, .int s_token, .int s_tokenAt, .long s_tokenWorth, .int s_open, .int s_bad, .int s_fault, .ref a_now, .ref a_gained, .ref a_rowsWas, .int s_faceWas, .int s_poseWas, .ref a_roomKept, .ref a_rowsKept, .int s_manyKept, .int s_ruleKept, .ref a_isThere, .ref a_sorts, .ref a_sheetSize, .ref a_items])), (a_isThere, .inl (vxT x 1, 4, .inl s_isThere)), (a_sheetSize, .inl (vxT x 0, 4, .inl s_sheetSize)), (a_items, .inl (vxT x 0, 160, .inl s_items)), (a_rows, .inl (vxT x 0, 24, .inl r.2.2.1)), (a_kinds, .inl (vxT x 0, 6, .inl r.2.2.2)), (a_sorts, .inl (vxT x 0, 4, .inl s_sorts))]) (hf : f_X7_painters l1 l2 l3 l4 s_many s_isThere s_sheetSize s_items s_rows s_kinds s_sorts = some r) : V x 0 0 [(a0, .inr (7, [.int s_thrown, .ref a_texts, .ref a_textSize, .int s_textCount, .int s_rule, .ref a_tape, .int s_taped, .ref a_room, .ref a_kinds, .ref a_rows, .int s_many, .int s_ofSide, .int s_ofLamp, .int s_ofStove, .int s_ofNumber, .int s_ofPose, .int s_ofNear, .int s_from, .int s_size, .int s_here, .int s_token, .int s_tokenAt, .long s_tokenWorth, .int s_open, .int s_bad, .int s_fault, .ref a_now, .ref a_gained, .ref a_rowsWas, .int s_faceWas, .int s_poseWas, .ref a_roomKept, .ref a_rowsKept, .int s_manyKept, .int s_ruleKept, .ref a_isThere, .ref a_sorts, .ref a_sheetSize, .ref a_items])), (a_isThere, .inl (vxT x 1, 4, .inl s_isThere)), (a_sheetSize, .inl (vxT x 0, 4, .inl s_sheetSize)), (a_items, .inl (vxT x 0, 160, .inl s_items)), (a_rows, .inl (vxT x 0, 24, .inl s_rows)), (a_kinds, .inl (vxT x 0, 6, .inl s_kinds)), (a_sorts, .inl (vxT x 0, 4, .inl s_sorts))] [(0, .ref a0), (1, .int l1), (2, .int l2), (3, .int l3), (4, .int l4)] 0 [] := by
  unfold f_X7_painters at hf
  refine v_iload_n X 1 rfl dX7_painters_0 ?_
  obtain ⟨v1_1, hv1_1, hf⟩ := bd_some hf
  refine v_scallI X (c_X7_isSheet X.2.2.2.2.2.2.2.1 hv1_1) cws_X7_433 rfl (by decide) ⟨Nat.zero_le _, Nat.zero_le _⟩ [] [0, 1, 2, 3, 4, 5, 6] [0, 1, 2, 3, 4, 5, 6] rfl (by decide) (wr := [(a0, .inr (7, [.int s_thrown, .ref a_texts, .ref a_textSize, .int s_textCount, .int s_rule, .ref a_tape, .int s_taped, .ref a_room, .ref a_kinds, .ref a_rows, .int s_many, .int s_ofSide, .int s_ofLamp, .int s_ofStove, .int s_ofNumber, .int s_ofPose, .int s_ofNear, .int s_from, .int s_size, .int s_here, .int s_token, .int s_tokenAt, .long s_tokenWorth, .int s_open, .int s_bad, .int s_fault, .ref a_now, .ref a_gained, .ref a_rowsWas, .int s_faceWas, .int s_poseWas, .ref a_roomKept, .ref a_rowsKept, .int s_manyKept, .int s_ruleKept, .ref a_isThere, .ref a_sorts, .ref a_sheetSize, .ref a_items])), (a_isThere, .inl (vxT x 1, 4, .inl s_isThere)), (a_sheetSize, .inl (vxT x 0, 4, .inl s_sheetSize)), (a_items, .inl (vxT x 0, 160, .inl s_items)), (a_rows, .inl (vxT x 0, 24, .inl s_rows)), (a_kinds, .inl (vxT x 0, 6, .inl s_kinds)), (a_sorts, .inl (vxT x 0, 4, .inl s_sorts))]) rfl (by decide) (by decide) (ws2 := [(a0, .inr (7, [.int s_thrown, .ref a_texts, .ref a_textSize, .int s_textCount, .int s_rule, .ref a_tape, .int s_taped, .ref a_room, .ref a_kinds, .ref a_rows, .int s_many, .int s_ofSide, .int s_ofLamp, .int s_ofStove, .int s_ofNumber, .int s_ofPose, .int s_ofNear, .int s_from, .int s_size, .int s_here, .int s_token, .int s_tokenAt, .long s_tokenWorth, .int s_open, .int s_bad, .int s_fault, .ref a_now, .ref a_gained, .ref a_rowsWas, .int s_faceWas, .int s_poseWas, .ref a_roomKept, .ref a_rowsKept, .int s_manyKept, .int s_ruleKept, .ref a_isThere, .ref a_sorts, .ref a_sheetSize, .ref a_items])), (a_isThere, .inl (vxT x 1, 4, .inl s_isThere)), (a_sheetSize, .inl (vxT x 0, 4, .inl s_sheetSize)), (a_items, .inl (vxT x 0, 160, .inl s_items)), (a_rows, .inl (vxT x 0, 24, .inl s_rows)), (a_kinds, .inl (vxT x 0, 6, .inl s_kinds)), (a_sorts, .inl (vxT x 0, 4, .inl s_sorts))]) rfl (by decide) (Nat.le_of_ble_eq_true rfl) rfl dX7_painters_1 ?_
  refine v_if_eq X (tgt := 32) hf (by decide) dX7_painters_4 (fun c4 hf => ?_) (fun c4 hf => ?_)
  · refine v_bipush X (v := (-2)) (by decide) dX7_painters_32 ?_
    obtain rfl := Option.some.inj hf
    exact v_iret hR dX7_painters_34
  · refine v_iload_n X 2 rfl dX7_painters_7 ?_
    refine v_i2l X dX7_painters_8 ?_
    refine v_lconst X (v := 0) (by decide) dX7_painters_9 ?_
    refine v_ldc2 X wd488 dX7_painters_10 ?_
    obtain ⟨v13_2, hv13_2, hf⟩ := bd_some hf
    refine v_scallI X (c_X7_in X.2.2.2.2.2.2.2.1 hv13_2) cws_X7_73 rfl (by decide) ⟨Nat.zero_le _, Nat.zero_le _⟩ [] [0, 1, 2, 3, 4, 5, 6] [0, 1, 2, 3, 4, 5, 6] rfl (by decide) (wr := [(a0, .inr (7, [.int s_thrown, .ref a_texts, .ref a_textSize, .int s_textCount, .int s_rule, .ref a_tape, .int s_taped, .ref a_room, .ref a_kinds, .ref a_rows, .int s_many, .int s_ofSide, .int s_ofLamp, .int s_ofStove, .int s_ofNumber, .int s_ofPose, .int s_ofNear, .int s_from, .int s_size, .int s_here, .int s_token, .int s_tokenAt, .long s_tokenWorth, .int s_open, .int s_bad, .int s_fault, .ref a_now, .ref a_gained, .ref a_rowsWas, .int s_faceWas, .int s_poseWas, .ref a_roomKept, .ref a_rowsKept, .int s_manyKept, .int s_ruleKept, .ref a_isThere, .ref a_sorts, .ref a_sheetSize, .ref a_items])), (a_isThere, .inl (vxT x 1, 4, .inl s_isThere)), (a_sheetSize, .inl (vxT x 0, 4, .inl s_sheetSize)), (a_items, .inl (vxT x 0, 160, .inl s_items)), (a_rows, .inl (vxT x 0, 24, .inl s_rows)), (a_kinds, .inl (vxT x 0, 6, .inl s_kinds)), (a_sorts, .inl (vxT x 0, 4, .inl s_sorts))]) rfl (by decide) (by decide) (ws2 := [(a0, .inr (7, [.int s_thrown, .ref a_texts, .ref a_textSize, .int s_textCount, .int s_rule, .ref a_tape, .int s_taped, .ref a_room, .ref a_kinds, .ref a_rows, .int s_many, .int s_ofSide, .int s_ofLamp, .int s_ofStove, .int s_ofNumber, .int s_ofPose, .int s_ofNear, .int s_from, .int s_size, .int s_here, .int s_token, .int s_tokenAt, .long s_tokenWorth, .int s_open, .int s_bad, .int s_fault, .ref a_now, .ref a_gained, .ref a_rowsWas, .int s_faceWas, .int s_poseWas, .ref a_roomKept, .ref a_rowsKept, .int s_manyKept, .int s_ruleKept, .ref a_isThere, .ref a_sorts, .ref a_sheetSize, .ref a_items])), (a_isThere, .inl (vxT x 1, 4, .inl s_isThere)), (a_sheetSize, .inl (vxT x 0, 4, .inl s_sheetSize)), (a_items, .inl (vxT x 0, 160, .inl s_items)), (a_rows, .inl (vxT x 0, 24, .inl s_rows)), (a_kinds, .inl (vxT x 0, 6, .inl s_kinds)), (a_sorts, .inl (vxT x 0, 4, .inl s_sorts))]) rfl (by decide) (Nat.le_of_ble_eq_true rfl) rfl dX7_painters_13 ?_
    refine v_if_eq X (tgt := 32) hf (by decide) dX7_painters_16 (fun c16 hf => ?_) (fun c16 hf => ?_)
    · refine v_bipush X (v := (-2)) (by decide) dX7_painters_32 ?_
      obtain rfl := Option.some.inj hf
      exact v_iret hR dX7_painters_34
    · refine v_iload X 4 rfl dX7_painters_19 ?_
      refine v_i2l X dX7_painters_21 ?_
      refine v_lconst X (v := 0) (by decide) dX7_painters_22 ?_
      refine v_ldc2 X wd505 dX7_painters_23 ?_
      obtain ⟨v26_3, hv26_3, hf⟩ := bd_some hf
      refine v_scallI X (c_X7_in X.2.2.2.2.2.2.2.1 hv26_3) cws_X7_73 rfl (by decide) ⟨Nat.zero_le _, Nat.zero_le _⟩ [] [0, 1, 2, 3, 4, 5, 6] [0, 1, 2, 3, 4, 5, 6] rfl (by decide) (wr := [(a0, .inr (7, [.int s_thrown, .ref a_texts, .ref a_textSize, .int s_textCount, .int s_rule, .ref a_tape, .int s_taped, .ref a_room, .ref a_kinds, .ref a_rows, .int s_many, .int s_ofSide, .int s_ofLamp, .int s_ofStove, .int s_ofNumber, .int s_ofPose, .int s_ofNear, .int s_from, .int s_size, .int s_here, .int s_token, .int s_tokenAt, .long s_tokenWorth, .int s_open, .int s_bad, .int s_fault, .ref a_now, .ref a_gained, .ref a_rowsWas, .int s_faceWas, .int s_poseWas, .ref a_roomKept, .ref a_rowsKept, .int s_manyKept, .int s_ruleKept, .ref a_isThere, .ref a_sorts, .ref a_sheetSize, .ref a_items])), (a_isThere, .inl (vxT x 1, 4, .inl s_isThere)), (a_sheetSize, .inl (vxT x 0, 4, .inl s_sheetSize)), (a_items, .inl (vxT x 0, 160, .inl s_items)), (a_rows, .inl (vxT x 0, 24, .inl s_rows)), (a_kinds, .inl (vxT x 0, 6, .inl s_kinds)), (a_sorts, .inl (vxT x 0, 4, .inl s_sorts))]) rfl (by decide) (by decide) (ws2 := [(a0, .inr (7, [.int s_thrown, .ref a_texts, .ref a_textSize, .int s_textCount, .int s_rule, .ref a_tape, .int s_taped, .ref a_room, .ref a_kinds, .ref a_rows, .int s_many, .int s_ofSide, .int s_ofLamp, .int s_ofStove, .int s_ofNumber, .int s_ofPose, .int s_ofNear, .int s_from, .int s_size, .int s_here, .int s_token, .int s_tokenAt, .long s_tokenWorth, .int s_open, .int s_bad, .int s_fault, .ref a_now, .ref a_gained, .ref a_rowsWas, .int s_faceWas, .int s_poseWas, .ref a_roomKept, .ref a_rowsKept, .int s_manyKept, .int s_ruleKept, .ref a_isThere, .ref a_sorts, .ref a_sheetSize, .ref a_items])), (a_isThere, .inl (vxT x 1, 4, .inl s_isThere)), (a_sheetSize, .inl (vxT x 0, 4, .inl s_sheetSize)), (a_items, .inl (vxT x 0, 160, .inl s_items)), (a_rows, .inl (vxT x 0, 24, .inl s_rows)), (a_kinds, .inl (vxT x 0, 6, .inl s_kinds)), (a_sorts, .inl (vxT x 0, 4, .inl s_sorts))]) rfl (by decide) (Nat.le_of_ble_eq_true rfl) rfl dX7_painters_26 ?_
      refine v_if_ne X (tgt := 35) hf (by decide) dX7_painters_29 (fun c29 hf => ?_) (fun c29 hf => ?_)
      · refine v_aload_n X 0 rfl dX7_painters_35 ?_
        refine v_get X xinX7 0 rfl rfl 35 (by decide) wd482 rfl rfl dX7_painters_36 ?_
        refine v_iload_n X 1 rfl dX7_painters_39 ?_
        refine v_zald X 1 rfl hf dX7_painters_40 (fun h40 hf => ?_)
        refine v_if_eq X (tgt := 57) hf (by decide) dX7_painters_41 (fun c41 hf => ?_) (fun c41 hf => ?_)
        · refine v_lv [0, 1, 3, 4] rfl ?_
          exact t_X7_painters_57 X hN hR hf
        · refine v_aload_n X 0 rfl dX7_painters_44 ?_
          refine v_get X xinX7 0 rfl rfl 36 (by decide) wd489 rfl rfl dX7_painters_45 ?_
          refine v_iload_n X 1 rfl dX7_painters_48 ?_
          refine v_iald X 6 rfl hf dX7_painters_49 (fun h49 hf => ?_)
          refine v_iload_n X 2 rfl dX7_painters_50 ?_
          refine v_icmp_eq X (tgt := 57) hf (by decide) dX7_painters_51 (fun c51 hf => ?_) (fun c51 hf => ?_)
          · refine v_lv [0, 1, 3, 4] rfl ?_
            exact t_X7_painters_57 X hN hR hf
          · refine v_bipush X (v := (-13)) (by decide) dX7_painters_54 ?_
            obtain rfl := Option.some.inj hf
            exact v_iret hR dX7_painters_56
      · refine v_bipush X (v := (-2)) (by decide) dX7_painters_32 ?_
        obtain rfl := Option.some.inj hf
        exact v_iret hR dX7_painters_34
set_option maxRecDepth 100000 in
set_option maxHeartbeats 4000000 in
theorem c_X7_painters {l : Launch} {D : va_G} {qT : Nat → ClassId} {Z : (Nat → Prop) → State → Heap → Prop} {r : Int32 × Int32 × (Nat → Int32) × (Nat → Int32)} {a0 : Nat} {a_isThere : Nat} {a_sheetSize : Nat} {a_items : Nat} {a_rows : Nat} {a_kinds : Nat} {a_sorts : Nat} {a_texts : Nat} {a_textSize : Nat} {a_tape : Nat} {a_room : Nat} {a_now : Nat} {a_gained : Nat} {a_rowsWas : Nat} {a_roomKept : Nat} {a_rowsKept : Nat} {s_thrown : Int32} {s_textCount : Int32} {s_rule : Int32} {s_taped : Int32} {s_many : Int32} {s_ofSide : Int32} {s_ofLamp : Int32} {s_ofStove : Int32} {s_ofNumber : Int32} {s_ofPose : Int32} {s_ofNear : Int32} {s_from : Int32} {s_size : Int32} {s_here : Int32} {s_token : Int32} {s_tokenAt : Int32} {s_tokenWorth : Int64} {s_open : Int32} {s_bad : Int32} {s_fault : Int32} {s_faceWas : Int32} {s_poseWas : Int32} {s_manyKept : Int32} {s_ruleKept : Int32} {s_isThere : Nat → Int32} {s_sheetSize : Nat → Int32} {s_items : Nat → Int32} {s_rows : Nat → Int32} {s_kinds : Nat → Int32} {s_sorts : Nat → Int32} {l1 : Int32} {l2 : Int32} {l3 : Int32} {l4 : Int32} (hZ : ZOK Z) (hf : f_X7_painters l1 l2 l3 l4 s_many s_isThere s_sheetSize s_items s_rows s_kinds s_sorts = some r) :
    CI l D qT Z yX7_painters cX7_painters 8 (some .int) 5 0 0 [.ref a0, .int l1, .int l2, .int l3, .int l4] [(a0, .inr (7, [.int s_thrown, .ref a_texts, .ref a_textSize, .int s_textCount, .int s_rule, .ref a_tape, .int s_taped, .ref a_room, .ref a_kinds, .ref a_rows, .int s_many, .int s_ofSide, .int s_ofLamp, .int s_ofStove, .int s_ofNumber, .int s_ofPose, .int s_ofNear, .int s_from, .int s_size, .int s_here, .int s_token, .int s_tokenAt, .long s_tokenWorth, .int s_open, .int s_bad, .int s_fault, .ref a_now, .ref a_gained, .ref a_rowsWas, .int s_faceWas, .int s_poseWas, .ref a_roomKept, .ref a_rowsKept, .int s_manyKept, .int s_ruleKept, .ref a_isThere, .ref a_sorts, .ref a_sheetSize, .ref a_items])), (a_isThere, .inl (qT 1, 4, .inl s_isThere)), (a_sheetSize, .inl (qT 0, 4, .inl s_sheetSize)), (a_items, .inl (qT 0, 160, .inl s_items)), (a_rows, .inl (qT 0, 24, .inl s_rows)), (a_kinds, .inl (qT 0, 6, .inl s_kinds)), (a_sorts, .inl (qT 0, 4, .inl s_sorts))] r.1 [(a0, .inr (7, [.int s_thrown, .ref a_texts, .ref a_textSize, .int s_textCount, .int s_rule, .ref a_tape, .int s_taped, .ref a_room, .ref a_kinds, .ref a_rows, .int r.2.1, .int s_ofSide, .int s_ofLamp, .int s_ofStove, .int s_ofNumber, .int s_ofPose, .int s_ofNear, .int s_from, .int s_size, .int s_here, .int s_token, .int s_tokenAt, .long s_tokenWorth, .int s_open, .int s_bad, .int s_fault, .ref a_now, .ref a_gained, .ref a_rowsWas, .int s_faceWas, .int s_poseWas, .ref a_roomKept, .ref a_rowsKept, .int s_manyKept, .int s_ruleKept, .ref a_isThere, .ref a_sorts, .ref a_sheetSize, .ref a_items])), (a_isThere, .inl (qT 1, 4, .inl s_isThere)), (a_sheetSize, .inl (qT 0, 4, .inl s_sheetSize)), (a_items, .inl (qT 0, 160, .inl s_items)), (a_rows, .inl (qT 0, 24, .inl r.2.2.1)), (a_kinds, .inl (qT 0, 6, .inl r.2.2.2)), (a_sorts, .inl (qT 0, 4, .inl s_sorts))] := by
  refine CI_of hZ (by decide) (Nat.le_of_ble_eq_true rfl) ?_
  intro x e1 e2 e3 e4 e5 e6 hin X hR
  subst e1 e2 e3 e4
  exact t_X7_painters X e6 hR hf
def f_X7_over (l0 : Int32) : Option (Int32) :=
  if l0 = 0 then (
  some (-1)) else (
  if l0 = 3 then (
  some 1) else (
  if l0 = 4 then (
  some 2) else (
  some 0)))
set_option maxRecDepth 100000 in
set_option maxHeartbeats 4000000 in
theorem t_X7_over {x : VX} {r : Int32} {l0 : Int32} (X : Cx x cX7_over RX7 1) (hN : vxn x = 1) (hR : RetI x cX7_over 0 0 r []) (hf : f_X7_over l0 = some r) : V x 0 0 [] [(0, .int l0)] 0 [] := by
  unfold f_X7_over at hf
  refine v_iload_n X 0 rfl dX7_over_0 ?_
  refine v_if_ne X (tgt := 8) hf (by decide) dX7_over_1 (fun c1 hf => ?_) (fun c1 hf => ?_)
  · refine v_iload_n X 0 rfl dX7_over_8 ?_
    refine v_iconst X (v := 3) (by decide) dX7_over_9 ?_
    refine v_icmp_ne X (tgt := 17) hf (by decide) dX7_over_10 (fun c10 hf => ?_) (fun c10 hf => ?_)
    · refine v_iload_n X 0 rfl dX7_over_17 ?_
      refine v_iconst X (v := 4) (by decide) dX7_over_18 ?_
      refine v_icmp_ne X (tgt := 26) hf (by decide) dX7_over_19 (fun c19 hf => ?_) (fun c19 hf => ?_)
      · refine v_iconst X (v := 0) (by decide) dX7_over_26 ?_
        obtain rfl := Option.some.inj hf
        exact v_iret hR dX7_over_27
      · refine v_iconst X (v := 2) (by decide) dX7_over_22 ?_
        refine v_goto X (tgt := 27) (by decide) dX7_over_23 ?_
        obtain rfl := Option.some.inj hf
        exact v_iret hR dX7_over_27
    · refine v_iconst X (v := 1) (by decide) dX7_over_13 ?_
      refine v_goto X (tgt := 27) (by decide) dX7_over_14 ?_
      obtain rfl := Option.some.inj hf
      exact v_iret hR dX7_over_27
  · refine v_iconst X (v := (-1)) (by decide) dX7_over_4 ?_
    refine v_goto X (tgt := 27) (by decide) dX7_over_5 ?_
    obtain rfl := Option.some.inj hf
    exact v_iret hR dX7_over_27
set_option maxRecDepth 100000 in
set_option maxHeartbeats 4000000 in
theorem c_X7_over {l : Launch} {D : va_G} {qT : Nat → ClassId} {Z : (Nat → Prop) → State → Heap → Prop} {r : Int32} {l0 : Int32} (hZ : ZOK Z) (hf : f_X7_over l0 = some r) :
    CI l D qT Z yX7_over cX7_over 1 (some .int) 1 0 0 [.int l0] [] r [] := by
  refine CI_of hZ (by decide) (Nat.le_of_ble_eq_true rfl) ?_
  intro x e1 e2 e3 e4 e5 e6 hin X hR
  subst e1 e2 e3 e4
  exact t_X7_over X e6 hR hf
def f_X7_taken_51 (s_rows : Nat → Int32) (l1 : Int32) (l2 : Int32) (l3 : Int32) : Option (Int32) :=
  if l3 = l2 then (
  if inb (4 * l1) 24 = true then (
  some (s_rows (Int32.toNatClampNeg (4 * l1)))) else none) else (
  some (-13))
def f_X7_taken_33 (s_rows : Nat → Int32) (l1 : Int32) (l2 : Int32) (kp_33 : Int32 → Option (Int32)) (l3 : Int32) : Option (Int32) :=
  if l3 = (-1) then (
  f_X7_taken_51 s_rows l1 l2 l3) else (
  if l3 = l2 then (
  f_X7_taken_51 s_rows l1 l2 l3) else (
  (f_X7_over l3).bind (fun v44_3 =>
  kp_33 v44_3)))
def f_X7_taken (l1 : Int32) (l2 : Int32) (s_many : Int32) (s_kinds : Nat → Int32) (s_rows : Nat → Int32) : Option (Int32) :=
  (f_X7_in (Int32.toInt64 l2) 0 5).bind (fun v6_1 =>
  if v6_1 = 0 then (
  some (-2)) else (
  (f_X7_isOne l1 s_many).bind (fun v17_2 =>
  if v17_2 = 0 then (
  some (-11)) else (
  if inb l1 6 = true then (
  lq1 (f_X7_taken_33 s_rows l1 l2) 200 (s_kinds (Int32.toNatClampNeg l1))) else none))))
set_option maxRecDepth 100000 in
set_option maxHeartbeats 4000000 in
theorem t_X7_taken_51 {x : VX} {r : Int32} {a0 : Nat} {a_kinds : Nat} {a_rows : Nat} {a_texts : Nat} {a_textSize : Nat} {a_tape : Nat} {a_room : Nat} {a_now : Nat} {a_gained : Nat} {a_rowsWas : Nat} {a_roomKept : Nat} {a_rowsKept : Nat} {a_isThere : Nat} {a_sorts : Nat} {a_sheetSize : Nat} {a_items : Nat} {s_thrown : Int32} {s_textCount : Int32} {s_rule : Int32} {s_taped : Int32} {s_many : Int32} {s_ofSide : Int32} {s_ofLamp : Int32} {s_ofStove : Int32} {s_ofNumber : Int32} {s_ofPose : Int32} {s_ofNear : Int32} {s_from : Int32} {s_size : Int32} {s_here : Int32} {s_token : Int32} {s_tokenAt : Int32} {s_tokenWorth : Int64} {s_open : Int32} {s_bad : Int32} {s_fault : Int32} {s_faceWas : Int32} {s_poseWas : Int32} {s_manyKept : Int32} {s_ruleKept : Int32} {s_kinds : Nat → Int32} {s_rows : Nat → Int32} {l1 : Int32} {l2 : Int32} {l3 : Int32} (X : Cx x cX7_taken RX7 3) (hN : vxn x = 4) (hR : RetI x cX7_taken 0 0 r [(a0, .inr (7, [.int s_thrown, .ref a_texts, .ref a_textSize, .int s_textCount, .int s_rule, .ref a_tape, .int s_taped, .ref a_room, .ref a_kinds, .ref a_rows, .int s_many, .int s_ofSide, .int s_ofLamp, .int s_ofStove, .int s_ofNumber, .int s_ofPose, .int s_ofNear, .int s_from, .int s_size, .int s_here, .int s_token, .int s_tokenAt, .long s_tokenWorth, .int s_open, .int s_bad, .int s_fault, .ref a_now, .ref a_gained, .ref a_rowsWas, .int s_faceWas, .int s_poseWas, .ref a_roomKept, .ref a_rowsKept, .int s_manyKept, .int s_ruleKept, .ref a_isThere, .ref a_sorts, .ref a_sheetSize, .ref a_items])), (a_kinds, .inl (vxT x 0, 6, .inl s_kinds)), (a_rows, .inl (vxT x 0, 24, .inl s_rows))]) (hf : f_X7_taken_51 s_rows l1 l2 l3 = some r) : V x 0 0 [(a0, .inr (7, [.int s_thrown, .ref a_texts, .ref a_textSize, .int s_textCount, .int s_rule, .ref a_tape, .int s_taped, .ref a_room, .ref a_kinds, .ref a_rows, .int s_many, .int s_ofSide, .int s_ofLamp, .int s_ofStove, .int s_ofNumber, .int s_ofPose, .int s_ofNear, .int s_from, .int s_size, .int s_here, .int s_token, .int s_tokenAt, .long s_tokenWorth, .int s_open, .int s_bad, .int s_fault, .ref a_now, .ref a_gained, .ref a_rowsWas, .int s_faceWas, .int s_poseWas, .ref a_roomKept, .ref a_rowsKept, .int s_manyKept, .int s_ruleKept, .ref a_isThere, .ref a_sorts, .ref a_sheetSize, .ref a_items])), (a_kinds, .inl (vxT x 0, 6, .inl s_kinds)), (a_rows, .inl (vxT x 0, 24, .inl s_rows))] [(0, .ref a0), (1, .int l1), (2, .int l2), (3, .int l3)] 51 [] := by
  unfold f_X7_taken_51 at hf
  refine v_iload_n X 3 rfl dX7_taken_51 ?_
  refine v_iload_n X 2 rfl dX7_taken_52 ?_
  refine v_icmp_ne X (tgt := 67) hf (by decide) dX7_taken_53 (fun c53 hf => ?_) (fun c53 hf => ?_)
  · refine v_bipush X (v := (-13)) (by decide) dX7_taken_67 ?_
    obtain rfl := Option.some.inj hf
    exact v_iret hR dX7_taken_69
  · refine v_aload_n X 0 rfl dX7_taken_56 ?_
    refine v_get X xinX7 0 rfl rfl 9 (by decide) wd113 rfl rfl dX7_taken_57 ?_
    refine v_iconst X (v := 4) (by decide) dX7_taken_60 ?_
    refine v_iload_n X 1 rfl dX7_taken_61 ?_
    refine v_imul X dX7_taken_62 ?_
    refine v_iald X 2 rfl hf dX7_taken_63 (fun h63 hf => ?_)
    refine v_goto X (tgt := 69) (by decide) dX7_taken_64 ?_
    obtain rfl := Option.some.inj hf
    exact v_iret hR dX7_taken_69
set_option maxRecDepth 100000 in
set_option maxHeartbeats 4000000 in
theorem t_X7_taken_33 {x : VX} {r : Int32} {a0 : Nat} {a_kinds : Nat} {a_rows : Nat} {a_texts : Nat} {a_textSize : Nat} {a_tape : Nat} {a_room : Nat} {a_now : Nat} {a_gained : Nat} {a_rowsWas : Nat} {a_roomKept : Nat} {a_rowsKept : Nat} {a_isThere : Nat} {a_sorts : Nat} {a_sheetSize : Nat} {a_items : Nat} {s_thrown : Int32} {s_textCount : Int32} {s_rule : Int32} {s_taped : Int32} {s_many : Int32} {s_ofSide : Int32} {s_ofLamp : Int32} {s_ofStove : Int32} {s_ofNumber : Int32} {s_ofPose : Int32} {s_ofNear : Int32} {s_from : Int32} {s_size : Int32} {s_here : Int32} {s_token : Int32} {s_tokenAt : Int32} {s_tokenWorth : Int64} {s_open : Int32} {s_bad : Int32} {s_fault : Int32} {s_faceWas : Int32} {s_poseWas : Int32} {s_manyKept : Int32} {s_ruleKept : Int32} {s_kinds : Nat → Int32} {s_rows : Nat → Int32} {l1 : Int32} {l2 : Int32} (X : Cx x cX7_taken RX7 3) (hN : vxn x = 4) (hR : RetI x cX7_taken 0 0 r [(a0, .inr (7, [.int s_thrown, .ref a_texts, .ref a_textSize, .int s_textCount, .int s_rule, .ref a_tape, .int s_taped, .ref a_room, .ref a_kinds, .ref a_rows, .int s_many, .int s_ofSide, .int s_ofLamp, .int s_ofStove, .int s_ofNumber, .int s_ofPose, .int s_ofNear, .int s_from, .int s_size, .int s_here, .int s_token, .int s_tokenAt, .long s_tokenWorth, .int s_open, .int s_bad, .int s_fault, .ref a_now, .ref a_gained, .ref a_rowsWas, .int s_faceWas, .int s_poseWas, .ref a_roomKept, .ref a_rowsKept, .int s_manyKept, .int s_ruleKept, .ref a_isThere, .ref a_sorts, .ref a_sheetSize, .ref a_items])), (a_kinds, .inl (vxT x 0, 6, .inl s_kinds)), (a_rows, .inl (vxT x 0, 24, .inl s_rows))]) :
    ∀ (fu : Nat) (l3 : Int32), lq1 (f_X7_taken_33 s_rows l1 l2) fu l3 = some r → V x 0 0 [(a0, .inr (7, [.int s_thrown, .ref a_texts, .ref a_textSize, .int s_textCount, .int s_rule, .ref a_tape, .int s_taped, .ref a_room, .ref a_kinds, .ref a_rows, .int s_many, .int s_ofSide, .int s_ofLamp, .int s_ofStove, .int s_ofNumber, .int s_ofPose, .int s_ofNear, .int s_from, .int s_size, .int s_here, .int s_token, .int s_tokenAt, .long s_tokenWorth, .int s_open, .int s_bad, .int s_fault, .ref a_now, .ref a_gained, .ref a_rowsWas, .int s_faceWas, .int s_poseWas, .ref a_roomKept, .ref a_rowsKept, .int s_manyKept, .int s_ruleKept, .ref a_isThere, .ref a_sorts, .ref a_sheetSize, .ref a_items])), (a_kinds, .inl (vxT x 0, 6, .inl s_kinds)), (a_rows, .inl (vxT x 0, 24, .inl s_rows))] [(0, .ref a0), (1, .int l1), (2, .int l2), (3, .int l3)] 33 [] := by
  refine lq1_V (G := fun l3 => V x 0 0 [(a0, .inr (7, [.int s_thrown, .ref a_texts, .ref a_textSize, .int s_textCount, .int s_rule, .ref a_tape, .int s_taped, .ref a_room, .ref a_kinds, .ref a_rows, .int s_many, .int s_ofSide, .int s_ofLamp, .int s_ofStove, .int s_ofNumber, .int s_ofPose, .int s_ofNear, .int s_from, .int s_size, .int s_here, .int s_token, .int s_tokenAt, .long s_tokenWorth, .int s_open, .int s_bad, .int s_fault, .ref a_now, .ref a_gained, .ref a_rowsWas, .int s_faceWas, .int s_poseWas, .ref a_roomKept, .ref a_rowsKept, .int s_manyKept, .int s_ruleKept, .ref a_isThere, .ref a_sorts, .ref a_sheetSize, .ref a_items])), (a_kinds, .inl (vxT x 0, 6, .inl s_kinds)), (a_rows, .inl (vxT x 0, 24, .inl s_rows))] [(0, .ref a0), (1, .int l1), (2, .int l2), (3, .int l3)] 33 []) ?_
  intro kp_33 hk_33 l3 hf
  unfold f_X7_taken_33 at hf
  refine v_iload_n X 3 rfl dX7_taken_33 ?_
  refine v_iconst X (v := (-1)) (by decide) dX7_taken_34 ?_
  refine v_icmp_eq X (tgt := 51) hf (by decide) dX7_taken_35 (fun c35 hf => ?_) (fun c35 hf => ?_)
  · exact t_X7_taken_51 X hN hR hf
  · refine v_iload_n X 3 rfl dX7_taken_38 ?_
    refine v_iload_n X 2 rfl dX7_taken_39 ?_
    refine v_icmp_eq X (tgt := 51) hf (by decide) dX7_taken_40 (fun c40 hf => ?_) (fun c40 hf => ?_)
    · exact t_X7_taken_51 X hN hR hf
    · refine v_iload_n X 3 rfl dX7_taken_43 ?_
      obtain ⟨v44_3, hv44_3, hf⟩ := bd_some hf
      refine v_scallI X (c_X7_over X.2.2.2.2.2.2.2.1 hv44_3) cws_X7_462 rfl (by decide) ⟨Nat.zero_le _, Nat.zero_le _⟩ [] [0, 1, 2] [0, 1, 2] rfl (by decide) (wr := [(a0, .inr (7, [.int s_thrown, .ref a_texts, .ref a_textSize, .int s_textCount, .int s_rule, .ref a_tape, .int s_taped, .ref a_room, .ref a_kinds, .ref a_rows, .int s_many, .int s_ofSide, .int s_ofLamp, .int s_ofStove, .int s_ofNumber, .int s_ofPose, .int s_ofNear, .int s_from, .int s_size, .int s_here, .int s_token, .int s_tokenAt, .long s_tokenWorth, .int s_open, .int s_bad, .int s_fault, .ref a_now, .ref a_gained, .ref a_rowsWas, .int s_faceWas, .int s_poseWas, .ref a_roomKept, .ref a_rowsKept, .int s_manyKept, .int s_ruleKept, .ref a_isThere, .ref a_sorts, .ref a_sheetSize, .ref a_items])), (a_kinds, .inl (vxT x 0, 6, .inl s_kinds)), (a_rows, .inl (vxT x 0, 24, .inl s_rows))]) rfl (by decide) (by decide) (ws2 := [(a0, .inr (7, [.int s_thrown, .ref a_texts, .ref a_textSize, .int s_textCount, .int s_rule, .ref a_tape, .int s_taped, .ref a_room, .ref a_kinds, .ref a_rows, .int s_many, .int s_ofSide, .int s_ofLamp, .int s_ofStove, .int s_ofNumber, .int s_ofPose, .int s_ofNear, .int s_from, .int s_size, .int s_here, .int s_token, .int s_tokenAt, .long s_tokenWorth, .int s_open, .int s_bad, .int s_fault, .ref a_now, .ref a_gained, .ref a_rowsWas, .int s_faceWas, .int s_poseWas, .ref a_roomKept, .ref a_rowsKept, .int s_manyKept, .int s_ruleKept, .ref a_isThere, .ref a_sorts, .ref a_sheetSize, .ref a_items])), (a_kinds, .inl (vxT x 0, 6, .inl s_kinds)), (a_rows, .inl (vxT x 0, 24, .inl s_rows))]) rfl (by decide) (Nat.le_of_ble_eq_true rfl) rfl dX7_taken_44 ?_
      refine v_istore_n X rfl (by rw [hN]; decide) (lv' := [(3, .int v44_3), (0, .ref a0), (1, .int l1), (2, .int l2)]) rfl dX7_taken_47 ?_
      refine v_goto X (tgt := 33) (by decide) dX7_taken_48 ?_
      refine v_lv [1, 2, 3, 0] rfl ?_
      exact hk_33 _ hf
set_option maxRecDepth 100000 in
set_option maxHeartbeats 4000000 in
theorem t_X7_taken {x : VX} {r : Int32} {a0 : Nat} {a_kinds : Nat} {a_rows : Nat} {a_texts : Nat} {a_textSize : Nat} {a_tape : Nat} {a_room : Nat} {a_now : Nat} {a_gained : Nat} {a_rowsWas : Nat} {a_roomKept : Nat} {a_rowsKept : Nat} {a_isThere : Nat} {a_sorts : Nat} {a_sheetSize : Nat} {a_items : Nat} {s_thrown : Int32} {s_textCount : Int32} {s_rule : Int32} {s_taped : Int32} {s_many : Int32} {s_ofSide : Int32} {s_ofLamp : Int32} {s_ofStove : Int32} {s_ofNumber : Int32} {s_ofPose : Int32} {s_ofNear : Int32} {s_from : Int32} {s_size : Int32} {s_here : Int32} {s_token : Int32} {s_tokenAt : Int32} {s_tokenWorth : Int64} {s_open : Int32} {s_bad : Int32} {s_fault : Int32} {s_faceWas : Int32} {s_poseWas : Int32} {s_manyKept : Int32} {s_ruleKept : Int32} {s_kinds : Nat → Int32} {s_rows : Nat → Int32} {l1 : Int32} {l2 : Int32} (X : Cx x cX7_taken RX7 3) (hN : vxn x = 4) (hR : RetI x cX7_taken 0 0 r [(a0, .inr (7, [.int s_thrown, .ref a_texts, .ref a_textSize, .int s_textCount, .int s_rule, .ref a_tape, .int s_taped, .ref a_room, .ref a_kinds, .ref a_rows, .int s_many, .int s_ofSide, .int s_ofLamp, .int s_ofStove, .int s_ofNumber, .int s_ofPose, .int s_ofNear, .int s_from, .int s_size, .int s_here, .int s_token, .int s_tokenAt, .long s_tokenWorth, .int s_open, .int s_bad, .int s_fault, .ref a_now, .ref a_gained, .ref a_rowsWas, .int s_faceWas, .int s_poseWas, .ref a_roomKept, .ref a_rowsKept, .int s_manyKept, .int s_ruleKept, .ref a_isThere, .ref a_sorts, .ref a_sheetSize, .ref a_items])), (a_kinds, .inl (vxT x 0, 6, .inl s_kinds)), (a_rows, .inl (vxT x 0, 24, .inl s_rows))]) (hf : f_X7_taken l1 l2 s_many s_kinds s_rows = some r) : V x 0 0 [(a0, .inr (7, [.int s_thrown, .ref a_texts, .ref a_textSize, .int s_textCount, .int s_rule, .ref a_tape, .int s_taped, .ref a_room, .ref a_kinds, .ref a_rows, .int s_many, .int s_ofSide, .int s_ofLamp, .int s_ofStove, .int s_ofNumber, .int s_ofPose, .int s_ofNear, .int s_from, .int s_size, .int s_here, .int s_token, .int s_tokenAt, .long s_tokenWorth, .int s_open, .int s_bad, .int s_fault, .ref a_now, .ref a_gained, .ref a_rowsWas, .int s_faceWas, .int s_poseWas, .ref a_roomKept, .ref a_rowsKept, .int s_manyKept, .int s_ruleKept, .ref a_isThere, .ref a_sorts, .ref a_sheetSize, .ref a_items])), (a_kinds, .inl (vxT x 0, 6, .inl s_kinds)), (a_rows, .inl (vxT x 0, 24, .inl s_rows))] [(0, .ref a0), (1, .int l1), (2, .int l2)] 0 [] := by
  unfold f_X7_taken at hf
  refine v_iload_n X 2 rfl dX7_taken_0 ?_
  refine v_i2l X dX7_taken_1 ?_
  refine v_lconst X (v := 0) (by decide) dX7_taken_2 ?_
  refine v_ldc2 X wd130 dX7_taken_3 ?_
  obtain ⟨v6_1, hv6_1, hf⟩ := bd_some hf
  refine v_scallI X (c_X7_in X.2.2.2.2.2.2.2.1 hv6_1) cws_X7_73 rfl (by decide) ⟨Nat.zero_le _, Nat.zero_le _⟩ [] [0, 1, 2] [0, 1, 2] rfl (by decide) (wr := [(a0, .inr (7, [.int s_thrown, .ref a_texts, .ref a_textSize, .int s_textCount, .int s_rule, .ref a_tape, .int s_taped, .ref a_room, .ref a_kinds, .ref a_rows, .int s_many, .int s_ofSide, .int s_ofLamp, .int s_ofStove, .int s_ofNumber, .int s_ofPose, .int s_ofNear, .int s_from, .int s_size, .int s_here, .int s_token, .int s_tokenAt, .long s_tokenWorth, .int s_open, .int s_bad, .int s_fault, .ref a_now, .ref a_gained, .ref a_rowsWas, .int s_faceWas, .int s_poseWas, .ref a_roomKept, .ref a_rowsKept, .int s_manyKept, .int s_ruleKept, .ref a_isThere, .ref a_sorts, .ref a_sheetSize, .ref a_items])), (a_kinds, .inl (vxT x 0, 6, .inl s_kinds)), (a_rows, .inl (vxT x 0, 24, .inl s_rows))]) rfl (by decide) (by decide) (ws2 := [(a0, .inr (7, [.int s_thrown, .ref a_texts, .ref a_textSize, .int s_textCount, .int s_rule, .ref a_tape, .int s_taped, .ref a_room, .ref a_kinds, .ref a_rows, .int s_many, .int s_ofSide, .int s_ofLamp, .int s_ofStove, .int s_ofNumber, .int s_ofPose, .int s_ofNear, .int s_from, .int s_size, .int s_here, .int s_token, .int s_tokenAt, .long s_tokenWorth, .int s_open, .int s_bad, .int s_fault, .ref a_now, .ref a_gained, .ref a_rowsWas, .int s_faceWas, .int s_poseWas, .ref a_roomKept, .ref a_rowsKept, .int s_manyKept, .int s_ruleKept, .ref a_isThere, .ref a_sorts, .ref a_sheetSize, .ref a_items])), (a_kinds, .inl (vxT x 0, 6, .inl s_kinds)), (a_rows, .inl (vxT x 0, 24, .inl s_rows))]) rfl (by decide) (Nat.le_of_ble_eq_true rfl) rfl dX7_taken_6 ?_
  refine v_if_ne X (tgt := 15) hf (by decide) dX7_taken_9 (fun c9 hf => ?_) (fun c9 hf => ?_)
  · refine v_aload_n X 0 rfl dX7_taken_15 ?_
    refine v_iload_n X 1 rfl dX7_taken_16 ?_
    obtain ⟨v17_2, hv17_2, hf⟩ := bd_some hf
    refine v_callI X (c_X7_isOne X.2.2.2.2.2.2.2.1 hv17_2) cwv_X7_97 rfl (by decide) ⟨Nat.zero_le _, Nat.zero_le _⟩ 0 rfl rfl [0] [1, 2] [2, 0, 1] rfl (by decide) (wr := [(a_kinds, .inl (vxT x 0, 6, .inl s_kinds)), (a_rows, .inl (vxT x 0, 24, .inl s_rows))]) rfl (by decide) (by decide) (ws2 := [(a0, .inr (7, [.int s_thrown, .ref a_texts, .ref a_textSize, .int s_textCount, .int s_rule, .ref a_tape, .int s_taped, .ref a_room, .ref a_kinds, .ref a_rows, .int s_many, .int s_ofSide, .int s_ofLamp, .int s_ofStove, .int s_ofNumber, .int s_ofPose, .int s_ofNear, .int s_from, .int s_size, .int s_here, .int s_token, .int s_tokenAt, .long s_tokenWorth, .int s_open, .int s_bad, .int s_fault, .ref a_now, .ref a_gained, .ref a_rowsWas, .int s_faceWas, .int s_poseWas, .ref a_roomKept, .ref a_rowsKept, .int s_manyKept, .int s_ruleKept, .ref a_isThere, .ref a_sorts, .ref a_sheetSize, .ref a_items])), (a_kinds, .inl (vxT x 0, 6, .inl s_kinds)), (a_rows, .inl (vxT x 0, 24, .inl s_rows))]) rfl (by decide) (Nat.le_of_ble_eq_true rfl) rfl dX7_taken_17 ?_
    refine v_if_ne X (tgt := 26) hf (by decide) dX7_taken_20 (fun c20 hf => ?_) (fun c20 hf => ?_)
    · refine v_aload_n X 0 rfl dX7_taken_26 ?_
      refine v_get X xinX7 0 rfl rfl 8 (by decide) wd128 rfl rfl dX7_taken_27 ?_
      refine v_iload_n X 1 rfl dX7_taken_30 ?_
      refine v_iald X 1 rfl hf dX7_taken_31 (fun h31 hf => ?_)
      refine v_istore_n X rfl (by rw [hN]; decide) (lv' := [(3, .int (s_kinds (Int32.toNatClampNeg l1))), (0, .ref a0), (1, .int l1), (2, .int l2)]) rfl dX7_taken_32 ?_
      refine v_lv [1, 2, 3, 0] rfl ?_
      exact t_X7_taken_33 X hN hR 200 _ hf
    · refine v_bipush X (v := (-11)) (by decide) dX7_taken_23 ?_
      obtain rfl := Option.some.inj hf
      exact v_iret hR dX7_taken_25
  · refine v_bipush X (v := (-2)) (by decide) dX7_taken_12 ?_
    obtain rfl := Option.some.inj hf
    exact v_iret hR dX7_taken_14
set_option maxRecDepth 100000 in
set_option maxHeartbeats 4000000 in
theorem c_X7_taken {l : Launch} {D : va_G} {qT : Nat → ClassId} {Z : (Nat → Prop) → State → Heap → Prop} {r : Int32} {a0 : Nat} {a_kinds : Nat} {a_rows : Nat} {a_texts : Nat} {a_textSize : Nat} {a_tape : Nat} {a_room : Nat} {a_now : Nat} {a_gained : Nat} {a_rowsWas : Nat} {a_roomKept : Nat} {a_rowsKept : Nat} {a_isThere : Nat} {a_sorts : Nat} {a_sheetSize : Nat} {a_items : Nat} {s_thrown : Int32} {s_textCount : Int32} {s_rule : Int32} {s_taped : Int32} {s_many : Int32} {s_ofSide : Int32} {s_ofLamp : Int32} {s_ofStove : Int32} {s_ofNumber : Int32} {s_ofPose : Int32} {s_ofNear : Int32} {s_from : Int32} {s_size : Int32} {s_here : Int32} {s_token : Int32} {s_tokenAt : Int32} {s_tokenWorth : Int64} {s_open : Int32} {s_bad : Int32} {s_fault : Int32} {s_faceWas : Int32} {s_poseWas : Int32} {s_manyKept : Int32} {s_ruleKept : Int32} {s_kinds : Nat → Int32} {s_rows : Nat → Int32} {l1 : Int32} {l2 : Int32} (hZ : ZOK Z) (hf : f_X7_taken l1 l2 s_many s_kinds s_rows = some r) :
    CI l D qT Z yX7_taken cX7_taken 4 (some .int) 3 0 0 [.ref a0, .int l1, .int l2] [(a0, .inr (7, [.int s_thrown, .ref a_texts, .ref a_textSize, .int s_textCount, .int s_rule, .ref a_tape, .int s_taped, .ref a_room, .ref a_kinds, .ref a_rows, .int s_many, .int s_ofSide, .int s_ofLamp, .int s_ofStove, .int s_ofNumber, .int s_ofPose, .int s_ofNear, .int s_from, .int s_size, .int s_here, .int s_token, .int s_tokenAt, .long s_tokenWorth, .int s_open, .int s_bad, .int s_fault, .ref a_now, .ref a_gained, .ref a_rowsWas, .int s_faceWas, .int s_poseWas, .ref a_roomKept, .ref a_rowsKept, .int s_manyKept, .int s_ruleKept, .ref a_isThere, .ref a_sorts, .ref a_sheetSize, .ref a_items])), (a_kinds, .inl (qT 0, 6, .inl s_kinds)), (a_rows, .inl (qT 0, 24, .inl s_rows))] r [(a0, .inr (7, [.int s_thrown, .ref a_texts, .ref a_textSize, .int s_textCount, .int s_rule, .ref a_tape, .int s_taped, .ref a_room, .ref a_kinds, .ref a_rows, .int s_many, .int s_ofSide, .int s_ofLamp, .int s_ofStove, .int s_ofNumber, .int s_ofPose, .int s_ofNear, .int s_from, .int s_size, .int s_here, .int s_token, .int s_tokenAt, .long s_tokenWorth, .int s_open, .int s_bad, .int s_fault, .ref a_now, .ref a_gained, .ref a_rowsWas, .int s_faceWas, .int s_poseWas, .ref a_roomKept, .ref a_rowsKept, .int s_manyKept, .int s_ruleKept, .ref a_isThere, .ref a_sorts, .ref a_sheetSize, .ref a_items])), (a_kinds, .inl (qT 0, 6, .inl s_kinds)), (a_rows, .inl (qT 0, 24, .inl s_rows))] := by
  refine CI_of hZ (by decide) (Nat.le_of_ble_eq_true rfl) ?_
  intro x e1 e2 e3 e4 e5 e6 hin X hR
  subst e1 e2 e3 e4
  exact t_X7_taken X e6 hR hf
