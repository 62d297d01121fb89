/-! ## the reference's grammar, its levels alike -/
abbrev AF : Type := Int32 → Int32 → Int32 → Int32 → Int32 → Int32 → Int32 → Int32 → Int32 → Int32 → Int32 → Int64 → Int32 → Int32 → Int32 → (Nat → Int32) → Option (Int32 × Int32 × Int32 × Int32 × Int64 × Int32 × Int32 × Int32)
def g7_atom (pA : AF) (pE : AF) (s_ofSide : Int32) (s_ofLamp : Int32) (s_ofStove : Int32) (s_ofNumber : Int32) (s_ofPose : Int32) (s_ofNear : Int32) (s_from : Int32) (s_size : Int32) (s_here : Int32) (s_token : Int32) (s_tokenAt : Int32) (s_tokenWorth : Int64) (s_open : Int32) (s_bad : Int32) (s_fault : Int32) (s_texts : Nat → Int32) : Option (Int32 × Int32 × Int32 × Int32 × Int64 × Int32 × Int32 × Int32) :=
  (f_X7_isSign 45 s_token s_tokenWorth s_bad).bind (fun v5_1 =>
  if v5_1 = 0 then (
  (f_X7_isSign 40 s_token s_tokenWorth s_bad).bind (fun v40_2 =>
  if v40_2 = 0 then (
  if s_bad = 0 then (
  if s_token = 2 then (
  (f_X7_next s_from s_size s_here s_tokenWorth s_texts).bind (fun v117_7 =>
  some ((Int64.toInt32 s_tokenWorth), v117_7.1, v117_7.2.1, v117_7.2.2.1, v117_7.2.2.2, s_open, s_bad, s_fault))) else (
  f_X7_atom4_123 s_ofSide s_ofLamp s_ofStove s_ofNumber s_ofPose s_ofNear s_from s_size s_here s_token s_tokenAt s_tokenWorth s_open s_bad s_fault s_texts 0)) else (
  f_X7_atom4_123 s_ofSide s_ofLamp s_ofStove s_ofNumber s_ofPose s_ofNear s_from s_size s_here s_token s_tokenAt s_tokenWorth s_open s_bad s_fault s_texts 0)) else (
  (f_X7_opens s_from s_size s_here s_token s_tokenAt s_tokenWorth s_open s_bad s_fault s_texts).bind (fun v47_8 =>
  if v47_8.1 = 0 then (
  some (0, v47_8.2.1, v47_8.2.2.1, v47_8.2.2.2.1, v47_8.2.2.2.2.1, v47_8.2.2.2.2.2.1, v47_8.2.2.2.2.2.2.1, v47_8.2.2.2.2.2.2.2)) else (
  (pE s_ofSide s_ofLamp s_ofStove s_ofNumber s_ofPose s_ofNear s_from s_size v47_8.2.1 v47_8.2.2.1 v47_8.2.2.2.1 v47_8.2.2.2.2.1 v47_8.2.2.2.2.2.1 v47_8.2.2.2.2.2.2.1 v47_8.2.2.2.2.2.2.2 s_texts).bind (fun v54_9 =>
  (f_X7_isSign 41 v54_9.2.2.1 v54_9.2.2.2.2.1 v54_9.2.2.2.2.2.2.1).bind (fun v61_10 =>
  if v61_10 = 0 then (
  (f_X7_fail v54_9.2.2.2.1 v54_9.2.2.2.2.2.2.1 v54_9.2.2.2.2.2.2.2).bind (fun v68_12 =>
  f_X7_atom4_71 s_from s_size v54_9.2.1 v54_9.2.2.1 v54_9.2.2.2.1 v54_9.2.2.2.2.1 v54_9.2.2.2.2.2.1 v68_12.1 v68_12.2 s_texts v54_9.1)) else (
  f_X7_atom4_71 s_from s_size v54_9.2.1 v54_9.2.2.1 v54_9.2.2.2.1 v54_9.2.2.2.2.1 v54_9.2.2.2.2.2.1 v54_9.2.2.2.2.2.2.1 v54_9.2.2.2.2.2.2.2 s_texts v54_9.1)))))))) else (
  (f_X7_opens s_from s_size s_here s_token s_tokenAt s_tokenWorth s_open s_bad s_fault s_texts).bind (fun v12_13 =>
  if v12_13.1 = 0 then (
  some (0, v12_13.2.1, v12_13.2.2.1, v12_13.2.2.2.1, v12_13.2.2.2.2.1, v12_13.2.2.2.2.2.1, v12_13.2.2.2.2.2.2.1, v12_13.2.2.2.2.2.2.2)) else (
  (pA s_ofSide s_ofLamp s_ofStove s_ofNumber s_ofPose s_ofNear s_from s_size v12_13.2.1 v12_13.2.2.1 v12_13.2.2.2.1 v12_13.2.2.2.2.1 v12_13.2.2.2.2.2.1 v12_13.2.2.2.2.2.2.1 v12_13.2.2.2.2.2.2.2 s_texts).bind (fun v19_14 =>
  some ((-v19_14.1), v19_14.2.1, v19_14.2.2.1, v19_14.2.2.2.1, v19_14.2.2.2.2.1, (v19_14.2.2.2.2.2.1 - 1), v19_14.2.2.2.2.2.2.1, v19_14.2.2.2.2.2.2.2))))))
def g7_term_5 (pA : AF) (s_ofSide : Int32) (s_ofLamp : Int32) (s_ofStove : Int32) (s_ofNumber : Int32) (s_ofPose : Int32) (s_ofNear : Int32) (s_from : Int32) (s_size : Int32) (s_texts : Nat → Int32) (kp_5 : Int32 → Int32 → Int32 → Int32 → Int64 → Int32 → Int32 → Int32 → Option (Int32 × Int32 × Int32 × Int32 × Int64 × Int32 × Int32 × Int32)) (l1 : Int32) (s_here : Int32) (s_token : Int32) (s_tokenAt : Int32) (s_tokenWorth : Int64) (s_open : Int32) (s_bad : Int32) (s_fault : Int32) : Option (Int32 × Int32 × Int32 × Int32 × Int64 × Int32 × Int32 × Int32) :=
  (f_X7_isSign 42 s_token s_tokenWorth s_bad).bind (fun v8_2 =>
  if v8_2 = 0 then (
  some (l1, s_here, s_token, s_tokenAt, s_tokenWorth, s_open, s_bad, s_fault)) else (
  (f_X7_next s_from s_size s_here s_tokenWorth s_texts).bind (fun v15_3 =>
  (pA s_ofSide s_ofLamp s_ofStove s_ofNumber s_ofPose s_ofNear s_from s_size v15_3.1 v15_3.2.1 v15_3.2.2.1 v15_3.2.2.2 s_open s_bad s_fault s_texts).bind (fun v20_4 =>
  kp_5 (l1 * v20_4.1) v20_4.2.1 v20_4.2.2.1 v20_4.2.2.2.1 v20_4.2.2.2.2.1 v20_4.2.2.2.2.2.1 v20_4.2.2.2.2.2.2.1 v20_4.2.2.2.2.2.2.2))))
def g7_term (pA : AF) (s_ofSide : Int32) (s_ofLamp : Int32) (s_ofStove : Int32) (s_ofNumber : Int32) (s_ofPose : Int32) (s_ofNear : Int32) (s_from : Int32) (s_size : Int32) (s_here : Int32) (s_token : Int32) (s_tokenAt : Int32) (s_tokenWorth : Int64) (s_open : Int32) (s_bad : Int32) (s_fault : Int32) (s_texts : Nat → Int32) : Option (Int32 × Int32 × Int32 × Int32 × Int64 × Int32 × Int32 × Int32) :=
  (pA s_ofSide s_ofLamp s_ofStove s_ofNumber s_ofPose s_ofNear s_from s_size s_here s_token s_tokenAt s_tokenWorth s_open s_bad s_fault s_texts).bind (fun v1_1 =>
  lq8 (g7_term_5 pA s_ofSide s_ofLamp s_ofStove s_ofNumber s_ofPose s_ofNear s_from s_size s_texts) 200 v1_1.1 v1_1.2.1 v1_1.2.2.1 v1_1.2.2.2.1 v1_1.2.2.2.2.1 v1_1.2.2.2.2.2.1 v1_1.2.2.2.2.2.2.1 v1_1.2.2.2.2.2.2.2)
def g7_added_39 (pA : AF) (kp_5 : Int32 → Int32 → Int32 → Int32 → Int64 → Int32 → Int32 → Int32 → Option (Int32 × Int32 × Int32 × Int32 × Int64 × Int32 × Int32 × Int32)) (s_ofSide : Int32) (s_ofLamp : Int32) (s_ofStove : Int32) (s_ofNumber : Int32) (s_ofPose : Int32) (s_ofNear : Int32) (s_from : Int32) (s_size : Int32) (s_here : Int32) (s_tokenWorth : Int64) (s_open : Int32) (s_bad : Int32) (s_fault : Int32) (s_texts : Nat → Int32) (l1 : Int32) (k0 : Int32) : Option (Int32 × Int32 × Int32 × Int32 × Int64 × Int32 × Int32 × Int32) :=
  (f_X7_next s_from s_size s_here s_tokenWorth s_texts).bind (fun v41_3 =>
  (pA s_ofSide s_ofLamp s_ofStove s_ofNumber s_ofPose s_ofNear s_from s_size v41_3.1 v41_3.2.1 v41_3.2.2.1 v41_3.2.2.2 s_open s_bad s_fault s_texts).bind (fun v45_4 =>
  if k0 = 0 then (
  kp_5 (l1 - v45_4.1) v45_4.2.1 v45_4.2.2.1 v45_4.2.2.2.1 v45_4.2.2.2.2.1 v45_4.2.2.2.2.2.1 v45_4.2.2.2.2.2.2.1 v45_4.2.2.2.2.2.2.2) else (
  kp_5 (l1 + v45_4.1) v45_4.2.1 v45_4.2.2.1 v45_4.2.2.2.1 v45_4.2.2.2.2.1 v45_4.2.2.2.2.2.1 v45_4.2.2.2.2.2.2.1 v45_4.2.2.2.2.2.2.2)))
def g7_added_23 (pA : AF) (kp_5 : Int32 → Int32 → Int32 → Int32 → Int64 → Int32 → Int32 → Int32 → Option (Int32 × Int32 × Int32 × Int32 × Int64 × Int32 × Int32 × Int32)) (s_ofSide : Int32) (s_ofLamp : Int32) (s_ofStove : Int32) (s_ofNumber : Int32) (s_ofPose : Int32) (s_ofNear : Int32) (s_from : Int32) (s_size : Int32) (s_here : Int32) (s_tokenWorth : Int64) (s_open : Int32) (s_bad : Int32) (s_fault : Int32) (s_texts : Nat → Int32) (l1 : Int32) : Option (Int32 × Int32 × Int32 × Int32 × Int64 × Int32 × Int32 × Int32) :=
  if (lg_cmp s_tokenWorth 43) = 0 then (
  g7_added_39 pA kp_5 s_ofSide s_ofLamp s_ofStove s_ofNumber s_ofPose s_ofNear s_from s_size s_here s_tokenWorth s_open s_bad s_fault s_texts l1 1) else (
  g7_added_39 pA kp_5 s_ofSide s_ofLamp s_ofStove s_ofNumber s_ofPose s_ofNear s_from s_size s_here s_tokenWorth s_open s_bad s_fault s_texts l1 0)
def g7_added_5 (pA : AF) (s_ofSide : Int32) (s_ofLamp : Int32) (s_ofStove : Int32) (s_ofNumber : Int32) (s_ofPose : Int32) (s_ofNear : Int32) (s_from : Int32) (s_size : Int32) (s_texts : Nat → Int32) (kp_5 : Int32 → Int32 → Int32 → Int32 → Int64 → Int32 → Int32 → Int32 → Option (Int32 × Int32 × Int32 × Int32 × Int64 × Int32 × Int32 × Int32)) (l1 : Int32) (s_here : Int32) (s_token : Int32) (s_tokenAt : Int32) (s_tokenWorth : Int64) (s_open : Int32) (s_bad : Int32) (s_fault : Int32) : Option (Int32 × Int32 × Int32 × Int32 × Int64 × Int32 × Int32 × Int32) :=
  (f_X7_isSign 43 s_token s_tokenWorth s_bad).bind (fun v8_2 =>
  if v8_2 = 0 then (
  (f_X7_isSign 45 s_token s_tokenWorth s_bad).bind (fun v17_5 =>
  if v17_5 = 0 then (
  some (l1, s_here, s_token, s_tokenAt, s_tokenWorth, s_open, s_bad, s_fault)) else (
  g7_added_23 pA kp_5 s_ofSide s_ofLamp s_ofStove s_ofNumber s_ofPose s_ofNear s_from s_size s_here s_tokenWorth s_open s_bad s_fault s_texts l1))) else (
  g7_added_23 pA kp_5 s_ofSide s_ofLamp s_ofStove s_ofNumber s_ofPose s_ofNear s_from s_size s_here s_tokenWorth s_open s_bad s_fault s_texts l1))
def g7_added (pA : AF) (s_ofSide : Int32) (s_ofLamp : Int32) (s_ofStove : Int32) (s_ofNumber : Int32) (s_ofPose : Int32) (s_ofNear : Int32) (s_from : Int32) (s_size : Int32) (s_here : Int32) (s_token : Int32) (s_tokenAt : Int32) (s_tokenWorth : Int64) (s_open : Int32) (s_bad : Int32) (s_fault : Int32) (s_texts : Nat → Int32) : Option (Int32 × Int32 × Int32 × Int32 × Int64 × Int32 × Int32 × Int32) :=
  (pA s_ofSide s_ofLamp s_ofStove s_ofNumber s_ofPose s_ofNear s_from s_size s_here s_token s_tokenAt s_tokenWorth s_open s_bad s_fault s_texts).bind (fun v1_1 =>
  lq8 (g7_added_5 pA s_ofSide s_ofLamp s_ofStove s_ofNumber s_ofPose s_ofNear s_from s_size s_texts) 200 v1_1.1 v1_1.2.1 v1_1.2.2.1 v1_1.2.2.2.1 v1_1.2.2.2.2.1 v1_1.2.2.2.2.2.1 v1_1.2.2.2.2.2.2.1 v1_1.2.2.2.2.2.2.2)
def g7_not_93 (pA : AF) (pN : AF) (s_ofSide : Int32) (s_ofLamp : Int32) (s_ofStove : Int32) (s_ofNumber : Int32) (s_ofPose : Int32) (s_ofNear : Int32) (s_from : Int32) (s_size : Int32) (s_here : Int32) (s_tokenWorth : Int64) (s_open : Int32) (s_bad : Int32) (s_fault : Int32) (s_texts : Nat → Int32) (l1 : Int32) (k0 : Int32) : Option (Int32 × Int32 × Int32 × Int32 × Int64 × Int32 × Int32 × Int32) :=
  (f_X7_next s_from s_size s_here s_tokenWorth s_texts).bind (fun v95_4 =>
  (pA s_ofSide s_ofLamp s_ofStove s_ofNumber s_ofPose s_ofNear s_from s_size v95_4.1 v95_4.2.1 v95_4.2.2.1 v95_4.2.2.2 s_open s_bad s_fault s_texts).bind (fun v99_5 =>
  if k0 = 0 then (
  if l1 = v99_5.1 then (
  some (1, v99_5.2.1, v99_5.2.2.1, v99_5.2.2.2.1, v99_5.2.2.2.2.1, v99_5.2.2.2.2.2.1, v99_5.2.2.2.2.2.2.1, v99_5.2.2.2.2.2.2.2)) else (
  some (0, v99_5.2.1, v99_5.2.2.1, v99_5.2.2.2.1, v99_5.2.2.2.2.1, v99_5.2.2.2.2.2.1, v99_5.2.2.2.2.2.2.1, v99_5.2.2.2.2.2.2.2))) else (
  if v99_5.1 ≤ l1 then (
  some (0, v99_5.2.1, v99_5.2.2.1, v99_5.2.2.2.1, v99_5.2.2.2.2.1, v99_5.2.2.2.2.2.1, v99_5.2.2.2.2.2.2.1, v99_5.2.2.2.2.2.2.2)) else (
  some (1, v99_5.2.1, v99_5.2.2.1, v99_5.2.2.2.1, v99_5.2.2.2.2.1, v99_5.2.2.2.2.2.1, v99_5.2.2.2.2.2.2.1, v99_5.2.2.2.2.2.2.2)))))
def g7_not_77 (pA : AF) (pN : AF) (s_ofSide : Int32) (s_ofLamp : Int32) (s_ofStove : Int32) (s_ofNumber : Int32) (s_ofPose : Int32) (s_ofNear : Int32) (s_from : Int32) (s_size : Int32) (s_here : Int32) (s_tokenWorth : Int64) (s_open : Int32) (s_bad : Int32) (s_fault : Int32) (s_texts : Nat → Int32) (l1 : Int32) : Option (Int32 × Int32 × Int32 × Int32 × Int64 × Int32 × Int32 × Int32) :=
  if (lg_cmp s_tokenWorth 60) = 0 then (
  g7_not_93 pA pN s_ofSide s_ofLamp s_ofStove s_ofNumber s_ofPose s_ofNear s_from s_size s_here s_tokenWorth s_open s_bad s_fault s_texts l1 1) else (
  g7_not_93 pA pN s_ofSide s_ofLamp s_ofStove s_ofNumber s_ofPose s_ofNear s_from s_size s_here s_tokenWorth s_open s_bad s_fault s_texts l1 0)
def g7_not (pA : AF) (pN : AF) (s_ofSide : Int32) (s_ofLamp : Int32) (s_ofStove : Int32) (s_ofNumber : Int32) (s_ofPose : Int32) (s_ofNear : Int32) (s_from : Int32) (s_size : Int32) (s_here : Int32) (s_token : Int32) (s_tokenAt : Int32) (s_tokenWorth : Int64) (s_open : Int32) (s_bad : Int32) (s_fault : Int32) (s_texts : Nat → Int32) : Option (Int32 × Int32 × Int32 × Int32 × Int64 × Int32 × Int32 × Int32) :=
  (f_X7_isWord 110 111 116 0 0 0 0 0 s_from s_size s_here s_token s_tokenAt s_bad s_texts).bind (fun v12_1 =>
  if v12_1 = 0 then (
  (pA s_ofSide s_ofLamp s_ofStove s_ofNumber s_ofPose s_ofNear s_from s_size s_here s_token s_tokenAt s_tokenWorth s_open s_bad s_fault s_texts).bind (fun v53_2 =>
  (f_X7_isSign 60 v53_2.2.2.1 v53_2.2.2.2.2.1 v53_2.2.2.2.2.2.2.1).bind (fun v60_3 =>
  if v60_3 = 0 then (
  (f_X7_isSign 61 v53_2.2.2.1 v53_2.2.2.2.2.1 v53_2.2.2.2.2.2.2.1).bind (fun v69_6 =>
  if v69_6 = 0 then (
  some (v53_2.1, v53_2.2.1, v53_2.2.2.1, v53_2.2.2.2.1, v53_2.2.2.2.2.1, v53_2.2.2.2.2.2.1, v53_2.2.2.2.2.2.2.1, v53_2.2.2.2.2.2.2.2)) else (
  g7_not_77 pA pN s_ofSide s_ofLamp s_ofStove s_ofNumber s_ofPose s_ofNear s_from s_size v53_2.2.1 v53_2.2.2.2.2.1 v53_2.2.2.2.2.2.1 v53_2.2.2.2.2.2.2.1 v53_2.2.2.2.2.2.2.2 s_texts v53_2.1))) else (
  g7_not_77 pA pN s_ofSide s_ofLamp s_ofStove s_ofNumber s_ofPose s_ofNear s_from s_size v53_2.2.1 v53_2.2.2.2.2.1 v53_2.2.2.2.2.2.1 v53_2.2.2.2.2.2.2.1 v53_2.2.2.2.2.2.2.2 s_texts v53_2.1)))) else (
  (f_X7_opens s_from s_size s_here s_token s_tokenAt s_tokenWorth s_open s_bad s_fault s_texts).bind (fun v19_7 =>
  if v19_7.1 = 0 then (
  some (0, v19_7.2.1, v19_7.2.2.1, v19_7.2.2.2.1, v19_7.2.2.2.2.1, v19_7.2.2.2.2.2.1, v19_7.2.2.2.2.2.2.1, v19_7.2.2.2.2.2.2.2)) else (
  (pN s_ofSide s_ofLamp s_ofStove s_ofNumber s_ofPose s_ofNear s_from s_size v19_7.2.1 v19_7.2.2.1 v19_7.2.2.2.1 v19_7.2.2.2.2.1 v19_7.2.2.2.2.2.1 v19_7.2.2.2.2.2.2.1 v19_7.2.2.2.2.2.2.2 s_texts).bind (fun v28_8 =>
  if v28_8.1 = 0 then (
  some (1, v28_8.2.1, v28_8.2.2.1, v28_8.2.2.2.1, v28_8.2.2.2.2.1, (v28_8.2.2.2.2.2.1 - 1), v28_8.2.2.2.2.2.2.1, v28_8.2.2.2.2.2.2.2)) else (
  some (0, v28_8.2.1, v28_8.2.2.1, v28_8.2.2.2.1, v28_8.2.2.2.2.1, (v28_8.2.2.2.2.2.1 - 1), v28_8.2.2.2.2.2.2.1, v28_8.2.2.2.2.2.2.2)))))))
def g7_both_5 (pA : AF) (s_ofSide : Int32) (s_ofLamp : Int32) (s_ofStove : Int32) (s_ofNumber : Int32) (s_ofPose : Int32) (s_ofNear : Int32) (s_from : Int32) (s_size : Int32) (s_texts : Nat → Int32) (kp_5 : Int32 → Int32 → Int32 → Int32 → Int64 → Int32 → Int32 → Int32 → Option (Int32 × Int32 × Int32 × Int32 × Int64 × Int32 × Int32 × Int32)) (l1 : Int32) (s_here : Int32) (s_token : Int32) (s_tokenAt : Int32) (s_tokenWorth : Int64) (s_open : Int32) (s_bad : Int32) (s_fault : Int32) : Option (Int32 × Int32 × Int32 × Int32 × Int64 × Int32 × Int32 × Int32) :=
  (f_X7_isWord 97 110 100 0 0 0 0 0 s_from s_size s_here s_token s_tokenAt s_bad s_texts).bind (fun v17_2 =>
  if v17_2 = 0 then (
  some (l1, s_here, s_token, s_tokenAt, s_tokenWorth, s_open, s_bad, s_fault)) else (
  (f_X7_next s_from s_size s_here s_tokenWorth s_texts).bind (fun v24_3 =>
  (pA s_ofSide s_ofLamp s_ofStove s_ofNumber s_ofPose s_ofNear s_from s_size v24_3.1 v24_3.2.1 v24_3.2.2.1 v24_3.2.2.2 s_open s_bad s_fault s_texts).bind (fun v28_4 =>
  if l1 = 0 then (
  kp_5 0 v28_4.2.1 v28_4.2.2.1 v28_4.2.2.2.1 v28_4.2.2.2.2.1 v28_4.2.2.2.2.2.1 v28_4.2.2.2.2.2.2.1 v28_4.2.2.2.2.2.2.2) else (
  if v28_4.1 = 0 then (
  kp_5 0 v28_4.2.1 v28_4.2.2.1 v28_4.2.2.2.1 v28_4.2.2.2.2.1 v28_4.2.2.2.2.2.1 v28_4.2.2.2.2.2.2.1 v28_4.2.2.2.2.2.2.2) else (
  kp_5 1 v28_4.2.1 v28_4.2.2.1 v28_4.2.2.2.1 v28_4.2.2.2.2.1 v28_4.2.2.2.2.2.1 v28_4.2.2.2.2.2.2.1 v28_4.2.2.2.2.2.2.2))))))
def g7_both (pA : AF) (s_ofSide : Int32) (s_ofLamp : Int32) (s_ofStove : Int32) (s_ofNumber : Int32) (s_ofPose : Int32) (s_ofNear : Int32) (s_from : Int32) (s_size : Int32) (s_here : Int32) (s_token : Int32) (s_tokenAt : Int32) (s_tokenWorth : Int64) (s_open : Int32) (s_bad : Int32) (s_fault : Int32) (s_texts : Nat → Int32) : Option (Int32 × Int32 × Int32 × Int32 × Int64 × Int32 × Int32 × Int32) :=
  (pA s_ofSide s_ofLamp s_ofStove s_ofNumber s_ofPose s_ofNear s_from s_size s_here s_token s_tokenAt s_tokenWorth s_open s_bad s_fault s_texts).bind (fun v1_1 =>
  lq8 (g7_both_5 pA s_ofSide s_ofLamp s_ofStove s_ofNumber s_ofPose s_ofNear s_from s_size s_texts) 200 v1_1.1 v1_1.2.1 v1_1.2.2.1 v1_1.2.2.2.1 v1_1.2.2.2.2.1 v1_1.2.2.2.2.2.1 v1_1.2.2.2.2.2.2.1 v1_1.2.2.2.2.2.2.2)
def g7_either_5 (pA : AF) (s_ofSide : Int32) (s_ofLamp : Int32) (s_ofStove : Int32) (s_ofNumber : Int32) (s_ofPose : Int32) (s_ofNear : Int32) (s_from : Int32) (s_size : Int32) (s_texts : Nat → Int32) (kp_5 : Int32 → Int32 → Int32 → Int32 → Int64 → Int32 → Int32 → Int32 → Option (Int32 × Int32 × Int32 × Int32 × Int64 × Int32 × Int32 × Int32)) (l1 : Int32) (s_here : Int32) (s_token : Int32) (s_tokenAt : Int32) (s_tokenWorth : Int64) (s_open : Int32) (s_bad : Int32) (s_fault : Int32) : Option (Int32 × Int32 × Int32 × Int32 × Int64 × Int32 × Int32 × Int32) :=
  (f_X7_isWord 111 114 0 0 0 0 0 0 s_from s_size s_here s_token s_tokenAt s_bad s_texts).bind (fun v16_2 =>
  if v16_2 = 0 then (
  some (l1, s_here, s_token, s_tokenAt, s_tokenWorth, s_open, s_bad, s_fault)) else (
  (f_X7_next s_from s_size s_here s_tokenWorth s_texts).bind (fun v23_3 =>
  (pA s_ofSide s_ofLamp s_ofStove s_ofNumber s_ofPose s_ofNear s_from s_size v23_3.1 v23_3.2.1 v23_3.2.2.1 v23_3.2.2.2 s_open s_bad s_fault s_texts).bind (fun v27_4 =>
  if l1 = 0 then (
  if v27_4.1 = 0 then (
  kp_5 0 v27_4.2.1 v27_4.2.2.1 v27_4.2.2.2.1 v27_4.2.2.2.2.1 v27_4.2.2.2.2.2.1 v27_4.2.2.2.2.2.2.1 v27_4.2.2.2.2.2.2.2) else (
  kp_5 1 v27_4.2.1 v27_4.2.2.1 v27_4.2.2.2.1 v27_4.2.2.2.2.1 v27_4.2.2.2.2.2.1 v27_4.2.2.2.2.2.2.1 v27_4.2.2.2.2.2.2.2)) else (
  kp_5 1 v27_4.2.1 v27_4.2.2.1 v27_4.2.2.2.1 v27_4.2.2.2.2.1 v27_4.2.2.2.2.2.1 v27_4.2.2.2.2.2.2.1 v27_4.2.2.2.2.2.2.2)))))
def g7_either (pA : AF) (s_ofSide : Int32) (s_ofLamp : Int32) (s_ofStove : Int32) (s_ofNumber : Int32) (s_ofPose : Int32) (s_ofNear : Int32) (s_from : Int32) (s_size : Int32) (s_here : Int32) (s_token : Int32) (s_tokenAt : Int32) (s_tokenWorth : Int64) (s_open : Int32) (s_bad : Int32) (s_fault : Int32) (s_texts : Nat → Int32) : Option (Int32 × Int32 × Int32 × Int32 × Int64 × Int32 × Int32 × Int32) :=
  (pA s_ofSide s_ofLamp s_ofStove s_ofNumber s_ofPose s_ofNear s_from s_size s_here s_token s_tokenAt s_tokenWorth s_open s_bad s_fault s_texts).bind (fun v1_1 =>
  lq8 (g7_either_5 pA s_ofSide s_ofLamp s_ofStove s_ofNumber s_ofPose s_ofNear s_from s_size s_texts) 200 v1_1.1 v1_1.2.1 v1_1.2.2.1 v1_1.2.2.2.1 v1_1.2.2.2.2.1 v1_1.2.2.2.2.2.1 v1_1.2.2.2.2.2.2.1 v1_1.2.2.2.2.2.2.2)
theorem e7_atom4 : f_X7_atom4 = g7_atom f_X7_atom5 f_X7_either5 := rfl
theorem e7_atom3 : f_X7_atom3 = g7_atom f_X7_atom4 f_X7_either4 := rfl
theorem e7_atom2 : f_X7_atom2 = g7_atom f_X7_atom3 f_X7_either3 := rfl
theorem e7_atom1 : f_X7_atom1 = g7_atom f_X7_atom2 f_X7_either2 := rfl
theorem e7_atom0 : f_X7_atom0 = g7_atom f_X7_atom1 f_X7_either1 := rfl
theorem e7_term5 : f_X7_term5 = g7_term f_X7_atom5 := rfl
theorem e7_added5 : f_X7_added5 = g7_added f_X7_term5 := rfl
theorem e7_both5 : f_X7_both5 = g7_both f_X7_not5 := rfl
theorem e7_either5 : f_X7_either5 = g7_either f_X7_both5 := rfl
theorem e7_term4 : f_X7_term4 = g7_term f_X7_atom4 := rfl
theorem e7_added4 : f_X7_added4 = g7_added f_X7_term4 := rfl
theorem e7_not4 : f_X7_not4 = g7_not f_X7_added4 f_X7_not5 := rfl
theorem e7_both4 : f_X7_both4 = g7_both f_X7_not4 := rfl
theorem e7_either4 : f_X7_either4 = g7_either f_X7_both4 := rfl
theorem e7_term3 : f_X7_term3 = g7_term f_X7_atom3 := rfl
theorem e7_added3 : f_X7_added3 = g7_added f_X7_term3 := rfl
theorem e7_not3 : f_X7_not3 = g7_not f_X7_added3 f_X7_not4 := rfl
theorem e7_both3 : f_X7_both3 = g7_both f_X7_not3 := rfl
theorem e7_either3 : f_X7_either3 = g7_either f_X7_both3 := rfl
theorem e7_term2 : f_X7_term2 = g7_term f_X7_atom2 := rfl
theorem e7_added2 : f_X7_added2 = g7_added f_X7_term2 := rfl
theorem e7_not2 : f_X7_not2 = g7_not f_X7_added2 f_X7_not3 := rfl
theorem e7_both2 : f_X7_both2 = g7_both f_X7_not2 := rfl
theorem e7_either2 : f_X7_either2 = g7_either f_X7_both2 := rfl
theorem e7_term1 : f_X7_term1 = g7_term f_X7_atom1 := rfl
theorem e7_added1 : f_X7_added1 = g7_added f_X7_term1 := rfl
theorem e7_not1 : f_X7_not1 = g7_not f_X7_added1 f_X7_not2 := rfl
theorem e7_both1 : f_X7_both1 = g7_both f_X7_not1 := rfl
theorem e7_either1 : f_X7_either1 = g7_either f_X7_both1 := rfl
theorem e7_term0 : f_X7_term0 = g7_term f_X7_atom0 := rfl
theorem e7_added0 : f_X7_added0 = g7_added f_X7_term0 := rfl
theorem e7_not0 : f_X7_not0 = g7_not f_X7_added0 f_X7_not1 := rfl
theorem e7_both0 : f_X7_both0 = g7_both f_X7_not0 := rfl
theorem e7_either0 : f_X7_either0 = g7_either f_X7_both0 := rfl
