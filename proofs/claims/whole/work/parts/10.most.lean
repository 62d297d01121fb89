theorem xinX0 : ∀ w ∈ u_ws RX0 TX0 3, w ∈ gw := by
  have h : (u_ws RX0 TX0 3).all (fun w => decide (w ∈ lw_tbl) && goodWord w) = true := by decide +kernel
  intro w hw
  have h1 := List.all_eq_true.mp h w hw
  simp only [Bool.and_eq_true, decide_eq_true_eq] at h1
  exact gw_of h1.1 h1.2
theorem wd0 : Cond.fieldLink RX0 9 RX0 "at" "I" ∈ gw := gw_of (List.mem_append_right _ (List.mem_of_getElem? (i := 149) (by decide +kernel))) (by decide +kernel)
theorem wd1 : Cond.fieldLink RX0 15 RX0 "value" "I" ∈ gw := gw_of (List.mem_append_right _ (List.mem_of_getElem? (i := 151) (by decide +kernel))) (by decide +kernel)
theorem wd2 : Cond.fieldLink RX0 18 RX0 "isOffered" "Z" ∈ gw := gw_of (List.mem_append_right _ (List.mem_of_getElem? (i := 152) (by decide +kernel))) (by decide +kernel)
def f_X0_clear : Option (Int32 × Int32 × Int32) :=
  some ((-1), 0, 0)
set_option maxRecDepth 100000 in
set_option maxHeartbeats 4000000 in
theorem t_X0_clear {x : VX} {r : Int32 × Int32 × Int32} {a0 : Nat} {s_at : Int32} {s_value : Int32} {s_isOffered : Int32} (X : Cx x cX0_clear RX0 1) (hN : vxn x = 1) (hR : RetV x cX0_clear 0 0 [(a0, .inr (0, [.int r.1, .int r.2.1, .int r.2.2]))]) (hf : f_X0_clear  = some r) : V x 0 0 [(a0, .inr (0, [.int s_at, .int s_value, .int s_isOffered]))] [(0, .ref a0)] 0 [] := by
  unfold f_X0_clear at hf
  refine v_aload_n X 0 rfl dX0_clear_0 ?_
  refine v_iconst X (v := (-1)) (by decide) dX0_clear_1 ?_
  refine v_put X xinX0 tyX0 tyX0_ok nmX0 0 rfl rfl 0 (by decide) wd0 rfl rfl rfl rfl rfl (Nat.le_of_ble_eq_true rfl) (ws' := [(a0, .inr (0, [.int (-1), .int s_value, .int s_isOffered]))]) rfl dX0_clear_2 ?_
  refine v_aload_n X 0 rfl dX0_clear_5 ?_
  refine v_iconst X (v := 0) (by decide) dX0_clear_6 ?_
  refine v_put X xinX0 tyX0 tyX0_ok nmX0 0 rfl rfl 1 (by decide) wd1 rfl rfl rfl rfl rfl (Nat.le_of_ble_eq_true rfl) (ws' := [(a0, .inr (0, [.int (-1), .int 0, .int s_isOffered]))]) rfl dX0_clear_7 ?_
  refine v_aload_n X 0 rfl dX0_clear_10 ?_
  refine v_iconst X (v := 0) (by decide) dX0_clear_11 ?_
  refine v_put X xinX0 tyX0 tyX0_ok nmX0 0 rfl rfl 2 (by decide) wd2 rfl rfl rfl (by decide) rfl (Nat.le_of_ble_eq_true rfl) (ws' := [(a0, .inr (0, [.int (-1), .int 0, .int 0]))]) rfl dX0_clear_12 ?_
  obtain rfl := Option.some.inj hf
  exact v_vret hR dX0_clear_15
set_option maxRecDepth 100000 in
set_option maxHeartbeats 4000000 in
theorem c_X0_clear {l : Launch} {D : va_G} {qT : Nat → ClassId} {Z : (Nat → Prop) → State → Heap → Prop} {r : Int32 × Int32 × Int32} {a0 : Nat} {s_at : Int32} {s_value : Int32} {s_isOffered : Int32} (hZ : ZOK Z) (hf : f_X0_clear  = some r) :
    CV l D qT Z yX0_clear cX0_clear 1 none 1 0 0 [.ref a0] [(a0, .inr (0, [.int s_at, .int s_value, .int s_isOffered]))] [(a0, .inr (0, [.int r.1, .int r.2.1, .int r.2.2]))] := by
  refine CV_of hZ (by decide) (Nat.le_of_ble_eq_true rfl) ?_
  intro x e1 e2 e3 e4 e5 e6 hin X hR
  subst e1 e2 e3 e4
  exact t_X0_clear X e6 hR hf
def f_X0_offer (l1 : Int32) (l2 : Int32) (s_at : Int32) (s_value : Int32) (s_isOffered : Int32) : Option (Int32 × Int32 × Int32) :=
  if s_isOffered = 0 then (
  some (l1, l2, 1)) else (
  if l2 ≤ s_value then (
  some (s_at, s_value, s_isOffered)) else (
  some (l1, l2, 1)))
set_option maxRecDepth 100000 in
set_option maxHeartbeats 4000000 in
theorem t_X0_offer {x : VX} {r : Int32 × Int32 × Int32} {a0 : Nat} {s_at : Int32} {s_value : Int32} {s_isOffered : Int32} {l1 : Int32} {l2 : Int32} (X : Cx x cX0_offer RX0 1) (hN : vxn x = 3) (hR : RetV x cX0_offer 0 0 [(a0, .inr (0, [.int r.1, .int r.2.1, .int r.2.2]))]) (hf : f_X0_offer l1 l2 s_at s_value s_isOffered = some r) : V x 0 0 [(a0, .inr (0, [.int s_at, .int s_value, .int s_isOffered]))] [(0, .ref a0), (1, .int l1), (2, .int l2)] 0 [] := by
  unfold f_X0_offer at hf
  refine v_aload_n X 0 rfl dX0_offer_0 ?_
  refine v_get X xinX0 0 rfl rfl 2 (by decide) wd2 rfl rfl dX0_offer_1 ?_
  refine v_if_eq X (tgt := 15) hf (by decide) dX0_offer_4 (fun c4 hf => ?_) (fun c4 hf => ?_)
  · refine v_aload_n X 0 rfl dX0_offer_15 ?_
    refine v_iload_n X 1 rfl dX0_offer_16 ?_
    refine v_put X xinX0 tyX0 tyX0_ok nmX0 0 rfl rfl 0 (by decide) wd0 rfl rfl rfl rfl rfl (Nat.le_of_ble_eq_true rfl) (ws' := [(a0, .inr (0, [.int l1, .int s_value, .int s_isOffered]))]) rfl dX0_offer_17 ?_
    refine v_aload_n X 0 rfl dX0_offer_20 ?_
    refine v_iload_n X 2 rfl dX0_offer_21 ?_
    refine v_put X xinX0 tyX0 tyX0_ok nmX0 0 rfl rfl 1 (by decide) wd1 rfl rfl rfl rfl rfl (Nat.le_of_ble_eq_true rfl) (ws' := [(a0, .inr (0, [.int l1, .int l2, .int s_isOffered]))]) rfl dX0_offer_22 ?_
    refine v_aload_n X 0 rfl dX0_offer_25 ?_
    refine v_iconst X (v := 1) (by decide) dX0_offer_26 ?_
    refine v_put X xinX0 tyX0 tyX0_ok nmX0 0 rfl rfl 2 (by decide) wd2 rfl rfl rfl (by decide) rfl (Nat.le_of_ble_eq_true rfl) (ws' := [(a0, .inr (0, [.int l1, .int l2, .int 1]))]) rfl dX0_offer_27 ?_
    obtain rfl := Option.some.inj hf
    exact v_vret hR dX0_offer_30
  · refine v_iload_n X 2 rfl dX0_offer_7 ?_
    refine v_aload_n X 0 rfl dX0_offer_8 ?_
    refine v_get X xinX0 0 rfl rfl 1 (by decide) wd1 rfl rfl dX0_offer_9 ?_
    refine v_icmp_le X (tgt := 30) hf (by decide) dX0_offer_12 (fun c12 hf => ?_) (fun c12 hf => ?_)
    · obtain rfl := Option.some.inj hf
      exact v_vret hR dX0_offer_30
    · refine v_aload_n X 0 rfl dX0_offer_15 ?_
      refine v_iload_n X 1 rfl dX0_offer_16 ?_
      refine v_put X xinX0 tyX0 tyX0_ok nmX0 0 rfl rfl 0 (by decide) wd0 rfl rfl rfl rfl rfl (Nat.le_of_ble_eq_true rfl) (ws' := [(a0, .inr (0, [.int l1, .int s_value, .int s_isOffered]))]) rfl dX0_offer_17 ?_
      refine v_aload_n X 0 rfl dX0_offer_20 ?_
      refine v_iload_n X 2 rfl dX0_offer_21 ?_
      refine v_put X xinX0 tyX0 tyX0_ok nmX0 0 rfl rfl 1 (by decide) wd1 rfl rfl rfl rfl rfl (Nat.le_of_ble_eq_true rfl) (ws' := [(a0, .inr (0, [.int l1, .int l2, .int s_isOffered]))]) rfl dX0_offer_22 ?_
      refine v_aload_n X 0 rfl dX0_offer_25 ?_
      refine v_iconst X (v := 1) (by decide) dX0_offer_26 ?_
      refine v_put X xinX0 tyX0 tyX0_ok nmX0 0 rfl rfl 2 (by decide) wd2 rfl rfl rfl (by decide) rfl (Nat.le_of_ble_eq_true rfl) (ws' := [(a0, .inr (0, [.int l1, .int l2, .int 1]))]) rfl dX0_offer_27 ?_
      obtain rfl := Option.some.inj hf
      exact v_vret hR dX0_offer_30
set_option maxRecDepth 100000 in
set_option maxHeartbeats 4000000 in
theorem c_X0_offer {l : Launch} {D : va_G} {qT : Nat → ClassId} {Z : (Nat → Prop) → State → Heap → Prop} {r : Int32 × Int32 × Int32} {a0 : Nat} {s_at : Int32} {s_value : Int32} {s_isOffered : Int32} {l1 : Int32} {l2 : Int32} (hZ : ZOK Z) (hf : f_X0_offer l1 l2 s_at s_value s_isOffered = some r) :
    CV l D qT Z yX0_offer cX0_offer 3 none 1 0 0 [.ref a0, .int l1, .int l2] [(a0, .inr (0, [.int s_at, .int s_value, .int s_isOffered]))] [(a0, .inr (0, [.int r.1, .int r.2.1, .int r.2.2]))] := by
  refine CV_of hZ (by decide) (Nat.le_of_ble_eq_true rfl) ?_
  intro x e1 e2 e3 e4 e5 e6 hin X hR
  subst e1 e2 e3 e4
  exact t_X0_offer X e6 hR hf
def f_X0_atOrValue (l1 : Int32) (s_at : Int32) (s_value : Int32) : Option (Int32) :=
  if (l1 - l1 / 2 * 2) = 0 then (
  some s_at) else (
  some s_value)
set_option maxRecDepth 100000 in
set_option maxHeartbeats 4000000 in
theorem t_X0_atOrValue {x : VX} {r : Int32} {a0 : Nat} {s_at : Int32} {s_value : Int32} {s_isOffered : Int32} {l1 : Int32} (X : Cx x cX0_atOrValue RX0 1) (hN : vxn x = 2) (hR : RetI x cX0_atOrValue 0 0 r [(a0, .inr (0, [.int s_at, .int s_value, .int s_isOffered]))]) (hf : f_X0_atOrValue l1 s_at s_value = some r) : V x 0 0 [(a0, .inr (0, [.int s_at, .int s_value, .int s_isOffered]))] [(0, .ref a0), (1, .int l1)] 0 [] := by
  unfold f_X0_atOrValue at hf
  refine v_iload_n X 1 rfl dX0_atOrValue_0 ?_
  refine v_iconst X (v := 2) (by decide) dX0_atOrValue_1 ?_
  refine v_irem X (by decide) dX0_atOrValue_2 ?_
  refine v_if_ne X (tgt := 13) hf (by decide) dX0_atOrValue_3 (fun c3 hf => ?_) (fun c3 hf => ?_)
  · refine v_aload_n X 0 rfl dX0_atOrValue_13 ?_
    refine v_get X xinX0 0 rfl rfl 1 (by decide) wd1 rfl rfl dX0_atOrValue_14 ?_
    obtain rfl := Option.some.inj hf
    exact v_iret hR dX0_atOrValue_17
  · refine v_aload_n X 0 rfl dX0_atOrValue_6 ?_
    refine v_get X xinX0 0 rfl rfl 0 (by decide) wd0 rfl rfl dX0_atOrValue_7 ?_
    refine v_goto X (tgt := 17) (by decide) dX0_atOrValue_10 ?_
    obtain rfl := Option.some.inj hf
    exact v_iret hR dX0_atOrValue_17
set_option maxRecDepth 100000 in
set_option maxHeartbeats 4000000 in
theorem c_X0_atOrValue {l : Launch} {D : va_G} {qT : Nat → ClassId} {Z : (Nat → Prop) → State → Heap → Prop} {r : Int32} {a0 : Nat} {s_at : Int32} {s_value : Int32} {s_isOffered : Int32} {l1 : Int32} (hZ : ZOK Z) (hf : f_X0_atOrValue l1 s_at s_value = some r) :
    CI l D qT Z yX0_atOrValue cX0_atOrValue 2 (some .int) 1 0 0 [.ref a0, .int l1] [(a0, .inr (0, [.int s_at, .int s_value, .int s_isOffered]))] r [(a0, .inr (0, [.int s_at, .int s_value, .int s_isOffered]))] := by
  refine CI_of hZ (by decide) (Nat.le_of_ble_eq_true rfl) ?_
  intro x e1 e2 e3 e4 e5 e6 hin X hR
  subst e1 e2 e3 e4
  exact t_X0_atOrValue X e6 hR hf
