theorem wd817 : Cond.methodLink RX0 3 (⟨"java/lang/Object", "<init>", "()V"⟩ : MethodName) ∈ gw := gw_of (List.mem_append_right _ (List.mem_of_getElem? (i := 148) (by decide +kernel))) (by decide +kernel)
theorem wd818 : Cond.methodLink RX1 3 (⟨"java/lang/Object", "<init>", "()V"⟩ : MethodName) ∈ gw := gw_of (List.mem_append_right _ (List.mem_of_getElem? (i := 87) (by decide +kernel))) (by decide +kernel)
theorem wd819 : Cond.methodLink RX2 3 (⟨"java/lang/Object", "<init>", "()V"⟩ : MethodName) ∈ gw := gw_of (List.mem_append_right _ (List.mem_of_getElem? (i := 29) (by decide +kernel))) (by decide +kernel)
theorem wd820 : Cond.methodLink RX3 3 (⟨"java/lang/Object", "<init>", "()V"⟩ : MethodName) ∈ gw := gw_of (List.mem_append_right _ (List.mem_of_getElem? (i := 166) (by decide +kernel))) (by decide +kernel)
theorem wd821 : Cond.methodLink RX4 3 (⟨"java/lang/Object", "<init>", "()V"⟩ : MethodName) ∈ gw := gw_of (List.mem_append_right _ (List.mem_of_getElem? (i := 125) (by decide +kernel))) (by decide +kernel)
theorem wd822 : Cond.methodLink RX5 3 (⟨"java/lang/Object", "<init>", "()V"⟩ : MethodName) ∈ gw := gw_of (List.mem_append_right _ (List.mem_of_getElem? (i := 333) (by decide +kernel))) (by decide +kernel)
set_option maxRecDepth 100000 in
set_option maxHeartbeats 4000000 in
theorem t_X0_init {x : VX} {a0 : Nat} (X : Cx x cX0_init RX0 1) (hN : vxn x = 1) (hRm : vxR x = rmD 1 0 0) (hin : (vxh x).name = "<init>") (hR : RetV x cX0_init 0 0 [(a0, .inr (0, [.int (-1), .int 0, .int 0]))]) : V x 0 0 [(a0, .inr (0, [.int 0, .int 0, .int 0]))] [(0, .ref a0)] 0 [] := by
  refine v_aload_n X 0 rfl dX0_init_0 ?_
  refine v_oinit X wd817 (by decide) (Nat.le_of_ble_eq_true rfl) dX0_init_1 ?_
  refine v_aload_n X 0 rfl dX0_init_4 ?_
  refine v_iconst X (v := (-1)) (by decide) dX0_init_5 ?_
  refine v_put X xinX0 tyX0 tyX0_ok nmX0 0 rfl rfl 0 (by decide) wd0 rfl rfl rfl rfl rfl (Nat.le_of_ble_eq_true rfl) (ws' := [(a0, .inr (0, [.int (-1), .int 0, .int 0]))]) rfl dX0_init_6 ?_
  refine v_aload_n X 0 rfl dX0_init_9 ?_
  refine v_iconst X (v := 0) (by decide) dX0_init_10 ?_
  refine v_put X xinX0 tyX0 tyX0_ok nmX0 0 rfl rfl 1 (by decide) wd1 rfl rfl rfl rfl rfl (Nat.le_of_ble_eq_true rfl) (ws' := [(a0, .inr (0, [.int (-1), .int 0, .int 0]))]) rfl dX0_init_11 ?_
  refine v_aload_n X 0 rfl dX0_init_14 ?_
  refine v_iconst X (v := 0) (by decide) dX0_init_15 ?_
  refine v_put X xinX0 tyX0 tyX0_ok nmX0 0 rfl rfl 2 (by decide) wd2 rfl rfl rfl (by decide) rfl (Nat.le_of_ble_eq_true rfl) (ws' := [(a0, .inr (0, [.int (-1), .int 0, .int 0]))]) rfl dX0_init_16 ?_
  exact v_vret (hR) dX0_init_19
set_option maxRecDepth 100000 in
set_option maxHeartbeats 4000000 in
theorem c_X0_init {l : Launch} {D : va_G} {qT : Nat → ClassId} {Z : (Nat → Prop) → State → Heap → Prop} {a0 : Nat} (hZ : ZOK Z) : CJV l D qT Z yX0_init cX0_init 1 none 1 0 0 [.ref a0] [(a0, .inr (0, [.int 0, .int 0, .int 0]))] (fun w => w = [(a0, .inr (0, [.int (-1), .int 0, .int 0]))]) := by
  refine CJV_of hZ (by decide) (Nat.le_of_ble_eq_true rfl) ?_
  intro x e1 e2 e3 e4 e5 e6 hin X hR
  subst e1 e2 e3 e4
  exact t_X0_init X e6 e5 hin (hR _ rfl)
set_option maxRecDepth 100000 in
set_option maxHeartbeats 4000000 in
theorem t_X1_init {x : VX} {a0 : Nat} (X : Cx x cX1_init RX1 1) (hN : vxn x = 1) (hRm : vxR x = rmD 1 2 320) (hin : (vxh x).name = "<init>") (hR : ∀ (q18_1 : Nat) (q49_2 : Nat), RetV x cX1_init 2 320 [(a0, .inr (1, [.int 0, .int (-1), .ref q18_1, .int 0, .int 256, .int 0, .int 0, .ref q49_2, .int 0])), (q18_1, .inl (vxT x 0, 160, .inl (fun _ => 0))), (q49_2, .inl (vxT x 0, 160, .inl (fun _ => 0)))]) : V x 0 0 [(a0, .inr (1, [.int 0, .int 0, .null, .int 0, .int 0, .int 0, .int 0, .null, .int 0]))] [(0, .ref a0)] 0 [] := by
  refine v_aload_n X 0 rfl dX1_init_0 ?_
  refine v_oinit X wd818 (by decide) (Nat.le_of_ble_eq_true rfl) dX1_init_1 ?_
  refine v_aload_n X 0 rfl dX1_init_4 ?_
  refine v_iconst X (v := 0) (by decide) dX1_init_5 ?_
  refine v_put X xinX1 tyX1 tyX1_ok nmX1 0 rfl rfl 0 (by decide) wd93 rfl rfl rfl rfl rfl (Nat.le_of_ble_eq_true rfl) (ws' := [(a0, .inr (1, [.int 0, .int 0, .null, .int 0, .int 0, .int 0, .int 0, .null, .int 0]))]) rfl dX1_init_6 ?_
  refine v_aload_n X 0 rfl dX1_init_9 ?_
  refine v_iconst X (v := (-1)) (by decide) dX1_init_10 ?_
  refine v_put X xinX1 tyX1 tyX1_ok nmX1 0 rfl rfl 1 (by decide) wd96 rfl rfl rfl rfl rfl (Nat.le_of_ble_eq_true rfl) (ws' := [(a0, .inr (1, [.int 0, .int (-1), .null, .int 0, .int 0, .int 0, .int 0, .null, .int 0]))]) rfl dX1_init_11 ?_
  refine v_aload_n X 0 rfl dX1_init_14 ?_
  refine v_sipush X (v := 160) (by decide) dX1_init_15 ?_
  refine v_newi X (N := 160) (by decide) (by decide) (by decide) (by rw [hRm]; decide) (by rw [hRm]; decide) dX1_init_18 (fun q18_1 => ?_)
  refine v_ws (ws' := [(a0, .inr (1, [.int 0, .int (-1), .null, .int 0, .int 0, .int 0, .int 0, .null, .int 0])), (q18_1, .inl (vxT x 0, 160, .inl (fun _ => 0)))]) rfl ?_
  refine v_putF X xinX1 tyX1 tyX1_ok nmX1 hin 0 rfl rfl 2 (by decide) wd94 rfl rfl rfl rfl rfl rfl (Nat.le_of_ble_eq_true rfl) (ws' := [(a0, .inr (1, [.int 0, .int (-1), .ref q18_1, .int 0, .int 0, .int 0, .int 0, .null, .int 0])), (q18_1, .inl (vxT x 0, 160, .inl (fun _ => 0)))]) rfl dX1_init_20 ?_
  refine v_aload_n X 0 rfl dX1_init_23 ?_
  refine v_iconst X (v := 0) (by decide) dX1_init_24 ?_
  refine v_put X xinX1 tyX1 tyX1_ok nmX1 0 rfl rfl 3 (by decide) wd101 rfl rfl rfl rfl rfl (Nat.le_of_ble_eq_true rfl) (ws' := [(a0, .inr (1, [.int 0, .int (-1), .ref q18_1, .int 0, .int 0, .int 0, .int 0, .null, .int 0])), (q18_1, .inl (vxT x 0, 160, .inl (fun _ => 0)))]) rfl dX1_init_25 ?_
  refine v_aload_n X 0 rfl dX1_init_28 ?_
  refine v_sipush X (v := 256) (by decide) dX1_init_29 ?_
  refine v_put X xinX1 tyX1 tyX1_ok nmX1 0 rfl rfl 4 (by decide) wd99 rfl rfl rfl rfl rfl (Nat.le_of_ble_eq_true rfl) (ws' := [(a0, .inr (1, [.int 0, .int (-1), .ref q18_1, .int 0, .int 256, .int 0, .int 0, .null, .int 0])), (q18_1, .inl (vxT x 0, 160, .inl (fun _ => 0)))]) rfl dX1_init_32 ?_
  refine v_aload_n X 0 rfl dX1_init_35 ?_
  refine v_iconst X (v := 0) (by decide) dX1_init_36 ?_
  refine v_put X xinX1 tyX1 tyX1_ok nmX1 0 rfl rfl 5 (by decide) wd95 rfl rfl rfl rfl rfl (Nat.le_of_ble_eq_true rfl) (ws' := [(a0, .inr (1, [.int 0, .int (-1), .ref q18_1, .int 0, .int 256, .int 0, .int 0, .null, .int 0])), (q18_1, .inl (vxT x 0, 160, .inl (fun _ => 0)))]) rfl dX1_init_37 ?_
  refine v_aload_n X 0 rfl dX1_init_40 ?_
  refine v_iconst X (v := 0) (by decide) dX1_init_41 ?_
  refine v_put X xinX1 tyX1 tyX1_ok nmX1 0 rfl rfl 6 (by decide) wd100 rfl rfl rfl rfl rfl (Nat.le_of_ble_eq_true rfl) (ws' := [(a0, .inr (1, [.int 0, .int (-1), .ref q18_1, .int 0, .int 256, .int 0, .int 0, .null, .int 0])), (q18_1, .inl (vxT x 0, 160, .inl (fun _ => 0)))]) rfl dX1_init_42 ?_
  refine v_aload_n X 0 rfl dX1_init_45 ?_
  refine v_sipush X (v := 160) (by decide) dX1_init_46 ?_
  refine v_newi X (N := 160) (by decide) (by decide) (by decide) (by rw [hRm]; decide) (by rw [hRm]; decide) dX1_init_49 (fun q49_2 => ?_)
  refine v_ws (ws' := [(a0, .inr (1, [.int 0, .int (-1), .ref q18_1, .int 0, .int 256, .int 0, .int 0, .null, .int 0])), (q18_1, .inl (vxT x 0, 160, .inl (fun _ => 0))), (q49_2, .inl (vxT x 0, 160, .inl (fun _ => 0)))]) rfl ?_
  refine v_putF X xinX1 tyX1 tyX1_ok nmX1 hin 0 rfl rfl 7 (by decide) wd98 rfl rfl rfl rfl rfl rfl (Nat.le_of_ble_eq_true rfl) (ws' := [(a0, .inr (1, [.int 0, .int (-1), .ref q18_1, .int 0, .int 256, .int 0, .int 0, .ref q49_2, .int 0])), (q18_1, .inl (vxT x 0, 160, .inl (fun _ => 0))), (q49_2, .inl (vxT x 0, 160, .inl (fun _ => 0)))]) rfl dX1_init_51 ?_
  refine v_aload_n X 0 rfl dX1_init_54 ?_
  refine v_iconst X (v := 0) (by decide) dX1_init_55 ?_
  refine v_put X xinX1 tyX1 tyX1_ok nmX1 0 rfl rfl 8 (by decide) wd97 rfl rfl rfl rfl rfl (Nat.le_of_ble_eq_true rfl) (ws' := [(a0, .inr (1, [.int 0, .int (-1), .ref q18_1, .int 0, .int 256, .int 0, .int 0, .ref q49_2, .int 0])), (q18_1, .inl (vxT x 0, 160, .inl (fun _ => 0))), (q49_2, .inl (vxT x 0, 160, .inl (fun _ => 0)))]) rfl dX1_init_56 ?_
  exact v_vret (hR _ _) dX1_init_59
set_option maxRecDepth 100000 in
set_option maxHeartbeats 4000000 in
theorem c_X1_init {l : Launch} {D : va_G} {qT : Nat → ClassId} {Z : (Nat → Prop) → State → Heap → Prop} {a0 : Nat} (hZ : ZOK Z) : CJV l D qT Z yX1_init cX1_init 1 none 1 2 320 [.ref a0] [(a0, .inr (1, [.int 0, .int 0, .null, .int 0, .int 0, .int 0, .int 0, .null, .int 0]))] (fun w => ∃ (q18_1 : Nat) (q49_2 : Nat), w = [(a0, .inr (1, [.int 0, .int (-1), .ref q18_1, .int 0, .int 256, .int 0, .int 0, .ref q49_2, .int 0])), (q18_1, .inl (qT 0, 160, .inl (fun _ => 0))), (q49_2, .inl (qT 0, 160, .inl (fun _ => 0)))]) := by
  refine CJV_of hZ (by decide) (Nat.le_of_ble_eq_true rfl) ?_
  intro x e1 e2 e3 e4 e5 e6 hin X hR
  subst e1 e2 e3 e4
  exact t_X1_init X e6 e5 hin (fun q18_1 q49_2 => hR _ ⟨q18_1, q49_2, rfl⟩)
set_option maxRecDepth 100000 in
set_option maxHeartbeats 4000000 in
theorem t_X2_init {x : VX} {a0 : Nat} (X : Cx x cX2_init RX2 1) (hN : vxn x = 1) (hRm : vxR x = rmD 1 5 30) (hin : (vxh x).name = "<init>") (hR : ∀ (q37_1 : Nat) (q45_2 : Nat) (q53_3 : Nat) (q61_4 : Nat) (q69_5 : Nat), RetV x cX2_init 5 30 [(a0, .inr (2, [.int 0, .int 0, .int 5, .int 0, .int 0, .int 0, .ref q37_1, .ref q45_2, .ref q53_3, .ref q61_4, .ref q69_5])), (q37_1, .inl (vxT x 0, 6, .inl (fun _ => 0))), (q45_2, .inl (vxT x 0, 6, .inl (fun _ => 0))), (q53_3, .inl (vxT x 0, 6, .inl (fun _ => 0))), (q61_4, .inl (vxT x 0, 6, .inl (fun _ => 0))), (q69_5, .inl (vxT x 0, 6, .inl (fun _ => 0)))]) : V x 0 0 [(a0, .inr (2, [.int 0, .int 0, .int 0, .int 0, .int 0, .int 0, .null, .null, .null, .null, .null]))] [(0, .ref a0)] 0 [] := by
  refine v_aload_n X 0 rfl dX2_init_0 ?_
  refine v_oinit X wd819 (by decide) (Nat.le_of_ble_eq_true rfl) dX2_init_1 ?_
  refine v_aload_n X 0 rfl dX2_init_4 ?_
  refine v_iconst X (v := 0) (by decide) dX2_init_5 ?_
  refine v_put X xinX2 tyX2 tyX2_ok nmX2 0 rfl rfl 0 (by decide) wd23 rfl rfl rfl rfl rfl (Nat.le_of_ble_eq_true rfl) (ws' := [(a0, .inr (2, [.int 0, .int 0, .int 0, .int 0, .int 0, .int 0, .null, .null, .null, .null, .null]))]) rfl dX2_init_6 ?_
  refine v_aload_n X 0 rfl dX2_init_9 ?_
  refine v_iconst X (v := 0) (by decide) dX2_init_10 ?_
  refine v_put X xinX2 tyX2 tyX2_ok nmX2 0 rfl rfl 1 (by decide) wd33 rfl rfl rfl rfl rfl (Nat.le_of_ble_eq_true rfl) (ws' := [(a0, .inr (2, [.int 0, .int 0, .int 0, .int 0, .int 0, .int 0, .null, .null, .null, .null, .null]))]) rfl dX2_init_11 ?_
  refine v_aload_n X 0 rfl dX2_init_14 ?_
  refine v_iconst X (v := 5) (by decide) dX2_init_15 ?_
  refine v_put X xinX2 tyX2 tyX2_ok nmX2 0 rfl rfl 2 (by decide) wd34 rfl rfl rfl rfl rfl (Nat.le_of_ble_eq_true rfl) (ws' := [(a0, .inr (2, [.int 0, .int 0, .int 5, .int 0, .int 0, .int 0, .null, .null, .null, .null, .null]))]) rfl dX2_init_16 ?_
  refine v_aload_n X 0 rfl dX2_init_19 ?_
  refine v_iconst X (v := 0) (by decide) dX2_init_20 ?_
  refine v_put X xinX2 tyX2 tyX2_ok nmX2 0 rfl rfl 3 (by decide) wd35 rfl rfl rfl rfl rfl (Nat.le_of_ble_eq_true rfl) (ws' := [(a0, .inr (2, [.int 0, .int 0, .int 5, .int 0, .int 0, .int 0, .null, .null, .null, .null, .null]))]) rfl dX2_init_21 ?_
  refine v_aload_n X 0 rfl dX2_init_24 ?_
  refine v_iconst X (v := 0) (by decide) dX2_init_25 ?_
  refine v_put X xinX2 tyX2 tyX2_ok nmX2 0 rfl rfl 4 (by decide) wd44 rfl rfl rfl rfl rfl (Nat.le_of_ble_eq_true rfl) (ws' := [(a0, .inr (2, [.int 0, .int 0, .int 5, .int 0, .int 0, .int 0, .null, .null, .null, .null, .null]))]) rfl dX2_init_26 ?_
  refine v_aload_n X 0 rfl dX2_init_29 ?_
  refine v_iconst X (v := 0) (by decide) dX2_init_30 ?_
  refine v_put X xinX2 tyX2 tyX2_ok nmX2 0 rfl rfl 5 (by decide) wd5 rfl rfl rfl rfl rfl (Nat.le_of_ble_eq_true rfl) (ws' := [(a0, .inr (2, [.int 0, .int 0, .int 5, .int 0, .int 0, .int 0, .null, .null, .null, .null, .null]))]) rfl dX2_init_31 ?_
  refine v_aload_n X 0 rfl dX2_init_34 ?_
  refine v_bipush X (v := 6) (by decide) dX2_init_35 ?_
  refine v_newi X (N := 6) (by decide) (by decide) (by decide) (by rw [hRm]; decide) (by rw [hRm]; decide) dX2_init_37 (fun q37_1 => ?_)
  refine v_ws (ws' := [(a0, .inr (2, [.int 0, .int 0, .int 5, .int 0, .int 0, .int 0, .null, .null, .null, .null, .null])), (q37_1, .inl (vxT x 0, 6, .inl (fun _ => 0)))]) rfl ?_
  refine v_putF X xinX2 tyX2 tyX2_ok nmX2 hin 0 rfl rfl 6 (by decide) wd6 rfl rfl rfl rfl rfl rfl (Nat.le_of_ble_eq_true rfl) (ws' := [(a0, .inr (2, [.int 0, .int 0, .int 5, .int 0, .int 0, .int 0, .ref q37_1, .null, .null, .null, .null])), (q37_1, .inl (vxT x 0, 6, .inl (fun _ => 0)))]) rfl dX2_init_39 ?_
  refine v_aload_n X 0 rfl dX2_init_42 ?_
  refine v_bipush X (v := 6) (by decide) dX2_init_43 ?_
  refine v_newi X (N := 6) (by decide) (by decide) (by decide) (by rw [hRm]; decide) (by rw [hRm]; decide) dX2_init_45 (fun q45_2 => ?_)
  refine v_ws (ws' := [(a0, .inr (2, [.int 0, .int 0, .int 5, .int 0, .int 0, .int 0, .ref q37_1, .null, .null, .null, .null])), (q37_1, .inl (vxT x 0, 6, .inl (fun _ => 0))), (q45_2, .inl (vxT x 0, 6, .inl (fun _ => 0)))]) rfl ?_
  refine v_putF X xinX2 tyX2 tyX2_ok nmX2 hin 0 rfl rfl 7 (by decide) wd7 rfl rfl rfl rfl rfl rfl (Nat.le_of_ble_eq_true rfl) (ws' := [(a0, .inr (2, [.int 0, .int 0, .int 5, .int 0, .int 0, .int 0, .ref q37_1, .ref q45_2, .null, .null, .null])), (q37_1, .inl (vxT x 0, 6, .inl (fun _ => 0))), (q45_2, .inl (vxT x 0, 6, .inl (fun _ => 0)))]) rfl dX2_init_47 ?_
  refine v_aload_n X 0 rfl dX2_init_50 ?_
  refine v_bipush X (v := 6) (by decide) dX2_init_51 ?_
  refine v_newi X (N := 6) (by decide) (by decide) (by decide) (by rw [hRm]; decide) (by rw [hRm]; decide) dX2_init_53 (fun q53_3 => ?_)
  refine v_ws (ws' := [(a0, .inr (2, [.int 0, .int 0, .int 5, .int 0, .int 0, .int 0, .ref q37_1, .ref q45_2, .null, .null, .null])), (q37_1, .inl (vxT x 0, 6, .inl (fun _ => 0))), (q45_2, .inl (vxT x 0, 6, .inl (fun _ => 0))), (q53_3, .inl (vxT x 0, 6, .inl (fun _ => 0)))]) rfl ?_
  refine v_putF X xinX2 tyX2 tyX2_ok nmX2 hin 0 rfl rfl 8 (by decide) wd8 rfl rfl rfl rfl rfl rfl (Nat.le_of_ble_eq_true rfl) (ws' := [(a0, .inr (2, [.int 0, .int 0, .int 5, .int 0, .int 0, .int 0, .ref q37_1, .ref q45_2, .ref q53_3, .null, .null])), (q37_1, .inl (vxT x 0, 6, .inl (fun _ => 0))), (q45_2, .inl (vxT x 0, 6, .inl (fun _ => 0))), (q53_3, .inl (vxT x 0, 6, .inl (fun _ => 0)))]) rfl dX2_init_55 ?_
  refine v_aload_n X 0 rfl dX2_init_58 ?_
  refine v_bipush X (v := 6) (by decide) dX2_init_59 ?_
  refine v_newi X (N := 6) (by decide) (by decide) (by decide) (by rw [hRm]; decide) (by rw [hRm]; decide) dX2_init_61 (fun q61_4 => ?_)
  refine v_ws (ws' := [(a0, .inr (2, [.int 0, .int 0, .int 5, .int 0, .int 0, .int 0, .ref q37_1, .ref q45_2, .ref q53_3, .null, .null])), (q37_1, .inl (vxT x 0, 6, .inl (fun _ => 0))), (q45_2, .inl (vxT x 0, 6, .inl (fun _ => 0))), (q53_3, .inl (vxT x 0, 6, .inl (fun _ => 0))), (q61_4, .inl (vxT x 0, 6, .inl (fun _ => 0)))]) rfl ?_
  refine v_putF X xinX2 tyX2 tyX2_ok nmX2 hin 0 rfl rfl 9 (by decide) wd9 rfl rfl rfl rfl rfl rfl (Nat.le_of_ble_eq_true rfl) (ws' := [(a0, .inr (2, [.int 0, .int 0, .int 5, .int 0, .int 0, .int 0, .ref q37_1, .ref q45_2, .ref q53_3, .ref q61_4, .null])), (q37_1, .inl (vxT x 0, 6, .inl (fun _ => 0))), (q45_2, .inl (vxT x 0, 6, .inl (fun _ => 0))), (q53_3, .inl (vxT x 0, 6, .inl (fun _ => 0))), (q61_4, .inl (vxT x 0, 6, .inl (fun _ => 0)))]) rfl dX2_init_63 ?_
  refine v_aload_n X 0 rfl dX2_init_66 ?_
  refine v_bipush X (v := 6) (by decide) dX2_init_67 ?_
  refine v_newi X (N := 6) (by decide) (by decide) (by decide) (by rw [hRm]; decide) (by rw [hRm]; decide) dX2_init_69 (fun q69_5 => ?_)
  refine v_ws (ws' := [(a0, .inr (2, [.int 0, .int 0, .int 5, .int 0, .int 0, .int 0, .ref q37_1, .ref q45_2, .ref q53_3, .ref q61_4, .null])), (q37_1, .inl (vxT x 0, 6, .inl (fun _ => 0))), (q45_2, .inl (vxT x 0, 6, .inl (fun _ => 0))), (q53_3, .inl (vxT x 0, 6, .inl (fun _ => 0))), (q61_4, .inl (vxT x 0, 6, .inl (fun _ => 0))), (q69_5, .inl (vxT x 0, 6, .inl (fun _ => 0)))]) rfl ?_
  refine v_putF X xinX2 tyX2 tyX2_ok nmX2 hin 0 rfl rfl 10 (by decide) wd10 rfl rfl rfl rfl rfl rfl (Nat.le_of_ble_eq_true rfl) (ws' := [(a0, .inr (2, [.int 0, .int 0, .int 5, .int 0, .int 0, .int 0, .ref q37_1, .ref q45_2, .ref q53_3, .ref q61_4, .ref q69_5])), (q37_1, .inl (vxT x 0, 6, .inl (fun _ => 0))), (q45_2, .inl (vxT x 0, 6, .inl (fun _ => 0))), (q53_3, .inl (vxT x 0, 6, .inl (fun _ => 0))), (q61_4, .inl (vxT x 0, 6, .inl (fun _ => 0))), (q69_5, .inl (vxT x 0, 6, .inl (fun _ => 0)))]) rfl dX2_init_71 ?_
  exact v_vret (hR _ _ _ _ _) dX2_init_74
set_option maxRecDepth 100000 in
set_option maxHeartbeats 4000000 in
theorem c_X2_init {l : Launch} {D : va_G} {qT : Nat → ClassId} {Z : (Nat → Prop) → State → Heap → Prop} {a0 : Nat} (hZ : ZOK Z) : CJV l D qT Z yX2_init cX2_init 1 none 1 5 30 [.ref a0] [(a0, .inr (2, [.int 0, .int 0, .int 0, .int 0, .int 0, .int 0, .null, .null, .null, .null, .null]))] (fun w => ∃ (q37_1 : Nat) (q45_2 : Nat) (q53_3 : Nat) (q61_4 : Nat) (q69_5 : Nat), w = [(a0, .inr (2, [.int 0, .int 0, .int 5, .int 0, .int 0, .int 0, .ref q37_1, .ref q45_2, .ref q53_3, .ref q61_4, .ref q69_5])), (q37_1, .inl (qT 0, 6, .inl (fun _ => 0))), (q45_2, .inl (qT 0, 6, .inl (fun _ => 0))), (q53_3, .inl (qT 0, 6, .inl (fun _ => 0))), (q61_4, .inl (qT 0, 6, .inl (fun _ => 0))), (q69_5, .inl (qT 0, 6, .inl (fun _ => 0)))]) := by
  refine CJV_of hZ (by decide) (Nat.le_of_ble_eq_true rfl) ?_
  intro x e1 e2 e3 e4 e5 e6 hin X hR
  subst e1 e2 e3 e4
  exact t_X2_init X e6 e5 hin (fun q37_1 q45_2 q53_3 q61_4 q69_5 => hR _ ⟨q37_1, q45_2, q53_3, q61_4, q69_5, rfl⟩)
set_option maxRecDepth 100000 in
set_option maxHeartbeats 4000000 in
theorem t_X3_init {x : VX} {a0 : Nat} (X : Cx x cX3_init RX3 1) (hN : vxn x = 1) (hRm : vxR x = rmD 1 1 40) (hin : (vxh x).name = "<init>") (hR : ∀ (q17_1 : Nat), RetV x cX3_init 1 40 [(a0, .inr (3, [.int (-1), .int 0, .ref q17_1])), (q17_1, .inl (vxT x 0, 40, .inl (fun _ => 0)))]) : V x 0 0 [(a0, .inr (3, [.int 0, .int 0, .null]))] [(0, .ref a0)] 0 [] := by
  refine v_aload_n X 0 rfl dX3_init_0 ?_
  refine v_oinit X wd820 (by decide) (Nat.le_of_ble_eq_true rfl) dX3_init_1 ?_
  refine v_aload_n X 0 rfl dX3_init_4 ?_
  refine v_iconst X (v := (-1)) (by decide) dX3_init_5 ?_
  refine v_put X xinX3 tyX3 tyX3_ok nmX3 0 rfl rfl 0 (by decide) wd46 rfl rfl rfl rfl rfl (Nat.le_of_ble_eq_true rfl) (ws' := [(a0, .inr (3, [.int (-1), .int 0, .null]))]) rfl dX3_init_6 ?_
  refine v_aload_n X 0 rfl dX3_init_9 ?_
  refine v_iconst X (v := 0) (by decide) dX3_init_10 ?_
  refine v_put X xinX3 tyX3 tyX3_ok nmX3 0 rfl rfl 1 (by decide) wd47 rfl rfl rfl rfl rfl (Nat.le_of_ble_eq_true rfl) (ws' := [(a0, .inr (3, [.int (-1), .int 0, .null]))]) rfl dX3_init_11 ?_
  refine v_aload_n X 0 rfl dX3_init_14 ?_
  refine v_bipush X (v := 40) (by decide) dX3_init_15 ?_
  refine v_newi X (N := 40) (by decide) (by decide) (by decide) (by rw [hRm]; decide) (by rw [hRm]; decide) dX3_init_17 (fun q17_1 => ?_)
  refine v_ws (ws' := [(a0, .inr (3, [.int (-1), .int 0, .null])), (q17_1, .inl (vxT x 0, 40, .inl (fun _ => 0)))]) rfl ?_
  refine v_putF X xinX3 tyX3 tyX3_ok nmX3 hin 0 rfl rfl 2 (by decide) wd48 rfl rfl rfl rfl rfl rfl (Nat.le_of_ble_eq_true rfl) (ws' := [(a0, .inr (3, [.int (-1), .int 0, .ref q17_1])), (q17_1, .inl (vxT x 0, 40, .inl (fun _ => 0)))]) rfl dX3_init_19 ?_
  exact v_vret (hR _) dX3_init_22
set_option maxRecDepth 100000 in
set_option maxHeartbeats 4000000 in
theorem c_X3_init {l : Launch} {D : va_G} {qT : Nat → ClassId} {Z : (Nat → Prop) → State → Heap → Prop} {a0 : Nat} (hZ : ZOK Z) : CJV l D qT Z yX3_init cX3_init 1 none 1 1 40 [.ref a0] [(a0, .inr (3, [.int 0, .int 0, .null]))] (fun w => ∃ (q17_1 : Nat), w = [(a0, .inr (3, [.int (-1), .int 0, .ref q17_1])), (q17_1, .inl (qT 0, 40, .inl (fun _ => 0)))]) := by
  refine CJV_of hZ (by decide) (Nat.le_of_ble_eq_true rfl) ?_
  intro x e1 e2 e3 e4 e5 e6 hin X hR
  subst e1 e2 e3 e4
  exact t_X3_init X e6 e5 hin (fun q17_1 => hR _ ⟨q17_1, rfl⟩)
set_option maxRecDepth 100000 in
set_option maxHeartbeats 4000000 in
theorem t_X4_init {x : VX} {a0 : Nat} (X : Cx x cX4_init RX4 1) (hN : vxn x = 1) (hRm : vxR x = rmD 1 2 46) (hin : (vxh x).name = "<init>") (hR : ∀ (q7_1 : Nat) (q15_2 : Nat), RetV x cX4_init 2 46 [(a0, .inr (4, [.ref q7_1, .ref q15_2, .int 0, .int 0, .int 0])), (q7_1, .inl (vxT x 0, 6, .inl (fun _ => 0))), (q15_2, .inl (vxT x 0, 40, .inl (fun _ => 0)))]) : V x 0 0 [(a0, .inr (4, [.null, .null, .int 0, .int 0, .int 0]))] [(0, .ref a0)] 0 [] := by
  refine v_aload_n X 0 rfl dX4_init_0 ?_
  refine v_oinit X wd821 (by decide) (Nat.le_of_ble_eq_true rfl) dX4_init_1 ?_
  refine v_aload_n X 0 rfl dX4_init_4 ?_
  refine v_bipush X (v := 6) (by decide) dX4_init_5 ?_
  refine v_newi X (N := 6) (by decide) (by decide) (by decide) (by rw [hRm]; decide) (by rw [hRm]; decide) dX4_init_7 (fun q7_1 => ?_)
  refine v_ws (ws' := [(a0, .inr (4, [.null, .null, .int 0, .int 0, .int 0])), (q7_1, .inl (vxT x 0, 6, .inl (fun _ => 0)))]) rfl ?_
  refine v_putF X xinX4 tyX4 tyX4_ok nmX4 hin 0 rfl rfl 0 (by decide) wd64 rfl rfl rfl rfl rfl rfl (Nat.le_of_ble_eq_true rfl) (ws' := [(a0, .inr (4, [.ref q7_1, .null, .int 0, .int 0, .int 0])), (q7_1, .inl (vxT x 0, 6, .inl (fun _ => 0)))]) rfl dX4_init_9 ?_
  refine v_aload_n X 0 rfl dX4_init_12 ?_
  refine v_bipush X (v := 40) (by decide) dX4_init_13 ?_
  refine v_newi X (N := 40) (by decide) (by decide) (by decide) (by rw [hRm]; decide) (by rw [hRm]; decide) dX4_init_15 (fun q15_2 => ?_)
  refine v_ws (ws' := [(a0, .inr (4, [.ref q7_1, .null, .int 0, .int 0, .int 0])), (q7_1, .inl (vxT x 0, 6, .inl (fun _ => 0))), (q15_2, .inl (vxT x 0, 40, .inl (fun _ => 0)))]) rfl ?_
  refine v_putF X xinX4 tyX4 tyX4_ok nmX4 hin 0 rfl rfl 1 (by decide) wd525 rfl rfl rfl rfl rfl rfl (Nat.le_of_ble_eq_true rfl) (ws' := [(a0, .inr (4, [.ref q7_1, .ref q15_2, .int 0, .int 0, .int 0])), (q7_1, .inl (vxT x 0, 6, .inl (fun _ => 0))), (q15_2, .inl (vxT x 0, 40, .inl (fun _ => 0)))]) rfl dX4_init_17 ?_
  refine v_aload_n X 0 rfl dX4_init_20 ?_
  refine v_iconst X (v := 0) (by decide) dX4_init_21 ?_
  refine v_put X xinX4 tyX4 tyX4_ok nmX4 0 rfl rfl 2 (by decide) wd65 rfl rfl rfl rfl rfl (Nat.le_of_ble_eq_true rfl) (ws' := [(a0, .inr (4, [.ref q7_1, .ref q15_2, .int 0, .int 0, .int 0])), (q7_1, .inl (vxT x 0, 6, .inl (fun _ => 0))), (q15_2, .inl (vxT x 0, 40, .inl (fun _ => 0)))]) rfl dX4_init_22 ?_
  refine v_aload_n X 0 rfl dX4_init_25 ?_
  refine v_iconst X (v := 0) (by decide) dX4_init_26 ?_
  refine v_put X xinX4 tyX4 tyX4_ok nmX4 0 rfl rfl 3 (by decide) wd79 rfl rfl rfl rfl rfl (Nat.le_of_ble_eq_true rfl) (ws' := [(a0, .inr (4, [.ref q7_1, .ref q15_2, .int 0, .int 0, .int 0])), (q7_1, .inl (vxT x 0, 6, .inl (fun _ => 0))), (q15_2, .inl (vxT x 0, 40, .inl (fun _ => 0)))]) rfl dX4_init_27 ?_
  refine v_aload_n X 0 rfl dX4_init_30 ?_
  refine v_iconst X (v := 0) (by decide) dX4_init_31 ?_
  refine v_put X xinX4 tyX4 tyX4_ok nmX4 0 rfl rfl 4 (by decide) wd88 rfl rfl rfl rfl rfl (Nat.le_of_ble_eq_true rfl) (ws' := [(a0, .inr (4, [.ref q7_1, .ref q15_2, .int 0, .int 0, .int 0])), (q7_1, .inl (vxT x 0, 6, .inl (fun _ => 0))), (q15_2, .inl (vxT x 0, 40, .inl (fun _ => 0)))]) rfl dX4_init_32 ?_
  exact v_vret (hR _ _) dX4_init_35
set_option maxRecDepth 100000 in
set_option maxHeartbeats 4000000 in
theorem c_X4_init {l : Launch} {D : va_G} {qT : Nat → ClassId} {Z : (Nat → Prop) → State → Heap → Prop} {a0 : Nat} (hZ : ZOK Z) : CJV l D qT Z yX4_init cX4_init 1 none 1 2 46 [.ref a0] [(a0, .inr (4, [.null, .null, .int 0, .int 0, .int 0]))] (fun w => ∃ (q7_1 : Nat) (q15_2 : Nat), w = [(a0, .inr (4, [.ref q7_1, .ref q15_2, .int 0, .int 0, .int 0])), (q7_1, .inl (qT 0, 6, .inl (fun _ => 0))), (q15_2, .inl (qT 0, 40, .inl (fun _ => 0)))]) := by
  refine CJV_of hZ (by decide) (Nat.le_of_ble_eq_true rfl) ?_
  intro x e1 e2 e3 e4 e5 e6 hin X hR
  subst e1 e2 e3 e4
  exact t_X4_init X e6 e5 hin (fun q7_1 q15_2 => hR _ ⟨q7_1, q15_2, rfl⟩)
set_option maxRecDepth 100000 in
set_option maxHeartbeats 4000000 in
theorem t_X5_init {x : VX} {a0 a_p1 a_p2 : Nat} (X : Cx x cX5_init RX5 1) (hN : vxn x = 3) (hRm : vxR x = rmD 1 0 0) (hin : (vxh x).name = "<init>") (hR : RetV x cX5_init 0 0 [(a0, .inr (5, [.ref a_p1, .ref a_p2]))]) : V x 0 0 [(a0, .inr (5, [.null, .null]))] [(0, .ref a0), (1, .ref a_p1), (2, .ref a_p2)] 0 [] := by
  refine v_aload_n X 0 rfl dX5_init_0 ?_
  refine v_oinit X wd822 (by decide) (Nat.le_of_ble_eq_true rfl) dX5_init_1 ?_
  refine v_aload_n X 0 rfl dX5_init_4 ?_
  refine v_aload_n X 1 rfl dX5_init_5 ?_
  refine v_putF X xinX5 tyX5 tyX5_ok nmX5 hin 0 rfl rfl 0 (by decide) wd54 rfl rfl rfl rfl rfl rfl (Nat.le_of_ble_eq_true rfl) (ws' := [(a0, .inr (5, [.ref a_p1, .null]))]) rfl dX5_init_6 ?_
  refine v_aload_n X 0 rfl dX5_init_9 ?_
  refine v_aload_n X 2 rfl dX5_init_10 ?_
  refine v_putF X xinX5 tyX5 tyX5_ok nmX5 hin 0 rfl rfl 1 (by decide) wd53 rfl rfl rfl rfl rfl rfl (Nat.le_of_ble_eq_true rfl) (ws' := [(a0, .inr (5, [.ref a_p1, .ref a_p2]))]) rfl dX5_init_11 ?_
  exact v_vret (hR) dX5_init_14
set_option maxRecDepth 100000 in
set_option maxHeartbeats 4000000 in
theorem c_X5_init {l : Launch} {D : va_G} {qT : Nat → ClassId} {Z : (Nat → Prop) → State → Heap → Prop} {a0 a_p1 a_p2 : Nat} (hZ : ZOK Z) : CJV l D qT Z yX5_init cX5_init 3 none 1 0 0 [.ref a0, .ref a_p1, .ref a_p2] [(a0, .inr (5, [.null, .null]))] (fun w => w = [(a0, .inr (5, [.ref a_p1, .ref a_p2]))]) := by
  refine CJV_of hZ (by decide) (Nat.le_of_ble_eq_true rfl) ?_
  intro x e1 e2 e3 e4 e5 e6 hin X hR
  subst e1 e2 e3 e4
  exact t_X5_init X e6 e5 hin (hR _ rfl)
