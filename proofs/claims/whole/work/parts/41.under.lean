theorem wd865 : Cond.fieldLink RX6 314 RX6 "UNDER" "[I" ∈ gw := gw_of (List.mem_append_right _ (List.mem_of_getElem? (i := 746) (by decide +kernel))) (by decide +kernel)
theorem wd866 : Cond.methodLink RX6 311 yX6_isOrUnder ∈ gw := gw_of (List.mem_append_right _ (List.mem_of_getElem? (i := 743) (by decide +kernel))) (by decide +kernel)
theorem wd867 : Cond.static yX6_isOrUnder ∈ gw := gw_of (List.mem_append_right _ (List.mem_of_getElem? (i := 744) (by decide +kernel))) (by decide +kernel)
theorem wd868 : Cond.code yX6_isOrUnder cX6_isOrUnder 4 (some .boolean) ∈ gw := gw_of (List.mem_append_right _ (List.mem_of_getElem? (i := 745) (by decide +kernel))) (by decide +kernel)
theorem cws_X6_311 : CWs RX6 311 yX6_isOrUnder cX6_isOrUnder 4 (some .boolean) 2 := ⟨wd866, wd867, wd12, wd868, (by decide +kernel), (by decide +kernel), (by decide +kernel), (by decide +kernel)⟩
def und (j : Nat) : Int32 := ([-1, 0, 0, 1, 2, 0] : List Int32).getD j 0
/-- the static row UNDER stands among the constants -/
def UnderK (Z : (Nat → Prop) → State → Heap → Prop) : Prop :=
  ∃ aU : Nat, ∀ (A : Nat → Prop) (U : State) (H : Heap), Z A U H → va_Z RX6 "UNDER" "[I" (.ref aU) A U H ∧ va_T .int aU 6 (fun j => .int (und j)) A U H
section
variable {x : VX} {cc : ByteArray} {own : String} {d0 k n : Nat} {ws : va_W} {lv : List (Nat × Value)} {pc : Nat} {st : List Value} {α : Type} {r : α}
theorem v_getsZ (X : Cx x cc own d0) {C nm ds ref : String} {v : Value} {j : Nat} (hz : ∀ (A : Nat → Prop) (U : State) (H : Heap), vxZ x A U H → va_Z C nm ds v A U H) (hlink : Cond.fieldLink own j ref nm ds ∈ gw) (hs : C = ref) (hd : decode cc pc = .ok (.getstatic j, 3)) (kk : V x k n ws lv (pc + 3) (v :: st)) : V x k n ws lv pc st :=
  fun H locs ls hP hD hS hl => va_gets X.1 X.2.1 (hz _ _ _ X.2.2.2.2.2.2.2.2.1) hS X.2.2.2.1 (X.2.2.2.2.1 _ hlink) (fun _ h9 => by rw [hs] at h9; exact h9) hd (kk H locs ls hP hD hS hl)
theorem v_ti (X : Cx x cc own d0) {a N : Nat} {f : Nat → Int32} (hT : ∀ (A : Nat → Prop) (U : State) (H : Heap), vxZ x A U H → va_T .int a N (fun j => .int (f j)) A U H) {i : Int32} (hi : inb i N = true) (hd : decode cc pc = .ok (.iaload, 1)) (kk : V x k n ws lv (pc + 1) (.int (f i.toNatClampNeg) :: st)) : V x k n ws lv pc (.int i :: .ref a :: st) :=
  fun H locs ls hP hD hS hl => va_ti X.1 X.2.1 (hT _ _ _ X.2.2.2.2.2.2.2.2.1) hS (inb_vp hi) rfl hd (kk H locs ls hP hD hS hl)
end
def f_X6_isOrUnder_4 (l1 : Int32) (kp_4 : Int32 → Int32 → Option (Int32)) (l2 : Int32) (l3 : Int32) : Option (Int32) :=
  if 6 ≤ l3 then (
  some 0) else (
  (f_X6_isKind l2).bind (fun v11_1 =>
  if v11_1 = 0 then (
  some 0) else (
  if l2 = l1 then (
  some 1) else (
  if inb l2 6 = true then (
  kp_4 (und (Int32.toNatClampNeg l2)) (l3 + 1)) else none))))
def f_X6_isOrUnder (l0 : Int32) (l1 : Int32) : Option (Int32) :=
  lq2 (f_X6_isOrUnder_4 l1) 200 l0 0
set_option maxRecDepth 100000 in
set_option maxHeartbeats 4000000 in
theorem t_X6_isOrUnder_4 {x : VX} {r : Int32} {l1 : Int32} (X : Cx x cX6_isOrUnder RX6 2) (hN : vxn x = 4) (hUn : UnderK (vxZ x)) (hR : narrow .boolean (.int r) = .int r → RetI x cX6_isOrUnder 0 0 r []) :
    ∀ (fu : Nat) (l2 : Int32) (l3 : Int32), lq2 (f_X6_isOrUnder_4 l1) fu l2 l3 = some r → V x 0 0 [] [(1, .int l1), (2, .int l2), (3, .int l3)] 4 [] := by
  refine lq2_V (G := fun l2 l3 => V x 0 0 [] [(1, .int l1), (2, .int l2), (3, .int l3)] 4 []) ?_
  intro kp_4 hk_4 l2 l3 hf
  unfold f_X6_isOrUnder_4 at hf
  refine v_iload_n X 2 rfl dX6_isOrUnder_4 ?_
  refine v_bipush X (v := 6) (by decide) dX6_isOrUnder_5 ?_
  refine v_icmp_ge X (tgt := 36) hf (by decide) dX6_isOrUnder_7 (fun c7 hf => ?_) (fun c7 hf => ?_)
  · refine v_iconst X (v := 0) (by decide) dX6_isOrUnder_36 ?_
    obtain rfl := Option.some.inj hf
    exact v_iret (hR nz0) dX6_isOrUnder_37
  · refine v_iload_n X 1 rfl dX6_isOrUnder_10 ?_
    obtain ⟨v11_1, hv11_1, hf⟩ := bd_some hf
    refine v_scallI X (c_X6_isKind X.2.2.2.2.2.2.2.1 hv11_1) cws_X6_107 rfl (by decide) ⟨Nat.zero_le _, Nat.zero_le _⟩ [] [] [] rfl (by decide) (wr := []) rfl (by decide) (by decide) (ws2 := []) rfl (by decide) (Nat.le_of_ble_eq_true rfl) rfl dX6_isOrUnder_11 ?_
    refine v_if_eq X (tgt := 36) hf (by decide) dX6_isOrUnder_14 (fun c14 hf => ?_) (fun c14 hf => ?_)
    · refine v_iconst X (v := 0) (by decide) dX6_isOrUnder_36 ?_
      obtain rfl := Option.some.inj hf
      exact v_iret (hR nz0) dX6_isOrUnder_37
    · refine v_iload_n X 1 rfl dX6_isOrUnder_17 ?_
      refine v_iload_n X 0 rfl dX6_isOrUnder_18 ?_
      refine v_icmp_ne X (tgt := 24) hf (by decide) dX6_isOrUnder_19 (fun c19 hf => ?_) (fun c19 hf => ?_)
      · obtain ⟨aU, hU⟩ := id hUn
        refine v_getsZ X (fun A U H h => (hU A U H h).1) wd865 rfl dX6_isOrUnder_24 ?_
        refine v_iload_n X 1 rfl dX6_isOrUnder_27 ?_
        obtain ⟨hb28, hf⟩ := if_some hf
        refine v_ti X (fun A U H h => (hU A U H h).2) hb28 dX6_isOrUnder_28 ?_
        refine v_istore_n X rfl (by rw [hN]; decide) (lv' := [(2, .int (und (Int32.toNatClampNeg l2))), (1, .int l1), (3, .int l3)]) rfl dX6_isOrUnder_29 ?_
        refine v_iinc X 2 rfl (v := (l3 + 1)) rfl (by rw [hN]; decide) (lv' := [(3, .int (l3 + 1)), (2, .int (und (Int32.toNatClampNeg l2))), (1, .int l1)]) rfl dX6_isOrUnder_30 ?_
        refine v_goto X (tgt := 4) (by decide) dX6_isOrUnder_33 ?_
        refine v_lv [2, 1, 0] rfl ?_
        exact hk_4 _ _ hf
      · refine v_iconst X (v := 1) (by decide) dX6_isOrUnder_22 ?_
        obtain rfl := Option.some.inj hf
        exact v_iret (hR nz1) dX6_isOrUnder_23
set_option maxRecDepth 100000 in
set_option maxHeartbeats 4000000 in
theorem t_X6_isOrUnder {x : VX} {r : Int32} {l0 : Int32} {l1 : Int32} (X : Cx x cX6_isOrUnder RX6 2) (hN : vxn x = 4) (hUn : UnderK (vxZ x)) (hR : narrow .boolean (.int r) = .int r → RetI x cX6_isOrUnder 0 0 r []) (hf : f_X6_isOrUnder l0 l1 = some r) : V x 0 0 [] [(0, .int l0), (1, .int l1)] 0 [] := by
  unfold f_X6_isOrUnder at hf
  refine v_iload_n X 0 rfl dX6_isOrUnder_0 ?_
  refine v_istore_n X rfl (by rw [hN]; decide) (lv' := [(2, .int l0), (0, .int l0), (1, .int l1)]) rfl dX6_isOrUnder_1 ?_
  refine v_iconst X (v := 0) (by decide) dX6_isOrUnder_2 ?_
  refine v_istore_n X rfl (by rw [hN]; decide) (lv' := [(3, .int 0), (2, .int l0), (0, .int l0), (1, .int l1)]) rfl dX6_isOrUnder_3 ?_
  refine v_lv [3, 1, 0] rfl ?_
  exact t_X6_isOrUnder_4 X hN hUn hR 200 _ _ hf
set_option maxRecDepth 100000 in
set_option maxHeartbeats 4000000 in
theorem c_X6_isOrUnder {l : Launch} {D : va_G} {qT : Nat → ClassId} {Z : (Nat → Prop) → State → Heap → Prop} {r : Int32} {l0 : Int32} {l1 : Int32} (hZ : ZOK Z) (hUn : UnderK Z) (hf : f_X6_isOrUnder l0 l1 = some r) :
    CI l D qT Z yX6_isOrUnder cX6_isOrUnder 4 (some .boolean) 2 0 0 [.int l0, .int l1] [] r [] := by
  refine CZ_of hZ (by decide) (Nat.le_of_ble_eq_true rfl) ?_
  intro x e1 e2 e3 e4 e5 e6 hin X hR
  subst e1 e2 e3 e4
  exact t_X6_isOrUnder X e6 hUn hR hf
def f_X6_taken (l1 : Int32) (l2 : Int32) (now_painters : Int32) (now_kind : Nat → Int32) (now_number : Nat → Int32) : Option (Int32) :=
  (f_X6_isKind l2).bind (fun v1_1 =>
  if v1_1 = 0 then (
  some (-2)) else (
  (f_X2_has l1 now_painters).bind (fun v15_2 =>
  if v15_2 = 0 then (
  some (-11)) else (
  if inb l1 6 = true then (
  (f_X6_isOrUnder (now_kind (Int32.toNatClampNeg l1)) l2).bind (fun v34_3 =>
  if v34_3 = 0 then (
  some (-13)) else (
  if inb l1 6 = true then (
  some (now_number (Int32.toNatClampNeg l1))) else none))) else none))))
set_option maxRecDepth 100000 in
set_option maxHeartbeats 4000000 in
theorem t_X6_taken {x : VX} {r : Int32} {a0 : Nat} {a_now : Nat} {a_now_kind : Nat} {a_now_number : Nat} {a_thought : Nat} {a_kept : Nat} {a_reader : Nat} {a_texts : Nat} {a_sight : Nat} {a_most : Nat} {a_sheets : Nat} {a_now_easel : Nat} {a_now_had : Nat} {a_now_pleased : Nat} {s_isKept : Int32} {s_textCount : Int32} {now_face : Int32} {now_lamp : Int32} {now_stove : Int32} {now_pose : Int32} {now_rule : Int32} {now_painters : Int32} {now_kind : Nat → Int32} {now_number : Nat → Int32} {l1 : Int32} {l2 : Int32} (X : Cx x cX6_taken RX6 3) (hN : vxn x = 3) (hUn : UnderK (vxZ x)) (hR : RetI x cX6_taken 0 0 r [(a0, .inr (6, [.ref a_now, .ref a_thought, .ref a_kept, .int s_isKept, .ref a_reader, .ref a_texts, .int s_textCount, .ref a_sight, .ref a_most, .ref a_sheets])), (a_now, .inr (2, [.int now_face, .int now_lamp, .int now_stove, .int now_pose, .int now_rule, .int now_painters, .ref a_now_kind, .ref a_now_number, .ref a_now_easel, .ref a_now_had, .ref a_now_pleased])), (a_now_kind, .inl (vxT x 0, 6, .inl now_kind)), (a_now_number, .inl (vxT x 0, 6, .inl now_number))]) (hf : f_X6_taken l1 l2 now_painters now_kind now_number = some r) : V x 0 0 [(a0, .inr (6, [.ref a_now, .ref a_thought, .ref a_kept, .int s_isKept, .ref a_reader, .ref a_texts, .int s_textCount, .ref a_sight, .ref a_most, .ref a_sheets])), (a_now, .inr (2, [.int now_face, .int now_lamp, .int now_stove, .int now_pose, .int now_rule, .int now_painters, .ref a_now_kind, .ref a_now_number, .ref a_now_easel, .ref a_now_had, .ref a_now_pleased])), (a_now_kind, .inl (vxT x 0, 6, .inl now_kind)), (a_now_number, .inl (vxT x 0, 6, .inl now_number))] [(0, .ref a0), (1, .int l1), (2, .int l2)] 0 [] := by
  unfold f_X6_taken at hf
  refine v_iload_n X 2 rfl dX6_taken_0 ?_
  obtain ⟨v1_1, hv1_1, hf⟩ := bd_some hf
  refine v_scallI X (c_X6_isKind X.2.2.2.2.2.2.2.1 hv1_1) cws_X6_107 rfl (by decide) ⟨Nat.zero_le _, Nat.zero_le _⟩ [] [0, 1, 2, 3] [0, 1, 2, 3] rfl (by decide) (wr := [(a0, .inr (6, [.ref a_now, .ref a_thought, .ref a_kept, .int s_isKept, .ref a_reader, .ref a_texts, .int s_textCount, .ref a_sight, .ref a_most, .ref a_sheets])), (a_now, .inr (2, [.int now_face, .int now_lamp, .int now_stove, .int now_pose, .int now_rule, .int now_painters, .ref a_now_kind, .ref a_now_number, .ref a_now_easel, .ref a_now_had, .ref a_now_pleased])), (a_now_kind, .inl (vxT x 0, 6, .inl now_kind)), (a_now_number, .inl (vxT x 0, 6, .inl now_number))]) rfl (by decide) (by decide) (ws2 := [(a0, .inr (6, [.ref a_now, .ref a_thought, .ref a_kept, .int s_isKept, .ref a_reader, .ref a_texts, .int s_textCount, .ref a_sight, .ref a_most, .ref a_sheets])), (a_now, .inr (2, [.int now_face, .int now_lamp, .int now_stove, .int now_pose, .int now_rule, .int now_painters, .ref a_now_kind, .ref a_now_number, .ref a_now_easel, .ref a_now_had, .ref a_now_pleased])), (a_now_kind, .inl (vxT x 0, 6, .inl now_kind)), (a_now_number, .inl (vxT x 0, 6, .inl now_number))]) rfl (by decide) (Nat.le_of_ble_eq_true rfl) rfl dX6_taken_1 ?_
  refine v_if_ne X (tgt := 10) hf (by decide) dX6_taken_4 (fun c4 hf => ?_) (fun c4 hf => ?_)
  · refine v_aload_n X 0 rfl dX6_taken_10 ?_
    refine v_get X xinX6 0 rfl rfl 0 (by decide) wd554 rfl rfl dX6_taken_11 ?_
    refine v_iload_n X 1 rfl dX6_taken_14 ?_
    obtain ⟨v15_2, hv15_2, hf⟩ := bd_some hf
    refine v_callI X (c_X2_has X.2.2.2.2.2.2.2.1 hv15_2) cwv_X6_100 rfl (by decide) ⟨Nat.zero_le _, Nat.zero_le _⟩ 0 rfl rfl [1] [0, 2, 3] [0, 3, 1, 2] rfl (by decide) (wr := [(a0, .inr (6, [.ref a_now, .ref a_thought, .ref a_kept, .int s_isKept, .ref a_reader, .ref a_texts, .int s_textCount, .ref a_sight, .ref a_most, .ref a_sheets])), (a_now_kind, .inl (vxT x 0, 6, .inl now_kind)), (a_now_number, .inl (vxT x 0, 6, .inl now_number))]) rfl (by decide) (by decide) (ws2 := [(a0, .inr (6, [.ref a_now, .ref a_thought, .ref a_kept, .int s_isKept, .ref a_reader, .ref a_texts, .int s_textCount, .ref a_sight, .ref a_most, .ref a_sheets])), (a_now, .inr (2, [.int now_face, .int now_lamp, .int now_stove, .int now_pose, .int now_rule, .int now_painters, .ref a_now_kind, .ref a_now_number, .ref a_now_easel, .ref a_now_had, .ref a_now_pleased])), (a_now_kind, .inl (vxT x 0, 6, .inl now_kind)), (a_now_number, .inl (vxT x 0, 6, .inl now_number))]) rfl (by decide) (Nat.le_of_ble_eq_true rfl) rfl dX6_taken_15 ?_
    refine v_if_ne X (tgt := 24) hf (by decide) dX6_taken_18 (fun c18 hf => ?_) (fun c18 hf => ?_)
    · refine v_aload_n X 0 rfl dX6_taken_24 ?_
      refine v_get X xinX6 0 rfl rfl 0 (by decide) wd554 rfl rfl dX6_taken_25 ?_
      refine v_get X xinX2 1 rfl rfl 6 (by decide) wd536 rfl rfl dX6_taken_28 ?_
      refine v_iload_n X 1 rfl dX6_taken_31 ?_
      refine v_iald X 2 rfl hf dX6_taken_32 (fun h32 hf => ?_)
      refine v_iload_n X 2 rfl dX6_taken_33 ?_
      obtain ⟨v34_3, hv34_3, hf⟩ := bd_some hf
      refine v_scallI X (c_X6_isOrUnder X.2.2.2.2.2.2.2.1 hUn hv34_3) cws_X6_311 rfl (by decide) ⟨Nat.zero_le _, Nat.zero_le _⟩ [] [0, 1, 2, 3] [0, 1, 2, 3] rfl (by decide) (wr := [(a0, .inr (6, [.ref a_now, .ref a_thought, .ref a_kept, .int s_isKept, .ref a_reader, .ref a_texts, .int s_textCount, .ref a_sight, .ref a_most, .ref a_sheets])), (a_now, .inr (2, [.int now_face, .int now_lamp, .int now_stove, .int now_pose, .int now_rule, .int now_painters, .ref a_now_kind, .ref a_now_number, .ref a_now_easel, .ref a_now_had, .ref a_now_pleased])), (a_now_kind, .inl (vxT x 0, 6, .inl now_kind)), (a_now_number, .inl (vxT x 0, 6, .inl now_number))]) rfl (by decide) (by decide) (ws2 := [(a0, .inr (6, [.ref a_now, .ref a_thought, .ref a_kept, .int s_isKept, .ref a_reader, .ref a_texts, .int s_textCount, .ref a_sight, .ref a_most, .ref a_sheets])), (a_now, .inr (2, [.int now_face, .int now_lamp, .int now_stove, .int now_pose, .int now_rule, .int now_painters, .ref a_now_kind, .ref a_now_number, .ref a_now_easel, .ref a_now_had, .ref a_now_pleased])), (a_now_kind, .inl (vxT x 0, 6, .inl now_kind)), (a_now_number, .inl (vxT x 0, 6, .inl now_number))]) rfl (by decide) (Nat.le_of_ble_eq_true rfl) rfl dX6_taken_34 ?_
      refine v_if_eq X (tgt := 52) hf (by decide) dX6_taken_37 (fun c37 hf => ?_) (fun c37 hf => ?_)
      · refine v_bipush X (v := (-13)) (by decide) dX6_taken_52 ?_
        obtain rfl := Option.some.inj hf
        exact v_iret hR dX6_taken_54
      · refine v_aload_n X 0 rfl dX6_taken_40 ?_
        refine v_get X xinX6 0 rfl rfl 0 (by decide) wd554 rfl rfl dX6_taken_41 ?_
        refine v_get X xinX2 1 rfl rfl 7 (by decide) wd703 rfl rfl dX6_taken_44 ?_
        refine v_iload_n X 1 rfl dX6_taken_47 ?_
        refine v_iald X 3 rfl hf dX6_taken_48 (fun h48 hf => ?_)
        refine v_goto X (tgt := 54) (by decide) dX6_taken_49 ?_
        obtain rfl := Option.some.inj hf
        exact v_iret hR dX6_taken_54
    · refine v_bipush X (v := (-11)) (by decide) dX6_taken_21 ?_
      obtain rfl := Option.some.inj hf
      exact v_iret hR dX6_taken_23
  · refine v_bipush X (v := (-2)) (by decide) dX6_taken_7 ?_
    obtain rfl := Option.some.inj hf
    exact v_iret hR dX6_taken_9
set_option maxRecDepth 100000 in
set_option maxHeartbeats 4000000 in
theorem c_X6_taken {l : Launch} {D : va_G} {qT : Nat → ClassId} {Z : (Nat → Prop) → State → Heap → Prop} {r : Int32} {a0 : Nat} {a_now : Nat} {a_now_kind : Nat} {a_now_number : Nat} {a_thought : Nat} {a_kept : Nat} {a_reader : Nat} {a_texts : Nat} {a_sight : Nat} {a_most : Nat} {a_sheets : Nat} {a_now_easel : Nat} {a_now_had : Nat} {a_now_pleased : Nat} {s_isKept : Int32} {s_textCount : Int32} {now_face : Int32} {now_lamp : Int32} {now_stove : Int32} {now_pose : Int32} {now_rule : Int32} {now_painters : Int32} {now_kind : Nat → Int32} {now_number : Nat → Int32} {l1 : Int32} {l2 : Int32} (hZ : ZOK Z) (hUn : UnderK Z) (hf : f_X6_taken l1 l2 now_painters now_kind now_number = some r) :
    CI l D qT Z yX6_taken cX6_taken 3 (some .int) 3 0 0 [.ref a0, .int l1, .int l2] [(a0, .inr (6, [.ref a_now, .ref a_thought, .ref a_kept, .int s_isKept, .ref a_reader, .ref a_texts, .int s_textCount, .ref a_sight, .ref a_most, .ref a_sheets])), (a_now, .inr (2, [.int now_face, .int now_lamp, .int now_stove, .int now_pose, .int now_rule, .int now_painters, .ref a_now_kind, .ref a_now_number, .ref a_now_easel, .ref a_now_had, .ref a_now_pleased])), (a_now_kind, .inl (qT 0, 6, .inl now_kind)), (a_now_number, .inl (qT 0, 6, .inl now_number))] r [(a0, .inr (6, [.ref a_now, .ref a_thought, .ref a_kept, .int s_isKept, .ref a_reader, .ref a_texts, .int s_textCount, .ref a_sight, .ref a_most, .ref a_sheets])), (a_now, .inr (2, [.int now_face, .int now_lamp, .int now_stove, .int now_pose, .int now_rule, .int now_painters, .ref a_now_kind, .ref a_now_number, .ref a_now_easel, .ref a_now_had, .ref a_now_pleased])), (a_now_kind, .inl (qT 0, 6, .inl now_kind)), (a_now_number, .inl (qT 0, 6, .inl now_number))] := by
  refine CI_of hZ (by decide) (Nat.le_of_ble_eq_true rfl) ?_
  intro x e1 e2 e3 e4 e5 e6 hin X hR
  subst e1 e2 e3 e4
  exact t_X6_taken X e6 hUn hR hf
