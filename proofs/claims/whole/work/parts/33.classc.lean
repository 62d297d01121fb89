theorem wd737 : Cond.methodLink RX6 292 yX6_isSort ∈ gw := gw_of (List.mem_append_right _ (List.mem_of_getElem? (i := 718) (by decide +kernel))) (by decide +kernel)
theorem wd738 : Cond.static yX6_isSort ∈ gw := gw_of (List.mem_append_right _ (List.mem_of_getElem? (i := 719) (by decide +kernel))) (by decide +kernel)
theorem wd739 : Cond.code yX6_isSort cX6_isSort 1 (some .boolean) ∈ gw := gw_of (List.mem_append_right _ (List.mem_of_getElem? (i := 720) (by decide +kernel))) (by decide +kernel)
theorem cws_X6_292 : CWs RX6 292 yX6_isSort cX6_isSort 1 (some .boolean) 1 := ⟨wd737, wd738, wd12, wd739, (by decide +kernel), (by decide +kernel), (by decide +kernel), (by decide +kernel)⟩
theorem wd740 : Cond.methodLink RX6 295 yX3_hasItems ∈ gw := gw_of (List.mem_append_right _ (List.mem_of_getElem? (i := 725) (by decide +kernel))) (by decide +kernel)
theorem wd741 : Cond.instanceMethod yX3_hasItems ∈ gw := gw_of (List.mem_append_right _ (List.mem_of_getElem? (i := 726) (by decide +kernel))) (by decide +kernel)
theorem wd742 : Cond.selects RX3 yX3_hasItems yX3_hasItems ∈ gw := gw_of (List.mem_append_right _ (List.mem_of_getElem? (i := 727) (by decide +kernel))) (by decide +kernel)
theorem wd743 : Cond.code yX3_hasItems cX3_hasItems 3 (some .boolean) ∈ gw := gw_of (List.mem_append_right _ (List.mem_of_getElem? (i := 728) (by decide +kernel))) (by decide +kernel)
theorem cwv_X6_295 : CWv RX6 295 yX3_hasItems cX3_hasItems 3 (some .boolean) 2 := ⟨wd740, wd741, wd742, wd711, wd743, (by decide +kernel), (by decide +kernel), (by decide +kernel), (by decide +kernel)⟩
theorem wd744 : Cond.fieldLink RX6 298 RX3 "sort" "I" ∈ gw := gw_of (List.mem_append_right _ (List.mem_of_getElem? (i := 168) (by decide +kernel))) (by decide +kernel)
theorem wd745 : Cond.methodLink RX6 301 (⟨"java/lang/System", "arraycopy", "(Ljava/lang/Object;ILjava/lang/Object;II)V"⟩ : MethodName) ∈ gw := gw_of (List.mem_append_right _ (List.mem_of_getElem? (i := 733) (by decide +kernel))) (by decide +kernel)
theorem wd746 : Cond.methodLink RX6 307 yX6_painter ∈ gw := gw_of (List.mem_append_right _ (List.mem_of_getElem? (i := 738) (by decide +kernel))) (by decide +kernel)
theorem wd747 : Cond.instanceMethod yX6_painter ∈ gw := gw_of (List.mem_append_right _ (List.mem_of_getElem? (i := 414) (by decide +kernel))) (by decide +kernel)
theorem wd748 : Cond.selects RX6 yX6_painter yX6_painter ∈ gw := gw_of (List.mem_append_right _ (List.mem_of_getElem? (i := 415) (by decide +kernel))) (by decide +kernel)
theorem wd749 : Cond.code yX6_painter cX6_painter 4 (some .int) ∈ gw := gw_of (List.mem_append_right _ (List.mem_of_getElem? (i := 416) (by decide +kernel))) (by decide +kernel)
theorem cwv_X6_307 : CWv RX6 307 yX6_painter cX6_painter 4 (some .int) 3 := ⟨wd746, wd747, wd748, wd12, wd749, (by decide +kernel), (by decide +kernel), (by decide +kernel), (by decide +kernel)⟩
def f_X6_sheet (l1 : Int32) (l2 : Int32) (l3 : Int32) (sh_sort : Int32) (sh_size : Int32) (sh_items : Nat → Int32) : Option (Int32 × Int32 × Int32 × (Nat → Int32)) :=
  (f_X6_isSheet l1).bind (fun v1_1 =>
  if v1_1 = 0 then (
  some ((-2), sh_sort, sh_size, sh_items)) else (
  if l2 = (-1) then (
  if inb l1 4 = true then (
  (f_X3_become (-1) 0 sh_items).bind (fun v23_4 =>
  some (1, v23_4.1, v23_4.2.1, v23_4.2.2))) else none) else (
  (f_X6_isSort l2).bind (fun v29_2 =>
  if v29_2 = 0 then (
  some ((-2), sh_sort, sh_size, sh_items)) else (
  if l3 ≤ 40 then (
  if 0 ≤ l3 then (
  if inb l1 4 = true then (
  (f_X3_become l2 l3 sh_items).bind (fun v59_3 =>
  some (1, v59_3.1, v59_3.2.1, v59_3.2.2))) else none) else (
  some ((-14), sh_sort, sh_size, sh_items))) else (
  some ((-2), sh_sort, sh_size, sh_items)))))))
set_option maxRecDepth 100000 in
set_option maxHeartbeats 4000000 in
theorem t_X6_sheet {x : VX} {r : Int32 × Int32 × Int32 × (Nat → Int32)} {a0 : Nat} {a_sheets : Nat} {a_sh : Nat} {a_sh_items : Nat} {a_now : Nat} {a_thought : Nat} {a_kept : Nat} {a_reader : Nat} {a_texts : Nat} {a_sight : Nat} {a_most : Nat} {s_isKept : Int32} {s_textCount : Int32} {s_sheets : Nat → Option Nat} {sh_sort : Int32} {sh_size : Int32} {sh_items : Nat → Int32} {l1 : Int32} {l2 : Int32} {l3 : Int32} (X : Cx x cX6_sheet RX6 3) (hN : vxn x = 4) (hsh0 : s_sheets (Int32.toNatClampNeg l1) = some a_sh) (hR : RetI x cX6_sheet 0 0 r.1 [(a0, .inr (6, [.ref a_now, .ref a_thought, .ref a_kept, .int s_isKept, .ref a_reader, .ref a_texts, .int s_textCount, .ref a_sight, .ref a_most, .ref a_sheets])), (a_sheets, .inl (vxT x 2, 4, .inr (.inr (.inr (.inr s_sheets))))), (a_sh, .inr (3, [.int r.2.1, .int r.2.2.1, .ref a_sh_items])), (a_sh_items, .inl (vxT x 0, 40, .inl r.2.2.2))]) (hf : f_X6_sheet l1 l2 l3 sh_sort sh_size sh_items = some r) : V x 0 0 [(a0, .inr (6, [.ref a_now, .ref a_thought, .ref a_kept, .int s_isKept, .ref a_reader, .ref a_texts, .int s_textCount, .ref a_sight, .ref a_most, .ref a_sheets])), (a_sheets, .inl (vxT x 2, 4, .inr (.inr (.inr (.inr s_sheets))))), (a_sh, .inr (3, [.int sh_sort, .int sh_size, .ref a_sh_items])), (a_sh_items, .inl (vxT x 0, 40, .inl sh_items))] [(0, .ref a0), (1, .int l1), (2, .int l2), (3, .int l3)] 0 [] := by
  unfold f_X6_sheet at hf
  refine v_iload_n X 1 rfl dX6_sheet_0 ?_
  obtain ⟨v1_1, hv1_1, hf⟩ := bd_some hf
  refine v_scallI X (c_X6_isSheet X.2.2.2.2.2.2.2.1 hv1_1) cws_X6_257 rfl (by decide) ⟨Nat.zero_le _, Nat.zero_le _⟩ [] [0, 1, 2, 3] [0, 1, 2, 3] rfl (by decide) (wr := [(a0, .inr (6, [.ref a_now, .ref a_thought, .ref a_kept, .int s_isKept, .ref a_reader, .ref a_texts, .int s_textCount, .ref a_sight, .ref a_most, .ref a_sheets])), (a_sheets, .inl (vxT x 2, 4, .inr (.inr (.inr (.inr s_sheets))))), (a_sh, .inr (3, [.int sh_sort, .int sh_size, .ref a_sh_items])), (a_sh_items, .inl (vxT x 0, 40, .inl sh_items))]) rfl (by decide) (by decide) (ws2 := [(a0, .inr (6, [.ref a_now, .ref a_thought, .ref a_kept, .int s_isKept, .ref a_reader, .ref a_texts, .int s_textCount, .ref a_sight, .ref a_most, .ref a_sheets])), (a_sheets, .inl (vxT x 2, 4, .inr (.inr (.inr (.inr s_sheets))))), (a_sh, .inr (3, [.int sh_sort, .int sh_size, .ref a_sh_items])), (a_sh_items, .inl (vxT x 0, 40, .inl sh_items))]) rfl (by decide) (Nat.le_of_ble_eq_true rfl) rfl dX6_sheet_1 ?_
  refine v_if_ne X (tgt := 10) hf (by decide) dX6_sheet_4 (fun c4 hf => ?_) (fun c4 hf => ?_)
  · refine v_iload_n X 2 rfl dX6_sheet_10 ?_
    refine v_iconst X (v := (-1)) (by decide) dX6_sheet_11 ?_
    refine v_icmp_ne X (tgt := 28) hf (by decide) dX6_sheet_12 (fun c12 hf => ?_) (fun c12 hf => ?_)
    · refine v_iload_n X 2 rfl dX6_sheet_28 ?_
      obtain ⟨v29_2, hv29_2, hf⟩ := bd_some hf
      refine v_scallI X (c_X6_isSort X.2.2.2.2.2.2.2.1 hv29_2) cws_X6_292 rfl (by decide) ⟨Nat.zero_le _, Nat.zero_le _⟩ [] [0, 1, 2, 3] [0, 1, 2, 3] rfl (by decide) (wr := [(a0, .inr (6, [.ref a_now, .ref a_thought, .ref a_kept, .int s_isKept, .ref a_reader, .ref a_texts, .int s_textCount, .ref a_sight, .ref a_most, .ref a_sheets])), (a_sheets, .inl (vxT x 2, 4, .inr (.inr (.inr (.inr s_sheets))))), (a_sh, .inr (3, [.int sh_sort, .int sh_size, .ref a_sh_items])), (a_sh_items, .inl (vxT x 0, 40, .inl sh_items))]) rfl (by decide) (by decide) (ws2 := [(a0, .inr (6, [.ref a_now, .ref a_thought, .ref a_kept, .int s_isKept, .ref a_reader, .ref a_texts, .int s_textCount, .ref a_sight, .ref a_most, .ref a_sheets])), (a_sheets, .inl (vxT x 2, 4, .inr (.inr (.inr (.inr s_sheets))))), (a_sh, .inr (3, [.int sh_sort, .int sh_size, .ref a_sh_items])), (a_sh_items, .inl (vxT x 0, 40, .inl sh_items))]) rfl (by decide) (Nat.le_of_ble_eq_true rfl) rfl dX6_sheet_29 ?_
      refine v_if_eq X (tgt := 41) hf (by decide) dX6_sheet_32 (fun c32 hf => ?_) (fun c32 hf => ?_)
      · refine v_bipush X (v := (-2)) (by decide) dX6_sheet_41 ?_
        obtain rfl := Option.some.inj hf
        exact v_iret hR dX6_sheet_43
      · refine v_iload_n X 3 rfl dX6_sheet_35 ?_
        refine v_bipush X (v := 40) (by decide) dX6_sheet_36 ?_
        refine v_icmp_le X (tgt := 44) hf (by decide) dX6_sheet_38 (fun c38 hf => ?_) (fun c38 hf => ?_)
        · refine v_iload_n X 3 rfl dX6_sheet_44 ?_
          refine v_if_ge X (tgt := 51) hf (by decide) dX6_sheet_45 (fun c45 hf => ?_) (fun c45 hf => ?_)
          · refine v_aload_n X 0 rfl dX6_sheet_51 ?_
            refine v_get X xinX6 0 rfl rfl 9 (by decide) wd707 rfl rfl dX6_sheet_52 ?_
            refine v_iload_n X 1 rfl dX6_sheet_55 ?_
            obtain ⟨h56, hf⟩ := if_some hf
            refine v_aald X 1 2 rfl rfl h56 dX6_sheet_56 ?_
            refine v_eq (st' := [.ref a_sh]) (by rw [hsh0]; rfl) ?_
            refine v_iload_n X 2 rfl dX6_sheet_57 ?_
            refine v_iload_n X 3 rfl dX6_sheet_58 ?_
            obtain ⟨v59_3, hv59_3, hf⟩ := bd_some hf
            refine v_callV X (c_X3_become X.2.2.2.2.2.2.2.1 hv59_3) cwv_X6_278 rfl (by decide) ⟨Nat.zero_le _, Nat.zero_le _⟩ 0 rfl rfl [2, 3] [0, 1] [0, 1, 2, 3] rfl (by decide) (wr := [(a0, .inr (6, [.ref a_now, .ref a_thought, .ref a_kept, .int s_isKept, .ref a_reader, .ref a_texts, .int s_textCount, .ref a_sight, .ref a_most, .ref a_sheets])), (a_sheets, .inl (vxT x 2, 4, .inr (.inr (.inr (.inr s_sheets)))))]) rfl (by decide) (by decide) (ws2 := [(a0, .inr (6, [.ref a_now, .ref a_thought, .ref a_kept, .int s_isKept, .ref a_reader, .ref a_texts, .int s_textCount, .ref a_sight, .ref a_most, .ref a_sheets])), (a_sheets, .inl (vxT x 2, 4, .inr (.inr (.inr (.inr s_sheets))))), (a_sh, .inr (3, [.int v59_3.1, .int v59_3.2.1, .ref a_sh_items])), (a_sh_items, .inl (vxT x 0, 40, .inl v59_3.2.2))]) rfl (by decide) (Nat.le_of_ble_eq_true rfl) rfl dX6_sheet_59 ?_
            refine v_iconst X (v := 1) (by decide) dX6_sheet_62 ?_
            obtain rfl := Option.some.inj hf
            exact v_iret hR dX6_sheet_63
          · refine v_bipush X (v := (-14)) (by decide) dX6_sheet_48 ?_
            obtain rfl := Option.some.inj hf
            exact v_iret hR dX6_sheet_50
        · refine v_bipush X (v := (-2)) (by decide) dX6_sheet_41 ?_
          obtain rfl := Option.some.inj hf
          exact v_iret hR dX6_sheet_43
    · refine v_aload_n X 0 rfl dX6_sheet_15 ?_
      refine v_get X xinX6 0 rfl rfl 9 (by decide) wd707 rfl rfl dX6_sheet_16 ?_
      refine v_iload_n X 1 rfl dX6_sheet_19 ?_
      obtain ⟨h20, hf⟩ := if_some hf
      refine v_aald X 1 2 rfl rfl h20 dX6_sheet_20 ?_
      refine v_eq (st' := [.ref a_sh]) (by rw [hsh0]; rfl) ?_
      refine v_iconst X (v := (-1)) (by decide) dX6_sheet_21 ?_
      refine v_iconst X (v := 0) (by decide) dX6_sheet_22 ?_
      obtain ⟨v23_4, hv23_4, hf⟩ := bd_some hf
      refine v_callV X (c_X3_become X.2.2.2.2.2.2.2.1 hv23_4) cwv_X6_278 rfl (by decide) ⟨Nat.zero_le _, Nat.zero_le _⟩ 0 rfl rfl [2, 3] [0, 1] [0, 1, 2, 3] rfl (by decide) (wr := [(a0, .inr (6, [.ref a_now, .ref a_thought, .ref a_kept, .int s_isKept, .ref a_reader, .ref a_texts, .int s_textCount, .ref a_sight, .ref a_most, .ref a_sheets])), (a_sheets, .inl (vxT x 2, 4, .inr (.inr (.inr (.inr s_sheets)))))]) rfl (by decide) (by decide) (ws2 := [(a0, .inr (6, [.ref a_now, .ref a_thought, .ref a_kept, .int s_isKept, .ref a_reader, .ref a_texts, .int s_textCount, .ref a_sight, .ref a_most, .ref a_sheets])), (a_sheets, .inl (vxT x 2, 4, .inr (.inr (.inr (.inr s_sheets))))), (a_sh, .inr (3, [.int v23_4.1, .int v23_4.2.1, .ref a_sh_items])), (a_sh_items, .inl (vxT x 0, 40, .inl v23_4.2.2))]) rfl (by decide) (Nat.le_of_ble_eq_true rfl) rfl dX6_sheet_23 ?_
      refine v_iconst X (v := 1) (by decide) dX6_sheet_26 ?_
      obtain rfl := Option.some.inj hf
      exact v_iret hR dX6_sheet_27
  · refine v_bipush X (v := (-2)) (by decide) dX6_sheet_7 ?_
    obtain rfl := Option.some.inj hf
    exact v_iret hR dX6_sheet_9
set_option maxRecDepth 100000 in
set_option maxHeartbeats 4000000 in
theorem c_X6_sheet {l : Launch} {D : va_G} {qT : Nat → ClassId} {Z : (Nat → Prop) → State → Heap → Prop} {r : Int32 × Int32 × Int32 × (Nat → Int32)} {a0 : Nat} {a_sheets : Nat} {a_sh : Nat} {a_sh_items : Nat} {a_now : Nat} {a_thought : Nat} {a_kept : Nat} {a_reader : Nat} {a_texts : Nat} {a_sight : Nat} {a_most : Nat} {s_isKept : Int32} {s_textCount : Int32} {s_sheets : Nat → Option Nat} {sh_sort : Int32} {sh_size : Int32} {sh_items : Nat → Int32} {l1 : Int32} {l2 : Int32} {l3 : Int32} (hZ : ZOK Z) (hsh0 : s_sheets (Int32.toNatClampNeg l1) = some a_sh) (hf : f_X6_sheet l1 l2 l3 sh_sort sh_size sh_items = some r) :
    CI l D qT Z yX6_sheet cX6_sheet 4 (some .int) 3 0 0 [.ref a0, .int l1, .int l2, .int l3] [(a0, .inr (6, [.ref a_now, .ref a_thought, .ref a_kept, .int s_isKept, .ref a_reader, .ref a_texts, .int s_textCount, .ref a_sight, .ref a_most, .ref a_sheets])), (a_sheets, .inl (qT 2, 4, .inr (.inr (.inr (.inr s_sheets))))), (a_sh, .inr (3, [.int sh_sort, .int sh_size, .ref a_sh_items])), (a_sh_items, .inl (qT 0, 40, .inl sh_items))] r.1 [(a0, .inr (6, [.ref a_now, .ref a_thought, .ref a_kept, .int s_isKept, .ref a_reader, .ref a_texts, .int s_textCount, .ref a_sight, .ref a_most, .ref a_sheets])), (a_sheets, .inl (qT 2, 4, .inr (.inr (.inr (.inr s_sheets))))), (a_sh, .inr (3, [.int r.2.1, .int r.2.2.1, .ref a_sh_items])), (a_sh_items, .inl (qT 0, 40, .inl r.2.2.2))] := by
  refine CI_of hZ (by decide) (Nat.le_of_ble_eq_true rfl) ?_
  intro x e1 e2 e3 e4 e5 e6 hin X hR
  subst e1 e2 e3 e4
  exact t_X6_sheet X e6 hsh0 hR hf
def f_X6_cell (l1 : Int32) (l2 : Int32) (l3 : Int32) (sh_sort : Int32) (sh_size : Int32) (sh_items : Nat → Int32) : Option (Int32 × (Nat → Int32)) :=
  (f_X6_isSheet l1).bind (fun v1_1 =>
  if v1_1 = 0 then (
  some ((-2), sh_items)) else (
  if inb l1 4 = true then (
  (f_X3_isMissing sh_sort).bind (fun v20_2 =>
  if v20_2 = 0 then (
  (f_X3_hasItems l2 1 sh_size).bind (fun v33_3 =>
  if v33_3 = 0 then (
  some ((-12), sh_items)) else (
  (f_X3_put l2 l3 sh_sort sh_items).bind (fun v46_4 =>
  some (1, v46_4))))) else (
  some ((-11), sh_items)))) else none))
set_option maxRecDepth 100000 in
set_option maxHeartbeats 4000000 in
theorem t_X6_cell {x : VX} {r : Int32 × (Nat → Int32)} {a0 : Nat} {a_sheets : Nat} {a_sh : Nat} {a_sh_items : Nat} {a_now : Nat} {a_thought : Nat} {a_kept : Nat} {a_reader : Nat} {a_texts : Nat} {a_sight : Nat} {a_most : Nat} {s_isKept : Int32} {s_textCount : Int32} {s_sheets : Nat → Option Nat} {sh_sort : Int32} {sh_size : Int32} {sh_items : Nat → Int32} {l1 : Int32} {l2 : Int32} {l3 : Int32} (X : Cx x cX6_cell RX6 2) (hN : vxn x = 5) (hsh0 : s_sheets (Int32.toNatClampNeg l1) = some a_sh) (hR : RetI x cX6_cell 0 0 r.1 [(a0, .inr (6, [.ref a_now, .ref a_thought, .ref a_kept, .int s_isKept, .ref a_reader, .ref a_texts, .int s_textCount, .ref a_sight, .ref a_most, .ref a_sheets])), (a_sheets, .inl (vxT x 2, 4, .inr (.inr (.inr (.inr s_sheets))))), (a_sh, .inr (3, [.int sh_sort, .int sh_size, .ref a_sh_items])), (a_sh_items, .inl (vxT x 0, 40, .inl r.2))]) (hf : f_X6_cell l1 l2 l3 sh_sort sh_size sh_items = some r) : V x 0 0 [(a0, .inr (6, [.ref a_now, .ref a_thought, .ref a_kept, .int s_isKept, .ref a_reader, .ref a_texts, .int s_textCount, .ref a_sight, .ref a_most, .ref a_sheets])), (a_sheets, .inl (vxT x 2, 4, .inr (.inr (.inr (.inr s_sheets))))), (a_sh, .inr (3, [.int sh_sort, .int sh_size, .ref a_sh_items])), (a_sh_items, .inl (vxT x 0, 40, .inl sh_items))] [(0, .ref a0), (1, .int l1), (2, .int l2), (3, .int l3)] 0 [] := by
  unfold f_X6_cell at hf
  refine v_iload_n X 1 rfl dX6_cell_0 ?_
  obtain ⟨v1_1, hv1_1, hf⟩ := bd_some hf
  refine v_scallI X (c_X6_isSheet X.2.2.2.2.2.2.2.1 hv1_1) cws_X6_257 rfl (by decide) ⟨Nat.zero_le _, Nat.zero_le _⟩ [] [0, 1, 2, 3] [0, 1, 2, 3] rfl (by decide) (wr := [(a0, .inr (6, [.ref a_now, .ref a_thought, .ref a_kept, .int s_isKept, .ref a_reader, .ref a_texts, .int s_textCount, .ref a_sight, .ref a_most, .ref a_sheets])), (a_sheets, .inl (vxT x 2, 4, .inr (.inr (.inr (.inr s_sheets))))), (a_sh, .inr (3, [.int sh_sort, .int sh_size, .ref a_sh_items])), (a_sh_items, .inl (vxT x 0, 40, .inl sh_items))]) rfl (by decide) (by decide) (ws2 := [(a0, .inr (6, [.ref a_now, .ref a_thought, .ref a_kept, .int s_isKept, .ref a_reader, .ref a_texts, .int s_textCount, .ref a_sight, .ref a_most, .ref a_sheets])), (a_sheets, .inl (vxT x 2, 4, .inr (.inr (.inr (.inr s_sheets))))), (a_sh, .inr (3, [.int sh_sort, .int sh_size, .ref a_sh_items])), (a_sh_items, .inl (vxT x 0, 40, .inl sh_items))]) rfl (by decide) (Nat.le_of_ble_eq_true rfl) rfl dX6_cell_1 ?_
  refine v_if_ne X (tgt := 10) hf (by decide) dX6_cell_4 (fun c4 hf => ?_) (fun c4 hf => ?_)
  · refine v_aload_n X 0 rfl dX6_cell_10 ?_
    refine v_get X xinX6 0 rfl rfl 9 (by decide) wd707 rfl rfl dX6_cell_11 ?_
    refine v_iload_n X 1 rfl dX6_cell_14 ?_
    obtain ⟨h15, hf⟩ := if_some hf
    refine v_aald X 1 2 rfl rfl h15 dX6_cell_15 ?_
    refine v_eq (st' := [.ref a_sh]) (by rw [hsh0]; rfl) ?_
    refine v_astore X (by rw [hN]; decide) (lv' := [(4, .ref a_sh), (0, .ref a0), (1, .int l1), (2, .int l2), (3, .int l3)]) rfl dX6_cell_16 ?_
    refine v_aload X 0 rfl dX6_cell_18 ?_
    obtain ⟨v20_2, hv20_2, hf⟩ := bd_some hf
    refine v_callI X (c_X3_isMissing X.2.2.2.2.2.2.2.1 hv20_2) cwv_X6_260 rfl (by decide) ⟨Nat.zero_le _, Nat.zero_le _⟩ 0 rfl rfl [2] [0, 1, 3] [0, 1, 3, 2] rfl (by decide) (wr := [(a0, .inr (6, [.ref a_now, .ref a_thought, .ref a_kept, .int s_isKept, .ref a_reader, .ref a_texts, .int s_textCount, .ref a_sight, .ref a_most, .ref a_sheets])), (a_sheets, .inl (vxT x 2, 4, .inr (.inr (.inr (.inr s_sheets))))), (a_sh_items, .inl (vxT x 0, 40, .inl sh_items))]) rfl (by decide) (by decide) (ws2 := [(a0, .inr (6, [.ref a_now, .ref a_thought, .ref a_kept, .int s_isKept, .ref a_reader, .ref a_texts, .int s_textCount, .ref a_sight, .ref a_most, .ref a_sheets])), (a_sheets, .inl (vxT x 2, 4, .inr (.inr (.inr (.inr s_sheets))))), (a_sh, .inr (3, [.int sh_sort, .int sh_size, .ref a_sh_items])), (a_sh_items, .inl (vxT x 0, 40, .inl sh_items))]) rfl (by decide) (Nat.le_of_ble_eq_true rfl) rfl dX6_cell_20 ?_
    refine v_if_eq X (tgt := 29) hf (by decide) dX6_cell_23 (fun c23 hf => ?_) (fun c23 hf => ?_)
    · refine v_aload X 0 rfl dX6_cell_29 ?_
      refine v_iload_n X 3 rfl dX6_cell_31 ?_
      refine v_iconst X (v := 1) (by decide) dX6_cell_32 ?_
      obtain ⟨v33_3, hv33_3, hf⟩ := bd_some hf
      refine v_callI X (c_X3_hasItems X.2.2.2.2.2.2.2.1 hv33_3) cwv_X6_295 rfl (by decide) ⟨Nat.zero_le _, Nat.zero_le _⟩ 0 rfl rfl [2] [0, 1, 3] [0, 1, 3, 2] rfl (by decide) (wr := [(a0, .inr (6, [.ref a_now, .ref a_thought, .ref a_kept, .int s_isKept, .ref a_reader, .ref a_texts, .int s_textCount, .ref a_sight, .ref a_most, .ref a_sheets])), (a_sheets, .inl (vxT x 2, 4, .inr (.inr (.inr (.inr s_sheets))))), (a_sh_items, .inl (vxT x 0, 40, .inl sh_items))]) rfl (by decide) (by decide) (ws2 := [(a0, .inr (6, [.ref a_now, .ref a_thought, .ref a_kept, .int s_isKept, .ref a_reader, .ref a_texts, .int s_textCount, .ref a_sight, .ref a_most, .ref a_sheets])), (a_sheets, .inl (vxT x 2, 4, .inr (.inr (.inr (.inr s_sheets))))), (a_sh, .inr (3, [.int sh_sort, .int sh_size, .ref a_sh_items])), (a_sh_items, .inl (vxT x 0, 40, .inl sh_items))]) rfl (by decide) (Nat.le_of_ble_eq_true rfl) rfl dX6_cell_33 ?_
      refine v_if_ne X (tgt := 42) hf (by decide) dX6_cell_36 (fun c36 hf => ?_) (fun c36 hf => ?_)
      · refine v_aload X 0 rfl dX6_cell_42 ?_
        refine v_iload_n X 3 rfl dX6_cell_44 ?_
        refine v_iload_n X 4 rfl dX6_cell_45 ?_
        obtain ⟨v46_4, hv46_4, hf⟩ := bd_some hf
        refine v_callV X (c_X3_put X.2.2.2.2.2.2.2.1 hv46_4) cwv_X6_281 rfl (by decide) ⟨Nat.zero_le _, Nat.zero_le _⟩ 0 rfl rfl [2, 3] [0, 1] [0, 1, 2, 3] rfl (by decide) (wr := [(a0, .inr (6, [.ref a_now, .ref a_thought, .ref a_kept, .int s_isKept, .ref a_reader, .ref a_texts, .int s_textCount, .ref a_sight, .ref a_most, .ref a_sheets])), (a_sheets, .inl (vxT x 2, 4, .inr (.inr (.inr (.inr s_sheets)))))]) rfl (by decide) (by decide) (ws2 := [(a0, .inr (6, [.ref a_now, .ref a_thought, .ref a_kept, .int s_isKept, .ref a_reader, .ref a_texts, .int s_textCount, .ref a_sight, .ref a_most, .ref a_sheets])), (a_sheets, .inl (vxT x 2, 4, .inr (.inr (.inr (.inr s_sheets))))), (a_sh, .inr (3, [.int sh_sort, .int sh_size, .ref a_sh_items])), (a_sh_items, .inl (vxT x 0, 40, .inl v46_4))]) rfl (by decide) (Nat.le_of_ble_eq_true rfl) rfl dX6_cell_46 ?_
        refine v_iconst X (v := 1) (by decide) dX6_cell_49 ?_
        obtain rfl := Option.some.inj hf
        exact v_iret hR dX6_cell_50
      · refine v_bipush X (v := (-12)) (by decide) dX6_cell_39 ?_
        obtain rfl := Option.some.inj hf
        exact v_iret hR dX6_cell_41
    · refine v_bipush X (v := (-11)) (by decide) dX6_cell_26 ?_
      obtain rfl := Option.some.inj hf
      exact v_iret hR dX6_cell_28
  · refine v_bipush X (v := (-2)) (by decide) dX6_cell_7 ?_
    obtain rfl := Option.some.inj hf
    exact v_iret hR dX6_cell_9
set_option maxRecDepth 100000 in
set_option maxHeartbeats 4000000 in
theorem c_X6_cell {l : Launch} {D : va_G} {qT : Nat → ClassId} {Z : (Nat → Prop) → State → Heap → Prop} {r : Int32 × (Nat → Int32)} {a0 : Nat} {a_sheets : Nat} {a_sh : Nat} {a_sh_items : Nat} {a_now : Nat} {a_thought : Nat} {a_kept : Nat} {a_reader : Nat} {a_texts : Nat} {a_sight : Nat} {a_most : Nat} {s_isKept : Int32} {s_textCount : Int32} {s_sheets : Nat → Option Nat} {sh_sort : Int32} {sh_size : Int32} {sh_items : Nat → Int32} {l1 : Int32} {l2 : Int32} {l3 : Int32} (hZ : ZOK Z) (hsh0 : s_sheets (Int32.toNatClampNeg l1) = some a_sh) (hf : f_X6_cell l1 l2 l3 sh_sort sh_size sh_items = some r) :
    CI l D qT Z yX6_cell cX6_cell 5 (some .int) 2 0 0 [.ref a0, .int l1, .int l2, .int l3] [(a0, .inr (6, [.ref a_now, .ref a_thought, .ref a_kept, .int s_isKept, .ref a_reader, .ref a_texts, .int s_textCount, .ref a_sight, .ref a_most, .ref a_sheets])), (a_sheets, .inl (qT 2, 4, .inr (.inr (.inr (.inr s_sheets))))), (a_sh, .inr (3, [.int sh_sort, .int sh_size, .ref a_sh_items])), (a_sh_items, .inl (qT 0, 40, .inl sh_items))] r.1 [(a0, .inr (6, [.ref a_now, .ref a_thought, .ref a_kept, .int s_isKept, .ref a_reader, .ref a_texts, .int s_textCount, .ref a_sight, .ref a_most, .ref a_sheets])), (a_sheets, .inl (qT 2, 4, .inr (.inr (.inr (.inr s_sheets))))), (a_sh, .inr (3, [.int sh_sort, .int sh_size, .ref a_sh_items])), (a_sh_items, .inl (qT 0, 40, .inl r.2))] := by
  refine CI_of hZ (by decide) (Nat.le_of_ble_eq_true rfl) ?_
  intro x e1 e2 e3 e4 e5 e6 hin X hR
  subst e1 e2 e3 e4
  exact t_X6_cell X e6 hsh0 hR hf
def f_X6_copy (l1 : Int32) (l2 : Int32) (l3 : Int32) (l4 : Int32) (l5 : Int32) (sh_sort : Int32) (sh_size : Int32) (ot_sort : Int32) (ot_size : Int32) (sh_items : Nat → Int32) (ot_items : Nat → Int32) : Option (Int32 × (Nat → Int32)) :=
  (f_X6_isSheet l1).bind (fun v1_1 =>
  if v1_1 = 0 then (
  some ((-2), ot_items)) else (
  (f_X6_isSheet l3).bind (fun v8_2 =>
  if v8_2 = 0 then (
  some ((-2), ot_items)) else (
  if inb l1 4 = true then (
  if inb l3 4 = true then (
  (f_X3_isMissing sh_sort).bind (fun v35_3 =>
  if v35_3 = 0 then (
  (f_X3_isMissing ot_sort).bind (fun v43_4 =>
  if v43_4 = 0 then (
  if sh_sort = ot_sort then (
  (f_X3_hasItems l2 l5 sh_size).bind (fun v73_5 =>
  if v73_5 = 0 then (
  some ((-12), ot_items)) else (
  (f_X3_hasItems l4 l5 ot_size).bind (fun v85_6 =>
  if v85_6 = 0 then (
  some ((-12), ot_items)) else (
  if cpok l2 l4 l5 40 40 = true then (
  some (l5, (va_cpy sh_items ot_items (Int32.toNatClampNeg l2) (Int32.toNatClampNeg l4) (Int32.toNatClampNeg l5)))) else none))))) else (
  some ((-13), ot_items))) else (
  some ((-11), ot_items)))) else (
  some ((-11), ot_items)))) else none) else none))))
set_option maxRecDepth 100000 in
set_option maxHeartbeats 4000000 in
theorem t_X6_copy {x : VX} {r : Int32 × (Nat → Int32)} {a0 : Nat} {a_sheets : Nat} {a_sh : Nat} {a_ot : Nat} {a_sh_items : Nat} {a_ot_items : Nat} {a_now : Nat} {a_thought : Nat} {a_kept : Nat} {a_reader : Nat} {a_texts : Nat} {a_sight : Nat} {a_most : Nat} {s_isKept : Int32} {s_textCount : Int32} {s_sheets : Nat → Option Nat} {sh_sort : Int32} {sh_size : Int32} {ot_sort : Int32} {ot_size : Int32} {sh_items : Nat → Int32} {ot_items : Nat → Int32} {l1 : Int32} {l2 : Int32} {l3 : Int32} {l4 : Int32} {l5 : Int32} (X : Cx x cX6_copy RX6 2) (hN : vxn x = 8) (hsh0 : s_sheets (Int32.toNatClampNeg l1) = some a_sh) (hsh1 : s_sheets (Int32.toNatClampNeg l3) = some a_ot) (hR : RetI x cX6_copy 0 0 r.1 [(a0, .inr (6, [.ref a_now, .ref a_thought, .ref a_kept, .int s_isKept, .ref a_reader, .ref a_texts, .int s_textCount, .ref a_sight, .ref a_most, .ref a_sheets])), (a_sheets, .inl (vxT x 2, 4, .inr (.inr (.inr (.inr s_sheets))))), (a_sh, .inr (3, [.int sh_sort, .int sh_size, .ref a_sh_items])), (a_ot, .inr (3, [.int ot_sort, .int ot_size, .ref a_ot_items])), (a_sh_items, .inl (vxT x 0, 40, .inl sh_items)), (a_ot_items, .inl (vxT x 0, 40, .inl r.2))]) (hf : f_X6_copy l1 l2 l3 l4 l5 sh_sort sh_size ot_sort ot_size sh_items ot_items = some r) : V x 0 0 [(a0, .inr (6, [.ref a_now, .ref a_thought, .ref a_kept, .int s_isKept, .ref a_reader, .ref a_texts, .int s_textCount, .ref a_sight, .ref a_most, .ref a_sheets])), (a_sheets, .inl (vxT x 2, 4, .inr (.inr (.inr (.inr s_sheets))))), (a_sh, .inr (3, [.int sh_sort, .int sh_size, .ref a_sh_items])), (a_ot, .inr (3, [.int ot_sort, .int ot_size, .ref a_ot_items])), (a_sh_items, .inl (vxT x 0, 40, .inl sh_items)), (a_ot_items, .inl (vxT x 0, 40, .inl ot_items))] [(0, .ref a0), (1, .int l1), (2, .int l2), (3, .int l3), (4, .int l4), (5, .int l5)] 0 [] := by
  unfold f_X6_copy at hf
  refine v_iload_n X 1 rfl dX6_copy_0 ?_
  obtain ⟨v1_1, hv1_1, hf⟩ := bd_some hf
  refine v_scallI X (c_X6_isSheet X.2.2.2.2.2.2.2.1 hv1_1) cws_X6_257 rfl (by decide) ⟨Nat.zero_le _, Nat.zero_le _⟩ [] [0, 1, 2, 3, 4, 5] [0, 1, 2, 3, 4, 5] rfl (by decide) (wr := [(a0, .inr (6, [.ref a_now, .ref a_thought, .ref a_kept, .int s_isKept, .ref a_reader, .ref a_texts, .int s_textCount, .ref a_sight, .ref a_most, .ref a_sheets])), (a_sheets, .inl (vxT x 2, 4, .inr (.inr (.inr (.inr s_sheets))))), (a_sh, .inr (3, [.int sh_sort, .int sh_size, .ref a_sh_items])), (a_ot, .inr (3, [.int ot_sort, .int ot_size, .ref a_ot_items])), (a_sh_items, .inl (vxT x 0, 40, .inl sh_items)), (a_ot_items, .inl (vxT x 0, 40, .inl ot_items))]) rfl (by decide) (by decide) (ws2 := [(a0, .inr (6, [.ref a_now, .ref a_thought, .ref a_kept, .int s_isKept, .ref a_reader, .ref a_texts, .int s_textCount, .ref a_sight, .ref a_most, .ref a_sheets])), (a_sheets, .inl (vxT x 2, 4, .inr (.inr (.inr (.inr s_sheets))))), (a_sh, .inr (3, [.int sh_sort, .int sh_size, .ref a_sh_items])), (a_ot, .inr (3, [.int ot_sort, .int ot_size, .ref a_ot_items])), (a_sh_items, .inl (vxT x 0, 40, .inl sh_items)), (a_ot_items, .inl (vxT x 0, 40, .inl ot_items))]) rfl (by decide) (Nat.le_of_ble_eq_true rfl) rfl dX6_copy_1 ?_
  refine v_if_eq X (tgt := 14) hf (by decide) dX6_copy_4 (fun c4 hf => ?_) (fun c4 hf => ?_)
  · refine v_bipush X (v := (-2)) (by decide) dX6_copy_14 ?_
    obtain rfl := Option.some.inj hf
    exact v_iret hR dX6_copy_16
  · refine v_iload_n X 3 rfl dX6_copy_7 ?_
    obtain ⟨v8_2, hv8_2, hf⟩ := bd_some hf
    refine v_scallI X (c_X6_isSheet X.2.2.2.2.2.2.2.1 hv8_2) cws_X6_257 rfl (by decide) ⟨Nat.zero_le _, Nat.zero_le _⟩ [] [0, 1, 2, 3, 4, 5] [0, 1, 2, 3, 4, 5] rfl (by decide) (wr := [(a0, .inr (6, [.ref a_now, .ref a_thought, .ref a_kept, .int s_isKept, .ref a_reader, .ref a_texts, .int s_textCount, .ref a_sight, .ref a_most, .ref a_sheets])), (a_sheets, .inl (vxT x 2, 4, .inr (.inr (.inr (.inr s_sheets))))), (a_sh, .inr (3, [.int sh_sort, .int sh_size, .ref a_sh_items])), (a_ot, .inr (3, [.int ot_sort, .int ot_size, .ref a_ot_items])), (a_sh_items, .inl (vxT x 0, 40, .inl sh_items)), (a_ot_items, .inl (vxT x 0, 40, .inl ot_items))]) rfl (by decide) (by decide) (ws2 := [(a0, .inr (6, [.ref a_now, .ref a_thought, .ref a_kept, .int s_isKept, .ref a_reader, .ref a_texts, .int s_textCount, .ref a_sight, .ref a_most, .ref a_sheets])), (a_sheets, .inl (vxT x 2, 4, .inr (.inr (.inr (.inr s_sheets))))), (a_sh, .inr (3, [.int sh_sort, .int sh_size, .ref a_sh_items])), (a_ot, .inr (3, [.int ot_sort, .int ot_size, .ref a_ot_items])), (a_sh_items, .inl (vxT x 0, 40, .inl sh_items)), (a_ot_items, .inl (vxT x 0, 40, .inl ot_items))]) rfl (by decide) (Nat.le_of_ble_eq_true rfl) rfl dX6_copy_8 ?_
    refine v_if_ne X (tgt := 17) hf (by decide) dX6_copy_11 (fun c11 hf => ?_) (fun c11 hf => ?_)
    · refine v_aload_n X 0 rfl dX6_copy_17 ?_
      refine v_get X xinX6 0 rfl rfl 9 (by decide) wd707 rfl rfl dX6_copy_18 ?_
      refine v_iload_n X 1 rfl dX6_copy_21 ?_
      obtain ⟨h22, hf⟩ := if_some hf
      refine v_aald X 1 2 rfl rfl h22 dX6_copy_22 ?_
      refine v_eq (st' := [.ref a_sh]) (by rw [hsh0]; rfl) ?_
      refine v_astore X (by rw [hN]; decide) (lv' := [(6, .ref a_sh), (0, .ref a0), (1, .int l1), (2, .int l2), (3, .int l3), (4, .int l4), (5, .int l5)]) rfl dX6_copy_23 ?_
      refine v_aload_n X 1 rfl dX6_copy_25 ?_
      refine v_get X xinX6 0 rfl rfl 9 (by decide) wd707 rfl rfl dX6_copy_26 ?_
      refine v_iload_n X 4 rfl dX6_copy_29 ?_
      obtain ⟨h30, hf⟩ := if_some hf
      refine v_aald X 1 2 rfl rfl h30 dX6_copy_30 ?_
      refine v_eq (st' := [.ref a_ot]) (by rw [hsh1]; rfl) ?_
      refine v_astore X (by rw [hN]; decide) (lv' := [(7, .ref a_ot), (6, .ref a_sh), (0, .ref a0), (1, .int l1), (2, .int l2), (3, .int l3), (4, .int l4), (5, .int l5)]) rfl dX6_copy_31 ?_
      refine v_aload X 1 rfl dX6_copy_33 ?_
      obtain ⟨v35_3, hv35_3, hf⟩ := bd_some hf
      refine v_callI X (c_X3_isMissing X.2.2.2.2.2.2.2.1 hv35_3) cwv_X6_260 rfl (by decide) ⟨Nat.zero_le _, Nat.zero_le _⟩ 0 rfl rfl [2] [0, 1, 3, 4, 5] [0, 1, 5, 2, 3, 4] rfl (by decide) (wr := [(a0, .inr (6, [.ref a_now, .ref a_thought, .ref a_kept, .int s_isKept, .ref a_reader, .ref a_texts, .int s_textCount, .ref a_sight, .ref a_most, .ref a_sheets])), (a_sheets, .inl (vxT x 2, 4, .inr (.inr (.inr (.inr s_sheets))))), (a_ot, .inr (3, [.int ot_sort, .int ot_size, .ref a_ot_items])), (a_sh_items, .inl (vxT x 0, 40, .inl sh_items)), (a_ot_items, .inl (vxT x 0, 40, .inl ot_items))]) rfl (by decide) (by decide) (ws2 := [(a0, .inr (6, [.ref a_now, .ref a_thought, .ref a_kept, .int s_isKept, .ref a_reader, .ref a_texts, .int s_textCount, .ref a_sight, .ref a_most, .ref a_sheets])), (a_sheets, .inl (vxT x 2, 4, .inr (.inr (.inr (.inr s_sheets))))), (a_sh, .inr (3, [.int sh_sort, .int sh_size, .ref a_sh_items])), (a_ot, .inr (3, [.int ot_sort, .int ot_size, .ref a_ot_items])), (a_sh_items, .inl (vxT x 0, 40, .inl sh_items)), (a_ot_items, .inl (vxT x 0, 40, .inl ot_items))]) rfl (by decide) (Nat.le_of_ble_eq_true rfl) rfl dX6_copy_35 ?_
      refine v_if_ne X (tgt := 49) hf (by decide) dX6_copy_38 (fun c38 hf => ?_) (fun c38 hf => ?_)
      · refine v_bipush X (v := (-11)) (by decide) dX6_copy_49 ?_
        obtain rfl := Option.some.inj hf
        exact v_iret hR dX6_copy_51
      · refine v_aload X 0 rfl dX6_copy_41 ?_
        obtain ⟨v43_4, hv43_4, hf⟩ := bd_some hf
        refine v_callI X (c_X3_isMissing X.2.2.2.2.2.2.2.1 hv43_4) cwv_X6_260 rfl (by decide) ⟨Nat.zero_le _, Nat.zero_le _⟩ 0 rfl rfl [3] [0, 1, 2, 4, 5] [0, 1, 2, 5, 3, 4] rfl (by decide) (wr := [(a0, .inr (6, [.ref a_now, .ref a_thought, .ref a_kept, .int s_isKept, .ref a_reader, .ref a_texts, .int s_textCount, .ref a_sight, .ref a_most, .ref a_sheets])), (a_sheets, .inl (vxT x 2, 4, .inr (.inr (.inr (.inr s_sheets))))), (a_sh, .inr (3, [.int sh_sort, .int sh_size, .ref a_sh_items])), (a_sh_items, .inl (vxT x 0, 40, .inl sh_items)), (a_ot_items, .inl (vxT x 0, 40, .inl ot_items))]) rfl (by decide) (by decide) (ws2 := [(a0, .inr (6, [.ref a_now, .ref a_thought, .ref a_kept, .int s_isKept, .ref a_reader, .ref a_texts, .int s_textCount, .ref a_sight, .ref a_most, .ref a_sheets])), (a_sheets, .inl (vxT x 2, 4, .inr (.inr (.inr (.inr s_sheets))))), (a_sh, .inr (3, [.int sh_sort, .int sh_size, .ref a_sh_items])), (a_ot, .inr (3, [.int ot_sort, .int ot_size, .ref a_ot_items])), (a_sh_items, .inl (vxT x 0, 40, .inl sh_items)), (a_ot_items, .inl (vxT x 0, 40, .inl ot_items))]) rfl (by decide) (Nat.le_of_ble_eq_true rfl) rfl dX6_copy_43 ?_
        refine v_if_eq X (tgt := 52) hf (by decide) dX6_copy_46 (fun c46 hf => ?_) (fun c46 hf => ?_)
        · refine v_aload X 1 rfl dX6_copy_52 ?_
          refine v_get X xinX3 2 rfl rfl 0 (by decide) wd744 rfl rfl dX6_copy_54 ?_
          refine v_aload X 0 rfl dX6_copy_57 ?_
          refine v_get X xinX3 3 rfl rfl 0 (by decide) wd744 rfl rfl dX6_copy_59 ?_
          refine v_icmp_eq X (tgt := 68) hf (by decide) dX6_copy_62 (fun c62 hf => ?_) (fun c62 hf => ?_)
          · refine v_aload X 1 rfl dX6_copy_68 ?_
            refine v_iload_n X 4 rfl dX6_copy_70 ?_
            refine v_iload X 7 rfl dX6_copy_71 ?_
            obtain ⟨v73_5, hv73_5, hf⟩ := bd_some hf
            refine v_callI X (c_X3_hasItems X.2.2.2.2.2.2.2.1 hv73_5) cwv_X6_295 rfl (by decide) ⟨Nat.zero_le _, Nat.zero_le _⟩ 0 rfl rfl [2] [0, 1, 3, 4, 5] [0, 1, 5, 2, 3, 4] rfl (by decide) (wr := [(a0, .inr (6, [.ref a_now, .ref a_thought, .ref a_kept, .int s_isKept, .ref a_reader, .ref a_texts, .int s_textCount, .ref a_sight, .ref a_most, .ref a_sheets])), (a_sheets, .inl (vxT x 2, 4, .inr (.inr (.inr (.inr s_sheets))))), (a_ot, .inr (3, [.int ot_sort, .int ot_size, .ref a_ot_items])), (a_sh_items, .inl (vxT x 0, 40, .inl sh_items)), (a_ot_items, .inl (vxT x 0, 40, .inl ot_items))]) rfl (by decide) (by decide) (ws2 := [(a0, .inr (6, [.ref a_now, .ref a_thought, .ref a_kept, .int s_isKept, .ref a_reader, .ref a_texts, .int s_textCount, .ref a_sight, .ref a_most, .ref a_sheets])), (a_sheets, .inl (vxT x 2, 4, .inr (.inr (.inr (.inr s_sheets))))), (a_sh, .inr (3, [.int sh_sort, .int sh_size, .ref a_sh_items])), (a_ot, .inr (3, [.int ot_sort, .int ot_size, .ref a_ot_items])), (a_sh_items, .inl (vxT x 0, 40, .inl sh_items)), (a_ot_items, .inl (vxT x 0, 40, .inl ot_items))]) rfl (by decide) (Nat.le_of_ble_eq_true rfl) rfl dX6_copy_73 ?_
            refine v_if_eq X (tgt := 91) hf (by decide) dX6_copy_76 (fun c76 hf => ?_) (fun c76 hf => ?_)
            · refine v_bipush X (v := (-12)) (by decide) dX6_copy_91 ?_
              obtain rfl := Option.some.inj hf
              exact v_iret hR dX6_copy_93
            · refine v_aload X 0 rfl dX6_copy_79 ?_
              refine v_iload X 6 rfl dX6_copy_81 ?_
              refine v_iload X 7 rfl dX6_copy_83 ?_
              obtain ⟨v85_6, hv85_6, hf⟩ := bd_some hf
              refine v_callI X (c_X3_hasItems X.2.2.2.2.2.2.2.1 hv85_6) cwv_X6_295 rfl (by decide) ⟨Nat.zero_le _, Nat.zero_le _⟩ 0 rfl rfl [3] [0, 1, 2, 4, 5] [0, 1, 2, 5, 3, 4] rfl (by decide) (wr := [(a0, .inr (6, [.ref a_now, .ref a_thought, .ref a_kept, .int s_isKept, .ref a_reader, .ref a_texts, .int s_textCount, .ref a_sight, .ref a_most, .ref a_sheets])), (a_sheets, .inl (vxT x 2, 4, .inr (.inr (.inr (.inr s_sheets))))), (a_sh, .inr (3, [.int sh_sort, .int sh_size, .ref a_sh_items])), (a_sh_items, .inl (vxT x 0, 40, .inl sh_items)), (a_ot_items, .inl (vxT x 0, 40, .inl ot_items))]) rfl (by decide) (by decide) (ws2 := [(a0, .inr (6, [.ref a_now, .ref a_thought, .ref a_kept, .int s_isKept, .ref a_reader, .ref a_texts, .int s_textCount, .ref a_sight, .ref a_most, .ref a_sheets])), (a_sheets, .inl (vxT x 2, 4, .inr (.inr (.inr (.inr s_sheets))))), (a_sh, .inr (3, [.int sh_sort, .int sh_size, .ref a_sh_items])), (a_ot, .inr (3, [.int ot_sort, .int ot_size, .ref a_ot_items])), (a_sh_items, .inl (vxT x 0, 40, .inl sh_items)), (a_ot_items, .inl (vxT x 0, 40, .inl ot_items))]) rfl (by decide) (Nat.le_of_ble_eq_true rfl) rfl dX6_copy_85 ?_
              refine v_if_ne X (tgt := 94) hf (by decide) dX6_copy_88 (fun c88 hf => ?_) (fun c88 hf => ?_)
              · refine v_aload X 1 rfl dX6_copy_94 ?_
                refine v_get X xinX3 2 rfl rfl 2 (by decide) wd702 rfl rfl dX6_copy_96 ?_
                refine v_iload_n X 4 rfl dX6_copy_99 ?_
                refine v_aload X 0 rfl dX6_copy_100 ?_
                refine v_get X xinX3 3 rfl rfl 2 (by decide) wd702 rfl rfl dX6_copy_102 ?_
                refine v_iload X 6 rfl dX6_copy_105 ?_
                refine v_iload X 7 rfl dX6_copy_107 ?_
                refine v_copyi X wd745 4 5 rfl rfl hf (ws' := [(a0, .inr (6, [.ref a_now, .ref a_thought, .ref a_kept, .int s_isKept, .ref a_reader, .ref a_texts, .int s_textCount, .ref a_sight, .ref a_most, .ref a_sheets])), (a_sheets, .inl (vxT x 2, 4, .inr (.inr (.inr (.inr s_sheets))))), (a_sh, .inr (3, [.int sh_sort, .int sh_size, .ref a_sh_items])), (a_ot, .inr (3, [.int ot_sort, .int ot_size, .ref a_ot_items])), (a_sh_items, .inl (vxT x 0, 40, .inl sh_items)), (a_ot_items, .inl (vxT x 0, 40, .inl (va_cpy sh_items ot_items (Int32.toNatClampNeg l2) (Int32.toNatClampNeg l4) (Int32.toNatClampNeg l5))))]) rfl (by decide) (Nat.le_of_ble_eq_true rfl) dX6_copy_109 (fun h109 hf => ?_)
                refine v_iload X 7 rfl dX6_copy_112 ?_
                obtain rfl := Option.some.inj hf
                exact v_iret hR dX6_copy_114
              · refine v_bipush X (v := (-12)) (by decide) dX6_copy_91 ?_
                obtain rfl := Option.some.inj hf
                exact v_iret hR dX6_copy_93
          · refine v_bipush X (v := (-13)) (by decide) dX6_copy_65 ?_
            obtain rfl := Option.some.inj hf
            exact v_iret hR dX6_copy_67
        · refine v_bipush X (v := (-11)) (by decide) dX6_copy_49 ?_
          obtain rfl := Option.some.inj hf
          exact v_iret hR dX6_copy_51
    · refine v_bipush X (v := (-2)) (by decide) dX6_copy_14 ?_
      obtain rfl := Option.some.inj hf
      exact v_iret hR dX6_copy_16
set_option maxRecDepth 100000 in
set_option maxHeartbeats 4000000 in
theorem c_X6_copy {l : Launch} {D : va_G} {qT : Nat → ClassId} {Z : (Nat → Prop) → State → Heap → Prop} {r : Int32 × (Nat → Int32)} {a0 : Nat} {a_sheets : Nat} {a_sh : Nat} {a_ot : Nat} {a_sh_items : Nat} {a_ot_items : Nat} {a_now : Nat} {a_thought : Nat} {a_kept : Nat} {a_reader : Nat} {a_texts : Nat} {a_sight : Nat} {a_most : Nat} {s_isKept : Int32} {s_textCount : Int32} {s_sheets : Nat → Option Nat} {sh_sort : Int32} {sh_size : Int32} {ot_sort : Int32} {ot_size : Int32} {sh_items : Nat → Int32} {ot_items : Nat → Int32} {l1 : Int32} {l2 : Int32} {l3 : Int32} {l4 : Int32} {l5 : Int32} (hZ : ZOK Z) (hsh0 : s_sheets (Int32.toNatClampNeg l1) = some a_sh) (hsh1 : s_sheets (Int32.toNatClampNeg l3) = some a_ot) (hf : f_X6_copy l1 l2 l3 l4 l5 sh_sort sh_size ot_sort ot_size sh_items ot_items = some r) :
    CI l D qT Z yX6_copy cX6_copy 8 (some .int) 2 0 0 [.ref a0, .int l1, .int l2, .int l3, .int l4, .int l5] [(a0, .inr (6, [.ref a_now, .ref a_thought, .ref a_kept, .int s_isKept, .ref a_reader, .ref a_texts, .int s_textCount, .ref a_sight, .ref a_most, .ref a_sheets])), (a_sheets, .inl (qT 2, 4, .inr (.inr (.inr (.inr s_sheets))))), (a_sh, .inr (3, [.int sh_sort, .int sh_size, .ref a_sh_items])), (a_ot, .inr (3, [.int ot_sort, .int ot_size, .ref a_ot_items])), (a_sh_items, .inl (qT 0, 40, .inl sh_items)), (a_ot_items, .inl (qT 0, 40, .inl ot_items))] r.1 [(a0, .inr (6, [.ref a_now, .ref a_thought, .ref a_kept, .int s_isKept, .ref a_reader, .ref a_texts, .int s_textCount, .ref a_sight, .ref a_most, .ref a_sheets])), (a_sheets, .inl (qT 2, 4, .inr (.inr (.inr (.inr s_sheets))))), (a_sh, .inr (3, [.int sh_sort, .int sh_size, .ref a_sh_items])), (a_ot, .inr (3, [.int ot_sort, .int ot_size, .ref a_ot_items])), (a_sh_items, .inl (qT 0, 40, .inl sh_items)), (a_ot_items, .inl (qT 0, 40, .inl r.2))] := by
  refine CI_of hZ (by decide) (Nat.le_of_ble_eq_true rfl) ?_
  intro x e1 e2 e3 e4 e5 e6 hin X hR
  subst e1 e2 e3 e4
  exact t_X6_copy X e6 hsh0 hsh1 hR hf
def f_X6_copyS (l1 : Int32) (l2 : Int32) (l3 : Int32) (l4 : Int32) (l5 : Int32) (sh_sort : Int32) (sh_size : Int32) (sh_items : Nat → Int32) : Option (Int32 × (Nat → Int32)) :=
  (f_X6_isSheet l1).bind (fun v1_1 =>
  if v1_1 = 0 then (
  some ((-2), sh_items)) else (
  (f_X6_isSheet l3).bind (fun v8_2 =>
  if v8_2 = 0 then (
  some ((-2), sh_items)) else (
  if inb l1 4 = true then (
  if inb l3 4 = true then (
  (f_X3_isMissing sh_sort).bind (fun v35_3 =>
  if v35_3 = 0 then (
  (f_X3_isMissing sh_sort).bind (fun v43_4 =>
  if v43_4 = 0 then (
  if sh_sort = sh_sort then (
  (f_X3_hasItems l2 l5 sh_size).bind (fun v73_5 =>
  if v73_5 = 0 then (
  some ((-12), sh_items)) else (
  (f_X3_hasItems l4 l5 sh_size).bind (fun v85_6 =>
  if v85_6 = 0 then (
  some ((-12), sh_items)) else (
  if cpok l2 l4 l5 40 40 = true then (
  some (l5, (va_cpy sh_items sh_items (Int32.toNatClampNeg l2) (Int32.toNatClampNeg l4) (Int32.toNatClampNeg l5)))) else none))))) else (
  some ((-13), sh_items))) else (
  some ((-11), sh_items)))) else (
  some ((-11), sh_items)))) else none) else none))))
set_option maxRecDepth 100000 in
set_option maxHeartbeats 4000000 in
theorem t_X6_copyS {x : VX} {r : Int32 × (Nat → Int32)} {a0 : Nat} {a_sheets : Nat} {a_sh : Nat} {a_sh_items : Nat} {a_now : Nat} {a_thought : Nat} {a_kept : Nat} {a_reader : Nat} {a_texts : Nat} {a_sight : Nat} {a_most : Nat} {s_isKept : Int32} {s_textCount : Int32} {s_sheets : Nat → Option Nat} {sh_sort : Int32} {sh_size : Int32} {sh_items : Nat → Int32} {l1 : Int32} {l2 : Int32} {l3 : Int32} {l4 : Int32} {l5 : Int32} (X : Cx x cX6_copy RX6 2) (hN : vxn x = 8) (hsh0 : s_sheets (Int32.toNatClampNeg l1) = some a_sh) (hsh1 : s_sheets (Int32.toNatClampNeg l3) = some a_sh) (hR : RetI x cX6_copy 0 0 r.1 [(a0, .inr (6, [.ref a_now, .ref a_thought, .ref a_kept, .int s_isKept, .ref a_reader, .ref a_texts, .int s_textCount, .ref a_sight, .ref a_most, .ref a_sheets])), (a_sheets, .inl (vxT x 2, 4, .inr (.inr (.inr (.inr s_sheets))))), (a_sh, .inr (3, [.int sh_sort, .int sh_size, .ref a_sh_items])), (a_sh_items, .inl (vxT x 0, 40, .inl r.2))]) (hf : f_X6_copyS l1 l2 l3 l4 l5 sh_sort sh_size sh_items = some r) : V x 0 0 [(a0, .inr (6, [.ref a_now, .ref a_thought, .ref a_kept, .int s_isKept, .ref a_reader, .ref a_texts, .int s_textCount, .ref a_sight, .ref a_most, .ref a_sheets])), (a_sheets, .inl (vxT x 2, 4, .inr (.inr (.inr (.inr s_sheets))))), (a_sh, .inr (3, [.int sh_sort, .int sh_size, .ref a_sh_items])), (a_sh_items, .inl (vxT x 0, 40, .inl sh_items))] [(0, .ref a0), (1, .int l1), (2, .int l2), (3, .int l3), (4, .int l4), (5, .int l5)] 0 [] := by
  unfold f_X6_copyS at hf
  refine v_iload_n X 1 rfl dX6_copy_0 ?_
  obtain ⟨v1_1, hv1_1, hf⟩ := bd_some hf
  refine v_scallI X (c_X6_isSheet X.2.2.2.2.2.2.2.1 hv1_1) cws_X6_257 rfl (by decide) ⟨Nat.zero_le _, Nat.zero_le _⟩ [] [0, 1, 2, 3] [0, 1, 2, 3] rfl (by decide) (wr := [(a0, .inr (6, [.ref a_now, .ref a_thought, .ref a_kept, .int s_isKept, .ref a_reader, .ref a_texts, .int s_textCount, .ref a_sight, .ref a_most, .ref a_sheets])), (a_sheets, .inl (vxT x 2, 4, .inr (.inr (.inr (.inr s_sheets))))), (a_sh, .inr (3, [.int sh_sort, .int sh_size, .ref a_sh_items])), (a_sh_items, .inl (vxT x 0, 40, .inl sh_items))]) rfl (by decide) (by decide) (ws2 := [(a0, .inr (6, [.ref a_now, .ref a_thought, .ref a_kept, .int s_isKept, .ref a_reader, .ref a_texts, .int s_textCount, .ref a_sight, .ref a_most, .ref a_sheets])), (a_sheets, .inl (vxT x 2, 4, .inr (.inr (.inr (.inr s_sheets))))), (a_sh, .inr (3, [.int sh_sort, .int sh_size, .ref a_sh_items])), (a_sh_items, .inl (vxT x 0, 40, .inl sh_items))]) rfl (by decide) (Nat.le_of_ble_eq_true rfl) rfl dX6_copy_1 ?_
  refine v_if_eq X (tgt := 14) hf (by decide) dX6_copy_4 (fun c4 hf => ?_) (fun c4 hf => ?_)
  · refine v_bipush X (v := (-2)) (by decide) dX6_copy_14 ?_
    obtain rfl := Option.some.inj hf
    exact v_iret hR dX6_copy_16
  · refine v_iload_n X 3 rfl dX6_copy_7 ?_
    obtain ⟨v8_2, hv8_2, hf⟩ := bd_some hf
    refine v_scallI X (c_X6_isSheet X.2.2.2.2.2.2.2.1 hv8_2) cws_X6_257 rfl (by decide) ⟨Nat.zero_le _, Nat.zero_le _⟩ [] [0, 1, 2, 3] [0, 1, 2, 3] rfl (by decide) (wr := [(a0, .inr (6, [.ref a_now, .ref a_thought, .ref a_kept, .int s_isKept, .ref a_reader, .ref a_texts, .int s_textCount, .ref a_sight, .ref a_most, .ref a_sheets])), (a_sheets, .inl (vxT x 2, 4, .inr (.inr (.inr (.inr s_sheets))))), (a_sh, .inr (3, [.int sh_sort, .int sh_size, .ref a_sh_items])), (a_sh_items, .inl (vxT x 0, 40, .inl sh_items))]) rfl (by decide) (by decide) (ws2 := [(a0, .inr (6, [.ref a_now, .ref a_thought, .ref a_kept, .int s_isKept, .ref a_reader, .ref a_texts, .int s_textCount, .ref a_sight, .ref a_most, .ref a_sheets])), (a_sheets, .inl (vxT x 2, 4, .inr (.inr (.inr (.inr s_sheets))))), (a_sh, .inr (3, [.int sh_sort, .int sh_size, .ref a_sh_items])), (a_sh_items, .inl (vxT x 0, 40, .inl sh_items))]) rfl (by decide) (Nat.le_of_ble_eq_true rfl) rfl dX6_copy_8 ?_
    refine v_if_ne X (tgt := 17) hf (by decide) dX6_copy_11 (fun c11 hf => ?_) (fun c11 hf => ?_)
    · refine v_aload_n X 0 rfl dX6_copy_17 ?_
      refine v_get X xinX6 0 rfl rfl 9 (by decide) wd707 rfl rfl dX6_copy_18 ?_
      refine v_iload_n X 1 rfl dX6_copy_21 ?_
      obtain ⟨h22, hf⟩ := if_some hf
      refine v_aald X 1 2 rfl rfl h22 dX6_copy_22 ?_
      refine v_eq (st' := [.ref a_sh]) (by rw [hsh0]; rfl) ?_
      refine v_astore X (by rw [hN]; decide) (lv' := [(6, .ref a_sh), (0, .ref a0), (1, .int l1), (2, .int l2), (3, .int l3), (4, .int l4), (5, .int l5)]) rfl dX6_copy_23 ?_
      refine v_aload_n X 1 rfl dX6_copy_25 ?_
      refine v_get X xinX6 0 rfl rfl 9 (by decide) wd707 rfl rfl dX6_copy_26 ?_
      refine v_iload_n X 4 rfl dX6_copy_29 ?_
      obtain ⟨h30, hf⟩ := if_some hf
      refine v_aald X 1 2 rfl rfl h30 dX6_copy_30 ?_
      refine v_eq (st' := [.ref a_sh]) (by rw [hsh1]; rfl) ?_
      refine v_astore X (by rw [hN]; decide) (lv' := [(7, .ref a_sh), (6, .ref a_sh), (0, .ref a0), (1, .int l1), (2, .int l2), (3, .int l3), (4, .int l4), (5, .int l5)]) rfl dX6_copy_31 ?_
      refine v_aload X 1 rfl dX6_copy_33 ?_
      obtain ⟨v35_3, hv35_3, hf⟩ := bd_some hf
      refine v_callI X (c_X3_isMissing X.2.2.2.2.2.2.2.1 hv35_3) cwv_X6_260 rfl (by decide) ⟨Nat.zero_le _, Nat.zero_le _⟩ 0 rfl rfl [2] [0, 1, 3] [0, 1, 3, 2] rfl (by decide) (wr := [(a0, .inr (6, [.ref a_now, .ref a_thought, .ref a_kept, .int s_isKept, .ref a_reader, .ref a_texts, .int s_textCount, .ref a_sight, .ref a_most, .ref a_sheets])), (a_sheets, .inl (vxT x 2, 4, .inr (.inr (.inr (.inr s_sheets))))), (a_sh_items, .inl (vxT x 0, 40, .inl sh_items))]) rfl (by decide) (by decide) (ws2 := [(a0, .inr (6, [.ref a_now, .ref a_thought, .ref a_kept, .int s_isKept, .ref a_reader, .ref a_texts, .int s_textCount, .ref a_sight, .ref a_most, .ref a_sheets])), (a_sheets, .inl (vxT x 2, 4, .inr (.inr (.inr (.inr s_sheets))))), (a_sh, .inr (3, [.int sh_sort, .int sh_size, .ref a_sh_items])), (a_sh_items, .inl (vxT x 0, 40, .inl sh_items))]) rfl (by decide) (Nat.le_of_ble_eq_true rfl) rfl dX6_copy_35 ?_
      refine v_if_ne X (tgt := 49) hf (by decide) dX6_copy_38 (fun c38 hf => ?_) (fun c38 hf => ?_)
      · refine v_bipush X (v := (-11)) (by decide) dX6_copy_49 ?_
        obtain rfl := Option.some.inj hf
        exact v_iret hR dX6_copy_51
      · refine v_aload X 0 rfl dX6_copy_41 ?_
        obtain ⟨v43_4, hv43_4, hf⟩ := bd_some hf
        refine v_callI X (c_X3_isMissing X.2.2.2.2.2.2.2.1 hv43_4) cwv_X6_260 rfl (by decide) ⟨Nat.zero_le _, Nat.zero_le _⟩ 0 rfl rfl [2] [0, 1, 3] [0, 1, 3, 2] rfl (by decide) (wr := [(a0, .inr (6, [.ref a_now, .ref a_thought, .ref a_kept, .int s_isKept, .ref a_reader, .ref a_texts, .int s_textCount, .ref a_sight, .ref a_most, .ref a_sheets])), (a_sheets, .inl (vxT x 2, 4, .inr (.inr (.inr (.inr s_sheets))))), (a_sh_items, .inl (vxT x 0, 40, .inl sh_items))]) rfl (by decide) (by decide) (ws2 := [(a0, .inr (6, [.ref a_now, .ref a_thought, .ref a_kept, .int s_isKept, .ref a_reader, .ref a_texts, .int s_textCount, .ref a_sight, .ref a_most, .ref a_sheets])), (a_sheets, .inl (vxT x 2, 4, .inr (.inr (.inr (.inr s_sheets))))), (a_sh, .inr (3, [.int sh_sort, .int sh_size, .ref a_sh_items])), (a_sh_items, .inl (vxT x 0, 40, .inl sh_items))]) rfl (by decide) (Nat.le_of_ble_eq_true rfl) rfl dX6_copy_43 ?_
        refine v_if_eq X (tgt := 52) hf (by decide) dX6_copy_46 (fun c46 hf => ?_) (fun c46 hf => ?_)
        · refine v_aload X 1 rfl dX6_copy_52 ?_
          refine v_get X xinX3 2 rfl rfl 0 (by decide) wd744 rfl rfl dX6_copy_54 ?_
          refine v_aload X 0 rfl dX6_copy_57 ?_
          refine v_get X xinX3 2 rfl rfl 0 (by decide) wd744 rfl rfl dX6_copy_59 ?_
          refine v_icmp_eq X (tgt := 68) hf (by decide) dX6_copy_62 (fun c62 hf => ?_) (fun c62 hf => ?_)
          · refine v_aload X 1 rfl dX6_copy_68 ?_
            refine v_iload_n X 4 rfl dX6_copy_70 ?_
            refine v_iload X 7 rfl dX6_copy_71 ?_
            obtain ⟨v73_5, hv73_5, hf⟩ := bd_some hf
            refine v_callI X (c_X3_hasItems X.2.2.2.2.2.2.2.1 hv73_5) cwv_X6_295 rfl (by decide) ⟨Nat.zero_le _, Nat.zero_le _⟩ 0 rfl rfl [2] [0, 1, 3] [0, 1, 3, 2] rfl (by decide) (wr := [(a0, .inr (6, [.ref a_now, .ref a_thought, .ref a_kept, .int s_isKept, .ref a_reader, .ref a_texts, .int s_textCount, .ref a_sight, .ref a_most, .ref a_sheets])), (a_sheets, .inl (vxT x 2, 4, .inr (.inr (.inr (.inr s_sheets))))), (a_sh_items, .inl (vxT x 0, 40, .inl sh_items))]) rfl (by decide) (by decide) (ws2 := [(a0, .inr (6, [.ref a_now, .ref a_thought, .ref a_kept, .int s_isKept, .ref a_reader, .ref a_texts, .int s_textCount, .ref a_sight, .ref a_most, .ref a_sheets])), (a_sheets, .inl (vxT x 2, 4, .inr (.inr (.inr (.inr s_sheets))))), (a_sh, .inr (3, [.int sh_sort, .int sh_size, .ref a_sh_items])), (a_sh_items, .inl (vxT x 0, 40, .inl sh_items))]) rfl (by decide) (Nat.le_of_ble_eq_true rfl) rfl dX6_copy_73 ?_
            refine v_if_eq X (tgt := 91) hf (by decide) dX6_copy_76 (fun c76 hf => ?_) (fun c76 hf => ?_)
            · refine v_bipush X (v := (-12)) (by decide) dX6_copy_91 ?_
              obtain rfl := Option.some.inj hf
              exact v_iret hR dX6_copy_93
            · refine v_aload X 0 rfl dX6_copy_79 ?_
              refine v_iload X 6 rfl dX6_copy_81 ?_
              refine v_iload X 7 rfl dX6_copy_83 ?_
              obtain ⟨v85_6, hv85_6, hf⟩ := bd_some hf
              refine v_callI X (c_X3_hasItems X.2.2.2.2.2.2.2.1 hv85_6) cwv_X6_295 rfl (by decide) ⟨Nat.zero_le _, Nat.zero_le _⟩ 0 rfl rfl [2] [0, 1, 3] [0, 1, 3, 2] rfl (by decide) (wr := [(a0, .inr (6, [.ref a_now, .ref a_thought, .ref a_kept, .int s_isKept, .ref a_reader, .ref a_texts, .int s_textCount, .ref a_sight, .ref a_most, .ref a_sheets])), (a_sheets, .inl (vxT x 2, 4, .inr (.inr (.inr (.inr s_sheets))))), (a_sh_items, .inl (vxT x 0, 40, .inl sh_items))]) rfl (by decide) (by decide) (ws2 := [(a0, .inr (6, [.ref a_now, .ref a_thought, .ref a_kept, .int s_isKept, .ref a_reader, .ref a_texts, .int s_textCount, .ref a_sight, .ref a_most, .ref a_sheets])), (a_sheets, .inl (vxT x 2, 4, .inr (.inr (.inr (.inr s_sheets))))), (a_sh, .inr (3, [.int sh_sort, .int sh_size, .ref a_sh_items])), (a_sh_items, .inl (vxT x 0, 40, .inl sh_items))]) rfl (by decide) (Nat.le_of_ble_eq_true rfl) rfl dX6_copy_85 ?_
              refine v_if_ne X (tgt := 94) hf (by decide) dX6_copy_88 (fun c88 hf => ?_) (fun c88 hf => ?_)
              · refine v_aload X 1 rfl dX6_copy_94 ?_
                refine v_get X xinX3 2 rfl rfl 2 (by decide) wd702 rfl rfl dX6_copy_96 ?_
                refine v_iload_n X 4 rfl dX6_copy_99 ?_
                refine v_aload X 0 rfl dX6_copy_100 ?_
                refine v_get X xinX3 2 rfl rfl 2 (by decide) wd702 rfl rfl dX6_copy_102 ?_
                refine v_iload X 6 rfl dX6_copy_105 ?_
                refine v_iload X 7 rfl dX6_copy_107 ?_
                refine v_copyi X wd745 3 3 rfl rfl hf (ws' := [(a0, .inr (6, [.ref a_now, .ref a_thought, .ref a_kept, .int s_isKept, .ref a_reader, .ref a_texts, .int s_textCount, .ref a_sight, .ref a_most, .ref a_sheets])), (a_sheets, .inl (vxT x 2, 4, .inr (.inr (.inr (.inr s_sheets))))), (a_sh, .inr (3, [.int sh_sort, .int sh_size, .ref a_sh_items])), (a_sh_items, .inl (vxT x 0, 40, .inl (va_cpy sh_items sh_items (Int32.toNatClampNeg l2) (Int32.toNatClampNeg l4) (Int32.toNatClampNeg l5))))]) rfl (by decide) (Nat.le_of_ble_eq_true rfl) dX6_copy_109 (fun h109 hf => ?_)
                refine v_iload X 7 rfl dX6_copy_112 ?_
                obtain rfl := Option.some.inj hf
                exact v_iret hR dX6_copy_114
              · refine v_bipush X (v := (-12)) (by decide) dX6_copy_91 ?_
                obtain rfl := Option.some.inj hf
                exact v_iret hR dX6_copy_93
          · refine v_bipush X (v := (-13)) (by decide) dX6_copy_65 ?_
            obtain rfl := Option.some.inj hf
            exact v_iret hR dX6_copy_67
        · refine v_bipush X (v := (-11)) (by decide) dX6_copy_49 ?_
          obtain rfl := Option.some.inj hf
          exact v_iret hR dX6_copy_51
    · refine v_bipush X (v := (-2)) (by decide) dX6_copy_14 ?_
      obtain rfl := Option.some.inj hf
      exact v_iret hR dX6_copy_16
set_option maxRecDepth 100000 in
set_option maxHeartbeats 4000000 in
theorem c_X6_copyS {l : Launch} {D : va_G} {qT : Nat → ClassId} {Z : (Nat → Prop) → State → Heap → Prop} {r : Int32 × (Nat → Int32)} {a0 : Nat} {a_sheets : Nat} {a_sh : Nat} {a_sh_items : Nat} {a_now : Nat} {a_thought : Nat} {a_kept : Nat} {a_reader : Nat} {a_texts : Nat} {a_sight : Nat} {a_most : Nat} {s_isKept : Int32} {s_textCount : Int32} {s_sheets : Nat → Option Nat} {sh_sort : Int32} {sh_size : Int32} {sh_items : Nat → Int32} {l1 : Int32} {l2 : Int32} {l3 : Int32} {l4 : Int32} {l5 : Int32} (hZ : ZOK Z) (hsh0 : s_sheets (Int32.toNatClampNeg l1) = some a_sh) (hsh1 : s_sheets (Int32.toNatClampNeg l3) = some a_sh) (hf : f_X6_copyS l1 l2 l3 l4 l5 sh_sort sh_size sh_items = some r) :
    CI l D qT Z yX6_copy cX6_copy 8 (some .int) 2 0 0 [.ref a0, .int l1, .int l2, .int l3, .int l4, .int l5] [(a0, .inr (6, [.ref a_now, .ref a_thought, .ref a_kept, .int s_isKept, .ref a_reader, .ref a_texts, .int s_textCount, .ref a_sight, .ref a_most, .ref a_sheets])), (a_sheets, .inl (qT 2, 4, .inr (.inr (.inr (.inr s_sheets))))), (a_sh, .inr (3, [.int sh_sort, .int sh_size, .ref a_sh_items])), (a_sh_items, .inl (qT 0, 40, .inl sh_items))] r.1 [(a0, .inr (6, [.ref a_now, .ref a_thought, .ref a_kept, .int s_isKept, .ref a_reader, .ref a_texts, .int s_textCount, .ref a_sight, .ref a_most, .ref a_sheets])), (a_sheets, .inl (qT 2, 4, .inr (.inr (.inr (.inr s_sheets))))), (a_sh, .inr (3, [.int sh_sort, .int sh_size, .ref a_sh_items])), (a_sh_items, .inl (qT 0, 40, .inl r.2))] := by
  refine CI_of hZ (by decide) (Nat.le_of_ble_eq_true rfl) ?_
  intro x e1 e2 e3 e4 e5 e6 hin X hR
  subst e1 e2 e3 e4
  exact t_X6_copyS X e6 hsh0 hsh1 hR hf
def f_X6_painters_69 (sh_size : Int32) (sh_items : Nat → Int32) (l4 : Int32) (kp_69 : Int32 → Int32 → Int32 → Int32 → (Nat → Int32) → (Nat → Int32) → (Nat → Int32) → (Nat → Int32) → (Nat → Int32) → Option (Int32 × Int32 × (Nat → Int32) × (Nat → Int32) × (Nat → Int32) × (Nat → Int32) × (Nat → Int32))) (l6 : Int32) (l7 : Int32) (l8 : Int32) (now_painters : Int32) (now_easel : Nat → Int32) (now_kind : Nat → Int32) (now_number : Nat → Int32) (now_had : Nat → Int32) (now_pleased : Nat → Int32) : Option (Int32 × Int32 × (Nat → Int32) × (Nat → Int32) × (Nat → Int32) × (Nat → Int32) × (Nat → Int32)) :=
  if l4 ≤ l8 then (
  some (l6, now_painters, now_easel, now_kind, now_number, now_had, now_pleased)) else (
  (f_X3_hasItems l7 3 sh_size).bind (fun v81_4 =>
  if v81_4 = 0 then (
  some ((-12), now_painters, now_easel, now_kind, now_number, now_had, now_pleased)) else (
  if inb l7 40 = true then (
  if inb (l7 + 1) 40 = true then (
  if inb (l7 + 2) 40 = true then (
  (f_X6_painter (sh_items (Int32.toNatClampNeg l7)) (sh_items (Int32.toNatClampNeg (l7 + 1))) (sh_items (Int32.toNatClampNeg (l7 + 2))) now_painters now_easel now_kind now_number now_had now_pleased).bind (fun v119_5 =>
  if v119_5.1 < 0 then (
  kp_69 l6 (l7 + 3) (l8 + 1) v119_5.2.1 v119_5.2.2.1 v119_5.2.2.2.1 v119_5.2.2.2.2.1 v119_5.2.2.2.2.2.1 v119_5.2.2.2.2.2.2) else (
  kp_69 (l6 + 1) (l7 + 3) (l8 + 1) v119_5.2.1 v119_5.2.2.1 v119_5.2.2.2.1 v119_5.2.2.2.2.1 v119_5.2.2.2.2.2.1 v119_5.2.2.2.2.2.2))) else none) else none) else none)))
def f_X6_painters (l1 : Int32) (l2 : Int32) (l3 : Int32) (l4 : Int32) (sh_sort : Int32) (sh_size : Int32) (sh_items : Nat → Int32) (now_painters : Int32) (now_easel : Nat → Int32) (now_kind : Nat → Int32) (now_number : Nat → Int32) (now_had : Nat → Int32) (now_pleased : Nat → Int32) : Option (Int32 × Int32 × (Nat → Int32) × (Nat → Int32) × (Nat → Int32) × (Nat → Int32) × (Nat → Int32)) :=
  (f_X6_isSheet l1).bind (fun v1_1 =>
  if v1_1 = 0 then (
  some ((-2), now_painters, now_easel, now_kind, now_number, now_had, now_pleased)) else (
  (f_X6_isSort l2).bind (fun v8_2 =>
  if v8_2 = 0 then (
  some ((-2), now_painters, now_easel, now_kind, now_number, now_had, now_pleased)) else (
  if l4 < 0 then (
  some ((-2), now_painters, now_easel, now_kind, now_number, now_had, now_pleased)) else (
  if l4 ≤ 6 then (
  if inb l1 4 = true then (
  (f_X3_isMissing sh_sort).bind (fun v39_3 =>
  if v39_3 = 0 then (
  if sh_sort = l2 then (
  lq9 (f_X6_painters_69 sh_size sh_items l4) 200 0 l3 0 now_painters now_easel now_kind now_number now_had now_pleased) else (
  some ((-13), now_painters, now_easel, now_kind, now_number, now_had, now_pleased))) else (
  some ((-11), now_painters, now_easel, now_kind, now_number, now_had, now_pleased)))) else none) else (
  some ((-2), now_painters, now_easel, now_kind, now_number, now_had, now_pleased)))))))
set_option maxRecDepth 100000 in
set_option maxHeartbeats 4000000 in
theorem t_X6_painters_69 {x : VX} {r : Int32 × Int32 × (Nat → Int32) × (Nat → Int32) × (Nat → Int32) × (Nat → Int32) × (Nat → Int32)} {a0 : Nat} {a_sheets : Nat} {a_sh : Nat} {a_sh_items : Nat} {a_now : Nat} {a_now_easel : Nat} {a_now_kind : Nat} {a_now_number : Nat} {a_now_had : Nat} {a_now_pleased : Nat} {a_thought : Nat} {a_kept : Nat} {a_reader : Nat} {a_texts : Nat} {a_sight : Nat} {a_most : Nat} {s_isKept : Int32} {s_textCount : Int32} {s_sheets : Nat → Option Nat} {sh_sort : Int32} {sh_size : Int32} {sh_items : Nat → Int32} {now_face : Int32} {now_lamp : Int32} {now_stove : Int32} {now_pose : Int32} {now_rule : Int32} {l4 : Int32} {l1 : Int32} (X : Cx x cX6_painters RX6 4) (hN : vxn x = 9) (hsh0 : s_sheets (Int32.toNatClampNeg l1) = some a_sh) (hR : RetI x cX6_painters 0 0 r.1 [(a0, .inr (6, [.ref a_now, .ref a_thought, .ref a_kept, .int s_isKept, .ref a_reader, .ref a_texts, .int s_textCount, .ref a_sight, .ref a_most, .ref a_sheets])), (a_sheets, .inl (vxT x 2, 4, .inr (.inr (.inr (.inr s_sheets))))), (a_sh, .inr (3, [.int sh_sort, .int sh_size, .ref a_sh_items])), (a_sh_items, .inl (vxT x 0, 40, .inl sh_items)), (a_now, .inr (2, [.int now_face, .int now_lamp, .int now_stove, .int now_pose, .int now_rule, .int r.2.1, .ref a_now_kind, .ref a_now_number, .ref a_now_easel, .ref a_now_had, .ref a_now_pleased])), (a_now_easel, .inl (vxT x 0, 6, .inl r.2.2.1)), (a_now_kind, .inl (vxT x 0, 6, .inl r.2.2.2.1)), (a_now_number, .inl (vxT x 0, 6, .inl r.2.2.2.2.1)), (a_now_had, .inl (vxT x 0, 6, .inl r.2.2.2.2.2.1)), (a_now_pleased, .inl (vxT x 0, 6, .inl r.2.2.2.2.2.2))]) :
    ∀ (fu : Nat) (l6 : Int32) (l7 : Int32) (l8 : Int32) (now_painters : Int32) (now_easel : Nat → Int32) (now_kind : Nat → Int32) (now_number : Nat → Int32) (now_had : Nat → Int32) (now_pleased : Nat → Int32), lq9 (f_X6_painters_69 sh_size sh_items l4) fu l6 l7 l8 now_painters now_easel now_kind now_number now_had now_pleased = some r → V x 0 0 [(a0, .inr (6, [.ref a_now, .ref a_thought, .ref a_kept, .int s_isKept, .ref a_reader, .ref a_texts, .int s_textCount, .ref a_sight, .ref a_most, .ref a_sheets])), (a_sheets, .inl (vxT x 2, 4, .inr (.inr (.inr (.inr s_sheets))))), (a_sh, .inr (3, [.int sh_sort, .int sh_size, .ref a_sh_items])), (a_sh_items, .inl (vxT x 0, 40, .inl sh_items)), (a_now, .inr (2, [.int now_face, .int now_lamp, .int now_stove, .int now_pose, .int now_rule, .int now_painters, .ref a_now_kind, .ref a_now_number, .ref a_now_easel, .ref a_now_had, .ref a_now_pleased])), (a_now_easel, .inl (vxT x 0, 6, .inl now_easel)), (a_now_kind, .inl (vxT x 0, 6, .inl now_kind)), (a_now_number, .inl (vxT x 0, 6, .inl now_number)), (a_now_had, .inl (vxT x 0, 6, .inl now_had)), (a_now_pleased, .inl (vxT x 0, 6, .inl now_pleased))] [(0, .ref a0), (4, .int l4), (5, .ref a_sh), (6, .int l6), (7, .int l7), (8, .int l8)] 69 [] := by
  refine lq9_V (G := fun l6 l7 l8 now_painters now_easel now_kind now_number now_had now_pleased => V x 0 0 [(a0, .inr (6, [.ref a_now, .ref a_thought, .ref a_kept, .int s_isKept, .ref a_reader, .ref a_texts, .int s_textCount, .ref a_sight, .ref a_most, .ref a_sheets])), (a_sheets, .inl (vxT x 2, 4, .inr (.inr (.inr (.inr s_sheets))))), (a_sh, .inr (3, [.int sh_sort, .int sh_size, .ref a_sh_items])), (a_sh_items, .inl (vxT x 0, 40, .inl sh_items)), (a_now, .inr (2, [.int now_face, .int now_lamp, .int now_stove, .int now_pose, .int now_rule, .int now_painters, .ref a_now_kind, .ref a_now_number, .ref a_now_easel, .ref a_now_had, .ref a_now_pleased])), (a_now_easel, .inl (vxT x 0, 6, .inl now_easel)), (a_now_kind, .inl (vxT x 0, 6, .inl now_kind)), (a_now_number, .inl (vxT x 0, 6, .inl now_number)), (a_now_had, .inl (vxT x 0, 6, .inl now_had)), (a_now_pleased, .inl (vxT x 0, 6, .inl now_pleased))] [(0, .ref a0), (4, .int l4), (5, .ref a_sh), (6, .int l6), (7, .int l7), (8, .int l8)] 69 []) ?_
  intro kp_69 hk_69 l6 l7 l8 now_painters now_easel now_kind now_number now_had now_pleased hf
  unfold f_X6_painters_69 at hf
  refine v_iload X 5 rfl dX6_painters_69 ?_
  refine v_iload X 1 rfl dX6_painters_71 ?_
  refine v_icmp_ge X (tgt := 137) hf (by decide) dX6_painters_73 (fun c73 hf => ?_) (fun c73 hf => ?_)
  · refine v_iload X 3 rfl dX6_painters_137 ?_
    obtain rfl := Option.some.inj hf
    exact v_iret hR dX6_painters_139
  · refine v_aload X 2 rfl dX6_painters_76 ?_
    refine v_iload X 4 rfl dX6_painters_78 ?_
    refine v_iconst X (v := 3) (by decide) dX6_painters_80 ?_
    obtain ⟨v81_4, hv81_4, hf⟩ := bd_some hf
    refine v_callI X (c_X3_hasItems X.2.2.2.2.2.2.2.1 hv81_4) cwv_X6_295 rfl (by decide) ⟨Nat.zero_le _, Nat.zero_le _⟩ 0 rfl rfl [2] [0, 1, 3, 4, 5, 6, 7, 8, 9] [0, 1, 9, 2, 3, 4, 5, 6, 7, 8] rfl (by decide) (wr := [(a0, .inr (6, [.ref a_now, .ref a_thought, .ref a_kept, .int s_isKept, .ref a_reader, .ref a_texts, .int s_textCount, .ref a_sight, .ref a_most, .ref a_sheets])), (a_sheets, .inl (vxT x 2, 4, .inr (.inr (.inr (.inr s_sheets))))), (a_sh_items, .inl (vxT x 0, 40, .inl sh_items)), (a_now, .inr (2, [.int now_face, .int now_lamp, .int now_stove, .int now_pose, .int now_rule, .int now_painters, .ref a_now_kind, .ref a_now_number, .ref a_now_easel, .ref a_now_had, .ref a_now_pleased])), (a_now_easel, .inl (vxT x 0, 6, .inl now_easel)), (a_now_kind, .inl (vxT x 0, 6, .inl now_kind)), (a_now_number, .inl (vxT x 0, 6, .inl now_number)), (a_now_had, .inl (vxT x 0, 6, .inl now_had)), (a_now_pleased, .inl (vxT x 0, 6, .inl now_pleased))]) rfl (by decide) (by decide) (ws2 := [(a0, .inr (6, [.ref a_now, .ref a_thought, .ref a_kept, .int s_isKept, .ref a_reader, .ref a_texts, .int s_textCount, .ref a_sight, .ref a_most, .ref a_sheets])), (a_sheets, .inl (vxT x 2, 4, .inr (.inr (.inr (.inr s_sheets))))), (a_sh, .inr (3, [.int sh_sort, .int sh_size, .ref a_sh_items])), (a_sh_items, .inl (vxT x 0, 40, .inl sh_items)), (a_now, .inr (2, [.int now_face, .int now_lamp, .int now_stove, .int now_pose, .int now_rule, .int now_painters, .ref a_now_kind, .ref a_now_number, .ref a_now_easel, .ref a_now_had, .ref a_now_pleased])), (a_now_easel, .inl (vxT x 0, 6, .inl now_easel)), (a_now_kind, .inl (vxT x 0, 6, .inl now_kind)), (a_now_number, .inl (vxT x 0, 6, .inl now_number)), (a_now_had, .inl (vxT x 0, 6, .inl now_had)), (a_now_pleased, .inl (vxT x 0, 6, .inl now_pleased))]) rfl (by decide) (Nat.le_of_ble_eq_true rfl) rfl dX6_painters_81 ?_
    refine v_if_ne X (tgt := 90) hf (by decide) dX6_painters_84 (fun c84 hf => ?_) (fun c84 hf => ?_)
    · refine v_aload_n X 0 rfl dX6_painters_90 ?_
      refine v_aload X 2 rfl dX6_painters_91 ?_
      refine v_get X xinX3 2 rfl rfl 2 (by decide) wd702 rfl rfl dX6_painters_93 ?_
      refine v_iload X 4 rfl dX6_painters_96 ?_
      refine v_iald X 3 rfl hf dX6_painters_98 (fun h98 hf => ?_)
      refine v_aload X 2 rfl dX6_painters_99 ?_
      refine v_get X xinX3 2 rfl rfl 2 (by decide) wd702 rfl rfl dX6_painters_101 ?_
      refine v_iload X 4 rfl dX6_painters_104 ?_
      refine v_iconst X (v := 1) (by decide) dX6_painters_106 ?_
      refine v_iadd X dX6_painters_107 ?_
      refine v_iald X 3 rfl hf dX6_painters_108 (fun h108 hf => ?_)
      refine v_aload X 2 rfl dX6_painters_109 ?_
      refine v_get X xinX3 2 rfl rfl 2 (by decide) wd702 rfl rfl dX6_painters_111 ?_
      refine v_iload X 4 rfl dX6_painters_114 ?_
      refine v_iconst X (v := 2) (by decide) dX6_painters_116 ?_
      refine v_iadd X dX6_painters_117 ?_
      refine v_iald X 3 rfl hf dX6_painters_118 (fun h118 hf => ?_)
      obtain ⟨v119_5, hv119_5, hf⟩ := bd_some hf
      refine v_callI X (c_X6_painter X.2.2.2.2.2.2.2.1 hv119_5) cwv_X6_307 rfl (by decide) ⟨Nat.zero_le _, Nat.zero_le _⟩ 0 rfl rfl [0, 4, 5, 6, 7, 8, 9] [1, 2, 3] [3, 0, 1, 2, 4, 5, 6, 7, 8, 9] rfl (by decide) (wr := [(a_sheets, .inl (vxT x 2, 4, .inr (.inr (.inr (.inr s_sheets))))), (a_sh, .inr (3, [.int sh_sort, .int sh_size, .ref a_sh_items])), (a_sh_items, .inl (vxT x 0, 40, .inl sh_items))]) rfl (by decide) (by decide) (ws2 := [(a0, .inr (6, [.ref a_now, .ref a_thought, .ref a_kept, .int s_isKept, .ref a_reader, .ref a_texts, .int s_textCount, .ref a_sight, .ref a_most, .ref a_sheets])), (a_sheets, .inl (vxT x 2, 4, .inr (.inr (.inr (.inr s_sheets))))), (a_sh, .inr (3, [.int sh_sort, .int sh_size, .ref a_sh_items])), (a_sh_items, .inl (vxT x 0, 40, .inl sh_items)), (a_now, .inr (2, [.int now_face, .int now_lamp, .int now_stove, .int now_pose, .int now_rule, .int v119_5.2.1, .ref a_now_kind, .ref a_now_number, .ref a_now_easel, .ref a_now_had, .ref a_now_pleased])), (a_now_easel, .inl (vxT x 0, 6, .inl v119_5.2.2.1)), (a_now_kind, .inl (vxT x 0, 6, .inl v119_5.2.2.2.1)), (a_now_number, .inl (vxT x 0, 6, .inl v119_5.2.2.2.2.1)), (a_now_had, .inl (vxT x 0, 6, .inl v119_5.2.2.2.2.2.1)), (a_now_pleased, .inl (vxT x 0, 6, .inl v119_5.2.2.2.2.2.2))]) rfl (by decide) (Nat.le_of_ble_eq_true rfl) rfl dX6_painters_119 ?_
      refine v_if_lt X (tgt := 128) hf (by decide) dX6_painters_122 (fun c122 hf => ?_) (fun c122 hf => ?_)
      · refine v_iinc X 4 rfl (v := (l7 + 3)) rfl (by rw [hN]; decide) (lv' := [(7, .int (l7 + 3)), (0, .ref a0), (4, .int l4), (5, .ref a_sh), (6, .int l6), (8, .int l8)]) rfl dX6_painters_128 ?_
        refine v_iinc X 5 rfl (v := (l8 + 1)) rfl (by rw [hN]; decide) (lv' := [(8, .int (l8 + 1)), (7, .int (l7 + 3)), (0, .ref a0), (4, .int l4), (5, .ref a_sh), (6, .int l6)]) rfl dX6_painters_131 ?_
        refine v_goto X (tgt := 69) (by decide) dX6_painters_134 ?_
        refine v_lv [2, 3, 4, 5, 1, 0] rfl ?_
        exact hk_69 _ _ _ _ _ _ _ _ _ hf
      · refine v_iinc X 3 rfl (v := (l6 + 1)) rfl (by rw [hN]; decide) (lv' := [(6, .int (l6 + 1)), (0, .ref a0), (4, .int l4), (5, .ref a_sh), (7, .int l7), (8, .int l8)]) rfl dX6_painters_125 ?_
        refine v_iinc X 4 rfl (v := (l7 + 3)) rfl (by rw [hN]; decide) (lv' := [(7, .int (l7 + 3)), (6, .int (l6 + 1)), (0, .ref a0), (4, .int l4), (5, .ref a_sh), (8, .int l8)]) rfl dX6_painters_128 ?_
        refine v_iinc X 5 rfl (v := (l8 + 1)) rfl (by rw [hN]; decide) (lv' := [(8, .int (l8 + 1)), (7, .int (l7 + 3)), (6, .int (l6 + 1)), (0, .ref a0), (4, .int l4), (5, .ref a_sh)]) rfl dX6_painters_131 ?_
        refine v_goto X (tgt := 69) (by decide) dX6_painters_134 ?_
        refine v_lv [3, 4, 5, 2, 1, 0] rfl ?_
        exact hk_69 _ _ _ _ _ _ _ _ _ hf
    · refine v_bipush X (v := (-12)) (by decide) dX6_painters_87 ?_
      obtain rfl := Option.some.inj hf
      exact v_iret hR dX6_painters_89
set_option maxRecDepth 100000 in
set_option maxHeartbeats 4000000 in
theorem t_X6_painters {x : VX} {r : Int32 × Int32 × (Nat → Int32) × (Nat → Int32) × (Nat → Int32) × (Nat → Int32) × (Nat → Int32)} {a0 : Nat} {a_sheets : Nat} {a_sh : Nat} {a_sh_items : Nat} {a_now : Nat} {a_now_easel : Nat} {a_now_kind : Nat} {a_now_number : Nat} {a_now_had : Nat} {a_now_pleased : Nat} {a_thought : Nat} {a_kept : Nat} {a_reader : Nat} {a_texts : Nat} {a_sight : Nat} {a_most : Nat} {s_isKept : Int32} {s_textCount : Int32} {s_sheets : Nat → Option Nat} {sh_sort : Int32} {sh_size : Int32} {sh_items : Nat → Int32} {now_face : Int32} {now_lamp : Int32} {now_stove : Int32} {now_pose : Int32} {now_rule : Int32} {now_painters : Int32} {now_easel : Nat → Int32} {now_kind : Nat → Int32} {now_number : Nat → Int32} {now_had : Nat → Int32} {now_pleased : Nat → Int32} {l1 : Int32} {l2 : Int32} {l3 : Int32} {l4 : Int32} (X : Cx x cX6_painters RX6 4) (hN : vxn x = 9) (hsh0 : s_sheets (Int32.toNatClampNeg l1) = some a_sh) (hR : RetI x cX6_painters 0 0 r.1 [(a0, .inr (6, [.ref a_now, .ref a_thought, .ref a_kept, .int s_isKept, .ref a_reader, .ref a_texts, .int s_textCount, .ref a_sight, .ref a_most, .ref a_sheets])), (a_sheets, .inl (vxT x 2, 4, .inr (.inr (.inr (.inr s_sheets))))), (a_sh, .inr (3, [.int sh_sort, .int sh_size, .ref a_sh_items])), (a_sh_items, .inl (vxT x 0, 40, .inl sh_items)), (a_now, .inr (2, [.int now_face, .int now_lamp, .int now_stove, .int now_pose, .int now_rule, .int r.2.1, .ref a_now_kind, .ref a_now_number, .ref a_now_easel, .ref a_now_had, .ref a_now_pleased])), (a_now_easel, .inl (vxT x 0, 6, .inl r.2.2.1)), (a_now_kind, .inl (vxT x 0, 6, .inl r.2.2.2.1)), (a_now_number, .inl (vxT x 0, 6, .inl r.2.2.2.2.1)), (a_now_had, .inl (vxT x 0, 6, .inl r.2.2.2.2.2.1)), (a_now_pleased, .inl (vxT x 0, 6, .inl r.2.2.2.2.2.2))]) (hf : f_X6_painters l1 l2 l3 l4 sh_sort sh_size sh_items now_painters now_easel now_kind now_number now_had now_pleased = some r) : V x 0 0 [(a0, .inr (6, [.ref a_now, .ref a_thought, .ref a_kept, .int s_isKept, .ref a_reader, .ref a_texts, .int s_textCount, .ref a_sight, .ref a_most, .ref a_sheets])), (a_sheets, .inl (vxT x 2, 4, .inr (.inr (.inr (.inr s_sheets))))), (a_sh, .inr (3, [.int sh_sort, .int sh_size, .ref a_sh_items])), (a_sh_items, .inl (vxT x 0, 40, .inl sh_items)), (a_now, .inr (2, [.int now_face, .int now_lamp, .int now_stove, .int now_pose, .int now_rule, .int now_painters, .ref a_now_kind, .ref a_now_number, .ref a_now_easel, .ref a_now_had, .ref a_now_pleased])), (a_now_easel, .inl (vxT x 0, 6, .inl now_easel)), (a_now_kind, .inl (vxT x 0, 6, .inl now_kind)), (a_now_number, .inl (vxT x 0, 6, .inl now_number)), (a_now_had, .inl (vxT x 0, 6, .inl now_had)), (a_now_pleased, .inl (vxT x 0, 6, .inl now_pleased))] [(0, .ref a0), (1, .int l1), (2, .int l2), (3, .int l3), (4, .int l4)] 0 [] := by
  unfold f_X6_painters at hf
  refine v_iload_n X 1 rfl dX6_painters_0 ?_
  obtain ⟨v1_1, hv1_1, hf⟩ := bd_some hf
  refine v_scallI X (c_X6_isSheet X.2.2.2.2.2.2.2.1 hv1_1) cws_X6_257 rfl (by decide) ⟨Nat.zero_le _, Nat.zero_le _⟩ [] [0, 1, 2, 3, 4, 5, 6, 7, 8, 9] [0, 1, 2, 3, 4, 5, 6, 7, 8, 9] rfl (by decide) (wr := [(a0, .inr (6, [.ref a_now, .ref a_thought, .ref a_kept, .int s_isKept, .ref a_reader, .ref a_texts, .int s_textCount, .ref a_sight, .ref a_most, .ref a_sheets])), (a_sheets, .inl (vxT x 2, 4, .inr (.inr (.inr (.inr s_sheets))))), (a_sh, .inr (3, [.int sh_sort, .int sh_size, .ref a_sh_items])), (a_sh_items, .inl (vxT x 0, 40, .inl sh_items)), (a_now, .inr (2, [.int now_face, .int now_lamp, .int now_stove, .int now_pose, .int now_rule, .int now_painters, .ref a_now_kind, .ref a_now_number, .ref a_now_easel, .ref a_now_had, .ref a_now_pleased])), (a_now_easel, .inl (vxT x 0, 6, .inl now_easel)), (a_now_kind, .inl (vxT x 0, 6, .inl now_kind)), (a_now_number, .inl (vxT x 0, 6, .inl now_number)), (a_now_had, .inl (vxT x 0, 6, .inl now_had)), (a_now_pleased, .inl (vxT x 0, 6, .inl now_pleased))]) rfl (by decide) (by decide) (ws2 := [(a0, .inr (6, [.ref a_now, .ref a_thought, .ref a_kept, .int s_isKept, .ref a_reader, .ref a_texts, .int s_textCount, .ref a_sight, .ref a_most, .ref a_sheets])), (a_sheets, .inl (vxT x 2, 4, .inr (.inr (.inr (.inr s_sheets))))), (a_sh, .inr (3, [.int sh_sort, .int sh_size, .ref a_sh_items])), (a_sh_items, .inl (vxT x 0, 40, .inl sh_items)), (a_now, .inr (2, [.int now_face, .int now_lamp, .int now_stove, .int now_pose, .int now_rule, .int now_painters, .ref a_now_kind, .ref a_now_number, .ref a_now_easel, .ref a_now_had, .ref a_now_pleased])), (a_now_easel, .inl (vxT x 0, 6, .inl now_easel)), (a_now_kind, .inl (vxT x 0, 6, .inl now_kind)), (a_now_number, .inl (vxT x 0, 6, .inl now_number)), (a_now_had, .inl (vxT x 0, 6, .inl now_had)), (a_now_pleased, .inl (vxT x 0, 6, .inl now_pleased))]) rfl (by decide) (Nat.le_of_ble_eq_true rfl) rfl dX6_painters_1 ?_
  refine v_if_eq X (tgt := 26) hf (by decide) dX6_painters_4 (fun c4 hf => ?_) (fun c4 hf => ?_)
  · refine v_bipush X (v := (-2)) (by decide) dX6_painters_26 ?_
    obtain rfl := Option.some.inj hf
    exact v_iret hR dX6_painters_28
  · refine v_iload_n X 2 rfl dX6_painters_7 ?_
    obtain ⟨v8_2, hv8_2, hf⟩ := bd_some hf
    refine v_scallI X (c_X6_isSort X.2.2.2.2.2.2.2.1 hv8_2) cws_X6_292 rfl (by decide) ⟨Nat.zero_le _, Nat.zero_le _⟩ [] [0, 1, 2, 3, 4, 5, 6, 7, 8, 9] [0, 1, 2, 3, 4, 5, 6, 7, 8, 9] rfl (by decide) (wr := [(a0, .inr (6, [.ref a_now, .ref a_thought, .ref a_kept, .int s_isKept, .ref a_reader, .ref a_texts, .int s_textCount, .ref a_sight, .ref a_most, .ref a_sheets])), (a_sheets, .inl (vxT x 2, 4, .inr (.inr (.inr (.inr s_sheets))))), (a_sh, .inr (3, [.int sh_sort, .int sh_size, .ref a_sh_items])), (a_sh_items, .inl (vxT x 0, 40, .inl sh_items)), (a_now, .inr (2, [.int now_face, .int now_lamp, .int now_stove, .int now_pose, .int now_rule, .int now_painters, .ref a_now_kind, .ref a_now_number, .ref a_now_easel, .ref a_now_had, .ref a_now_pleased])), (a_now_easel, .inl (vxT x 0, 6, .inl now_easel)), (a_now_kind, .inl (vxT x 0, 6, .inl now_kind)), (a_now_number, .inl (vxT x 0, 6, .inl now_number)), (a_now_had, .inl (vxT x 0, 6, .inl now_had)), (a_now_pleased, .inl (vxT x 0, 6, .inl now_pleased))]) rfl (by decide) (by decide) (ws2 := [(a0, .inr (6, [.ref a_now, .ref a_thought, .ref a_kept, .int s_isKept, .ref a_reader, .ref a_texts, .int s_textCount, .ref a_sight, .ref a_most, .ref a_sheets])), (a_sheets, .inl (vxT x 2, 4, .inr (.inr (.inr (.inr s_sheets))))), (a_sh, .inr (3, [.int sh_sort, .int sh_size, .ref a_sh_items])), (a_sh_items, .inl (vxT x 0, 40, .inl sh_items)), (a_now, .inr (2, [.int now_face, .int now_lamp, .int now_stove, .int now_pose, .int now_rule, .int now_painters, .ref a_now_kind, .ref a_now_number, .ref a_now_easel, .ref a_now_had, .ref a_now_pleased])), (a_now_easel, .inl (vxT x 0, 6, .inl now_easel)), (a_now_kind, .inl (vxT x 0, 6, .inl now_kind)), (a_now_number, .inl (vxT x 0, 6, .inl now_number)), (a_now_had, .inl (vxT x 0, 6, .inl now_had)), (a_now_pleased, .inl (vxT x 0, 6, .inl now_pleased))]) rfl (by decide) (Nat.le_of_ble_eq_true rfl) rfl dX6_painters_8 ?_
    refine v_if_eq X (tgt := 26) hf (by decide) dX6_painters_11 (fun c11 hf => ?_) (fun c11 hf => ?_)
    · refine v_bipush X (v := (-2)) (by decide) dX6_painters_26 ?_
      obtain rfl := Option.some.inj hf
      exact v_iret hR dX6_painters_28
    · refine v_iload X 4 rfl dX6_painters_14 ?_
      refine v_if_lt X (tgt := 26) hf (by decide) dX6_painters_16 (fun c16 hf => ?_) (fun c16 hf => ?_)
      · refine v_bipush X (v := (-2)) (by decide) dX6_painters_26 ?_
        obtain rfl := Option.some.inj hf
        exact v_iret hR dX6_painters_28
      · refine v_iload X 4 rfl dX6_painters_19 ?_
        refine v_bipush X (v := 6) (by decide) dX6_painters_21 ?_
        refine v_icmp_le X (tgt := 29) hf (by decide) dX6_painters_23 (fun c23 hf => ?_) (fun c23 hf => ?_)
        · refine v_aload_n X 0 rfl dX6_painters_29 ?_
          refine v_get X xinX6 0 rfl rfl 9 (by decide) wd707 rfl rfl dX6_painters_30 ?_
          refine v_iload_n X 1 rfl dX6_painters_33 ?_
          obtain ⟨h34, hf⟩ := if_some hf
          refine v_aald X 1 2 rfl rfl h34 dX6_painters_34 ?_
          refine v_eq (st' := [.ref a_sh]) (by rw [hsh0]; rfl) ?_
          refine v_astore X (by rw [hN]; decide) (lv' := [(5, .ref a_sh), (0, .ref a0), (1, .int l1), (2, .int l2), (3, .int l3), (4, .int l4)]) rfl dX6_painters_35 ?_
          refine v_aload X 0 rfl dX6_painters_37 ?_
          obtain ⟨v39_3, hv39_3, hf⟩ := bd_some hf
          refine v_callI X (c_X3_isMissing X.2.2.2.2.2.2.2.1 hv39_3) cwv_X6_260 rfl (by decide) ⟨Nat.zero_le _, Nat.zero_le _⟩ 0 rfl rfl [2] [0, 1, 3, 4, 5, 6, 7, 8, 9] [0, 1, 9, 2, 3, 4, 5, 6, 7, 8] rfl (by decide) (wr := [(a0, .inr (6, [.ref a_now, .ref a_thought, .ref a_kept, .int s_isKept, .ref a_reader, .ref a_texts, .int s_textCount, .ref a_sight, .ref a_most, .ref a_sheets])), (a_sheets, .inl (vxT x 2, 4, .inr (.inr (.inr (.inr s_sheets))))), (a_sh_items, .inl (vxT x 0, 40, .inl sh_items)), (a_now, .inr (2, [.int now_face, .int now_lamp, .int now_stove, .int now_pose, .int now_rule, .int now_painters, .ref a_now_kind, .ref a_now_number, .ref a_now_easel, .ref a_now_had, .ref a_now_pleased])), (a_now_easel, .inl (vxT x 0, 6, .inl now_easel)), (a_now_kind, .inl (vxT x 0, 6, .inl now_kind)), (a_now_number, .inl (vxT x 0, 6, .inl now_number)), (a_now_had, .inl (vxT x 0, 6, .inl now_had)), (a_now_pleased, .inl (vxT x 0, 6, .inl now_pleased))]) rfl (by decide) (by decide) (ws2 := [(a0, .inr (6, [.ref a_now, .ref a_thought, .ref a_kept, .int s_isKept, .ref a_reader, .ref a_texts, .int s_textCount, .ref a_sight, .ref a_most, .ref a_sheets])), (a_sheets, .inl (vxT x 2, 4, .inr (.inr (.inr (.inr s_sheets))))), (a_sh, .inr (3, [.int sh_sort, .int sh_size, .ref a_sh_items])), (a_sh_items, .inl (vxT x 0, 40, .inl sh_items)), (a_now, .inr (2, [.int now_face, .int now_lamp, .int now_stove, .int now_pose, .int now_rule, .int now_painters, .ref a_now_kind, .ref a_now_number, .ref a_now_easel, .ref a_now_had, .ref a_now_pleased])), (a_now_easel, .inl (vxT x 0, 6, .inl now_easel)), (a_now_kind, .inl (vxT x 0, 6, .inl now_kind)), (a_now_number, .inl (vxT x 0, 6, .inl now_number)), (a_now_had, .inl (vxT x 0, 6, .inl now_had)), (a_now_pleased, .inl (vxT x 0, 6, .inl now_pleased))]) rfl (by decide) (Nat.le_of_ble_eq_true rfl) rfl dX6_painters_39 ?_
          refine v_if_eq X (tgt := 48) hf (by decide) dX6_painters_42 (fun c42 hf => ?_) (fun c42 hf => ?_)
          · refine v_aload X 0 rfl dX6_painters_48 ?_
            refine v_get X xinX3 2 rfl rfl 0 (by decide) wd744 rfl rfl dX6_painters_50 ?_
            refine v_iload_n X 3 rfl dX6_painters_53 ?_
            refine v_icmp_eq X (tgt := 60) hf (by decide) dX6_painters_54 (fun c54 hf => ?_) (fun c54 hf => ?_)
            · refine v_iconst X (v := 0) (by decide) dX6_painters_60 ?_
              refine v_istore X (by rw [hN]; decide) (lv' := [(6, .int 0), (5, .ref a_sh), (0, .ref a0), (1, .int l1), (2, .int l2), (3, .int l3), (4, .int l4)]) rfl dX6_painters_61 ?_
              refine v_iload_n X 5 rfl dX6_painters_63 ?_
              refine v_istore X (by rw [hN]; decide) (lv' := [(7, .int l3), (6, .int 0), (5, .ref a_sh), (0, .ref a0), (1, .int l1), (2, .int l2), (3, .int l3), (4, .int l4)]) rfl dX6_painters_64 ?_
              refine v_iconst X (v := 0) (by decide) dX6_painters_66 ?_
              refine v_istore X (by rw [hN]; decide) (lv' := [(8, .int 0), (7, .int l3), (6, .int 0), (5, .ref a_sh), (0, .ref a0), (1, .int l1), (2, .int l2), (3, .int l3), (4, .int l4)]) rfl dX6_painters_67 ?_
              refine v_lv [4, 8, 3, 2, 1, 0] rfl ?_
              exact t_X6_painters_69 X hN hsh0 hR 200 _ _ _ _ _ _ _ _ _ hf
            · refine v_bipush X (v := (-13)) (by decide) dX6_painters_57 ?_
              obtain rfl := Option.some.inj hf
              exact v_iret hR dX6_painters_59
          · refine v_bipush X (v := (-11)) (by decide) dX6_painters_45 ?_
            obtain rfl := Option.some.inj hf
            exact v_iret hR dX6_painters_47
        · refine v_bipush X (v := (-2)) (by decide) dX6_painters_26 ?_
          obtain rfl := Option.some.inj hf
          exact v_iret hR dX6_painters_28
set_option maxRecDepth 100000 in
set_option maxHeartbeats 4000000 in
theorem c_X6_painters {l : Launch} {D : va_G} {qT : Nat → ClassId} {Z : (Nat → Prop) → State → Heap → Prop} {r : Int32 × Int32 × (Nat → Int32) × (Nat → Int32) × (Nat → Int32) × (Nat → Int32) × (Nat → Int32)} {a0 : Nat} {a_sheets : Nat} {a_sh : Nat} {a_sh_items : Nat} {a_now : Nat} {a_now_easel : Nat} {a_now_kind : Nat} {a_now_number : Nat} {a_now_had : Nat} {a_now_pleased : Nat} {a_thought : Nat} {a_kept : Nat} {a_reader : Nat} {a_texts : Nat} {a_sight : Nat} {a_most : Nat} {s_isKept : Int32} {s_textCount : Int32} {s_sheets : Nat → Option Nat} {sh_sort : Int32} {sh_size : Int32} {sh_items : Nat → Int32} {now_face : Int32} {now_lamp : Int32} {now_stove : Int32} {now_pose : Int32} {now_rule : Int32} {now_painters : Int32} {now_easel : Nat → Int32} {now_kind : Nat → Int32} {now_number : Nat → Int32} {now_had : Nat → Int32} {now_pleased : Nat → Int32} {l1 : Int32} {l2 : Int32} {l3 : Int32} {l4 : Int32} (hZ : ZOK Z) (hsh0 : s_sheets (Int32.toNatClampNeg l1) = some a_sh) (hf : f_X6_painters l1 l2 l3 l4 sh_sort sh_size sh_items now_painters now_easel now_kind now_number now_had now_pleased = some r) :
    CI l D qT Z yX6_painters cX6_painters 9 (some .int) 4 0 0 [.ref a0, .int l1, .int l2, .int l3, .int l4] [(a0, .inr (6, [.ref a_now, .ref a_thought, .ref a_kept, .int s_isKept, .ref a_reader, .ref a_texts, .int s_textCount, .ref a_sight, .ref a_most, .ref a_sheets])), (a_sheets, .inl (qT 2, 4, .inr (.inr (.inr (.inr s_sheets))))), (a_sh, .inr (3, [.int sh_sort, .int sh_size, .ref a_sh_items])), (a_sh_items, .inl (qT 0, 40, .inl sh_items)), (a_now, .inr (2, [.int now_face, .int now_lamp, .int now_stove, .int now_pose, .int now_rule, .int now_painters, .ref a_now_kind, .ref a_now_number, .ref a_now_easel, .ref a_now_had, .ref a_now_pleased])), (a_now_easel, .inl (qT 0, 6, .inl now_easel)), (a_now_kind, .inl (qT 0, 6, .inl now_kind)), (a_now_number, .inl (qT 0, 6, .inl now_number)), (a_now_had, .inl (qT 0, 6, .inl now_had)), (a_now_pleased, .inl (qT 0, 6, .inl now_pleased))] r.1 [(a0, .inr (6, [.ref a_now, .ref a_thought, .ref a_kept, .int s_isKept, .ref a_reader, .ref a_texts, .int s_textCount, .ref a_sight, .ref a_most, .ref a_sheets])), (a_sheets, .inl (qT 2, 4, .inr (.inr (.inr (.inr s_sheets))))), (a_sh, .inr (3, [.int sh_sort, .int sh_size, .ref a_sh_items])), (a_sh_items, .inl (qT 0, 40, .inl sh_items)), (a_now, .inr (2, [.int now_face, .int now_lamp, .int now_stove, .int now_pose, .int now_rule, .int r.2.1, .ref a_now_kind, .ref a_now_number, .ref a_now_easel, .ref a_now_had, .ref a_now_pleased])), (a_now_easel, .inl (qT 0, 6, .inl r.2.2.1)), (a_now_kind, .inl (qT 0, 6, .inl r.2.2.2.1)), (a_now_number, .inl (qT 0, 6, .inl r.2.2.2.2.1)), (a_now_had, .inl (qT 0, 6, .inl r.2.2.2.2.2.1)), (a_now_pleased, .inl (qT 0, 6, .inl r.2.2.2.2.2.2))] := by
  refine CI_of hZ (by decide) (Nat.le_of_ble_eq_true rfl) ?_
  intro x e1 e2 e3 e4 e5 e6 hin X hR
  subst e1 e2 e3 e4
  exact t_X6_painters X e6 hsh0 hR hf
