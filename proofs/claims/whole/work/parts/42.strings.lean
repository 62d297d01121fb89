theorem wd869 : Cond.fieldLink RJ0 38 RJ0 "COMPACT_STRINGS" "Z" ∈ gw := gw_of (List.mem_append_right _ (List.mem_of_getElem? (i := 189) (by decide +kernel))) (by decide +kernel)
theorem wd870 : Cond.fieldLink RJ0 15 RJ0 "coder" "B" ∈ gw := gw_of (List.mem_append_right _ (List.mem_of_getElem? (i := 1337) (by decide +kernel))) (by decide +kernel)
theorem wd871 : Cond.methodLink RJ0 1059 yJ3_checkIndex_8e157 ∈ gw := gw_of (List.mem_append_right _ (List.mem_of_getElem? (i := 207) (by decide +kernel))) (by decide +kernel)
theorem wd872 : Cond.static yJ3_checkIndex_8e157 ∈ gw := gw_of (List.mem_append_right _ (List.mem_of_getElem? (i := 208) (by decide +kernel))) (by decide +kernel)
theorem wd873 : Cond.initialized RJ3 ∈ gw := gw_of (List.mem_append_right _ (List.mem_of_getElem? (i := 9) (by decide +kernel))) (by decide +kernel)
theorem wd874 : Cond.code yJ3_checkIndex_8e157 cJ3_checkIndex_8e157 3 (some .int) ∈ gw := gw_of (List.mem_append_right _ (List.mem_of_getElem? (i := 209) (by decide +kernel))) (by decide +kernel)
theorem cws_J0_1059 : CWs RJ0 1059 yJ3_checkIndex_8e157 cJ3_checkIndex_8e157 3 (some .int) 3 := ⟨wd871, wd872, wd873, wd874, (by decide +kernel), (by decide +kernel), (by decide +kernel), (by decide +kernel)⟩
theorem wd875 : Cond.fieldLink RJ0 1053 RJ3 "SIOOBE_FORMATTER" "Ljava/util/function/BiFunction;" ∈ gw := gw_of (List.mem_append_right _ (List.mem_of_getElem? (i := 205) (by decide +kernel))) (by decide +kernel)
theorem wd876 : Cond.methodLink RJ1 9 yJ0_checkIndex_df160 ∈ gw := gw_of (List.mem_append_right _ (List.mem_of_getElem? (i := 202) (by decide +kernel))) (by decide +kernel)
theorem wd877 : Cond.static yJ0_checkIndex_df160 ∈ gw := gw_of (List.mem_append_right _ (List.mem_of_getElem? (i := 203) (by decide +kernel))) (by decide +kernel)
theorem wd878 : Cond.code yJ0_checkIndex_df160 cJ0_checkIndex_df160 2 none ∈ gw := gw_of (List.mem_append_right _ (List.mem_of_getElem? (i := 204) (by decide +kernel))) (by decide +kernel)
theorem cws_J1_9 : CWs RJ1 9 yJ0_checkIndex_df160 cJ0_checkIndex_df160 2 none 2 := ⟨wd876, wd877, wd753, wd878, (by decide +kernel), (by decide +kernel), (by decide +kernel), (by decide +kernel)⟩
theorem wd879 : Cond.methodLink RJ0 492 yJ0_isLatin1_aae02 ∈ gw := gw_of (List.mem_append_right _ (List.mem_of_getElem? (i := 195) (by decide +kernel))) (by decide +kernel)
theorem wd880 : Cond.instanceMethod yJ0_isLatin1_aae02 ∈ gw := gw_of (List.mem_append_right _ (List.mem_of_getElem? (i := 196) (by decide +kernel))) (by decide +kernel)
theorem wd881 : Cond.selects RJ0 yJ0_isLatin1_aae02 yJ0_isLatin1_aae02 ∈ gw := gw_of (List.mem_append_right _ (List.mem_of_getElem? (i := 197) (by decide +kernel))) (by decide +kernel)
theorem wd882 : Cond.code yJ0_isLatin1_aae02 cJ0_isLatin1_aae02 1 (some .boolean) ∈ gw := gw_of (List.mem_append_right _ (List.mem_of_getElem? (i := 198) (by decide +kernel))) (by decide +kernel)
theorem cwv_J0_492 : CWv RJ0 492 yJ0_isLatin1_aae02 cJ0_isLatin1_aae02 1 (some .boolean) 0 := ⟨wd879, wd880, wd881, wd753, wd882, (by decide +kernel), (by decide +kernel), (by decide +kernel), (by decide +kernel)⟩
theorem wd883 : Cond.methodLink RJ0 335 yJ0_coder_7d493 ∈ gw := gw_of (List.mem_append_right _ (List.mem_of_getElem? (i := 185) (by decide +kernel))) (by decide +kernel)
theorem wd884 : Cond.instanceMethod yJ0_coder_7d493 ∈ gw := gw_of (List.mem_append_right _ (List.mem_of_getElem? (i := 186) (by decide +kernel))) (by decide +kernel)
theorem wd885 : Cond.selects RJ0 yJ0_coder_7d493 yJ0_coder_7d493 ∈ gw := gw_of (List.mem_append_right _ (List.mem_of_getElem? (i := 187) (by decide +kernel))) (by decide +kernel)
theorem wd886 : Cond.code yJ0_coder_7d493 cJ0_coder_7d493 1 (some .byte) ∈ gw := gw_of (List.mem_append_right _ (List.mem_of_getElem? (i := 188) (by decide +kernel))) (by decide +kernel)
theorem cwv_J0_335 : CWv RJ0 335 yJ0_coder_7d493 cJ0_coder_7d493 1 (some .byte) 0 := ⟨wd883, wd884, wd885, wd753, wd886, (by decide +kernel), (by decide +kernel), (by decide +kernel), (by decide +kernel)⟩
theorem wd887 : Cond.methodLink RJ0 495 yJ1_charAt_3b067 ∈ gw := gw_of (List.mem_append_right _ (List.mem_of_getElem? (i := 199) (by decide +kernel))) (by decide +kernel)
theorem wd888 : Cond.static yJ1_charAt_3b067 ∈ gw := gw_of (List.mem_append_right _ (List.mem_of_getElem? (i := 200) (by decide +kernel))) (by decide +kernel)
theorem wd889 : Cond.initialized RJ1 ∈ gw := gw_of (List.mem_append_right _ (List.mem_of_getElem? (i := 8) (by decide +kernel))) (by decide +kernel)
theorem wd890 : Cond.code yJ1_charAt_3b067 cJ1_charAt_3b067 2 (some .char) ∈ gw := gw_of (List.mem_append_right _ (List.mem_of_getElem? (i := 201) (by decide +kernel))) (by decide +kernel)
theorem cws_J0_495 : CWs RJ0 495 yJ1_charAt_3b067 cJ1_charAt_3b067 2 (some .char) 2 := ⟨wd887, wd888, wd889, wd890, (by decide +kernel), (by decide +kernel), (by decide +kernel), (by decide +kernel)⟩
theorem wd891 : Cond.fieldLink RJ0 9 RJ0 "value" "[B" ∈ gw := gw_of (List.mem_append_right _ (List.mem_of_getElem? (i := 1336) (by decide +kernel))) (by decide +kernel)
section
variable {x : VX} {cc : ByteArray} {own : String} {d0 k n : Nat} {ws : va_W} {lv : List (Nat × Value)} {pc : Nat} {st : List Value}
theorem v_getO (X : Cx x cc own d0) {ob nm ds ref : String} {v : Value} {a j : Nat} (hO : ∀ (A : Nat → Prop) (U : State) (H : Heap), vxZ x A U H → va_OF ob nm ds v a A U H) (hlink : Cond.fieldLink own j ref nm ds ∈ gw) (hs : ob = ref) (hd : decode cc pc = .ok (.getfield j, 3)) (kk : V x k n ws lv (pc + 3) (v :: st)) : V x k n ws lv pc (.ref a :: st) :=
  fun H locs ls hP hD hS hl => vk_getf X.1 X.2.1 (hO _ _ _ X.2.2.2.2.2.2.2.2.1) hS X.2.2.2.1 (X.2.2.2.2.1 _ hlink) (fun _ h9 => by rw [hs] at h9; exact h9) hd (kk H locs ls hP hD hS hl)
theorem v_tlen (X : Cx x cc own d0) {a N : Nat} {f : Nat → Int32} (hT : ∀ (A : Nat → Prop) (U : State) (H : Heap), vxZ x A U H → va_T .byte a N (fun j => .int (f j)) A U H) {v : Int32} (hv : Int32.ofNat N = v) (hd : decode cc pc = .ok (.arraylength, 1)) (kk : V x k n ws lv (pc + 1) (.int v :: st)) : V x k n ws lv pc (.ref a :: st) :=
  fun H locs ls hP hD hS hl => va_tlen X.1 X.2.1 (hT _ _ _ X.2.2.2.2.2.2.2.2.1) hS hv hd (kk H locs ls hP hD hS hl)
theorem v_tb (X : Cx x cc own d0) {a N : Nat} {f : Nat → Int32} (hT : ∀ (A : Nat → Prop) (U : State) (H : Heap), vxZ x A U H → va_T .byte a N (fun j => .int (f j)) A U H) {i : Int32} (hi : inb i N = true) (hd : decode cc pc = .ok (.baload, 1)) (kk : V x k n ws lv (pc + 1) (.int (f i.toNatClampNeg) :: st)) : V x k n ws lv pc (.int i :: .ref a :: st) :=
  fun H locs ls hP hD hS hl => va_tb X.1 X.2.1 (hT _ _ _ X.2.2.2.2.2.2.2.2.1) hS (inb_vp hi) rfl hd (kk H locs ls hP hD hS hl)
end
theorem CT_of {l : Launch} {D : va_G} {qT : Nat → ClassId} {Z : (Nat → Prop) → State → Heap → Prop} {y : MethodName} {bytes : ByteArray} {maxL d : Nat} {ty : FieldType} {as : List Value} {ws ws' : va_W} {rv : Int32} (hZ : ZOK Z) (hy : plainName y.cls = true) (hal : (lg_sl as).length ≤ maxL) (hnr : narrow ty (.int rv) = .int rv)
    (body : ∀ x : VX, vxl x = l → vxD x = D → vxT x = qT → vxZ x = Z → vxn x = maxL → Cx x bytes y.cls d → RetI x bytes 0 0 rv ws' → V x 0 0 ws (lv_args 0 as) 0 []) :
    CI l D qT Z y bytes maxL (some ty) d 0 0 as ws rv ws' := by
  intro sz
  refine Met.ofW (cc := bytes) (maxL := maxL) (ret := (some ty)) hy rfl ?_
  intro p e s m args below meth c s₁ B hml hv
  obtain ⟨rfl, hsz, hP, hK, hD0, hZa, hNW⟩ := hv
  have hts := atoms_spec (ws := .code y bytes maxL (some ty) :: gw) B.pre
  have hown : s.vm.findClass y.cls = some m.cls := findClass_of_methodNamed B.named
  have hlocks := B.notSynchronized
  have hr := B.returns
  have hx := B.exec
  have hb := B.bytes
  subst hsz
  have hD := hD0.self (sz := s.heap.size)
  have hA : ∀ q : Nat, s.heap.size ≤ q → va_A ws s.heap.size q := fun q h => Or.inr h
  have hl := lv_entry as (n := maxL) hal
  rw [lg_entry_eq]
  generalize (lg_sl as ++ List.replicate (maxL - (lg_sl as).length) Slot.unset).toArray = ls at hl ⊢
  exact body (p, l, e, rmD d 0 0, s, m, as.toArray, below, meth, c, D, qT, va_A ws s.heap.size, Z, MQ below (va_Qi (fun r' (_ : Unit) => r' = rv) (BW D qT ws ws' s.heap.size) (va_A ws s.heap.size)) as.toArray s 0 0 (va_A ws s.heap.size), maxL) rfl rfl rfl rfl rfl
    ⟨hx, hb, hml, hown, fun w h => hts w (List.mem_cons_of_mem _ h), hK, hA, hZ, hZa, Nat.le_refl _, Nat.le_refl _, hNW⟩
    (fun H locs ls pc hP9 hD9 hS9 hd9 => W.zret (v := rv) (ty := ty) hx hb hr hnr (fun t ht hW => ⟨⟨rv, (), rfl, rfl, by rw [ht]; exact hP9, va_K.moved hW.alike hK, hD9⟩, hS9.F ht⟩) hS9.2.2 hd9)
    s.heap [] ls hP hD va_S.rf hl
/-- a constant text: its object, its row of bytes -/
def StrZ (Z : (Nat → Prop) → State → Heap → Prop) (a : Nat) (n : Nat) (bt : Nat → Int32) : Prop :=
  ∃ av : Nat, ∀ (A : Nat → Prop) (U : State) (H : Heap), Z A U H → va_O RJ0 a A U H ∧ va_OF RJ0 "coder" "B" (.int 0) a A U H ∧ va_OF RJ0 "value" "[B" (.ref av) a A U H ∧ va_T .byte av n (fun j => .int (bt j)) A U H
/-- the statics of the JDK that texts read -/
def StatZ (Z : (Nat → Prop) → State → Heap → Prop) : Prop := ∀ (A : Nat → Prop) (U : State) (H : Heap), Z A U H → va_Z RJ0 "COMPACT_STRINGS" "Z" (.int 1) A U H ∧ va_Zq RJ3 "SIOOBE_FORMATTER" "Ljava/util/function/BiFunction;" A U H
theorem StrZ.recv {Z : (Nat → Prop) → State → Heap → Prop} {a n : Nat} {bt : Nat → Int32} (h : StrZ Z a n bt) : KR Z RJ0 a := by
  intro A U H hz
  obtain ⟨av, h⟩ := h
  obtain ⟨cell, h1, h2, h3, -⟩ := (h A U H hz).1
  exact ⟨cell, h1, h2, h3⟩
set_option maxRecDepth 100000 in
theorem c_coder {l : Launch} {D : va_G} {qT : Nat → ClassId} {Z : (Nat → Prop) → State → Heap → Prop} (hZ : ZOK Z) (hSt : StatZ Z) {a n : Nat} {bt : Nat → Int32} (hs : StrZ Z a n bt) : CI l D qT Z yJ0_coder_7d493 cJ0_coder_7d493 1 (some .byte) 1 0 0 [.ref a] [] 0 [] := by
  refine CT_of hZ (by decide) (Nat.le_of_ble_eq_true rfl) (by decide +kernel) ?_
  intro x e1 e2 e3 e4 e6 X hR
  subst e1 e2 e3 e4
  obtain ⟨av, hs⟩ := hs
  refine v_getsZ X (fun A U H h => (hSt A U H h).1) wd869 rfl dJ0_coder_7d493_0 ?_
  refine v_if_eq_F X (tgt := 13) (by decide) (by decide) dJ0_coder_7d493_3 ?_
  refine v_aload_n X 0 rfl dJ0_coder_7d493_6 ?_
  refine v_getO X (fun A U H h => (hs A U H h).2.1) wd870 rfl dJ0_coder_7d493_7 ?_
  refine v_goto X (tgt := 14) (by decide) dJ0_coder_7d493_10 ?_
  exact v_iret hR dJ0_coder_7d493_14
set_option maxRecDepth 100000 in
theorem c_isLatin1 {l : Launch} {D : va_G} {qT : Nat → ClassId} {Z : (Nat → Prop) → State → Heap → Prop} (hZ : ZOK Z) (hSt : StatZ Z) {a n : Nat} {bt : Nat → Int32} (hs : StrZ Z a n bt) : CI l D qT Z yJ0_isLatin1_aae02 cJ0_isLatin1_aae02 1 (some .boolean) 1 0 0 [.ref a] [] 1 [] := by
  refine CT_of hZ (by decide) (Nat.le_of_ble_eq_true rfl) nz1 ?_
  intro x e1 e2 e3 e4 e6 X hR
  subst e1 e2 e3 e4
  obtain ⟨av, hs⟩ := hs
  refine v_getsZ X (fun A U H h => (hSt A U H h).1) wd869 rfl dJ0_isLatin1_aae02_0 ?_
  refine v_if_eq_F X (tgt := 17) (by decide) (by decide) dJ0_isLatin1_aae02_3 ?_
  refine v_aload_n X 0 rfl dJ0_isLatin1_aae02_6 ?_
  refine v_getO X (fun A U H h => (hs A U H h).2.1) wd870 rfl dJ0_isLatin1_aae02_7 ?_
  refine v_if_ne_F X (tgt := 17) rfl (by decide) dJ0_isLatin1_aae02_10 ?_
  refine v_iconst X (v := 1) (by decide) dJ0_isLatin1_aae02_13 ?_
  refine v_goto X (tgt := 18) (by decide) dJ0_isLatin1_aae02_14 ?_
  exact v_iret hR dJ0_isLatin1_aae02_18
set_option maxRecDepth 100000 in
theorem c_checkIndex3 {l : Launch} {D : va_G} {qT : Nat → ClassId} {Z : (Nat → Prop) → State → Heap → Prop} (hZ : ZOK Z) {i m : Int32} {r : Value} (hr : r.category = 1) (h0 : ¬ i < 0) (h1 : i < m) (hal : (lg_sl [.int i, .int m, r]).length ≤ 3) : CI l D qT Z yJ3_checkIndex_8e157 cJ3_checkIndex_8e157 3 (some .int) 1 0 0 [.int i, .int m, r] [] i [] := by
  refine CI_of hZ (by decide) hal ?_
  intro x e1 e2 e3 e4 e5 e6 hin X hR
  subst e1 e2 e3 e4
  refine v_lv (lv' := [(0, .int i), (1, .int m)]) [0, 1] rfl ?_
  refine v_iload_n X 0 rfl dJ3_checkIndex_8e157_0 ?_
  refine v_if_lt_F X (tgt := 9) h0 (by decide) dJ3_checkIndex_8e157_1 ?_
  refine v_iload_n X 0 rfl dJ3_checkIndex_8e157_4 ?_
  refine v_iload_n X 1 rfl dJ3_checkIndex_8e157_5 ?_
  refine v_icmp_lt_T X (tgt := 16) h1 (by decide) dJ3_checkIndex_8e157_6 ?_
  refine v_iload_n X 0 rfl dJ3_checkIndex_8e157_16 ?_
  exact v_iret hR dJ3_checkIndex_8e157_17
set_option maxRecDepth 100000 in
theorem c_checkIndex {l : Launch} {D : va_G} {qT : Nat → ClassId} {Z : (Nat → Prop) → State → Heap → Prop} (hZ : ZOK Z) (hSt : StatZ Z) {i m : Int32} (h0 : ¬ i < 0) (h1 : i < m) : CV l D qT Z yJ0_checkIndex_df160 cJ0_checkIndex_df160 2 none 2 0 0 [.int i, .int m] [] [] := by
  refine CV_of hZ (by decide) (Nat.le_of_ble_eq_true rfl) ?_
  intro x e1 e2 e3 e4 e5 e6 hin X hR
  subst e1 e2 e3 e4
  refine v_iload_n X 0 rfl dJ0_checkIndex_df160_0 ?_
  refine v_iload_n X 1 rfl dJ0_checkIndex_df160_1 ?_
  have hq := (hSt _ _ _ X.2.2.2.2.2.2.2.2.1).2
  have key : ∀ r : Value, r.category = 1 → (lg_sl [.int i, .int m, r]).length ≤ 3 → V x 0 0 [] [(0, .int i), (1, .int m)] 5 [r, .int m, .int i] := by
    intro r hr hal
    refine v_scallI X (c_checkIndex3 X.2.2.2.2.2.2.2.1 hr h0 h1 hal) cws_J0_1059 rfl (by decide) ⟨Nat.zero_le _, Nat.zero_le _⟩ [] [] [] rfl (by decide) (wr := []) rfl (by decide) (by decide) (ws2 := []) rfl (by decide) (Nat.le_of_ble_eq_true rfl) rfl dJ0_checkIndex_df160_5 ?_
    refine v_pop X rfl dJ0_checkIndex_df160_8 ?_
    exact v_vret hR dJ0_checkIndex_df160_9
  intro H locs ls hP hD hS hl
  rcases hq with hq | ⟨t, hq⟩
  · exact va_gets X.1 X.2.1 hq hS X.2.2.2.1 (X.2.2.2.2.1 _ wd875) (fun _ h9 => h9) dJ0_checkIndex_df160_2 (key .null rfl (Nat.le_of_ble_eq_true rfl) H locs ls hP hD hS hl)
  · exact va_gets X.1 X.2.1 hq hS X.2.2.2.1 (X.2.2.2.2.1 _ wd875) (fun _ h9 => h9) dJ0_checkIndex_df160_2 (key (.ref t) rfl (Nat.le_of_ble_eq_true rfl) H locs ls hP hD hS hl)
set_option maxRecDepth 100000 in
theorem c_charAtL {l : Launch} {D : va_G} {qT : Nat → ClassId} {Z : (Nat → Prop) → State → Heap → Prop} (hZ : ZOK Z) (hSt : StatZ Z) {av n : Nat} {bt : Nat → Int32} (hT : ∀ (A : Nat → Prop) (U : State) (H : Heap), Z A U H → va_T .byte av n (fun j => .int (bt j)) A U H) {i : Int32} (hi : inb i n = true) (hn : n < 2 ^ 31) : CI l D qT Z yJ1_charAt_3b067 cJ1_charAt_3b067 2 (some .char) 3 0 0 [.ref av, .int i] [] (((bt i.toNatClampNeg) &&& 255).toUInt32 % 65536).toInt32 [] := by
  refine CT_of hZ (by decide) (Nat.le_of_ble_eq_true rfl) (pk_nc _) ?_
  intro x e1 e2 e3 e4 e6 X hR
  subst e1 e2 e3 e4
  have h2 := of_decide_eq_true hi
  refine v_iload_n X 1 rfl dJ1_charAt_3b067_0 ?_
  refine v_aload_n X 0 rfl dJ1_charAt_3b067_1 ?_
  refine v_tlen X hT rfl dJ1_charAt_3b067_2 ?_
  refine v_scallV X (c_checkIndex X.2.2.2.2.2.2.2.1 hSt (nneg h2.1) (by rw [Int32.lt_iff_toInt_lt]; have := nI_toInt hn; unfold nI at this; rw [this]; exact h2.2)) cws_J1_9 rfl (by decide) ⟨Nat.zero_le _, Nat.zero_le _⟩ [] [] [] rfl (by decide) (wr := []) rfl (by decide) (by decide) (ws2 := []) rfl (by decide) (Nat.le_of_ble_eq_true rfl) rfl dJ1_charAt_3b067_3 ?_
  refine v_aload_n X 0 rfl dJ1_charAt_3b067_6 ?_
  refine v_iload_n X 1 rfl dJ1_charAt_3b067_7 ?_
  refine v_tb X hT hi dJ1_charAt_3b067_8 ?_
  refine v_sipush X (v := 255) (by decide) dJ1_charAt_3b067_9 ?_
  refine v_iand X dJ1_charAt_3b067_12 ?_
  refine v_i2c X dJ1_charAt_3b067_13 ?_
  exact v_iret hR dJ1_charAt_3b067_14
set_option maxRecDepth 100000 in
theorem c_charAt {l : Launch} {D : va_G} {qT : Nat → ClassId} {Z : (Nat → Prop) → State → Heap → Prop} (hZ : ZOK Z) (hSt : StatZ Z) {a n : Nat} {bt : Nat → Int32} (hs : StrZ Z a n bt) {i : Int32} (hi : inb i n = true) (hn : n < 2 ^ 31) : CI l D qT Z yJ0_charAt_5068e cJ0_charAt_5068e 2 (some .char) 4 0 0 [.ref a, .int i] [] (((bt i.toNatClampNeg) &&& 255).toUInt32 % 65536).toInt32 [] := by
  refine CT_of hZ (by decide) (Nat.le_of_ble_eq_true rfl) (pk_nc _) ?_
  intro x e1 e2 e3 e4 e6 X hR
  subst e1 e2 e3 e4
  refine v_aload_n X 0 rfl dJ0_charAt_5068e_0 ?_
  refine v_callKI X (c_isLatin1 X.2.2.2.2.2.2.2.1 hSt hs) cwv_J0_492 rfl (by decide) ⟨Nat.zero_le _, Nat.zero_le _⟩ hs.recv [] [] [] rfl (by decide) (wr := []) rfl (by decide) (by decide) (ws2 := []) rfl (by decide) (Nat.le_of_ble_eq_true rfl) rfl dJ0_charAt_5068e_1 ?_
  refine v_if_eq_F X (tgt := 16) (by decide) (by decide) dJ0_charAt_5068e_4 ?_
  obtain ⟨av, hs⟩ := hs
  refine v_aload_n X 0 rfl dJ0_charAt_5068e_7 ?_
  refine v_getO X (fun A U H h => (hs A U H h).2.2.1) wd891 rfl dJ0_charAt_5068e_8 ?_
  refine v_iload_n X 1 rfl dJ0_charAt_5068e_11 ?_
  refine v_scallI X (c_charAtL X.2.2.2.2.2.2.2.1 hSt (fun A U H h => (hs A U H h).2.2.2) hi hn) cws_J0_495 rfl (by decide) ⟨Nat.zero_le _, Nat.zero_le _⟩ [] [] [] rfl (by decide) (wr := []) rfl (by decide) (by decide) (ws2 := []) rfl (by decide) (Nat.le_of_ble_eq_true rfl) rfl dJ0_charAt_5068e_12 ?_
  exact v_iret hR dJ0_charAt_5068e_15
set_option maxRecDepth 100000 in
theorem c_length {l : Launch} {D : va_G} {qT : Nat → ClassId} {Z : (Nat → Prop) → State → Heap → Prop} (hZ : ZOK Z) (hSt : StatZ Z) {a n : Nat} {bt : Nat → Int32} (hs : StrZ Z a n bt) : CI l D qT Z yJ0_length_8abf5 cJ0_length_8abf5 1 (some .int) 2 0 0 [.ref a] [] (nI n) [] := by
  refine CI_of hZ (by decide) (Nat.le_of_ble_eq_true rfl) ?_
  intro x e1 e2 e3 e4 e5 e6 hin X hR
  subst e1 e2 e3 e4
  have hr := hs.recv
  have hs0 := hs
  obtain ⟨av, hs⟩ := hs
  refine v_aload_n X 0 rfl dJ0_length_8abf5_0 ?_
  refine v_getO X (fun A U H h => (hs A U H h).2.2.1) wd891 rfl dJ0_length_8abf5_1 ?_
  refine v_tlen X (fun A U H h => (hs A U H h).2.2.2) rfl dJ0_length_8abf5_4 ?_
  refine v_aload_n X 0 rfl dJ0_length_8abf5_5 ?_
  refine v_callKI X (c_coder X.2.2.2.2.2.2.2.1 hSt hs0) cwv_J0_335 rfl (by decide) ⟨Nat.zero_le _, Nat.zero_le _⟩ hr [] [] [] rfl (by decide) (wr := []) rfl (by decide) (by decide) (ws2 := []) rfl (by decide) (Nat.le_of_ble_eq_true rfl) rfl dJ0_length_8abf5_6 ?_
  refine v_ishr X dJ0_length_8abf5_9 ?_
  refine v_eq (st' := [.int (nI n)]) (by rw [sb_shr0]; rfl) ?_
  exact v_iret hR dJ0_length_8abf5_10
theorem StrC_of {D : va_G} {qT : Nat → ClassId} {Z : (Nat → Prop) → State → Heap → Prop} (hZ : ZOK Z) (hSt : StatZ Z) {a n : Nat} {bt chS : Nat → Int32} (hs : StrZ Z a n bt) (hn : n < 2 ^ 31) (hc : ∀ j, j < n → ((bt j &&& 255).toUInt32 % 65536).toInt32 = chS j) : StrC D qT Z a n chS := by
  refine ⟨hs.recv, fun l => c_length hZ hSt hs, fun l k hk => ?_⟩
  have h2 := of_decide_eq_true hk
  have h3 := clampI h2.1
  rw [← hc k.toNatClampNeg (by omega)]
  exact c_charAt hZ hSt hs hk hn
