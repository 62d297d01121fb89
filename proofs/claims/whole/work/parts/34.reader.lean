theorem wd750 : Cond.methodLink RX1 126 yJ0_length_8abf5 ∈ gw := gw_of (List.mem_append_right _ (List.mem_of_getElem? (i := 253) (by decide +kernel))) (by decide +kernel)
theorem wd751 : Cond.instanceMethod yJ0_length_8abf5 ∈ gw := gw_of (List.mem_append_right _ (List.mem_of_getElem? (i := 182) (by decide +kernel))) (by decide +kernel)
theorem wd752 : Cond.selects RJ0 yJ0_length_8abf5 yJ0_length_8abf5 ∈ gw := gw_of (List.mem_append_right _ (List.mem_of_getElem? (i := 183) (by decide +kernel))) (by decide +kernel)
theorem wd753 : Cond.initialized RJ0 ∈ gw := gw_of (List.mem_append_right _ (List.mem_of_getElem? (i := 7) (by decide +kernel))) (by decide +kernel)
theorem wd754 : Cond.code yJ0_length_8abf5 cJ0_length_8abf5 1 (some .int) ∈ gw := gw_of (List.mem_append_right _ (List.mem_of_getElem? (i := 184) (by decide +kernel))) (by decide +kernel)
theorem cwv_X1_126 : CWv RX1 126 yJ0_length_8abf5 cJ0_length_8abf5 1 (some .int) 0 := ⟨wd750, wd751, wd752, wd753, wd754, (by decide +kernel), (by decide +kernel), (by decide +kernel), (by decide +kernel)⟩
theorem wd755 : Cond.methodLink RX1 132 yJ0_charAt_5068e ∈ gw := gw_of (List.mem_append_right _ (List.mem_of_getElem? (i := 254) (by decide +kernel))) (by decide +kernel)
theorem wd756 : Cond.instanceMethod yJ0_charAt_5068e ∈ gw := gw_of (List.mem_append_right _ (List.mem_of_getElem? (i := 192) (by decide +kernel))) (by decide +kernel)
theorem wd757 : Cond.selects RJ0 yJ0_charAt_5068e yJ0_charAt_5068e ∈ gw := gw_of (List.mem_append_right _ (List.mem_of_getElem? (i := 193) (by decide +kernel))) (by decide +kernel)
theorem wd758 : Cond.code yJ0_charAt_5068e cJ0_charAt_5068e 2 (some .char) ∈ gw := gw_of (List.mem_append_right _ (List.mem_of_getElem? (i := 194) (by decide +kernel))) (by decide +kernel)
theorem cwv_X1_132 : CWv RX1 132 yJ0_charAt_5068e cJ0_charAt_5068e 2 (some .char) 1 := ⟨wd755, wd756, wd757, wd753, wd758, (by decide +kernel), (by decide +kernel), (by decide +kernel), (by decide +kernel)⟩
theorem wd759 : Cond.methodLink RX1 100 yX1_mayBe ∈ gw := gw_of (List.mem_append_right _ (List.mem_of_getElem? (i := 249) (by decide +kernel))) (by decide +kernel)
theorem wd760 : Cond.instanceMethod yX1_mayBe ∈ gw := gw_of (List.mem_append_right _ (List.mem_of_getElem? (i := 251) (by decide +kernel))) (by decide +kernel)
theorem wd761 : Cond.selects RX1 yX1_mayBe yX1_mayBe ∈ gw := gw_of (List.mem_append_left _ (List.mem_of_getElem? (i := 2) (by decide +kernel))) (by decide +kernel)
theorem wd762 : Cond.code yX1_mayBe cX1_mayBe 6 none ∈ gw := gw_of (List.mem_append_right _ (List.mem_of_getElem? (i := 252) (by decide +kernel))) (by decide +kernel)
theorem cwv_X1_100 : CWv RX1 100 yX1_mayBe cX1_mayBe 6 none 3 := ⟨wd759, wd760, wd761, wd104, wd762, (by decide +kernel), (by decide +kernel), (by decide +kernel), (by decide +kernel)⟩
theorem wd763 : Cond.methodLink RX1 83 yX1_isLetter ∈ gw := gw_of (List.mem_append_right _ (List.mem_of_getElem? (i := 241) (by decide +kernel))) (by decide +kernel)
theorem wd764 : Cond.static yX1_isLetter ∈ gw := gw_of (List.mem_append_right _ (List.mem_of_getElem? (i := 242) (by decide +kernel))) (by decide +kernel)
theorem wd765 : Cond.code yX1_isLetter cX1_isLetter 1 (some .boolean) ∈ gw := gw_of (List.mem_append_right _ (List.mem_of_getElem? (i := 243) (by decide +kernel))) (by decide +kernel)
theorem cws_X1_83 : CWs RX1 83 yX1_isLetter cX1_isLetter 1 (some .boolean) 1 := ⟨wd763, wd764, wd104, wd765, (by decide +kernel), (by decide +kernel), (by decide +kernel), (by decide +kernel)⟩
theorem wd766 : Cond.methodLink RX1 95 yX1_isSign ∈ gw := gw_of (List.mem_append_right _ (List.mem_of_getElem? (i := 273) (by decide +kernel))) (by decide +kernel)
theorem wd767 : Cond.static yX1_isSign ∈ gw := gw_of (List.mem_append_right _ (List.mem_of_getElem? (i := 274) (by decide +kernel))) (by decide +kernel)
theorem wd768 : Cond.code yX1_isSign cX1_isSign 1 (some .boolean) ∈ gw := gw_of (List.mem_append_right _ (List.mem_of_getElem? (i := 275) (by decide +kernel))) (by decide +kernel)
theorem cws_X1_95 : CWs RX1 95 yX1_isSign cX1_isSign 1 (some .boolean) 1 := ⟨wd766, wd767, wd104, wd768, (by decide +kernel), (by decide +kernel), (by decide +kernel), (by decide +kernel)⟩
theorem wd769 : Cond.methodLink RX1 92 yX1_nextNumber ∈ gw := gw_of (List.mem_append_right _ (List.mem_of_getElem? (i := 269) (by decide +kernel))) (by decide +kernel)
theorem wd770 : Cond.instanceMethod yX1_nextNumber ∈ gw := gw_of (List.mem_append_right _ (List.mem_of_getElem? (i := 271) (by decide +kernel))) (by decide +kernel)
theorem wd771 : Cond.selects RX1 yX1_nextNumber yX1_nextNumber ∈ gw := gw_of (List.mem_append_left _ (List.mem_of_getElem? (i := 3) (by decide +kernel))) (by decide +kernel)
theorem wd772 : Cond.code yX1_nextNumber cX1_nextNumber 2 none ∈ gw := gw_of (List.mem_append_right _ (List.mem_of_getElem? (i := 272) (by decide +kernel))) (by decide +kernel)
theorem cwv_X1_92 : CWv RX1 92 yX1_nextNumber cX1_nextNumber 2 none 0 := ⟨wd769, wd770, wd771, wd104, wd772, (by decide +kernel), (by decide +kernel), (by decide +kernel), (by decide +kernel)⟩
theorem wd773 : Cond.methodLink RX1 86 yX1_nextWord ∈ gw := gw_of (List.mem_append_right _ (List.mem_of_getElem? (i := 244) (by decide +kernel))) (by decide +kernel)
theorem wd774 : Cond.instanceMethod yX1_nextWord ∈ gw := gw_of (List.mem_append_right _ (List.mem_of_getElem? (i := 246) (by decide +kernel))) (by decide +kernel)
theorem wd775 : Cond.selects RX1 yX1_nextWord yX1_nextWord ∈ gw := gw_of (List.mem_append_left _ (List.mem_of_getElem? (i := 1) (by decide +kernel))) (by decide +kernel)
theorem wd776 : Cond.code yX1_nextWord cX1_nextWord 2 none ∈ gw := gw_of (List.mem_append_right _ (List.mem_of_getElem? (i := 247) (by decide +kernel))) (by decide +kernel)
theorem cwv_X1_86 : CWv RX1 86 yX1_nextWord cX1_nextWord 2 none 0 := ⟨wd773, wd774, wd775, wd104, wd776, (by decide +kernel), (by decide +kernel), (by decide +kernel), (by decide +kernel)⟩
theorem wd777 : Cond.methodLink RX1 40 yX1_next ∈ gw := gw_of (List.mem_append_right _ (List.mem_of_getElem? (i := 237) (by decide +kernel))) (by decide +kernel)
theorem wd778 : Cond.instanceMethod yX1_next ∈ gw := gw_of (List.mem_append_right _ (List.mem_of_getElem? (i := 239) (by decide +kernel))) (by decide +kernel)
theorem wd779 : Cond.selects RX1 yX1_next yX1_next ∈ gw := gw_of (List.mem_append_left _ (List.mem_of_getElem? (i := 0) (by decide +kernel))) (by decide +kernel)
theorem wd780 : Cond.code yX1_next cX1_next 2 none ∈ gw := gw_of (List.mem_append_right _ (List.mem_of_getElem? (i := 240) (by decide +kernel))) (by decide +kernel)
theorem cwv_X1_40 : CWv RX1 40 yX1_next cX1_next 2 none 0 := ⟨wd777, wd778, wd779, wd104, wd780, (by decide +kernel), (by decide +kernel), (by decide +kernel), (by decide +kernel)⟩
theorem wd781 : Cond.methodLink RX1 61 yX1_fail ∈ gw := gw_of (List.mem_append_right _ (List.mem_of_getElem? (i := 280) (by decide +kernel))) (by decide +kernel)
theorem wd782 : Cond.instanceMethod yX1_fail ∈ gw := gw_of (List.mem_append_right _ (List.mem_of_getElem? (i := 282) (by decide +kernel))) (by decide +kernel)
theorem wd783 : Cond.selects RX1 yX1_fail yX1_fail ∈ gw := gw_of (List.mem_append_left _ (List.mem_of_getElem? (i := 5) (by decide +kernel))) (by decide +kernel)
theorem wd784 : Cond.code yX1_fail cX1_fail 1 (some .boolean) ∈ gw := gw_of (List.mem_append_right _ (List.mem_of_getElem? (i := 283) (by decide +kernel))) (by decide +kernel)
theorem cwv_X1_61 : CWv RX1 61 yX1_fail cX1_fail 1 (some .boolean) 0 := ⟨wd781, wd782, wd783, wd104, wd784, (by decide +kernel), (by decide +kernel), (by decide +kernel), (by decide +kernel)⟩
theorem wd785 : Cond.methodLink RX1 68 yX1_put ∈ gw := gw_of (List.mem_append_right _ (List.mem_of_getElem? (i := 296) (by decide +kernel))) (by decide +kernel)
theorem wd786 : Cond.instanceMethod yX1_put ∈ gw := gw_of (List.mem_append_right _ (List.mem_of_getElem? (i := 298) (by decide +kernel))) (by decide +kernel)
theorem wd787 : Cond.selects RX1 yX1_put yX1_put ∈ gw := gw_of (List.mem_append_left _ (List.mem_of_getElem? (i := 9) (by decide +kernel))) (by decide +kernel)
theorem wd788 : Cond.code yX1_put cX1_put 2 (some .boolean) ∈ gw := gw_of (List.mem_append_right _ (List.mem_of_getElem? (i := 299) (by decide +kernel))) (by decide +kernel)
theorem cwv_X1_68 : CWv RX1 68 yX1_put cX1_put 2 (some .boolean) 1 := ⟨wd785, wd786, wd787, wd104, wd788, (by decide +kernel), (by decide +kernel), (by decide +kernel), (by decide +kernel)⟩
theorem wd789 : Cond.methodLink RX1 47 yX1_readEither ∈ gw := gw_of (List.mem_append_right _ (List.mem_of_getElem? (i := 284) (by decide +kernel))) (by decide +kernel)
theorem wd790 : Cond.instanceMethod yX1_readEither ∈ gw := gw_of (List.mem_append_right _ (List.mem_of_getElem? (i := 286) (by decide +kernel))) (by decide +kernel)
theorem wd791 : Cond.selects RX1 yX1_readEither yX1_readEither ∈ gw := gw_of (List.mem_append_left _ (List.mem_of_getElem? (i := 6) (by decide +kernel))) (by decide +kernel)
theorem wd792 : Cond.code yX1_readEither cX1_readEither 4 (some .boolean) ∈ gw := gw_of (List.mem_append_right _ (List.mem_of_getElem? (i := 287) (by decide +kernel))) (by decide +kernel)
theorem cwv_X1_47 : CWv RX1 47 yX1_readEither cX1_readEither 4 (some .boolean) 1 := ⟨wd789, wd790, wd791, wd104, wd792, (by decide +kernel), (by decide +kernel), (by decide +kernel), (by decide +kernel)⟩
theorem wd793 : Cond.methodLink RX1 43 yX1_expect ∈ gw := gw_of (List.mem_append_right _ (List.mem_of_getElem? (i := 276) (by decide +kernel))) (by decide +kernel)
theorem wd794 : Cond.instanceMethod yX1_expect ∈ gw := gw_of (List.mem_append_right _ (List.mem_of_getElem? (i := 278) (by decide +kernel))) (by decide +kernel)
theorem wd795 : Cond.selects RX1 yX1_expect yX1_expect ∈ gw := gw_of (List.mem_append_left _ (List.mem_of_getElem? (i := 4) (by decide +kernel))) (by decide +kernel)
theorem wd796 : Cond.code yX1_expect cX1_expect 2 (some .boolean) ∈ gw := gw_of (List.mem_append_right _ (List.mem_of_getElem? (i := 279) (by decide +kernel))) (by decide +kernel)
theorem cwv_X1_43 : CWv RX1 43 yX1_expect cX1_expect 2 (some .boolean) 1 := ⟨wd793, wd794, wd795, wd104, wd796, (by decide +kernel), (by decide +kernel), (by decide +kernel), (by decide +kernel)⟩
theorem wd797 : Cond.methodLink RX1 80 yX1_readOne ∈ gw := gw_of (List.mem_append_right _ (List.mem_of_getElem? (i := 308) (by decide +kernel))) (by decide +kernel)
theorem wd798 : Cond.instanceMethod yX1_readOne ∈ gw := gw_of (List.mem_append_right _ (List.mem_of_getElem? (i := 310) (by decide +kernel))) (by decide +kernel)
theorem wd799 : Cond.selects RX1 yX1_readOne yX1_readOne ∈ gw := gw_of (List.mem_append_left _ (List.mem_of_getElem? (i := 12) (by decide +kernel))) (by decide +kernel)
theorem wd800 : Cond.code yX1_readOne cX1_readOne 3 (some .boolean) ∈ gw := gw_of (List.mem_append_right _ (List.mem_of_getElem? (i := 311) (by decide +kernel))) (by decide +kernel)
theorem cwv_X1_80 : CWv RX1 80 yX1_readOne cX1_readOne 3 (some .boolean) 1 := ⟨wd797, wd798, wd799, wd104, wd800, (by decide +kernel), (by decide +kernel), (by decide +kernel), (by decide +kernel)⟩
theorem wd801 : Cond.methodLink RX1 77 yX1_readTerm ∈ gw := gw_of (List.mem_append_right _ (List.mem_of_getElem? (i := 304) (by decide +kernel))) (by decide +kernel)
theorem wd802 : Cond.instanceMethod yX1_readTerm ∈ gw := gw_of (List.mem_append_right _ (List.mem_of_getElem? (i := 306) (by decide +kernel))) (by decide +kernel)
theorem wd803 : Cond.selects RX1 yX1_readTerm yX1_readTerm ∈ gw := gw_of (List.mem_append_left _ (List.mem_of_getElem? (i := 11) (by decide +kernel))) (by decide +kernel)
theorem wd804 : Cond.code yX1_readTerm cX1_readTerm 4 (some .boolean) ∈ gw := gw_of (List.mem_append_right _ (List.mem_of_getElem? (i := 307) (by decide +kernel))) (by decide +kernel)
theorem cwv_X1_77 : CWv RX1 77 yX1_readTerm cX1_readTerm 4 (some .boolean) 1 := ⟨wd801, wd802, wd803, wd104, wd804, (by decide +kernel), (by decide +kernel), (by decide +kernel), (by decide +kernel)⟩
theorem wd805 : Cond.methodLink RX1 74 yX1_readSum ∈ gw := gw_of (List.mem_append_right _ (List.mem_of_getElem? (i := 300) (by decide +kernel))) (by decide +kernel)
theorem wd806 : Cond.instanceMethod yX1_readSum ∈ gw := gw_of (List.mem_append_right _ (List.mem_of_getElem? (i := 302) (by decide +kernel))) (by decide +kernel)
theorem wd807 : Cond.selects RX1 yX1_readSum yX1_readSum ∈ gw := gw_of (List.mem_append_left _ (List.mem_of_getElem? (i := 10) (by decide +kernel))) (by decide +kernel)
theorem wd808 : Cond.code yX1_readSum cX1_readSum 5 (some .boolean) ∈ gw := gw_of (List.mem_append_right _ (List.mem_of_getElem? (i := 303) (by decide +kernel))) (by decide +kernel)
theorem cwv_X1_74 : CWv RX1 74 yX1_readSum cX1_readSum 5 (some .boolean) 1 := ⟨wd805, wd806, wd807, wd104, wd808, (by decide +kernel), (by decide +kernel), (by decide +kernel), (by decide +kernel)⟩
theorem wd809 : Cond.methodLink RX1 71 yX1_readNot ∈ gw := gw_of (List.mem_append_right _ (List.mem_of_getElem? (i := 292) (by decide +kernel))) (by decide +kernel)
theorem wd810 : Cond.instanceMethod yX1_readNot ∈ gw := gw_of (List.mem_append_right _ (List.mem_of_getElem? (i := 294) (by decide +kernel))) (by decide +kernel)
theorem wd811 : Cond.selects RX1 yX1_readNot yX1_readNot ∈ gw := gw_of (List.mem_append_left _ (List.mem_of_getElem? (i := 8) (by decide +kernel))) (by decide +kernel)
theorem wd812 : Cond.code yX1_readNot cX1_readNot 3 (some .boolean) ∈ gw := gw_of (List.mem_append_right _ (List.mem_of_getElem? (i := 295) (by decide +kernel))) (by decide +kernel)
theorem cwv_X1_71 : CWv RX1 71 yX1_readNot cX1_readNot 3 (some .boolean) 1 := ⟨wd809, wd810, wd811, wd104, wd812, (by decide +kernel), (by decide +kernel), (by decide +kernel), (by decide +kernel)⟩
theorem wd813 : Cond.methodLink RX1 65 yX1_readBoth ∈ gw := gw_of (List.mem_append_right _ (List.mem_of_getElem? (i := 288) (by decide +kernel))) (by decide +kernel)
theorem wd814 : Cond.instanceMethod yX1_readBoth ∈ gw := gw_of (List.mem_append_right _ (List.mem_of_getElem? (i := 290) (by decide +kernel))) (by decide +kernel)
theorem wd815 : Cond.selects RX1 yX1_readBoth yX1_readBoth ∈ gw := gw_of (List.mem_append_left _ (List.mem_of_getElem? (i := 7) (by decide +kernel))) (by decide +kernel)
theorem wd816 : Cond.code yX1_readBoth cX1_readBoth 4 (some .boolean) ∈ gw := gw_of (List.mem_append_right _ (List.mem_of_getElem? (i := 291) (by decide +kernel))) (by decide +kernel)
theorem cwv_X1_65 : CWv RX1 65 yX1_readBoth cX1_readBoth 4 (some .boolean) 1 := ⟨wd813, wd814, wd815, wd104, wd816, (by decide +kernel), (by decide +kernel), (by decide +kernel), (by decide +kernel)⟩
/-- the letters of a text -/
def chT (tx : String) (j : Nat) : Int32 := Int32.ofNat ((tx.toList.getD j 'a').toNat)
/-- what a constant text answers: its length, its letters -/
def StrC (D : va_G) (qT : Nat → ClassId) (Z : (Nat → Prop) → State → Heap → Prop) (a : Nat) (nS : Nat) (chS : Nat → Int32) : Prop :=
  KR Z RJ0 a ∧ (∀ l : Launch, CI l D qT Z yJ0_length_8abf5 cJ0_length_8abf5 1 (some .int) 2 0 0 [.ref a] [] (nI nS) []) ∧ ∀ (l : Launch) (k : Int32), inb k nS = true → CI l D qT Z yJ0_charAt_5068e cJ0_charAt_5068e 2 (some .char) 4 0 0 [.ref a, .int k] [] (chS k.toNatClampNeg) []
/-- the reader's words stand among the constants -/
def WordsK (D : va_G) (qT : Nat → ClassId) (Z : (Nat → Prop) → State → Heap → Prop) : Prop :=
  ∀ (k : Nat) (tx : String), (k, tx) ∈ ([(98, "views"), (104, "warms"), (106, "minds"), (108, "or"), (110, "and"), (112, "not"), (114, "side"), (116, "lamp"), (118, "stove"), (120, "number"), (122, "pose"), (124, "near")] : List (Nat × String)) → ∃ a : Nat, (∀ (A : Nat → Prop) (U : State) (H : Heap), Z A U H → vk_R RX1 k tx a U) ∧ StrC D qT Z a tx.length (chT tx)
theorem v_ldcS {x : VX} {cc : ByteArray} {own : String} {d0 k n : Nat} {ws : va_W} {lv : List (Nat × Value)} {pc : Nat} {st : List Value} (X : Cx x cc own d0) {j a : Nat} {tx : String} (h : ∀ (A : Nat → Prop) (U : State) (H : Heap), vxZ x A U H → vk_R own j tx a U) (hd : decode cc pc = .ok (.ldc j, 2)) (kk : V x k n ws lv (pc + 2) (.ref a :: st)) : V x k n ws lv pc st :=
  fun H locs ls hP hD hS hl => va_ldcS X.1 X.2.1 X.2.2.2.1 (h _ _ _ X.2.2.2.2.2.2.2.2.1) hd (kk H locs ls hP hD hS hl)
def f_X1_mayBe_59 (s_at : Int32) (s_token : Int32) (s_tokenAt : Int32) (s_value : Int32) (nS : Nat) (l2 : Int32) (l3 : Int32) (l4 : Int32) : Option (Int32 × Int32) :=
  if l4 = (nI nS) then (
  if (s_at - s_tokenAt) = l4 then (
  some (l2, l3)) else (
  some (s_token, s_value))) else (
  some (s_token, s_value))
def f_X1_mayBe_6 (s_at : Int32) (s_token : Int32) (s_tokenAt : Int32) (s_value : Int32) (s_tape : Nat → Int32) (nS : Nat) (chS : Nat → Int32) (l2 : Int32) (l3 : Int32) (kp_6 : Int32 → Int32 → Option (Int32 × Int32)) (l4 : Int32) (l5 : Int32) : Option (Int32 × Int32) :=
  if (nI nS) ≤ l5 then (
  f_X1_mayBe_59 s_at s_token s_tokenAt s_value nS l2 l3 l4) else (
  if s_at ≤ (s_tokenAt + l5) then (
  f_X1_mayBe_59 s_at s_token s_tokenAt s_value nS l2 l3 l4) else (
  if inb (s_tokenAt + l5) 160 = true then (
  if inb l5 nS = true then (
  if (s_tape (Int32.toNatClampNeg (s_tokenAt + l5))) = (chS (Int32.toNatClampNeg l5)) then (
  kp_6 (l4 + 1) (l5 + 1)) else (
  kp_6 l4 (l5 + 1))) else none) else none))
def f_X1_mayBe (l2 : Int32) (l3 : Int32) (s_at : Int32) (s_token : Int32) (s_tokenAt : Int32) (s_value : Int32) (s_tape : Nat → Int32) (nS : Nat) (chS : Nat → Int32) : Option (Int32 × Int32) :=
  lq2 (f_X1_mayBe_6 s_at s_token s_tokenAt s_value s_tape nS chS l2 l3) 200 0 0
set_option maxRecDepth 100000 in
set_option maxHeartbeats 4000000 in
theorem t_X1_mayBe_59 {x : VX} {r : Int32 × Int32} {a0 : Nat} {a_tape : Nat} {a_code : Nat} {s_size : Int32} {s_fault : Int32} {s_at : Int32} {s_token : Int32} {s_tokenAt : Int32} {s_value : Int32} {s_codeSize : Int32} {s_tape : Nat → Int32} {a_p1 : Nat} {nS : Nat} {chS : Nat → Int32} {l2 : Int32} {l3 : Int32} {l4 : Int32} (X : Cx x cX1_mayBe RX1 5) (hN : vxn x = 6) (hStr : StrC (vxD x) (vxT x) (vxZ x) a_p1 nS chS) (hR : RetV x cX1_mayBe 0 0 [(a0, .inr (1, [.int s_size, .int s_fault, .ref a_tape, .int s_at, .int r.1, .int s_tokenAt, .int r.2, .ref a_code, .int s_codeSize])), (a_tape, .inl (vxT x 0, 160, .inl s_tape))]) (hf : f_X1_mayBe_59 s_at s_token s_tokenAt s_value nS l2 l3 l4 = some r) : V x 0 0 [(a0, .inr (1, [.int s_size, .int s_fault, .ref a_tape, .int s_at, .int s_token, .int s_tokenAt, .int s_value, .ref a_code, .int s_codeSize])), (a_tape, .inl (vxT x 0, 160, .inl s_tape))] [(0, .ref a0), (1, .ref a_p1), (2, .int l2), (3, .int l3), (4, .int l4)] 59 [] := by
  unfold f_X1_mayBe_59 at hf
  refine v_iload X 4 rfl dX1_mayBe_59 ?_
  refine v_aload_n X 1 rfl dX1_mayBe_61 ?_
  refine v_callKI X (hStr.2.1 _) cwv_X1_126 rfl (by decide) ⟨Nat.zero_le _, Nat.zero_le _⟩ hStr.1 [] [0, 1] [0, 1] rfl (by decide) (wr := [(a0, .inr (1, [.int s_size, .int s_fault, .ref a_tape, .int s_at, .int s_token, .int s_tokenAt, .int s_value, .ref a_code, .int s_codeSize])), (a_tape, .inl (vxT x 0, 160, .inl s_tape))]) rfl (by decide) (by decide) (ws2 := [(a0, .inr (1, [.int s_size, .int s_fault, .ref a_tape, .int s_at, .int s_token, .int s_tokenAt, .int s_value, .ref a_code, .int s_codeSize])), (a_tape, .inl (vxT x 0, 160, .inl s_tape))]) rfl (by decide) (Nat.le_of_ble_eq_true rfl) rfl dX1_mayBe_62 ?_
  refine v_icmp_ne X (tgt := 92) hf (by decide) dX1_mayBe_65 (fun c65 hf => ?_) (fun c65 hf => ?_)
  · obtain rfl := Option.some.inj hf
    exact v_vret hR dX1_mayBe_92
  · refine v_aload_n X 0 rfl dX1_mayBe_68 ?_
    refine v_get X xinX1 0 rfl rfl 3 (by decide) wd101 rfl rfl dX1_mayBe_69 ?_
    refine v_aload_n X 0 rfl dX1_mayBe_72 ?_
    refine v_get X xinX1 0 rfl rfl 5 (by decide) wd95 rfl rfl dX1_mayBe_73 ?_
    refine v_isub X dX1_mayBe_76 ?_
    refine v_iload X 4 rfl dX1_mayBe_77 ?_
    refine v_icmp_ne X (tgt := 92) hf (by decide) dX1_mayBe_79 (fun c79 hf => ?_) (fun c79 hf => ?_)
    · obtain rfl := Option.some.inj hf
      exact v_vret hR dX1_mayBe_92
    · refine v_aload_n X 0 rfl dX1_mayBe_82 ?_
      refine v_iload_n X 2 rfl dX1_mayBe_83 ?_
      refine v_put X xinX1 tyX1 tyX1_ok nmX1 0 rfl rfl 4 (by decide) wd99 rfl rfl rfl rfl rfl (Nat.le_of_ble_eq_true rfl) (ws' := [(a0, .inr (1, [.int s_size, .int s_fault, .ref a_tape, .int s_at, .int l2, .int s_tokenAt, .int s_value, .ref a_code, .int s_codeSize])), (a_tape, .inl (vxT x 0, 160, .inl s_tape))]) rfl dX1_mayBe_84 ?_
      refine v_aload_n X 0 rfl dX1_mayBe_87 ?_
      refine v_iload_n X 3 rfl dX1_mayBe_88 ?_
      refine v_put X xinX1 tyX1 tyX1_ok nmX1 0 rfl rfl 6 (by decide) wd100 rfl rfl rfl rfl rfl (Nat.le_of_ble_eq_true rfl) (ws' := [(a0, .inr (1, [.int s_size, .int s_fault, .ref a_tape, .int s_at, .int l2, .int s_tokenAt, .int l3, .ref a_code, .int s_codeSize])), (a_tape, .inl (vxT x 0, 160, .inl s_tape))]) rfl dX1_mayBe_89 ?_
      obtain rfl := Option.some.inj hf
      exact v_vret hR dX1_mayBe_92
set_option maxRecDepth 100000 in
set_option maxHeartbeats 4000000 in
theorem t_X1_mayBe_6 {x : VX} {r : Int32 × Int32} {a0 : Nat} {a_tape : Nat} {a_code : Nat} {s_size : Int32} {s_fault : Int32} {s_at : Int32} {s_token : Int32} {s_tokenAt : Int32} {s_value : Int32} {s_codeSize : Int32} {s_tape : Nat → Int32} {a_p1 : Nat} {nS : Nat} {chS : Nat → Int32} {l2 : Int32} {l3 : Int32} (X : Cx x cX1_mayBe RX1 5) (hN : vxn x = 6) (hStr : StrC (vxD x) (vxT x) (vxZ x) a_p1 nS chS) (hR : RetV x cX1_mayBe 0 0 [(a0, .inr (1, [.int s_size, .int s_fault, .ref a_tape, .int s_at, .int r.1, .int s_tokenAt, .int r.2, .ref a_code, .int s_codeSize])), (a_tape, .inl (vxT x 0, 160, .inl s_tape))]) :
    ∀ (fu : Nat) (l4 : Int32) (l5 : Int32), lq2 (f_X1_mayBe_6 s_at s_token s_tokenAt s_value s_tape nS chS l2 l3) fu l4 l5 = some r → V x 0 0 [(a0, .inr (1, [.int s_size, .int s_fault, .ref a_tape, .int s_at, .int s_token, .int s_tokenAt, .int s_value, .ref a_code, .int s_codeSize])), (a_tape, .inl (vxT x 0, 160, .inl s_tape))] [(0, .ref a0), (1, .ref a_p1), (2, .int l2), (3, .int l3), (4, .int l4), (5, .int l5)] 6 [] := by
  refine lq2_V (G := fun l4 l5 => V x 0 0 [(a0, .inr (1, [.int s_size, .int s_fault, .ref a_tape, .int s_at, .int s_token, .int s_tokenAt, .int s_value, .ref a_code, .int s_codeSize])), (a_tape, .inl (vxT x 0, 160, .inl s_tape))] [(0, .ref a0), (1, .ref a_p1), (2, .int l2), (3, .int l3), (4, .int l4), (5, .int l5)] 6 []) ?_
  intro kp_6 hk_6 l4 l5 hf
  unfold f_X1_mayBe_6 at hf
  refine v_iload X 5 rfl dX1_mayBe_6 ?_
  refine v_aload_n X 1 rfl dX1_mayBe_8 ?_
  refine v_callKI X (hStr.2.1 _) cwv_X1_126 rfl (by decide) ⟨Nat.zero_le _, Nat.zero_le _⟩ hStr.1 [] [0, 1] [0, 1] rfl (by decide) (wr := [(a0, .inr (1, [.int s_size, .int s_fault, .ref a_tape, .int s_at, .int s_token, .int s_tokenAt, .int s_value, .ref a_code, .int s_codeSize])), (a_tape, .inl (vxT x 0, 160, .inl s_tape))]) rfl (by decide) (by decide) (ws2 := [(a0, .inr (1, [.int s_size, .int s_fault, .ref a_tape, .int s_at, .int s_token, .int s_tokenAt, .int s_value, .ref a_code, .int s_codeSize])), (a_tape, .inl (vxT x 0, 160, .inl s_tape))]) rfl (by decide) (Nat.le_of_ble_eq_true rfl) rfl dX1_mayBe_9 ?_
  refine v_icmp_ge X (tgt := 59) hf (by decide) dX1_mayBe_12 (fun c12 hf => ?_) (fun c12 hf => ?_)
  · refine v_lv [0, 1, 2, 3, 4] rfl ?_
    exact t_X1_mayBe_59 X hN hStr hR hf
  · refine v_aload_n X 0 rfl dX1_mayBe_15 ?_
    refine v_get X xinX1 0 rfl rfl 5 (by decide) wd95 rfl rfl dX1_mayBe_16 ?_
    refine v_iload X 5 rfl dX1_mayBe_19 ?_
    refine v_iadd X dX1_mayBe_21 ?_
    refine v_aload_n X 0 rfl dX1_mayBe_22 ?_
    refine v_get X xinX1 0 rfl rfl 3 (by decide) wd101 rfl rfl dX1_mayBe_23 ?_
    refine v_icmp_ge X (tgt := 59) hf (by decide) dX1_mayBe_26 (fun c26 hf => ?_) (fun c26 hf => ?_)
    · refine v_lv [0, 1, 2, 3, 4] rfl ?_
      exact t_X1_mayBe_59 X hN hStr hR hf
    · refine v_aload_n X 0 rfl dX1_mayBe_29 ?_
      refine v_get X xinX1 0 rfl rfl 2 (by decide) wd94 rfl rfl dX1_mayBe_30 ?_
      refine v_aload_n X 0 rfl dX1_mayBe_33 ?_
      refine v_get X xinX1 0 rfl rfl 5 (by decide) wd95 rfl rfl dX1_mayBe_34 ?_
      refine v_iload X 5 rfl dX1_mayBe_37 ?_
      refine v_iadd X dX1_mayBe_39 ?_
      refine v_iald X 1 rfl hf dX1_mayBe_40 (fun h40 hf => ?_)
      refine v_aload_n X 1 rfl dX1_mayBe_41 ?_
      refine v_iload X 5 rfl dX1_mayBe_42 ?_
      obtain ⟨hb44, hf⟩ := if_some hf
      refine v_callKI X (hStr.2.2 _ _ hb44) cwv_X1_132 rfl (by decide) ⟨Nat.zero_le _, Nat.zero_le _⟩ hStr.1 [] [0, 1] [0, 1] rfl (by decide) (wr := [(a0, .inr (1, [.int s_size, .int s_fault, .ref a_tape, .int s_at, .int s_token, .int s_tokenAt, .int s_value, .ref a_code, .int s_codeSize])), (a_tape, .inl (vxT x 0, 160, .inl s_tape))]) rfl (by decide) (by decide) (ws2 := [(a0, .inr (1, [.int s_size, .int s_fault, .ref a_tape, .int s_at, .int s_token, .int s_tokenAt, .int s_value, .ref a_code, .int s_codeSize])), (a_tape, .inl (vxT x 0, 160, .inl s_tape))]) rfl (by decide) (Nat.le_of_ble_eq_true rfl) rfl dX1_mayBe_44 ?_
      refine v_icmp_ne X (tgt := 53) hf (by decide) dX1_mayBe_47 (fun c47 hf => ?_) (fun c47 hf => ?_)
      · refine v_iinc X 5 rfl (v := (l5 + 1)) rfl (by rw [hN]; decide) (lv' := [(5, .int (l5 + 1)), (0, .ref a0), (1, .ref a_p1), (2, .int l2), (3, .int l3), (4, .int l4)]) rfl dX1_mayBe_53 ?_
        refine v_goto X (tgt := 6) (by decide) dX1_mayBe_56 ?_
        refine v_lv [1, 2, 3, 4, 5, 0] rfl ?_
        exact hk_6 _ _ hf
      · refine v_iinc X 4 rfl (v := (l4 + 1)) rfl (by rw [hN]; decide) (lv' := [(4, .int (l4 + 1)), (0, .ref a0), (1, .ref a_p1), (2, .int l2), (3, .int l3), (5, .int l5)]) rfl dX1_mayBe_50 ?_
        refine v_iinc X 5 rfl (v := (l5 + 1)) rfl (by rw [hN]; decide) (lv' := [(5, .int (l5 + 1)), (4, .int (l4 + 1)), (0, .ref a0), (1, .ref a_p1), (2, .int l2), (3, .int l3)]) rfl dX1_mayBe_53 ?_
        refine v_goto X (tgt := 6) (by decide) dX1_mayBe_56 ?_
        refine v_lv [2, 3, 4, 5, 1, 0] rfl ?_
        exact hk_6 _ _ hf
set_option maxRecDepth 100000 in
set_option maxHeartbeats 4000000 in
theorem t_X1_mayBe {x : VX} {r : Int32 × Int32} {a0 : Nat} {a_tape : Nat} {a_code : Nat} {s_size : Int32} {s_fault : Int32} {s_at : Int32} {s_token : Int32} {s_tokenAt : Int32} {s_value : Int32} {s_codeSize : Int32} {s_tape : Nat → Int32} {a_p1 : Nat} {nS : Nat} {chS : Nat → Int32} {l2 : Int32} {l3 : Int32} (X : Cx x cX1_mayBe RX1 5) (hN : vxn x = 6) (hStr : StrC (vxD x) (vxT x) (vxZ x) a_p1 nS chS) (hR : RetV x cX1_mayBe 0 0 [(a0, .inr (1, [.int s_size, .int s_fault, .ref a_tape, .int s_at, .int r.1, .int s_tokenAt, .int r.2, .ref a_code, .int s_codeSize])), (a_tape, .inl (vxT x 0, 160, .inl s_tape))]) (hf : f_X1_mayBe l2 l3 s_at s_token s_tokenAt s_value s_tape nS chS = some r) : V x 0 0 [(a0, .inr (1, [.int s_size, .int s_fault, .ref a_tape, .int s_at, .int s_token, .int s_tokenAt, .int s_value, .ref a_code, .int s_codeSize])), (a_tape, .inl (vxT x 0, 160, .inl s_tape))] [(0, .ref a0), (1, .ref a_p1), (2, .int l2), (3, .int l3)] 0 [] := by
  unfold f_X1_mayBe at hf
  refine v_iconst X (v := 0) (by decide) dX1_mayBe_0 ?_
  refine v_istore X (by rw [hN]; decide) (lv' := [(4, .int 0), (0, .ref a0), (1, .ref a_p1), (2, .int l2), (3, .int l3)]) rfl dX1_mayBe_1 ?_
  refine v_iconst X (v := 0) (by decide) dX1_mayBe_3 ?_
  refine v_istore X (by rw [hN]; decide) (lv' := [(5, .int 0), (4, .int 0), (0, .ref a0), (1, .ref a_p1), (2, .int l2), (3, .int l3)]) rfl dX1_mayBe_4 ?_
  refine v_lv [2, 3, 4, 5, 1, 0] rfl ?_
  exact t_X1_mayBe_6 X hN hStr hR 200 _ _ hf
set_option maxRecDepth 100000 in
set_option maxHeartbeats 4000000 in
theorem c_X1_mayBe {l : Launch} {D : va_G} {qT : Nat → ClassId} {Z : (Nat → Prop) → State → Heap → Prop} {r : Int32 × Int32} {a0 : Nat} {a_tape : Nat} {a_code : Nat} {s_size : Int32} {s_fault : Int32} {s_at : Int32} {s_token : Int32} {s_tokenAt : Int32} {s_value : Int32} {s_codeSize : Int32} {s_tape : Nat → Int32} {a_p1 : Nat} {nS : Nat} {chS : Nat → Int32} {l2 : Int32} {l3 : Int32} (hZ : ZOK Z) (hStr : StrC D qT Z a_p1 nS chS) (hf : f_X1_mayBe l2 l3 s_at s_token s_tokenAt s_value s_tape nS chS = some r) :
    CV l D qT Z yX1_mayBe cX1_mayBe 6 none 5 0 0 [.ref a0, .ref a_p1, .int l2, .int l3] [(a0, .inr (1, [.int s_size, .int s_fault, .ref a_tape, .int s_at, .int s_token, .int s_tokenAt, .int s_value, .ref a_code, .int s_codeSize])), (a_tape, .inl (qT 0, 160, .inl s_tape))] [(a0, .inr (1, [.int s_size, .int s_fault, .ref a_tape, .int s_at, .int r.1, .int s_tokenAt, .int r.2, .ref a_code, .int s_codeSize])), (a_tape, .inl (qT 0, 160, .inl s_tape))] := by
  refine CV_of hZ (by decide) (Nat.le_of_ble_eq_true rfl) ?_
  intro x e1 e2 e3 e4 e5 e6 hin X hR
  subst e1 e2 e3 e4
  exact t_X1_mayBe X e6 hStr hR hf
def f_X1_nextWord_51 (s_at : Int32) (s_tokenAt : Int32) (s_value : Int32) (s_tape : Nat → Int32) : Option (Int32 × Int32 × Int32) :=
  (f_X1_mayBe 260 0 s_at 257 s_tokenAt s_value s_tape 5 (chT "views")).bind (fun v65_1 =>
  (f_X1_mayBe 261 0 s_at v65_1.1 s_tokenAt v65_1.2 s_tape 5 (chT "warms")).bind (fun v75_2 =>
  (f_X1_mayBe 262 0 s_at v75_2.1 s_tokenAt v75_2.2 s_tape 5 (chT "minds")).bind (fun v85_3 =>
  (f_X1_mayBe 263 0 s_at v85_3.1 s_tokenAt v85_3.2 s_tape 2 (chT "or")).bind (fun v95_4 =>
  (f_X1_mayBe 264 0 s_at v95_4.1 s_tokenAt v95_4.2 s_tape 3 (chT "and")).bind (fun v105_5 =>
  (f_X1_mayBe 265 0 s_at v105_5.1 s_tokenAt v105_5.2 s_tape 3 (chT "not")).bind (fun v115_6 =>
  (f_X1_mayBe 259 (-1) s_at v115_6.1 s_tokenAt v115_6.2 s_tape 4 (chT "side")).bind (fun v125_7 =>
  (f_X1_mayBe 259 (-2) s_at v125_7.1 s_tokenAt v125_7.2 s_tape 4 (chT "lamp")).bind (fun v136_8 =>
  (f_X1_mayBe 259 (-3) s_at v136_8.1 s_tokenAt v136_8.2 s_tape 5 (chT "stove")).bind (fun v147_9 =>
  (f_X1_mayBe 259 (-4) s_at v147_9.1 s_tokenAt v147_9.2 s_tape 6 (chT "number")).bind (fun v158_10 =>
  (f_X1_mayBe 259 (-5) s_at v158_10.1 s_tokenAt v158_10.2 s_tape 4 (chT "pose")).bind (fun v169_11 =>
  (f_X1_mayBe 259 (-6) s_at v169_11.1 s_tokenAt v169_11.2 s_tape 4 (chT "near")).bind (fun v180_12 =>
  some (s_at, v180_12.1, v180_12.2)))))))))))))
def f_X1_nextWord_2 (s_size : Int32) (s_tokenAt : Int32) (s_value : Int32) (s_tape : Nat → Int32) (kp_2 : Int32 → Int32 → Option (Int32 × Int32 × Int32)) (l1 : Int32) (s_at : Int32) : Option (Int32 × Int32 × Int32) :=
  if 160 ≤ l1 then (
  f_X1_nextWord_51 s_at s_tokenAt s_value s_tape) else (
  if s_size ≤ s_at then (
  f_X1_nextWord_51 s_at s_tokenAt s_value s_tape) else (
  if inb s_at 160 = true then (
  (f_X1_isLetter (s_tape (Int32.toNatClampNeg s_at))).bind (fun v29_13 =>
  if v29_13 = 0 then (
  f_X1_nextWord_51 s_at s_tokenAt s_value s_tape) else (
  kp_2 (l1 + 1) (s_at + 1)))) else none))
def f_X1_nextWord (s_size : Int32) (s_at : Int32) (s_tokenAt : Int32) (s_value : Int32) (s_tape : Nat → Int32) : Option (Int32 × Int32 × Int32) :=
  lq2 (f_X1_nextWord_2 s_size s_tokenAt s_value s_tape) 200 0 s_at
set_option maxRecDepth 100000 in
set_option maxHeartbeats 4000000 in
theorem t_X1_nextWord_51 {x : VX} {r : Int32 × Int32 × Int32} {a0 : Nat} {a_tape : Nat} {a_code : Nat} {s_size : Int32} {s_fault : Int32} {s_at : Int32} {s_token : Int32} {s_tokenAt : Int32} {s_value : Int32} {s_codeSize : Int32} {s_tape : Nat → Int32} (X : Cx x cX1_nextWord RX1 6) (hN : vxn x = 2) (hWd : WordsK (vxD x) (vxT x) (vxZ x)) (hR : RetV x cX1_nextWord 0 0 [(a0, .inr (1, [.int s_size, .int s_fault, .ref a_tape, .int r.1, .int r.2.1, .int s_tokenAt, .int r.2.2, .ref a_code, .int s_codeSize])), (a_tape, .inl (vxT x 0, 160, .inl s_tape))]) (hf : f_X1_nextWord_51 s_at s_tokenAt s_value s_tape = some r) : V x 0 0 [(a0, .inr (1, [.int s_size, .int s_fault, .ref a_tape, .int s_at, .int s_token, .int s_tokenAt, .int s_value, .ref a_code, .int s_codeSize])), (a_tape, .inl (vxT x 0, 160, .inl s_tape))] [(0, .ref a0)] 51 [] := by
  unfold f_X1_nextWord_51 at hf
  refine v_aload_n X 0 rfl dX1_nextWord_51 ?_
  refine v_sipush X (v := 257) (by decide) dX1_nextWord_52 ?_
  refine v_put X xinX1 tyX1 tyX1_ok nmX1 0 rfl rfl 4 (by decide) wd99 rfl rfl rfl rfl rfl (Nat.le_of_ble_eq_true rfl) (ws' := [(a0, .inr (1, [.int s_size, .int s_fault, .ref a_tape, .int s_at, .int 257, .int s_tokenAt, .int s_value, .ref a_code, .int s_codeSize])), (a_tape, .inl (vxT x 0, 160, .inl s_tape))]) rfl dX1_nextWord_55 ?_
  refine v_aload_n X 0 rfl dX1_nextWord_58 ?_
  obtain ⟨q_59, hr59, hs59⟩ := hWd 98 "views" (by decide)
  refine v_ldcS X hr59 dX1_nextWord_59 ?_
  refine v_sipush X (v := 260) (by decide) dX1_nextWord_61 ?_
  refine v_iconst X (v := 0) (by decide) dX1_nextWord_64 ?_
  obtain ⟨v65_1, hv65_1, hf⟩ := bd_some hf
  refine v_callV X (c_X1_mayBe X.2.2.2.2.2.2.2.1 hs59 hv65_1) cwv_X1_100 rfl (by decide) ⟨Nat.zero_le _, Nat.zero_le _⟩ 0 rfl rfl [0, 1] [] [0, 1] rfl (by decide) (wr := []) rfl (by decide) (by decide) (ws2 := [(a0, .inr (1, [.int s_size, .int s_fault, .ref a_tape, .int s_at, .int v65_1.1, .int s_tokenAt, .int v65_1.2, .ref a_code, .int s_codeSize])), (a_tape, .inl (vxT x 0, 160, .inl s_tape))]) rfl (by decide) (Nat.le_of_ble_eq_true rfl) rfl dX1_nextWord_65 ?_
  refine v_aload_n X 0 rfl dX1_nextWord_68 ?_
  obtain ⟨q_69, hr69, hs69⟩ := hWd 104 "warms" (by decide)
  refine v_ldcS X hr69 dX1_nextWord_69 ?_
  refine v_sipush X (v := 261) (by decide) dX1_nextWord_71 ?_
  refine v_iconst X (v := 0) (by decide) dX1_nextWord_74 ?_
  obtain ⟨v75_2, hv75_2, hf⟩ := bd_some hf
  refine v_callV X (c_X1_mayBe X.2.2.2.2.2.2.2.1 hs69 hv75_2) cwv_X1_100 rfl (by decide) ⟨Nat.zero_le _, Nat.zero_le _⟩ 0 rfl rfl [0, 1] [] [0, 1] rfl (by decide) (wr := []) rfl (by decide) (by decide) (ws2 := [(a0, .inr (1, [.int s_size, .int s_fault, .ref a_tape, .int s_at, .int v75_2.1, .int s_tokenAt, .int v75_2.2, .ref a_code, .int s_codeSize])), (a_tape, .inl (vxT x 0, 160, .inl s_tape))]) rfl (by decide) (Nat.le_of_ble_eq_true rfl) rfl dX1_nextWord_75 ?_
  refine v_aload_n X 0 rfl dX1_nextWord_78 ?_
  obtain ⟨q_79, hr79, hs79⟩ := hWd 106 "minds" (by decide)
  refine v_ldcS X hr79 dX1_nextWord_79 ?_
  refine v_sipush X (v := 262) (by decide) dX1_nextWord_81 ?_
  refine v_iconst X (v := 0) (by decide) dX1_nextWord_84 ?_
  obtain ⟨v85_3, hv85_3, hf⟩ := bd_some hf
  refine v_callV X (c_X1_mayBe X.2.2.2.2.2.2.2.1 hs79 hv85_3) cwv_X1_100 rfl (by decide) ⟨Nat.zero_le _, Nat.zero_le _⟩ 0 rfl rfl [0, 1] [] [0, 1] rfl (by decide) (wr := []) rfl (by decide) (by decide) (ws2 := [(a0, .inr (1, [.int s_size, .int s_fault, .ref a_tape, .int s_at, .int v85_3.1, .int s_tokenAt, .int v85_3.2, .ref a_code, .int s_codeSize])), (a_tape, .inl (vxT x 0, 160, .inl s_tape))]) rfl (by decide) (Nat.le_of_ble_eq_true rfl) rfl dX1_nextWord_85 ?_
  refine v_aload_n X 0 rfl dX1_nextWord_88 ?_
  obtain ⟨q_89, hr89, hs89⟩ := hWd 108 "or" (by decide)
  refine v_ldcS X hr89 dX1_nextWord_89 ?_
  refine v_sipush X (v := 263) (by decide) dX1_nextWord_91 ?_
  refine v_iconst X (v := 0) (by decide) dX1_nextWord_94 ?_
  obtain ⟨v95_4, hv95_4, hf⟩ := bd_some hf
  refine v_callV X (c_X1_mayBe X.2.2.2.2.2.2.2.1 hs89 hv95_4) cwv_X1_100 rfl (by decide) ⟨Nat.zero_le _, Nat.zero_le _⟩ 0 rfl rfl [0, 1] [] [0, 1] rfl (by decide) (wr := []) rfl (by decide) (by decide) (ws2 := [(a0, .inr (1, [.int s_size, .int s_fault, .ref a_tape, .int s_at, .int v95_4.1, .int s_tokenAt, .int v95_4.2, .ref a_code, .int s_codeSize])), (a_tape, .inl (vxT x 0, 160, .inl s_tape))]) rfl (by decide) (Nat.le_of_ble_eq_true rfl) rfl dX1_nextWord_95 ?_
  refine v_aload_n X 0 rfl dX1_nextWord_98 ?_
  obtain ⟨q_99, hr99, hs99⟩ := hWd 110 "and" (by decide)
  refine v_ldcS X hr99 dX1_nextWord_99 ?_
  refine v_sipush X (v := 264) (by decide) dX1_nextWord_101 ?_
  refine v_iconst X (v := 0) (by decide) dX1_nextWord_104 ?_
  obtain ⟨v105_5, hv105_5, hf⟩ := bd_some hf
  refine v_callV X (c_X1_mayBe X.2.2.2.2.2.2.2.1 hs99 hv105_5) cwv_X1_100 rfl (by decide) ⟨Nat.zero_le _, Nat.zero_le _⟩ 0 rfl rfl [0, 1] [] [0, 1] rfl (by decide) (wr := []) rfl (by decide) (by decide) (ws2 := [(a0, .inr (1, [.int s_size, .int s_fault, .ref a_tape, .int s_at, .int v105_5.1, .int s_tokenAt, .int v105_5.2, .ref a_code, .int s_codeSize])), (a_tape, .inl (vxT x 0, 160, .inl s_tape))]) rfl (by decide) (Nat.le_of_ble_eq_true rfl) rfl dX1_nextWord_105 ?_
  refine v_aload_n X 0 rfl dX1_nextWord_108 ?_
  obtain ⟨q_109, hr109, hs109⟩ := hWd 112 "not" (by decide)
  refine v_ldcS X hr109 dX1_nextWord_109 ?_
  refine v_sipush X (v := 265) (by decide) dX1_nextWord_111 ?_
  refine v_iconst X (v := 0) (by decide) dX1_nextWord_114 ?_
  obtain ⟨v115_6, hv115_6, hf⟩ := bd_some hf
  refine v_callV X (c_X1_mayBe X.2.2.2.2.2.2.2.1 hs109 hv115_6) cwv_X1_100 rfl (by decide) ⟨Nat.zero_le _, Nat.zero_le _⟩ 0 rfl rfl [0, 1] [] [0, 1] rfl (by decide) (wr := []) rfl (by decide) (by decide) (ws2 := [(a0, .inr (1, [.int s_size, .int s_fault, .ref a_tape, .int s_at, .int v115_6.1, .int s_tokenAt, .int v115_6.2, .ref a_code, .int s_codeSize])), (a_tape, .inl (vxT x 0, 160, .inl s_tape))]) rfl (by decide) (Nat.le_of_ble_eq_true rfl) rfl dX1_nextWord_115 ?_
  refine v_aload_n X 0 rfl dX1_nextWord_118 ?_
  obtain ⟨q_119, hr119, hs119⟩ := hWd 114 "side" (by decide)
  refine v_ldcS X hr119 dX1_nextWord_119 ?_
  refine v_sipush X (v := 259) (by decide) dX1_nextWord_121 ?_
  refine v_iconst X (v := (-1)) (by decide) dX1_nextWord_124 ?_
  obtain ⟨v125_7, hv125_7, hf⟩ := bd_some hf
  refine v_callV X (c_X1_mayBe X.2.2.2.2.2.2.2.1 hs119 hv125_7) cwv_X1_100 rfl (by decide) ⟨Nat.zero_le _, Nat.zero_le _⟩ 0 rfl rfl [0, 1] [] [0, 1] rfl (by decide) (wr := []) rfl (by decide) (by decide) (ws2 := [(a0, .inr (1, [.int s_size, .int s_fault, .ref a_tape, .int s_at, .int v125_7.1, .int s_tokenAt, .int v125_7.2, .ref a_code, .int s_codeSize])), (a_tape, .inl (vxT x 0, 160, .inl s_tape))]) rfl (by decide) (Nat.le_of_ble_eq_true rfl) rfl dX1_nextWord_125 ?_
  refine v_aload_n X 0 rfl dX1_nextWord_128 ?_
  obtain ⟨q_129, hr129, hs129⟩ := hWd 116 "lamp" (by decide)
  refine v_ldcS X hr129 dX1_nextWord_129 ?_
  refine v_sipush X (v := 259) (by decide) dX1_nextWord_131 ?_
  refine v_bipush X (v := (-2)) (by decide) dX1_nextWord_134 ?_
  obtain ⟨v136_8, hv136_8, hf⟩ := bd_some hf
  refine v_callV X (c_X1_mayBe X.2.2.2.2.2.2.2.1 hs129 hv136_8) cwv_X1_100 rfl (by decide) ⟨Nat.zero_le _, Nat.zero_le _⟩ 0 rfl rfl [0, 1] [] [0, 1] rfl (by decide) (wr := []) rfl (by decide) (by decide) (ws2 := [(a0, .inr (1, [.int s_size, .int s_fault, .ref a_tape, .int s_at, .int v136_8.1, .int s_tokenAt, .int v136_8.2, .ref a_code, .int s_codeSize])), (a_tape, .inl (vxT x 0, 160, .inl s_tape))]) rfl (by decide) (Nat.le_of_ble_eq_true rfl) rfl dX1_nextWord_136 ?_
  refine v_aload_n X 0 rfl dX1_nextWord_139 ?_
  obtain ⟨q_140, hr140, hs140⟩ := hWd 118 "stove" (by decide)
  refine v_ldcS X hr140 dX1_nextWord_140 ?_
  refine v_sipush X (v := 259) (by decide) dX1_nextWord_142 ?_
  refine v_bipush X (v := (-3)) (by decide) dX1_nextWord_145 ?_
  obtain ⟨v147_9, hv147_9, hf⟩ := bd_some hf
  refine v_callV X (c_X1_mayBe X.2.2.2.2.2.2.2.1 hs140 hv147_9) cwv_X1_100 rfl (by decide) ⟨Nat.zero_le _, Nat.zero_le _⟩ 0 rfl rfl [0, 1] [] [0, 1] rfl (by decide) (wr := []) rfl (by decide) (by decide) (ws2 := [(a0, .inr (1, [.int s_size, .int s_fault, .ref a_tape, .int s_at, .int v147_9.1, .int s_tokenAt, .int v147_9.2, .ref a_code, .int s_codeSize])), (a_tape, .inl (vxT x 0, 160, .inl s_tape))]) rfl (by decide) (Nat.le_of_ble_eq_true rfl) rfl dX1_nextWord_147 ?_
  refine v_aload_n X 0 rfl dX1_nextWord_150 ?_
  obtain ⟨q_151, hr151, hs151⟩ := hWd 120 "number" (by decide)
  refine v_ldcS X hr151 dX1_nextWord_151 ?_
  refine v_sipush X (v := 259) (by decide) dX1_nextWord_153 ?_
  refine v_bipush X (v := (-4)) (by decide) dX1_nextWord_156 ?_
  obtain ⟨v158_10, hv158_10, hf⟩ := bd_some hf
  refine v_callV X (c_X1_mayBe X.2.2.2.2.2.2.2.1 hs151 hv158_10) cwv_X1_100 rfl (by decide) ⟨Nat.zero_le _, Nat.zero_le _⟩ 0 rfl rfl [0, 1] [] [0, 1] rfl (by decide) (wr := []) rfl (by decide) (by decide) (ws2 := [(a0, .inr (1, [.int s_size, .int s_fault, .ref a_tape, .int s_at, .int v158_10.1, .int s_tokenAt, .int v158_10.2, .ref a_code, .int s_codeSize])), (a_tape, .inl (vxT x 0, 160, .inl s_tape))]) rfl (by decide) (Nat.le_of_ble_eq_true rfl) rfl dX1_nextWord_158 ?_
  refine v_aload_n X 0 rfl dX1_nextWord_161 ?_
  obtain ⟨q_162, hr162, hs162⟩ := hWd 122 "pose" (by decide)
  refine v_ldcS X hr162 dX1_nextWord_162 ?_
  refine v_sipush X (v := 259) (by decide) dX1_nextWord_164 ?_
  refine v_bipush X (v := (-5)) (by decide) dX1_nextWord_167 ?_
  obtain ⟨v169_11, hv169_11, hf⟩ := bd_some hf
  refine v_callV X (c_X1_mayBe X.2.2.2.2.2.2.2.1 hs162 hv169_11) cwv_X1_100 rfl (by decide) ⟨Nat.zero_le _, Nat.zero_le _⟩ 0 rfl rfl [0, 1] [] [0, 1] rfl (by decide) (wr := []) rfl (by decide) (by decide) (ws2 := [(a0, .inr (1, [.int s_size, .int s_fault, .ref a_tape, .int s_at, .int v169_11.1, .int s_tokenAt, .int v169_11.2, .ref a_code, .int s_codeSize])), (a_tape, .inl (vxT x 0, 160, .inl s_tape))]) rfl (by decide) (Nat.le_of_ble_eq_true rfl) rfl dX1_nextWord_169 ?_
  refine v_aload_n X 0 rfl dX1_nextWord_172 ?_
  obtain ⟨q_173, hr173, hs173⟩ := hWd 124 "near" (by decide)
  refine v_ldcS X hr173 dX1_nextWord_173 ?_
  refine v_sipush X (v := 259) (by decide) dX1_nextWord_175 ?_
  refine v_bipush X (v := (-6)) (by decide) dX1_nextWord_178 ?_
  obtain ⟨v180_12, hv180_12, hf⟩ := bd_some hf
  refine v_callV X (c_X1_mayBe X.2.2.2.2.2.2.2.1 hs173 hv180_12) cwv_X1_100 rfl (by decide) ⟨Nat.zero_le _, Nat.zero_le _⟩ 0 rfl rfl [0, 1] [] [0, 1] rfl (by decide) (wr := []) rfl (by decide) (by decide) (ws2 := [(a0, .inr (1, [.int s_size, .int s_fault, .ref a_tape, .int s_at, .int v180_12.1, .int s_tokenAt, .int v180_12.2, .ref a_code, .int s_codeSize])), (a_tape, .inl (vxT x 0, 160, .inl s_tape))]) rfl (by decide) (Nat.le_of_ble_eq_true rfl) rfl dX1_nextWord_180 ?_
  obtain rfl := Option.some.inj hf
  exact v_vret hR dX1_nextWord_183
set_option maxRecDepth 100000 in
set_option maxHeartbeats 4000000 in
theorem t_X1_nextWord_2 {x : VX} {r : Int32 × Int32 × Int32} {a0 : Nat} {a_tape : Nat} {a_code : Nat} {s_size : Int32} {s_fault : Int32} {s_token : Int32} {s_tokenAt : Int32} {s_value : Int32} {s_codeSize : Int32} {s_tape : Nat → Int32} (X : Cx x cX1_nextWord RX1 6) (hN : vxn x = 2) (hWd : WordsK (vxD x) (vxT x) (vxZ x)) (hR : RetV x cX1_nextWord 0 0 [(a0, .inr (1, [.int s_size, .int s_fault, .ref a_tape, .int r.1, .int r.2.1, .int s_tokenAt, .int r.2.2, .ref a_code, .int s_codeSize])), (a_tape, .inl (vxT x 0, 160, .inl s_tape))]) :
    ∀ (fu : Nat) (l1 : Int32) (s_at : Int32), lq2 (f_X1_nextWord_2 s_size s_tokenAt s_value s_tape) fu l1 s_at = some r → V x 0 0 [(a0, .inr (1, [.int s_size, .int s_fault, .ref a_tape, .int s_at, .int s_token, .int s_tokenAt, .int s_value, .ref a_code, .int s_codeSize])), (a_tape, .inl (vxT x 0, 160, .inl s_tape))] [(0, .ref a0), (1, .int l1)] 2 [] := by
  refine lq2_V (G := fun l1 s_at => V x 0 0 [(a0, .inr (1, [.int s_size, .int s_fault, .ref a_tape, .int s_at, .int s_token, .int s_tokenAt, .int s_value, .ref a_code, .int s_codeSize])), (a_tape, .inl (vxT x 0, 160, .inl s_tape))] [(0, .ref a0), (1, .int l1)] 2 []) ?_
  intro kp_2 hk_2 l1 s_at hf
  unfold f_X1_nextWord_2 at hf
  refine v_iload_n X 1 rfl dX1_nextWord_2 ?_
  refine v_sipush X (v := 160) (by decide) dX1_nextWord_3 ?_
  refine v_icmp_ge X (tgt := 51) hf (by decide) dX1_nextWord_6 (fun c6 hf => ?_) (fun c6 hf => ?_)
  · refine v_lv [0] rfl ?_
    exact t_X1_nextWord_51 X hN hWd hR hf
  · refine v_aload_n X 0 rfl dX1_nextWord_9 ?_
    refine v_get X xinX1 0 rfl rfl 3 (by decide) wd101 rfl rfl dX1_nextWord_10 ?_
    refine v_aload_n X 0 rfl dX1_nextWord_13 ?_
    refine v_get X xinX1 0 rfl rfl 0 (by decide) wd93 rfl rfl dX1_nextWord_14 ?_
    refine v_icmp_ge X (tgt := 51) hf (by decide) dX1_nextWord_17 (fun c17 hf => ?_) (fun c17 hf => ?_)
    · refine v_lv [0] rfl ?_
      exact t_X1_nextWord_51 X hN hWd hR hf
    · refine v_aload_n X 0 rfl dX1_nextWord_20 ?_
      refine v_get X xinX1 0 rfl rfl 2 (by decide) wd94 rfl rfl dX1_nextWord_21 ?_
      refine v_aload_n X 0 rfl dX1_nextWord_24 ?_
      refine v_get X xinX1 0 rfl rfl 3 (by decide) wd101 rfl rfl dX1_nextWord_25 ?_
      refine v_iald X 1 rfl hf dX1_nextWord_28 (fun h28 hf => ?_)
      obtain ⟨v29_13, hv29_13, hf⟩ := bd_some hf
      refine v_scallI X (c_X1_isLetter X.2.2.2.2.2.2.2.1 hv29_13) cws_X1_83 rfl (by decide) ⟨Nat.zero_le _, Nat.zero_le _⟩ [] [0, 1] [0, 1] rfl (by decide) (wr := [(a0, .inr (1, [.int s_size, .int s_fault, .ref a_tape, .int s_at, .int s_token, .int s_tokenAt, .int s_value, .ref a_code, .int s_codeSize])), (a_tape, .inl (vxT x 0, 160, .inl s_tape))]) rfl (by decide) (by decide) (ws2 := [(a0, .inr (1, [.int s_size, .int s_fault, .ref a_tape, .int s_at, .int s_token, .int s_tokenAt, .int s_value, .ref a_code, .int s_codeSize])), (a_tape, .inl (vxT x 0, 160, .inl s_tape))]) rfl (by decide) (Nat.le_of_ble_eq_true rfl) rfl dX1_nextWord_29 ?_
      refine v_if_eq X (tgt := 51) hf (by decide) dX1_nextWord_32 (fun c32 hf => ?_) (fun c32 hf => ?_)
      · refine v_lv [0] rfl ?_
        exact t_X1_nextWord_51 X hN hWd hR hf
      · refine v_aload_n X 0 rfl dX1_nextWord_35 ?_
        refine v_dup X rfl dX1_nextWord_36 ?_
        refine v_get X xinX1 0 rfl rfl 3 (by decide) wd101 rfl rfl dX1_nextWord_37 ?_
        refine v_iconst X (v := 1) (by decide) dX1_nextWord_40 ?_
        refine v_iadd X dX1_nextWord_41 ?_
        refine v_put X xinX1 tyX1 tyX1_ok nmX1 0 rfl rfl 3 (by decide) wd101 rfl rfl rfl rfl rfl (Nat.le_of_ble_eq_true rfl) (ws' := [(a0, .inr (1, [.int s_size, .int s_fault, .ref a_tape, .int (s_at + 1), .int s_token, .int s_tokenAt, .int s_value, .ref a_code, .int s_codeSize])), (a_tape, .inl (vxT x 0, 160, .inl s_tape))]) rfl dX1_nextWord_42 ?_
        refine v_iinc X 1 rfl (v := (l1 + 1)) rfl (by rw [hN]; decide) (lv' := [(1, .int (l1 + 1)), (0, .ref a0)]) rfl dX1_nextWord_45 ?_
        refine v_goto X (tgt := 2) (by decide) dX1_nextWord_48 ?_
        refine v_lv [1, 0] rfl ?_
        exact hk_2 _ _ hf
set_option maxRecDepth 100000 in
set_option maxHeartbeats 4000000 in
theorem t_X1_nextWord {x : VX} {r : Int32 × Int32 × Int32} {a0 : Nat} {a_tape : Nat} {a_code : Nat} {s_size : Int32} {s_fault : Int32} {s_at : Int32} {s_token : Int32} {s_tokenAt : Int32} {s_value : Int32} {s_codeSize : Int32} {s_tape : Nat → Int32} (X : Cx x cX1_nextWord RX1 6) (hN : vxn x = 2) (hWd : WordsK (vxD x) (vxT x) (vxZ x)) (hR : RetV x cX1_nextWord 0 0 [(a0, .inr (1, [.int s_size, .int s_fault, .ref a_tape, .int r.1, .int r.2.1, .int s_tokenAt, .int r.2.2, .ref a_code, .int s_codeSize])), (a_tape, .inl (vxT x 0, 160, .inl s_tape))]) (hf : f_X1_nextWord s_size s_at s_tokenAt s_value s_tape = some r) : V x 0 0 [(a0, .inr (1, [.int s_size, .int s_fault, .ref a_tape, .int s_at, .int s_token, .int s_tokenAt, .int s_value, .ref a_code, .int s_codeSize])), (a_tape, .inl (vxT x 0, 160, .inl s_tape))] [(0, .ref a0)] 0 [] := by
  unfold f_X1_nextWord at hf
  refine v_iconst X (v := 0) (by decide) dX1_nextWord_0 ?_
  refine v_istore_n X rfl (by rw [hN]; decide) (lv' := [(1, .int 0), (0, .ref a0)]) rfl dX1_nextWord_1 ?_
  refine v_lv [1, 0] rfl ?_
  exact t_X1_nextWord_2 X hN hWd hR 200 _ _ hf
set_option maxRecDepth 100000 in
set_option maxHeartbeats 4000000 in
theorem c_X1_nextWord {l : Launch} {D : va_G} {qT : Nat → ClassId} {Z : (Nat → Prop) → State → Heap → Prop} {r : Int32 × Int32 × Int32} {a0 : Nat} {a_tape : Nat} {a_code : Nat} {s_size : Int32} {s_fault : Int32} {s_at : Int32} {s_token : Int32} {s_tokenAt : Int32} {s_value : Int32} {s_codeSize : Int32} {s_tape : Nat → Int32} (hZ : ZOK Z) (hWd : WordsK D qT Z) (hf : f_X1_nextWord s_size s_at s_tokenAt s_value s_tape = some r) :
    CV l D qT Z yX1_nextWord cX1_nextWord 2 none 6 0 0 [.ref a0] [(a0, .inr (1, [.int s_size, .int s_fault, .ref a_tape, .int s_at, .int s_token, .int s_tokenAt, .int s_value, .ref a_code, .int s_codeSize])), (a_tape, .inl (qT 0, 160, .inl s_tape))] [(a0, .inr (1, [.int s_size, .int s_fault, .ref a_tape, .int r.1, .int r.2.1, .int s_tokenAt, .int r.2.2, .ref a_code, .int s_codeSize])), (a_tape, .inl (qT 0, 160, .inl s_tape))] := by
  refine CV_of hZ (by decide) (Nat.le_of_ble_eq_true rfl) ?_
  intro x e1 e2 e3 e4 e5 e6 hin X hR
  subst e1 e2 e3 e4
  exact t_X1_nextWord X e6 hWd hR hf
def f_X1_next_64 (s_size : Int32) (s_at : Int32) (s_value : Int32) (s_tape : Nat → Int32) : Option (Int32 × Int32 × Int32 × Int32) :=
  if s_at < s_size then (
  if inb s_at 160 = true then (
  (f_X1_isLetter (s_tape (Int32.toNatClampNeg s_at))).bind (fun v102_1 =>
  if v102_1 = 0 then (
  if inb s_at 160 = true then (
  (f_X1_isDigit (s_tape (Int32.toNatClampNeg s_at))).bind (fun v124_2 =>
  if v124_2 = 0 then (
  if inb s_at 160 = true then (
  (f_X1_isSign (s_tape (Int32.toNatClampNeg s_at))).bind (fun v147_3 =>
  if v147_3 = 0 then (
  some ((s_at + 1), 257, s_at, s_value)) else (
  if inb s_at 160 = true then (
  some ((s_at + 1), (s_tape (Int32.toNatClampNeg s_at)), s_at, s_value)) else none))) else none) else (
  (f_X1_nextNumber s_size s_at s_at s_tape).bind (fun v131_4 =>
  some (v131_4.1, v131_4.2.1, s_at, v131_4.2.2))))) else none) else (
  (f_X1_nextWord s_size s_at s_at s_value s_tape).bind (fun v109_5 =>
  some (v109_5.1, v109_5.2.1, s_at, v109_5.2.2))))) else none) else (
  some (s_at, 256, s_at, s_value))
def f_X1_next_2 (s_size : Int32) (s_value : Int32) (s_tape : Nat → Int32) (kp_2 : Int32 → Int32 → Option (Int32 × Int32 × Int32 × Int32)) (l1 : Int32) (s_at : Int32) : Option (Int32 × Int32 × Int32 × Int32) :=
  if 160 ≤ l1 then (
  f_X1_next_64 s_size s_at s_value s_tape) else (
  if s_size ≤ s_at then (
  f_X1_next_64 s_size s_at s_value s_tape) else (
  if inb s_at 160 = true then (
  if (s_tape (Int32.toNatClampNeg s_at)) = 32 then (
  kp_2 (l1 + 1) (s_at + 1)) else (
  if inb s_at 160 = true then (
  if (s_tape (Int32.toNatClampNeg s_at)) = 10 then (
  kp_2 (l1 + 1) (s_at + 1)) else (
  f_X1_next_64 s_size s_at s_value s_tape)) else none)) else none))
def f_X1_next (s_size : Int32) (s_at : Int32) (s_value : Int32) (s_tape : Nat → Int32) : Option (Int32 × Int32 × Int32 × Int32) :=
  lq2 (f_X1_next_2 s_size s_value s_tape) 200 0 s_at
set_option maxRecDepth 100000 in
set_option maxHeartbeats 4000000 in
theorem t_X1_next_64 {x : VX} {r : Int32 × Int32 × Int32 × Int32} {a0 : Nat} {a_tape : Nat} {a_code : Nat} {s_size : Int32} {s_fault : Int32} {s_at : Int32} {s_token : Int32} {s_tokenAt : Int32} {s_value : Int32} {s_codeSize : Int32} {s_tape : Nat → Int32} (X : Cx x cX1_next RX1 7) (hN : vxn x = 2) (hWd : WordsK (vxD x) (vxT x) (vxZ x)) (hR : RetV x cX1_next 0 0 [(a0, .inr (1, [.int s_size, .int s_fault, .ref a_tape, .int r.1, .int r.2.1, .int r.2.2.1, .int r.2.2.2, .ref a_code, .int s_codeSize])), (a_tape, .inl (vxT x 0, 160, .inl s_tape))]) (hf : f_X1_next_64 s_size s_at s_value s_tape = some r) : V x 0 0 [(a0, .inr (1, [.int s_size, .int s_fault, .ref a_tape, .int s_at, .int s_token, .int s_tokenAt, .int s_value, .ref a_code, .int s_codeSize])), (a_tape, .inl (vxT x 0, 160, .inl s_tape))] [(0, .ref a0)] 64 [] := by
  unfold f_X1_next_64 at hf
  refine v_aload_n X 0 rfl dX1_next_64 ?_
  refine v_aload_n X 0 rfl dX1_next_65 ?_
  refine v_get X xinX1 0 rfl rfl 3 (by decide) wd101 rfl rfl dX1_next_66 ?_
  refine v_put X xinX1 tyX1 tyX1_ok nmX1 0 rfl rfl 5 (by decide) wd95 rfl rfl rfl rfl rfl (Nat.le_of_ble_eq_true rfl) (ws' := [(a0, .inr (1, [.int s_size, .int s_fault, .ref a_tape, .int s_at, .int s_token, .int s_at, .int s_value, .ref a_code, .int s_codeSize])), (a_tape, .inl (vxT x 0, 160, .inl s_tape))]) rfl dX1_next_69 ?_
  refine v_aload_n X 0 rfl dX1_next_72 ?_
  refine v_get X xinX1 0 rfl rfl 3 (by decide) wd101 rfl rfl dX1_next_73 ?_
  refine v_aload_n X 0 rfl dX1_next_76 ?_
  refine v_get X xinX1 0 rfl rfl 0 (by decide) wd93 rfl rfl dX1_next_77 ?_
  refine v_icmp_lt X (tgt := 93) hf (by decide) dX1_next_80 (fun c80 hf => ?_) (fun c80 hf => ?_)
  · refine v_aload_n X 0 rfl dX1_next_93 ?_
    refine v_get X xinX1 0 rfl rfl 2 (by decide) wd94 rfl rfl dX1_next_94 ?_
    refine v_aload_n X 0 rfl dX1_next_97 ?_
    refine v_get X xinX1 0 rfl rfl 3 (by decide) wd101 rfl rfl dX1_next_98 ?_
    refine v_iald X 1 rfl hf dX1_next_101 (fun h101 hf => ?_)
    obtain ⟨v102_1, hv102_1, hf⟩ := bd_some hf
    refine v_scallI X (c_X1_isLetter X.2.2.2.2.2.2.2.1 hv102_1) cws_X1_83 rfl (by decide) ⟨Nat.zero_le _, Nat.zero_le _⟩ [] [0, 1] [0, 1] rfl (by decide) (wr := [(a0, .inr (1, [.int s_size, .int s_fault, .ref a_tape, .int s_at, .int s_token, .int s_at, .int s_value, .ref a_code, .int s_codeSize])), (a_tape, .inl (vxT x 0, 160, .inl s_tape))]) rfl (by decide) (by decide) (ws2 := [(a0, .inr (1, [.int s_size, .int s_fault, .ref a_tape, .int s_at, .int s_token, .int s_at, .int s_value, .ref a_code, .int s_codeSize])), (a_tape, .inl (vxT x 0, 160, .inl s_tape))]) rfl (by decide) (Nat.le_of_ble_eq_true rfl) rfl dX1_next_102 ?_
    refine v_if_eq X (tgt := 115) hf (by decide) dX1_next_105 (fun c105 hf => ?_) (fun c105 hf => ?_)
    · refine v_aload_n X 0 rfl dX1_next_115 ?_
      refine v_get X xinX1 0 rfl rfl 2 (by decide) wd94 rfl rfl dX1_next_116 ?_
      refine v_aload_n X 0 rfl dX1_next_119 ?_
      refine v_get X xinX1 0 rfl rfl 3 (by decide) wd101 rfl rfl dX1_next_120 ?_
      refine v_iald X 1 rfl hf dX1_next_123 (fun h123 hf => ?_)
      obtain ⟨v124_2, hv124_2, hf⟩ := bd_some hf
      refine v_scallI X (c_X1_isDigit X.2.2.2.2.2.2.2.1 hv124_2) cws_X1_89 rfl (by decide) ⟨Nat.zero_le _, Nat.zero_le _⟩ [] [0, 1] [0, 1] rfl (by decide) (wr := [(a0, .inr (1, [.int s_size, .int s_fault, .ref a_tape, .int s_at, .int s_token, .int s_at, .int s_value, .ref a_code, .int s_codeSize])), (a_tape, .inl (vxT x 0, 160, .inl s_tape))]) rfl (by decide) (by decide) (ws2 := [(a0, .inr (1, [.int s_size, .int s_fault, .ref a_tape, .int s_at, .int s_token, .int s_at, .int s_value, .ref a_code, .int s_codeSize])), (a_tape, .inl (vxT x 0, 160, .inl s_tape))]) rfl (by decide) (Nat.le_of_ble_eq_true rfl) rfl dX1_next_124 ?_
      refine v_if_eq X (tgt := 137) hf (by decide) dX1_next_127 (fun c127 hf => ?_) (fun c127 hf => ?_)
      · refine v_aload_n X 0 rfl dX1_next_137 ?_
        refine v_aload_n X 0 rfl dX1_next_138 ?_
        refine v_get X xinX1 0 rfl rfl 2 (by decide) wd94 rfl rfl dX1_next_139 ?_
        refine v_aload_n X 0 rfl dX1_next_142 ?_
        refine v_get X xinX1 0 rfl rfl 3 (by decide) wd101 rfl rfl dX1_next_143 ?_
        refine v_iald X 1 rfl hf dX1_next_146 (fun h146 hf => ?_)
        obtain ⟨v147_3, hv147_3, hf⟩ := bd_some hf
        refine v_scallI X (c_X1_isSign X.2.2.2.2.2.2.2.1 hv147_3) cws_X1_95 rfl (by decide) ⟨Nat.zero_le _, Nat.zero_le _⟩ [] [0, 1] [0, 1] rfl (by decide) (wr := [(a0, .inr (1, [.int s_size, .int s_fault, .ref a_tape, .int s_at, .int s_token, .int s_at, .int s_value, .ref a_code, .int s_codeSize])), (a_tape, .inl (vxT x 0, 160, .inl s_tape))]) rfl (by decide) (by decide) (ws2 := [(a0, .inr (1, [.int s_size, .int s_fault, .ref a_tape, .int s_at, .int s_token, .int s_at, .int s_value, .ref a_code, .int s_codeSize])), (a_tape, .inl (vxT x 0, 160, .inl s_tape))]) rfl (by decide) (Nat.le_of_ble_eq_true rfl) rfl dX1_next_147 ?_
        refine v_if_eq X (tgt := 165) hf (by decide) dX1_next_150 (fun c150 hf => ?_) (fun c150 hf => ?_)
        · refine v_sipush X (v := 257) (by decide) dX1_next_165 ?_
          refine v_put X xinX1 tyX1 tyX1_ok nmX1 0 rfl rfl 4 (by decide) wd99 rfl rfl rfl rfl rfl (Nat.le_of_ble_eq_true rfl) (ws' := [(a0, .inr (1, [.int s_size, .int s_fault, .ref a_tape, .int s_at, .int 257, .int s_at, .int s_value, .ref a_code, .int s_codeSize])), (a_tape, .inl (vxT x 0, 160, .inl s_tape))]) rfl dX1_next_168 ?_
          refine v_aload_n X 0 rfl dX1_next_171 ?_
          refine v_dup X rfl dX1_next_172 ?_
          refine v_get X xinX1 0 rfl rfl 3 (by decide) wd101 rfl rfl dX1_next_173 ?_
          refine v_iconst X (v := 1) (by decide) dX1_next_176 ?_
          refine v_iadd X dX1_next_177 ?_
          refine v_put X xinX1 tyX1 tyX1_ok nmX1 0 rfl rfl 3 (by decide) wd101 rfl rfl rfl rfl rfl (Nat.le_of_ble_eq_true rfl) (ws' := [(a0, .inr (1, [.int s_size, .int s_fault, .ref a_tape, .int (s_at + 1), .int 257, .int s_at, .int s_value, .ref a_code, .int s_codeSize])), (a_tape, .inl (vxT x 0, 160, .inl s_tape))]) rfl dX1_next_178 ?_
          obtain rfl := Option.some.inj hf
          exact v_vret hR dX1_next_181
        · refine v_aload_n X 0 rfl dX1_next_153 ?_
          refine v_get X xinX1 0 rfl rfl 2 (by decide) wd94 rfl rfl dX1_next_154 ?_
          refine v_aload_n X 0 rfl dX1_next_157 ?_
          refine v_get X xinX1 0 rfl rfl 3 (by decide) wd101 rfl rfl dX1_next_158 ?_
          refine v_iald X 1 rfl hf dX1_next_161 (fun h161 hf => ?_)
          refine v_goto X (tgt := 168) (by decide) dX1_next_162 ?_
          refine v_put X xinX1 tyX1 tyX1_ok nmX1 0 rfl rfl 4 (by decide) wd99 rfl rfl rfl rfl rfl (Nat.le_of_ble_eq_true rfl) (ws' := [(a0, .inr (1, [.int s_size, .int s_fault, .ref a_tape, .int s_at, .int (s_tape (Int32.toNatClampNeg s_at)), .int s_at, .int s_value, .ref a_code, .int s_codeSize])), (a_tape, .inl (vxT x 0, 160, .inl s_tape))]) rfl dX1_next_168 ?_
          refine v_aload_n X 0 rfl dX1_next_171 ?_
          refine v_dup X rfl dX1_next_172 ?_
          refine v_get X xinX1 0 rfl rfl 3 (by decide) wd101 rfl rfl dX1_next_173 ?_
          refine v_iconst X (v := 1) (by decide) dX1_next_176 ?_
          refine v_iadd X dX1_next_177 ?_
          refine v_put X xinX1 tyX1 tyX1_ok nmX1 0 rfl rfl 3 (by decide) wd101 rfl rfl rfl rfl rfl (Nat.le_of_ble_eq_true rfl) (ws' := [(a0, .inr (1, [.int s_size, .int s_fault, .ref a_tape, .int (s_at + 1), .int (s_tape (Int32.toNatClampNeg s_at)), .int s_at, .int s_value, .ref a_code, .int s_codeSize])), (a_tape, .inl (vxT x 0, 160, .inl s_tape))]) rfl dX1_next_178 ?_
          obtain rfl := Option.some.inj hf
          exact v_vret hR dX1_next_181
      · refine v_aload_n X 0 rfl dX1_next_130 ?_
        obtain ⟨v131_4, hv131_4, hf⟩ := bd_some hf
        refine v_callV X (c_X1_nextNumber X.2.2.2.2.2.2.2.1 hv131_4) cwv_X1_92 rfl (by decide) ⟨Nat.zero_le _, Nat.zero_le _⟩ 0 rfl rfl [0, 1] [] [0, 1] rfl (by decide) (wr := []) rfl (by decide) (by decide) (ws2 := [(a0, .inr (1, [.int s_size, .int s_fault, .ref a_tape, .int v131_4.1, .int v131_4.2.1, .int s_at, .int v131_4.2.2, .ref a_code, .int s_codeSize])), (a_tape, .inl (vxT x 0, 160, .inl s_tape))]) rfl (by decide) (Nat.le_of_ble_eq_true rfl) rfl dX1_next_131 ?_
        refine v_goto X (tgt := 181) (by decide) dX1_next_134 ?_
        obtain rfl := Option.some.inj hf
        exact v_vret hR dX1_next_181
    · refine v_aload_n X 0 rfl dX1_next_108 ?_
      obtain ⟨v109_5, hv109_5, hf⟩ := bd_some hf
      refine v_callV X (c_X1_nextWord X.2.2.2.2.2.2.2.1 hWd hv109_5) cwv_X1_86 rfl (by decide) ⟨Nat.zero_le _, Nat.zero_le _⟩ 0 rfl rfl [0, 1] [] [0, 1] rfl (by decide) (wr := []) rfl (by decide) (by decide) (ws2 := [(a0, .inr (1, [.int s_size, .int s_fault, .ref a_tape, .int v109_5.1, .int v109_5.2.1, .int s_at, .int v109_5.2.2, .ref a_code, .int s_codeSize])), (a_tape, .inl (vxT x 0, 160, .inl s_tape))]) rfl (by decide) (Nat.le_of_ble_eq_true rfl) rfl dX1_next_109 ?_
      refine v_goto X (tgt := 181) (by decide) dX1_next_112 ?_
      obtain rfl := Option.some.inj hf
      exact v_vret hR dX1_next_181
  · refine v_aload_n X 0 rfl dX1_next_83 ?_
    refine v_sipush X (v := 256) (by decide) dX1_next_84 ?_
    refine v_put X xinX1 tyX1 tyX1_ok nmX1 0 rfl rfl 4 (by decide) wd99 rfl rfl rfl rfl rfl (Nat.le_of_ble_eq_true rfl) (ws' := [(a0, .inr (1, [.int s_size, .int s_fault, .ref a_tape, .int s_at, .int 256, .int s_at, .int s_value, .ref a_code, .int s_codeSize])), (a_tape, .inl (vxT x 0, 160, .inl s_tape))]) rfl dX1_next_87 ?_
    refine v_goto X (tgt := 181) (by decide) dX1_next_90 ?_
    obtain rfl := Option.some.inj hf
    exact v_vret hR dX1_next_181
set_option maxRecDepth 100000 in
set_option maxHeartbeats 4000000 in
theorem t_X1_next_2 {x : VX} {r : Int32 × Int32 × Int32 × Int32} {a0 : Nat} {a_tape : Nat} {a_code : Nat} {s_size : Int32} {s_fault : Int32} {s_token : Int32} {s_tokenAt : Int32} {s_value : Int32} {s_codeSize : Int32} {s_tape : Nat → Int32} (X : Cx x cX1_next RX1 7) (hN : vxn x = 2) (hWd : WordsK (vxD x) (vxT x) (vxZ x)) (hR : RetV x cX1_next 0 0 [(a0, .inr (1, [.int s_size, .int s_fault, .ref a_tape, .int r.1, .int r.2.1, .int r.2.2.1, .int r.2.2.2, .ref a_code, .int s_codeSize])), (a_tape, .inl (vxT x 0, 160, .inl s_tape))]) :
    ∀ (fu : Nat) (l1 : Int32) (s_at : Int32), lq2 (f_X1_next_2 s_size s_value s_tape) fu l1 s_at = some r → V x 0 0 [(a0, .inr (1, [.int s_size, .int s_fault, .ref a_tape, .int s_at, .int s_token, .int s_tokenAt, .int s_value, .ref a_code, .int s_codeSize])), (a_tape, .inl (vxT x 0, 160, .inl s_tape))] [(0, .ref a0), (1, .int l1)] 2 [] := by
  refine lq2_V (G := fun l1 s_at => V x 0 0 [(a0, .inr (1, [.int s_size, .int s_fault, .ref a_tape, .int s_at, .int s_token, .int s_tokenAt, .int s_value, .ref a_code, .int s_codeSize])), (a_tape, .inl (vxT x 0, 160, .inl s_tape))] [(0, .ref a0), (1, .int l1)] 2 []) ?_
  intro kp_2 hk_2 l1 s_at hf
  unfold f_X1_next_2 at hf
  refine v_iload_n X 1 rfl dX1_next_2 ?_
  refine v_sipush X (v := 160) (by decide) dX1_next_3 ?_
  refine v_icmp_ge X (tgt := 64) hf (by decide) dX1_next_6 (fun c6 hf => ?_) (fun c6 hf => ?_)
  · refine v_lv [0] rfl ?_
    exact t_X1_next_64 X hN hWd hR hf
  · refine v_aload_n X 0 rfl dX1_next_9 ?_
    refine v_get X xinX1 0 rfl rfl 3 (by decide) wd101 rfl rfl dX1_next_10 ?_
    refine v_aload_n X 0 rfl dX1_next_13 ?_
    refine v_get X xinX1 0 rfl rfl 0 (by decide) wd93 rfl rfl dX1_next_14 ?_
    refine v_icmp_ge X (tgt := 64) hf (by decide) dX1_next_17 (fun c17 hf => ?_) (fun c17 hf => ?_)
    · refine v_lv [0] rfl ?_
      exact t_X1_next_64 X hN hWd hR hf
    · refine v_aload_n X 0 rfl dX1_next_20 ?_
      refine v_get X xinX1 0 rfl rfl 2 (by decide) wd94 rfl rfl dX1_next_21 ?_
      refine v_aload_n X 0 rfl dX1_next_24 ?_
      refine v_get X xinX1 0 rfl rfl 3 (by decide) wd101 rfl rfl dX1_next_25 ?_
      refine v_iald X 1 rfl hf dX1_next_28 (fun h28 hf => ?_)
      refine v_bipush X (v := 32) (by decide) dX1_next_29 ?_
      refine v_icmp_eq X (tgt := 48) hf (by decide) dX1_next_31 (fun c31 hf => ?_) (fun c31 hf => ?_)
      · refine v_aload_n X 0 rfl dX1_next_48 ?_
        refine v_dup X rfl dX1_next_49 ?_
        refine v_get X xinX1 0 rfl rfl 3 (by decide) wd101 rfl rfl dX1_next_50 ?_
        refine v_iconst X (v := 1) (by decide) dX1_next_53 ?_
        refine v_iadd X dX1_next_54 ?_
        refine v_put X xinX1 tyX1 tyX1_ok nmX1 0 rfl rfl 3 (by decide) wd101 rfl rfl rfl rfl rfl (Nat.le_of_ble_eq_true rfl) (ws' := [(a0, .inr (1, [.int s_size, .int s_fault, .ref a_tape, .int (s_at + 1), .int s_token, .int s_tokenAt, .int s_value, .ref a_code, .int s_codeSize])), (a_tape, .inl (vxT x 0, 160, .inl s_tape))]) rfl dX1_next_55 ?_
        refine v_iinc X 1 rfl (v := (l1 + 1)) rfl (by rw [hN]; decide) (lv' := [(1, .int (l1 + 1)), (0, .ref a0)]) rfl dX1_next_58 ?_
        refine v_goto X (tgt := 2) (by decide) dX1_next_61 ?_
        refine v_lv [1, 0] rfl ?_
        exact hk_2 _ _ hf
      · refine v_aload_n X 0 rfl dX1_next_34 ?_
        refine v_get X xinX1 0 rfl rfl 2 (by decide) wd94 rfl rfl dX1_next_35 ?_
        refine v_aload_n X 0 rfl dX1_next_38 ?_
        refine v_get X xinX1 0 rfl rfl 3 (by decide) wd101 rfl rfl dX1_next_39 ?_
        refine v_iald X 1 rfl hf dX1_next_42 (fun h42 hf => ?_)
        refine v_bipush X (v := 10) (by decide) dX1_next_43 ?_
        refine v_icmp_ne X (tgt := 64) hf (by decide) dX1_next_45 (fun c45 hf => ?_) (fun c45 hf => ?_)
        · refine v_lv [0] rfl ?_
          exact t_X1_next_64 X hN hWd hR hf
        · refine v_aload_n X 0 rfl dX1_next_48 ?_
          refine v_dup X rfl dX1_next_49 ?_
          refine v_get X xinX1 0 rfl rfl 3 (by decide) wd101 rfl rfl dX1_next_50 ?_
          refine v_iconst X (v := 1) (by decide) dX1_next_53 ?_
          refine v_iadd X dX1_next_54 ?_
          refine v_put X xinX1 tyX1 tyX1_ok nmX1 0 rfl rfl 3 (by decide) wd101 rfl rfl rfl rfl rfl (Nat.le_of_ble_eq_true rfl) (ws' := [(a0, .inr (1, [.int s_size, .int s_fault, .ref a_tape, .int (s_at + 1), .int s_token, .int s_tokenAt, .int s_value, .ref a_code, .int s_codeSize])), (a_tape, .inl (vxT x 0, 160, .inl s_tape))]) rfl dX1_next_55 ?_
          refine v_iinc X 1 rfl (v := (l1 + 1)) rfl (by rw [hN]; decide) (lv' := [(1, .int (l1 + 1)), (0, .ref a0)]) rfl dX1_next_58 ?_
          refine v_goto X (tgt := 2) (by decide) dX1_next_61 ?_
          refine v_lv [1, 0] rfl ?_
          exact hk_2 _ _ hf
set_option maxRecDepth 100000 in
set_option maxHeartbeats 4000000 in
theorem t_X1_next {x : VX} {r : Int32 × Int32 × Int32 × Int32} {a0 : Nat} {a_tape : Nat} {a_code : Nat} {s_size : Int32} {s_fault : Int32} {s_at : Int32} {s_token : Int32} {s_tokenAt : Int32} {s_value : Int32} {s_codeSize : Int32} {s_tape : Nat → Int32} (X : Cx x cX1_next RX1 7) (hN : vxn x = 2) (hWd : WordsK (vxD x) (vxT x) (vxZ x)) (hR : RetV x cX1_next 0 0 [(a0, .inr (1, [.int s_size, .int s_fault, .ref a_tape, .int r.1, .int r.2.1, .int r.2.2.1, .int r.2.2.2, .ref a_code, .int s_codeSize])), (a_tape, .inl (vxT x 0, 160, .inl s_tape))]) (hf : f_X1_next s_size s_at s_value s_tape = some r) : V x 0 0 [(a0, .inr (1, [.int s_size, .int s_fault, .ref a_tape, .int s_at, .int s_token, .int s_tokenAt, .int s_value, .ref a_code, .int s_codeSize])), (a_tape, .inl (vxT x 0, 160, .inl s_tape))] [(0, .ref a0)] 0 [] := by
  unfold f_X1_next at hf
  refine v_iconst X (v := 0) (by decide) dX1_next_0 ?_
  refine v_istore_n X rfl (by rw [hN]; decide) (lv' := [(1, .int 0), (0, .ref a0)]) rfl dX1_next_1 ?_
  refine v_lv [1, 0] rfl ?_
  exact t_X1_next_2 X hN hWd hR 200 _ _ hf
set_option maxRecDepth 100000 in
set_option maxHeartbeats 4000000 in
theorem c_X1_next {l : Launch} {D : va_G} {qT : Nat → ClassId} {Z : (Nat → Prop) → State → Heap → Prop} {r : Int32 × Int32 × Int32 × Int32} {a0 : Nat} {a_tape : Nat} {a_code : Nat} {s_size : Int32} {s_fault : Int32} {s_at : Int32} {s_token : Int32} {s_tokenAt : Int32} {s_value : Int32} {s_codeSize : Int32} {s_tape : Nat → Int32} (hZ : ZOK Z) (hWd : WordsK D qT Z) (hf : f_X1_next s_size s_at s_value s_tape = some r) :
    CV l D qT Z yX1_next cX1_next 2 none 7 0 0 [.ref a0] [(a0, .inr (1, [.int s_size, .int s_fault, .ref a_tape, .int s_at, .int s_token, .int s_tokenAt, .int s_value, .ref a_code, .int s_codeSize])), (a_tape, .inl (qT 0, 160, .inl s_tape))] [(a0, .inr (1, [.int s_size, .int s_fault, .ref a_tape, .int r.1, .int r.2.1, .int r.2.2.1, .int r.2.2.2, .ref a_code, .int s_codeSize])), (a_tape, .inl (qT 0, 160, .inl s_tape))] := by
  refine CV_of hZ (by decide) (Nat.le_of_ble_eq_true rfl) ?_
  intro x e1 e2 e3 e4 e5 e6 hin X hR
  subst e1 e2 e3 e4
  exact t_X1_next X e6 hWd hR hf
def f_X1_expect (l1 : Int32) (s_size : Int32) (s_fault : Int32) (s_at : Int32) (s_token : Int32) (s_tokenAt : Int32) (s_value : Int32) (s_tape : Nat → Int32) : Option (Int32 × Int32 × Int32 × Int32 × Int32 × Int32) :=
  if s_token = l1 then (
  (f_X1_next s_size s_at s_value s_tape).bind (fun v14_1 =>
  some (1, s_fault, v14_1.1, v14_1.2.1, v14_1.2.2.1, v14_1.2.2.2))) else (
  (f_X1_fail s_tokenAt).bind (fun v9_2 =>
  if isZ v9_2.1 = true then some (v9_2.1, v9_2.2, s_at, s_token, s_tokenAt, s_value) else none))
set_option maxRecDepth 100000 in
set_option maxHeartbeats 4000000 in
theorem t_X1_expect {x : VX} {r : Int32 × Int32 × Int32 × Int32 × Int32 × Int32} {a0 : Nat} {a_tape : Nat} {a_code : Nat} {s_size : Int32} {s_fault : Int32} {s_at : Int32} {s_token : Int32} {s_tokenAt : Int32} {s_value : Int32} {s_codeSize : Int32} {s_tape : Nat → Int32} {l1 : Int32} (X : Cx x cX1_expect RX1 8) (hN : vxn x = 2) (hWd : WordsK (vxD x) (vxT x) (vxZ x)) (hR : narrow .boolean (.int r.1) = .int r.1 → RetI x cX1_expect 0 0 r.1 [(a0, .inr (1, [.int s_size, .int r.2.1, .ref a_tape, .int r.2.2.1, .int r.2.2.2.1, .int r.2.2.2.2.1, .int r.2.2.2.2.2, .ref a_code, .int s_codeSize])), (a_tape, .inl (vxT x 0, 160, .inl s_tape))]) (hf : f_X1_expect l1 s_size s_fault s_at s_token s_tokenAt s_value s_tape = some r) : V x 0 0 [(a0, .inr (1, [.int s_size, .int s_fault, .ref a_tape, .int s_at, .int s_token, .int s_tokenAt, .int s_value, .ref a_code, .int s_codeSize])), (a_tape, .inl (vxT x 0, 160, .inl s_tape))] [(0, .ref a0), (1, .int l1)] 0 [] := by
  unfold f_X1_expect at hf
  refine v_aload_n X 0 rfl dX1_expect_0 ?_
  refine v_get X xinX1 0 rfl rfl 4 (by decide) wd99 rfl rfl dX1_expect_1 ?_
  refine v_iload_n X 1 rfl dX1_expect_4 ?_
  refine v_icmp_eq X (tgt := 13) hf (by decide) dX1_expect_5 (fun c5 hf => ?_) (fun c5 hf => ?_)
  · refine v_aload_n X 0 rfl dX1_expect_13 ?_
    obtain ⟨v14_1, hv14_1, hf⟩ := bd_some hf
    refine v_callV X (c_X1_next X.2.2.2.2.2.2.2.1 hWd hv14_1) cwv_X1_40 rfl (by decide) ⟨Nat.zero_le _, Nat.zero_le _⟩ 0 rfl rfl [0, 1] [] [0, 1] rfl (by decide) (wr := []) rfl (by decide) (by decide) (ws2 := [(a0, .inr (1, [.int s_size, .int s_fault, .ref a_tape, .int v14_1.1, .int v14_1.2.1, .int v14_1.2.2.1, .int v14_1.2.2.2, .ref a_code, .int s_codeSize])), (a_tape, .inl (vxT x 0, 160, .inl s_tape))]) rfl (by decide) (Nat.le_of_ble_eq_true rfl) rfl dX1_expect_14 ?_
    refine v_iconst X (v := 1) (by decide) dX1_expect_17 ?_
    obtain rfl := Option.some.inj hf
    exact v_iret (hR nz1) dX1_expect_18
  · refine v_aload_n X 0 rfl dX1_expect_8 ?_
    obtain ⟨v9_2, hv9_2, hf⟩ := bd_some hf
    refine v_callI X (c_X1_fail X.2.2.2.2.2.2.2.1 hv9_2) cwv_X1_61 rfl (by decide) ⟨Nat.zero_le _, Nat.zero_le _⟩ 0 rfl rfl [0] [1] [1, 0] rfl (by decide) (wr := [(a_tape, .inl (vxT x 0, 160, .inl s_tape))]) rfl (by decide) (by decide) (ws2 := [(a0, .inr (1, [.int s_size, .int v9_2.2, .ref a_tape, .int s_at, .int s_token, .int s_tokenAt, .int s_value, .ref a_code, .int s_codeSize])), (a_tape, .inl (vxT x 0, 160, .inl s_tape))]) rfl (by decide) (Nat.le_of_ble_eq_true rfl) rfl dX1_expect_9 ?_
    obtain ⟨hz, hf⟩ := if_some hf
    obtain rfl := Option.some.inj hf
    exact v_iret (hR (isZ_n hz)) dX1_expect_12
set_option maxRecDepth 100000 in
set_option maxHeartbeats 4000000 in
theorem c_X1_expect {l : Launch} {D : va_G} {qT : Nat → ClassId} {Z : (Nat → Prop) → State → Heap → Prop} {r : Int32 × Int32 × Int32 × Int32 × Int32 × Int32} {a0 : Nat} {a_tape : Nat} {a_code : Nat} {s_size : Int32} {s_fault : Int32} {s_at : Int32} {s_token : Int32} {s_tokenAt : Int32} {s_value : Int32} {s_codeSize : Int32} {s_tape : Nat → Int32} {l1 : Int32} (hZ : ZOK Z) (hWd : WordsK D qT Z) (hf : f_X1_expect l1 s_size s_fault s_at s_token s_tokenAt s_value s_tape = some r) :
    CI l D qT Z yX1_expect cX1_expect 2 (some .boolean) 8 0 0 [.ref a0, .int l1] [(a0, .inr (1, [.int s_size, .int s_fault, .ref a_tape, .int s_at, .int s_token, .int s_tokenAt, .int s_value, .ref a_code, .int s_codeSize])), (a_tape, .inl (qT 0, 160, .inl s_tape))] r.1 [(a0, .inr (1, [.int s_size, .int r.2.1, .ref a_tape, .int r.2.2.1, .int r.2.2.2.1, .int r.2.2.2.2.1, .int r.2.2.2.2.2, .ref a_code, .int s_codeSize])), (a_tape, .inl (qT 0, 160, .inl s_tape))] := by
  refine CZ_of hZ (by decide) (Nat.le_of_ble_eq_true rfl) ?_
  intro x e1 e2 e3 e4 e5 e6 hin X hR
  subst e1 e2 e3 e4
  exact t_X1_expect X e6 hWd hR hf
abbrev RR : Type := Int32 × Int32 × Int32 × Int32 × Int32 × Int32 × Int32 × (Nat → Int32)
abbrev RF : Type := Int32 → Int32 → Int32 → Int32 → Int32 → Int32 → Int32 → Int32 → (Nat → Int32) → (Nat → Int32) → Option RR
/-- a reading method, by its function -/
def RecC (l : Launch) (D : va_G) (qT : Nat → ClassId) (Z : (Nat → Prop) → State → Heap → Prop) (f : RF) (y : MethodName) (bytes : ByteArray) (maxL d : Nat) : Prop :=
  ∀ (a0 a_tape a_code : Nat) (l1 s_size s_fault s_at s_token s_tokenAt s_value s_codeSize : Int32) (s_tape s_code : Nat → Int32) (r : RR), f l1 s_size s_fault s_at s_token s_tokenAt s_value s_codeSize s_tape s_code = some r →
    CI l D qT Z y bytes maxL (some .boolean) d 0 0 [.ref a0, .int l1] [(a0, .inr (1, [.int s_size, .int s_fault, .ref a_tape, .int s_at, .int s_token, .int s_tokenAt, .int s_value, .ref a_code, .int s_codeSize])), (a_tape, .inl (qT 0, 160, .inl s_tape)), (a_code, .inl (qT 0, 160, .inl s_code))] r.1 [(a0, .inr (1, [.int s_size, .int r.2.1, .ref a_tape, .int r.2.2.1, .int r.2.2.2.1, .int r.2.2.2.2.1, .int r.2.2.2.2.2.1, .ref a_code, .int r.2.2.2.2.2.2.1])), (a_tape, .inl (qT 0, 160, .inl s_tape)), (a_code, .inl (qT 0, 160, .inl r.2.2.2.2.2.2.2))]
def f_X1_readOne_20 (s_size : Int32) (s_fault : Int32) (s_at : Int32) (s_value : Int32) (s_codeSize : Int32) (s_tape : Nat → Int32) (s_code : Nat → Int32) : Option (Int32 × Int32 × Int32 × Int32 × Int32 × Int32 × Int32 × (Nat → Int32)) :=
  (f_X1_put s_value s_codeSize s_code).bind (fun v25_1 =>
  (f_X1_next s_size s_at s_value s_tape).bind (fun v30_2 =>
  some (1, s_fault, v30_2.1, v30_2.2.1, v30_2.2.2.1, v30_2.2.2.2, v25_1.2.1, v25_1.2.2)))
def f_X1_readOne_77 (s_size : Int32) (s_fault : Int32) (s_at : Int32) (s_value : Int32) (s_codeSize : Int32) (s_tape : Nat → Int32) (s_code : Nat → Int32) (rE : RF) (rO : RF) (l1 : Int32) (k0 : Int32) : Option (Int32 × Int32 × Int32 × Int32 × Int32 × Int32 × Int32 × (Nat → Int32)) :=
  (f_X1_next s_size s_at s_value s_tape).bind (fun v79_3 =>
  if k0 = 0 then (
  (rE (l1 + 1) s_size s_fault v79_3.1 v79_3.2.1 v79_3.2.2.1 v79_3.2.2.2 s_codeSize s_tape s_code).bind (fun v115_4 =>
  if v115_4.1 = 0 then (
  some (0, v115_4.2.1, v115_4.2.2.1, v115_4.2.2.2.1, v115_4.2.2.2.2.1, v115_4.2.2.2.2.2.1, v115_4.2.2.2.2.2.2.1, v115_4.2.2.2.2.2.2.2)) else (
  (f_X1_expect 41 s_size v115_4.2.1 v115_4.2.2.1 v115_4.2.2.2.1 v115_4.2.2.2.2.1 v115_4.2.2.2.2.2.1 s_tape).bind (fun v124_5 =>
  if v124_5.1 = 0 then (
  some (0, v124_5.2.1, v124_5.2.2.1, v124_5.2.2.2.1, v124_5.2.2.2.2.1, v124_5.2.2.2.2.2, v115_4.2.2.2.2.2.2.1, v115_4.2.2.2.2.2.2.2)) else (
  some (1, v124_5.2.1, v124_5.2.2.1, v124_5.2.2.2.1, v124_5.2.2.2.2.1, v124_5.2.2.2.2.2, v115_4.2.2.2.2.2.2.1, v115_4.2.2.2.2.2.2.2)))))) else (
  (rO (l1 + 1) s_size s_fault v79_3.1 v79_3.2.1 v79_3.2.2.1 v79_3.2.2.2 s_codeSize s_tape s_code).bind (fun v90_6 =>
  if v90_6.1 = 0 then (
  some (0, v90_6.2.1, v90_6.2.2.1, v90_6.2.2.2.1, v90_6.2.2.2.2.1, v90_6.2.2.2.2.2.1, v90_6.2.2.2.2.2.2.1, v90_6.2.2.2.2.2.2.2)) else (
  (f_X1_put (-13) v90_6.2.2.2.2.2.2.1 v90_6.2.2.2.2.2.2.2).bind (fun v99_7 =>
  if v99_7.1 = 0 then (
  some (0, v90_6.2.1, v90_6.2.2.1, v90_6.2.2.2.1, v90_6.2.2.2.2.1, v90_6.2.2.2.2.2.1, v99_7.2.1, v99_7.2.2)) else (
  some (1, v90_6.2.1, v90_6.2.2.1, v90_6.2.2.2.1, v90_6.2.2.2.2.1, v90_6.2.2.2.2.2.1, v99_7.2.1, v99_7.2.2)))))))
def f_X1_readOne_53 (s_size : Int32) (s_fault : Int32) (s_at : Int32) (s_token : Int32) (s_tokenAt : Int32) (s_value : Int32) (s_codeSize : Int32) (s_tape : Nat → Int32) (s_code : Nat → Int32) (rE : RF) (rO : RF) (l1 : Int32) : Option (Int32 × Int32 × Int32 × Int32 × Int32 × Int32 × Int32 × (Nat → Int32)) :=
  if l1 < 5 then (
  if s_token = 45 then (
  f_X1_readOne_77 s_size s_fault s_at s_value s_codeSize s_tape s_code rE rO l1 1) else (
  f_X1_readOne_77 s_size s_fault s_at s_value s_codeSize s_tape s_code rE rO l1 0)) else (
  (f_X1_fail s_tokenAt).bind (fun v59_8 =>
  if isZ v59_8.1 = true then some (v59_8.1, v59_8.2, s_at, s_token, s_tokenAt, s_value, s_codeSize, s_code) else none))
def f_X1_readOne (l1 : Int32) (s_size : Int32) (s_fault : Int32) (s_at : Int32) (s_token : Int32) (s_tokenAt : Int32) (s_value : Int32) (s_codeSize : Int32) (s_tape : Nat → Int32) (s_code : Nat → Int32) (rE : RF) (rO : RF) : Option (Int32 × Int32 × Int32 × Int32 × Int32 × Int32 × Int32 × (Nat → Int32)) :=
  if s_token = 258 then (
  f_X1_readOne_20 s_size s_fault s_at s_value s_codeSize s_tape s_code) else (
  if s_token = 259 then (
  f_X1_readOne_20 s_size s_fault s_at s_value s_codeSize s_tape s_code) else (
  if s_token = 45 then (
  f_X1_readOne_53 s_size s_fault s_at s_token s_tokenAt s_value s_codeSize s_tape s_code rE rO l1) else (
  if s_token = 40 then (
  f_X1_readOne_53 s_size s_fault s_at s_token s_tokenAt s_value s_codeSize s_tape s_code rE rO l1) else (
  (f_X1_fail s_tokenAt).bind (fun v59_9 =>
  if isZ v59_9.1 = true then some (v59_9.1, v59_9.2, s_at, s_token, s_tokenAt, s_value, s_codeSize, s_code) else none)))))
set_option maxRecDepth 100000 in
set_option maxHeartbeats 4000000 in
theorem t_X1_readOne_20 {x : VX} {r : Int32 × Int32 × Int32 × Int32 × Int32 × Int32 × Int32 × (Nat → Int32)} {a0 : Nat} {a_tape : Nat} {a_code : Nat} {s_size : Int32} {s_fault : Int32} {s_at : Int32} {s_token : Int32} {s_tokenAt : Int32} {s_value : Int32} {s_codeSize : Int32} {s_tape : Nat → Int32} {s_code : Nat → Int32} {rE : RF} {dE : Nat} {dR : Nat} {rO : RF} {dO : Nat} (X : Cx x cX1_readOne RX1 (dR + 9)) (hN : vxn x = 3) (hWd : WordsK (vxD x) (vxT x) (vxZ x)) (hE : RecC (vxl x) (vxD x) (vxT x) (vxZ x) rE yX1_readEither cX1_readEither 4 dE) (hEd : dE ≤ dR) (hO : RecC (vxl x) (vxD x) (vxT x) (vxZ x) rO yX1_readOne cX1_readOne 3 dO) (hOd : dO ≤ dR) (hR : narrow .boolean (.int r.1) = .int r.1 → RetI x cX1_readOne 0 0 r.1 [(a0, .inr (1, [.int s_size, .int r.2.1, .ref a_tape, .int r.2.2.1, .int r.2.2.2.1, .int r.2.2.2.2.1, .int r.2.2.2.2.2.1, .ref a_code, .int r.2.2.2.2.2.2.1])), (a_tape, .inl (vxT x 0, 160, .inl s_tape)), (a_code, .inl (vxT x 0, 160, .inl r.2.2.2.2.2.2.2))]) (hf : f_X1_readOne_20 s_size s_fault s_at s_value s_codeSize s_tape s_code = some r) : V x 0 0 [(a0, .inr (1, [.int s_size, .int s_fault, .ref a_tape, .int s_at, .int s_token, .int s_tokenAt, .int s_value, .ref a_code, .int s_codeSize])), (a_tape, .inl (vxT x 0, 160, .inl s_tape)), (a_code, .inl (vxT x 0, 160, .inl s_code))] [(0, .ref a0)] 20 [] := by
  unfold f_X1_readOne_20 at hf
  refine v_aload_n X 0 rfl dX1_readOne_20 ?_
  refine v_aload_n X 0 rfl dX1_readOne_21 ?_
  refine v_get X xinX1 0 rfl rfl 6 (by decide) wd100 rfl rfl dX1_readOne_22 ?_
  obtain ⟨v25_1, hv25_1, hf⟩ := bd_some hf
  refine v_callI X (c_X1_put X.2.2.2.2.2.2.2.1 hv25_1) cwv_X1_68 rfl (by omega) ⟨Nat.zero_le _, Nat.zero_le _⟩ 0 rfl rfl [0, 2] [1] [1, 0, 2] rfl (by decide) (wr := [(a_tape, .inl (vxT x 0, 160, .inl s_tape))]) rfl (by decide) (by decide) (ws2 := [(a0, .inr (1, [.int s_size, .int s_fault, .ref a_tape, .int s_at, .int s_token, .int s_tokenAt, .int s_value, .ref a_code, .int v25_1.2.1])), (a_tape, .inl (vxT x 0, 160, .inl s_tape)), (a_code, .inl (vxT x 0, 160, .inl v25_1.2.2))]) rfl (by decide) (Nat.le_of_ble_eq_true rfl) rfl dX1_readOne_25 ?_
  refine v_pop X rfl dX1_readOne_28 ?_
  refine v_aload_n X 0 rfl dX1_readOne_29 ?_
  obtain ⟨v30_2, hv30_2, hf⟩ := bd_some hf
  refine v_callV X (c_X1_next X.2.2.2.2.2.2.2.1 hWd hv30_2) cwv_X1_40 rfl (by omega) ⟨Nat.zero_le _, Nat.zero_le _⟩ 0 rfl rfl [0, 1] [2] [1, 2, 0] rfl (by decide) (wr := [(a_code, .inl (vxT x 0, 160, .inl v25_1.2.2))]) rfl (by decide) (by decide) (ws2 := [(a0, .inr (1, [.int s_size, .int s_fault, .ref a_tape, .int v30_2.1, .int v30_2.2.1, .int v30_2.2.2.1, .int v30_2.2.2.2, .ref a_code, .int v25_1.2.1])), (a_tape, .inl (vxT x 0, 160, .inl s_tape)), (a_code, .inl (vxT x 0, 160, .inl v25_1.2.2))]) rfl (by decide) (Nat.le_of_ble_eq_true rfl) rfl dX1_readOne_30 ?_
  refine v_iconst X (v := 1) (by decide) dX1_readOne_33 ?_
  obtain rfl := Option.some.inj hf
  exact v_iret (hR nz1) dX1_readOne_34
set_option maxRecDepth 100000 in
set_option maxHeartbeats 4000000 in
theorem t_X1_readOne_77 {x : VX} {r : Int32 × Int32 × Int32 × Int32 × Int32 × Int32 × Int32 × (Nat → Int32)} {a0 : Nat} {a_tape : Nat} {a_code : Nat} {s_size : Int32} {s_fault : Int32} {s_at : Int32} {s_token : Int32} {s_tokenAt : Int32} {s_value : Int32} {s_codeSize : Int32} {s_tape : Nat → Int32} {s_code : Nat → Int32} {rE : RF} {dE : Nat} {dR : Nat} {rO : RF} {dO : Nat} {l1 : Int32} {k0 : Int32} (X : Cx x cX1_readOne RX1 (dR + 9)) (hN : vxn x = 3) (hWd : WordsK (vxD x) (vxT x) (vxZ x)) (hE : RecC (vxl x) (vxD x) (vxT x) (vxZ x) rE yX1_readEither cX1_readEither 4 dE) (hEd : dE ≤ dR) (hO : RecC (vxl x) (vxD x) (vxT x) (vxZ x) rO yX1_readOne cX1_readOne 3 dO) (hOd : dO ≤ dR) (hR : narrow .boolean (.int r.1) = .int r.1 → RetI x cX1_readOne 0 0 r.1 [(a0, .inr (1, [.int s_size, .int r.2.1, .ref a_tape, .int r.2.2.1, .int r.2.2.2.1, .int r.2.2.2.2.1, .int r.2.2.2.2.2.1, .ref a_code, .int r.2.2.2.2.2.2.1])), (a_tape, .inl (vxT x 0, 160, .inl s_tape)), (a_code, .inl (vxT x 0, 160, .inl r.2.2.2.2.2.2.2))]) (hf : f_X1_readOne_77 s_size s_fault s_at s_value s_codeSize s_tape s_code rE rO l1 k0 = some r) : V x 0 0 [(a0, .inr (1, [.int s_size, .int s_fault, .ref a_tape, .int s_at, .int s_token, .int s_tokenAt, .int s_value, .ref a_code, .int s_codeSize])), (a_tape, .inl (vxT x 0, 160, .inl s_tape)), (a_code, .inl (vxT x 0, 160, .inl s_code))] [(0, .ref a0), (1, .int l1)] 77 [.int k0] := by
  unfold f_X1_readOne_77 at hf
  refine v_istore_n X rfl (by rw [hN]; decide) (lv' := [(2, .int k0), (0, .ref a0), (1, .int l1)]) rfl dX1_readOne_77 ?_
  refine v_aload_n X 1 rfl dX1_readOne_78 ?_
  obtain ⟨v79_3, hv79_3, hf⟩ := bd_some hf
  refine v_callV X (c_X1_next X.2.2.2.2.2.2.2.1 hWd hv79_3) cwv_X1_40 rfl (by omega) ⟨Nat.zero_le _, Nat.zero_le _⟩ 0 rfl rfl [0, 1] [2] [1, 2, 0] rfl (by decide) (wr := [(a_code, .inl (vxT x 0, 160, .inl s_code))]) rfl (by decide) (by decide) (ws2 := [(a0, .inr (1, [.int s_size, .int s_fault, .ref a_tape, .int v79_3.1, .int v79_3.2.1, .int v79_3.2.2.1, .int v79_3.2.2.2, .ref a_code, .int s_codeSize])), (a_tape, .inl (vxT x 0, 160, .inl s_tape)), (a_code, .inl (vxT x 0, 160, .inl s_code))]) rfl (by decide) (Nat.le_of_ble_eq_true rfl) rfl dX1_readOne_79 ?_
  refine v_iload_n X 0 rfl dX1_readOne_82 ?_
  refine v_if_eq X (tgt := 111) hf (by decide) dX1_readOne_83 (fun c83 hf => ?_) (fun c83 hf => ?_)
  · refine v_aload_n X 1 rfl dX1_readOne_111 ?_
    refine v_iload_n X 2 rfl dX1_readOne_112 ?_
    refine v_iconst X (v := 1) (by decide) dX1_readOne_113 ?_
    refine v_iadd X dX1_readOne_114 ?_
    obtain ⟨v115_4, hv115_4, hf⟩ := bd_some hf
    refine v_callI X (hE _ _ _ _ _ _ _ _ _ _ _ _ _ _ hv115_4) cwv_X1_47 rfl (by omega) ⟨Nat.zero_le _, Nat.zero_le _⟩ 0 rfl rfl [0, 1, 2] [] [0, 1, 2] rfl (by decide) (wr := []) rfl (by decide) (by decide) (ws2 := [(a0, .inr (1, [.int s_size, .int v115_4.2.1, .ref a_tape, .int v115_4.2.2.1, .int v115_4.2.2.2.1, .int v115_4.2.2.2.2.1, .int v115_4.2.2.2.2.2.1, .ref a_code, .int v115_4.2.2.2.2.2.2.1])), (a_tape, .inl (vxT x 0, 160, .inl s_tape)), (a_code, .inl (vxT x 0, 160, .inl v115_4.2.2.2.2.2.2.2))]) rfl (by decide) (Nat.le_of_ble_eq_true rfl) rfl dX1_readOne_115 ?_
    refine v_if_eq X (tgt := 134) hf (by decide) dX1_readOne_118 (fun c118 hf => ?_) (fun c118 hf => ?_)
    · refine v_iconst X (v := 0) (by decide) dX1_readOne_134 ?_
      obtain rfl := Option.some.inj hf
      exact v_iret (hR nz0) dX1_readOne_135
    · refine v_aload_n X 1 rfl dX1_readOne_121 ?_
      refine v_bipush X (v := 41) (by decide) dX1_readOne_122 ?_
      obtain ⟨v124_5, hv124_5, hf⟩ := bd_some hf
      refine v_callI X (c_X1_expect X.2.2.2.2.2.2.2.1 hWd hv124_5) cwv_X1_43 rfl (by omega) ⟨Nat.zero_le _, Nat.zero_le _⟩ 0 rfl rfl [0, 1] [2] [1, 2, 0] rfl (by decide) (wr := [(a_code, .inl (vxT x 0, 160, .inl v115_4.2.2.2.2.2.2.2))]) rfl (by decide) (by decide) (ws2 := [(a0, .inr (1, [.int s_size, .int v124_5.2.1, .ref a_tape, .int v124_5.2.2.1, .int v124_5.2.2.2.1, .int v124_5.2.2.2.2.1, .int v124_5.2.2.2.2.2, .ref a_code, .int v115_4.2.2.2.2.2.2.1])), (a_tape, .inl (vxT x 0, 160, .inl s_tape)), (a_code, .inl (vxT x 0, 160, .inl v115_4.2.2.2.2.2.2.2))]) rfl (by decide) (Nat.le_of_ble_eq_true rfl) rfl dX1_readOne_124 ?_
      refine v_if_eq X (tgt := 134) hf (by decide) dX1_readOne_127 (fun c127 hf => ?_) (fun c127 hf => ?_)
      · refine v_iconst X (v := 0) (by decide) dX1_readOne_134 ?_
        obtain rfl := Option.some.inj hf
        exact v_iret (hR nz0) dX1_readOne_135
      · refine v_iconst X (v := 1) (by decide) dX1_readOne_130 ?_
        refine v_goto X (tgt := 135) (by decide) dX1_readOne_131 ?_
        obtain rfl := Option.some.inj hf
        exact v_iret (hR nz1) dX1_readOne_135
  · refine v_aload_n X 1 rfl dX1_readOne_86 ?_
    refine v_iload_n X 2 rfl dX1_readOne_87 ?_
    refine v_iconst X (v := 1) (by decide) dX1_readOne_88 ?_
    refine v_iadd X dX1_readOne_89 ?_
    obtain ⟨v90_6, hv90_6, hf⟩ := bd_some hf
    refine v_callI X (hO _ _ _ _ _ _ _ _ _ _ _ _ _ _ hv90_6) cwv_X1_80 rfl (by omega) ⟨Nat.zero_le _, Nat.zero_le _⟩ 0 rfl rfl [0, 1, 2] [] [0, 1, 2] rfl (by decide) (wr := []) rfl (by decide) (by decide) (ws2 := [(a0, .inr (1, [.int s_size, .int v90_6.2.1, .ref a_tape, .int v90_6.2.2.1, .int v90_6.2.2.2.1, .int v90_6.2.2.2.2.1, .int v90_6.2.2.2.2.2.1, .ref a_code, .int v90_6.2.2.2.2.2.2.1])), (a_tape, .inl (vxT x 0, 160, .inl s_tape)), (a_code, .inl (vxT x 0, 160, .inl v90_6.2.2.2.2.2.2.2))]) rfl (by decide) (Nat.le_of_ble_eq_true rfl) rfl dX1_readOne_90 ?_
    refine v_if_eq X (tgt := 109) hf (by decide) dX1_readOne_93 (fun c93 hf => ?_) (fun c93 hf => ?_)
    · refine v_iconst X (v := 0) (by decide) dX1_readOne_109 ?_
      obtain rfl := Option.some.inj hf
      exact v_iret (hR nz0) dX1_readOne_110
    · refine v_aload_n X 1 rfl dX1_readOne_96 ?_
      refine v_bipush X (v := (-13)) (by decide) dX1_readOne_97 ?_
      obtain ⟨v99_7, hv99_7, hf⟩ := bd_some hf
      refine v_callI X (c_X1_put X.2.2.2.2.2.2.2.1 hv99_7) cwv_X1_68 rfl (by omega) ⟨Nat.zero_le _, Nat.zero_le _⟩ 0 rfl rfl [0, 2] [1] [1, 0, 2] rfl (by decide) (wr := [(a_tape, .inl (vxT x 0, 160, .inl s_tape))]) rfl (by decide) (by decide) (ws2 := [(a0, .inr (1, [.int s_size, .int v90_6.2.1, .ref a_tape, .int v90_6.2.2.1, .int v90_6.2.2.2.1, .int v90_6.2.2.2.2.1, .int v90_6.2.2.2.2.2.1, .ref a_code, .int v99_7.2.1])), (a_tape, .inl (vxT x 0, 160, .inl s_tape)), (a_code, .inl (vxT x 0, 160, .inl v99_7.2.2))]) rfl (by decide) (Nat.le_of_ble_eq_true rfl) rfl dX1_readOne_99 ?_
      refine v_if_eq X (tgt := 109) hf (by decide) dX1_readOne_102 (fun c102 hf => ?_) (fun c102 hf => ?_)
      · refine v_iconst X (v := 0) (by decide) dX1_readOne_109 ?_
        obtain rfl := Option.some.inj hf
        exact v_iret (hR nz0) dX1_readOne_110
      · refine v_iconst X (v := 1) (by decide) dX1_readOne_105 ?_
        refine v_goto X (tgt := 110) (by decide) dX1_readOne_106 ?_
        obtain rfl := Option.some.inj hf
        exact v_iret (hR nz1) dX1_readOne_110
set_option maxRecDepth 100000 in
set_option maxHeartbeats 4000000 in
theorem t_X1_readOne_53 {x : VX} {r : Int32 × Int32 × Int32 × Int32 × Int32 × Int32 × Int32 × (Nat → Int32)} {a0 : Nat} {a_tape : Nat} {a_code : Nat} {s_size : Int32} {s_fault : Int32} {s_at : Int32} {s_token : Int32} {s_tokenAt : Int32} {s_value : Int32} {s_codeSize : Int32} {s_tape : Nat → Int32} {s_code : Nat → Int32} {rE : RF} {dE : Nat} {dR : Nat} {rO : RF} {dO : Nat} {l1 : Int32} (X : Cx x cX1_readOne RX1 (dR + 9)) (hN : vxn x = 3) (hWd : WordsK (vxD x) (vxT x) (vxZ x)) (hE : RecC (vxl x) (vxD x) (vxT x) (vxZ x) rE yX1_readEither cX1_readEither 4 dE) (hEd : dE ≤ dR) (hO : RecC (vxl x) (vxD x) (vxT x) (vxZ x) rO yX1_readOne cX1_readOne 3 dO) (hOd : dO ≤ dR) (hR : narrow .boolean (.int r.1) = .int r.1 → RetI x cX1_readOne 0 0 r.1 [(a0, .inr (1, [.int s_size, .int r.2.1, .ref a_tape, .int r.2.2.1, .int r.2.2.2.1, .int r.2.2.2.2.1, .int r.2.2.2.2.2.1, .ref a_code, .int r.2.2.2.2.2.2.1])), (a_tape, .inl (vxT x 0, 160, .inl s_tape)), (a_code, .inl (vxT x 0, 160, .inl r.2.2.2.2.2.2.2))]) (hf : f_X1_readOne_53 s_size s_fault s_at s_token s_tokenAt s_value s_codeSize s_tape s_code rE rO l1 = some r) : V x 0 0 [(a0, .inr (1, [.int s_size, .int s_fault, .ref a_tape, .int s_at, .int s_token, .int s_tokenAt, .int s_value, .ref a_code, .int s_codeSize])), (a_tape, .inl (vxT x 0, 160, .inl s_tape)), (a_code, .inl (vxT x 0, 160, .inl s_code))] [(0, .ref a0), (1, .int l1)] 53 [] := by
  unfold f_X1_readOne_53 at hf
  refine v_iload_n X 1 rfl dX1_readOne_53 ?_
  refine v_iconst X (v := 5) (by decide) dX1_readOne_54 ?_
  refine v_icmp_lt X (tgt := 63) hf (by decide) dX1_readOne_55 (fun c55 hf => ?_) (fun c55 hf => ?_)
  · refine v_aload_n X 0 rfl dX1_readOne_63 ?_
    refine v_get X xinX1 0 rfl rfl 4 (by decide) wd99 rfl rfl dX1_readOne_64 ?_
    refine v_bipush X (v := 45) (by decide) dX1_readOne_67 ?_
    refine v_icmp_ne X (tgt := 76) hf (by decide) dX1_readOne_69 (fun c69 hf => ?_) (fun c69 hf => ?_)
    · refine v_iconst X (v := 0) (by decide) dX1_readOne_76 ?_
      exact t_X1_readOne_77 X hN hWd hE hEd hO hOd hR hf
    · refine v_iconst X (v := 1) (by decide) dX1_readOne_72 ?_
      refine v_goto X (tgt := 77) (by decide) dX1_readOne_73 ?_
      exact t_X1_readOne_77 X hN hWd hE hEd hO hOd hR hf
  · refine v_aload_n X 0 rfl dX1_readOne_58 ?_
    obtain ⟨v59_8, hv59_8, hf⟩ := bd_some hf
    refine v_callI X (c_X1_fail X.2.2.2.2.2.2.2.1 hv59_8) cwv_X1_61 rfl (by omega) ⟨Nat.zero_le _, Nat.zero_le _⟩ 0 rfl rfl [0] [1, 2] [2, 0, 1] rfl (by decide) (wr := [(a_tape, .inl (vxT x 0, 160, .inl s_tape)), (a_code, .inl (vxT x 0, 160, .inl s_code))]) rfl (by decide) (by decide) (ws2 := [(a0, .inr (1, [.int s_size, .int v59_8.2, .ref a_tape, .int s_at, .int s_token, .int s_tokenAt, .int s_value, .ref a_code, .int s_codeSize])), (a_tape, .inl (vxT x 0, 160, .inl s_tape)), (a_code, .inl (vxT x 0, 160, .inl s_code))]) rfl (by decide) (Nat.le_of_ble_eq_true rfl) rfl dX1_readOne_59 ?_
    obtain ⟨hz, hf⟩ := if_some hf
    obtain rfl := Option.some.inj hf
    exact v_iret (hR (isZ_n hz)) dX1_readOne_62
set_option maxRecDepth 100000 in
set_option maxHeartbeats 4000000 in
theorem t_X1_readOne {x : VX} {r : Int32 × Int32 × Int32 × Int32 × Int32 × Int32 × Int32 × (Nat → Int32)} {a0 : Nat} {a_tape : Nat} {a_code : Nat} {s_size : Int32} {s_fault : Int32} {s_at : Int32} {s_token : Int32} {s_tokenAt : Int32} {s_value : Int32} {s_codeSize : Int32} {s_tape : Nat → Int32} {s_code : Nat → Int32} {rE : RF} {dE : Nat} {dR : Nat} {rO : RF} {dO : Nat} {l1 : Int32} (X : Cx x cX1_readOne RX1 (dR + 9)) (hN : vxn x = 3) (hWd : WordsK (vxD x) (vxT x) (vxZ x)) (hE : RecC (vxl x) (vxD x) (vxT x) (vxZ x) rE yX1_readEither cX1_readEither 4 dE) (hEd : dE ≤ dR) (hO : RecC (vxl x) (vxD x) (vxT x) (vxZ x) rO yX1_readOne cX1_readOne 3 dO) (hOd : dO ≤ dR) (hR : narrow .boolean (.int r.1) = .int r.1 → RetI x cX1_readOne 0 0 r.1 [(a0, .inr (1, [.int s_size, .int r.2.1, .ref a_tape, .int r.2.2.1, .int r.2.2.2.1, .int r.2.2.2.2.1, .int r.2.2.2.2.2.1, .ref a_code, .int r.2.2.2.2.2.2.1])), (a_tape, .inl (vxT x 0, 160, .inl s_tape)), (a_code, .inl (vxT x 0, 160, .inl r.2.2.2.2.2.2.2))]) (hf : f_X1_readOne l1 s_size s_fault s_at s_token s_tokenAt s_value s_codeSize s_tape s_code rE rO = some r) : V x 0 0 [(a0, .inr (1, [.int s_size, .int s_fault, .ref a_tape, .int s_at, .int s_token, .int s_tokenAt, .int s_value, .ref a_code, .int s_codeSize])), (a_tape, .inl (vxT x 0, 160, .inl s_tape)), (a_code, .inl (vxT x 0, 160, .inl s_code))] [(0, .ref a0), (1, .int l1)] 0 [] := by
  unfold f_X1_readOne at hf
  refine v_aload_n X 0 rfl dX1_readOne_0 ?_
  refine v_get X xinX1 0 rfl rfl 4 (by decide) wd99 rfl rfl dX1_readOne_1 ?_
  refine v_sipush X (v := 258) (by decide) dX1_readOne_4 ?_
  refine v_icmp_eq X (tgt := 20) hf (by decide) dX1_readOne_7 (fun c7 hf => ?_) (fun c7 hf => ?_)
  · refine v_lv [0] rfl ?_
    exact t_X1_readOne_20 X hN hWd hE hEd hO hOd hR hf
  · refine v_aload_n X 0 rfl dX1_readOne_10 ?_
    refine v_get X xinX1 0 rfl rfl 4 (by decide) wd99 rfl rfl dX1_readOne_11 ?_
    refine v_sipush X (v := 259) (by decide) dX1_readOne_14 ?_
    refine v_icmp_ne X (tgt := 35) hf (by decide) dX1_readOne_17 (fun c17 hf => ?_) (fun c17 hf => ?_)
    · refine v_aload_n X 0 rfl dX1_readOne_35 ?_
      refine v_get X xinX1 0 rfl rfl 4 (by decide) wd99 rfl rfl dX1_readOne_36 ?_
      refine v_bipush X (v := 45) (by decide) dX1_readOne_39 ?_
      refine v_icmp_eq X (tgt := 53) hf (by decide) dX1_readOne_41 (fun c41 hf => ?_) (fun c41 hf => ?_)
      · exact t_X1_readOne_53 X hN hWd hE hEd hO hOd hR hf
      · refine v_aload_n X 0 rfl dX1_readOne_44 ?_
        refine v_get X xinX1 0 rfl rfl 4 (by decide) wd99 rfl rfl dX1_readOne_45 ?_
        refine v_bipush X (v := 40) (by decide) dX1_readOne_48 ?_
        refine v_icmp_ne X (tgt := 58) hf (by decide) dX1_readOne_50 (fun c50 hf => ?_) (fun c50 hf => ?_)
        · refine v_aload_n X 0 rfl dX1_readOne_58 ?_
          obtain ⟨v59_9, hv59_9, hf⟩ := bd_some hf
          refine v_callI X (c_X1_fail X.2.2.2.2.2.2.2.1 hv59_9) cwv_X1_61 rfl (by omega) ⟨Nat.zero_le _, Nat.zero_le _⟩ 0 rfl rfl [0] [1, 2] [2, 0, 1] rfl (by decide) (wr := [(a_tape, .inl (vxT x 0, 160, .inl s_tape)), (a_code, .inl (vxT x 0, 160, .inl s_code))]) rfl (by decide) (by decide) (ws2 := [(a0, .inr (1, [.int s_size, .int v59_9.2, .ref a_tape, .int s_at, .int s_token, .int s_tokenAt, .int s_value, .ref a_code, .int s_codeSize])), (a_tape, .inl (vxT x 0, 160, .inl s_tape)), (a_code, .inl (vxT x 0, 160, .inl s_code))]) rfl (by decide) (Nat.le_of_ble_eq_true rfl) rfl dX1_readOne_59 ?_
          obtain ⟨hz, hf⟩ := if_some hf
          obtain rfl := Option.some.inj hf
          exact v_iret (hR (isZ_n hz)) dX1_readOne_62
        · exact t_X1_readOne_53 X hN hWd hE hEd hO hOd hR hf
    · refine v_lv [0] rfl ?_
      exact t_X1_readOne_20 X hN hWd hE hEd hO hOd hR hf
set_option maxRecDepth 100000 in
set_option maxHeartbeats 4000000 in
theorem c_X1_readOne {l : Launch} {D : va_G} {qT : Nat → ClassId} {Z : (Nat → Prop) → State → Heap → Prop} {r : Int32 × Int32 × Int32 × Int32 × Int32 × Int32 × Int32 × (Nat → Int32)} {a0 : Nat} {a_tape : Nat} {a_code : Nat} {s_size : Int32} {s_fault : Int32} {s_at : Int32} {s_token : Int32} {s_tokenAt : Int32} {s_value : Int32} {s_codeSize : Int32} {s_tape : Nat → Int32} {s_code : Nat → Int32} {rE : RF} {dE : Nat} {dR : Nat} {rO : RF} {dO : Nat} {l1 : Int32} (hZ : ZOK Z) (hWd : WordsK D qT Z) (hE : RecC l D qT Z rE yX1_readEither cX1_readEither 4 dE) (hEd : dE ≤ dR) (hO : RecC l D qT Z rO yX1_readOne cX1_readOne 3 dO) (hOd : dO ≤ dR) (hf : f_X1_readOne l1 s_size s_fault s_at s_token s_tokenAt s_value s_codeSize s_tape s_code rE rO = some r) :
    CI l D qT Z yX1_readOne cX1_readOne 3 (some .boolean) (dR + 9) 0 0 [.ref a0, .int l1] [(a0, .inr (1, [.int s_size, .int s_fault, .ref a_tape, .int s_at, .int s_token, .int s_tokenAt, .int s_value, .ref a_code, .int s_codeSize])), (a_tape, .inl (qT 0, 160, .inl s_tape)), (a_code, .inl (qT 0, 160, .inl s_code))] r.1 [(a0, .inr (1, [.int s_size, .int r.2.1, .ref a_tape, .int r.2.2.1, .int r.2.2.2.1, .int r.2.2.2.2.1, .int r.2.2.2.2.2.1, .ref a_code, .int r.2.2.2.2.2.2.1])), (a_tape, .inl (qT 0, 160, .inl s_tape)), (a_code, .inl (qT 0, 160, .inl r.2.2.2.2.2.2.2))] := by
  refine CZ_of hZ (by decide) (Nat.le_of_ble_eq_true rfl) ?_
  intro x e1 e2 e3 e4 e5 e6 hin X hR
  subst e1 e2 e3 e4
  exact t_X1_readOne X e6 hWd hE hEd hO hOd hR hf
def f_X1_readTerm_8 (s_size : Int32) (s_tape : Nat → Int32) (rE : RF) (rO : RF) (l1 : Int32) (kp_8 : Int32 → Int32 → Int32 → Int32 → Int32 → Int32 → Int32 → Int32 → (Nat → Int32) → Option (Int32 × Int32 × Int32 × Int32 × Int32 × Int32 × Int32 × (Nat → Int32))) (l2 : Int32) (l3 : Int32) (s_fault : Int32) (s_at : Int32) (s_token : Int32) (s_tokenAt : Int32) (s_value : Int32) (s_codeSize : Int32) (s_code : Nat → Int32) : Option (Int32 × Int32 × Int32 × Int32 × Int32 × Int32 × Int32 × (Nat → Int32)) :=
  if 160 ≤ l3 then (
  if isZ l2 = true then some (l2, s_fault, s_at, s_token, s_tokenAt, s_value, s_codeSize, s_code) else none) else (
  if l2 = 0 then (
  if isZ l2 = true then some (l2, s_fault, s_at, s_token, s_tokenAt, s_value, s_codeSize, s_code) else none) else (
  if s_token = 42 then (
  (f_X1_next s_size s_at s_value s_tape).bind (fun v29_2 =>
  (f_X1_readOne l1 s_size s_fault v29_2.1 v29_2.2.1 v29_2.2.2.1 v29_2.2.2.2 s_codeSize s_tape s_code rE rO).bind (fun v34_3 =>
  if v34_3.1 = 0 then (
  kp_8 0 (l3 + 1) v34_3.2.1 v34_3.2.2.1 v34_3.2.2.2.1 v34_3.2.2.2.2.1 v34_3.2.2.2.2.2.1 v34_3.2.2.2.2.2.2.1 v34_3.2.2.2.2.2.2.2) else (
  (f_X1_put (-16) v34_3.2.2.2.2.2.2.1 v34_3.2.2.2.2.2.2.2).bind (fun v43_4 =>
  if v43_4.1 = 0 then (
  kp_8 0 (l3 + 1) v34_3.2.1 v34_3.2.2.1 v34_3.2.2.2.1 v34_3.2.2.2.2.1 v34_3.2.2.2.2.2.1 v43_4.2.1 v43_4.2.2) else (
  kp_8 1 (l3 + 1) v34_3.2.1 v34_3.2.2.1 v34_3.2.2.2.1 v34_3.2.2.2.2.1 v34_3.2.2.2.2.2.1 v43_4.2.1 v43_4.2.2)))))) else (
  if isZ l2 = true then some (l2, s_fault, s_at, s_token, s_tokenAt, s_value, s_codeSize, s_code) else none)))
def f_X1_readTerm (l1 : Int32) (s_size : Int32) (s_fault : Int32) (s_at : Int32) (s_token : Int32) (s_tokenAt : Int32) (s_value : Int32) (s_codeSize : Int32) (s_tape : Nat → Int32) (s_code : Nat → Int32) (rE : RF) (rO : RF) : Option (Int32 × Int32 × Int32 × Int32 × Int32 × Int32 × Int32 × (Nat → Int32)) :=
  (f_X1_readOne l1 s_size s_fault s_at s_token s_tokenAt s_value s_codeSize s_tape s_code rE rO).bind (fun v2_1 =>
  lq9 (f_X1_readTerm_8 s_size s_tape rE rO l1) 200 v2_1.1 0 v2_1.2.1 v2_1.2.2.1 v2_1.2.2.2.1 v2_1.2.2.2.2.1 v2_1.2.2.2.2.2.1 v2_1.2.2.2.2.2.2.1 v2_1.2.2.2.2.2.2.2)
set_option maxRecDepth 100000 in
set_option maxHeartbeats 4000000 in
theorem t_X1_readTerm_8 {x : VX} {r : Int32 × Int32 × Int32 × Int32 × Int32 × Int32 × Int32 × (Nat → Int32)} {a0 : Nat} {a_tape : Nat} {a_code : Nat} {s_size : Int32} {s_tape : Nat → Int32} {rE : RF} {dE : Nat} {dR : Nat} {rO : RF} {dO : Nat} {l1 : Int32} (X : Cx x cX1_readTerm RX1 (dR + 10)) (hN : vxn x = 4) (hWd : WordsK (vxD x) (vxT x) (vxZ x)) (hE : RecC (vxl x) (vxD x) (vxT x) (vxZ x) rE yX1_readEither cX1_readEither 4 dE) (hEd : dE ≤ dR) (hO : RecC (vxl x) (vxD x) (vxT x) (vxZ x) rO yX1_readOne cX1_readOne 3 dO) (hOd : dO ≤ dR) (hR : narrow .boolean (.int r.1) = .int r.1 → RetI x cX1_readTerm 0 0 r.1 [(a0, .inr (1, [.int s_size, .int r.2.1, .ref a_tape, .int r.2.2.1, .int r.2.2.2.1, .int r.2.2.2.2.1, .int r.2.2.2.2.2.1, .ref a_code, .int r.2.2.2.2.2.2.1])), (a_tape, .inl (vxT x 0, 160, .inl s_tape)), (a_code, .inl (vxT x 0, 160, .inl r.2.2.2.2.2.2.2))]) :
    ∀ (fu : Nat) (l2 : Int32) (l3 : Int32) (s_fault : Int32) (s_at : Int32) (s_token : Int32) (s_tokenAt : Int32) (s_value : Int32) (s_codeSize : Int32) (s_code : Nat → Int32), lq9 (f_X1_readTerm_8 s_size s_tape rE rO l1) fu l2 l3 s_fault s_at s_token s_tokenAt s_value s_codeSize s_code = some r → V x 0 0 [(a0, .inr (1, [.int s_size, .int s_fault, .ref a_tape, .int s_at, .int s_token, .int s_tokenAt, .int s_value, .ref a_code, .int s_codeSize])), (a_tape, .inl (vxT x 0, 160, .inl s_tape)), (a_code, .inl (vxT x 0, 160, .inl s_code))] [(0, .ref a0), (1, .int l1), (2, .int l2), (3, .int l3)] 8 [] := by
  refine lq9_V (G := fun l2 l3 s_fault s_at s_token s_tokenAt s_value s_codeSize s_code => V x 0 0 [(a0, .inr (1, [.int s_size, .int s_fault, .ref a_tape, .int s_at, .int s_token, .int s_tokenAt, .int s_value, .ref a_code, .int s_codeSize])), (a_tape, .inl (vxT x 0, 160, .inl s_tape)), (a_code, .inl (vxT x 0, 160, .inl s_code))] [(0, .ref a0), (1, .int l1), (2, .int l2), (3, .int l3)] 8 []) ?_
  intro kp_8 hk_8 l2 l3 s_fault s_at s_token s_tokenAt s_value s_codeSize s_code hf
  unfold f_X1_readTerm_8 at hf
  refine v_iload_n X 3 rfl dX1_readTerm_8 ?_
  refine v_sipush X (v := 160) (by decide) dX1_readTerm_9 ?_
  refine v_icmp_ge X (tgt := 61) hf (by decide) dX1_readTerm_12 (fun c12 hf => ?_) (fun c12 hf => ?_)
  · refine v_iload_n X 2 rfl dX1_readTerm_61 ?_
    obtain ⟨hz, hf⟩ := if_some hf
    obtain rfl := Option.some.inj hf
    exact v_iret (hR (isZ_n hz)) dX1_readTerm_62
  · refine v_iload_n X 2 rfl dX1_readTerm_15 ?_
    refine v_if_eq X (tgt := 61) hf (by decide) dX1_readTerm_16 (fun c16 hf => ?_) (fun c16 hf => ?_)
    · refine v_iload_n X 2 rfl dX1_readTerm_61 ?_
      obtain ⟨hz, hf⟩ := if_some hf
      obtain rfl := Option.some.inj hf
      exact v_iret (hR (isZ_n hz)) dX1_readTerm_62
    · refine v_aload_n X 0 rfl dX1_readTerm_19 ?_
      refine v_get X xinX1 0 rfl rfl 4 (by decide) wd99 rfl rfl dX1_readTerm_20 ?_
      refine v_bipush X (v := 42) (by decide) dX1_readTerm_23 ?_
      refine v_icmp_ne X (tgt := 61) hf (by decide) dX1_readTerm_25 (fun c25 hf => ?_) (fun c25 hf => ?_)
      · refine v_iload_n X 2 rfl dX1_readTerm_61 ?_
        obtain ⟨hz, hf⟩ := if_some hf
        obtain rfl := Option.some.inj hf
        exact v_iret (hR (isZ_n hz)) dX1_readTerm_62
      · refine v_aload_n X 0 rfl dX1_readTerm_28 ?_
        obtain ⟨v29_2, hv29_2, hf⟩ := bd_some hf
        refine v_callV X (c_X1_next X.2.2.2.2.2.2.2.1 hWd hv29_2) cwv_X1_40 rfl (by omega) ⟨Nat.zero_le _, Nat.zero_le _⟩ 0 rfl rfl [0, 1] [2] [1, 2, 0] rfl (by decide) (wr := [(a_code, .inl (vxT x 0, 160, .inl s_code))]) rfl (by decide) (by decide) (ws2 := [(a0, .inr (1, [.int s_size, .int s_fault, .ref a_tape, .int v29_2.1, .int v29_2.2.1, .int v29_2.2.2.1, .int v29_2.2.2.2, .ref a_code, .int s_codeSize])), (a_tape, .inl (vxT x 0, 160, .inl s_tape)), (a_code, .inl (vxT x 0, 160, .inl s_code))]) rfl (by decide) (Nat.le_of_ble_eq_true rfl) rfl dX1_readTerm_29 ?_
        refine v_aload_n X 0 rfl dX1_readTerm_32 ?_
        refine v_iload_n X 1 rfl dX1_readTerm_33 ?_
        obtain ⟨v34_3, hv34_3, hf⟩ := bd_some hf
        refine v_callI X (c_X1_readOne X.2.2.2.2.2.2.2.1 hWd hE hEd hO hOd hv34_3) cwv_X1_80 rfl (by omega) ⟨Nat.zero_le _, Nat.zero_le _⟩ 0 rfl rfl [0, 1, 2] [] [0, 1, 2] rfl (by decide) (wr := []) rfl (by decide) (by decide) (ws2 := [(a0, .inr (1, [.int s_size, .int v34_3.2.1, .ref a_tape, .int v34_3.2.2.1, .int v34_3.2.2.2.1, .int v34_3.2.2.2.2.1, .int v34_3.2.2.2.2.2.1, .ref a_code, .int v34_3.2.2.2.2.2.2.1])), (a_tape, .inl (vxT x 0, 160, .inl s_tape)), (a_code, .inl (vxT x 0, 160, .inl v34_3.2.2.2.2.2.2.2))]) rfl (by decide) (Nat.le_of_ble_eq_true rfl) rfl dX1_readTerm_34 ?_
        refine v_if_eq X (tgt := 53) hf (by decide) dX1_readTerm_37 (fun c37 hf => ?_) (fun c37 hf => ?_)
        · refine v_iconst X (v := 0) (by decide) dX1_readTerm_53 ?_
          refine v_istore_n X rfl (by rw [hN]; decide) (lv' := [(2, .int 0), (0, .ref a0), (1, .int l1), (3, .int l3)]) rfl dX1_readTerm_54 ?_
          refine v_iinc X 3 rfl (v := (l3 + 1)) rfl (by rw [hN]; decide) (lv' := [(3, .int (l3 + 1)), (2, .int 0), (0, .ref a0), (1, .int l1)]) rfl dX1_readTerm_55 ?_
          refine v_goto X (tgt := 8) (by decide) dX1_readTerm_58 ?_
          refine v_lv [2, 3, 1, 0] rfl ?_
          exact hk_8 _ _ _ _ _ _ _ _ _ hf
        · refine v_aload_n X 0 rfl dX1_readTerm_40 ?_
          refine v_bipush X (v := (-16)) (by decide) dX1_readTerm_41 ?_
          obtain ⟨v43_4, hv43_4, hf⟩ := bd_some hf
          refine v_callI X (c_X1_put X.2.2.2.2.2.2.2.1 hv43_4) cwv_X1_68 rfl (by omega) ⟨Nat.zero_le _, Nat.zero_le _⟩ 0 rfl rfl [0, 2] [1] [1, 0, 2] rfl (by decide) (wr := [(a_tape, .inl (vxT x 0, 160, .inl s_tape))]) rfl (by decide) (by decide) (ws2 := [(a0, .inr (1, [.int s_size, .int v34_3.2.1, .ref a_tape, .int v34_3.2.2.1, .int v34_3.2.2.2.1, .int v34_3.2.2.2.2.1, .int v34_3.2.2.2.2.2.1, .ref a_code, .int v43_4.2.1])), (a_tape, .inl (vxT x 0, 160, .inl s_tape)), (a_code, .inl (vxT x 0, 160, .inl v43_4.2.2))]) rfl (by decide) (Nat.le_of_ble_eq_true rfl) rfl dX1_readTerm_43 ?_
          refine v_if_eq X (tgt := 53) hf (by decide) dX1_readTerm_46 (fun c46 hf => ?_) (fun c46 hf => ?_)
          · refine v_iconst X (v := 0) (by decide) dX1_readTerm_53 ?_
            refine v_istore_n X rfl (by rw [hN]; decide) (lv' := [(2, .int 0), (0, .ref a0), (1, .int l1), (3, .int l3)]) rfl dX1_readTerm_54 ?_
            refine v_iinc X 3 rfl (v := (l3 + 1)) rfl (by rw [hN]; decide) (lv' := [(3, .int (l3 + 1)), (2, .int 0), (0, .ref a0), (1, .int l1)]) rfl dX1_readTerm_55 ?_
            refine v_goto X (tgt := 8) (by decide) dX1_readTerm_58 ?_
            refine v_lv [2, 3, 1, 0] rfl ?_
            exact hk_8 _ _ _ _ _ _ _ _ _ hf
          · refine v_iconst X (v := 1) (by decide) dX1_readTerm_49 ?_
            refine v_goto X (tgt := 54) (by decide) dX1_readTerm_50 ?_
            refine v_istore_n X rfl (by rw [hN]; decide) (lv' := [(2, .int 1), (0, .ref a0), (1, .int l1), (3, .int l3)]) rfl dX1_readTerm_54 ?_
            refine v_iinc X 3 rfl (v := (l3 + 1)) rfl (by rw [hN]; decide) (lv' := [(3, .int (l3 + 1)), (2, .int 1), (0, .ref a0), (1, .int l1)]) rfl dX1_readTerm_55 ?_
            refine v_goto X (tgt := 8) (by decide) dX1_readTerm_58 ?_
            refine v_lv [2, 3, 1, 0] rfl ?_
            exact hk_8 _ _ _ _ _ _ _ _ _ hf
set_option maxRecDepth 100000 in
set_option maxHeartbeats 4000000 in
theorem t_X1_readTerm {x : VX} {r : Int32 × Int32 × Int32 × Int32 × Int32 × Int32 × Int32 × (Nat → Int32)} {a0 : Nat} {a_tape : Nat} {a_code : Nat} {s_size : Int32} {s_fault : Int32} {s_at : Int32} {s_token : Int32} {s_tokenAt : Int32} {s_value : Int32} {s_codeSize : Int32} {s_tape : Nat → Int32} {s_code : Nat → Int32} {rE : RF} {dE : Nat} {dR : Nat} {rO : RF} {dO : Nat} {l1 : Int32} (X : Cx x cX1_readTerm RX1 (dR + 10)) (hN : vxn x = 4) (hWd : WordsK (vxD x) (vxT x) (vxZ x)) (hE : RecC (vxl x) (vxD x) (vxT x) (vxZ x) rE yX1_readEither cX1_readEither 4 dE) (hEd : dE ≤ dR) (hO : RecC (vxl x) (vxD x) (vxT x) (vxZ x) rO yX1_readOne cX1_readOne 3 dO) (hOd : dO ≤ dR) (hR : narrow .boolean (.int r.1) = .int r.1 → RetI x cX1_readTerm 0 0 r.1 [(a0, .inr (1, [.int s_size, .int r.2.1, .ref a_tape, .int r.2.2.1, .int r.2.2.2.1, .int r.2.2.2.2.1, .int r.2.2.2.2.2.1, .ref a_code, .int r.2.2.2.2.2.2.1])), (a_tape, .inl (vxT x 0, 160, .inl s_tape)), (a_code, .inl (vxT x 0, 160, .inl r.2.2.2.2.2.2.2))]) (hf : f_X1_readTerm l1 s_size s_fault s_at s_token s_tokenAt s_value s_codeSize s_tape s_code rE rO = some r) : V x 0 0 [(a0, .inr (1, [.int s_size, .int s_fault, .ref a_tape, .int s_at, .int s_token, .int s_tokenAt, .int s_value, .ref a_code, .int s_codeSize])), (a_tape, .inl (vxT x 0, 160, .inl s_tape)), (a_code, .inl (vxT x 0, 160, .inl s_code))] [(0, .ref a0), (1, .int l1)] 0 [] := by
  unfold f_X1_readTerm at hf
  refine v_aload_n X 0 rfl dX1_readTerm_0 ?_
  refine v_iload_n X 1 rfl dX1_readTerm_1 ?_
  obtain ⟨v2_1, hv2_1, hf⟩ := bd_some hf
  refine v_callI X (c_X1_readOne X.2.2.2.2.2.2.2.1 hWd hE hEd hO hOd hv2_1) cwv_X1_80 rfl (by omega) ⟨Nat.zero_le _, Nat.zero_le _⟩ 0 rfl rfl [0, 1, 2] [] [0, 1, 2] rfl (by decide) (wr := []) rfl (by decide) (by decide) (ws2 := [(a0, .inr (1, [.int s_size, .int v2_1.2.1, .ref a_tape, .int v2_1.2.2.1, .int v2_1.2.2.2.1, .int v2_1.2.2.2.2.1, .int v2_1.2.2.2.2.2.1, .ref a_code, .int v2_1.2.2.2.2.2.2.1])), (a_tape, .inl (vxT x 0, 160, .inl s_tape)), (a_code, .inl (vxT x 0, 160, .inl v2_1.2.2.2.2.2.2.2))]) rfl (by decide) (Nat.le_of_ble_eq_true rfl) rfl dX1_readTerm_2 ?_
  refine v_istore_n X rfl (by rw [hN]; decide) (lv' := [(2, .int v2_1.1), (0, .ref a0), (1, .int l1)]) rfl dX1_readTerm_5 ?_
  refine v_iconst X (v := 0) (by decide) dX1_readTerm_6 ?_
  refine v_istore_n X rfl (by rw [hN]; decide) (lv' := [(3, .int 0), (2, .int v2_1.1), (0, .ref a0), (1, .int l1)]) rfl dX1_readTerm_7 ?_
  refine v_lv [2, 3, 1, 0] rfl ?_
  exact t_X1_readTerm_8 X hN hWd hE hEd hO hOd hR 200 _ _ _ _ _ _ _ _ _ hf
set_option maxRecDepth 100000 in
set_option maxHeartbeats 4000000 in
theorem c_X1_readTerm {l : Launch} {D : va_G} {qT : Nat → ClassId} {Z : (Nat → Prop) → State → Heap → Prop} {r : Int32 × Int32 × Int32 × Int32 × Int32 × Int32 × Int32 × (Nat → Int32)} {a0 : Nat} {a_tape : Nat} {a_code : Nat} {s_size : Int32} {s_fault : Int32} {s_at : Int32} {s_token : Int32} {s_tokenAt : Int32} {s_value : Int32} {s_codeSize : Int32} {s_tape : Nat → Int32} {s_code : Nat → Int32} {rE : RF} {dE : Nat} {dR : Nat} {rO : RF} {dO : Nat} {l1 : Int32} (hZ : ZOK Z) (hWd : WordsK D qT Z) (hE : RecC l D qT Z rE yX1_readEither cX1_readEither 4 dE) (hEd : dE ≤ dR) (hO : RecC l D qT Z rO yX1_readOne cX1_readOne 3 dO) (hOd : dO ≤ dR) (hf : f_X1_readTerm l1 s_size s_fault s_at s_token s_tokenAt s_value s_codeSize s_tape s_code rE rO = some r) :
    CI l D qT Z yX1_readTerm cX1_readTerm 4 (some .boolean) (dR + 10) 0 0 [.ref a0, .int l1] [(a0, .inr (1, [.int s_size, .int s_fault, .ref a_tape, .int s_at, .int s_token, .int s_tokenAt, .int s_value, .ref a_code, .int s_codeSize])), (a_tape, .inl (qT 0, 160, .inl s_tape)), (a_code, .inl (qT 0, 160, .inl s_code))] r.1 [(a0, .inr (1, [.int s_size, .int r.2.1, .ref a_tape, .int r.2.2.1, .int r.2.2.2.1, .int r.2.2.2.2.1, .int r.2.2.2.2.2.1, .ref a_code, .int r.2.2.2.2.2.2.1])), (a_tape, .inl (qT 0, 160, .inl s_tape)), (a_code, .inl (qT 0, 160, .inl r.2.2.2.2.2.2.2))] := by
  refine CZ_of hZ (by decide) (Nat.le_of_ble_eq_true rfl) ?_
  intro x e1 e2 e3 e4 e5 e6 hin X hR
  subst e1 e2 e3 e4
  exact t_X1_readTerm X e6 hWd hE hEd hO hOd hR hf
def f_X1_readSum_53 (kp_8 : Int32 → Int32 → Int32 → Int32 → Int32 → Int32 → Int32 → Int32 → (Nat → Int32) → Option (Int32 × Int32 × Int32 × Int32 × Int32 × Int32 × Int32 × (Nat → Int32))) (s_size : Int32) (s_fault : Int32) (s_at : Int32) (s_value : Int32) (s_codeSize : Int32) (s_tape : Nat → Int32) (s_code : Nat → Int32) (rE : RF) (rO : RF) (l1 : Int32) (l3 : Int32) (k0 : Int32) : Option (Int32 × Int32 × Int32 × Int32 × Int32 × Int32 × Int32 × (Nat → Int32)) :=
  (f_X1_next s_size s_at s_value s_tape).bind (fun v56_2 =>
  (f_X1_readTerm l1 s_size s_fault v56_2.1 v56_2.2.1 v56_2.2.2.1 v56_2.2.2.2 s_codeSize s_tape s_code rE rO).bind (fun v61_3 =>
  if v61_3.1 = 0 then (
  kp_8 0 (l3 + 1) v61_3.2.1 v61_3.2.2.1 v61_3.2.2.2.1 v61_3.2.2.2.2.1 v61_3.2.2.2.2.2.1 v61_3.2.2.2.2.2.2.1 v61_3.2.2.2.2.2.2.2) else (
  (f_X1_put k0 v61_3.2.2.2.2.2.2.1 v61_3.2.2.2.2.2.2.2).bind (fun v70_4 =>
  if v70_4.1 = 0 then (
  kp_8 0 (l3 + 1) v61_3.2.1 v61_3.2.2.1 v61_3.2.2.2.1 v61_3.2.2.2.2.1 v61_3.2.2.2.2.2.1 v70_4.2.1 v70_4.2.2) else (
  kp_8 1 (l3 + 1) v61_3.2.1 v61_3.2.2.1 v61_3.2.2.2.1 v61_3.2.2.2.2.1 v61_3.2.2.2.2.2.1 v70_4.2.1 v70_4.2.2)))))
def f_X1_readSum_37 (kp_8 : Int32 → Int32 → Int32 → Int32 → Int32 → Int32 → Int32 → Int32 → (Nat → Int32) → Option (Int32 × Int32 × Int32 × Int32 × Int32 × Int32 × Int32 × (Nat → Int32))) (s_size : Int32) (s_fault : Int32) (s_at : Int32) (s_token : Int32) (s_value : Int32) (s_codeSize : Int32) (s_tape : Nat → Int32) (s_code : Nat → Int32) (rE : RF) (rO : RF) (l1 : Int32) (l3 : Int32) : Option (Int32 × Int32 × Int32 × Int32 × Int32 × Int32 × Int32 × (Nat → Int32)) :=
  if s_token = 43 then (
  f_X1_readSum_53 kp_8 s_size s_fault s_at s_value s_codeSize s_tape s_code rE rO l1 l3 (-14)) else (
  f_X1_readSum_53 kp_8 s_size s_fault s_at s_value s_codeSize s_tape s_code rE rO l1 l3 (-15))
def f_X1_readSum_8 (s_size : Int32) (s_tape : Nat → Int32) (rE : RF) (rO : RF) (l1 : Int32) (kp_8 : Int32 → Int32 → Int32 → Int32 → Int32 → Int32 → Int32 → Int32 → (Nat → Int32) → Option (Int32 × Int32 × Int32 × Int32 × Int32 × Int32 × Int32 × (Nat → Int32))) (l2 : Int32) (l3 : Int32) (s_fault : Int32) (s_at : Int32) (s_token : Int32) (s_tokenAt : Int32) (s_value : Int32) (s_codeSize : Int32) (s_code : Nat → Int32) : Option (Int32 × Int32 × Int32 × Int32 × Int32 × Int32 × Int32 × (Nat → Int32)) :=
  if 160 ≤ l3 then (
  if isZ l2 = true then some (l2, s_fault, s_at, s_token, s_tokenAt, s_value, s_codeSize, s_code) else none) else (
  if l2 = 0 then (
  if isZ l2 = true then some (l2, s_fault, s_at, s_token, s_tokenAt, s_value, s_codeSize, s_code) else none) else (
  if s_token = 43 then (
  f_X1_readSum_37 kp_8 s_size s_fault s_at s_token s_value s_codeSize s_tape s_code rE rO l1 l3) else (
  if s_token = 45 then (
  f_X1_readSum_37 kp_8 s_size s_fault s_at s_token s_value s_codeSize s_tape s_code rE rO l1 l3) else (
  if isZ l2 = true then some (l2, s_fault, s_at, s_token, s_tokenAt, s_value, s_codeSize, s_code) else none))))
def f_X1_readSum (l1 : Int32) (s_size : Int32) (s_fault : Int32) (s_at : Int32) (s_token : Int32) (s_tokenAt : Int32) (s_value : Int32) (s_codeSize : Int32) (s_tape : Nat → Int32) (s_code : Nat → Int32) (rE : RF) (rO : RF) : Option (Int32 × Int32 × Int32 × Int32 × Int32 × Int32 × Int32 × (Nat → Int32)) :=
  (f_X1_readTerm l1 s_size s_fault s_at s_token s_tokenAt s_value s_codeSize s_tape s_code rE rO).bind (fun v2_1 =>
  lq9 (f_X1_readSum_8 s_size s_tape rE rO l1) 200 v2_1.1 0 v2_1.2.1 v2_1.2.2.1 v2_1.2.2.2.1 v2_1.2.2.2.2.1 v2_1.2.2.2.2.2.1 v2_1.2.2.2.2.2.2.1 v2_1.2.2.2.2.2.2.2)
set_option maxRecDepth 100000 in
set_option maxHeartbeats 4000000 in
theorem t_X1_readSum_53 {x : VX} {r : Int32 × Int32 × Int32 × Int32 × Int32 × Int32 × Int32 × (Nat → Int32)} {a0 : Nat} {a_tape : Nat} {a_code : Nat} {s_size : Int32} {s_fault : Int32} {s_at : Int32} {s_token : Int32} {s_tokenAt : Int32} {s_value : Int32} {s_codeSize : Int32} {s_tape : Nat → Int32} {s_code : Nat → Int32} {rE : RF} {dE : Nat} {dR : Nat} {rO : RF} {dO : Nat} {l1 : Int32} {l3 : Int32} {k0 : Int32} (X : Cx x cX1_readSum RX1 (dR + 11)) (hN : vxn x = 5) (hWd : WordsK (vxD x) (vxT x) (vxZ x)) (hE : RecC (vxl x) (vxD x) (vxT x) (vxZ x) rE yX1_readEither cX1_readEither 4 dE) (hEd : dE ≤ dR) (hO : RecC (vxl x) (vxD x) (vxT x) (vxZ x) rO yX1_readOne cX1_readOne 3 dO) (hOd : dO ≤ dR) {kp_8 : Int32 → Int32 → Int32 → Int32 → Int32 → Int32 → Int32 → Int32 → (Nat → Int32) → Option (Int32 × Int32 × Int32 × Int32 × Int32 × Int32 × Int32 × (Nat → Int32))} (hk_8 : ∀ (l2 : Int32) (l3 : Int32) (s_fault : Int32) (s_at : Int32) (s_token : Int32) (s_tokenAt : Int32) (s_value : Int32) (s_codeSize : Int32) (s_code : Nat → Int32), kp_8 l2 l3 s_fault s_at s_token s_tokenAt s_value s_codeSize s_code = some r → V x 0 0 [(a0, .inr (1, [.int s_size, .int s_fault, .ref a_tape, .int s_at, .int s_token, .int s_tokenAt, .int s_value, .ref a_code, .int s_codeSize])), (a_tape, .inl (vxT x 0, 160, .inl s_tape)), (a_code, .inl (vxT x 0, 160, .inl s_code))] [(0, .ref a0), (1, .int l1), (2, .int l2), (3, .int l3)] 8 []) (hR : narrow .boolean (.int r.1) = .int r.1 → RetI x cX1_readSum 0 0 r.1 [(a0, .inr (1, [.int s_size, .int r.2.1, .ref a_tape, .int r.2.2.1, .int r.2.2.2.1, .int r.2.2.2.2.1, .int r.2.2.2.2.2.1, .ref a_code, .int r.2.2.2.2.2.2.1])), (a_tape, .inl (vxT x 0, 160, .inl s_tape)), (a_code, .inl (vxT x 0, 160, .inl r.2.2.2.2.2.2.2))]) (hf : f_X1_readSum_53 kp_8 s_size s_fault s_at s_value s_codeSize s_tape s_code rE rO l1 l3 k0 = some r) : V x 0 0 [(a0, .inr (1, [.int s_size, .int s_fault, .ref a_tape, .int s_at, .int s_token, .int s_tokenAt, .int s_value, .ref a_code, .int s_codeSize])), (a_tape, .inl (vxT x 0, 160, .inl s_tape)), (a_code, .inl (vxT x 0, 160, .inl s_code))] [(0, .ref a0), (1, .int l1), (3, .int l3)] 53 [.int k0] := by
  unfold f_X1_readSum_53 at hf
  refine v_istore X (by rw [hN]; decide) (lv' := [(4, .int k0), (0, .ref a0), (1, .int l1), (3, .int l3)]) rfl dX1_readSum_53 ?_
  refine v_aload_n X 1 rfl dX1_readSum_55 ?_
  obtain ⟨v56_2, hv56_2, hf⟩ := bd_some hf
  refine v_callV X (c_X1_next X.2.2.2.2.2.2.2.1 hWd hv56_2) cwv_X1_40 rfl (by omega) ⟨Nat.zero_le _, Nat.zero_le _⟩ 0 rfl rfl [0, 1] [2] [1, 2, 0] rfl (by decide) (wr := [(a_code, .inl (vxT x 0, 160, .inl s_code))]) rfl (by decide) (by decide) (ws2 := [(a0, .inr (1, [.int s_size, .int s_fault, .ref a_tape, .int v56_2.1, .int v56_2.2.1, .int v56_2.2.2.1, .int v56_2.2.2.2, .ref a_code, .int s_codeSize])), (a_tape, .inl (vxT x 0, 160, .inl s_tape)), (a_code, .inl (vxT x 0, 160, .inl s_code))]) rfl (by decide) (Nat.le_of_ble_eq_true rfl) rfl dX1_readSum_56 ?_
  refine v_aload_n X 1 rfl dX1_readSum_59 ?_
  refine v_iload_n X 2 rfl dX1_readSum_60 ?_
  obtain ⟨v61_3, hv61_3, hf⟩ := bd_some hf
  refine v_callI X (c_X1_readTerm X.2.2.2.2.2.2.2.1 hWd hE hEd hO hOd hv61_3) cwv_X1_77 rfl (by omega) ⟨Nat.zero_le _, Nat.zero_le _⟩ 0 rfl rfl [0, 1, 2] [] [0, 1, 2] rfl (by decide) (wr := []) rfl (by decide) (by decide) (ws2 := [(a0, .inr (1, [.int s_size, .int v61_3.2.1, .ref a_tape, .int v61_3.2.2.1, .int v61_3.2.2.2.1, .int v61_3.2.2.2.2.1, .int v61_3.2.2.2.2.2.1, .ref a_code, .int v61_3.2.2.2.2.2.2.1])), (a_tape, .inl (vxT x 0, 160, .inl s_tape)), (a_code, .inl (vxT x 0, 160, .inl v61_3.2.2.2.2.2.2.2))]) rfl (by decide) (Nat.le_of_ble_eq_true rfl) rfl dX1_readSum_61 ?_
  refine v_if_eq X (tgt := 80) hf (by decide) dX1_readSum_64 (fun c64 hf => ?_) (fun c64 hf => ?_)
  · refine v_iconst X (v := 0) (by decide) dX1_readSum_80 ?_
    refine v_istore_n X rfl (by rw [hN]; decide) (lv' := [(2, .int 0), (4, .int k0), (0, .ref a0), (1, .int l1), (3, .int l3)]) rfl dX1_readSum_81 ?_
    refine v_iinc X 4 rfl (v := (l3 + 1)) rfl (by rw [hN]; decide) (lv' := [(3, .int (l3 + 1)), (2, .int 0), (4, .int k0), (0, .ref a0), (1, .int l1)]) rfl dX1_readSum_82 ?_
    refine v_goto X (tgt := 8) (by decide) dX1_readSum_85 ?_
    refine v_lv [3, 4, 1, 0] rfl ?_
    exact hk_8 _ _ _ _ _ _ _ _ _ hf
  · refine v_aload_n X 1 rfl dX1_readSum_67 ?_
    refine v_iload X 0 rfl dX1_readSum_68 ?_
    obtain ⟨v70_4, hv70_4, hf⟩ := bd_some hf
    refine v_callI X (c_X1_put X.2.2.2.2.2.2.2.1 hv70_4) cwv_X1_68 rfl (by omega) ⟨Nat.zero_le _, Nat.zero_le _⟩ 0 rfl rfl [0, 2] [1] [1, 0, 2] rfl (by decide) (wr := [(a_tape, .inl (vxT x 0, 160, .inl s_tape))]) rfl (by decide) (by decide) (ws2 := [(a0, .inr (1, [.int s_size, .int v61_3.2.1, .ref a_tape, .int v61_3.2.2.1, .int v61_3.2.2.2.1, .int v61_3.2.2.2.2.1, .int v61_3.2.2.2.2.2.1, .ref a_code, .int v70_4.2.1])), (a_tape, .inl (vxT x 0, 160, .inl s_tape)), (a_code, .inl (vxT x 0, 160, .inl v70_4.2.2))]) rfl (by decide) (Nat.le_of_ble_eq_true rfl) rfl dX1_readSum_70 ?_
    refine v_if_eq X (tgt := 80) hf (by decide) dX1_readSum_73 (fun c73 hf => ?_) (fun c73 hf => ?_)
    · refine v_iconst X (v := 0) (by decide) dX1_readSum_80 ?_
      refine v_istore_n X rfl (by rw [hN]; decide) (lv' := [(2, .int 0), (4, .int k0), (0, .ref a0), (1, .int l1), (3, .int l3)]) rfl dX1_readSum_81 ?_
      refine v_iinc X 4 rfl (v := (l3 + 1)) rfl (by rw [hN]; decide) (lv' := [(3, .int (l3 + 1)), (2, .int 0), (4, .int k0), (0, .ref a0), (1, .int l1)]) rfl dX1_readSum_82 ?_
      refine v_goto X (tgt := 8) (by decide) dX1_readSum_85 ?_
      refine v_lv [3, 4, 1, 0] rfl ?_
      exact hk_8 _ _ _ _ _ _ _ _ _ hf
    · refine v_iconst X (v := 1) (by decide) dX1_readSum_76 ?_
      refine v_goto X (tgt := 81) (by decide) dX1_readSum_77 ?_
      refine v_istore_n X rfl (by rw [hN]; decide) (lv' := [(2, .int 1), (4, .int k0), (0, .ref a0), (1, .int l1), (3, .int l3)]) rfl dX1_readSum_81 ?_
      refine v_iinc X 4 rfl (v := (l3 + 1)) rfl (by rw [hN]; decide) (lv' := [(3, .int (l3 + 1)), (2, .int 1), (4, .int k0), (0, .ref a0), (1, .int l1)]) rfl dX1_readSum_82 ?_
      refine v_goto X (tgt := 8) (by decide) dX1_readSum_85 ?_
      refine v_lv [3, 4, 1, 0] rfl ?_
      exact hk_8 _ _ _ _ _ _ _ _ _ hf
set_option maxRecDepth 100000 in
set_option maxHeartbeats 4000000 in
theorem t_X1_readSum_37 {x : VX} {r : Int32 × Int32 × Int32 × Int32 × Int32 × Int32 × Int32 × (Nat → Int32)} {a0 : Nat} {a_tape : Nat} {a_code : Nat} {s_size : Int32} {s_fault : Int32} {s_at : Int32} {s_token : Int32} {s_tokenAt : Int32} {s_value : Int32} {s_codeSize : Int32} {s_tape : Nat → Int32} {s_code : Nat → Int32} {rE : RF} {dE : Nat} {dR : Nat} {rO : RF} {dO : Nat} {l1 : Int32} {l3 : Int32} (X : Cx x cX1_readSum RX1 (dR + 11)) (hN : vxn x = 5) (hWd : WordsK (vxD x) (vxT x) (vxZ x)) (hE : RecC (vxl x) (vxD x) (vxT x) (vxZ x) rE yX1_readEither cX1_readEither 4 dE) (hEd : dE ≤ dR) (hO : RecC (vxl x) (vxD x) (vxT x) (vxZ x) rO yX1_readOne cX1_readOne 3 dO) (hOd : dO ≤ dR) {kp_8 : Int32 → Int32 → Int32 → Int32 → Int32 → Int32 → Int32 → Int32 → (Nat → Int32) → Option (Int32 × Int32 × Int32 × Int32 × Int32 × Int32 × Int32 × (Nat → Int32))} (hk_8 : ∀ (l2 : Int32) (l3 : Int32) (s_fault : Int32) (s_at : Int32) (s_token : Int32) (s_tokenAt : Int32) (s_value : Int32) (s_codeSize : Int32) (s_code : Nat → Int32), kp_8 l2 l3 s_fault s_at s_token s_tokenAt s_value s_codeSize s_code = some r → V x 0 0 [(a0, .inr (1, [.int s_size, .int s_fault, .ref a_tape, .int s_at, .int s_token, .int s_tokenAt, .int s_value, .ref a_code, .int s_codeSize])), (a_tape, .inl (vxT x 0, 160, .inl s_tape)), (a_code, .inl (vxT x 0, 160, .inl s_code))] [(0, .ref a0), (1, .int l1), (2, .int l2), (3, .int l3)] 8 []) (hR : narrow .boolean (.int r.1) = .int r.1 → RetI x cX1_readSum 0 0 r.1 [(a0, .inr (1, [.int s_size, .int r.2.1, .ref a_tape, .int r.2.2.1, .int r.2.2.2.1, .int r.2.2.2.2.1, .int r.2.2.2.2.2.1, .ref a_code, .int r.2.2.2.2.2.2.1])), (a_tape, .inl (vxT x 0, 160, .inl s_tape)), (a_code, .inl (vxT x 0, 160, .inl r.2.2.2.2.2.2.2))]) (hf : f_X1_readSum_37 kp_8 s_size s_fault s_at s_token s_value s_codeSize s_tape s_code rE rO l1 l3 = some r) : V x 0 0 [(a0, .inr (1, [.int s_size, .int s_fault, .ref a_tape, .int s_at, .int s_token, .int s_tokenAt, .int s_value, .ref a_code, .int s_codeSize])), (a_tape, .inl (vxT x 0, 160, .inl s_tape)), (a_code, .inl (vxT x 0, 160, .inl s_code))] [(0, .ref a0), (1, .int l1), (3, .int l3)] 37 [] := by
  unfold f_X1_readSum_37 at hf
  refine v_aload_n X 0 rfl dX1_readSum_37 ?_
  refine v_get X xinX1 0 rfl rfl 4 (by decide) wd99 rfl rfl dX1_readSum_38 ?_
  refine v_bipush X (v := 43) (by decide) dX1_readSum_41 ?_
  refine v_icmp_ne X (tgt := 51) hf (by decide) dX1_readSum_43 (fun c43 hf => ?_) (fun c43 hf => ?_)
  · refine v_bipush X (v := (-15)) (by decide) dX1_readSum_51 ?_
    exact t_X1_readSum_53 X hN hWd hE hEd hO hOd hk_8 hR hf
  · refine v_bipush X (v := (-14)) (by decide) dX1_readSum_46 ?_
    refine v_goto X (tgt := 53) (by decide) dX1_readSum_48 ?_
    exact t_X1_readSum_53 X hN hWd hE hEd hO hOd hk_8 hR hf
set_option maxRecDepth 100000 in
set_option maxHeartbeats 4000000 in
theorem t_X1_readSum_8 {x : VX} {r : Int32 × Int32 × Int32 × Int32 × Int32 × Int32 × Int32 × (Nat → Int32)} {a0 : Nat} {a_tape : Nat} {a_code : Nat} {s_size : Int32} {s_tape : Nat → Int32} {rE : RF} {dE : Nat} {dR : Nat} {rO : RF} {dO : Nat} {l1 : Int32} (X : Cx x cX1_readSum RX1 (dR + 11)) (hN : vxn x = 5) (hWd : WordsK (vxD x) (vxT x) (vxZ x)) (hE : RecC (vxl x) (vxD x) (vxT x) (vxZ x) rE yX1_readEither cX1_readEither 4 dE) (hEd : dE ≤ dR) (hO : RecC (vxl x) (vxD x) (vxT x) (vxZ x) rO yX1_readOne cX1_readOne 3 dO) (hOd : dO ≤ dR) (hR : narrow .boolean (.int r.1) = .int r.1 → RetI x cX1_readSum 0 0 r.1 [(a0, .inr (1, [.int s_size, .int r.2.1, .ref a_tape, .int r.2.2.1, .int r.2.2.2.1, .int r.2.2.2.2.1, .int r.2.2.2.2.2.1, .ref a_code, .int r.2.2.2.2.2.2.1])), (a_tape, .inl (vxT x 0, 160, .inl s_tape)), (a_code, .inl (vxT x 0, 160, .inl r.2.2.2.2.2.2.2))]) :
    ∀ (fu : Nat) (l2 : Int32) (l3 : Int32) (s_fault : Int32) (s_at : Int32) (s_token : Int32) (s_tokenAt : Int32) (s_value : Int32) (s_codeSize : Int32) (s_code : Nat → Int32), lq9 (f_X1_readSum_8 s_size s_tape rE rO l1) fu l2 l3 s_fault s_at s_token s_tokenAt s_value s_codeSize s_code = some r → V x 0 0 [(a0, .inr (1, [.int s_size, .int s_fault, .ref a_tape, .int s_at, .int s_token, .int s_tokenAt, .int s_value, .ref a_code, .int s_codeSize])), (a_tape, .inl (vxT x 0, 160, .inl s_tape)), (a_code, .inl (vxT x 0, 160, .inl s_code))] [(0, .ref a0), (1, .int l1), (2, .int l2), (3, .int l3)] 8 [] := by
  refine lq9_V (G := fun l2 l3 s_fault s_at s_token s_tokenAt s_value s_codeSize s_code => V x 0 0 [(a0, .inr (1, [.int s_size, .int s_fault, .ref a_tape, .int s_at, .int s_token, .int s_tokenAt, .int s_value, .ref a_code, .int s_codeSize])), (a_tape, .inl (vxT x 0, 160, .inl s_tape)), (a_code, .inl (vxT x 0, 160, .inl s_code))] [(0, .ref a0), (1, .int l1), (2, .int l2), (3, .int l3)] 8 []) ?_
  intro kp_8 hk_8 l2 l3 s_fault s_at s_token s_tokenAt s_value s_codeSize s_code hf
  unfold f_X1_readSum_8 at hf
  refine v_iload_n X 3 rfl dX1_readSum_8 ?_
  refine v_sipush X (v := 160) (by decide) dX1_readSum_9 ?_
  refine v_icmp_ge X (tgt := 88) hf (by decide) dX1_readSum_12 (fun c12 hf => ?_) (fun c12 hf => ?_)
  · refine v_iload_n X 2 rfl dX1_readSum_88 ?_
    obtain ⟨hz, hf⟩ := if_some hf
    obtain rfl := Option.some.inj hf
    exact v_iret (hR (isZ_n hz)) dX1_readSum_89
  · refine v_iload_n X 2 rfl dX1_readSum_15 ?_
    refine v_if_eq X (tgt := 88) hf (by decide) dX1_readSum_16 (fun c16 hf => ?_) (fun c16 hf => ?_)
    · refine v_iload_n X 2 rfl dX1_readSum_88 ?_
      obtain ⟨hz, hf⟩ := if_some hf
      obtain rfl := Option.some.inj hf
      exact v_iret (hR (isZ_n hz)) dX1_readSum_89
    · refine v_aload_n X 0 rfl dX1_readSum_19 ?_
      refine v_get X xinX1 0 rfl rfl 4 (by decide) wd99 rfl rfl dX1_readSum_20 ?_
      refine v_bipush X (v := 43) (by decide) dX1_readSum_23 ?_
      refine v_icmp_eq X (tgt := 37) hf (by decide) dX1_readSum_25 (fun c25 hf => ?_) (fun c25 hf => ?_)
      · refine v_lv [0, 1, 3] rfl ?_
        exact t_X1_readSum_37 X hN hWd hE hEd hO hOd hk_8 hR hf
      · refine v_aload_n X 0 rfl dX1_readSum_28 ?_
        refine v_get X xinX1 0 rfl rfl 4 (by decide) wd99 rfl rfl dX1_readSum_29 ?_
        refine v_bipush X (v := 45) (by decide) dX1_readSum_32 ?_
        refine v_icmp_ne X (tgt := 88) hf (by decide) dX1_readSum_34 (fun c34 hf => ?_) (fun c34 hf => ?_)
        · refine v_iload_n X 2 rfl dX1_readSum_88 ?_
          obtain ⟨hz, hf⟩ := if_some hf
          obtain rfl := Option.some.inj hf
          exact v_iret (hR (isZ_n hz)) dX1_readSum_89
        · refine v_lv [0, 1, 3] rfl ?_
          exact t_X1_readSum_37 X hN hWd hE hEd hO hOd hk_8 hR hf
set_option maxRecDepth 100000 in
set_option maxHeartbeats 4000000 in
theorem t_X1_readSum {x : VX} {r : Int32 × Int32 × Int32 × Int32 × Int32 × Int32 × Int32 × (Nat → Int32)} {a0 : Nat} {a_tape : Nat} {a_code : Nat} {s_size : Int32} {s_fault : Int32} {s_at : Int32} {s_token : Int32} {s_tokenAt : Int32} {s_value : Int32} {s_codeSize : Int32} {s_tape : Nat → Int32} {s_code : Nat → Int32} {rE : RF} {dE : Nat} {dR : Nat} {rO : RF} {dO : Nat} {l1 : Int32} (X : Cx x cX1_readSum RX1 (dR + 11)) (hN : vxn x = 5) (hWd : WordsK (vxD x) (vxT x) (vxZ x)) (hE : RecC (vxl x) (vxD x) (vxT x) (vxZ x) rE yX1_readEither cX1_readEither 4 dE) (hEd : dE ≤ dR) (hO : RecC (vxl x) (vxD x) (vxT x) (vxZ x) rO yX1_readOne cX1_readOne 3 dO) (hOd : dO ≤ dR) (hR : narrow .boolean (.int r.1) = .int r.1 → RetI x cX1_readSum 0 0 r.1 [(a0, .inr (1, [.int s_size, .int r.2.1, .ref a_tape, .int r.2.2.1, .int r.2.2.2.1, .int r.2.2.2.2.1, .int r.2.2.2.2.2.1, .ref a_code, .int r.2.2.2.2.2.2.1])), (a_tape, .inl (vxT x 0, 160, .inl s_tape)), (a_code, .inl (vxT x 0, 160, .inl r.2.2.2.2.2.2.2))]) (hf : f_X1_readSum l1 s_size s_fault s_at s_token s_tokenAt s_value s_codeSize s_tape s_code rE rO = some r) : V x 0 0 [(a0, .inr (1, [.int s_size, .int s_fault, .ref a_tape, .int s_at, .int s_token, .int s_tokenAt, .int s_value, .ref a_code, .int s_codeSize])), (a_tape, .inl (vxT x 0, 160, .inl s_tape)), (a_code, .inl (vxT x 0, 160, .inl s_code))] [(0, .ref a0), (1, .int l1)] 0 [] := by
  unfold f_X1_readSum at hf
  refine v_aload_n X 0 rfl dX1_readSum_0 ?_
  refine v_iload_n X 1 rfl dX1_readSum_1 ?_
  obtain ⟨v2_1, hv2_1, hf⟩ := bd_some hf
  refine v_callI X (c_X1_readTerm X.2.2.2.2.2.2.2.1 hWd hE hEd hO hOd hv2_1) cwv_X1_77 rfl (by omega) ⟨Nat.zero_le _, Nat.zero_le _⟩ 0 rfl rfl [0, 1, 2] [] [0, 1, 2] rfl (by decide) (wr := []) rfl (by decide) (by decide) (ws2 := [(a0, .inr (1, [.int s_size, .int v2_1.2.1, .ref a_tape, .int v2_1.2.2.1, .int v2_1.2.2.2.1, .int v2_1.2.2.2.2.1, .int v2_1.2.2.2.2.2.1, .ref a_code, .int v2_1.2.2.2.2.2.2.1])), (a_tape, .inl (vxT x 0, 160, .inl s_tape)), (a_code, .inl (vxT x 0, 160, .inl v2_1.2.2.2.2.2.2.2))]) rfl (by decide) (Nat.le_of_ble_eq_true rfl) rfl dX1_readSum_2 ?_
  refine v_istore_n X rfl (by rw [hN]; decide) (lv' := [(2, .int v2_1.1), (0, .ref a0), (1, .int l1)]) rfl dX1_readSum_5 ?_
  refine v_iconst X (v := 0) (by decide) dX1_readSum_6 ?_
  refine v_istore_n X rfl (by rw [hN]; decide) (lv' := [(3, .int 0), (2, .int v2_1.1), (0, .ref a0), (1, .int l1)]) rfl dX1_readSum_7 ?_
  refine v_lv [2, 3, 1, 0] rfl ?_
  exact t_X1_readSum_8 X hN hWd hE hEd hO hOd hR 200 _ _ _ _ _ _ _ _ _ hf
set_option maxRecDepth 100000 in
set_option maxHeartbeats 4000000 in
theorem c_X1_readSum {l : Launch} {D : va_G} {qT : Nat → ClassId} {Z : (Nat → Prop) → State → Heap → Prop} {r : Int32 × Int32 × Int32 × Int32 × Int32 × Int32 × Int32 × (Nat → Int32)} {a0 : Nat} {a_tape : Nat} {a_code : Nat} {s_size : Int32} {s_fault : Int32} {s_at : Int32} {s_token : Int32} {s_tokenAt : Int32} {s_value : Int32} {s_codeSize : Int32} {s_tape : Nat → Int32} {s_code : Nat → Int32} {rE : RF} {dE : Nat} {dR : Nat} {rO : RF} {dO : Nat} {l1 : Int32} (hZ : ZOK Z) (hWd : WordsK D qT Z) (hE : RecC l D qT Z rE yX1_readEither cX1_readEither 4 dE) (hEd : dE ≤ dR) (hO : RecC l D qT Z rO yX1_readOne cX1_readOne 3 dO) (hOd : dO ≤ dR) (hf : f_X1_readSum l1 s_size s_fault s_at s_token s_tokenAt s_value s_codeSize s_tape s_code rE rO = some r) :
    CI l D qT Z yX1_readSum cX1_readSum 5 (some .boolean) (dR + 11) 0 0 [.ref a0, .int l1] [(a0, .inr (1, [.int s_size, .int s_fault, .ref a_tape, .int s_at, .int s_token, .int s_tokenAt, .int s_value, .ref a_code, .int s_codeSize])), (a_tape, .inl (qT 0, 160, .inl s_tape)), (a_code, .inl (qT 0, 160, .inl s_code))] r.1 [(a0, .inr (1, [.int s_size, .int r.2.1, .ref a_tape, .int r.2.2.1, .int r.2.2.2.1, .int r.2.2.2.2.1, .int r.2.2.2.2.2.1, .ref a_code, .int r.2.2.2.2.2.2.1])), (a_tape, .inl (qT 0, 160, .inl s_tape)), (a_code, .inl (qT 0, 160, .inl r.2.2.2.2.2.2.2))] := by
  refine CZ_of hZ (by decide) (Nat.le_of_ble_eq_true rfl) ?_
  intro x e1 e2 e3 e4 e5 e6 hin X hR
  subst e1 e2 e3 e4
  exact t_X1_readSum X e6 hWd hE hEd hO hOd hR hf
def f_X1_readNot_95 (s_size : Int32) (s_fault : Int32) (s_at : Int32) (s_value : Int32) (s_codeSize : Int32) (s_tape : Nat → Int32) (s_code : Nat → Int32) (rE : RF) (rO : RF) (l1 : Int32) (k0 : Int32) : Option (Int32 × Int32 × Int32 × Int32 × Int32 × Int32 × Int32 × (Nat → Int32)) :=
  (f_X1_next s_size s_at s_value s_tape).bind (fun v97_2 =>
  (f_X1_readSum l1 s_size s_fault v97_2.1 v97_2.2.1 v97_2.2.2.1 v97_2.2.2.2 s_codeSize s_tape s_code rE rO).bind (fun v102_3 =>
  if v102_3.1 = 0 then (
  some (0, v102_3.2.1, v102_3.2.2.1, v102_3.2.2.2.1, v102_3.2.2.2.2.1, v102_3.2.2.2.2.2.1, v102_3.2.2.2.2.2.2.1, v102_3.2.2.2.2.2.2.2)) else (
  (f_X1_put k0 v102_3.2.2.2.2.2.2.1 v102_3.2.2.2.2.2.2.2).bind (fun v110_4 =>
  if v110_4.1 = 0 then (
  some (0, v102_3.2.1, v102_3.2.2.1, v102_3.2.2.2.1, v102_3.2.2.2.2.1, v102_3.2.2.2.2.2.1, v110_4.2.1, v110_4.2.2)) else (
  some (1, v102_3.2.1, v102_3.2.2.1, v102_3.2.2.2.1, v102_3.2.2.2.2.1, v102_3.2.2.2.2.2.1, v110_4.2.1, v110_4.2.2))))))
def f_X1_readNot_79 (s_size : Int32) (s_fault : Int32) (s_at : Int32) (s_token : Int32) (s_value : Int32) (s_codeSize : Int32) (s_tape : Nat → Int32) (s_code : Nat → Int32) (rE : RF) (rO : RF) (l1 : Int32) : Option (Int32 × Int32 × Int32 × Int32 × Int32 × Int32 × Int32 × (Nat → Int32)) :=
  if s_token = 60 then (
  f_X1_readNot_95 s_size s_fault s_at s_value s_codeSize s_tape s_code rE rO l1 (-17)) else (
  f_X1_readNot_95 s_size s_fault s_at s_value s_codeSize s_tape s_code rE rO l1 (-18))
def f_X1_readNot (l1 : Int32) (s_size : Int32) (s_fault : Int32) (s_at : Int32) (s_token : Int32) (s_tokenAt : Int32) (s_value : Int32) (s_codeSize : Int32) (s_tape : Nat → Int32) (s_code : Nat → Int32) (rE : RF) (rO : RF) (rN : RF) : Option (Int32 × Int32 × Int32 × Int32 × Int32 × Int32 × Int32 × (Nat → Int32)) :=
  if s_token = 265 then (
  if l1 < 5 then (
  (f_X1_next s_size s_at s_value s_tape).bind (fun v21_5 =>
  (rN (l1 + 1) s_size s_fault v21_5.1 v21_5.2.1 v21_5.2.2.1 v21_5.2.2.2 s_codeSize s_tape s_code).bind (fun v28_6 =>
  if v28_6.1 = 0 then (
  some (0, v28_6.2.1, v28_6.2.2.1, v28_6.2.2.2.1, v28_6.2.2.2.2.1, v28_6.2.2.2.2.2.1, v28_6.2.2.2.2.2.2.1, v28_6.2.2.2.2.2.2.2)) else (
  (f_X1_put (-12) v28_6.2.2.2.2.2.2.1 v28_6.2.2.2.2.2.2.2).bind (fun v37_7 =>
  if v37_7.1 = 0 then (
  some (0, v28_6.2.1, v28_6.2.2.1, v28_6.2.2.2.1, v28_6.2.2.2.2.1, v28_6.2.2.2.2.2.1, v37_7.2.1, v37_7.2.2)) else (
  some (1, v28_6.2.1, v28_6.2.2.1, v28_6.2.2.2.1, v28_6.2.2.2.2.1, v28_6.2.2.2.2.2.1, v37_7.2.1, v37_7.2.2))))))) else (
  (f_X1_fail s_tokenAt).bind (fun v16_8 =>
  if isZ v16_8.1 = true then some (v16_8.1, v16_8.2, s_at, s_token, s_tokenAt, s_value, s_codeSize, s_code) else none))) else (
  (f_X1_readSum l1 s_size s_fault s_at s_token s_tokenAt s_value s_codeSize s_tape s_code rE rO).bind (fun v51_1 =>
  if v51_1.1 = 0 then (
  some (0, v51_1.2.1, v51_1.2.2.1, v51_1.2.2.2.1, v51_1.2.2.2.2.1, v51_1.2.2.2.2.2.1, v51_1.2.2.2.2.2.2.1, v51_1.2.2.2.2.2.2.2)) else (
  if v51_1.2.2.2.1 = 60 then (
  f_X1_readNot_79 s_size v51_1.2.1 v51_1.2.2.1 v51_1.2.2.2.1 v51_1.2.2.2.2.2.1 v51_1.2.2.2.2.2.2.1 s_tape v51_1.2.2.2.2.2.2.2 rE rO l1) else (
  if v51_1.2.2.2.1 = 61 then (
  f_X1_readNot_79 s_size v51_1.2.1 v51_1.2.2.1 v51_1.2.2.2.1 v51_1.2.2.2.2.2.1 v51_1.2.2.2.2.2.2.1 s_tape v51_1.2.2.2.2.2.2.2 rE rO l1) else (
  some (1, v51_1.2.1, v51_1.2.2.1, v51_1.2.2.2.1, v51_1.2.2.2.2.1, v51_1.2.2.2.2.2.1, v51_1.2.2.2.2.2.2.1, v51_1.2.2.2.2.2.2.2))))))
set_option maxRecDepth 100000 in
set_option maxHeartbeats 4000000 in
theorem t_X1_readNot_95 {x : VX} {r : Int32 × Int32 × Int32 × Int32 × Int32 × Int32 × Int32 × (Nat → Int32)} {a0 : Nat} {a_tape : Nat} {a_code : Nat} {s_size : Int32} {s_fault : Int32} {s_at : Int32} {s_token : Int32} {s_tokenAt : Int32} {s_value : Int32} {s_codeSize : Int32} {s_tape : Nat → Int32} {s_code : Nat → Int32} {rE : RF} {dE : Nat} {dR : Nat} {rO : RF} {dO : Nat} {rN : RF} {dN : Nat} {l1 : Int32} {k0 : Int32} (X : Cx x cX1_readNot RX1 (dR + 12)) (hN : vxn x = 3) (hWd : WordsK (vxD x) (vxT x) (vxZ x)) (hE : RecC (vxl x) (vxD x) (vxT x) (vxZ x) rE yX1_readEither cX1_readEither 4 dE) (hEd : dE ≤ dR) (hO : RecC (vxl x) (vxD x) (vxT x) (vxZ x) rO yX1_readOne cX1_readOne 3 dO) (hOd : dO ≤ dR) (hNo : RecC (vxl x) (vxD x) (vxT x) (vxZ x) rN yX1_readNot cX1_readNot 3 dN) (hNod : dN ≤ dR) (hR : narrow .boolean (.int r.1) = .int r.1 → RetI x cX1_readNot 0 0 r.1 [(a0, .inr (1, [.int s_size, .int r.2.1, .ref a_tape, .int r.2.2.1, .int r.2.2.2.1, .int r.2.2.2.2.1, .int r.2.2.2.2.2.1, .ref a_code, .int r.2.2.2.2.2.2.1])), (a_tape, .inl (vxT x 0, 160, .inl s_tape)), (a_code, .inl (vxT x 0, 160, .inl r.2.2.2.2.2.2.2))]) (hf : f_X1_readNot_95 s_size s_fault s_at s_value s_codeSize s_tape s_code rE rO l1 k0 = some r) : V x 0 0 [(a0, .inr (1, [.int s_size, .int s_fault, .ref a_tape, .int s_at, .int s_token, .int s_tokenAt, .int s_value, .ref a_code, .int s_codeSize])), (a_tape, .inl (vxT x 0, 160, .inl s_tape)), (a_code, .inl (vxT x 0, 160, .inl s_code))] [(0, .ref a0), (1, .int l1)] 95 [.int k0] := by
  unfold f_X1_readNot_95 at hf
  refine v_istore_n X rfl (by rw [hN]; decide) (lv' := [(2, .int k0), (0, .ref a0), (1, .int l1)]) rfl dX1_readNot_95 ?_
  refine v_aload_n X 1 rfl dX1_readNot_96 ?_
  obtain ⟨v97_2, hv97_2, hf⟩ := bd_some hf
  refine v_callV X (c_X1_next X.2.2.2.2.2.2.2.1 hWd hv97_2) cwv_X1_40 rfl (by omega) ⟨Nat.zero_le _, Nat.zero_le _⟩ 0 rfl rfl [0, 1] [2] [1, 2, 0] rfl (by decide) (wr := [(a_code, .inl (vxT x 0, 160, .inl s_code))]) rfl (by decide) (by decide) (ws2 := [(a0, .inr (1, [.int s_size, .int s_fault, .ref a_tape, .int v97_2.1, .int v97_2.2.1, .int v97_2.2.2.1, .int v97_2.2.2.2, .ref a_code, .int s_codeSize])), (a_tape, .inl (vxT x 0, 160, .inl s_tape)), (a_code, .inl (vxT x 0, 160, .inl s_code))]) rfl (by decide) (Nat.le_of_ble_eq_true rfl) rfl dX1_readNot_97 ?_
  refine v_aload_n X 1 rfl dX1_readNot_100 ?_
  refine v_iload_n X 2 rfl dX1_readNot_101 ?_
  obtain ⟨v102_3, hv102_3, hf⟩ := bd_some hf
  refine v_callI X (c_X1_readSum X.2.2.2.2.2.2.2.1 hWd hE hEd hO hOd hv102_3) cwv_X1_74 rfl (by omega) ⟨Nat.zero_le _, Nat.zero_le _⟩ 0 rfl rfl [0, 1, 2] [] [0, 1, 2] rfl (by decide) (wr := []) rfl (by decide) (by decide) (ws2 := [(a0, .inr (1, [.int s_size, .int v102_3.2.1, .ref a_tape, .int v102_3.2.2.1, .int v102_3.2.2.2.1, .int v102_3.2.2.2.2.1, .int v102_3.2.2.2.2.2.1, .ref a_code, .int v102_3.2.2.2.2.2.2.1])), (a_tape, .inl (vxT x 0, 160, .inl s_tape)), (a_code, .inl (vxT x 0, 160, .inl v102_3.2.2.2.2.2.2.2))]) rfl (by decide) (Nat.le_of_ble_eq_true rfl) rfl dX1_readNot_102 ?_
  refine v_if_eq X (tgt := 120) hf (by decide) dX1_readNot_105 (fun c105 hf => ?_) (fun c105 hf => ?_)
  · refine v_iconst X (v := 0) (by decide) dX1_readNot_120 ?_
    obtain rfl := Option.some.inj hf
    exact v_iret (hR nz0) dX1_readNot_121
  · refine v_aload_n X 1 rfl dX1_readNot_108 ?_
    refine v_iload_n X 0 rfl dX1_readNot_109 ?_
    obtain ⟨v110_4, hv110_4, hf⟩ := bd_some hf
    refine v_callI X (c_X1_put X.2.2.2.2.2.2.2.1 hv110_4) cwv_X1_68 rfl (by omega) ⟨Nat.zero_le _, Nat.zero_le _⟩ 0 rfl rfl [0, 2] [1] [1, 0, 2] rfl (by decide) (wr := [(a_tape, .inl (vxT x 0, 160, .inl s_tape))]) rfl (by decide) (by decide) (ws2 := [(a0, .inr (1, [.int s_size, .int v102_3.2.1, .ref a_tape, .int v102_3.2.2.1, .int v102_3.2.2.2.1, .int v102_3.2.2.2.2.1, .int v102_3.2.2.2.2.2.1, .ref a_code, .int v110_4.2.1])), (a_tape, .inl (vxT x 0, 160, .inl s_tape)), (a_code, .inl (vxT x 0, 160, .inl v110_4.2.2))]) rfl (by decide) (Nat.le_of_ble_eq_true rfl) rfl dX1_readNot_110 ?_
    refine v_if_eq X (tgt := 120) hf (by decide) dX1_readNot_113 (fun c113 hf => ?_) (fun c113 hf => ?_)
    · refine v_iconst X (v := 0) (by decide) dX1_readNot_120 ?_
      obtain rfl := Option.some.inj hf
      exact v_iret (hR nz0) dX1_readNot_121
    · refine v_iconst X (v := 1) (by decide) dX1_readNot_116 ?_
      refine v_goto X (tgt := 121) (by decide) dX1_readNot_117 ?_
      obtain rfl := Option.some.inj hf
      exact v_iret (hR nz1) dX1_readNot_121
set_option maxRecDepth 100000 in
set_option maxHeartbeats 4000000 in
theorem t_X1_readNot_79 {x : VX} {r : Int32 × Int32 × Int32 × Int32 × Int32 × Int32 × Int32 × (Nat → Int32)} {a0 : Nat} {a_tape : Nat} {a_code : Nat} {s_size : Int32} {s_fault : Int32} {s_at : Int32} {s_token : Int32} {s_tokenAt : Int32} {s_value : Int32} {s_codeSize : Int32} {s_tape : Nat → Int32} {s_code : Nat → Int32} {rE : RF} {dE : Nat} {dR : Nat} {rO : RF} {dO : Nat} {rN : RF} {dN : Nat} {l1 : Int32} (X : Cx x cX1_readNot RX1 (dR + 12)) (hN : vxn x = 3) (hWd : WordsK (vxD x) (vxT x) (vxZ x)) (hE : RecC (vxl x) (vxD x) (vxT x) (vxZ x) rE yX1_readEither cX1_readEither 4 dE) (hEd : dE ≤ dR) (hO : RecC (vxl x) (vxD x) (vxT x) (vxZ x) rO yX1_readOne cX1_readOne 3 dO) (hOd : dO ≤ dR) (hNo : RecC (vxl x) (vxD x) (vxT x) (vxZ x) rN yX1_readNot cX1_readNot 3 dN) (hNod : dN ≤ dR) (hR : narrow .boolean (.int r.1) = .int r.1 → RetI x cX1_readNot 0 0 r.1 [(a0, .inr (1, [.int s_size, .int r.2.1, .ref a_tape, .int r.2.2.1, .int r.2.2.2.1, .int r.2.2.2.2.1, .int r.2.2.2.2.2.1, .ref a_code, .int r.2.2.2.2.2.2.1])), (a_tape, .inl (vxT x 0, 160, .inl s_tape)), (a_code, .inl (vxT x 0, 160, .inl r.2.2.2.2.2.2.2))]) (hf : f_X1_readNot_79 s_size s_fault s_at s_token s_value s_codeSize s_tape s_code rE rO l1 = some r) : V x 0 0 [(a0, .inr (1, [.int s_size, .int s_fault, .ref a_tape, .int s_at, .int s_token, .int s_tokenAt, .int s_value, .ref a_code, .int s_codeSize])), (a_tape, .inl (vxT x 0, 160, .inl s_tape)), (a_code, .inl (vxT x 0, 160, .inl s_code))] [(0, .ref a0), (1, .int l1)] 79 [] := by
  unfold f_X1_readNot_79 at hf
  refine v_aload_n X 0 rfl dX1_readNot_79 ?_
  refine v_get X xinX1 0 rfl rfl 4 (by decide) wd99 rfl rfl dX1_readNot_80 ?_
  refine v_bipush X (v := 60) (by decide) dX1_readNot_83 ?_
  refine v_icmp_ne X (tgt := 93) hf (by decide) dX1_readNot_85 (fun c85 hf => ?_) (fun c85 hf => ?_)
  · refine v_bipush X (v := (-18)) (by decide) dX1_readNot_93 ?_
    exact t_X1_readNot_95 X hN hWd hE hEd hO hOd hNo hNod hR hf
  · refine v_bipush X (v := (-17)) (by decide) dX1_readNot_88 ?_
    refine v_goto X (tgt := 95) (by decide) dX1_readNot_90 ?_
    exact t_X1_readNot_95 X hN hWd hE hEd hO hOd hNo hNod hR hf
set_option maxRecDepth 100000 in
set_option maxHeartbeats 4000000 in
theorem t_X1_readNot {x : VX} {r : Int32 × Int32 × Int32 × Int32 × Int32 × Int32 × Int32 × (Nat → Int32)} {a0 : Nat} {a_tape : Nat} {a_code : Nat} {s_size : Int32} {s_fault : Int32} {s_at : Int32} {s_token : Int32} {s_tokenAt : Int32} {s_value : Int32} {s_codeSize : Int32} {s_tape : Nat → Int32} {s_code : Nat → Int32} {rE : RF} {dE : Nat} {dR : Nat} {rO : RF} {dO : Nat} {rN : RF} {dN : Nat} {l1 : Int32} (X : Cx x cX1_readNot RX1 (dR + 12)) (hN : vxn x = 3) (hWd : WordsK (vxD x) (vxT x) (vxZ x)) (hE : RecC (vxl x) (vxD x) (vxT x) (vxZ x) rE yX1_readEither cX1_readEither 4 dE) (hEd : dE ≤ dR) (hO : RecC (vxl x) (vxD x) (vxT x) (vxZ x) rO yX1_readOne cX1_readOne 3 dO) (hOd : dO ≤ dR) (hNo : RecC (vxl x) (vxD x) (vxT x) (vxZ x) rN yX1_readNot cX1_readNot 3 dN) (hNod : dN ≤ dR) (hR : narrow .boolean (.int r.1) = .int r.1 → RetI x cX1_readNot 0 0 r.1 [(a0, .inr (1, [.int s_size, .int r.2.1, .ref a_tape, .int r.2.2.1, .int r.2.2.2.1, .int r.2.2.2.2.1, .int r.2.2.2.2.2.1, .ref a_code, .int r.2.2.2.2.2.2.1])), (a_tape, .inl (vxT x 0, 160, .inl s_tape)), (a_code, .inl (vxT x 0, 160, .inl r.2.2.2.2.2.2.2))]) (hf : f_X1_readNot l1 s_size s_fault s_at s_token s_tokenAt s_value s_codeSize s_tape s_code rE rO rN = some r) : V x 0 0 [(a0, .inr (1, [.int s_size, .int s_fault, .ref a_tape, .int s_at, .int s_token, .int s_tokenAt, .int s_value, .ref a_code, .int s_codeSize])), (a_tape, .inl (vxT x 0, 160, .inl s_tape)), (a_code, .inl (vxT x 0, 160, .inl s_code))] [(0, .ref a0), (1, .int l1)] 0 [] := by
  unfold f_X1_readNot at hf
  refine v_aload_n X 0 rfl dX1_readNot_0 ?_
  refine v_get X xinX1 0 rfl rfl 4 (by decide) wd99 rfl rfl dX1_readNot_1 ?_
  refine v_sipush X (v := 265) (by decide) dX1_readNot_4 ?_
  refine v_icmp_ne X (tgt := 49) hf (by decide) dX1_readNot_7 (fun c7 hf => ?_) (fun c7 hf => ?_)
  · refine v_aload_n X 0 rfl dX1_readNot_49 ?_
    refine v_iload_n X 1 rfl dX1_readNot_50 ?_
    obtain ⟨v51_1, hv51_1, hf⟩ := bd_some hf
    refine v_callI X (c_X1_readSum X.2.2.2.2.2.2.2.1 hWd hE hEd hO hOd hv51_1) cwv_X1_74 rfl (by omega) ⟨Nat.zero_le _, Nat.zero_le _⟩ 0 rfl rfl [0, 1, 2] [] [0, 1, 2] rfl (by decide) (wr := []) rfl (by decide) (by decide) (ws2 := [(a0, .inr (1, [.int s_size, .int v51_1.2.1, .ref a_tape, .int v51_1.2.2.1, .int v51_1.2.2.2.1, .int v51_1.2.2.2.2.1, .int v51_1.2.2.2.2.2.1, .ref a_code, .int v51_1.2.2.2.2.2.2.1])), (a_tape, .inl (vxT x 0, 160, .inl s_tape)), (a_code, .inl (vxT x 0, 160, .inl v51_1.2.2.2.2.2.2.2))]) rfl (by decide) (Nat.le_of_ble_eq_true rfl) rfl dX1_readNot_51 ?_
    refine v_if_ne X (tgt := 59) hf (by decide) dX1_readNot_54 (fun c54 hf => ?_) (fun c54 hf => ?_)
    · refine v_aload_n X 0 rfl dX1_readNot_59 ?_
      refine v_get X xinX1 0 rfl rfl 4 (by decide) wd99 rfl rfl dX1_readNot_60 ?_
      refine v_bipush X (v := 60) (by decide) dX1_readNot_63 ?_
      refine v_icmp_eq X (tgt := 79) hf (by decide) dX1_readNot_65 (fun c65 hf => ?_) (fun c65 hf => ?_)
      · exact t_X1_readNot_79 X hN hWd hE hEd hO hOd hNo hNod hR hf
      · refine v_aload_n X 0 rfl dX1_readNot_68 ?_
        refine v_get X xinX1 0 rfl rfl 4 (by decide) wd99 rfl rfl dX1_readNot_69 ?_
        refine v_bipush X (v := 61) (by decide) dX1_readNot_72 ?_
        refine v_icmp_eq X (tgt := 79) hf (by decide) dX1_readNot_74 (fun c74 hf => ?_) (fun c74 hf => ?_)
        · exact t_X1_readNot_79 X hN hWd hE hEd hO hOd hNo hNod hR hf
        · refine v_iconst X (v := 1) (by decide) dX1_readNot_77 ?_
          obtain rfl := Option.some.inj hf
          exact v_iret (hR nz1) dX1_readNot_78
    · refine v_iconst X (v := 0) (by decide) dX1_readNot_57 ?_
      obtain rfl := Option.some.inj hf
      exact v_iret (hR nz0) dX1_readNot_58
  · refine v_iload_n X 1 rfl dX1_readNot_10 ?_
    refine v_iconst X (v := 5) (by decide) dX1_readNot_11 ?_
    refine v_icmp_lt X (tgt := 20) hf (by decide) dX1_readNot_12 (fun c12 hf => ?_) (fun c12 hf => ?_)
    · refine v_aload_n X 0 rfl dX1_readNot_20 ?_
      obtain ⟨v21_5, hv21_5, hf⟩ := bd_some hf
      refine v_callV X (c_X1_next X.2.2.2.2.2.2.2.1 hWd hv21_5) cwv_X1_40 rfl (by omega) ⟨Nat.zero_le _, Nat.zero_le _⟩ 0 rfl rfl [0, 1] [2] [1, 2, 0] rfl (by decide) (wr := [(a_code, .inl (vxT x 0, 160, .inl s_code))]) rfl (by decide) (by decide) (ws2 := [(a0, .inr (1, [.int s_size, .int s_fault, .ref a_tape, .int v21_5.1, .int v21_5.2.1, .int v21_5.2.2.1, .int v21_5.2.2.2, .ref a_code, .int s_codeSize])), (a_tape, .inl (vxT x 0, 160, .inl s_tape)), (a_code, .inl (vxT x 0, 160, .inl s_code))]) rfl (by decide) (Nat.le_of_ble_eq_true rfl) rfl dX1_readNot_21 ?_
      refine v_aload_n X 0 rfl dX1_readNot_24 ?_
      refine v_iload_n X 1 rfl dX1_readNot_25 ?_
      refine v_iconst X (v := 1) (by decide) dX1_readNot_26 ?_
      refine v_iadd X dX1_readNot_27 ?_
      obtain ⟨v28_6, hv28_6, hf⟩ := bd_some hf
      refine v_callI X (hNo _ _ _ _ _ _ _ _ _ _ _ _ _ _ hv28_6) cwv_X1_71 rfl (by omega) ⟨Nat.zero_le _, Nat.zero_le _⟩ 0 rfl rfl [0, 1, 2] [] [0, 1, 2] rfl (by decide) (wr := []) rfl (by decide) (by decide) (ws2 := [(a0, .inr (1, [.int s_size, .int v28_6.2.1, .ref a_tape, .int v28_6.2.2.1, .int v28_6.2.2.2.1, .int v28_6.2.2.2.2.1, .int v28_6.2.2.2.2.2.1, .ref a_code, .int v28_6.2.2.2.2.2.2.1])), (a_tape, .inl (vxT x 0, 160, .inl s_tape)), (a_code, .inl (vxT x 0, 160, .inl v28_6.2.2.2.2.2.2.2))]) rfl (by decide) (Nat.le_of_ble_eq_true rfl) rfl dX1_readNot_28 ?_
      refine v_if_eq X (tgt := 47) hf (by decide) dX1_readNot_31 (fun c31 hf => ?_) (fun c31 hf => ?_)
      · refine v_iconst X (v := 0) (by decide) dX1_readNot_47 ?_
        obtain rfl := Option.some.inj hf
        exact v_iret (hR nz0) dX1_readNot_48
      · refine v_aload_n X 0 rfl dX1_readNot_34 ?_
        refine v_bipush X (v := (-12)) (by decide) dX1_readNot_35 ?_
        obtain ⟨v37_7, hv37_7, hf⟩ := bd_some hf
        refine v_callI X (c_X1_put X.2.2.2.2.2.2.2.1 hv37_7) cwv_X1_68 rfl (by omega) ⟨Nat.zero_le _, Nat.zero_le _⟩ 0 rfl rfl [0, 2] [1] [1, 0, 2] rfl (by decide) (wr := [(a_tape, .inl (vxT x 0, 160, .inl s_tape))]) rfl (by decide) (by decide) (ws2 := [(a0, .inr (1, [.int s_size, .int v28_6.2.1, .ref a_tape, .int v28_6.2.2.1, .int v28_6.2.2.2.1, .int v28_6.2.2.2.2.1, .int v28_6.2.2.2.2.2.1, .ref a_code, .int v37_7.2.1])), (a_tape, .inl (vxT x 0, 160, .inl s_tape)), (a_code, .inl (vxT x 0, 160, .inl v37_7.2.2))]) rfl (by decide) (Nat.le_of_ble_eq_true rfl) rfl dX1_readNot_37 ?_
        refine v_if_eq X (tgt := 47) hf (by decide) dX1_readNot_40 (fun c40 hf => ?_) (fun c40 hf => ?_)
        · refine v_iconst X (v := 0) (by decide) dX1_readNot_47 ?_
          obtain rfl := Option.some.inj hf
          exact v_iret (hR nz0) dX1_readNot_48
        · refine v_iconst X (v := 1) (by decide) dX1_readNot_43 ?_
          refine v_goto X (tgt := 48) (by decide) dX1_readNot_44 ?_
          obtain rfl := Option.some.inj hf
          exact v_iret (hR nz1) dX1_readNot_48
    · refine v_aload_n X 0 rfl dX1_readNot_15 ?_
      obtain ⟨v16_8, hv16_8, hf⟩ := bd_some hf
      refine v_callI X (c_X1_fail X.2.2.2.2.2.2.2.1 hv16_8) cwv_X1_61 rfl (by omega) ⟨Nat.zero_le _, Nat.zero_le _⟩ 0 rfl rfl [0] [1, 2] [2, 0, 1] rfl (by decide) (wr := [(a_tape, .inl (vxT x 0, 160, .inl s_tape)), (a_code, .inl (vxT x 0, 160, .inl s_code))]) rfl (by decide) (by decide) (ws2 := [(a0, .inr (1, [.int s_size, .int v16_8.2, .ref a_tape, .int s_at, .int s_token, .int s_tokenAt, .int s_value, .ref a_code, .int s_codeSize])), (a_tape, .inl (vxT x 0, 160, .inl s_tape)), (a_code, .inl (vxT x 0, 160, .inl s_code))]) rfl (by decide) (Nat.le_of_ble_eq_true rfl) rfl dX1_readNot_16 ?_
      obtain ⟨hz, hf⟩ := if_some hf
      obtain rfl := Option.some.inj hf
      exact v_iret (hR (isZ_n hz)) dX1_readNot_19
set_option maxRecDepth 100000 in
set_option maxHeartbeats 4000000 in
theorem c_X1_readNot {l : Launch} {D : va_G} {qT : Nat → ClassId} {Z : (Nat → Prop) → State → Heap → Prop} {r : Int32 × Int32 × Int32 × Int32 × Int32 × Int32 × Int32 × (Nat → Int32)} {a0 : Nat} {a_tape : Nat} {a_code : Nat} {s_size : Int32} {s_fault : Int32} {s_at : Int32} {s_token : Int32} {s_tokenAt : Int32} {s_value : Int32} {s_codeSize : Int32} {s_tape : Nat → Int32} {s_code : Nat → Int32} {rE : RF} {dE : Nat} {dR : Nat} {rO : RF} {dO : Nat} {rN : RF} {dN : Nat} {l1 : Int32} (hZ : ZOK Z) (hWd : WordsK D qT Z) (hE : RecC l D qT Z rE yX1_readEither cX1_readEither 4 dE) (hEd : dE ≤ dR) (hO : RecC l D qT Z rO yX1_readOne cX1_readOne 3 dO) (hOd : dO ≤ dR) (hNo : RecC l D qT Z rN yX1_readNot cX1_readNot 3 dN) (hNod : dN ≤ dR) (hf : f_X1_readNot l1 s_size s_fault s_at s_token s_tokenAt s_value s_codeSize s_tape s_code rE rO rN = some r) :
    CI l D qT Z yX1_readNot cX1_readNot 3 (some .boolean) (dR + 12) 0 0 [.ref a0, .int l1] [(a0, .inr (1, [.int s_size, .int s_fault, .ref a_tape, .int s_at, .int s_token, .int s_tokenAt, .int s_value, .ref a_code, .int s_codeSize])), (a_tape, .inl (qT 0, 160, .inl s_tape)), (a_code, .inl (qT 0, 160, .inl s_code))] r.1 [(a0, .inr (1, [.int s_size, .int r.2.1, .ref a_tape, .int r.2.2.1, .int r.2.2.2.1, .int r.2.2.2.2.1, .int r.2.2.2.2.2.1, .ref a_code, .int r.2.2.2.2.2.2.1])), (a_tape, .inl (qT 0, 160, .inl s_tape)), (a_code, .inl (qT 0, 160, .inl r.2.2.2.2.2.2.2))] := by
  refine CZ_of hZ (by decide) (Nat.le_of_ble_eq_true rfl) ?_
  intro x e1 e2 e3 e4 e5 e6 hin X hR
  subst e1 e2 e3 e4
  exact t_X1_readNot X e6 hWd hE hEd hO hOd hNo hNod hR hf
def f_X1_readBoth_8 (s_size : Int32) (s_tape : Nat → Int32) (rE : RF) (rO : RF) (rN : RF) (l1 : Int32) (kp_8 : Int32 → Int32 → Int32 → Int32 → Int32 → Int32 → Int32 → Int32 → (Nat → Int32) → Option (Int32 × Int32 × Int32 × Int32 × Int32 × Int32 × Int32 × (Nat → Int32))) (l2 : Int32) (l3 : Int32) (s_fault : Int32) (s_at : Int32) (s_token : Int32) (s_tokenAt : Int32) (s_value : Int32) (s_codeSize : Int32) (s_code : Nat → Int32) : Option (Int32 × Int32 × Int32 × Int32 × Int32 × Int32 × Int32 × (Nat → Int32)) :=
  if 160 ≤ l3 then (
  if isZ l2 = true then some (l2, s_fault, s_at, s_token, s_tokenAt, s_value, s_codeSize, s_code) else none) else (
  if l2 = 0 then (
  if isZ l2 = true then some (l2, s_fault, s_at, s_token, s_tokenAt, s_value, s_codeSize, s_code) else none) else (
  if s_token = 264 then (
  (f_X1_next s_size s_at s_value s_tape).bind (fun v30_2 =>
  (f_X1_readNot l1 s_size s_fault v30_2.1 v30_2.2.1 v30_2.2.2.1 v30_2.2.2.2 s_codeSize s_tape s_code rE rO rN).bind (fun v35_3 =>
  if v35_3.1 = 0 then (
  kp_8 0 (l3 + 1) v35_3.2.1 v35_3.2.2.1 v35_3.2.2.2.1 v35_3.2.2.2.2.1 v35_3.2.2.2.2.2.1 v35_3.2.2.2.2.2.2.1 v35_3.2.2.2.2.2.2.2) else (
  (f_X1_put (-11) v35_3.2.2.2.2.2.2.1 v35_3.2.2.2.2.2.2.2).bind (fun v44_4 =>
  if v44_4.1 = 0 then (
  kp_8 0 (l3 + 1) v35_3.2.1 v35_3.2.2.1 v35_3.2.2.2.1 v35_3.2.2.2.2.1 v35_3.2.2.2.2.2.1 v44_4.2.1 v44_4.2.2) else (
  kp_8 1 (l3 + 1) v35_3.2.1 v35_3.2.2.1 v35_3.2.2.2.1 v35_3.2.2.2.2.1 v35_3.2.2.2.2.2.1 v44_4.2.1 v44_4.2.2)))))) else (
  if isZ l2 = true then some (l2, s_fault, s_at, s_token, s_tokenAt, s_value, s_codeSize, s_code) else none)))
def f_X1_readBoth (l1 : Int32) (s_size : Int32) (s_fault : Int32) (s_at : Int32) (s_token : Int32) (s_tokenAt : Int32) (s_value : Int32) (s_codeSize : Int32) (s_tape : Nat → Int32) (s_code : Nat → Int32) (rE : RF) (rO : RF) (rN : RF) : Option (Int32 × Int32 × Int32 × Int32 × Int32 × Int32 × Int32 × (Nat → Int32)) :=
  (f_X1_readNot l1 s_size s_fault s_at s_token s_tokenAt s_value s_codeSize s_tape s_code rE rO rN).bind (fun v2_1 =>
  lq9 (f_X1_readBoth_8 s_size s_tape rE rO rN l1) 200 v2_1.1 0 v2_1.2.1 v2_1.2.2.1 v2_1.2.2.2.1 v2_1.2.2.2.2.1 v2_1.2.2.2.2.2.1 v2_1.2.2.2.2.2.2.1 v2_1.2.2.2.2.2.2.2)
set_option maxRecDepth 100000 in
set_option maxHeartbeats 4000000 in
theorem t_X1_readBoth_8 {x : VX} {r : Int32 × Int32 × Int32 × Int32 × Int32 × Int32 × Int32 × (Nat → Int32)} {a0 : Nat} {a_tape : Nat} {a_code : Nat} {s_size : Int32} {s_tape : Nat → Int32} {rE : RF} {dE : Nat} {dR : Nat} {rO : RF} {dO : Nat} {rN : RF} {dN : Nat} {l1 : Int32} (X : Cx x cX1_readBoth RX1 (dR + 13)) (hN : vxn x = 4) (hWd : WordsK (vxD x) (vxT x) (vxZ x)) (hE : RecC (vxl x) (vxD x) (vxT x) (vxZ x) rE yX1_readEither cX1_readEither 4 dE) (hEd : dE ≤ dR) (hO : RecC (vxl x) (vxD x) (vxT x) (vxZ x) rO yX1_readOne cX1_readOne 3 dO) (hOd : dO ≤ dR) (hNo : RecC (vxl x) (vxD x) (vxT x) (vxZ x) rN yX1_readNot cX1_readNot 3 dN) (hNod : dN ≤ dR) (hR : narrow .boolean (.int r.1) = .int r.1 → RetI x cX1_readBoth 0 0 r.1 [(a0, .inr (1, [.int s_size, .int r.2.1, .ref a_tape, .int r.2.2.1, .int r.2.2.2.1, .int r.2.2.2.2.1, .int r.2.2.2.2.2.1, .ref a_code, .int r.2.2.2.2.2.2.1])), (a_tape, .inl (vxT x 0, 160, .inl s_tape)), (a_code, .inl (vxT x 0, 160, .inl r.2.2.2.2.2.2.2))]) :
    ∀ (fu : Nat) (l2 : Int32) (l3 : Int32) (s_fault : Int32) (s_at : Int32) (s_token : Int32) (s_tokenAt : Int32) (s_value : Int32) (s_codeSize : Int32) (s_code : Nat → Int32), lq9 (f_X1_readBoth_8 s_size s_tape rE rO rN l1) fu l2 l3 s_fault s_at s_token s_tokenAt s_value s_codeSize s_code = some r → V x 0 0 [(a0, .inr (1, [.int s_size, .int s_fault, .ref a_tape, .int s_at, .int s_token, .int s_tokenAt, .int s_value, .ref a_code, .int s_codeSize])), (a_tape, .inl (vxT x 0, 160, .inl s_tape)), (a_code, .inl (vxT x 0, 160, .inl s_code))] [(0, .ref a0), (1, .int l1), (2, .int l2), (3, .int l3)] 8 [] := by
  refine lq9_V (G := fun l2 l3 s_fault s_at s_token s_tokenAt s_value s_codeSize s_code => V x 0 0 [(a0, .inr (1, [.int s_size, .int s_fault, .ref a_tape, .int s_at, .int s_token, .int s_tokenAt, .int s_value, .ref a_code, .int s_codeSize])), (a_tape, .inl (vxT x 0, 160, .inl s_tape)), (a_code, .inl (vxT x 0, 160, .inl s_code))] [(0, .ref a0), (1, .int l1), (2, .int l2), (3, .int l3)] 8 []) ?_
  intro kp_8 hk_8 l2 l3 s_fault s_at s_token s_tokenAt s_value s_codeSize s_code hf
  unfold f_X1_readBoth_8 at hf
  refine v_iload_n X 3 rfl dX1_readBoth_8 ?_
  refine v_sipush X (v := 160) (by decide) dX1_readBoth_9 ?_
  refine v_icmp_ge X (tgt := 62) hf (by decide) dX1_readBoth_12 (fun c12 hf => ?_) (fun c12 hf => ?_)
  · refine v_iload_n X 2 rfl dX1_readBoth_62 ?_
    obtain ⟨hz, hf⟩ := if_some hf
    obtain rfl := Option.some.inj hf
    exact v_iret (hR (isZ_n hz)) dX1_readBoth_63
  · refine v_iload_n X 2 rfl dX1_readBoth_15 ?_
    refine v_if_eq X (tgt := 62) hf (by decide) dX1_readBoth_16 (fun c16 hf => ?_) (fun c16 hf => ?_)
    · refine v_iload_n X 2 rfl dX1_readBoth_62 ?_
      obtain ⟨hz, hf⟩ := if_some hf
      obtain rfl := Option.some.inj hf
      exact v_iret (hR (isZ_n hz)) dX1_readBoth_63
    · refine v_aload_n X 0 rfl dX1_readBoth_19 ?_
      refine v_get X xinX1 0 rfl rfl 4 (by decide) wd99 rfl rfl dX1_readBoth_20 ?_
      refine v_sipush X (v := 264) (by decide) dX1_readBoth_23 ?_
      refine v_icmp_ne X (tgt := 62) hf (by decide) dX1_readBoth_26 (fun c26 hf => ?_) (fun c26 hf => ?_)
      · refine v_iload_n X 2 rfl dX1_readBoth_62 ?_
        obtain ⟨hz, hf⟩ := if_some hf
        obtain rfl := Option.some.inj hf
        exact v_iret (hR (isZ_n hz)) dX1_readBoth_63
      · refine v_aload_n X 0 rfl dX1_readBoth_29 ?_
        obtain ⟨v30_2, hv30_2, hf⟩ := bd_some hf
        refine v_callV X (c_X1_next X.2.2.2.2.2.2.2.1 hWd hv30_2) cwv_X1_40 rfl (by omega) ⟨Nat.zero_le _, Nat.zero_le _⟩ 0 rfl rfl [0, 1] [2] [1, 2, 0] rfl (by decide) (wr := [(a_code, .inl (vxT x 0, 160, .inl s_code))]) rfl (by decide) (by decide) (ws2 := [(a0, .inr (1, [.int s_size, .int s_fault, .ref a_tape, .int v30_2.1, .int v30_2.2.1, .int v30_2.2.2.1, .int v30_2.2.2.2, .ref a_code, .int s_codeSize])), (a_tape, .inl (vxT x 0, 160, .inl s_tape)), (a_code, .inl (vxT x 0, 160, .inl s_code))]) rfl (by decide) (Nat.le_of_ble_eq_true rfl) rfl dX1_readBoth_30 ?_
        refine v_aload_n X 0 rfl dX1_readBoth_33 ?_
        refine v_iload_n X 1 rfl dX1_readBoth_34 ?_
        obtain ⟨v35_3, hv35_3, hf⟩ := bd_some hf
        refine v_callI X (c_X1_readNot X.2.2.2.2.2.2.2.1 hWd hE hEd hO hOd hNo hNod hv35_3) cwv_X1_71 rfl (by omega) ⟨Nat.zero_le _, Nat.zero_le _⟩ 0 rfl rfl [0, 1, 2] [] [0, 1, 2] rfl (by decide) (wr := []) rfl (by decide) (by decide) (ws2 := [(a0, .inr (1, [.int s_size, .int v35_3.2.1, .ref a_tape, .int v35_3.2.2.1, .int v35_3.2.2.2.1, .int v35_3.2.2.2.2.1, .int v35_3.2.2.2.2.2.1, .ref a_code, .int v35_3.2.2.2.2.2.2.1])), (a_tape, .inl (vxT x 0, 160, .inl s_tape)), (a_code, .inl (vxT x 0, 160, .inl v35_3.2.2.2.2.2.2.2))]) rfl (by decide) (Nat.le_of_ble_eq_true rfl) rfl dX1_readBoth_35 ?_
        refine v_if_eq X (tgt := 54) hf (by decide) dX1_readBoth_38 (fun c38 hf => ?_) (fun c38 hf => ?_)
        · refine v_iconst X (v := 0) (by decide) dX1_readBoth_54 ?_
          refine v_istore_n X rfl (by rw [hN]; decide) (lv' := [(2, .int 0), (0, .ref a0), (1, .int l1), (3, .int l3)]) rfl dX1_readBoth_55 ?_
          refine v_iinc X 3 rfl (v := (l3 + 1)) rfl (by rw [hN]; decide) (lv' := [(3, .int (l3 + 1)), (2, .int 0), (0, .ref a0), (1, .int l1)]) rfl dX1_readBoth_56 ?_
          refine v_goto X (tgt := 8) (by decide) dX1_readBoth_59 ?_
          refine v_lv [2, 3, 1, 0] rfl ?_
          exact hk_8 _ _ _ _ _ _ _ _ _ hf
        · refine v_aload_n X 0 rfl dX1_readBoth_41 ?_
          refine v_bipush X (v := (-11)) (by decide) dX1_readBoth_42 ?_
          obtain ⟨v44_4, hv44_4, hf⟩ := bd_some hf
          refine v_callI X (c_X1_put X.2.2.2.2.2.2.2.1 hv44_4) cwv_X1_68 rfl (by omega) ⟨Nat.zero_le _, Nat.zero_le _⟩ 0 rfl rfl [0, 2] [1] [1, 0, 2] rfl (by decide) (wr := [(a_tape, .inl (vxT x 0, 160, .inl s_tape))]) rfl (by decide) (by decide) (ws2 := [(a0, .inr (1, [.int s_size, .int v35_3.2.1, .ref a_tape, .int v35_3.2.2.1, .int v35_3.2.2.2.1, .int v35_3.2.2.2.2.1, .int v35_3.2.2.2.2.2.1, .ref a_code, .int v44_4.2.1])), (a_tape, .inl (vxT x 0, 160, .inl s_tape)), (a_code, .inl (vxT x 0, 160, .inl v44_4.2.2))]) rfl (by decide) (Nat.le_of_ble_eq_true rfl) rfl dX1_readBoth_44 ?_
          refine v_if_eq X (tgt := 54) hf (by decide) dX1_readBoth_47 (fun c47 hf => ?_) (fun c47 hf => ?_)
          · refine v_iconst X (v := 0) (by decide) dX1_readBoth_54 ?_
            refine v_istore_n X rfl (by rw [hN]; decide) (lv' := [(2, .int 0), (0, .ref a0), (1, .int l1), (3, .int l3)]) rfl dX1_readBoth_55 ?_
            refine v_iinc X 3 rfl (v := (l3 + 1)) rfl (by rw [hN]; decide) (lv' := [(3, .int (l3 + 1)), (2, .int 0), (0, .ref a0), (1, .int l1)]) rfl dX1_readBoth_56 ?_
            refine v_goto X (tgt := 8) (by decide) dX1_readBoth_59 ?_
            refine v_lv [2, 3, 1, 0] rfl ?_
            exact hk_8 _ _ _ _ _ _ _ _ _ hf
          · refine v_iconst X (v := 1) (by decide) dX1_readBoth_50 ?_
            refine v_goto X (tgt := 55) (by decide) dX1_readBoth_51 ?_
            refine v_istore_n X rfl (by rw [hN]; decide) (lv' := [(2, .int 1), (0, .ref a0), (1, .int l1), (3, .int l3)]) rfl dX1_readBoth_55 ?_
            refine v_iinc X 3 rfl (v := (l3 + 1)) rfl (by rw [hN]; decide) (lv' := [(3, .int (l3 + 1)), (2, .int 1), (0, .ref a0), (1, .int l1)]) rfl dX1_readBoth_56 ?_
            refine v_goto X (tgt := 8) (by decide) dX1_readBoth_59 ?_
            refine v_lv [2, 3, 1, 0] rfl ?_
            exact hk_8 _ _ _ _ _ _ _ _ _ hf
set_option maxRecDepth 100000 in
set_option maxHeartbeats 4000000 in
theorem t_X1_readBoth {x : VX} {r : Int32 × Int32 × Int32 × Int32 × Int32 × Int32 × Int32 × (Nat → Int32)} {a0 : Nat} {a_tape : Nat} {a_code : Nat} {s_size : Int32} {s_fault : Int32} {s_at : Int32} {s_token : Int32} {s_tokenAt : Int32} {s_value : Int32} {s_codeSize : Int32} {s_tape : Nat → Int32} {s_code : Nat → Int32} {rE : RF} {dE : Nat} {dR : Nat} {rO : RF} {dO : Nat} {rN : RF} {dN : Nat} {l1 : Int32} (X : Cx x cX1_readBoth RX1 (dR + 13)) (hN : vxn x = 4) (hWd : WordsK (vxD x) (vxT x) (vxZ x)) (hE : RecC (vxl x) (vxD x) (vxT x) (vxZ x) rE yX1_readEither cX1_readEither 4 dE) (hEd : dE ≤ dR) (hO : RecC (vxl x) (vxD x) (vxT x) (vxZ x) rO yX1_readOne cX1_readOne 3 dO) (hOd : dO ≤ dR) (hNo : RecC (vxl x) (vxD x) (vxT x) (vxZ x) rN yX1_readNot cX1_readNot 3 dN) (hNod : dN ≤ dR) (hR : narrow .boolean (.int r.1) = .int r.1 → RetI x cX1_readBoth 0 0 r.1 [(a0, .inr (1, [.int s_size, .int r.2.1, .ref a_tape, .int r.2.2.1, .int r.2.2.2.1, .int r.2.2.2.2.1, .int r.2.2.2.2.2.1, .ref a_code, .int r.2.2.2.2.2.2.1])), (a_tape, .inl (vxT x 0, 160, .inl s_tape)), (a_code, .inl (vxT x 0, 160, .inl r.2.2.2.2.2.2.2))]) (hf : f_X1_readBoth l1 s_size s_fault s_at s_token s_tokenAt s_value s_codeSize s_tape s_code rE rO rN = some r) : V x 0 0 [(a0, .inr (1, [.int s_size, .int s_fault, .ref a_tape, .int s_at, .int s_token, .int s_tokenAt, .int s_value, .ref a_code, .int s_codeSize])), (a_tape, .inl (vxT x 0, 160, .inl s_tape)), (a_code, .inl (vxT x 0, 160, .inl s_code))] [(0, .ref a0), (1, .int l1)] 0 [] := by
  unfold f_X1_readBoth at hf
  refine v_aload_n X 0 rfl dX1_readBoth_0 ?_
  refine v_iload_n X 1 rfl dX1_readBoth_1 ?_
  obtain ⟨v2_1, hv2_1, hf⟩ := bd_some hf
  refine v_callI X (c_X1_readNot X.2.2.2.2.2.2.2.1 hWd hE hEd hO hOd hNo hNod hv2_1) cwv_X1_71 rfl (by omega) ⟨Nat.zero_le _, Nat.zero_le _⟩ 0 rfl rfl [0, 1, 2] [] [0, 1, 2] rfl (by decide) (wr := []) rfl (by decide) (by decide) (ws2 := [(a0, .inr (1, [.int s_size, .int v2_1.2.1, .ref a_tape, .int v2_1.2.2.1, .int v2_1.2.2.2.1, .int v2_1.2.2.2.2.1, .int v2_1.2.2.2.2.2.1, .ref a_code, .int v2_1.2.2.2.2.2.2.1])), (a_tape, .inl (vxT x 0, 160, .inl s_tape)), (a_code, .inl (vxT x 0, 160, .inl v2_1.2.2.2.2.2.2.2))]) rfl (by decide) (Nat.le_of_ble_eq_true rfl) rfl dX1_readBoth_2 ?_
  refine v_istore_n X rfl (by rw [hN]; decide) (lv' := [(2, .int v2_1.1), (0, .ref a0), (1, .int l1)]) rfl dX1_readBoth_5 ?_
  refine v_iconst X (v := 0) (by decide) dX1_readBoth_6 ?_
  refine v_istore_n X rfl (by rw [hN]; decide) (lv' := [(3, .int 0), (2, .int v2_1.1), (0, .ref a0), (1, .int l1)]) rfl dX1_readBoth_7 ?_
  refine v_lv [2, 3, 1, 0] rfl ?_
  exact t_X1_readBoth_8 X hN hWd hE hEd hO hOd hNo hNod hR 200 _ _ _ _ _ _ _ _ _ hf
set_option maxRecDepth 100000 in
set_option maxHeartbeats 4000000 in
theorem c_X1_readBoth {l : Launch} {D : va_G} {qT : Nat → ClassId} {Z : (Nat → Prop) → State → Heap → Prop} {r : Int32 × Int32 × Int32 × Int32 × Int32 × Int32 × Int32 × (Nat → Int32)} {a0 : Nat} {a_tape : Nat} {a_code : Nat} {s_size : Int32} {s_fault : Int32} {s_at : Int32} {s_token : Int32} {s_tokenAt : Int32} {s_value : Int32} {s_codeSize : Int32} {s_tape : Nat → Int32} {s_code : Nat → Int32} {rE : RF} {dE : Nat} {dR : Nat} {rO : RF} {dO : Nat} {rN : RF} {dN : Nat} {l1 : Int32} (hZ : ZOK Z) (hWd : WordsK D qT Z) (hE : RecC l D qT Z rE yX1_readEither cX1_readEither 4 dE) (hEd : dE ≤ dR) (hO : RecC l D qT Z rO yX1_readOne cX1_readOne 3 dO) (hOd : dO ≤ dR) (hNo : RecC l D qT Z rN yX1_readNot cX1_readNot 3 dN) (hNod : dN ≤ dR) (hf : f_X1_readBoth l1 s_size s_fault s_at s_token s_tokenAt s_value s_codeSize s_tape s_code rE rO rN = some r) :
    CI l D qT Z yX1_readBoth cX1_readBoth 4 (some .boolean) (dR + 13) 0 0 [.ref a0, .int l1] [(a0, .inr (1, [.int s_size, .int s_fault, .ref a_tape, .int s_at, .int s_token, .int s_tokenAt, .int s_value, .ref a_code, .int s_codeSize])), (a_tape, .inl (qT 0, 160, .inl s_tape)), (a_code, .inl (qT 0, 160, .inl s_code))] r.1 [(a0, .inr (1, [.int s_size, .int r.2.1, .ref a_tape, .int r.2.2.1, .int r.2.2.2.1, .int r.2.2.2.2.1, .int r.2.2.2.2.2.1, .ref a_code, .int r.2.2.2.2.2.2.1])), (a_tape, .inl (qT 0, 160, .inl s_tape)), (a_code, .inl (qT 0, 160, .inl r.2.2.2.2.2.2.2))] := by
  refine CZ_of hZ (by decide) (Nat.le_of_ble_eq_true rfl) ?_
  intro x e1 e2 e3 e4 e5 e6 hin X hR
  subst e1 e2 e3 e4
  exact t_X1_readBoth X e6 hWd hE hEd hO hOd hNo hNod hR hf
def f_X1_readEither_8 (s_size : Int32) (s_tape : Nat → Int32) (rE : RF) (rO : RF) (rN : RF) (l1 : Int32) (kp_8 : Int32 → Int32 → Int32 → Int32 → Int32 → Int32 → Int32 → Int32 → (Nat → Int32) → Option (Int32 × Int32 × Int32 × Int32 × Int32 × Int32 × Int32 × (Nat → Int32))) (l2 : Int32) (l3 : Int32) (s_fault : Int32) (s_at : Int32) (s_token : Int32) (s_tokenAt : Int32) (s_value : Int32) (s_codeSize : Int32) (s_code : Nat → Int32) : Option (Int32 × Int32 × Int32 × Int32 × Int32 × Int32 × Int32 × (Nat → Int32)) :=
  if 160 ≤ l3 then (
  if isZ l2 = true then some (l2, s_fault, s_at, s_token, s_tokenAt, s_value, s_codeSize, s_code) else none) else (
  if l2 = 0 then (
  if isZ l2 = true then some (l2, s_fault, s_at, s_token, s_tokenAt, s_value, s_codeSize, s_code) else none) else (
  if s_token = 263 then (
  (f_X1_next s_size s_at s_value s_tape).bind (fun v30_2 =>
  (f_X1_readBoth l1 s_size s_fault v30_2.1 v30_2.2.1 v30_2.2.2.1 v30_2.2.2.2 s_codeSize s_tape s_code rE rO rN).bind (fun v35_3 =>
  if v35_3.1 = 0 then (
  kp_8 0 (l3 + 1) v35_3.2.1 v35_3.2.2.1 v35_3.2.2.2.1 v35_3.2.2.2.2.1 v35_3.2.2.2.2.2.1 v35_3.2.2.2.2.2.2.1 v35_3.2.2.2.2.2.2.2) else (
  (f_X1_put (-10) v35_3.2.2.2.2.2.2.1 v35_3.2.2.2.2.2.2.2).bind (fun v44_4 =>
  if v44_4.1 = 0 then (
  kp_8 0 (l3 + 1) v35_3.2.1 v35_3.2.2.1 v35_3.2.2.2.1 v35_3.2.2.2.2.1 v35_3.2.2.2.2.2.1 v44_4.2.1 v44_4.2.2) else (
  kp_8 1 (l3 + 1) v35_3.2.1 v35_3.2.2.1 v35_3.2.2.2.1 v35_3.2.2.2.2.1 v35_3.2.2.2.2.2.1 v44_4.2.1 v44_4.2.2)))))) else (
  if isZ l2 = true then some (l2, s_fault, s_at, s_token, s_tokenAt, s_value, s_codeSize, s_code) else none)))
def f_X1_readEither (l1 : Int32) (s_size : Int32) (s_fault : Int32) (s_at : Int32) (s_token : Int32) (s_tokenAt : Int32) (s_value : Int32) (s_codeSize : Int32) (s_tape : Nat → Int32) (s_code : Nat → Int32) (rE : RF) (rO : RF) (rN : RF) : Option (Int32 × Int32 × Int32 × Int32 × Int32 × Int32 × Int32 × (Nat → Int32)) :=
  (f_X1_readBoth l1 s_size s_fault s_at s_token s_tokenAt s_value s_codeSize s_tape s_code rE rO rN).bind (fun v2_1 =>
  lq9 (f_X1_readEither_8 s_size s_tape rE rO rN l1) 200 v2_1.1 0 v2_1.2.1 v2_1.2.2.1 v2_1.2.2.2.1 v2_1.2.2.2.2.1 v2_1.2.2.2.2.2.1 v2_1.2.2.2.2.2.2.1 v2_1.2.2.2.2.2.2.2)
set_option maxRecDepth 100000 in
set_option maxHeartbeats 4000000 in
theorem t_X1_readEither_8 {x : VX} {r : Int32 × Int32 × Int32 × Int32 × Int32 × Int32 × Int32 × (Nat → Int32)} {a0 : Nat} {a_tape : Nat} {a_code : Nat} {s_size : Int32} {s_tape : Nat → Int32} {rE : RF} {dE : Nat} {dR : Nat} {rO : RF} {dO : Nat} {rN : RF} {dN : Nat} {l1 : Int32} (X : Cx x cX1_readEither RX1 (dR + 14)) (hN : vxn x = 4) (hWd : WordsK (vxD x) (vxT x) (vxZ x)) (hE : RecC (vxl x) (vxD x) (vxT x) (vxZ x) rE yX1_readEither cX1_readEither 4 dE) (hEd : dE ≤ dR) (hO : RecC (vxl x) (vxD x) (vxT x) (vxZ x) rO yX1_readOne cX1_readOne 3 dO) (hOd : dO ≤ dR) (hNo : RecC (vxl x) (vxD x) (vxT x) (vxZ x) rN yX1_readNot cX1_readNot 3 dN) (hNod : dN ≤ dR) (hR : narrow .boolean (.int r.1) = .int r.1 → RetI x cX1_readEither 0 0 r.1 [(a0, .inr (1, [.int s_size, .int r.2.1, .ref a_tape, .int r.2.2.1, .int r.2.2.2.1, .int r.2.2.2.2.1, .int r.2.2.2.2.2.1, .ref a_code, .int r.2.2.2.2.2.2.1])), (a_tape, .inl (vxT x 0, 160, .inl s_tape)), (a_code, .inl (vxT x 0, 160, .inl r.2.2.2.2.2.2.2))]) :
    ∀ (fu : Nat) (l2 : Int32) (l3 : Int32) (s_fault : Int32) (s_at : Int32) (s_token : Int32) (s_tokenAt : Int32) (s_value : Int32) (s_codeSize : Int32) (s_code : Nat → Int32), lq9 (f_X1_readEither_8 s_size s_tape rE rO rN l1) fu l2 l3 s_fault s_at s_token s_tokenAt s_value s_codeSize s_code = some r → V x 0 0 [(a0, .inr (1, [.int s_size, .int s_fault, .ref a_tape, .int s_at, .int s_token, .int s_tokenAt, .int s_value, .ref a_code, .int s_codeSize])), (a_tape, .inl (vxT x 0, 160, .inl s_tape)), (a_code, .inl (vxT x 0, 160, .inl s_code))] [(0, .ref a0), (1, .int l1), (2, .int l2), (3, .int l3)] 8 [] := by
  refine lq9_V (G := fun l2 l3 s_fault s_at s_token s_tokenAt s_value s_codeSize s_code => V x 0 0 [(a0, .inr (1, [.int s_size, .int s_fault, .ref a_tape, .int s_at, .int s_token, .int s_tokenAt, .int s_value, .ref a_code, .int s_codeSize])), (a_tape, .inl (vxT x 0, 160, .inl s_tape)), (a_code, .inl (vxT x 0, 160, .inl s_code))] [(0, .ref a0), (1, .int l1), (2, .int l2), (3, .int l3)] 8 []) ?_
  intro kp_8 hk_8 l2 l3 s_fault s_at s_token s_tokenAt s_value s_codeSize s_code hf
  unfold f_X1_readEither_8 at hf
  refine v_iload_n X 3 rfl dX1_readEither_8 ?_
  refine v_sipush X (v := 160) (by decide) dX1_readEither_9 ?_
  refine v_icmp_ge X (tgt := 62) hf (by decide) dX1_readEither_12 (fun c12 hf => ?_) (fun c12 hf => ?_)
  · refine v_iload_n X 2 rfl dX1_readEither_62 ?_
    obtain ⟨hz, hf⟩ := if_some hf
    obtain rfl := Option.some.inj hf
    exact v_iret (hR (isZ_n hz)) dX1_readEither_63
  · refine v_iload_n X 2 rfl dX1_readEither_15 ?_
    refine v_if_eq X (tgt := 62) hf (by decide) dX1_readEither_16 (fun c16 hf => ?_) (fun c16 hf => ?_)
    · refine v_iload_n X 2 rfl dX1_readEither_62 ?_
      obtain ⟨hz, hf⟩ := if_some hf
      obtain rfl := Option.some.inj hf
      exact v_iret (hR (isZ_n hz)) dX1_readEither_63
    · refine v_aload_n X 0 rfl dX1_readEither_19 ?_
      refine v_get X xinX1 0 rfl rfl 4 (by decide) wd99 rfl rfl dX1_readEither_20 ?_
      refine v_sipush X (v := 263) (by decide) dX1_readEither_23 ?_
      refine v_icmp_ne X (tgt := 62) hf (by decide) dX1_readEither_26 (fun c26 hf => ?_) (fun c26 hf => ?_)
      · refine v_iload_n X 2 rfl dX1_readEither_62 ?_
        obtain ⟨hz, hf⟩ := if_some hf
        obtain rfl := Option.some.inj hf
        exact v_iret (hR (isZ_n hz)) dX1_readEither_63
      · refine v_aload_n X 0 rfl dX1_readEither_29 ?_
        obtain ⟨v30_2, hv30_2, hf⟩ := bd_some hf
        refine v_callV X (c_X1_next X.2.2.2.2.2.2.2.1 hWd hv30_2) cwv_X1_40 rfl (by omega) ⟨Nat.zero_le _, Nat.zero_le _⟩ 0 rfl rfl [0, 1] [2] [1, 2, 0] rfl (by decide) (wr := [(a_code, .inl (vxT x 0, 160, .inl s_code))]) rfl (by decide) (by decide) (ws2 := [(a0, .inr (1, [.int s_size, .int s_fault, .ref a_tape, .int v30_2.1, .int v30_2.2.1, .int v30_2.2.2.1, .int v30_2.2.2.2, .ref a_code, .int s_codeSize])), (a_tape, .inl (vxT x 0, 160, .inl s_tape)), (a_code, .inl (vxT x 0, 160, .inl s_code))]) rfl (by decide) (Nat.le_of_ble_eq_true rfl) rfl dX1_readEither_30 ?_
        refine v_aload_n X 0 rfl dX1_readEither_33 ?_
        refine v_iload_n X 1 rfl dX1_readEither_34 ?_
        obtain ⟨v35_3, hv35_3, hf⟩ := bd_some hf
        refine v_callI X (c_X1_readBoth X.2.2.2.2.2.2.2.1 hWd hE hEd hO hOd hNo hNod hv35_3) cwv_X1_65 rfl (by omega) ⟨Nat.zero_le _, Nat.zero_le _⟩ 0 rfl rfl [0, 1, 2] [] [0, 1, 2] rfl (by decide) (wr := []) rfl (by decide) (by decide) (ws2 := [(a0, .inr (1, [.int s_size, .int v35_3.2.1, .ref a_tape, .int v35_3.2.2.1, .int v35_3.2.2.2.1, .int v35_3.2.2.2.2.1, .int v35_3.2.2.2.2.2.1, .ref a_code, .int v35_3.2.2.2.2.2.2.1])), (a_tape, .inl (vxT x 0, 160, .inl s_tape)), (a_code, .inl (vxT x 0, 160, .inl v35_3.2.2.2.2.2.2.2))]) rfl (by decide) (Nat.le_of_ble_eq_true rfl) rfl dX1_readEither_35 ?_
        refine v_if_eq X (tgt := 54) hf (by decide) dX1_readEither_38 (fun c38 hf => ?_) (fun c38 hf => ?_)
        · refine v_iconst X (v := 0) (by decide) dX1_readEither_54 ?_
          refine v_istore_n X rfl (by rw [hN]; decide) (lv' := [(2, .int 0), (0, .ref a0), (1, .int l1), (3, .int l3)]) rfl dX1_readEither_55 ?_
          refine v_iinc X 3 rfl (v := (l3 + 1)) rfl (by rw [hN]; decide) (lv' := [(3, .int (l3 + 1)), (2, .int 0), (0, .ref a0), (1, .int l1)]) rfl dX1_readEither_56 ?_
          refine v_goto X (tgt := 8) (by decide) dX1_readEither_59 ?_
          refine v_lv [2, 3, 1, 0] rfl ?_
          exact hk_8 _ _ _ _ _ _ _ _ _ hf
        · refine v_aload_n X 0 rfl dX1_readEither_41 ?_
          refine v_bipush X (v := (-10)) (by decide) dX1_readEither_42 ?_
          obtain ⟨v44_4, hv44_4, hf⟩ := bd_some hf
          refine v_callI X (c_X1_put X.2.2.2.2.2.2.2.1 hv44_4) cwv_X1_68 rfl (by omega) ⟨Nat.zero_le _, Nat.zero_le _⟩ 0 rfl rfl [0, 2] [1] [1, 0, 2] rfl (by decide) (wr := [(a_tape, .inl (vxT x 0, 160, .inl s_tape))]) rfl (by decide) (by decide) (ws2 := [(a0, .inr (1, [.int s_size, .int v35_3.2.1, .ref a_tape, .int v35_3.2.2.1, .int v35_3.2.2.2.1, .int v35_3.2.2.2.2.1, .int v35_3.2.2.2.2.2.1, .ref a_code, .int v44_4.2.1])), (a_tape, .inl (vxT x 0, 160, .inl s_tape)), (a_code, .inl (vxT x 0, 160, .inl v44_4.2.2))]) rfl (by decide) (Nat.le_of_ble_eq_true rfl) rfl dX1_readEither_44 ?_
          refine v_if_eq X (tgt := 54) hf (by decide) dX1_readEither_47 (fun c47 hf => ?_) (fun c47 hf => ?_)
          · refine v_iconst X (v := 0) (by decide) dX1_readEither_54 ?_
            refine v_istore_n X rfl (by rw [hN]; decide) (lv' := [(2, .int 0), (0, .ref a0), (1, .int l1), (3, .int l3)]) rfl dX1_readEither_55 ?_
            refine v_iinc X 3 rfl (v := (l3 + 1)) rfl (by rw [hN]; decide) (lv' := [(3, .int (l3 + 1)), (2, .int 0), (0, .ref a0), (1, .int l1)]) rfl dX1_readEither_56 ?_
            refine v_goto X (tgt := 8) (by decide) dX1_readEither_59 ?_
            refine v_lv [2, 3, 1, 0] rfl ?_
            exact hk_8 _ _ _ _ _ _ _ _ _ hf
          · refine v_iconst X (v := 1) (by decide) dX1_readEither_50 ?_
            refine v_goto X (tgt := 55) (by decide) dX1_readEither_51 ?_
            refine v_istore_n X rfl (by rw [hN]; decide) (lv' := [(2, .int 1), (0, .ref a0), (1, .int l1), (3, .int l3)]) rfl dX1_readEither_55 ?_
            refine v_iinc X 3 rfl (v := (l3 + 1)) rfl (by rw [hN]; decide) (lv' := [(3, .int (l3 + 1)), (2, .int 1), (0, .ref a0), (1, .int l1)]) rfl dX1_readEither_56 ?_
            refine v_goto X (tgt := 8) (by decide) dX1_readEither_59 ?_
            refine v_lv [2, 3, 1, 0] rfl ?_
            exact hk_8 _ _ _ _ _ _ _ _ _ hf
set_option maxRecDepth 100000 in
set_option maxHeartbeats 4000000 in
theorem t_X1_readEither {x : VX} {r : Int32 × Int32 × Int32 × Int32 × Int32 × Int32 × Int32 × (Nat → Int32)} {a0 : Nat} {a_tape : Nat} {a_code : Nat} {s_size : Int32} {s_fault : Int32} {s_at : Int32} {s_token : Int32} {s_tokenAt : Int32} {s_value : Int32} {s_codeSize : Int32} {s_tape : Nat → Int32} {s_code : Nat → Int32} {rE : RF} {dE : Nat} {dR : Nat} {rO : RF} {dO : Nat} {rN : RF} {dN : Nat} {l1 : Int32} (X : Cx x cX1_readEither RX1 (dR + 14)) (hN : vxn x = 4) (hWd : WordsK (vxD x) (vxT x) (vxZ x)) (hE : RecC (vxl x) (vxD x) (vxT x) (vxZ x) rE yX1_readEither cX1_readEither 4 dE) (hEd : dE ≤ dR) (hO : RecC (vxl x) (vxD x) (vxT x) (vxZ x) rO yX1_readOne cX1_readOne 3 dO) (hOd : dO ≤ dR) (hNo : RecC (vxl x) (vxD x) (vxT x) (vxZ x) rN yX1_readNot cX1_readNot 3 dN) (hNod : dN ≤ dR) (hR : narrow .boolean (.int r.1) = .int r.1 → RetI x cX1_readEither 0 0 r.1 [(a0, .inr (1, [.int s_size, .int r.2.1, .ref a_tape, .int r.2.2.1, .int r.2.2.2.1, .int r.2.2.2.2.1, .int r.2.2.2.2.2.1, .ref a_code, .int r.2.2.2.2.2.2.1])), (a_tape, .inl (vxT x 0, 160, .inl s_tape)), (a_code, .inl (vxT x 0, 160, .inl r.2.2.2.2.2.2.2))]) (hf : f_X1_readEither l1 s_size s_fault s_at s_token s_tokenAt s_value s_codeSize s_tape s_code rE rO rN = some r) : V x 0 0 [(a0, .inr (1, [.int s_size, .int s_fault, .ref a_tape, .int s_at, .int s_token, .int s_tokenAt, .int s_value, .ref a_code, .int s_codeSize])), (a_tape, .inl (vxT x 0, 160, .inl s_tape)), (a_code, .inl (vxT x 0, 160, .inl s_code))] [(0, .ref a0), (1, .int l1)] 0 [] := by
  unfold f_X1_readEither at hf
  refine v_aload_n X 0 rfl dX1_readEither_0 ?_
  refine v_iload_n X 1 rfl dX1_readEither_1 ?_
  obtain ⟨v2_1, hv2_1, hf⟩ := bd_some hf
  refine v_callI X (c_X1_readBoth X.2.2.2.2.2.2.2.1 hWd hE hEd hO hOd hNo hNod hv2_1) cwv_X1_65 rfl (by omega) ⟨Nat.zero_le _, Nat.zero_le _⟩ 0 rfl rfl [0, 1, 2] [] [0, 1, 2] rfl (by decide) (wr := []) rfl (by decide) (by decide) (ws2 := [(a0, .inr (1, [.int s_size, .int v2_1.2.1, .ref a_tape, .int v2_1.2.2.1, .int v2_1.2.2.2.1, .int v2_1.2.2.2.2.1, .int v2_1.2.2.2.2.2.1, .ref a_code, .int v2_1.2.2.2.2.2.2.1])), (a_tape, .inl (vxT x 0, 160, .inl s_tape)), (a_code, .inl (vxT x 0, 160, .inl v2_1.2.2.2.2.2.2.2))]) rfl (by decide) (Nat.le_of_ble_eq_true rfl) rfl dX1_readEither_2 ?_
  refine v_istore_n X rfl (by rw [hN]; decide) (lv' := [(2, .int v2_1.1), (0, .ref a0), (1, .int l1)]) rfl dX1_readEither_5 ?_
  refine v_iconst X (v := 0) (by decide) dX1_readEither_6 ?_
  refine v_istore_n X rfl (by rw [hN]; decide) (lv' := [(3, .int 0), (2, .int v2_1.1), (0, .ref a0), (1, .int l1)]) rfl dX1_readEither_7 ?_
  refine v_lv [2, 3, 1, 0] rfl ?_
  exact t_X1_readEither_8 X hN hWd hE hEd hO hOd hNo hNod hR 200 _ _ _ _ _ _ _ _ _ hf
set_option maxRecDepth 100000 in
set_option maxHeartbeats 4000000 in
theorem c_X1_readEither {l : Launch} {D : va_G} {qT : Nat → ClassId} {Z : (Nat → Prop) → State → Heap → Prop} {r : Int32 × Int32 × Int32 × Int32 × Int32 × Int32 × Int32 × (Nat → Int32)} {a0 : Nat} {a_tape : Nat} {a_code : Nat} {s_size : Int32} {s_fault : Int32} {s_at : Int32} {s_token : Int32} {s_tokenAt : Int32} {s_value : Int32} {s_codeSize : Int32} {s_tape : Nat → Int32} {s_code : Nat → Int32} {rE : RF} {dE : Nat} {dR : Nat} {rO : RF} {dO : Nat} {rN : RF} {dN : Nat} {l1 : Int32} (hZ : ZOK Z) (hWd : WordsK D qT Z) (hE : RecC l D qT Z rE yX1_readEither cX1_readEither 4 dE) (hEd : dE ≤ dR) (hO : RecC l D qT Z rO yX1_readOne cX1_readOne 3 dO) (hOd : dO ≤ dR) (hNo : RecC l D qT Z rN yX1_readNot cX1_readNot 3 dN) (hNod : dN ≤ dR) (hf : f_X1_readEither l1 s_size s_fault s_at s_token s_tokenAt s_value s_codeSize s_tape s_code rE rO rN = some r) :
    CI l D qT Z yX1_readEither cX1_readEither 4 (some .boolean) (dR + 14) 0 0 [.ref a0, .int l1] [(a0, .inr (1, [.int s_size, .int s_fault, .ref a_tape, .int s_at, .int s_token, .int s_tokenAt, .int s_value, .ref a_code, .int s_codeSize])), (a_tape, .inl (qT 0, 160, .inl s_tape)), (a_code, .inl (qT 0, 160, .inl s_code))] r.1 [(a0, .inr (1, [.int s_size, .int r.2.1, .ref a_tape, .int r.2.2.1, .int r.2.2.2.1, .int r.2.2.2.2.1, .int r.2.2.2.2.2.1, .ref a_code, .int r.2.2.2.2.2.2.1])), (a_tape, .inl (qT 0, 160, .inl s_tape)), (a_code, .inl (qT 0, 160, .inl r.2.2.2.2.2.2.2))] := by
  refine CZ_of hZ (by decide) (Nat.le_of_ble_eq_true rfl) ?_
  intro x e1 e2 e3 e4 e5 e6 hin X hR
  subst e1 e2 e3 e4
  exact t_X1_readEither X e6 hWd hE hEd hO hOd hNo hNod hR hf
