/-! ## the law's constants: strings, statics, links -/
def sTx : Nat → String
  | 0 => "views"
  | 1 => "warms"
  | 2 => "minds"
  | 3 => "or"
  | 4 => "and"
  | 5 => "not"
  | 6 => "side"
  | 7 => "lamp"
  | 8 => "stove"
  | 9 => "number"
  | 10 => "pose"
  | 11 => "near"
  | _ => "views 10 - side ; warms 5 - stove ; minds near ;"
def sOwn : Nat → String
  | 12 => RX6 | _ => RX1
def sIdx : Nat → Nat
  | 0 => 98
  | 1 => 104
  | 2 => 106
  | 3 => 108
  | 4 => 110
  | 5 => 112
  | 6 => 114
  | 7 => 116
  | 8 => 118
  | 9 => 120
  | 10 => 122
  | 11 => 124
  | _ => 64
def sLen : Nat → Nat
  | 0 => 5
  | 1 => 5
  | 2 => 5
  | 3 => 2
  | 4 => 3
  | 5 => 3
  | 6 => 4
  | 7 => 4
  | 8 => 5
  | 9 => 6
  | 10 => 4
  | 11 => 4
  | _ => 48
def sByt (i : Nat) : Nat → Int32 := fun j => if i = 12 then fstL.getD j 0 else wL i j
def nw5 : List Cond := [.methodLinkNest RX6 11 yX2_init RX6, .methodLinkNest RX6 28 yX1_init RX6, .methodLinkNest RX6 45 yX4_init RX6, .methodLinkNest RX6 52 yX0_init RX6, .methodLinkNest RX6 63 yX3_init RX6]
def ZL (aK aV : Nat → Nat) (aU : Nat) : (Nat → Prop) → State → Heap → Prop := fun A U H =>
  (∀ i, i < 13 → vk_R (sOwn i) (sIdx i) (sTx i) (aK i) U) ∧ (∀ i, i < 13 → va_O RJ0 (aK i) A U H ∧ va_OF RJ0 "coder" "B" (.int 0) (aK i) A U H ∧ va_OF RJ0 "value" "[B" (.ref (aV i)) (aK i) A U H ∧ va_T .byte (aV i) (sLen i) (fun j => .int (sByt i j)) A U H) ∧
  va_Z RJ0 "COMPACT_STRINGS" "Z" (.int 1) A U H ∧ va_Zq RJ3 "SIOOBE_FORMATTER" "Ljava/util/function/BiFunction;" A U H ∧ va_Z RX6 "UNDER" "[I" (.ref aU) A U H ∧ va_T .int aU 6 (fun j => .int (und j)) A U H ∧ va_AO RX5 U ∧ va_AO RX3 U ∧ ∀ w ∈ nw5, va_Nw w U
theorem nw5_same {s U : State} (e : s.vm = U.vm) (h : ∀ w ∈ nw5, va_Nw w s) : ∀ w ∈ nw5, va_Nw w U := by
  intro w hw
  have h1 := h w hw
  simp only [nw5, List.mem_cons, List.not_mem_nil, or_false] at hw
  rcases hw with rfl | rfl | rfl | rfl | rfl <;> exact va_Nw.same rfl e h1
theorem nw5_warm {s U : State} (hW : s.WarmedH U.vm) (h : ∀ w ∈ nw5, va_Nw w s) : ∀ w ∈ nw5, va_Nw w U := by
  intro w hw
  have h1 := h w hw
  simp only [nw5, List.mem_cons, List.not_mem_nil, or_false] at hw
  rcases hw with rfl | rfl | rfl | rfl | rfl <;> exact va_Nw.warmM hW h1
theorem ZL_ok (aK aV : Nat → Nat) (aU : Nat) : ZOK (ZL aK aV aU) := by
  refine ⟨?_, ?_, ?_⟩
  · rintro A B U H hAB ⟨h1, h2, h3, h4, h5, h6, h7, h8, h9⟩
    exact ⟨h1, fun i hi => ⟨(h2 i hi).1.narrow hAB, (h2 i hi).2.1.narrow hAB, (h2 i hi).2.2.1.narrow hAB, (h2 i hi).2.2.2.narrow hAB⟩, h3.narrow hAB, h4.narrow hAB, h5.narrow hAB, h6.narrow hAB, h7, h8, h9⟩
  · rintro A U U' H hU ⟨h1, h2, h3, h4, h5, h6, h7, h8, h9⟩
    have hvm : U.vm.Alike U'.vm := by
      rcases hU with hU | hU
      · exact hU ▸ Vm.Alike.refl U.vm
      · exact hU.alike
    refine ⟨fun i hi => ?_, fun i hi => ⟨va_O.moved hvm (h2 i hi).1, va_OF.moved hvm (h2 i hi).2.1, va_OF.moved hvm (h2 i hi).2.2.1, va_T.moved hvm (h2 i hi).2.2.2⟩, va_Z.moved hvm h3, va_Zq.moved hvm h4, va_Z.moved hvm h5, va_T.moved hvm h6, va_AO.moved hvm h7, va_AO.moved hvm h8, ?_⟩
    · rcases hU with hU | hU
      · exact vk_R.same hU.symm (h1 i hi)
      · exact vk_R.warm hU (h1 i hi)
    · rcases hU with hU | hU
      · exact nw5_same hU h9
      · exact nw5_warm hU h9
  · rintro A U H H1 hk ⟨h1, h2, h3, h4, h5, h6, h7, h8, h9⟩
    exact ⟨h1, fun i hi => ⟨(h2 i hi).1.kept hk, (h2 i hi).2.1.kept hk, (h2 i hi).2.2.1.kept hk, (h2 i hi).2.2.2.kept hk⟩, h3.kept hk, h4.kept hk, h5.kept hk, h6.kept hk, h7, h8, h9⟩

section
variable {D : va_G} {qT : Nat → ClassId} {aK aV : Nat → Nat} {aU : Nat} {Z : (Nat → Prop) → State → Heap → Prop}
theorem ZL_stat (h : ∀ (A : Nat → Prop) (U : State) (H : Heap), Z A U H → ZL aK aV aU A U H) : StatZ Z := fun A U H hz => ⟨(h A U H hz).2.2.1, (h A U H hz).2.2.2.1⟩
theorem ZL_under (h : ∀ (A : Nat → Prop) (U : State) (H : Heap), Z A U H → ZL aK aV aU A U H) : UnderK Z := ⟨aU, fun A U H hz => ⟨(h A U H hz).2.2.2.2.1, (h A U H hz).2.2.2.2.2.1⟩⟩
theorem ZL_str (h : ∀ (A : Nat → Prop) (U : State) (H : Heap), Z A U H → ZL aK aV aU A U H) {i : Nat} (hi : i < 13) : StrZ Z (aK i) (sLen i) (sByt i) := ⟨aV i, fun A U H hz => (h A U H hz).2.1 i hi⟩
theorem s_ch : ∀ i, i < 13 → ∀ j, j < sLen i → ((sByt i j &&& 255).toUInt32 % 65536).toInt32 = chT (sTx i) j := by decide +kernel
theorem s_ln : ∀ i, i < 13 → sLen i < 100 := by decide +kernel
theorem ZL_strc (hZ : ZOK Z) (h : ∀ (A : Nat → Prop) (U : State) (H : Heap), Z A U H → ZL aK aV aU A U H) {i : Nat} (hi : i < 13) : StrC D qT Z (aK i) (sLen i) (chT (sTx i)) :=
  StrC_of hZ (ZL_stat h) (ZL_str h hi) (by have := s_ln i hi; omega) (s_ch i hi)
theorem ZL_words (hZ : ZOK Z) (h : ∀ (A : Nat → Prop) (U : State) (H : Heap), Z A U H → ZL aK aV aU A U H) : WordsK D qT Z := by
  intro k tx hm
  simp only [List.mem_cons, List.not_mem_nil, or_false, Prod.mk.injEq] at hm
  rcases hm with ⟨rfl, rfl⟩ | ⟨rfl, rfl⟩ | ⟨rfl, rfl⟩ | ⟨rfl, rfl⟩ | ⟨rfl, rfl⟩ | ⟨rfl, rfl⟩ | ⟨rfl, rfl⟩ | ⟨rfl, rfl⟩ | ⟨rfl, rfl⟩ | ⟨rfl, rfl⟩ | ⟨rfl, rfl⟩ | ⟨rfl, rfl⟩
  · exact ⟨aK 0, fun A U H hz => (h A U H hz).1 0 (by decide), ZL_strc (i := 0) hZ h (by decide)⟩
  · exact ⟨aK 1, fun A U H hz => (h A U H hz).1 1 (by decide), ZL_strc (i := 1) hZ h (by decide)⟩
  · exact ⟨aK 2, fun A U H hz => (h A U H hz).1 2 (by decide), ZL_strc (i := 2) hZ h (by decide)⟩
  · exact ⟨aK 3, fun A U H hz => (h A U H hz).1 3 (by decide), ZL_strc (i := 3) hZ h (by decide)⟩
  · exact ⟨aK 4, fun A U H hz => (h A U H hz).1 4 (by decide), ZL_strc (i := 4) hZ h (by decide)⟩
  · exact ⟨aK 5, fun A U H hz => (h A U H hz).1 5 (by decide), ZL_strc (i := 5) hZ h (by decide)⟩
  · exact ⟨aK 6, fun A U H hz => (h A U H hz).1 6 (by decide), ZL_strc (i := 6) hZ h (by decide)⟩
  · exact ⟨aK 7, fun A U H hz => (h A U H hz).1 7 (by decide), ZL_strc (i := 7) hZ h (by decide)⟩
  · exact ⟨aK 8, fun A U H hz => (h A U H hz).1 8 (by decide), ZL_strc (i := 8) hZ h (by decide)⟩
  · exact ⟨aK 9, fun A U H hz => (h A U H hz).1 9 (by decide), ZL_strc (i := 9) hZ h (by decide)⟩
  · exact ⟨aK 10, fun A U H hz => (h A U H hz).1 10 (by decide), ZL_strc (i := 10) hZ h (by decide)⟩
  · exact ⟨aK 11, fun A U H hz => (h A U H hz).1 11 (by decide), ZL_strc (i := 11) hZ h (by decide)⟩
theorem ZL_first (hZ : ZOK Z) (h : ∀ (A : Nat → Prop) (U : State) (H : Heap), Z A U H → ZL aK aV aU A U H) : FirstK D qT Z := ⟨aK 12, fun A U H hz => (h A U H hz).1 12 (by decide), ZL_strc (i := 12) hZ h (by decide)⟩
end
/-- a string among what was there before -/
theorem str1 {args : Array Value} {s : State} {tm : Term} {len : Nat} {bt : Nat → Int32} {A : Nat → Prop} (hN : len < 2 ^ 31) (hex : (Cond.exactly tm "java/lang/String").before args s = true) (hco : (Cond.eq (.field tm "java/lang/String" "coder" "B") (.int 0)).before args s = true) (har : (Cond.arrayOf (.field tm "java/lang/String" "value" "[B") .byte).before args s = true) (hle : (Cond.eq (.length (.field tm "java/lang/String" "value" "[B")) (.int (Int32.ofNat len))).before args s = true)
    (hel : ∀ j : Nat, j < len → (Cond.eq (.elem (.field tm "java/lang/String" "value" "[B") (.int (Int32.ofNat j))) (.int (bt j))).before args s = true) (hA : ∀ a : Nat, a < s.heap.size → ¬ A a) :
    ∃ a av : Nat, tm.eval args s none [] s = some (.ref a) ∧ va_O RJ0 a A s s.heap ∧ va_OF RJ0 "coder" "B" (.int 0) a A s s.heap ∧ va_OF RJ0 "value" "[B" (.ref av) a A s s.heap ∧ va_T .byte av len (fun j => .int (bt j)) A s s.heap := by
  obtain ⟨a, c, cA, kA, q1, q2, q3, q4, q5, q6, -⟩ := Cond.exactly_spec (args := args) (first := s) (o := none) (s := s) (idx := []) (t := tm) (cls := "java/lang/String") hex
  obtain ⟨t, ht, hT⟩ := va_Tof (f := fun j => .int (bt j)) (A := A) hN har (va_eqt hle) (fun j hj => va_eqt (hel j hj)) hA
  exact ⟨a, t, q1, ⟨cA, q3, q5, by rw [q6]; exact q2, hA a (Array.getElem?_eq_some_iff.mp q3).1⟩, vk_OFof q1 (va_eqt hco) hA, vk_OFof q1 ht hA, hT⟩
set_option maxRecDepth 100000 in
set_option maxHeartbeats 4000000 in
theorem ZL_at {s : State} {b : Nat} (hts : ∀ w ∈ lw_tbl, w.before #[Value.ref b] s = true) (hgv : (Jvm.Cond.and given_1 narrow_1).before #[Value.ref b] s = true) {A : Nat → Prop} (hA : ∀ a : Nat, a < s.heap.size → ¬ A a) : ∃ (aK aV : Nat → Nat) (aU : Nat), ZL aK aV aU A s s.heap := by
  have hfl := flat_of_before _ hgv
  have g0 := str1 (args := #[Value.ref b]) (s := s) (tm := .string RX1 98) (len := 5) (bt := sByt 0) (A := A) (by decide) (hfl _ (by decide +kernel)) (hfl _ (by decide +kernel)) (hfl _ (by decide +kernel)) (hfl _ (by decide +kernel)) (fun j hj => hfl _ ((by decide +kernel : ∀ j, j < 5 → (Cond.eq (.elem (.field (.string RX1 98) "java/lang/String" "value" "[B") (.int (Int32.ofNat j))) (.int (sByt 0 j))) ∈ flatC (Jvm.Cond.and given_1 narrow_1)) j hj)) hA
  have g1 := str1 (args := #[Value.ref b]) (s := s) (tm := .string RX1 104) (len := 5) (bt := sByt 1) (A := A) (by decide) (hfl _ (by decide +kernel)) (hfl _ (by decide +kernel)) (hfl _ (by decide +kernel)) (hfl _ (by decide +kernel)) (fun j hj => hfl _ ((by decide +kernel : ∀ j, j < 5 → (Cond.eq (.elem (.field (.string RX1 104) "java/lang/String" "value" "[B") (.int (Int32.ofNat j))) (.int (sByt 1 j))) ∈ flatC (Jvm.Cond.and given_1 narrow_1)) j hj)) hA
  have g2 := str1 (args := #[Value.ref b]) (s := s) (tm := .string RX1 106) (len := 5) (bt := sByt 2) (A := A) (by decide) (hfl _ (by decide +kernel)) (hfl _ (by decide +kernel)) (hfl _ (by decide +kernel)) (hfl _ (by decide +kernel)) (fun j hj => hfl _ ((by decide +kernel : ∀ j, j < 5 → (Cond.eq (.elem (.field (.string RX1 106) "java/lang/String" "value" "[B") (.int (Int32.ofNat j))) (.int (sByt 2 j))) ∈ flatC (Jvm.Cond.and given_1 narrow_1)) j hj)) hA
  have g3 := str1 (args := #[Value.ref b]) (s := s) (tm := .string RX1 108) (len := 2) (bt := sByt 3) (A := A) (by decide) (hfl _ (by decide +kernel)) (hfl _ (by decide +kernel)) (hfl _ (by decide +kernel)) (hfl _ (by decide +kernel)) (fun j hj => hfl _ ((by decide +kernel : ∀ j, j < 2 → (Cond.eq (.elem (.field (.string RX1 108) "java/lang/String" "value" "[B") (.int (Int32.ofNat j))) (.int (sByt 3 j))) ∈ flatC (Jvm.Cond.and given_1 narrow_1)) j hj)) hA
  have g4 := str1 (args := #[Value.ref b]) (s := s) (tm := .string RX1 110) (len := 3) (bt := sByt 4) (A := A) (by decide) (hfl _ (by decide +kernel)) (hfl _ (by decide +kernel)) (hfl _ (by decide +kernel)) (hfl _ (by decide +kernel)) (fun j hj => hfl _ ((by decide +kernel : ∀ j, j < 3 → (Cond.eq (.elem (.field (.string RX1 110) "java/lang/String" "value" "[B") (.int (Int32.ofNat j))) (.int (sByt 4 j))) ∈ flatC (Jvm.Cond.and given_1 narrow_1)) j hj)) hA
  have g5 := str1 (args := #[Value.ref b]) (s := s) (tm := .string RX1 112) (len := 3) (bt := sByt 5) (A := A) (by decide) (hfl _ (by decide +kernel)) (hfl _ (by decide +kernel)) (hfl _ (by decide +kernel)) (hfl _ (by decide +kernel)) (fun j hj => hfl _ ((by decide +kernel : ∀ j, j < 3 → (Cond.eq (.elem (.field (.string RX1 112) "java/lang/String" "value" "[B") (.int (Int32.ofNat j))) (.int (sByt 5 j))) ∈ flatC (Jvm.Cond.and given_1 narrow_1)) j hj)) hA
  have g6 := str1 (args := #[Value.ref b]) (s := s) (tm := .string RX1 114) (len := 4) (bt := sByt 6) (A := A) (by decide) (hfl _ (by decide +kernel)) (hfl _ (by decide +kernel)) (hfl _ (by decide +kernel)) (hfl _ (by decide +kernel)) (fun j hj => hfl _ ((by decide +kernel : ∀ j, j < 4 → (Cond.eq (.elem (.field (.string RX1 114) "java/lang/String" "value" "[B") (.int (Int32.ofNat j))) (.int (sByt 6 j))) ∈ flatC (Jvm.Cond.and given_1 narrow_1)) j hj)) hA
  have g7 := str1 (args := #[Value.ref b]) (s := s) (tm := .string RX1 116) (len := 4) (bt := sByt 7) (A := A) (by decide) (hfl _ (by decide +kernel)) (hfl _ (by decide +kernel)) (hfl _ (by decide +kernel)) (hfl _ (by decide +kernel)) (fun j hj => hfl _ ((by decide +kernel : ∀ j, j < 4 → (Cond.eq (.elem (.field (.string RX1 116) "java/lang/String" "value" "[B") (.int (Int32.ofNat j))) (.int (sByt 7 j))) ∈ flatC (Jvm.Cond.and given_1 narrow_1)) j hj)) hA
  have g8 := str1 (args := #[Value.ref b]) (s := s) (tm := .string RX1 118) (len := 5) (bt := sByt 8) (A := A) (by decide) (hfl _ (by decide +kernel)) (hfl _ (by decide +kernel)) (hfl _ (by decide +kernel)) (hfl _ (by decide +kernel)) (fun j hj => hfl _ ((by decide +kernel : ∀ j, j < 5 → (Cond.eq (.elem (.field (.string RX1 118) "java/lang/String" "value" "[B") (.int (Int32.ofNat j))) (.int (sByt 8 j))) ∈ flatC (Jvm.Cond.and given_1 narrow_1)) j hj)) hA
  have g9 := str1 (args := #[Value.ref b]) (s := s) (tm := .string RX1 120) (len := 6) (bt := sByt 9) (A := A) (by decide) (hfl _ (by decide +kernel)) (hfl _ (by decide +kernel)) (hfl _ (by decide +kernel)) (hfl _ (by decide +kernel)) (fun j hj => hfl _ ((by decide +kernel : ∀ j, j < 6 → (Cond.eq (.elem (.field (.string RX1 120) "java/lang/String" "value" "[B") (.int (Int32.ofNat j))) (.int (sByt 9 j))) ∈ flatC (Jvm.Cond.and given_1 narrow_1)) j hj)) hA
  have g10 := str1 (args := #[Value.ref b]) (s := s) (tm := .string RX1 122) (len := 4) (bt := sByt 10) (A := A) (by decide) (hfl _ (by decide +kernel)) (hfl _ (by decide +kernel)) (hfl _ (by decide +kernel)) (hfl _ (by decide +kernel)) (fun j hj => hfl _ ((by decide +kernel : ∀ j, j < 4 → (Cond.eq (.elem (.field (.string RX1 122) "java/lang/String" "value" "[B") (.int (Int32.ofNat j))) (.int (sByt 10 j))) ∈ flatC (Jvm.Cond.and given_1 narrow_1)) j hj)) hA
  have g11 := str1 (args := #[Value.ref b]) (s := s) (tm := .string RX1 124) (len := 4) (bt := sByt 11) (A := A) (by decide) (hfl _ (by decide +kernel)) (hfl _ (by decide +kernel)) (hfl _ (by decide +kernel)) (hfl _ (by decide +kernel)) (fun j hj => hfl _ ((by decide +kernel : ∀ j, j < 4 → (Cond.eq (.elem (.field (.string RX1 124) "java/lang/String" "value" "[B") (.int (Int32.ofNat j))) (.int (sByt 11 j))) ∈ flatC (Jvm.Cond.and given_1 narrow_1)) j hj)) hA
  have g12 := str1 (args := #[Value.ref b]) (s := s) (tm := .string RX6 64) (len := 48) (bt := sByt 12) (A := A) (by decide) (hfl _ (by decide +kernel)) (hfl _ (by decide +kernel)) (hfl _ (by decide +kernel)) (hfl _ (by decide +kernel)) (fun j hj => hfl _ ((by decide +kernel : ∀ j, j < 48 → (Cond.eq (.elem (.field (.string RX6 64) "java/lang/String" "value" "[B") (.int (Int32.ofNat j))) (.int (sByt 12 j))) ∈ flatC (Jvm.Cond.and given_1 narrow_1)) j hj)) hA
  have hst : ∀ i, ∃ q : Nat × Nat, i < 13 → vk_R (sOwn i) (sIdx i) (sTx i) q.1 s ∧ va_O RJ0 q.1 A s s.heap ∧ va_OF RJ0 "coder" "B" (.int 0) q.1 A s s.heap ∧ va_OF RJ0 "value" "[B" (.ref q.2) q.1 A s s.heap ∧ va_T .byte q.2 (sLen i) (fun j => .int (sByt i j)) A s s.heap := by
    intro i
    by_cases hi : i < 13
    · rcases (show i = 0 ∨ i = 1 ∨ i = 2 ∨ i = 3 ∨ i = 4 ∨ i = 5 ∨ i = 6 ∨ i = 7 ∨ i = 8 ∨ i = 9 ∨ i = 10 ∨ i = 11 ∨ i = 12 by omega) with rfl | rfl | rfl | rfl | rfl | rfl | rfl | rfl | rfl | rfl | rfl | rfl | rfl
      · obtain ⟨a, av, q1, q2⟩ := g0
        exact ⟨(a, av), fun _ => ⟨vk_R.of (hts _ (List.mem_append_right _ (List.mem_of_getElem? (i := 248) (by decide +kernel)))) q1, q2⟩⟩
      · obtain ⟨a, av, q1, q2⟩ := g1
        exact ⟨(a, av), fun _ => ⟨vk_R.of (hts _ (List.mem_append_right _ (List.mem_of_getElem? (i := 255) (by decide +kernel)))) q1, q2⟩⟩
      · obtain ⟨a, av, q1, q2⟩ := g2
        exact ⟨(a, av), fun _ => ⟨vk_R.of (hts _ (List.mem_append_right _ (List.mem_of_getElem? (i := 256) (by decide +kernel)))) q1, q2⟩⟩
      · obtain ⟨a, av, q1, q2⟩ := g3
        exact ⟨(a, av), fun _ => ⟨vk_R.of (hts _ (List.mem_append_right _ (List.mem_of_getElem? (i := 257) (by decide +kernel)))) q1, q2⟩⟩
      · obtain ⟨a, av, q1, q2⟩ := g4
        exact ⟨(a, av), fun _ => ⟨vk_R.of (hts _ (List.mem_append_right _ (List.mem_of_getElem? (i := 258) (by decide +kernel)))) q1, q2⟩⟩
      · obtain ⟨a, av, q1, q2⟩ := g5
        exact ⟨(a, av), fun _ => ⟨vk_R.of (hts _ (List.mem_append_right _ (List.mem_of_getElem? (i := 259) (by decide +kernel)))) q1, q2⟩⟩
      · obtain ⟨a, av, q1, q2⟩ := g6
        exact ⟨(a, av), fun _ => ⟨vk_R.of (hts _ (List.mem_append_right _ (List.mem_of_getElem? (i := 260) (by decide +kernel)))) q1, q2⟩⟩
      · obtain ⟨a, av, q1, q2⟩ := g7
        exact ⟨(a, av), fun _ => ⟨vk_R.of (hts _ (List.mem_append_right _ (List.mem_of_getElem? (i := 261) (by decide +kernel)))) q1, q2⟩⟩
      · obtain ⟨a, av, q1, q2⟩ := g8
        exact ⟨(a, av), fun _ => ⟨vk_R.of (hts _ (List.mem_append_right _ (List.mem_of_getElem? (i := 262) (by decide +kernel)))) q1, q2⟩⟩
      · obtain ⟨a, av, q1, q2⟩ := g9
        exact ⟨(a, av), fun _ => ⟨vk_R.of (hts _ (List.mem_append_right _ (List.mem_of_getElem? (i := 263) (by decide +kernel)))) q1, q2⟩⟩
      · obtain ⟨a, av, q1, q2⟩ := g10
        exact ⟨(a, av), fun _ => ⟨vk_R.of (hts _ (List.mem_append_right _ (List.mem_of_getElem? (i := 264) (by decide +kernel)))) q1, q2⟩⟩
      · obtain ⟨a, av, q1, q2⟩ := g11
        exact ⟨(a, av), fun _ => ⟨vk_R.of (hts _ (List.mem_append_right _ (List.mem_of_getElem? (i := 265) (by decide +kernel)))) q1, q2⟩⟩
      · obtain ⟨a, av, q1, q2⟩ := g12
        exact ⟨(a, av), fun _ => ⟨vk_R.of (hts _ (List.mem_append_right _ (List.mem_of_getElem? (i := 180) (by decide +kernel)))) q1, q2⟩⟩
    · exact ⟨(0, 0), fun h => absurd h hi⟩
  obtain ⟨ad, had⟩ := Classical.axiomOfChoice hst
  obtain ⟨aU, u1, u2⟩ := va_Tof (args := #[Value.ref b]) (tm := .static RX6 "UNDER" "[I") (ty := .int) (N := 6) (f := fun j => .int (und j)) (A := A) (by decide) (hfl _ (by decide +kernel)) (va_eqt (hfl _ (by decide +kernel))) (fun j hj => va_eqt (hfl _ ((by decide +kernel : ∀ j, j < 6 → (Cond.eq (.elem (.static RX6 "UNDER" "[I") (.int (Int32.ofNat j))) (.int (und j))) ∈ flatC (Jvm.Cond.and given_1 narrow_1)) j hj))) hA
  refine ⟨fun i => (ad i).1, fun i => (ad i).2, aU, fun i hi => (had i hi).1, fun i hi => (had i hi).2, va_Zof (hts _ (List.mem_append_right _ (List.mem_of_getElem? (i := 190) (by decide +kernel)))) (hts _ (List.mem_append_right _ (List.mem_of_getElem? (i := 7) (by decide +kernel)))) (va_eqt (hfl _ (by decide +kernel))) hA, va_Zqof (hts _ (List.mem_append_right _ (List.mem_of_getElem? (i := 206) (by decide +kernel)))) (hts _ (List.mem_append_right _ (List.mem_of_getElem? (i := 9) (by decide +kernel)))) (hfl _ (by decide +kernel)) hA, va_Zref (hts _ (List.mem_append_right _ (List.mem_of_getElem? (i := 747) (by decide +kernel)))) (hts _ (List.mem_append_right _ (List.mem_of_getElem? (i := 1) (by decide +kernel)))) u1 hA, u2, va_AO.of (hts _ (List.mem_append_right _ (List.mem_of_getElem? (i := 119) (by decide +kernel)))), va_AO.of (hts _ (List.mem_append_right _ (List.mem_of_getElem? (i := 161) (by decide +kernel)))), ?_⟩
  intro w hw
  simp only [nw5, List.mem_cons, List.not_mem_nil, or_false] at hw
  rcases hw with rfl | rfl | rfl | rfl | rfl
  · exact va_Nw.of rfl (hts _ (List.mem_append_right _ (List.mem_of_getElem? (i := 26) (by decide +kernel))))
  · exact va_Nw.of rfl (hts _ (List.mem_append_right _ (List.mem_of_getElem? (i := 84) (by decide +kernel))))
  · exact va_Nw.of rfl (hts _ (List.mem_append_right _ (List.mem_of_getElem? (i := 122) (by decide +kernel))))
  · exact va_Nw.of rfl (hts _ (List.mem_append_right _ (List.mem_of_getElem? (i := 145) (by decide +kernel))))
  · exact va_Nw.of rfl (hts _ (List.mem_append_right _ (List.mem_of_getElem? (i := 163) (by decide +kernel))))
