theorem wd823 : Cond.classLink RX1 50 RX5 ∈ gw := gw_of (List.mem_append_right _ (List.mem_of_getElem? (i := 312) (by decide +kernel))) (by decide +kernel)
theorem wd824 : Cond.instantiable RX5 2 ∈ gw := gw_of (List.mem_append_right _ (List.mem_of_getElem? (i := 313) (by decide +kernel))) (by decide +kernel)
theorem wd825 : Cond.methodLink RX1 52 yJ7_copyOf_59c91 ∈ gw := gw_of (List.mem_append_right _ (List.mem_of_getElem? (i := 314) (by decide +kernel))) (by decide +kernel)
theorem wd826 : Cond.static yJ7_copyOf_59c91 ∈ gw := gw_of (List.mem_append_right _ (List.mem_of_getElem? (i := 315) (by decide +kernel))) (by decide +kernel)
theorem wd827 : Cond.code yJ7_copyOf_59c91 cJ7_copyOf_59c91 3 (some (.array .int)) ∈ gw := gw_of (List.mem_append_right _ (List.mem_of_getElem? (i := 316) (by decide +kernel))) (by decide +kernel)
theorem cws_X1_52 : CWs RX1 52 yJ7_copyOf_59c91 cJ7_copyOf_59c91 3 (some (.array .int)) 2 := ⟨wd825, wd826, wd51, wd827, (by decide +kernel), (by decide +kernel), (by decide +kernel), (by decide +kernel)⟩
theorem wd828 : Cond.methodLink RX1 58 yX5_init ∈ gw := gw_of (List.mem_append_right _ (List.mem_of_getElem? (i := 330) (by decide +kernel))) (by decide +kernel)
theorem wd829 : Cond.instanceMethod yX5_init ∈ gw := gw_of (List.mem_append_right _ (List.mem_of_getElem? (i := 331) (by decide +kernel))) (by decide +kernel)
theorem wd830 : Cond.code yX5_init cX5_init 3 none ∈ gw := gw_of (List.mem_append_right _ (List.mem_of_getElem? (i := 332) (by decide +kernel))) (by decide +kernel)
theorem cwi_X1_58 : CWi RX1 58 yX5_init cX5_init 3 2 := ⟨wd828, wd829, wd57, wd830, (by decide +kernel), (by decide +kernel), (by decide +kernel), (by decide +kernel), by decide +kernel⟩
/-- the reading methods, tied: level by level -/
def RT : Nat → RF × RF × RF
  | 0 => (fun _ _ _ _ _ _ _ _ _ _ => none, fun _ _ _ _ _ _ _ _ _ _ => none, fun _ _ _ _ _ _ _ _ _ _ => none)
  | n + 1 => (fun l1 a b c d e f g t q => f_X1_readEither l1 a b c d e f g t q (RT n).1 (RT n).2.2 (RT n).2.1, fun l1 a b c d e f g t q => f_X1_readNot l1 a b c d e f g t q (RT n).1 (RT n).2.2 (RT n).2.1, fun l1 a b c d e f g t q => f_X1_readOne l1 a b c d e f g t q (RT n).1 (RT n).2.2)
def dEf : Nat → Nat
  | 0 => 0
  | n + 1 => 14 * n + 14
def dNf : Nat → Nat
  | 0 => 0
  | n + 1 => 14 * n + 12
def dOf : Nat → Nat
  | 0 => 0
  | n + 1 => 14 * n + 9
theorem dEf_le (n : Nat) : dEf n ≤ 14 * n := by cases n <;> simp [dEf] ; omega
theorem dNf_le (n : Nat) : dNf n ≤ 14 * n := by cases n <;> simp [dNf] ; omega
theorem dOf_le (n : Nat) : dOf n ≤ 14 * n := by cases n <;> simp [dOf] ; omega
theorem RT_C {l : Launch} {D : va_G} {qT : Nat → ClassId} {Z : (Nat → Prop) → State → Heap → Prop} (hZ : ZOK Z) (hWd : WordsK D qT Z) : ∀ n : Nat, RecC l D qT Z (RT n).1 yX1_readEither cX1_readEither 4 (dEf n) ∧ RecC l D qT Z (RT n).2.1 yX1_readNot cX1_readNot 3 (dNf n) ∧ RecC l D qT Z (RT n).2.2 yX1_readOne cX1_readOne 3 (dOf n) := by
  intro n
  induction n with
  | zero =>
    refine ⟨?_, ?_, ?_⟩ <;> (intro a0 a_tape a_code l1 s1 s2 s3 s4 s5 s6 s7 t q r hf; cases hf)
  | succ n ih =>
    obtain ⟨h1, h2, h3⟩ := ih
    refine ⟨?_, ?_, ?_⟩
    · intro a0 a_tape a_code l1 s1 s2 s3 s4 s5 s6 s7 t q r hf
      exact c_X1_readEither (dR := 14 * n) hZ hWd h1 (dEf_le n) h3 (dOf_le n) h2 (dNf_le n) hf
    · intro a0 a_tape a_code l1 s1 s2 s3 s4 s5 s6 s7 t q r hf
      exact c_X1_readNot (dR := 14 * n) hZ hWd h1 (dEf_le n) h3 (dOf_le n) h2 (dNf_le n) hf
    · intro a0 a_tape a_code l1 s1 s2 s3 s4 s5 s6 s7 t q r hf
      exact c_X1_readOne (dR := 14 * n) hZ hWd h1 (dEf_le n) h3 (dOf_le n) hf
def fE : RF := (RT 7).1

def f_X1_readF_103 (s_fault : Int32) (s_at : Int32) (s_token : Int32) (s_tokenAt : Int32) (s_value : Int32) (s_codeSize : Int32) (s_code : Nat → Int32) (ends : Nat → Int32) (k0 : Int32) : Option (Int32 × Int32 × Int32 × Int32 × Int32 × Int32 × Int32 × Int32 × (Nat → Int32) × (Nat → Int32)) :=
  if k0 = 0 then (
  some (0, 0, s_fault, s_at, s_token, s_tokenAt, s_value, s_codeSize, s_code, ends)) else (
  if inb s_codeSize 160 = true then (
  some (1, 0, s_fault, s_at, s_token, s_tokenAt, s_value, s_codeSize, s_code, ends)) else none)
def f_X1_readF_102 (s_fault : Int32) (s_at : Int32) (s_token : Int32) (s_tokenAt : Int32) (s_value : Int32) (s_codeSize : Int32) (s_code : Nat → Int32) (ends : Nat → Int32) : Option (Int32 × Int32 × Int32 × Int32 × Int32 × Int32 × Int32 × Int32 × (Nat → Int32) × (Nat → Int32)) :=
  f_X1_readF_103 s_fault s_at s_token s_tokenAt s_value s_codeSize s_code ends 0
def f_X1_readF_84 (s_size : Int32) (s_fault : Int32) (s_at : Int32) (s_token : Int32) (s_tokenAt : Int32) (s_value : Int32) (s_codeSize : Int32) (s_tape : Nat → Int32) (s_code : Nat → Int32) (ends : Nat → Int32) (l2 : Int32) : Option (Int32 × Int32 × Int32 × Int32 × Int32 × Int32 × Int32 × Int32 × (Nat → Int32) × (Nat → Int32)) :=
  if l2 = 0 then (
  f_X1_readF_102 s_fault s_at s_token s_tokenAt s_value s_codeSize s_code ends) else (
  (f_X1_expect 256 s_size s_fault s_at s_token s_tokenAt s_value s_tape).bind (fun v92_4 =>
  if v92_4.1 = 0 then (
  f_X1_readF_102 v92_4.2.1 v92_4.2.2.1 v92_4.2.2.2.1 v92_4.2.2.2.2.1 v92_4.2.2.2.2.2 s_codeSize s_code ends) else (
  f_X1_readF_103 v92_4.2.1 v92_4.2.2.1 v92_4.2.2.2.1 v92_4.2.2.2.2.1 v92_4.2.2.2.2.2 s_codeSize s_code ends 1)))
def f_X1_readF_27 (s_size : Int32) (s_tape : Nat → Int32) (kp_27 : Int32 → Int32 → Int32 → Int32 → Int32 → Int32 → Int32 → Int32 → (Nat → Int32) → (Nat → Int32) → Option (Int32 × Int32 × Int32 × Int32 × Int32 × Int32 × Int32 × Int32 × (Nat → Int32) × (Nat → Int32))) (l2 : Int32) (l3 : Int32) (s_fault : Int32) (s_at : Int32) (s_token : Int32) (s_tokenAt : Int32) (s_value : Int32) (s_codeSize : Int32) (s_code : Nat → Int32) (ends : Nat → Int32) : Option (Int32 × Int32 × Int32 × Int32 × Int32 × Int32 × Int32 × Int32 × (Nat → Int32) × (Nat → Int32)) :=
  if 3 ≤ l3 then (
  f_X1_readF_84 s_size s_fault s_at s_token s_tokenAt s_value s_codeSize s_tape s_code ends l2) else (
  if l2 = 0 then (
  f_X1_readF_84 s_size s_fault s_at s_token s_tokenAt s_value s_codeSize s_tape s_code ends l2) else (
  (f_X1_expect (260 + l3) s_size s_fault s_at s_token s_tokenAt s_value s_tape).bind (fun v42_5 =>
  if v42_5.1 = 0 then (
  if inb l3 3 = true then (
  kp_27 0 (l3 + 1) v42_5.2.1 v42_5.2.2.1 v42_5.2.2.2.1 v42_5.2.2.2.2.1 v42_5.2.2.2.2.2 s_codeSize s_code (upd ends (Int32.toNatClampNeg l3) s_codeSize)) else none) else (
  (fE 0 s_size v42_5.2.1 v42_5.2.2.1 v42_5.2.2.2.1 v42_5.2.2.2.2.1 v42_5.2.2.2.2.2 s_codeSize s_tape s_code).bind (fun v50_6 =>
  if v50_6.1 = 0 then (
  if inb l3 3 = true then (
  kp_27 0 (l3 + 1) v50_6.2.1 v50_6.2.2.1 v50_6.2.2.2.1 v50_6.2.2.2.2.1 v50_6.2.2.2.2.2.1 v50_6.2.2.2.2.2.2.1 v50_6.2.2.2.2.2.2.2 (upd ends (Int32.toNatClampNeg l3) v50_6.2.2.2.2.2.2.1)) else none) else (
  (f_X1_expect 59 s_size v50_6.2.1 v50_6.2.2.1 v50_6.2.2.2.1 v50_6.2.2.2.2.1 v50_6.2.2.2.2.2.1 s_tape).bind (fun v59_7 =>
  if v59_7.1 = 0 then (
  if inb l3 3 = true then (
  kp_27 0 (l3 + 1) v59_7.2.1 v59_7.2.2.1 v59_7.2.2.2.1 v59_7.2.2.2.2.1 v59_7.2.2.2.2.2 v50_6.2.2.2.2.2.2.1 v50_6.2.2.2.2.2.2.2 (upd ends (Int32.toNatClampNeg l3) v50_6.2.2.2.2.2.2.1)) else none) else (
  if inb l3 3 = true then (
  kp_27 1 (l3 + 1) v59_7.2.1 v59_7.2.2.1 v59_7.2.2.2.1 v59_7.2.2.2.2.1 v59_7.2.2.2.2.2 v50_6.2.2.2.2.2.2.1 v50_6.2.2.2.2.2.2.2 (upd ends (Int32.toNatClampNeg l3) v50_6.2.2.2.2.2.2.1)) else none))))))))
def f_X1_readF (s_size : Int32) (s_fault : Int32) (s_at : Int32) (s_value : Int32) (s_codeSize : Int32) (s_tape : Nat → Int32) (s_code : Nat → Int32) (ends : Nat → Int32) : Option (Int32 × Int32 × Int32 × Int32 × Int32 × Int32 × Int32 × Int32 × (Nat → Int32) × (Nat → Int32)) :=
  (f_X1_next s_size s_at s_value s_tape).bind (fun v20_1 =>
  lq10 (f_X1_readF_27 s_size s_tape) 200 1 0 s_fault v20_1.1 v20_1.2.1 v20_1.2.2.1 v20_1.2.2.2 s_codeSize s_code ends)
set_option maxRecDepth 100000 in
set_option maxHeartbeats 4000000 in
theorem t_X1_readF_103 {x : VX} {r : Int32 × Int32 × Int32 × Int32 × Int32 × Int32 × Int32 × Int32 × (Nat → Int32) × (Nat → Int32)} {a0 : Nat} {a_tape : Nat} {a_code : Nat} {a_e : Nat} {s_size : Int32} {s_fault : Int32} {s_at : Int32} {s_token : Int32} {s_tokenAt : Int32} {s_value : Int32} {s_codeSize : Int32} {s_tape : Nat → Int32} {s_code : Nat → Int32} {ends : Nat → Int32} {k0 : Int32} (X : Cx x cX1_read RX1 99) (hN : vxn x = 4) (hRm : vxR x = rmD 99 3 165) (hWd : WordsK (vxD x) (vxT x) (vxZ x)) (hR0 : r.1 = 0 → RetA x cX1_read 3 165 .null [(a0, .inr (1, [.int r.2.1, .int r.2.2.1, .ref a_tape, .int r.2.2.2.1, .int r.2.2.2.2.1, .int r.2.2.2.2.2.1, .int r.2.2.2.2.2.2.1, .ref a_code, .int r.2.2.2.2.2.2.2.1])), (a_tape, .inl (vxT x 0, 160, .inl s_tape)), (a_code, .inl (vxT x 0, 160, .inl r.2.2.2.2.2.2.2.2.1))]) (hR1 : r.1 = 1 → ∀ qt qc : Nat, RetA x cX1_read 3 165 (.ref qt) [(a0, .inr (1, [.int r.2.1, .int r.2.2.1, .ref a_tape, .int r.2.2.2.1, .int r.2.2.2.2.1, .int r.2.2.2.2.2.1, .int r.2.2.2.2.2.2.1, .ref a_code, .int r.2.2.2.2.2.2.2.1])), (a_tape, .inl (vxT x 0, 160, .inl s_tape)), (a_code, .inl (vxT x 0, 160, .inl r.2.2.2.2.2.2.2.2.1)), (qt, .inr (5, [.ref qc, .ref a_e])), (qc, .inl (vxT x 0, (Int32.toNatClampNeg r.2.2.2.2.2.2.2.1), .inl r.2.2.2.2.2.2.2.2.1)), (a_e, .inl (vxT x 0, 3, .inl r.2.2.2.2.2.2.2.2.2))]) (hf : f_X1_readF_103 s_fault s_at s_token s_tokenAt s_value s_codeSize s_code ends k0 = some r) : V x 1 3 [(a0, .inr (1, [.int s_size, .int s_fault, .ref a_tape, .int s_at, .int s_token, .int s_tokenAt, .int s_value, .ref a_code, .int s_codeSize])), (a_tape, .inl (vxT x 0, 160, .inl s_tape)), (a_code, .inl (vxT x 0, 160, .inl s_code)), (a_e, .inl (vxT x 0, 3, .inl ends))] [(0, .ref a0), (1, .ref a_e)] 103 [.int k0] := by
  unfold f_X1_readF_103 at hf
  refine v_istore_n X rfl (by rw [hN]; decide) (lv' := [(2, .int k0), (0, .ref a0), (1, .ref a_e)]) rfl dX1_read_103 ?_
  refine v_aload_n X 1 rfl dX1_read_104 ?_
  refine v_iconst X (v := 0) (by decide) dX1_read_105 ?_
  refine v_put X xinX1 tyX1 tyX1_ok nmX1 0 rfl rfl 0 (by decide) wd93 rfl rfl rfl rfl rfl (Nat.le_of_ble_eq_true rfl) (ws' := [(a0, .inr (1, [.int 0, .int s_fault, .ref a_tape, .int s_at, .int s_token, .int s_tokenAt, .int s_value, .ref a_code, .int s_codeSize])), (a_tape, .inl (vxT x 0, 160, .inl s_tape)), (a_code, .inl (vxT x 0, 160, .inl s_code)), (a_e, .inl (vxT x 0, 3, .inl ends))]) rfl dX1_read_106 ?_
  refine v_iload_n X 0 rfl dX1_read_109 ?_
  refine v_if_eq X (tgt := 135) hf (by decide) dX1_read_110 (fun c110 hf => ?_) (fun c110 hf => ?_)
  · refine v_null X dX1_read_135 ?_
    obtain rfl := Option.some.inj hf
    refine v_sub (ws' := [(a0, .inr (1, [.int 0, .int s_fault, .ref a_tape, .int s_at, .int s_token, .int s_tokenAt, .int s_value, .ref a_code, .int s_codeSize])), (a_tape, .inl (vxT x 0, 160, .inl s_tape)), (a_code, .inl (vxT x 0, 160, .inl s_code))]) [0, 1, 2] (by decide) rfl ?_
    refine v_wid (k' := 3) (n' := 165) (by decide) (by decide) ?_
    exact v_aret (hR0 rfl) dX1_read_136
  · refine v_new (ci := 5) X xinX5 tyX5 tyX5_ok wd823 wd824 wd57 rfl (fs := [.null, .null]) (by decide +kernel) (by rw [hRm]; decide) (by rw [hRm]; decide) dX1_read_113 (fun q113_2 => ?_)
    refine v_ws (ws' := [(a0, .inr (1, [.int 0, .int s_fault, .ref a_tape, .int s_at, .int s_token, .int s_tokenAt, .int s_value, .ref a_code, .int s_codeSize])), (a_tape, .inl (vxT x 0, 160, .inl s_tape)), (a_code, .inl (vxT x 0, 160, .inl s_code)), (a_e, .inl (vxT x 0, 3, .inl ends)), (q113_2, .inr (5, [.null, .null]))]) rfl ?_
    refine v_dup X rfl dX1_read_116 ?_
    refine v_aload_n X 1 rfl dX1_read_117 ?_
    refine v_get X xinX1 0 rfl rfl 7 (by decide) wd98 rfl rfl dX1_read_118 ?_
    refine v_aload_n X 1 rfl dX1_read_121 ?_
    refine v_get X xinX1 0 rfl rfl 8 (by decide) wd97 rfl rfl dX1_read_122 ?_
    obtain ⟨hcb, hf⟩ := if_some hf
    refine v_scallRef X (c_copyOf X.2.2.2.2.2.2.2.1 hcb) cws_X1_52 rfl (by decide) ⟨by rw [hRm]; decide, by rw [hRm]; decide⟩ [2] [0, 1, 3, 4] [0, 1, 4, 2, 3, 5] rfl (by decide) (wr := [(a0, .inr (1, [.int 0, .int s_fault, .ref a_tape, .int s_at, .int s_token, .int s_tokenAt, .int s_value, .ref a_code, .int s_codeSize])), (a_tape, .inl (vxT x 0, 160, .inl s_tape)), (a_e, .inl (vxT x 0, 3, .inl ends)), (q113_2, .inr (5, [.null, .null]))]) rfl (by decide) (by decide) (by decide) (Nat.le_of_ble_eq_true rfl) rfl dX1_read_125 ?_
    rintro q125_3 _ rfl
    refine ⟨[(a0, .inr (1, [.int 0, .int s_fault, .ref a_tape, .int s_at, .int s_token, .int s_tokenAt, .int s_value, .ref a_code, .int s_codeSize])), (a_tape, .inl (vxT x 0, 160, .inl s_tape)), (a_code, .inl (vxT x 0, 160, .inl s_code)), (a_e, .inl (vxT x 0, 3, .inl ends)), (q113_2, .inr (5, [.null, .null])), (q125_3, .inl (vxT x 0, (Int32.toNatClampNeg s_codeSize), .inl s_code))], rfl, ?_⟩
    refine v_aload_n X 2 rfl dX1_read_128 ?_
    refine v_cinit X (c_X5_init X.2.2.2.2.2.2.2.1) cwi_X1_58 rfl (by decide) ⟨by rw [hRm]; decide, by rw [hRm]; decide⟩ [4] [0, 1, 2, 3, 5] [0, 1, 2, 3, 5, 4] rfl (by decide) (wr := [(a0, .inr (1, [.int 0, .int s_fault, .ref a_tape, .int s_at, .int s_token, .int s_tokenAt, .int s_value, .ref a_code, .int s_codeSize])), (a_tape, .inl (vxT x 0, 160, .inl s_tape)), (a_code, .inl (vxT x 0, 160, .inl s_code)), (a_e, .inl (vxT x 0, 3, .inl ends)), (q125_3, .inl (vxT x 0, (Int32.toNatClampNeg s_codeSize), .inl s_code))]) rfl (by decide) (by decide) (by decide) (Nat.le_of_ble_eq_true rfl) rfl dX1_read_129 ?_
    rintro _ rfl
    refine ⟨[(a0, .inr (1, [.int 0, .int s_fault, .ref a_tape, .int s_at, .int s_token, .int s_tokenAt, .int s_value, .ref a_code, .int s_codeSize])), (a_tape, .inl (vxT x 0, 160, .inl s_tape)), (a_code, .inl (vxT x 0, 160, .inl s_code)), (a_e, .inl (vxT x 0, 3, .inl ends)), (q113_2, .inr (5, [.ref q125_3, .ref a_e])), (q125_3, .inl (vxT x 0, (Int32.toNatClampNeg s_codeSize), .inl s_code))], rfl, ?_⟩
    refine v_goto X (tgt := 136) (by decide) dX1_read_132 ?_
    obtain rfl := Option.some.inj hf
    refine v_sub (ws' := [(a0, .inr (1, [.int 0, .int s_fault, .ref a_tape, .int s_at, .int s_token, .int s_tokenAt, .int s_value, .ref a_code, .int s_codeSize])), (a_tape, .inl (vxT x 0, 160, .inl s_tape)), (a_code, .inl (vxT x 0, 160, .inl s_code)), (q113_2, .inr (5, [.ref q125_3, .ref a_e])), (q125_3, .inl (vxT x 0, (Int32.toNatClampNeg s_codeSize), .inl s_code)), (a_e, .inl (vxT x 0, 3, .inl ends))]) [0, 1, 2, 4, 5, 3] (by decide) rfl ?_
    exact v_aret (hR1 rfl _ _) dX1_read_136
set_option maxRecDepth 100000 in
set_option maxHeartbeats 4000000 in
theorem t_X1_readF_102 {x : VX} {r : Int32 × Int32 × Int32 × Int32 × Int32 × Int32 × Int32 × Int32 × (Nat → Int32) × (Nat → Int32)} {a0 : Nat} {a_tape : Nat} {a_code : Nat} {a_e : Nat} {s_size : Int32} {s_fault : Int32} {s_at : Int32} {s_token : Int32} {s_tokenAt : Int32} {s_value : Int32} {s_codeSize : Int32} {s_tape : Nat → Int32} {s_code : Nat → Int32} {ends : Nat → Int32} (X : Cx x cX1_read RX1 99) (hN : vxn x = 4) (hRm : vxR x = rmD 99 3 165) (hWd : WordsK (vxD x) (vxT x) (vxZ x)) (hR0 : r.1 = 0 → RetA x cX1_read 3 165 .null [(a0, .inr (1, [.int r.2.1, .int r.2.2.1, .ref a_tape, .int r.2.2.2.1, .int r.2.2.2.2.1, .int r.2.2.2.2.2.1, .int r.2.2.2.2.2.2.1, .ref a_code, .int r.2.2.2.2.2.2.2.1])), (a_tape, .inl (vxT x 0, 160, .inl s_tape)), (a_code, .inl (vxT x 0, 160, .inl r.2.2.2.2.2.2.2.2.1))]) (hR1 : r.1 = 1 → ∀ qt qc : Nat, RetA x cX1_read 3 165 (.ref qt) [(a0, .inr (1, [.int r.2.1, .int r.2.2.1, .ref a_tape, .int r.2.2.2.1, .int r.2.2.2.2.1, .int r.2.2.2.2.2.1, .int r.2.2.2.2.2.2.1, .ref a_code, .int r.2.2.2.2.2.2.2.1])), (a_tape, .inl (vxT x 0, 160, .inl s_tape)), (a_code, .inl (vxT x 0, 160, .inl r.2.2.2.2.2.2.2.2.1)), (qt, .inr (5, [.ref qc, .ref a_e])), (qc, .inl (vxT x 0, (Int32.toNatClampNeg r.2.2.2.2.2.2.2.1), .inl r.2.2.2.2.2.2.2.2.1)), (a_e, .inl (vxT x 0, 3, .inl r.2.2.2.2.2.2.2.2.2))]) (hf : f_X1_readF_102 s_fault s_at s_token s_tokenAt s_value s_codeSize s_code ends = some r) : V x 1 3 [(a0, .inr (1, [.int s_size, .int s_fault, .ref a_tape, .int s_at, .int s_token, .int s_tokenAt, .int s_value, .ref a_code, .int s_codeSize])), (a_tape, .inl (vxT x 0, 160, .inl s_tape)), (a_code, .inl (vxT x 0, 160, .inl s_code)), (a_e, .inl (vxT x 0, 3, .inl ends))] [(0, .ref a0), (1, .ref a_e)] 102 [] := by
  unfold f_X1_readF_102 at hf
  refine v_iconst X (v := 0) (by decide) dX1_read_102 ?_
  exact t_X1_readF_103 X hN hRm hWd hR0 hR1 hf
set_option maxRecDepth 100000 in
set_option maxHeartbeats 4000000 in
theorem t_X1_readF_84 {x : VX} {r : Int32 × Int32 × Int32 × Int32 × Int32 × Int32 × Int32 × Int32 × (Nat → Int32) × (Nat → Int32)} {a0 : Nat} {a_tape : Nat} {a_code : Nat} {a_e : Nat} {s_size : Int32} {s_fault : Int32} {s_at : Int32} {s_token : Int32} {s_tokenAt : Int32} {s_value : Int32} {s_codeSize : Int32} {s_tape : Nat → Int32} {s_code : Nat → Int32} {ends : Nat → Int32} {l2 : Int32} (X : Cx x cX1_read RX1 99) (hN : vxn x = 4) (hRm : vxR x = rmD 99 3 165) (hWd : WordsK (vxD x) (vxT x) (vxZ x)) (hR0 : r.1 = 0 → RetA x cX1_read 3 165 .null [(a0, .inr (1, [.int r.2.1, .int r.2.2.1, .ref a_tape, .int r.2.2.2.1, .int r.2.2.2.2.1, .int r.2.2.2.2.2.1, .int r.2.2.2.2.2.2.1, .ref a_code, .int r.2.2.2.2.2.2.2.1])), (a_tape, .inl (vxT x 0, 160, .inl s_tape)), (a_code, .inl (vxT x 0, 160, .inl r.2.2.2.2.2.2.2.2.1))]) (hR1 : r.1 = 1 → ∀ qt qc : Nat, RetA x cX1_read 3 165 (.ref qt) [(a0, .inr (1, [.int r.2.1, .int r.2.2.1, .ref a_tape, .int r.2.2.2.1, .int r.2.2.2.2.1, .int r.2.2.2.2.2.1, .int r.2.2.2.2.2.2.1, .ref a_code, .int r.2.2.2.2.2.2.2.1])), (a_tape, .inl (vxT x 0, 160, .inl s_tape)), (a_code, .inl (vxT x 0, 160, .inl r.2.2.2.2.2.2.2.2.1)), (qt, .inr (5, [.ref qc, .ref a_e])), (qc, .inl (vxT x 0, (Int32.toNatClampNeg r.2.2.2.2.2.2.2.1), .inl r.2.2.2.2.2.2.2.2.1)), (a_e, .inl (vxT x 0, 3, .inl r.2.2.2.2.2.2.2.2.2))]) (hf : f_X1_readF_84 s_size s_fault s_at s_token s_tokenAt s_value s_codeSize s_tape s_code ends l2 = some r) : V x 1 3 [(a0, .inr (1, [.int s_size, .int s_fault, .ref a_tape, .int s_at, .int s_token, .int s_tokenAt, .int s_value, .ref a_code, .int s_codeSize])), (a_tape, .inl (vxT x 0, 160, .inl s_tape)), (a_code, .inl (vxT x 0, 160, .inl s_code)), (a_e, .inl (vxT x 0, 3, .inl ends))] [(0, .ref a0), (1, .ref a_e), (2, .int l2)] 84 [] := by
  unfold f_X1_readF_84 at hf
  refine v_iload_n X 2 rfl dX1_read_84 ?_
  refine v_if_eq X (tgt := 102) hf (by decide) dX1_read_85 (fun c85 hf => ?_) (fun c85 hf => ?_)
  · refine v_lv [0, 1] rfl ?_
    exact t_X1_readF_102 X hN hRm hWd hR0 hR1 hf
  · refine v_aload_n X 0 rfl dX1_read_88 ?_
    refine v_sipush X (v := 256) (by decide) dX1_read_89 ?_
    obtain ⟨v92_4, hv92_4, hf⟩ := bd_some hf
    refine v_callI X (c_X1_expect X.2.2.2.2.2.2.2.1 hWd hv92_4) cwv_X1_43 rfl (by decide) ⟨by rw [hRm]; decide, by rw [hRm]; decide⟩ 0 rfl rfl [0, 1] [2, 3] [2, 3, 0, 1] rfl (by decide) (wr := [(a_code, .inl (vxT x 0, 160, .inl s_code)), (a_e, .inl (vxT x 0, 3, .inl ends))]) rfl (by decide) (by decide) (ws2 := [(a0, .inr (1, [.int s_size, .int v92_4.2.1, .ref a_tape, .int v92_4.2.2.1, .int v92_4.2.2.2.1, .int v92_4.2.2.2.2.1, .int v92_4.2.2.2.2.2, .ref a_code, .int s_codeSize])), (a_tape, .inl (vxT x 0, 160, .inl s_tape)), (a_code, .inl (vxT x 0, 160, .inl s_code)), (a_e, .inl (vxT x 0, 3, .inl ends))]) rfl (by decide) (Nat.le_of_ble_eq_true rfl) rfl dX1_read_92 ?_
    refine v_if_eq X (tgt := 102) hf (by decide) dX1_read_95 (fun c95 hf => ?_) (fun c95 hf => ?_)
    · refine v_lv [0, 1] rfl ?_
      exact t_X1_readF_102 X hN hRm hWd hR0 hR1 hf
    · refine v_iconst X (v := 1) (by decide) dX1_read_98 ?_
      refine v_goto X (tgt := 103) (by decide) dX1_read_99 ?_
      refine v_lv [0, 1] rfl ?_
      exact t_X1_readF_103 X hN hRm hWd hR0 hR1 hf
set_option maxRecDepth 100000 in
set_option maxHeartbeats 4000000 in
theorem t_X1_readF_27 {x : VX} {r : Int32 × Int32 × Int32 × Int32 × Int32 × Int32 × Int32 × Int32 × (Nat → Int32) × (Nat → Int32)} {a0 : Nat} {a_tape : Nat} {a_code : Nat} {a_e : Nat} {s_size : Int32} {s_tape : Nat → Int32} (X : Cx x cX1_read RX1 99) (hN : vxn x = 4) (hRm : vxR x = rmD 99 3 165) (hWd : WordsK (vxD x) (vxT x) (vxZ x)) (hR0 : r.1 = 0 → RetA x cX1_read 3 165 .null [(a0, .inr (1, [.int r.2.1, .int r.2.2.1, .ref a_tape, .int r.2.2.2.1, .int r.2.2.2.2.1, .int r.2.2.2.2.2.1, .int r.2.2.2.2.2.2.1, .ref a_code, .int r.2.2.2.2.2.2.2.1])), (a_tape, .inl (vxT x 0, 160, .inl s_tape)), (a_code, .inl (vxT x 0, 160, .inl r.2.2.2.2.2.2.2.2.1))]) (hR1 : r.1 = 1 → ∀ qt qc : Nat, RetA x cX1_read 3 165 (.ref qt) [(a0, .inr (1, [.int r.2.1, .int r.2.2.1, .ref a_tape, .int r.2.2.2.1, .int r.2.2.2.2.1, .int r.2.2.2.2.2.1, .int r.2.2.2.2.2.2.1, .ref a_code, .int r.2.2.2.2.2.2.2.1])), (a_tape, .inl (vxT x 0, 160, .inl s_tape)), (a_code, .inl (vxT x 0, 160, .inl r.2.2.2.2.2.2.2.2.1)), (qt, .inr (5, [.ref qc, .ref a_e])), (qc, .inl (vxT x 0, (Int32.toNatClampNeg r.2.2.2.2.2.2.2.1), .inl r.2.2.2.2.2.2.2.2.1)), (a_e, .inl (vxT x 0, 3, .inl r.2.2.2.2.2.2.2.2.2))]) :
    ∀ (fu : Nat) (l2 : Int32) (l3 : Int32) (s_fault : Int32) (s_at : Int32) (s_token : Int32) (s_tokenAt : Int32) (s_value : Int32) (s_codeSize : Int32) (s_code : Nat → Int32) (ends : Nat → Int32), lq10 (f_X1_readF_27 s_size s_tape) fu l2 l3 s_fault s_at s_token s_tokenAt s_value s_codeSize s_code ends = some r → V x 1 3 [(a0, .inr (1, [.int s_size, .int s_fault, .ref a_tape, .int s_at, .int s_token, .int s_tokenAt, .int s_value, .ref a_code, .int s_codeSize])), (a_tape, .inl (vxT x 0, 160, .inl s_tape)), (a_code, .inl (vxT x 0, 160, .inl s_code)), (a_e, .inl (vxT x 0, 3, .inl ends))] [(0, .ref a0), (1, .ref a_e), (2, .int l2), (3, .int l3)] 27 [] := by
  refine lq10_V (G := fun l2 l3 s_fault s_at s_token s_tokenAt s_value s_codeSize s_code ends => V x 1 3 [(a0, .inr (1, [.int s_size, .int s_fault, .ref a_tape, .int s_at, .int s_token, .int s_tokenAt, .int s_value, .ref a_code, .int s_codeSize])), (a_tape, .inl (vxT x 0, 160, .inl s_tape)), (a_code, .inl (vxT x 0, 160, .inl s_code)), (a_e, .inl (vxT x 0, 3, .inl ends))] [(0, .ref a0), (1, .ref a_e), (2, .int l2), (3, .int l3)] 27 []) ?_
  intro kp_27 hk_27 l2 l3 s_fault s_at s_token s_tokenAt s_value s_codeSize s_code ends hf
  unfold f_X1_readF_27 at hf
  refine v_iload_n X 3 rfl dX1_read_27 ?_
  refine v_iconst X (v := 3) (by decide) dX1_read_28 ?_
  refine v_icmp_ge X (tgt := 84) hf (by decide) dX1_read_29 (fun c29 hf => ?_) (fun c29 hf => ?_)
  · refine v_lv [0, 1, 2] rfl ?_
    exact t_X1_readF_84 X hN hRm hWd hR0 hR1 hf
  · refine v_iload_n X 2 rfl dX1_read_32 ?_
    refine v_if_eq X (tgt := 84) hf (by decide) dX1_read_33 (fun c33 hf => ?_) (fun c33 hf => ?_)
    · refine v_lv [0, 1, 2] rfl ?_
      exact t_X1_readF_84 X hN hRm hWd hR0 hR1 hf
    · refine v_aload_n X 0 rfl dX1_read_36 ?_
      refine v_sipush X (v := 260) (by decide) dX1_read_37 ?_
      refine v_iload_n X 3 rfl dX1_read_40 ?_
      refine v_iadd X dX1_read_41 ?_
      obtain ⟨v42_5, hv42_5, hf⟩ := bd_some hf
      refine v_callI X (c_X1_expect X.2.2.2.2.2.2.2.1 hWd hv42_5) cwv_X1_43 rfl (by decide) ⟨by rw [hRm]; decide, by rw [hRm]; decide⟩ 0 rfl rfl [0, 1] [2, 3] [2, 3, 0, 1] rfl (by decide) (wr := [(a_code, .inl (vxT x 0, 160, .inl s_code)), (a_e, .inl (vxT x 0, 3, .inl ends))]) rfl (by decide) (by decide) (ws2 := [(a0, .inr (1, [.int s_size, .int v42_5.2.1, .ref a_tape, .int v42_5.2.2.1, .int v42_5.2.2.2.1, .int v42_5.2.2.2.2.1, .int v42_5.2.2.2.2.2, .ref a_code, .int s_codeSize])), (a_tape, .inl (vxT x 0, 160, .inl s_tape)), (a_code, .inl (vxT x 0, 160, .inl s_code)), (a_e, .inl (vxT x 0, 3, .inl ends))]) rfl (by decide) (Nat.le_of_ble_eq_true rfl) rfl dX1_read_42 ?_
      refine v_if_eq X (tgt := 69) hf (by decide) dX1_read_45 (fun c45 hf => ?_) (fun c45 hf => ?_)
      · refine v_iconst X (v := 0) (by decide) dX1_read_69 ?_
        refine v_istore_n X rfl (by rw [hN]; decide) (lv' := [(2, .int 0), (0, .ref a0), (1, .ref a_e), (3, .int l3)]) rfl dX1_read_70 ?_
        refine v_aload_n X 2 rfl dX1_read_71 ?_
        refine v_iload_n X 3 rfl dX1_read_72 ?_
        refine v_aload_n X 1 rfl dX1_read_73 ?_
        refine v_get X xinX1 0 rfl rfl 8 (by decide) wd97 rfl rfl dX1_read_74 ?_
        refine v_iast X 3 rfl hf (ws' := [(a0, .inr (1, [.int s_size, .int v42_5.2.1, .ref a_tape, .int v42_5.2.2.1, .int v42_5.2.2.2.1, .int v42_5.2.2.2.2.1, .int v42_5.2.2.2.2.2, .ref a_code, .int s_codeSize])), (a_tape, .inl (vxT x 0, 160, .inl s_tape)), (a_code, .inl (vxT x 0, 160, .inl s_code)), (a_e, .inl (vxT x 0, 3, .inl (upd ends (Int32.toNatClampNeg l3) s_codeSize)))]) rfl dX1_read_77 (fun h77 hf => ?_)
        refine v_iinc X 3 rfl (v := (l3 + 1)) rfl (by rw [hN]; decide) (lv' := [(3, .int (l3 + 1)), (2, .int 0), (0, .ref a0), (1, .ref a_e)]) rfl dX1_read_78 ?_
        refine v_goto X (tgt := 27) (by decide) dX1_read_81 ?_
        refine v_lv [2, 3, 1, 0] rfl ?_
        exact hk_27 _ _ _ _ _ _ _ _ _ _ hf
      · refine v_aload_n X 0 rfl dX1_read_48 ?_
        refine v_iconst X (v := 0) (by decide) dX1_read_49 ?_
        obtain ⟨v50_6, hv50_6, hf⟩ := bd_some hf
        refine v_callI X ((RT_C X.2.2.2.2.2.2.2.1 hWd 7).1 _ _ _ _ _ _ _ _ _ _ _ _ _ _ hv50_6) cwv_X1_47 rfl (by decide) ⟨by rw [hRm]; decide, by rw [hRm]; decide⟩ 0 rfl rfl [0, 1, 2] [3] [1, 2, 3, 0] rfl (by decide) (wr := [(a_e, .inl (vxT x 0, 3, .inl ends))]) rfl (by decide) (by decide) (ws2 := [(a0, .inr (1, [.int s_size, .int v50_6.2.1, .ref a_tape, .int v50_6.2.2.1, .int v50_6.2.2.2.1, .int v50_6.2.2.2.2.1, .int v50_6.2.2.2.2.2.1, .ref a_code, .int v50_6.2.2.2.2.2.2.1])), (a_tape, .inl (vxT x 0, 160, .inl s_tape)), (a_code, .inl (vxT x 0, 160, .inl v50_6.2.2.2.2.2.2.2)), (a_e, .inl (vxT x 0, 3, .inl ends))]) rfl (by decide) (Nat.le_of_ble_eq_true rfl) rfl dX1_read_50 ?_
        refine v_if_eq X (tgt := 69) hf (by decide) dX1_read_53 (fun c53 hf => ?_) (fun c53 hf => ?_)
        · refine v_iconst X (v := 0) (by decide) dX1_read_69 ?_
          refine v_istore_n X rfl (by rw [hN]; decide) (lv' := [(2, .int 0), (0, .ref a0), (1, .ref a_e), (3, .int l3)]) rfl dX1_read_70 ?_
          refine v_aload_n X 2 rfl dX1_read_71 ?_
          refine v_iload_n X 3 rfl dX1_read_72 ?_
          refine v_aload_n X 1 rfl dX1_read_73 ?_
          refine v_get X xinX1 0 rfl rfl 8 (by decide) wd97 rfl rfl dX1_read_74 ?_
          refine v_iast X 3 rfl hf (ws' := [(a0, .inr (1, [.int s_size, .int v50_6.2.1, .ref a_tape, .int v50_6.2.2.1, .int v50_6.2.2.2.1, .int v50_6.2.2.2.2.1, .int v50_6.2.2.2.2.2.1, .ref a_code, .int v50_6.2.2.2.2.2.2.1])), (a_tape, .inl (vxT x 0, 160, .inl s_tape)), (a_code, .inl (vxT x 0, 160, .inl v50_6.2.2.2.2.2.2.2)), (a_e, .inl (vxT x 0, 3, .inl (upd ends (Int32.toNatClampNeg l3) v50_6.2.2.2.2.2.2.1)))]) rfl dX1_read_77 (fun h77 hf => ?_)
          refine v_iinc X 3 rfl (v := (l3 + 1)) rfl (by rw [hN]; decide) (lv' := [(3, .int (l3 + 1)), (2, .int 0), (0, .ref a0), (1, .ref a_e)]) rfl dX1_read_78 ?_
          refine v_goto X (tgt := 27) (by decide) dX1_read_81 ?_
          refine v_lv [2, 3, 1, 0] rfl ?_
          exact hk_27 _ _ _ _ _ _ _ _ _ _ hf
        · refine v_aload_n X 0 rfl dX1_read_56 ?_
          refine v_bipush X (v := 59) (by decide) dX1_read_57 ?_
          obtain ⟨v59_7, hv59_7, hf⟩ := bd_some hf
          refine v_callI X (c_X1_expect X.2.2.2.2.2.2.2.1 hWd hv59_7) cwv_X1_43 rfl (by decide) ⟨by rw [hRm]; decide, by rw [hRm]; decide⟩ 0 rfl rfl [0, 1] [2, 3] [2, 3, 0, 1] rfl (by decide) (wr := [(a_code, .inl (vxT x 0, 160, .inl v50_6.2.2.2.2.2.2.2)), (a_e, .inl (vxT x 0, 3, .inl ends))]) rfl (by decide) (by decide) (ws2 := [(a0, .inr (1, [.int s_size, .int v59_7.2.1, .ref a_tape, .int v59_7.2.2.1, .int v59_7.2.2.2.1, .int v59_7.2.2.2.2.1, .int v59_7.2.2.2.2.2, .ref a_code, .int v50_6.2.2.2.2.2.2.1])), (a_tape, .inl (vxT x 0, 160, .inl s_tape)), (a_code, .inl (vxT x 0, 160, .inl v50_6.2.2.2.2.2.2.2)), (a_e, .inl (vxT x 0, 3, .inl ends))]) rfl (by decide) (Nat.le_of_ble_eq_true rfl) rfl dX1_read_59 ?_
          refine v_if_eq X (tgt := 69) hf (by decide) dX1_read_62 (fun c62 hf => ?_) (fun c62 hf => ?_)
          · refine v_iconst X (v := 0) (by decide) dX1_read_69 ?_
            refine v_istore_n X rfl (by rw [hN]; decide) (lv' := [(2, .int 0), (0, .ref a0), (1, .ref a_e), (3, .int l3)]) rfl dX1_read_70 ?_
            refine v_aload_n X 2 rfl dX1_read_71 ?_
            refine v_iload_n X 3 rfl dX1_read_72 ?_
            refine v_aload_n X 1 rfl dX1_read_73 ?_
            refine v_get X xinX1 0 rfl rfl 8 (by decide) wd97 rfl rfl dX1_read_74 ?_
            refine v_iast X 3 rfl hf (ws' := [(a0, .inr (1, [.int s_size, .int v59_7.2.1, .ref a_tape, .int v59_7.2.2.1, .int v59_7.2.2.2.1, .int v59_7.2.2.2.2.1, .int v59_7.2.2.2.2.2, .ref a_code, .int v50_6.2.2.2.2.2.2.1])), (a_tape, .inl (vxT x 0, 160, .inl s_tape)), (a_code, .inl (vxT x 0, 160, .inl v50_6.2.2.2.2.2.2.2)), (a_e, .inl (vxT x 0, 3, .inl (upd ends (Int32.toNatClampNeg l3) v50_6.2.2.2.2.2.2.1)))]) rfl dX1_read_77 (fun h77 hf => ?_)
            refine v_iinc X 3 rfl (v := (l3 + 1)) rfl (by rw [hN]; decide) (lv' := [(3, .int (l3 + 1)), (2, .int 0), (0, .ref a0), (1, .ref a_e)]) rfl dX1_read_78 ?_
            refine v_goto X (tgt := 27) (by decide) dX1_read_81 ?_
            refine v_lv [2, 3, 1, 0] rfl ?_
            exact hk_27 _ _ _ _ _ _ _ _ _ _ hf
          · refine v_iconst X (v := 1) (by decide) dX1_read_65 ?_
            refine v_goto X (tgt := 70) (by decide) dX1_read_66 ?_
            refine v_istore_n X rfl (by rw [hN]; decide) (lv' := [(2, .int 1), (0, .ref a0), (1, .ref a_e), (3, .int l3)]) rfl dX1_read_70 ?_
            refine v_aload_n X 2 rfl dX1_read_71 ?_
            refine v_iload_n X 3 rfl dX1_read_72 ?_
            refine v_aload_n X 1 rfl dX1_read_73 ?_
            refine v_get X xinX1 0 rfl rfl 8 (by decide) wd97 rfl rfl dX1_read_74 ?_
            refine v_iast X 3 rfl hf (ws' := [(a0, .inr (1, [.int s_size, .int v59_7.2.1, .ref a_tape, .int v59_7.2.2.1, .int v59_7.2.2.2.1, .int v59_7.2.2.2.2.1, .int v59_7.2.2.2.2.2, .ref a_code, .int v50_6.2.2.2.2.2.2.1])), (a_tape, .inl (vxT x 0, 160, .inl s_tape)), (a_code, .inl (vxT x 0, 160, .inl v50_6.2.2.2.2.2.2.2)), (a_e, .inl (vxT x 0, 3, .inl (upd ends (Int32.toNatClampNeg l3) v50_6.2.2.2.2.2.2.1)))]) rfl dX1_read_77 (fun h77 hf => ?_)
            refine v_iinc X 3 rfl (v := (l3 + 1)) rfl (by rw [hN]; decide) (lv' := [(3, .int (l3 + 1)), (2, .int 1), (0, .ref a0), (1, .ref a_e)]) rfl dX1_read_78 ?_
            refine v_goto X (tgt := 27) (by decide) dX1_read_81 ?_
            refine v_lv [2, 3, 1, 0] rfl ?_
            exact hk_27 _ _ _ _ _ _ _ _ _ _ hf
set_option maxRecDepth 100000 in
set_option maxHeartbeats 4000000 in
theorem t_X1_readF {x : VX} {r : Int32 × Int32 × Int32 × Int32 × Int32 × Int32 × Int32 × Int32 × (Nat → Int32) × (Nat → Int32)} {a0 : Nat} {a_tape : Nat} {a_code : Nat} {a_e : Nat} {s_size : Int32} {s_fault : Int32} {s_at : Int32} {s_token : Int32} {s_tokenAt : Int32} {s_value : Int32} {s_codeSize : Int32} {s_tape : Nat → Int32} {s_code : Nat → Int32} {ends : Nat → Int32} (X : Cx x cX1_read RX1 99) (hN : vxn x = 4) (hRm : vxR x = rmD 99 3 165) (hWd : WordsK (vxD x) (vxT x) (vxZ x)) (hR0 : r.1 = 0 → RetA x cX1_read 3 165 .null [(a0, .inr (1, [.int r.2.1, .int r.2.2.1, .ref a_tape, .int r.2.2.2.1, .int r.2.2.2.2.1, .int r.2.2.2.2.2.1, .int r.2.2.2.2.2.2.1, .ref a_code, .int r.2.2.2.2.2.2.2.1])), (a_tape, .inl (vxT x 0, 160, .inl s_tape)), (a_code, .inl (vxT x 0, 160, .inl r.2.2.2.2.2.2.2.2.1))]) (hR1 : r.1 = 1 → ∀ qt qc : Nat, RetA x cX1_read 3 165 (.ref qt) [(a0, .inr (1, [.int r.2.1, .int r.2.2.1, .ref a_tape, .int r.2.2.2.1, .int r.2.2.2.2.1, .int r.2.2.2.2.2.1, .int r.2.2.2.2.2.2.1, .ref a_code, .int r.2.2.2.2.2.2.2.1])), (a_tape, .inl (vxT x 0, 160, .inl s_tape)), (a_code, .inl (vxT x 0, 160, .inl r.2.2.2.2.2.2.2.2.1)), (qt, .inr (5, [.ref qc, .ref a_e])), (qc, .inl (vxT x 0, (Int32.toNatClampNeg r.2.2.2.2.2.2.2.1), .inl r.2.2.2.2.2.2.2.2.1)), (a_e, .inl (vxT x 0, 3, .inl r.2.2.2.2.2.2.2.2.2))]) (hf : f_X1_readF s_size s_fault s_at s_value s_codeSize s_tape s_code ends = some r) : V x 1 3 [(a0, .inr (1, [.int s_size, .int s_fault, .ref a_tape, .int s_at, .int s_token, .int s_tokenAt, .int s_value, .ref a_code, .int s_codeSize])), (a_tape, .inl (vxT x 0, 160, .inl s_tape)), (a_code, .inl (vxT x 0, 160, .inl s_code)), (a_e, .inl (vxT x 0, 3, .inl ends))] [(1, .ref a_e), (0, .ref a0)] 19 [] := by
  unfold f_X1_readF at hf
  refine v_aload_n X 1 rfl dX1_read_19 ?_
  obtain ⟨v20_1, hv20_1, hf⟩ := bd_some hf
  refine v_callV X (c_X1_next X.2.2.2.2.2.2.2.1 hWd hv20_1) cwv_X1_40 rfl (by decide) ⟨by rw [hRm]; decide, by rw [hRm]; decide⟩ 0 rfl rfl [0, 1] [2, 3] [2, 3, 0, 1] rfl (by decide) (wr := [(a_code, .inl (vxT x 0, 160, .inl s_code)), (a_e, .inl (vxT x 0, 3, .inl ends))]) rfl (by decide) (by decide) (ws2 := [(a0, .inr (1, [.int s_size, .int s_fault, .ref a_tape, .int v20_1.1, .int v20_1.2.1, .int v20_1.2.2.1, .int v20_1.2.2.2, .ref a_code, .int s_codeSize])), (a_tape, .inl (vxT x 0, 160, .inl s_tape)), (a_code, .inl (vxT x 0, 160, .inl s_code)), (a_e, .inl (vxT x 0, 3, .inl ends))]) rfl (by decide) (Nat.le_of_ble_eq_true rfl) rfl dX1_read_20 ?_
  refine v_iconst X (v := 1) (by decide) dX1_read_23 ?_
  refine v_istore_n X rfl (by rw [hN]; decide) (lv' := [(2, .int 1), (1, .ref a_e), (0, .ref a0)]) rfl dX1_read_24 ?_
  refine v_iconst X (v := 0) (by decide) dX1_read_25 ?_
  refine v_istore_n X rfl (by rw [hN]; decide) (lv' := [(3, .int 0), (2, .int 1), (1, .ref a_e), (0, .ref a0)]) rfl dX1_read_26 ?_
  refine v_lv [3, 2, 1, 0] rfl ?_
  exact t_X1_readF_27 X hN hRm hWd hR0 hR1 200 _ _ _ _ _ _ _ _ _ _ hf
def f_X1_read (s_size : Int32) (s_value : Int32) (s_tape : Nat → Int32) (s_code : Nat → Int32) : Option (Int32 × Int32 × Int32 × Int32 × Int32 × Int32 × Int32 × Int32 × (Nat → Int32) × (Nat → Int32)) :=
  f_X1_readF s_size (-1) 0 s_value 0 s_tape s_code (fun _ => 0)
set_option maxRecDepth 100000 in
set_option maxHeartbeats 4000000 in
theorem t_X1_read {x : VX} {r : Int32 × Int32 × Int32 × Int32 × Int32 × Int32 × Int32 × Int32 × (Nat → Int32) × (Nat → Int32)} {a0 : Nat} {a_tape : Nat} {a_code : Nat} {s_size : Int32} {s_fault : Int32} {s_at : Int32} {s_token : Int32} {s_tokenAt : Int32} {s_value : Int32} {s_codeSize : Int32} {s_tape : Nat → Int32} {s_code : Nat → Int32} (X : Cx x cX1_read RX1 99) (hN : vxn x = 4) (hRm : vxR x = rmD 99 3 165) (hWd : WordsK (vxD x) (vxT x) (vxZ x)) (hR0 : r.1 = 0 → RetA x cX1_read 3 165 .null [(a0, .inr (1, [.int r.2.1, .int r.2.2.1, .ref a_tape, .int r.2.2.2.1, .int r.2.2.2.2.1, .int r.2.2.2.2.2.1, .int r.2.2.2.2.2.2.1, .ref a_code, .int r.2.2.2.2.2.2.2.1])), (a_tape, .inl (vxT x 0, 160, .inl s_tape)), (a_code, .inl (vxT x 0, 160, .inl r.2.2.2.2.2.2.2.2.1))]) (hR1 : r.1 = 1 → ∀ qt qc qe : Nat, RetA x cX1_read 3 165 (.ref qt) [(a0, .inr (1, [.int r.2.1, .int r.2.2.1, .ref a_tape, .int r.2.2.2.1, .int r.2.2.2.2.1, .int r.2.2.2.2.2.1, .int r.2.2.2.2.2.2.1, .ref a_code, .int r.2.2.2.2.2.2.2.1])), (a_tape, .inl (vxT x 0, 160, .inl s_tape)), (a_code, .inl (vxT x 0, 160, .inl r.2.2.2.2.2.2.2.2.1)), (qt, .inr (5, [.ref qc, .ref qe])), (qc, .inl (vxT x 0, (Int32.toNatClampNeg r.2.2.2.2.2.2.2.1), .inl r.2.2.2.2.2.2.2.2.1)), (qe, .inl (vxT x 0, 3, .inl r.2.2.2.2.2.2.2.2.2))]) (hf : f_X1_read s_size s_value s_tape s_code = some r) : V x 0 0 [(a0, .inr (1, [.int s_size, .int s_fault, .ref a_tape, .int s_at, .int s_token, .int s_tokenAt, .int s_value, .ref a_code, .int s_codeSize])), (a_tape, .inl (vxT x 0, 160, .inl s_tape)), (a_code, .inl (vxT x 0, 160, .inl s_code))] [(0, .ref a0)] 0 [] := by
  unfold f_X1_read at hf
  refine v_aload_n X 0 rfl dX1_read_0 ?_
  refine v_iconst X (v := 0) (by decide) dX1_read_1 ?_
  refine v_put X xinX1 tyX1 tyX1_ok nmX1 0 rfl rfl 3 (by decide) wd101 rfl rfl rfl rfl rfl (Nat.le_of_ble_eq_true rfl) (ws' := [(a0, .inr (1, [.int s_size, .int s_fault, .ref a_tape, .int 0, .int s_token, .int s_tokenAt, .int s_value, .ref a_code, .int s_codeSize])), (a_tape, .inl (vxT x 0, 160, .inl s_tape)), (a_code, .inl (vxT x 0, 160, .inl s_code))]) rfl dX1_read_2 ?_
  refine v_aload_n X 0 rfl dX1_read_5 ?_
  refine v_iconst X (v := 0) (by decide) dX1_read_6 ?_
  refine v_put X xinX1 tyX1 tyX1_ok nmX1 0 rfl rfl 8 (by decide) wd97 rfl rfl rfl rfl rfl (Nat.le_of_ble_eq_true rfl) (ws' := [(a0, .inr (1, [.int s_size, .int s_fault, .ref a_tape, .int 0, .int s_token, .int s_tokenAt, .int s_value, .ref a_code, .int 0])), (a_tape, .inl (vxT x 0, 160, .inl s_tape)), (a_code, .inl (vxT x 0, 160, .inl s_code))]) rfl dX1_read_7 ?_
  refine v_aload_n X 0 rfl dX1_read_10 ?_
  refine v_iconst X (v := (-1)) (by decide) dX1_read_11 ?_
  refine v_put X xinX1 tyX1 tyX1_ok nmX1 0 rfl rfl 1 (by decide) wd96 rfl rfl rfl rfl rfl (Nat.le_of_ble_eq_true rfl) (ws' := [(a0, .inr (1, [.int s_size, .int (-1), .ref a_tape, .int 0, .int s_token, .int s_tokenAt, .int s_value, .ref a_code, .int 0])), (a_tape, .inl (vxT x 0, 160, .inl s_tape)), (a_code, .inl (vxT x 0, 160, .inl s_code))]) rfl dX1_read_12 ?_
  refine v_iconst X (v := 3) (by decide) dX1_read_15 ?_
  refine v_newi X (N := 3) (by decide) (by decide) (by decide) (by rw [hRm]; decide) (by rw [hRm]; decide) dX1_read_16 (fun q16_1 => ?_)
  refine v_ws (ws' := [(a0, .inr (1, [.int s_size, .int (-1), .ref a_tape, .int 0, .int s_token, .int s_tokenAt, .int s_value, .ref a_code, .int 0])), (a_tape, .inl (vxT x 0, 160, .inl s_tape)), (a_code, .inl (vxT x 0, 160, .inl s_code)), (q16_1, .inl (vxT x 0, 3, .inl (fun _ => 0)))]) rfl ?_
  refine v_astore_n X rfl (by rw [hN]; decide) (lv' := [(1, .ref q16_1), (0, .ref a0)]) rfl dX1_read_18 ?_
  exact t_X1_readF X hN hRm hWd hR0 (fun h qt qc => hR1 h qt qc q16_1) hf
set_option maxRecDepth 100000 in
set_option maxHeartbeats 4000000 in
theorem c_X1_read0 {l : Launch} {D : va_G} {qT : Nat → ClassId} {Z : (Nat → Prop) → State → Heap → Prop} {r : Int32 × Int32 × Int32 × Int32 × Int32 × Int32 × Int32 × Int32 × (Nat → Int32) × (Nat → Int32)} {a0 : Nat} {a_tape : Nat} {a_code : Nat} {s_size : Int32} {s_fault : Int32} {s_at : Int32} {s_token : Int32} {s_tokenAt : Int32} {s_value : Int32} {s_codeSize : Int32} {s_tape : Nat → Int32} {s_code : Nat → Int32} (hZ : ZOK Z) (hWd : WordsK D qT Z) (hf : f_X1_read s_size s_value s_tape s_code = some r) (h0 : r.1 = 0) : CN l D qT Z yX1_read cX1_read 4 (some (.object "RoundTheModel$Text")) 99 3 165 [.ref a0] [(a0, .inr (1, [.int s_size, .int s_fault, .ref a_tape, .int s_at, .int s_token, .int s_tokenAt, .int s_value, .ref a_code, .int s_codeSize])), (a_tape, .inl (qT 0, 160, .inl s_tape)), (a_code, .inl (qT 0, 160, .inl s_code))] (fun w => w = [(a0, .inr (1, [.int r.2.1, .int r.2.2.1, .ref a_tape, .int r.2.2.2.1, .int r.2.2.2.2.1, .int r.2.2.2.2.2.1, .int r.2.2.2.2.2.2.1, .ref a_code, .int r.2.2.2.2.2.2.2.1])), (a_tape, .inl (qT 0, 160, .inl s_tape)), (a_code, .inl (qT 0, 160, .inl r.2.2.2.2.2.2.2.2.1))]) := by
  refine CN_of hZ (by decide) (Or.inl ⟨_, rfl⟩) (Nat.le_of_ble_eq_true rfl) ?_
  intro x e1 e2 e3 e4 e5 e6 X hR
  subst e1 e2 e3 e4
  exact t_X1_read X e6 e5 hWd (fun _ => hR _ rfl) (fun h => absurd (h0.symm.trans h) (by decide)) hf
set_option maxRecDepth 100000 in
set_option maxHeartbeats 4000000 in
theorem c_X1_read1 {l : Launch} {D : va_G} {qT : Nat → ClassId} {Z : (Nat → Prop) → State → Heap → Prop} {r : Int32 × Int32 × Int32 × Int32 × Int32 × Int32 × Int32 × Int32 × (Nat → Int32) × (Nat → Int32)} {a0 : Nat} {a_tape : Nat} {a_code : Nat} {s_size : Int32} {s_fault : Int32} {s_at : Int32} {s_token : Int32} {s_tokenAt : Int32} {s_value : Int32} {s_codeSize : Int32} {s_tape : Nat → Int32} {s_code : Nat → Int32} (hZ : ZOK Z) (hWd : WordsK D qT Z) (hf : f_X1_read s_size s_value s_tape s_code = some r) (h1 : r.1 = 1) : CR l D qT Z yX1_read cX1_read 4 (some (.object "RoundTheModel$Text")) 99 3 165 [.ref a0] [(a0, .inr (1, [.int s_size, .int s_fault, .ref a_tape, .int s_at, .int s_token, .int s_tokenAt, .int s_value, .ref a_code, .int s_codeSize])), (a_tape, .inl (qT 0, 160, .inl s_tape)), (a_code, .inl (qT 0, 160, .inl s_code))] (fun q w => ∃ qc qe : Nat, w = [(a0, .inr (1, [.int r.2.1, .int r.2.2.1, .ref a_tape, .int r.2.2.2.1, .int r.2.2.2.2.1, .int r.2.2.2.2.2.1, .int r.2.2.2.2.2.2.1, .ref a_code, .int r.2.2.2.2.2.2.2.1])), (a_tape, .inl (qT 0, 160, .inl s_tape)), (a_code, .inl (qT 0, 160, .inl r.2.2.2.2.2.2.2.2.1)), (q, .inr (5, [.ref qc, .ref qe])), (qc, .inl (qT 0, (Int32.toNatClampNeg r.2.2.2.2.2.2.2.1), .inl r.2.2.2.2.2.2.2.2.1)), (qe, .inl (qT 0, 3, .inl r.2.2.2.2.2.2.2.2.2))]) := by
  refine CR_of hZ (by decide) (Or.inl ⟨_, rfl⟩) (Nat.le_of_ble_eq_true rfl) ?_
  intro x e1 e2 e3 e4 e5 e6 X hR
  subst e1 e2 e3 e4
  exact t_X1_read X e6 e5 hWd (fun h => absurd (h1.symm.trans h) (by decide)) (fun _ qt qc qe => hR qt _ ⟨qc, qe, rfl⟩) hf
