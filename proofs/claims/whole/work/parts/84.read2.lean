/-! ### a text's three parts, and its end -/
section
variable {z FR : Nat} {tape texts nv : Nat → Int32}
theorem key260 : ∀ i, i < 3 → 260 + nI i = wK i := by decide +kernel
theorem key_ne : ∀ i, i < 3 → wK i ≠ 256 ∧ wK i ≠ 257 := by decide +kernel
theorem part48b {hh tok7 tA : Int32} {worth : Int64} {o fl v : Int32} : f_X7_part_48 (nI FR) (nI z) hh tok7 tA worth o 1 fl texts v = some (v, hh, tok7, tA, worth, o, 1, fl) := by
  unfold f_X7_part_48
  rw [if_neg (by decide)]
theorem part34b {hh tok7 tA : Int32} {worth : Int64} {o fl v : Int32} : f_X7_part_34 (nI FR) (nI z) hh tok7 tA worth o 1 fl texts v = some (v, hh, tok7, tA, worth, o, 1, fl) := by
  unfold f_X7_part_34 f_X7_isSign f_X7_fail
  rw [if_neg (by decide), Option.bind_some, if_pos rfl, if_neg (by decide), Option.bind_some, part48b]
theorem part_sim (L : LX z FR tape texts) {i : Nat} (hi : i < 3) {fa : Int32} {t e : Nat} {tok val hh tok7 : Int32} {worth : Int64} {fl : Int32} {cs : Nat} {code : Nat → Int32} (T : TK z FR texts t e tok val hh tok7 worth) (hcs : cs ≤ t) :
    ∃ (b fa' a' tok' tA' val' csI : Int32) (code' : Nat → Int32) (rR : R8),
      (∀ kp ends, f_X1_readF_27 (nI z) tape kp 1 (nI i) fa (nI e) tok (nI t) val (nI cs) code ends = kp b (nI (i + 1)) fa' a' tok' tA' val' csI code' (upd ends i csI)) ∧
      f_X7_part (if tok = wK i then 1 else 0) (nv 0) (nv 1) (nv 2) (nv 3) (nv 4) (nv 5) (nI FR) (nI z) hh tok7 (nI t) worth 0 0 fl texts = some rR ∧
      ((b = 0 ∧ rR.2.2.2.2.2.2.1 = 1 ∧ fa' = rR.2.2.2.2.2.2.2) ∨
       (∃ (t' e' : Nat) (hh' tok7' : Int32) (worth' : Int64) (fl' : Int32) (cs' : Nat) (v : Int32), b = 1 ∧ a' = nI e' ∧ tA' = nI t' ∧ csI = nI cs' ∧ rR = (v, hh', tok7', nI t', worth', 0, 0, fl') ∧ TK z FR texts t' e' tok' val' hh' tok7' worth' ∧ cs' + t + 2 ≤ t' + cs ∧ (∀ j, j < cs → code' j = code j) ∧ EV nv code' cs cs' v 31)) := by
  have hz := L.hz
  have n3 : ¬ (3 : Int32) ≤ nI i := by rw [show (3 : Int32) = nI 3 from rfl, le_nI] <;> omega
  have in3 : inb (nI i) 3 = true := inb_nI hi (by decide)
  unfold f_X1_readF_27 f_X7_part
  by_cases h : tok = wK i
  · obtain ⟨n1, n2⟩ := key_ne i hi
    rw [← h] at n1 n2
    obtain ⟨t1, e1, tok1, val1, hh1, tok71, worth1, i1, i2, i3, T1⟩ := TK_go L T n1 n2
    have hx : f_X1_expect (260 + nI i) (nI z) fa (nI e) tok (nI t) val tape = some (1, fa, nI e1, tok1, nI t1, val1) := by
      unfold f_X1_expect
      rw [if_pos (by rw [key260 i hi]; exact h), i2, Option.bind_some]
    obtain ⟨rC, rR, j1, j2, j3⟩ := SIM0 (nv := nv) L fa t1 e1 tok1 val1 hh1 tok71 worth1 fl cs code T1 (by omega)
    have j1' : fE 0 (nI z) fa (nI e1) tok1 (nI t1) val1 (nI cs) tape code = some rC := j1
    have j2' : f_X7_either0 (nv 0) (nv 1) (nv 2) (nv 3) (nv 4) (nv 5) (nI FR) (nI z) hh1 tok71 (nI t1) worth1 0 0 fl texts = some rR := j2
    have hR : (if (if tok = wK i then (1 : Int32) else 0) = 0 then (f_X7_fail (nI t) 0 fl).bind (fun v5_6 => f_X7_part_8 (nv 0) (nv 1) (nv 2) (nv 3) (nv 4) (nv 5) (nI FR) (nI z) hh tok7 (nI t) worth 0 v5_6.1 v5_6.2 texts) else f_X7_part_8 (nv 0) (nv 1) (nv 2) (nv 3) (nv 4) (nv 5) (nI FR) (nI z) hh tok7 (nI t) worth 0 0 fl texts) = f_X7_part_34 (nI FR) (nI z) rR.2.1 rR.2.2.1 rR.2.2.2.1 rR.2.2.2.2.1 rR.2.2.2.2.2.1 rR.2.2.2.2.2.2.1 rR.2.2.2.2.2.2.2 texts rR.1 := by
      rw [if_pos h, if_neg (by decide)]
      unfold f_X7_part_8 f_X7_part_19
      rw [if_pos rfl, i3, Option.bind_some, if_pos rfl, j2', Option.bind_some]
    rcases j3 with ⟨g1, g2, g3⟩ | ⟨fa', t2, e2, tok2, val2, hh2, tok72, worth2, fl2, cs2, code2, w, rfl, rfl, T2, k1, k2, k3, k4⟩
    · refine ⟨0, rC.2.1, rC.2.2.1, rC.2.2.2.1, rC.2.2.2.2.1, rC.2.2.2.2.2.1, rC.2.2.2.2.2.2.1, rC.2.2.2.2.2.2.2, (rR.1, rR.2.1, rR.2.2.1, rR.2.2.2.1, rR.2.2.2.2.1, rR.2.2.2.2.2.1, 1, rR.2.2.2.2.2.2.2), fun kp ends => ?_, ?_, Or.inl ⟨rfl, rfl, g3⟩⟩
      · rw [if_neg n3, if_neg (by decide), hx, Option.bind_some, if_neg (show ¬ (1 : Int32) = 0 by decide), j1', Option.bind_some, if_pos g1, if_pos in3, cl_nI (by omega), nI_1]
      · rw [hR, g2, part34b]
    · have hk4 := k4.1; have ht2 := T2.1; have hez2 := T2.2.1
      have s59 := TK_sign T2 (s := 59) (by unfold Sgn; decide)
      have hC : ∀ kp ends, (if (3 : Int32) ≤ nI i then f_X1_readF_84 (nI z) fa (nI e) tok (nI t) val (nI cs) tape code ends 1 else f_X1_readF_27 (nI z) tape kp 1 (nI i) fa (nI e) tok (nI t) val (nI cs) code ends) = (f_X1_expect 59 (nI z) fa' (nI e2) tok2 (nI t2) val2 tape).bind (fun v59_7 => if v59_7.1 = 0 then kp 0 (nI (i + 1)) v59_7.2.1 v59_7.2.2.1 v59_7.2.2.2.1 v59_7.2.2.2.2.1 v59_7.2.2.2.2.2 (nI cs2) code2 (upd ends i (nI cs2)) else kp 1 (nI (i + 1)) v59_7.2.1 v59_7.2.2.1 v59_7.2.2.2.1 v59_7.2.2.2.2.1 v59_7.2.2.2.2.2 (nI cs2) code2 (upd ends i (nI cs2))) := by
        intro kp ends
        rw [if_neg n3]
        unfold f_X1_readF_27
        rw [if_neg n3, if_neg (by decide), hx, Option.bind_some, if_neg (show ¬ (1 : Int32) = 0 by decide), j1', Option.bind_some, if_neg (show ¬ (1 : Int32) = 0 by decide)]
        simp only [if_pos in3, cl_nI (show i ≤ 2147483647 by omega), nI_1]
      by_cases h59 : tok2 = 59
      · have ne2 : tok2 ≠ 256 ∧ tok2 ≠ 257 := by rw [h59]; decide
        obtain ⟨t3, e3, tok3, val3, hh3, tok73, worth3, l1, l2, l3, T3⟩ := TK_go L T2 ne2.1 ne2.2
        refine ⟨1, fa', nI e3, tok3, nI t3, val3, nI cs2, code2, (w, hh3, tok73, nI t3, worth3, 0, 0, fl2), fun kp ends => ?_, ?_, Or.inr ⟨t3, e3, hh3, tok73, worth3, fl2, cs2, w, rfl, rfl, rfl, rfl, rfl, T3, by omega, k3, k4⟩⟩
        · have := hC kp ends
          rw [if_neg n3] at this
          refine Eq.trans this ?_
          unfold f_X1_expect
          rw [if_pos h59, l2, Option.bind_some, Option.bind_some, if_neg (show ¬ (1 : Int32) = 0 by decide)]
        · rw [hR]
          unfold f_X7_part_34 f_X7_part_48
          rw [s59, if_pos h59, Option.bind_some, if_neg (by decide), if_pos rfl, l3, Option.bind_some]
          rfl
      · refine ⟨0, nI t2, nI e2, tok2, nI t2, val2, nI cs2, code2, (w, hh2, tok72, nI t2, worth2, 0, 1, nI t2), fun kp ends => ?_, ?_, Or.inl ⟨rfl, rfl, rfl⟩⟩
        · have := hC kp ends
          rw [if_neg n3] at this
          refine Eq.trans this ?_
          unfold f_X1_expect f_X1_fail
          rw [if_neg h59, Option.bind_some, if_pos (show isZ 0 = true by decide), Option.bind_some, if_pos rfl]
        · rw [hR]
          unfold f_X7_part_34
          rw [s59, if_neg h59, Option.bind_some, if_pos rfl]
          unfold f_X7_fail
          rw [if_pos rfl, Option.bind_some]
          exact part48b
  · have hx : f_X1_expect (260 + nI i) (nI z) fa (nI e) tok (nI t) val tape = some (0, nI t, nI e, tok, nI t, val) := by
      unfold f_X1_expect f_X1_fail
      rw [if_neg (by rw [key260 i hi]; exact h), Option.bind_some, if_pos (show isZ 0 = true by decide)]
    refine ⟨0, nI t, nI e, tok, nI t, val, nI cs, code, (0, hh, tok7, nI t, worth, 0, 1, nI t), fun kp ends => ?_, ?_, Or.inl ⟨rfl, rfl, rfl⟩⟩
    · rw [if_neg n3, if_neg (by decide), hx, Option.bind_some, if_pos rfl, if_pos in3, cl_nI (by omega), nI_1]
    · rw [if_neg h, if_pos rfl]
      unfold f_X7_fail
      rw [if_pos rfl, Option.bind_some]
      unfold f_X7_part_8 f_X7_part_19
      rw [if_neg (show ¬ (1 : Int32) = 0 by decide), if_neg (show ¬ (1 : Int32) = 0 by decide)]
      exact part34b
theorem read146 {fr sz hh tok7 tA : Int32} {worth : Int64} {o bad fl w a b c : Int32} : f_X7_read_146 fr sz hh tok7 tA worth o bad fl w a b c = some (if w = 0 then a else if w = 1 then b else c, fr, sz, hh, tok7, tA, worth, o, bad, fl) := by
  unfold f_X7_read_146
  by_cases h : w = 0
  · rw [if_pos h, if_pos h]
  · rw [if_neg h, if_neg h]
    by_cases h : w = 1
    · rw [if_pos h, if_pos h]
    · rw [if_neg h, if_neg h]
theorem read126b {fr sz hh tok7 tA : Int32} {worth : Int64} {o fl w a b c : Int32} : f_X7_read_126 fr sz hh tok7 tA worth o 1 fl w a b c = some (if w = 0 then a else if w = 1 then b else c, fr, sz, hh, tok7, tA, worth, o, 1, fl) := by
  unfold f_X7_read_126
  rw [if_neg (by decide), read146]
theorem read92b {hh tok7 tA : Int32} {worth : Int64} {o fl w a b : Int32} : f_X7_read_92 (nv 0) (nv 1) (nv 2) (nv 3) (nv 4) (nv 5) (nI FR) (nI z) hh tok7 tA worth o 1 fl texts w a b = some (if w = 0 then a else if w = 1 then b else 0, nI FR, nI z, hh, tok7, tA, worth, o, 1, fl) := by
  unfold f_X7_read_92
  rw [if_neg (by decide), read126b]
theorem readFb {kp : Int32 → Int32 → Int32 → Int32 → Int32 → Int32 → Int32 → Int32 → (Nat → Int32) → (Nat → Int32) → Option (Int32 × Int32 × Int32 × Int32 × Int32 × Int32 × Int32 × Int32 × (Nat → Int32) × (Nat → Int32))} {zz l3 fa a tok tA val cs : Int32} {code ends : Nat → Int32} : f_X1_readF_27 zz tape kp 0 l3 fa a tok tA val cs code ends = some (0, 0, fa, a, tok, tA, val, cs, code, ends) := by
  unfold f_X1_readF_27 f_X1_readF_84 f_X1_readF_102 f_X1_readF_103
  by_cases h : 3 ≤ l3
  · rw [if_pos h, if_pos rfl, if_pos rfl]
  · rw [if_neg h, if_pos rfl, if_pos rfl, if_pos rfl]
/-- what a whole text says, or its fault -/
def ROUT (nv : Nat → Int32) (rC : Int32 × Int32 × Int32 × Int32 × Int32 × Int32 × Int32 × Int32 × (Nat → Int32) × (Nat → Int32)) (q : Int32 → Option (Int32 × Int32 × Int32 × Int32 × Int32 × Int32 × Int64 × Int32 × Int32 × Int32)) : Prop :=
  (rC.1 = 0 ∧ ∀ w, ∃ r, q w = some r ∧ r.2.2.2.2.2.2.2.2.1 = 1 ∧ r.2.2.2.2.2.2.2.2.2 = rC.2.2.1) ∨
  (∃ (fa a tok tA val : Int32) (cs E0 E1 : Nat) (code ends : Nat → Int32) (v0 v1 v2 : Int32), rC = (1, 0, fa, a, tok, tA, val, nI cs, code, ends) ∧ cs < 160 ∧ ends 0 = nI E0 ∧ ends 1 = nI E1 ∧ ends 2 = nI cs ∧ EV nv code 0 E0 v0 31 ∧ EV nv code E0 E1 v1 31 ∧ EV nv code E1 cs v2 31 ∧ ∀ w, ∃ r, q w = some r ∧ r.2.2.2.2.2.2.2.2.1 = 0 ∧ r.1 = if w = 0 then v0 else if w = 1 then v1 else v2)
theorem read_sim {Tn : Nat} (hT : Tn < 6) (L : LX z (160 * Tn) tape texts) {textSize : Nat → Int32} (hs : textSize Tn = nI z) (val : Int32) (code : Nat → Int32) (tw : Int64) (fl : Int32) :
    ∃ rC, f_X1_read (nI z) val tape code = some rC ∧ rC.2.1 = 0 ∧ ROUT nv rC (fun w => f_X7_read (nI Tn) w (nv 0) (nv 1) (nv 2) (nv 3) (nv 4) (nv 5) tw fl textSize texts) := by
  have hz := L.hz
  have hfr : 160 * nI Tn = nI (160 * Tn) := by
    rcases (show Tn = 0 ∨ Tn = 1 ∨ Tn = 2 ∨ Tn = 3 ∨ Tn = 4 ∨ Tn = 5 by omega) with rfl | rfl | rfl | rfl | rfl | rfl <;> decide
  obtain ⟨t, e, tok, val', hh, tok7, worth', i1, i2, i3, T⟩ := TK_next L (Nat.zero_le z) val tw
  have w0 : f_X7_isWord 118 105 101 119 115 0 0 0 (nI (160 * Tn)) (nI z) hh tok7 (nI t) 0 texts = some (if tok = wK 0 then 1 else 0) := TK_word T (i := 0) (by decide)
  have hR : ∀ w, f_X7_read (nI Tn) w (nv 0) (nv 1) (nv 2) (nv 3) (nv 4) (nv 5) tw fl textSize texts = (f_X7_part (if tok = wK 0 then 1 else 0) (nv 0) (nv 1) (nv 2) (nv 3) (nv 4) (nv 5) (nI (160 * Tn)) (nI z) hh tok7 (nI t) worth' 0 0 fl texts).bind (fun v56_3 => if v56_3.2.2.2.2.2.2.1 = 0 then (f_X7_isWord 119 97 114 109 115 0 0 0 (nI (160 * Tn)) (nI z) v56_3.2.1 v56_3.2.2.1 v56_3.2.2.2.1 v56_3.2.2.2.2.2.2.1 texts).bind (fun v86_4 => (f_X7_part v86_4 (nv 0) (nv 1) (nv 2) (nv 3) (nv 4) (nv 5) (nI (160 * Tn)) (nI z) v56_3.2.1 v56_3.2.2.1 v56_3.2.2.2.1 v56_3.2.2.2.2.1 v56_3.2.2.2.2.2.1 v56_3.2.2.2.2.2.2.1 v56_3.2.2.2.2.2.2.2 texts).bind (fun v89_5 => f_X7_read_92 (nv 0) (nv 1) (nv 2) (nv 3) (nv 4) (nv 5) (nI (160 * Tn)) (nI z) v89_5.2.1 v89_5.2.2.1 v89_5.2.2.2.1 v89_5.2.2.2.2.1 v89_5.2.2.2.2.2.1 v89_5.2.2.2.2.2.2.1 v89_5.2.2.2.2.2.2.2 texts w v56_3.1 v89_5.1)) else f_X7_read_92 (nv 0) (nv 1) (nv 2) (nv 3) (nv 4) (nv 5) (nI (160 * Tn)) (nI z) v56_3.2.1 v56_3.2.2.1 v56_3.2.2.2.1 v56_3.2.2.2.2.1 v56_3.2.2.2.2.2.1 v56_3.2.2.2.2.2.2.1 v56_3.2.2.2.2.2.2.2 texts w v56_3.1 0) := by
    intro w
    have i3' : f_X7_next (nI (160 * Tn)) (nI z) 0 tw texts = some (hh, tok7, nI t, worth') := i3
    unfold f_X7_read
    rw [if_pos (inb_nI hT (by decide)), cl_nI (by omega), hs, hfr, i3', Option.bind_some, w0, Option.bind_some]
  have hC : ∀ fu : Nat, fu + 4 = 200 → f_X1_read (nI z) val tape code = f_X1_readF_27 (nI z) tape (f_X1_readF_27 (nI z) tape (f_X1_readF_27 (nI z) tape (f_X1_readF_27 (nI z) tape (lq10 (f_X1_readF_27 (nI z) tape) fu)))) 1 (nI 0) (-1) (nI e) tok (nI t) val' (nI 0) code (fun _ => 0) := by
    intro fu hfu
    have i2' : f_X1_next (nI z) 0 val tape = some (nI e, tok, nI t, val') := i2
    unfold f_X1_read f_X1_readF
    rw [i2', Option.bind_some, ← hfu]
    rfl
  rw [hC 196 rfl]
  generalize lq10 (f_X1_readF_27 (nI z) tape) 196 = K4
  obtain ⟨b, fa1, a1, tok1, tA1, val1, cs1, code1, rR, p1, p2, p3⟩ := part_sim (nv := nv) (fa := -1) (fl := fl) (code := code) L (i := 0) (by decide) T (Nat.zero_le t)
  rw [p1]
  simp only [hR]
  rw [p2]
  simp only [Option.bind_some]
  rcases p3 with ⟨rfl, g2, g3⟩ | ⟨t1, e1, hh1, tok71, worth1, fl1, cs1n, v0, rfl, rfl, rfl, rfl, rfl, T1, q1, q2, q3⟩
  · rw [readFb]
    refine ⟨_, rfl, rfl, Or.inl ⟨rfl, fun w => ?_⟩⟩
    dsimp only
    rw [if_neg (by rw [g2]; decide), g2, read92b]
    exact ⟨_, rfl, rfl, g3.symm⟩
  simp only [if_true]
  have w1 : f_X7_isWord 119 97 114 109 115 0 0 0 (nI (160 * Tn)) (nI z) hh1 tok71 (nI t1) 0 texts = some (if tok1 = wK 1 then 1 else 0) := TK_word T1 (i := 1) (by decide)
  rw [w1]
  simp only [Option.bind_some]
  have hq3 := q3.1
  obtain ⟨b, fa2, a2, tok2, tA2, val2, cs2, code2, rR, p1, p2, p3⟩ := part_sim (nv := nv) (fa := fa1) (fl := fl1) (code := code1) L (i := 1) (by decide) T1 (cs := cs1n) (by omega)
  rw [p1, p2]
  simp only [Option.bind_some]
  rcases p3 with ⟨rfl, g2, g3⟩ | ⟨t2, e2, hh2, tok72, worth2, fl2, cs2n, v1, rfl, rfl, rfl, rfl, rfl, T2, r1, r2, r3⟩
  · rw [readFb]
    refine ⟨_, rfl, rfl, Or.inl ⟨rfl, fun w => ?_⟩⟩
    dsimp only
    rw [g2, read92b]
    exact ⟨_, rfl, rfl, g3.symm⟩
  have w2 : f_X7_isWord 109 105 110 100 115 0 0 0 (nI (160 * Tn)) (nI z) hh2 tok72 (nI t2) 0 texts = some (if tok2 = wK 2 then 1 else 0) := TK_word T2 (i := 2) (by decide)
  have hr3 := r3.1
  unfold f_X7_read_92
  simp only [if_true]
  rw [w2]
  simp only [Option.bind_some]
  obtain ⟨b, fa3, a3, tok3, tA3, val3, cs3, code3, rR, p1, p2, p3⟩ := part_sim (nv := nv) (fa := fa2) (fl := fl2) (code := code2) L (i := 2) (by decide) T2 (cs := cs2n) (by omega)
  rw [p1, p2]
  simp only [Option.bind_some]
  rcases p3 with ⟨rfl, g2, g3⟩ | ⟨t3, e3, hh3, tok73, worth3, fl3, cs3n, v2, rfl, rfl, rfl, rfl, rfl, T3, s1, s2, s3⟩
  · rw [readFb]
    refine ⟨_, rfl, rfl, Or.inl ⟨rfl, fun w => ?_⟩⟩
    dsimp only
    rw [g2, read126b]
    exact ⟨_, rfl, rfl, g3.symm⟩
  have hs3 := s3.1; have ht3 := T3.1; have he3 := T3.2.1
  have hlast : f_X1_readF_27 (nI z) tape K4 1 (nI (2 + 1)) fa3 (nI e3) tok3 (nI t3) val3 (nI cs3n) code3 (upd (upd (upd (fun _ => 0) 0 (nI cs1n)) 1 (nI cs2n)) 2 (nI cs3n)) = f_X1_readF_84 (nI z) fa3 (nI e3) tok3 (nI t3) val3 (nI cs3n) tape code3 (upd (upd (upd (fun _ => 0) 0 (nI cs1n)) 1 (nI cs2n)) 2 (nI cs3n)) 1 := by
    unfold f_X1_readF_27
    rw [if_pos (by decide)]
  rw [hlast]
  unfold f_X1_readF_84 f_X7_read_126 f_X1_expect
  rw [if_neg (by decide)]
  by_cases h : tok3 = 256
  · obtain ⟨t4, e4, tok4, val4, hh4, tok74, worth4, k1, k2, k3, T4⟩ := TK_next L he3 val3 worth3
    rw [if_pos h, k2]
    simp only [Option.bind_some]
    rw [if_neg (by decide)]
    unfold f_X1_readF_103
    rw [if_neg (by decide), if_pos (inb_nI (by omega) (by decide))]
    refine ⟨_, rfl, rfl, Or.inr ⟨_, _, _, _, _, cs3n, cs1n, cs2n, code3, _, v0, v1, v2, rfl, by omega, ?_, ?_, ?_, ?_, ?_, s3, fun w => ?_⟩⟩
    · simp [upd]
    · simp [upd]
    · simp [upd]
    · exact EV_congr q3 (fun j h1 h2 => by rw [s2 j (by omega), r2 j (by omega)])
    · exact EV_congr r3 (fun j h1 h2 => s2 j (by omega))
    · dsimp only
      rw [if_pos trivial, if_pos ((TK_end T3).mp h), read146]
      exact ⟨_, rfl, rfl, rfl⟩
  · rw [if_neg h]
    unfold f_X1_fail
    simp only [Option.bind_some]
    rw [if_pos (show isZ 0 = true by decide)]
    simp only [Option.bind_some]
    rw [if_pos trivial]
    unfold f_X1_readF_102 f_X1_readF_103
    rw [if_pos rfl]
    refine ⟨_, rfl, rfl, Or.inl ⟨rfl, fun w => ?_⟩⟩
    dsimp only
    rw [if_pos trivial, if_neg (fun g => h ((TK_end T3).mpr g))]
    unfold f_X7_fail
    rw [if_pos rfl]
    simp only [Option.bind_some]
    rw [read146]
    exact ⟨_, rfl, rfl, rfl⟩
end
