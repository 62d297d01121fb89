def cmpC (zz : Int32) (tape : Nat → Int32) (rE rO : RF) (l1 : Int32) (v51_1 : RR) : Option RR :=
  if v51_1.1 = 0 then (
  some (0, v51_1.2.1, v51_1.2.2.1, v51_1.2.2.2.1, v51_1.2.2.2.2.1, v51_1.2.2.2.2.2.1, v51_1.2.2.2.2.2.2.1, v51_1.2.2.2.2.2.2.2)) else (
  if v51_1.2.2.2.1 = 60 then (
  f_X1_readNot_79 zz v51_1.2.1 v51_1.2.2.1 v51_1.2.2.2.1 v51_1.2.2.2.2.2.1 v51_1.2.2.2.2.2.2.1 tape v51_1.2.2.2.2.2.2.2 rE rO l1) else (
  if v51_1.2.2.2.1 = 61 then (
  f_X1_readNot_79 zz v51_1.2.1 v51_1.2.2.1 v51_1.2.2.2.1 v51_1.2.2.2.2.2.1 v51_1.2.2.2.2.2.2.1 tape v51_1.2.2.2.2.2.2.2 rE rO l1) else (
  some (1, v51_1.2.1, v51_1.2.2.1, v51_1.2.2.2.1, v51_1.2.2.2.2.1, v51_1.2.2.2.2.2.1, v51_1.2.2.2.2.2.2.1, v51_1.2.2.2.2.2.2.2))))
def cmpR (pA : AF) (pN : AF) (nv : Nat → Int32) (fr sz : Int32) (texts : Nat → Int32) (v53_2 : R8) : Option R8 :=
  (f_X7_isSign 60 v53_2.2.2.1 v53_2.2.2.2.2.1 v53_2.2.2.2.2.2.2.1).bind (fun v60_3 =>
  if v60_3 = 0 then (
  (f_X7_isSign 61 v53_2.2.2.1 v53_2.2.2.2.2.1 v53_2.2.2.2.2.2.2.1).bind (fun v69_6 =>
  if v69_6 = 0 then (
  some (v53_2.1, v53_2.2.1, v53_2.2.2.1, v53_2.2.2.2.1, v53_2.2.2.2.2.1, v53_2.2.2.2.2.2.1, v53_2.2.2.2.2.2.2.1, v53_2.2.2.2.2.2.2.2)) else (
  g7_not_77 pA pN (nv 0) (nv 1) (nv 2) (nv 3) (nv 4) (nv 5) fr sz v53_2.2.1 v53_2.2.2.2.2.1 v53_2.2.2.2.2.2.1 v53_2.2.2.2.2.2.2.1 v53_2.2.2.2.2.2.2.2 texts v53_2.1))) else (
  g7_not_77 pA pN (nv 0) (nv 1) (nv 2) (nv 3) (nv 4) (nv 5) fr sz v53_2.2.1 v53_2.2.2.2.2.1 v53_2.2.2.2.2.2.1 v53_2.2.2.2.2.2.2.1 v53_2.2.2.2.2.2.2.2 texts v53_2.1))
section
variable {z FR : Nat} {tape texts nv : Nat → Int32} {k D : Nat} {A N : AF}
theorem TK_wth {t e : Nat} {tok val hh tok7 : Int32} {worth : Int64} (T : TK z FR texts t e tok val hh tok7 worth) (h : Sgn tok) : worth = tok.toInt64 := by
  have hs := sg_lt h
  obtain ⟨_, _, T⟩ := T
  rcases T with ⟨_, h1, h2, _⟩ | ⟨_, h1, h2, h3, _⟩ | ⟨_, h1, h2, _⟩ | ⟨_, h2, _, j, hj, h1, _⟩ | ⟨h1, h2, _⟩
  · rw [h1] at hs; exact absurd hs (by decide)
  · exact h3
  · rw [h1] at hs; exact absurd hs (by decide)
  · have := (wK_ge j hj).1; rw [← h1] at this; omega
  · rw [h1] at hs; exact absurd hs (by decide)
theorem cmp_sim (L : LX z FR tape texts) {rE rO : RF} (hS : SIM z FR tape texts nv k D (fun l1 sz fa a tok tA val cs tp cd => f_X1_readSum l1 sz fa a tok tA val cs tp cd rE rO) A) {t cs : Nat} (hcs : cs ≤ t) {code : Nat → Int32} {rC : RR} {rR : R8} (hO : OUT z FR texts nv k D t cs code rC rR) :
    ∃ rC' rR', cmpC (nI z) tape rE rO (nI k) rC = some rC' ∧ cmpR A N nv (nI FR) (nI z) texts rR = some rR' ∧ OUT z FR texts nv k (D + 1) t cs code rC' rR' := by
  have hz := L.hz
  unfold cmpC cmpR
  rcases hO with ⟨g1, g2, g3⟩ | ⟨fa', t2, e2, tok2, val2, hh2, tok72, worth2, fl2, cs2, code2, w, rfl, rfl, T2, k1, k2, k3, k4⟩
  · rw [if_pos g1, g2]
    unfold f_X7_isSign
    rw [if_neg (by decide), Option.bind_some, if_pos rfl, if_neg (by decide), Option.bind_some, if_pos rfl]
    exact ⟨_, _, rfl, rfl, Or.inl ⟨rfl, rfl, g3⟩⟩
  · have hk4 := k4.1; have ht2 := T2.1; have hez2 := T2.2.1
    rw [if_neg (show ¬ (1 : Int32) = 0 by decide), TK_sign T2 (s := 60) (by unfold Sgn; decide), TK_sign T2 (s := 61) (by unfold Sgn; decide)]
    by_cases h : tok2 = 60 ∨ tok2 = 61
    · have ne1 : tok2 ≠ 256 ∧ tok2 ≠ 257 := by rcases h with rfl | rfl <;> decide
      have hw := TK_wth T2 (by unfold Sgn; rcases h with rfl | rfl <;> decide)
      obtain ⟨t3, e3, tok3, val3, hh3, tok73, worth3, l1, l2, l3, T3⟩ := TK_go L T2 ne1.1 ne1.2
      obtain ⟨rC, rR, j1, j2, j3⟩ := hS fa' t3 e3 tok3 val3 hh3 tok73 worth3 fl2 cs2 code2 T3 (by omega)
      have hC : ∀ c0 : Int32, f_X1_readNot_95 (nI z) fa' (nI e2) val2 (nI cs2) tape code2 rE rO (nI k) c0 = (some rC).bind (fun v102_3 => if v102_3.1 = 0 then some (0, v102_3.2.1, v102_3.2.2.1, v102_3.2.2.2.1, v102_3.2.2.2.2.1, v102_3.2.2.2.2.2.1, v102_3.2.2.2.2.2.2.1, v102_3.2.2.2.2.2.2.2) else (f_X1_put c0 v102_3.2.2.2.2.2.2.1 v102_3.2.2.2.2.2.2.2).bind (fun v110_4 => if v110_4.1 = 0 then some (0, v102_3.2.1, v102_3.2.2.1, v102_3.2.2.2.1, v102_3.2.2.2.2.1, v102_3.2.2.2.2.2.1, v110_4.2.1, v110_4.2.2) else some (1, v102_3.2.1, v102_3.2.2.1, v102_3.2.2.2.1, v102_3.2.2.2.2.1, v102_3.2.2.2.2.2.1, v110_4.2.1, v110_4.2.2))) := by
        intro c0
        have j1' : f_X1_readSum (nI k) (nI z) fa' (nI e3) tok3 (nI t3) val3 (nI cs2) tape code2 rE rO = some rC := j1
        unfold f_X1_readNot_95
        rw [l2, Option.bind_some, j1']
      have hR : ∀ k0 : Int32, g7_not_93 A N (nv 0) (nv 1) (nv 2) (nv 3) (nv 4) (nv 5) (nI FR) (nI z) hh2 worth2 (nI k) 0 fl2 texts w k0 = some (if k0 = 0 then (if w = rR.1 then 1 else 0) else (if rR.1 ≤ w then 0 else 1), rR.2) := by
        intro k0
        unfold g7_not_93
        rw [l3, Option.bind_some, j2, Option.bind_some]
        by_cases q : k0 = 0
        · rw [if_pos q, if_pos q]; split <;> rfl
        · rw [if_neg q, if_neg q]; split <;> rfl
      have fin : ∀ (c0 k0 : Int32) (h1 : c0 < -6) (h2 : c0 ≠ -12) (h3 : c0 ≠ -13) (h4 : ∀ x y, f_X5_joined c0 x y = some (if k0 = 0 then (if x = y then 1 else 0) else (if y ≤ x then 0 else 1))),
          ∃ rC' rR', f_X1_readNot_95 (nI z) fa' (nI e2) val2 (nI cs2) tape code2 rE rO (nI k) c0 = some rC' ∧ g7_not_93 A N (nv 0) (nv 1) (nv 2) (nv 3) (nv 4) (nv 5) (nI FR) (nI z) hh2 worth2 (nI k) 0 fl2 texts w k0 = some rR' ∧ OUT z FR texts nv k (D + 1) t cs code rC' rR' := by
        intro c0 k0 h1 h2 h3 h4
        rw [hC, hR, Option.bind_some]
        rcases j3 with ⟨g1, g2, g3⟩ | ⟨fa4, t4, e4, tok4, val4, hh4, tok74, worth4, fl4, cs4, code4, w4, rfl, rfl, T4, m1, m2, m3, m4⟩
        · rw [if_pos g1]
          exact ⟨_, _, rfl, rfl, Or.inl ⟨rfl, g2, g3⟩⟩
        · have hm4 := m4.1; have ht4 := T4.1; have hez4 := T4.2.1
          rw [if_neg (show ¬ (1 : Int32) = 0 by decide), put1 (by omega), Option.bind_some, if_neg (show ¬ (1 : Int32) = 0 by decide)]
          refine ⟨_, _, rfl, rfl, Or.inr ⟨fa4, t4, e4, tok4, val4, hh4, tok74, worth4, fl4, cs4 + 1, upd code4 cs4 c0, _, rfl, rfl, T4, by omega, by omega, fun i hi => ?_, EV_bin (EV_mono k4 (by omega)) m4 m3 h1 h2 h3 (h4 w w4)⟩⟩
          simp only [upd]; rw [if_neg (by omega), m3 i (by omega)]; exact k3 i hi
      unfold f_X1_readNot_79 g7_not_77
      rcases h with rfl | rfl
      · rw [if_pos rfl, if_pos rfl, if_pos rfl, Option.bind_some, if_neg (by decide), hw, if_pos (show lg_cmp (Int32.toInt64 60) 60 = 0 by decide), ← hw]
        exact fin (-17) 1 (by decide) (by decide) (by decide) (fun x y => by unfold f_X5_joined; rw [if_neg (show ¬ (-17 : Int32) = -18 by decide), if_pos rfl, if_neg (show ¬ (1 : Int32) = 0 by decide)]; split <;> rfl)
      · rw [if_neg (show ¬ (61 : Int32) = 60 by decide), if_pos rfl, if_neg (show ¬ (61 : Int32) = 60 by decide), if_neg (show ¬ (61 : Int32) = 60 by decide), Option.bind_some, if_pos rfl, if_pos rfl, Option.bind_some, if_neg (by decide), hw, if_neg (show ¬ lg_cmp (Int32.toInt64 61) 60 = 0 by decide), ← hw]
        exact fin (-18) 0 (by decide) (by decide) (by decide) (fun x y => by unfold f_X5_joined; rw [if_pos rfl, if_pos rfl]; split <;> rfl)
    · simp only [not_or] at h
      rw [if_neg h.1, if_neg h.2, if_neg h.1, Option.bind_some, if_pos rfl, if_neg h.2, Option.bind_some, if_pos rfl]
      exact ⟨_, _, rfl, rfl, Or.inr ⟨fa', t2, e2, tok2, val2, hh2, tok72, worth2, fl2, cs2, code2, w, rfl, rfl, T2, k1, k2, k3, EV_mono k4 (by omega)⟩⟩
theorem not_cmp (L : LX z FR tape texts) {rE rO rN : RF} (hS : SIM z FR tape texts nv k D (fun l1 sz fa a tok tA val cs tp cd => f_X1_readSum l1 sz fa a tok tA val cs tp cd rE rO) A)
    {fa : Int32} {t e : Nat} {tok val hh tok7 : Int32} {worth : Int64} {fl : Int32} {cs : Nat} {code : Nat → Int32} (T : TK z FR texts t e tok val hh tok7 worth) (hcs : cs ≤ t) (h : tok ≠ 265) :
    ∃ rC rR, f_X1_readNot (nI k) (nI z) fa (nI e) tok (nI t) val (nI cs) tape code rE rO rN = some rC ∧ g7_not A N (nv 0) (nv 1) (nv 2) (nv 3) (nv 4) (nv 5) (nI FR) (nI z) hh tok7 (nI t) worth (nI k) 0 fl texts = some rR ∧ OUT z FR texts nv k (D + 1) t cs code rC rR := by
  have w : f_X7_isWord 110 111 116 0 0 0 0 0 (nI FR) (nI z) hh tok7 (nI t) 0 texts = some (if tok = 265 then 1 else 0) := TK_word T (i := 5) (by decide)
  rw [if_neg h] at w
  obtain ⟨rC, rR, j1, j2, j3⟩ := hS fa t e tok val hh tok7 worth fl cs code T hcs
  obtain ⟨rC', rR', q1, q2, q3⟩ := cmp_sim (N := N) L hS hcs j3
  refine ⟨rC', rR', ?_, ?_, q3⟩
  · have j1' : f_X1_readSum (nI k) (nI z) fa (nI e) tok (nI t) val (nI cs) tape code rE rO = some rC := j1
    rw [← q1]
    unfold f_X1_readNot
    rw [if_neg h, j1']
    rfl
  · rw [← q2]
    unfold g7_not
    rw [w, Option.bind_some, if_pos rfl, j2]
    rfl
theorem SIM_not5 (L : LX z FR tape texts) {rE rO rN : RF} (hS : SIM z FR tape texts nv 5 D (fun l1 sz fa a tok tA val cs tp cd => f_X1_readSum l1 sz fa a tok tA val cs tp cd rE rO) f_X7_added5) :
    SIM z FR tape texts nv 5 (D + 1) (fun l1 sz fa a tok tA val cs tp cd => f_X1_readNot l1 sz fa a tok tA val cs tp cd rE rO rN) f_X7_not5 := by
  intro fa t e tok val hh tok7 worth fl cs code T hcs
  show ∃ rC rR, f_X1_readNot (nI 5) (nI z) fa (nI e) tok (nI t) val (nI cs) tape code rE rO rN = some rC ∧ _
  have w : f_X7_isWord 110 111 116 0 0 0 0 0 (nI FR) (nI z) hh tok7 (nI t) 0 texts = some (if tok = 265 then 1 else 0) := TK_word T (i := 5) (by decide)
  by_cases h : tok = 265
  · rw [if_pos h] at w
    have hC : f_X1_readNot (nI 5) (nI z) fa (nI e) tok (nI t) val (nI cs) tape code rE rO rN = some (0, nI t, nI e, tok, nI t, val, nI cs, code) := by
      unfold f_X1_readNot f_X1_fail
      rw [if_pos h, if_neg (by decide), Option.bind_some, if_pos (show isZ 0 = true by decide)]
    have hR : f_X7_not5 (nv 0) (nv 1) (nv 2) (nv 3) (nv 4) (nv 5) (nI FR) (nI z) hh tok7 (nI t) worth (nI 5) 0 fl texts = some (0, hh, tok7, nI t, worth, nI 5, 1, nI t) := by
      unfold f_X7_not5
      rw [w, Option.bind_some, if_neg (by decide), opens5, Option.bind_some]
    exact ⟨_, _, hC, hR, Or.inl ⟨rfl, rfl, rfl⟩⟩
  · obtain ⟨rC, rR, q1, q2, q3⟩ := not_cmp (N := f_X7_added5) (rN := rN) (fa := fa) (fl := fl) (code := code) L hS T hcs h
    refine ⟨rC, rR, q1, ?_, q3⟩
    rw [← q2]
    unfold f_X7_not5 g7_not
    rw [w, if_neg h, Option.bind_some, Option.bind_some, if_pos rfl, if_pos rfl]
    rfl
theorem SIM_not (L : LX z FR tape texts) (hk : k < 5) {rE rO rN : RF} (hS : SIM z FR tape texts nv k D (fun l1 sz fa a tok tA val cs tp cd => f_X1_readSum l1 sz fa a tok tA val cs tp cd rE rO) A) (hN : SIM z FR tape texts nv (k + 1) (D + 1) rN N) :
    SIM z FR tape texts nv k (D + 1) (fun l1 sz fa a tok tA val cs tp cd => f_X1_readNot l1 sz fa a tok tA val cs tp cd rE rO rN) (g7_not A N) := by
  intro fa t e tok val hh tok7 worth fl cs code T hcs
  show ∃ rC rR, f_X1_readNot (nI k) (nI z) fa (nI e) tok (nI t) val (nI cs) tape code rE rO rN = some rC ∧ _
  have hz := L.hz
  have hk5 : nI k < 5 := by rw [show (5 : Int32) = nI 5 from rfl, nI_ltI (by omega) (by omega)]; exact hk
  by_cases h : tok = 265
  · have w : f_X7_isWord 110 111 116 0 0 0 0 0 (nI FR) (nI z) hh tok7 (nI t) 0 texts = some (if tok = 265 then 1 else 0) := TK_word T (i := 5) (by decide)
    rw [if_pos h] at w
    have ne1 : tok ≠ 256 ∧ tok ≠ 257 := by rw [h]; decide
    obtain ⟨t1, e1, tok1, val1, hh1, tok71, worth1, i1, i2, i3, T1⟩ := TK_go L T ne1.1 ne1.2
    obtain ⟨rC, rR, j1, j2, j3⟩ := hN fa t1 e1 tok1 val1 hh1 tok71 worth1 fl cs code T1 (by omega)
    have hC : f_X1_readNot (nI k) (nI z) fa (nI e) tok (nI t) val (nI cs) tape code rE rO rN = (some rC).bind (fun v28_6 => if v28_6.1 = 0 then some (0, v28_6.2.1, v28_6.2.2.1, v28_6.2.2.2.1, v28_6.2.2.2.2.1, v28_6.2.2.2.2.2.1, v28_6.2.2.2.2.2.2.1, v28_6.2.2.2.2.2.2.2) else (f_X1_put (-12) v28_6.2.2.2.2.2.2.1 v28_6.2.2.2.2.2.2.2).bind (fun v37_7 => if v37_7.1 = 0 then some (0, v28_6.2.1, v28_6.2.2.1, v28_6.2.2.2.1, v28_6.2.2.2.2.1, v28_6.2.2.2.2.2.1, v37_7.2.1, v37_7.2.2) else some (1, v28_6.2.1, v28_6.2.2.1, v28_6.2.2.2.1, v28_6.2.2.2.2.1, v28_6.2.2.2.2.2.1, v37_7.2.1, v37_7.2.2))) := by
      unfold f_X1_readNot
      rw [if_pos h, if_pos hk5, i2, Option.bind_some, nI_1, j1]
    have hR : g7_not A N (nv 0) (nv 1) (nv 2) (nv 3) (nv 4) (nv 5) (nI FR) (nI z) hh tok7 (nI t) worth (nI k) 0 fl texts = some (if rR.1 = 0 then 1 else 0, rR.2.1, rR.2.2.1, rR.2.2.2.1, rR.2.2.2.2.1, (rR.2.2.2.2.2.1 - 1), rR.2.2.2.2.2.2.1, rR.2.2.2.2.2.2.2) := by
      unfold g7_not
      rw [w, Option.bind_some, if_neg (by decide), opensk hk i3, Option.bind_some, if_neg (show ¬ (1 : Int32) = 0 by decide), j2, Option.bind_some]
      split <;> rfl
    rw [hC, hR, Option.bind_some]
    rcases j3 with ⟨g1, g2, g3⟩ | ⟨fa', t2, e2, tok2, val2, hh2, tok72, worth2, fl2, cs2, code2, w2, rfl, rfl, T2, k1, k2, k3, k4⟩
    · rw [if_pos g1]
      exact ⟨_, _, rfl, rfl, Or.inl ⟨rfl, g2, g3⟩⟩
    · have hk4 := k4.1; have ht2 := T2.1; have hez2 := T2.2.1
      rw [if_neg (show ¬ (1 : Int32) = 0 by decide), put1 (by omega), Option.bind_some, if_neg (show ¬ (1 : Int32) = 0 by decide)]
      refine ⟨_, _, rfl, rfl, Or.inr ⟨fa', t2, e2, tok2, val2, hh2, tok72, worth2, fl2, cs2 + 1, upd code2 cs2 (-12), if w2 = 0 then 1 else 0, rfl, ?_, T2, by omega, by omega, fun i hi => ?_, EV_un k4 (Or.inl rfl) ?_⟩⟩
      · show ((if w2 = 0 then (1 : Int32) else 0), hh2, tok72, nI t2, worth2, nI (k + 1) - 1, (0 : Int32), fl2) = _
        rw [nI_pred]
      · simp only [upd]; rw [if_neg (by omega)]; exact k3 i hi
      · unfold f_X5_turned
        rw [if_neg (by decide)]; split <;> rfl
  · exact not_cmp L hS T hcs h
/-! ### all levels -/
theorem SIM_lv (L : LX z FR tape texts) {rE rO rN : RF} {AT NT SM TM BT ET : AF} {D : Nat}
    (hO : SIM z FR tape texts nv k D (fun l1 sz fa a tok tA val cs tp cd => f_X1_readOne l1 sz fa a tok tA val cs tp cd rE rO) AT)
    (e1 : TM = g7_term AT) (e2 : SM = g7_added TM)
    (hN : SIM z FR tape texts nv k (D + 2) (fun l1 sz fa a tok tA val cs tp cd => f_X1_readSum l1 sz fa a tok tA val cs tp cd rE rO) SM → SIM z FR tape texts nv k (D + 3) (fun l1 sz fa a tok tA val cs tp cd => f_X1_readNot l1 sz fa a tok tA val cs tp cd rE rO rN) NT)
    (e3 : BT = g7_both NT) (e4 : ET = g7_either BT) :
    SIM z FR tape texts nv k (D + 5) (fun l1 sz fa a tok tA val cs tp cd => f_X1_readEither l1 sz fa a tok tA val cs tp cd rE rO rN) ET ∧ SIM z FR tape texts nv k (D + 3) (fun l1 sz fa a tok tA val cs tp cd => f_X1_readNot l1 sz fa a tok tA val cs tp cd rE rO rN) NT := by
  subst e1; subst e2; subst e3; subst e4
  have h1 := SIM_sum L (SIM_term L hO)
  have h2 := hN h1
  exact ⟨SIM_either L (SIM_both L h2), h2⟩
/-- either, not, one: at level k, of the tied readers -/
def LV (z FR : Nat) (tape texts nv : Nat → Int32) (k D : Nat) (r : RF × RF × RF) (ET NT AT : AF) : Prop :=
  SIM z FR tape texts nv k (D + 5) r.1 ET ∧ SIM z FR tape texts nv k (D + 3) r.2.1 NT ∧ SIM z FR tape texts nv k D r.2.2 AT
theorem LV5 (L : LX z FR tape texts) : LV z FR tape texts nv 5 1 (RT 2) f_X7_either5 f_X7_not5 f_X7_atom5 := by
  have h0 : SIM z FR tape texts nv 5 1 (fun l1 sz fa a tok tA val cs tp cd => f_X1_readOne l1 sz fa a tok tA val cs tp cd (RT 1).1 (RT 1).2.2) f_X7_atom5 := SIM_one5 L (by omega)
  obtain ⟨h1, h2⟩ := SIM_lv L (rN := (RT 1).2.1) h0 e7_term5 e7_added5 (fun h => SIM_not5 L h) e7_both5 e7_either5
  exact ⟨h1, h2, h0⟩
theorem LVk (L : LX z FR tape texts) (hk : k < 5) {n D : Nat} {ET NT AT ET' NT' AT' SM TM BT : AF} (h : LV z FR tape texts nv (k + 1) D (RT n) ET NT AT)
    (e0 : AT' = g7_atom AT ET) (e1 : TM = g7_term AT') (e2 : SM = g7_added TM) (e3 : NT' = g7_not SM NT) (e4 : BT = g7_both NT') (e5 : ET' = g7_either BT) : LV z FR tape texts nv k (D + 5) (RT (n + 1)) ET' NT' AT' := by
  obtain ⟨a, b, c⟩ := h
  have h0 : SIM z FR tape texts nv k (D + 5) (fun l1 sz fa a tok tA val cs tp cd => f_X1_readOne l1 sz fa a tok tA val cs tp cd (RT n).1 (RT n).2.2) AT' := by
    rw [e0]; exact SIM_one L hk a (SIM_mono c (by omega)) (by omega)
  obtain ⟨h1, h2⟩ := SIM_lv L (rN := (RT n).2.1) h0 e1 e2 (fun h => by rw [e3]; exact SIM_not L hk h (SIM_mono b (by omega))) e4 e5
  exact ⟨h1, h2, h0⟩
theorem SIM0 (L : LX z FR tape texts) : SIM z FR tape texts nv 0 31 fE f_X7_either0 := by
  have h5 := LV5 (nv := nv) L
  have h4 := LVk L (by omega) h5 e7_atom4 e7_term4 e7_added4 e7_not4 e7_both4 e7_either4
  have h3 := LVk L (by omega) h4 e7_atom3 e7_term3 e7_added3 e7_not3 e7_both3 e7_either3
  have h2 := LVk L (by omega) h3 e7_atom2 e7_term2 e7_added2 e7_not2 e7_both2 e7_either2
  have h1 := LVk L (by omega) h2 e7_atom1 e7_term1 e7_added1 e7_not1 e7_both1 e7_either1
  have h0 := LVk L (by omega) h1 e7_atom0 e7_term0 e7_added0 e7_not0 e7_both0 e7_either0
  exact h0.1
end
