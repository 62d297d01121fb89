section
variable {z FR : Nat} {tape texts nv : Nat → Int32} {k D : Nat} {A E : AF}
theorem atom123 {t e : Nat} {tok val hh tok7 : Int32} {worth : Int64} {o fl : Int32} (T : TK z FR texts t e tok val hh tok7 worth) (h1 : tok ≠ 259) :
    ∃ v, f_X7_atom4_123 (nv 0) (nv 1) (nv 2) (nv 3) (nv 4) (nv 5) (nI FR) (nI z) hh tok7 (nI t) worth o 0 fl texts 0 = some (v, hh, tok7, nI t, worth, o, 1, nI t) := by
  unfold f_X7_atom4_123
  rw [if_pos rfl]
  by_cases h7 : tok7 = 1
  · rw [if_pos h7, TK_name T h7, if_neg h1, Option.bind_some, if_neg (show ¬ (1 : Int32) = 0 by decide)]
    exact ⟨_, rfl⟩
  · rw [if_neg h7]
    unfold f_X7_fail
    rw [if_pos rfl, Option.bind_some]
    exact ⟨_, rfl⟩
theorem atom123n {t e : Nat} {tok val hh tok7 : Int32} {worth : Int64} {o fl : Int32} (T : TK z FR texts t e tok val hh tok7 worth) (h1 : tok = 259) {n : Int32 × Int32 × Int32 × Int64} (hn : f_X7_next (nI FR) (nI z) hh worth texts = some n) :
    f_X7_atom4_123 (nv 0) (nv 1) (nv 2) (nv 3) (nv 4) (nv 5) (nI FR) (nI z) hh tok7 (nI t) worth o 0 fl texts 0 = some (nv (-1 - val).toNatClampNeg, n.1, n.2.1, n.2.2.1, n.2.2.2, o, 0, fl) := by
  unfold f_X7_atom4_123
  have h7 := (TK_nm T h1).1
  rw [if_pos rfl, if_pos h7, TK_name T h7, if_pos h1, Option.bind_some, if_pos rfl, hn, Option.bind_some]
/-- a number or a name -/
theorem one_nm (L : LX z FR tape texts) {rE rO : RF} {fa : Int32} {t e : Nat} {tok val hh tok7 : Int32} {worth : Int64} {fl : Int32} {cs : Nat} {code : Nat → Int32} (T : TK z FR texts t e tok val hh tok7 worth) (hcs : cs ≤ t) (h : tok = 258 ∨ tok = 259) (hD : 1 ≤ D)
    {AT : AF} (hA : AT = f_X7_atom5 ∨ AT = g7_atom A E) :
    ∃ rC rR, f_X1_readOne (nI k) (nI z) fa (nI e) tok (nI t) val (nI cs) tape code rE rO = some rC ∧ AT (nv 0) (nv 1) (nv 2) (nv 3) (nv 4) (nv 5) (nI FR) (nI z) hh tok7 (nI t) worth (nI k) 0 fl texts = some rR ∧ OUT z FR texts nv k D t cs code rC rR := by
  have hz := L.hz; have hez := T.2.1
  have ne1 : tok ≠ 256 ∧ tok ≠ 257 ∧ tok ≠ 45 ∧ tok ≠ 40 := by rcases h with rfl | rfl <;> decide
  have hte := (TK_nx T ne1.1 ne1.2.1).1
  obtain ⟨t1, e1, tok1, val1, hh1, tok71, worth1, i1, i2, i3, T1⟩ := TK_go L T ne1.1 ne1.2.1
  have s45 := TK_sign T (s := 45) (by unfold Sgn; decide)
  have s40 := TK_sign T (s := 40) (by unfold Sgn; decide)
  rw [if_neg ne1.2.2.1] at s45
  rw [if_neg ne1.2.2.2] at s40
  have hC : f_X1_readOne (nI k) (nI z) fa (nI e) tok (nI t) val (nI cs) tape code rE rO = some (1, fa, nI e1, tok1, nI t1, val1, nI (cs + 1), upd code cs val) := by
    unfold f_X1_readOne f_X1_readOne_20
    rw [put1 (by omega), i2, Option.bind_some, Option.bind_some]
    rcases h with h | h
    · rw [if_pos h]
    · rw [if_neg (by rw [h]; decide), if_pos h]
  have hR : ∃ v, AT (nv 0) (nv 1) (nv 2) (nv 3) (nv 4) (nv 5) (nI FR) (nI z) hh tok7 (nI t) worth (nI k) 0 fl texts = some (v, hh1, tok71, nI t1, worth1, nI k, 0, fl) ∧ -6 ≤ val.toInt ∧ v = if val < 0 then nv (-1 - val).toNatClampNeg else val := by
    rcases h with h | h
    · obtain ⟨a1, a2, a3⟩ := TK_num T h
      refine ⟨worth.toInt32, ?_, by omega, by rw [if_neg (by rw [lt_i, i0]; omega)]; exact a2⟩
      rcases hA with rfl | rfl
      · unfold f_X7_atom5
        rw [s45, Option.bind_some, if_pos rfl, s40, Option.bind_some, if_pos rfl, if_pos rfl, if_pos a1, i3, Option.bind_some]
      · unfold g7_atom
        rw [s45, Option.bind_some, if_pos rfl, s40, Option.bind_some, if_pos rfl, if_pos rfl, if_pos a1, i3, Option.bind_some]
    · obtain ⟨a1, a2, a3⟩ := TK_nm T h
      refine ⟨nv (-1 - val).toNatClampNeg, ?_, a2, by rw [if_pos (by rw [lt_i, i0]; omega)]⟩
      have a := atom123n (nv := nv) (o := nI k) (fl := fl) T h i3
      rcases hA with rfl | rfl
      · unfold f_X7_atom5
        rw [s45, Option.bind_some, if_pos rfl, s40, Option.bind_some, if_pos rfl, if_pos rfl, if_neg (by rw [a1]; decide)]
        exact a
      · unfold g7_atom
        rw [s45, Option.bind_some, if_pos rfl, s40, Option.bind_some, if_pos rfl, if_pos rfl, if_neg (by rw [a1]; decide)]
        exact a
  obtain ⟨v, hR, b1, b2⟩ := hR
  refine ⟨_, _, hC, hR, Or.inr ⟨fa, t1, e1, tok1, val1, hh1, tok71, worth1, fl, cs + 1, upd code cs val, v, rfl, rfl, T1, i1, by omega, fun i hi => ?_, EV_num b1 b2 hD⟩⟩
  simp only [upd]; rw [if_neg (by omega)]
/-- neither a number, a name, a '-' nor a '(' -/
theorem one_no {rE rO : RF} {fa : Int32} {t e : Nat} {tok val hh tok7 : Int32} {worth : Int64} {fl : Int32} {cs : Nat} {code : Nat → Int32} (T : TK z FR texts t e tok val hh tok7 worth) (h1 : tok ≠ 258) (h2 : tok ≠ 259) (h3 : tok ≠ 45) (h4 : tok ≠ 40)
    {AT : AF} (hA : AT = f_X7_atom5 ∨ AT = g7_atom A E) :
    ∃ rC rR, f_X1_readOne (nI k) (nI z) fa (nI e) tok (nI t) val (nI cs) tape code rE rO = some rC ∧ AT (nv 0) (nv 1) (nv 2) (nv 3) (nv 4) (nv 5) (nI FR) (nI z) hh tok7 (nI t) worth (nI k) 0 fl texts = some rR ∧ OUT z FR texts nv k D t cs code rC rR := by
  have s45 := TK_sign T (s := 45) (by unfold Sgn; decide)
  have s40 := TK_sign T (s := 40) (by unfold Sgn; decide)
  rw [if_neg h3] at s45
  rw [if_neg h4] at s40
  have hC : f_X1_readOne (nI k) (nI z) fa (nI e) tok (nI t) val (nI cs) tape code rE rO = some (0, nI t, nI e, tok, nI t, val, nI cs, code) := by
    unfold f_X1_readOne f_X1_fail
    rw [if_neg h1, if_neg h2, if_neg h3, if_neg h4, Option.bind_some, if_pos (show isZ 0 = true by decide)]
  obtain ⟨v, a⟩ := atom123 (nv := nv) (o := nI k) (fl := fl) T h2
  have hR : AT (nv 0) (nv 1) (nv 2) (nv 3) (nv 4) (nv 5) (nI FR) (nI z) hh tok7 (nI t) worth (nI k) 0 fl texts = some (v, hh, tok7, nI t, worth, nI k, 1, nI t) := by
    rcases hA with rfl | rfl
    · unfold f_X7_atom5
      rw [s45, Option.bind_some, if_pos rfl, s40, Option.bind_some, if_pos rfl, if_pos rfl, if_neg (TK_num0 T h1)]
      exact a
    · unfold g7_atom
      rw [s45, Option.bind_some, if_pos rfl, s40, Option.bind_some, if_pos rfl, if_pos rfl, if_neg (TK_num0 T h1)]
      exact a
  exact ⟨_, _, hC, hR, Or.inl ⟨rfl, rfl, rfl⟩⟩
theorem opens5 {hh tok7 tA : Int32} {worth : Int64} {fl : Int32} : f_X7_opens (nI FR) (nI z) hh tok7 tA worth (nI 5) 0 fl texts = some (0, hh, tok7, tA, worth, nI 5, 1, tA) := by
  unfold f_X7_opens f_X7_fail
  rw [if_pos (show nI 5 = 5 from rfl), if_pos rfl, Option.bind_some]
theorem opensk (hk : k < 5) {hh tok7 tA : Int32} {worth : Int64} {fl : Int32} {n : Int32 × Int32 × Int32 × Int64} (hn : f_X7_next (nI FR) (nI z) hh worth texts = some n) : f_X7_opens (nI FR) (nI z) hh tok7 tA worth (nI k) 0 fl texts = some (1, n.1, n.2.1, n.2.2.1, n.2.2.2, nI (k + 1), 0, fl) := by
  unfold f_X7_opens
  rw [if_neg (by rw [show (5 : Int32) = nI 5 from rfl, eq_nI] <;> omega), hn, Option.bind_some, nI_1]
/-- five deep -/
theorem SIM_one5 (L : LX z FR tape texts) {rE rO : RF} (hD : 1 ≤ D) : SIM z FR tape texts nv 5 D (fun l1 sz fa a tok tA val cs tp cd => f_X1_readOne l1 sz fa a tok tA val cs tp cd rE rO) f_X7_atom5 := by
  intro fa t e tok val hh tok7 worth fl cs code T hcs
  show ∃ rC rR, f_X1_readOne (nI 5) (nI z) fa (nI e) tok (nI t) val (nI cs) tape code rE rO = some rC ∧ _
  by_cases h : tok = 258 ∨ tok = 259
  · exact one_nm (A := f_X7_atom5) (E := f_X7_atom5) L T hcs h hD (Or.inl rfl)
  · simp only [not_or] at h
    by_cases h2 : tok = 45 ∨ tok = 40
    · have s45 := TK_sign T (s := 45) (by unfold Sgn; decide)
      have s40 := TK_sign T (s := 40) (by unfold Sgn; decide)
      have hC : f_X1_readOne (nI 5) (nI z) fa (nI e) tok (nI t) val (nI cs) tape code rE rO = some (0, nI t, nI e, tok, nI t, val, nI cs, code) := by
        unfold f_X1_readOne f_X1_readOne_53 f_X1_fail
        rw [if_neg h.1, if_neg h.2]
        rcases h2 with h2 | h2
        · rw [if_pos h2, if_neg (by decide), Option.bind_some, if_pos (show isZ 0 = true by decide)]
        · rw [if_neg (by rw [h2]; decide), if_pos h2, if_neg (by decide), Option.bind_some, if_pos (show isZ 0 = true by decide)]
      have hR : f_X7_atom5 (nv 0) (nv 1) (nv 2) (nv 3) (nv 4) (nv 5) (nI FR) (nI z) hh tok7 (nI t) worth (nI 5) 0 fl texts = some (0, hh, tok7, nI t, worth, nI 5, 1, nI t) := by
        unfold f_X7_atom5
        rcases h2 with h2 | h2
        · rw [s45, if_pos h2, Option.bind_some, if_neg (by decide), opens5, Option.bind_some]
        · rw [s45, if_neg (by rw [h2]; decide), Option.bind_some, if_pos rfl, s40, if_pos h2, Option.bind_some, if_neg (by decide), opens5, Option.bind_some]
      exact ⟨_, _, hC, hR, Or.inl ⟨rfl, rfl, rfl⟩⟩
    · simp only [not_or] at h2
      exact one_no (A := f_X7_atom5) (E := f_X7_atom5) T h.1 h.2 h2.1 h2.2 (Or.inl rfl)
theorem SIM_one (L : LX z FR tape texts) (hk : k < 5) {rE rO : RF} (hE : SIM z FR tape texts nv (k + 1) D rE E) (hO : SIM z FR tape texts nv (k + 1) D rO A) (hD : 1 ≤ D) : SIM z FR tape texts nv k D (fun l1 sz fa a tok tA val cs tp cd => f_X1_readOne l1 sz fa a tok tA val cs tp cd rE rO) (g7_atom A E) := by
  intro fa t e tok val hh tok7 worth fl cs code T hcs
  show ∃ rC rR, f_X1_readOne (nI k) (nI z) fa (nI e) tok (nI t) val (nI cs) tape code rE rO = some rC ∧ _
  have hz := L.hz; have hez := T.2.1
  have hk5 : nI k < 5 := by rw [show (5 : Int32) = nI 5 from rfl, nI_ltI (by omega) (by omega)]; exact hk
  by_cases h : tok = 258 ∨ tok = 259
  · exact one_nm L T hcs h hD (Or.inr rfl)
  simp only [not_or] at h
  have s45 := TK_sign T (s := 45) (by unfold Sgn; decide)
  have s40 := TK_sign T (s := 40) (by unfold Sgn; decide)
  by_cases h2 : tok = 45
  · have ne1 : tok ≠ 256 ∧ tok ≠ 257 := by rw [h2]; decide
    obtain ⟨t1, e1, tok1, val1, hh1, tok71, worth1, i1, i2, i3, T1⟩ := TK_go L T ne1.1 ne1.2
    obtain ⟨rC, rR, j1, j2, j3⟩ := hO fa t1 e1 tok1 val1 hh1 tok71 worth1 fl cs code T1 (by omega)
    rw [if_pos h2] at s45
    have hC : f_X1_readOne (nI k) (nI z) fa (nI e) tok (nI t) val (nI cs) tape code rE rO = (some rC).bind (fun v90_6 => if v90_6.1 = 0 then some (0, v90_6.2.1, v90_6.2.2.1, v90_6.2.2.2.1, v90_6.2.2.2.2.1, v90_6.2.2.2.2.2.1, v90_6.2.2.2.2.2.2.1, v90_6.2.2.2.2.2.2.2) else (f_X1_put (-13) v90_6.2.2.2.2.2.2.1 v90_6.2.2.2.2.2.2.2).bind (fun v99_7 => if v99_7.1 = 0 then some (0, v90_6.2.1, v90_6.2.2.1, v90_6.2.2.2.1, v90_6.2.2.2.2.1, v90_6.2.2.2.2.2.1, v99_7.2.1, v99_7.2.2) else some (1, v90_6.2.1, v90_6.2.2.1, v90_6.2.2.2.1, v90_6.2.2.2.2.1, v90_6.2.2.2.2.2.1, v99_7.2.1, v99_7.2.2))) := by
      unfold f_X1_readOne f_X1_readOne_53 f_X1_readOne_77
      rw [if_neg h.1, if_neg h.2, if_pos h2, if_pos hk5, if_pos h2, i2, Option.bind_some, if_neg (by decide), nI_1, j1]
    have hR : g7_atom A E (nv 0) (nv 1) (nv 2) (nv 3) (nv 4) (nv 5) (nI FR) (nI z) hh tok7 (nI t) worth (nI k) 0 fl texts = some ((-rR.1), rR.2.1, rR.2.2.1, rR.2.2.2.1, rR.2.2.2.2.1, (rR.2.2.2.2.2.1 - 1), rR.2.2.2.2.2.2.1, rR.2.2.2.2.2.2.2) := by
      unfold g7_atom
      rw [s45, Option.bind_some, if_neg (by decide), opensk hk i3, Option.bind_some, if_neg (show ¬ (1 : Int32) = 0 by decide), j2, Option.bind_some]
    rw [hC, hR, Option.bind_some]
    rcases j3 with ⟨g1, g2, g3⟩ | ⟨fa', t2, e2, tok2, val2, hh2, tok72, worth2, fl2, cs2, code2, w, rfl, rfl, T2, k1, k2, k3, k4⟩
    · rw [if_pos g1]
      exact ⟨_, _, rfl, rfl, Or.inl ⟨rfl, g2, g3⟩⟩
    · have hk4 := k4.1; have ht2 := T2.1; have hez2 := T2.2.1
      rw [if_neg (show ¬ (1 : Int32) = 0 by decide), put1 (by omega), Option.bind_some, if_neg (show ¬ (1 : Int32) = 0 by decide)]
      refine ⟨_, _, rfl, rfl, Or.inr ⟨fa', t2, e2, tok2, val2, hh2, tok72, worth2, fl2, cs2 + 1, upd code2 cs2 (-13), -w, rfl, ?_, T2, by omega, by omega, fun i hi => ?_, EV_un k4 (Or.inr rfl) rfl⟩⟩
      · show (-w, hh2, tok72, nI t2, worth2, nI (k + 1) - 1, (0 : Int32), fl2) = _
        rw [nI_pred]
      · simp only [upd]; rw [if_neg (by omega)]; exact k3 i hi
  rw [if_neg h2] at s45
  by_cases h3 : tok = 40
  · have ne1 : tok ≠ 256 ∧ tok ≠ 257 := by rw [h3]; decide
    obtain ⟨t1, e1, tok1, val1, hh1, tok71, worth1, i1, i2, i3, T1⟩ := TK_go L T ne1.1 ne1.2
    obtain ⟨rC, rR, j1, j2, j3⟩ := hE fa t1 e1 tok1 val1 hh1 tok71 worth1 fl cs code T1 (by omega)
    rw [if_pos h3] at s40
    have hC : f_X1_readOne (nI k) (nI z) fa (nI e) tok (nI t) val (nI cs) tape code rE rO = (some rC).bind (fun v115_4 => if v115_4.1 = 0 then some (0, v115_4.2.1, v115_4.2.2.1, v115_4.2.2.2.1, v115_4.2.2.2.2.1, v115_4.2.2.2.2.2.1, v115_4.2.2.2.2.2.2.1, v115_4.2.2.2.2.2.2.2) else (f_X1_expect 41 (nI z) v115_4.2.1 v115_4.2.2.1 v115_4.2.2.2.1 v115_4.2.2.2.2.1 v115_4.2.2.2.2.2.1 tape).bind (fun v124_5 => if v124_5.1 = 0 then some (0, v124_5.2.1, v124_5.2.2.1, v124_5.2.2.2.1, v124_5.2.2.2.2.1, v124_5.2.2.2.2.2, v115_4.2.2.2.2.2.2.1, v115_4.2.2.2.2.2.2.2) else some (1, v124_5.2.1, v124_5.2.2.1, v124_5.2.2.2.1, v124_5.2.2.2.2.1, v124_5.2.2.2.2.2, v115_4.2.2.2.2.2.2.1, v115_4.2.2.2.2.2.2.2))) := by
      unfold f_X1_readOne f_X1_readOne_53 f_X1_readOne_77
      rw [if_neg h.1, if_neg h.2, if_neg h2, if_pos h3, if_pos hk5, if_neg h2, i2, Option.bind_some, if_pos rfl, nI_1, j1]
    have hR : g7_atom A E (nv 0) (nv 1) (nv 2) (nv 3) (nv 4) (nv 5) (nI FR) (nI z) hh tok7 (nI t) worth (nI k) 0 fl texts = (f_X7_isSign 41 rR.2.2.1 rR.2.2.2.2.1 rR.2.2.2.2.2.2.1).bind (fun v61_10 => if v61_10 = 0 then (f_X7_fail rR.2.2.2.1 rR.2.2.2.2.2.2.1 rR.2.2.2.2.2.2.2).bind (fun v68_12 => f_X7_atom4_71 (nI FR) (nI z) rR.2.1 rR.2.2.1 rR.2.2.2.1 rR.2.2.2.2.1 rR.2.2.2.2.2.1 v68_12.1 v68_12.2 texts rR.1) else f_X7_atom4_71 (nI FR) (nI z) rR.2.1 rR.2.2.1 rR.2.2.2.1 rR.2.2.2.2.1 rR.2.2.2.2.2.1 rR.2.2.2.2.2.2.1 rR.2.2.2.2.2.2.2 texts rR.1) := by
      unfold g7_atom
      rw [s45, Option.bind_some, if_pos rfl, s40, Option.bind_some, if_neg (by decide), opensk hk i3, Option.bind_some, if_neg (show ¬ (1 : Int32) = 0 by decide), j2, Option.bind_some]
    rw [hC, hR, Option.bind_some]
    rcases j3 with ⟨g1, g2, g3⟩ | ⟨fa', t2, e2, tok2, val2, hh2, tok72, worth2, fl2, cs2, code2, w, rfl, rfl, T2, k1, k2, k3, k4⟩
    · rw [if_pos g1, g2]
      unfold f_X7_isSign f_X7_fail f_X7_atom4_71
      rw [if_neg (by decide), Option.bind_some, if_pos rfl, if_neg (by decide), Option.bind_some, if_neg (show ¬ (1 : Int32) = 0 by decide)]
      exact ⟨_, _, rfl, rfl, Or.inl ⟨rfl, rfl, g3⟩⟩
    · have hk4 := k4.1; have ht2 := T2.1; have hez2 := T2.2.1
      rw [if_neg (show ¬ (1 : Int32) = 0 by decide), TK_sign T2 (s := 41) (by unfold Sgn; decide)]
      unfold f_X1_expect f_X7_atom4_71
      by_cases h41 : tok2 = 41
      · have ne2 : tok2 ≠ 256 ∧ tok2 ≠ 257 := by rw [h41]; decide
        obtain ⟨t3, e3, tok3, val3, hh3, tok73, worth3, l1, l2, l3, T3⟩ := TK_go L T2 ne2.1 ne2.2
        rw [if_pos h41, if_pos h41, l2, Option.bind_some, Option.bind_some, if_neg (show ¬ (1 : Int32) = 0 by decide), Option.bind_some, if_neg (show ¬ (1 : Int32) = 0 by decide), if_pos rfl, l3, Option.bind_some]
        refine ⟨_, _, rfl, rfl, Or.inr ⟨fa', t3, e3, tok3, val3, hh3, tok73, worth3, fl2, cs2, code2, w, rfl, ?_, T3, by omega, by omega, k3, k4⟩⟩
        show (w, hh3, tok73, nI t3, worth3, nI (k + 1) - 1, (0 : Int32), fl2) = _
        rw [nI_pred]
      · rw [if_neg h41, if_neg h41]
        unfold f_X1_fail f_X7_fail
        rw [Option.bind_some, if_pos (show isZ 0 = true by decide), Option.bind_some, if_pos rfl, Option.bind_some, if_pos rfl, if_pos rfl, Option.bind_some, if_neg (show ¬ (1 : Int32) = 0 by decide)]
        exact ⟨_, _, rfl, rfl, Or.inl ⟨rfl, rfl, rfl⟩⟩
  · exact one_no T h.1 h.2 h2 h3 (Or.inr rfl)
end
