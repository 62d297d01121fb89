section
variable {tv : Int32 → Int32 → Int32 → Int32 → Int32 → Int32 → Int32 → Int32 → Int32} {nT n F L S s o z q w P : Nat} {K N E : Nat → Nat} {face lamp stove pose rule painters many fw pw l1 l2 l3 l4 l5 sort size : Int32} {kind number easel had pleased kinds rows room it iT so ss its : Nat → Int32}
/-- what painters leaves -/
def PTR (nT n F L S : Nat) (face lamp stove pose rule : Int32) (kinds0 room : Nat → Int32) (p' : Int32) (e' k' nu' h' pl' rows' kinds' : Nat → Int32) : Prop :=
  (∀ j, j < n → kinds' j = kinds0 j) ∧ ∃ n' K' N' E', n ≤ n' ∧ RG nT n' F L S K' N' E' face lamp stove pose rule p' k' nu' e' h' pl' p' kinds' rows' room
theorem pt_loop {m : Nat} {c : Nat} (hs : s < 4) (hz : z ≤ 40) (hss : ss s = nI z) (hit : ∀ j, j < z → it j = its (40 * s + j)) (hm : m ≤ 6) {from0 : Nat} (hf : from0 ≤ 40) :
    ∀ (k i came fu1 fu2 : Nat) (p' : Int32) (e' k' nu' h' pl' rows' kinds' : Nat → Int32), i + k = m → came ≤ i → k < fu1 → k < fu2 → PTR nT n F L S face lamp stove pose rule kinds room p' e' k' nu' h' pl' rows' kinds' →
      ∃ a p2 e2 k2 nu2 h2 pl2 rows2 kinds2, lq9 (f_X6_painters_69 (nI z) it (nI m)) fu1 (nI came) (nI (from0 + 3 * i)) (nI i) p' e' k' nu' h' pl' = some (a, p2, e2, k2, nu2, h2, pl2) ∧ lq5 (f_X7_painters_75 ss its (nI s) (nI from0) (nI m)) fu2 (nI came) (nI i) p' rows' kinds' = some (a, p2, rows2, kinds2) ∧ PTR nT n F L S face lamp stove pose rule kinds room p2 e2 k2 nu2 h2 pl2 rows2 kinds2 := by
  have hin : inb (nI s) 4 = true := inb_nI (by omega) (by decide)
  intro k
  induction k with
  | zero =>
    intro i came fu1 fu2 p' e' k' nu' h' pl' rows' kinds' h1 hc hf1 hf2 hP
    obtain ⟨fu1, rfl⟩ : ∃ g, fu1 = g + 1 := ⟨fu1 - 1, by omega⟩
    obtain ⟨fu2, rfl⟩ : ∃ g, fu2 = g + 1 := ⟨fu2 - 1, by omega⟩
    refine ⟨nI came, p', e', k', nu', h', pl', rows', kinds', ?_, ?_, hP⟩
    · show f_X6_painters_69 _ _ _ (lq9 _ fu1) _ _ (nI i) _ _ _ _ _ _ = _
      unfold f_X6_painters_69
      rw [if_pos (by rw [le_nI] <;> omega)]
    · show f_X7_painters_75 _ _ _ _ _ (lq5 _ fu2) _ (nI i) _ _ _ = _
      unfold f_X7_painters_75
      rw [if_pos (by rw [le_nI] <;> omega)]
  | succ k ih =>
    intro i came fu1 fu2 p' e' k' nu' h' pl' rows' kinds' h1 hc hf1 hf2 hP
    obtain ⟨fu1, rfl⟩ : ∃ g, fu1 = g + 1 := ⟨fu1 - 1, by omega⟩
    obtain ⟨fu2, rfl⟩ : ∃ g, fu2 = g + 1 := ⟨fu2 - 1, by omega⟩
    have hle : ¬ nI m ≤ nI i := by rw [le_nI] <;> omega
    have hfr : ¬ nI from0 < 0 := by rw [lt_i, i0, nI_toInt (by omega)]; omega
    have e3 : ∀ i, i < 6 → 3 * nI i = nI (3 * i) := by decide +kernel
    have ez : (nI z).toInt = z := nI_toInt (by omega)
    have e3i : (nI (3 * i)).toInt = (3 * i : Nat) := nI_toInt (by omega)
    have ea : (nI z - nI (3 * i)).toInt = z - (3 * i : Nat) := by rw [sub_i (by rw [ez, e3i]; omega) (by rw [ez, e3i]; omega), ez, e3i]
    have eb : (nI z - nI (3 * i) - 3).toInt = z - (3 * i : Nat) - 3 := by rw [sub_i (by rw [ea, i3]; omega) (by rw [ea, i3]; omega), ea, i3]
    by_cases d : from0 + 3 * i + 3 ≤ z
    · obtain ⟨hkk, n1, K1, N1, E1, hn1, hRG⟩ := hP
      obtain ⟨x1, x2⟩ := ix40k (i := from0) (k := 3 * i) hs (by omega)
      obtain ⟨x3, x4⟩ := ix40k (i := from0) (k := 3 * i + 1) hs (by omega)
      obtain ⟨x5, x6⟩ := ix40k (i := from0) (k := 3 * i + 2) hs (by omega)
      have g1 : nI (3 * i) + 1 = nI (3 * i + 1) := nI_1 _
      have g2 : nI (3 * i) + 2 = nI (3 * i + 2) := by rw [show (2 : Int32) = 1 + 1 from rfl, ← Int32.add_assoc, nI_1, nI_1]
      have g3 : nI (from0 + 3 * i) + 1 = nI (from0 + 3 * i + 1) := nI_1 _
      have g4 : nI (from0 + 3 * i) + 2 = nI (from0 + 3 * i + 2) := by rw [show (2 : Int32) = 1 + 1 from rfl, ← Int32.add_assoc, nI_1, nI_1]
      have g5 : nI (from0 + 3 * i) + 3 = nI (from0 + 3 * (i + 1)) := by rw [show (3 : Int32) = 1 + 1 + 1 from rfl, ← Int32.add_assoc, ← Int32.add_assoc, nI_1, nI_1, nI_1]; congr 1
      obtain ⟨a, p2, e2, k2, nu2, h2, pl2, rows2, kinds2, q1, q2, q3, n2, K2, N2, E2, hn2, hRG2⟩ := A_painter (l1 := it (from0 + 3 * i)) (l2 := it (from0 + 3 * i + 1)) (l3 := it (from0 + 3 * i + 2)) hRG
      have hP2 : PTR nT n F L S face lamp stove pose rule kinds room p2 e2 k2 nu2 h2 pl2 rows2 kinds2 := ⟨fun j hj => (q3 j (by omega)).trans (hkk j hj), n2, K2, N2, E2, by omega, hRG2⟩
      have q2' : f_X7_painter (its (40 * s + from0 + 3 * i)) (its (40 * s + from0 + (3 * i + 1))) (its (40 * s + from0 + (3 * i + 2))) p' rows' kinds' = some (a, p2, rows2, kinds2) := by
        rw [← q2, hit (from0 + 3 * i) (by omega), hit (from0 + 3 * i + 1) (by omega), hit (from0 + 3 * i + 2) (by omega), show 40 * s + (from0 + 3 * i) = 40 * s + from0 + 3 * i by omega, show 40 * s + (from0 + 3 * i + 1) = 40 * s + from0 + (3 * i + 1) by omega, show 40 * s + (from0 + 3 * i + 2) = 40 * s + from0 + (3 * i + 2) by omega]
      by_cases c : a < 0
      · obtain ⟨a3, p3, e3', k3, nu3, h3, pl3, rows3, kinds3, r1, r2, r3⟩ := ih (i + 1) came fu1 fu2 p2 e2 k2 nu2 h2 pl2 rows2 kinds2 (by omega) (by omega) (by omega) (by omega) hP2
        refine ⟨a3, p3, e3', k3, nu3, h3, pl3, rows3, kinds3, ?_, ?_, r3⟩
        · rw [← r1]
          show f_X6_painters_69 _ _ _ (lq9 _ fu1) _ _ (nI i) _ _ _ _ _ _ = _
          generalize lq9 (f_X6_painters_69 (nI z) it (nI m)) fu1 = kp
          unfold f_X6_painters_69
          rw [if_neg hle, has1 hz, nI_toInt (by omega), i3, decide_eq_true (by omega)]
          simp only [Option.bind_some]
          rw [if_neg (show ¬ bz true = 0 by decide), if_pos (inb_nI (by omega) (by decide)), g3, if_pos (inb_nI (by omega) (by decide)), g4, if_pos (inb_nI (by omega) (by decide)), cl_nI (by omega), cl_nI (by omega), cl_nI (by omega), q1]
          simp only [Option.bind_some]
          rw [if_pos c, g5, nI_1]
        · rw [← r2]
          show f_X7_painters_75 _ _ _ _ _ (lq5 _ fu2) _ (nI i) _ _ _ = _
          generalize lq5 (f_X7_painters_75 ss its (nI s) (nI from0) (nI m)) fu2 = kp
          unfold f_X7_painters_75
          rw [if_neg hle, if_neg hfr, if_pos hin, cl_nI (show s ≤ 2147483647 by omega), hss, e3 i (by omega), if_pos (by rw [le_i, eb, nI_toInt (by omega)]; omega), if_pos x1, Int32.add_assoc _ (nI (3 * i)) 1, g1, if_pos x3, Int32.add_assoc _ (nI (3 * i)) 2, g2, if_pos x5, x2, x4, x6, q2']
          simp only [Option.bind_some]
          rw [if_pos c, nI_1, Int32.add_zero]
      · obtain ⟨a3, p3, e3', k3, nu3, h3, pl3, rows3, kinds3, r1, r2, r3⟩ := ih (i + 1) (came + 1) fu1 fu2 p2 e2 k2 nu2 h2 pl2 rows2 kinds2 (by omega) (by omega) (by omega) (by omega) hP2
        refine ⟨a3, p3, e3', k3, nu3, h3, pl3, rows3, kinds3, ?_, ?_, r3⟩
        · rw [← r1]
          show f_X6_painters_69 _ _ _ (lq9 _ fu1) _ _ (nI i) _ _ _ _ _ _ = _
          generalize lq9 (f_X6_painters_69 (nI z) it (nI m)) fu1 = kp
          unfold f_X6_painters_69
          rw [if_neg hle, has1 hz, nI_toInt (by omega), i3, decide_eq_true (by omega)]
          simp only [Option.bind_some]
          rw [if_neg (show ¬ bz true = 0 by decide), if_pos (inb_nI (by omega) (by decide)), g3, if_pos (inb_nI (by omega) (by decide)), g4, if_pos (inb_nI (by omega) (by decide)), cl_nI (by omega), cl_nI (by omega), cl_nI (by omega), q1]
          simp only [Option.bind_some]
          rw [if_neg c, g5, nI_1, nI_1]
        · rw [← r2]
          show f_X7_painters_75 _ _ _ _ _ (lq5 _ fu2) _ (nI i) _ _ _ = _
          generalize lq5 (f_X7_painters_75 ss its (nI s) (nI from0) (nI m)) fu2 = kp
          unfold f_X7_painters_75
          rw [if_neg hle, if_neg hfr, if_pos hin, cl_nI (show s ≤ 2147483647 by omega), hss, e3 i (by omega), if_pos (by rw [le_i, eb, nI_toInt (by omega)]; omega), if_pos x1, Int32.add_assoc _ (nI (3 * i)) 1, g1, if_pos x3, Int32.add_assoc _ (nI (3 * i)) 2, g2, if_pos x5, x2, x4, x6, q2']
          simp only [Option.bind_some]
          rw [if_neg c, nI_1, nI_1]
    · refine ⟨-12, p', e', k', nu', h', pl', rows', kinds', ?_, ?_, hP⟩
      · show f_X6_painters_69 _ _ _ (lq9 _ fu1) _ _ (nI i) _ _ _ _ _ _ = _
        unfold f_X6_painters_69
        rw [if_neg hle, has1 hz, nI_toInt (by omega), i3, decide_eq_false (by omega)]
        rfl
      · show f_X7_painters_75 _ _ _ _ _ (lq5 _ fu2) _ (nI i) _ _ _ = _
        unfold f_X7_painters_75
        rw [if_neg hle, if_neg hfr, if_pos hin, cl_nI (show s ≤ 2147483647 by omega), hss, e3 i (by omega), if_neg (by rw [le_i, eb, nI_toInt (by omega)]; omega)]
theorem painters_bad (h : ¬ (0 ≤ l1.toInt ∧ l1.toInt < 4)) : f_X6_painters l1 l2 l3 l4 sort size it painters easel kind number had pleased = some (-2, painters, easel, kind, number, had, pleased) ∧ f_X7_painters l1 l2 l3 l4 many iT ss its rows kinds so = some (-2, many, rows, kinds) := by
  unfold f_X6_painters f_X7_painters
  rw [isSheet6, isSheet7, decide_eq_false h]
  exact ⟨rfl, rfl⟩
theorem A_painters (h : RG nT n F L S K N E face lamp stove pose rule painters kind number easel had pleased many kinds rows room) (hs : s < 4) (hS : SHr s sort size it iT so ss its) :
    ∃ a p' e' k' nu' h' pl' rows' kinds', f_X6_painters (nI s) l2 l3 l4 sort size it painters easel kind number had pleased = some (a, p', e', k', nu', h', pl') ∧ f_X7_painters (nI s) l2 l3 l4 many iT ss its rows kinds so = some (a, p', rows', kinds') ∧ PTR nT n F L S face lamp stove pose rule kinds room p' e' k' nu' h' pl' rows' kinds' := by
  have hp := h.2.1.2.2.2.1
  have hmany := h.2.2.1.1
  have hmp : many = painters := by rw [hp, hmany]
  have hin : inb (nI s) 4 = true := inb_nI (by omega) (by decide)
  have hb : ¬ bz true = 0 := by decide
  subst hmp
  have hP0 : PTR nT n F L S face lamp stove pose rule kinds room many easel kind number had pleased rows kinds := ⟨fun _ _ => rfl, n, K, N, E, Nat.le_refl _, h⟩
  have same : ∀ a : Int32, ∃ a' p' e' k' nu' h' pl' rows' kinds', some (a, many, easel, kind, number, had, pleased) = some (a', p', e', k', nu', h', pl') ∧ some (a, many, rows, kinds) = some (a', p', rows', kinds') ∧ PTR nT n F L S face lamp stove pose rule kinds room p' e' k' nu' h' pl' rows' kinds' := fun a => ⟨a, _, _, _, _, _, _, _, _, rfl, rfl, hP0⟩
  unfold f_X6_painters f_X7_painters f_X7_painters_57 f_X3_isMissing
  rw [isSheet6, isSheet7, isSort6, in7i, in7i, nI_toInt (show s < 2 ^ 31 by omega), decide_eq_true (show 0 ≤ (s : Int) ∧ (s : Int) < 4 by omega), e0, e2, e6]
  simp only [Option.bind_some, bz_0, decide_eq_false_iff_not]
  rw [if_neg (show ¬ true = false by decide), if_neg (show ¬ true = false by decide)]
  by_cases a : 0 ≤ l2.toInt ∧ l2.toInt ≤ 2
  · have na : ¬ ¬ (0 ≤ l2.toInt ∧ l2.toInt ≤ 2) := fun h => h a
    rw [if_neg na, if_neg na]
    by_cases b : 0 ≤ l4.toInt ∧ l4.toInt ≤ 6
    · rw [if_neg (show ¬ l4 < 0 by rw [lt_i, i0]; omega), if_pos (show l4 ≤ 6 by rw [le_i, i6]; omega), if_neg (show ¬ ¬ (0 ≤ l4.toInt ∧ l4.toInt ≤ 6) from fun h => h b), if_pos hin, if_pos hin, cl_nI (by omega)]
      rcases hS with ⟨x1, x2⟩ | ⟨cs, z, hcs, hz, x1, x2, x3, x4, x5, x6⟩
      · rw [if_pos x1, if_pos x2, if_pos hin, if_pos x2]
        exact same _
      · have hne : ¬ sort = -1 := by rw [x1]; exact nI_m1 cs (by omega)
        have hts : ¬ iT s = 0 := by rw [x2]; decide
        rw [if_neg hne, if_neg hts, if_pos hin]
        simp only [Option.bind_some]
        rw [if_pos trivial, x1, x3]
        by_cases c : nI cs = l2
        · rw [if_pos c, if_pos c, if_pos hin, if_neg hts, x4]
          obtain ⟨m, hm, rfl⟩ := nn_of b.1
          rw [nI_toInt hm] at b
          by_cases d : 0 ≤ l3.toInt ∧ l3.toInt ≤ 40
          · obtain ⟨f0, hf, rfl⟩ := nn_of d.1
            rw [nI_toInt hf] at d
            exact pt_loop (c := 0) hs hz x5 x6 (show m ≤ 6 by omega) (show f0 ≤ 40 by omega) m 0 0 200 200 many easel kind number had pleased rows kinds (by omega) (by omega) (by omega) (by omega) hP0
          · by_cases m0 : m = 0
            · subst m0
              have k6 : ∀ fu, lq9 (f_X6_painters_69 (nI z) it (nI 0)) (fu + 1) 0 l3 0 many easel kind number had pleased = some (0, many, easel, kind, number, had, pleased) := by
                intro fu
                show f_X6_painters_69 _ _ _ (lq9 _ fu) _ _ _ _ _ _ _ _ _ = _
                unfold f_X6_painters_69
                rw [if_pos (by decide)]
              have k7 : ∀ fu, lq5 (f_X7_painters_75 ss its (nI s) l3 (nI 0)) (fu + 1) 0 0 many rows kinds = some (0, many, rows, kinds) := by
                intro fu
                show f_X7_painters_75 _ _ _ _ _ (lq5 _ fu) _ _ _ _ _ = _
                unfold f_X7_painters_75
                rw [if_pos (by decide)]
              rw [k6 199, k7 199]
              exact same _
            · have hle : ¬ nI m ≤ 0 := by rw [show (0 : Int32) = nI 0 from rfl, le_nI] <;> omega
              have ez : (nI z).toInt = z := nI_toInt (by omega)
              have k6 : ∀ fu, lq9 (f_X6_painters_69 (nI z) it (nI m)) (fu + 1) 0 l3 0 many easel kind number had pleased = some (-12, many, easel, kind, number, had, pleased) := by
                intro fu
                show f_X6_painters_69 _ _ _ (lq9 _ fu) _ _ _ _ _ _ _ _ _ = _
                unfold f_X6_painters_69
                rw [if_neg hle, has1 hz, i3, decide_eq_false (by omega)]
                rfl
              have k7 : ∀ fu, lq5 (f_X7_painters_75 ss its (nI s) l3 (nI m)) (fu + 1) 0 0 many rows kinds = some (-12, many, rows, kinds) := by
                intro fu
                show f_X7_painters_75 _ _ _ _ _ (lq5 _ fu) _ _ _ _ _ = _
                unfold f_X7_painters_75
                rw [if_neg hle]
                by_cases e : l3 < 0
                · rw [if_pos e]
                · rw [if_neg e]
                  rw [lt_i, i0] at e
                  have ea : (nI z - 3 * 0 - 3).toInt = z - 3 := by
                    rw [show (3 * 0 : Int32) = 0 from rfl, Int32.sub_zero, sub_i (by rw [ez, i3]; omega) (by rw [ez, i3]; omega), ez, i3]
                  rw [if_pos hin, cl_nI (by omega), x5, if_neg (show ¬ l3 ≤ nI z - 3 * 0 - 3 by rw [le_i, ea]; omega)]
              rw [k6 199, k7 199]
              exact same _
        · rw [if_neg c, if_neg c]; exact same _
    · rw [if_pos b]
      by_cases c : l4 < 0
      · rw [if_pos c]; exact same _
      · rw [if_neg c]
        rw [lt_i, i0] at c
        rw [if_neg (show ¬ l4 ≤ 6 by rw [le_i, i6]; omega)]; exact same _
  · rw [if_pos a, if_pos a]; exact same _
end
