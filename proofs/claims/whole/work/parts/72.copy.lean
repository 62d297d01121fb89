section
variable {tv : Int32 → Int32 → Int32 → Int32 → Int32 → Int32 → Int32 → Int32 → Int32} {nT n F L S s o z q w P : Nat} {K N E : Nat → Nat} {face lamp stove pose rule painters many fw pw l1 l2 l3 l4 l5 sort size osort osize : Int32} {kind number easel had pleased kinds rows room it oit iT so ss its : Nat → Int32}
/-- copy between two sheets -/
theorem A_copy (hs : s < 4) (ho : o < 4) (hso : s ≠ o) (hS : SHr s sort size it iT so ss its) (hO : SHr o osort osize oit iT so ss its) :
    ∃ a oit' it7, f_X6_copy (nI s) l2 (nI o) l4 l5 sort size osort osize it oit = some (a, oit') ∧ f_X7_copy (nI s) l2 (nI o) l4 l5 iT so ss its = some (a, it7) ∧ SHr o osort osize oit' iT so ss it7 ∧ SHo o iT so ss its iT so ss it7 := by
  have hin : inb (nI s) 4 = true := inb_nI (by omega) (by decide)
  have hio : inb (nI o) 4 = true := inb_nI (by omega) (by decide)
  have hb : ¬ bz true = 0 := by decide
  have hO0 := hO
  have same : ∀ (a : Int32), f_X7_copy (nI s) l2 (nI o) l4 l5 iT so ss its = some (a, its) → ∃ a' oit' it7, some (a, oit) = some (a', oit') ∧ f_X7_copy (nI s) l2 (nI o) l4 l5 iT so ss its = some (a', it7) ∧ SHr o osort osize oit' iT so ss it7 ∧ SHo o iT so ss its iT so ss it7 := fun a h => ⟨a, oit, its, rfl, h, hO0, SHo_rfl⟩
  unfold f_X6_copy f_X3_isMissing
  rw [isSheet6, isSheet6, nI_toInt (show s < 2 ^ 31 by omega), nI_toInt (show o < 2 ^ 31 by omega), decide_eq_true (show 0 ≤ (s : Int) ∧ (s : Int) < 4 by omega), decide_eq_true (show 0 ≤ (o : Int) ∧ (o : Int) < 4 by omega)]
  simp only [Option.bind_some]
  rw [if_neg hb, if_neg hb, if_pos hin, if_pos hio]
  have h7 : ∀ X : Option (Int32 × (Nat → Int32)), (if (iT s) = 0 then some ((-11), its) else if (iT o) = 0 then some ((-11), its) else (if (so s) = (so o) then (if l5 < 0 then some ((-12), its) else (if l2 < 0 then some ((-12), its) else (if l4 < 0 then some ((-12), its) else (if ((ss s) - l5) < l2 then some ((-12), its) else (if l4 ≤ ((ss o) - l5) then f_X7_copy (nI s) l2 (nI o) l4 l5 iT so ss its else some ((-12), its)))))) else some ((-13), its))) = X → f_X7_copy (nI s) l2 (nI o) l4 l5 iT so ss its = X := by
    intro X hX
    rw [← hX]
    unfold f_X7_copy
    rw [isSheet7, isSheet7, nI_toInt (show s < 2 ^ 31 by omega), nI_toInt (show o < 2 ^ 31 by omega), decide_eq_true (show 0 ≤ (s : Int) ∧ (s : Int) < 4 by omega), decide_eq_true (show 0 ≤ (o : Int) ∧ (o : Int) < 4 by omega)]
    simp only [Option.bind_some]
    rw [if_neg hb, if_neg hb, if_pos hin, cl_nI (show s ≤ 2147483647 by omega), cl_nI (show o ≤ 2147483647 by omega), if_pos hio]
    by_cases c1 : iT s = 0
    · rw [if_pos c1, if_pos c1]
    · rw [if_neg c1, if_neg c1]
      by_cases c2 : iT o = 0
      · rw [if_pos c2, if_pos c2]
      · rw [if_neg c2, if_neg c2, if_pos hin, if_pos hio]
        by_cases c3 : so s = so o
        · rw [if_pos c3, if_pos c3]
          by_cases c4 : l5 < 0
          · rw [if_pos c4, if_pos c4]
          · rw [if_neg c4, if_neg c4]
            by_cases c5 : l2 < 0
            · rw [if_pos c5, if_pos c5]
            · rw [if_neg c5, if_neg c5]
              by_cases c6 : l4 < 0
              · rw [if_pos c6, if_pos c6]
              · rw [if_neg c6, if_neg c6, if_pos hin]
                by_cases c7 : (ss s) - l5 < l2
                · rw [if_pos c7, if_pos c7]
                · rw [if_neg c7, if_neg c7, if_pos hio]
                  by_cases c8 : l4 ≤ (ss o) - l5
                  · rw [if_pos c8, if_pos c8]
                  · rw [if_neg c8, if_neg c8]
        · rw [if_neg c3, if_neg c3]
  rcases hS with ⟨x1, x2⟩ | ⟨cs, zs, hcs, hzs, x1, x2, x3, x4, x5, x6⟩
  · rw [if_pos x1]
    simp only [Option.bind_some]
    rw [if_neg (by decide)]
    exact same _ (h7 _ (by rw [if_pos x2]))
  · have hne : ¬ sort = -1 := by rw [x1]; exact nI_m1 cs (by omega)
    have hts : ¬ iT s = 0 := by rw [x2]; decide
    rw [if_neg hne]
    simp only [Option.bind_some]
    rw [if_pos trivial]
    rcases hO with ⟨y1, y2⟩ | ⟨co, zo, hco, hzo, y1, y2, y3, y4, y5, y6⟩
    · rw [if_pos y1]
      simp only [Option.bind_some]
      rw [if_neg (by decide)]
      exact same _ (h7 _ (by rw [if_neg hts, if_pos y2]))
    · have hno : ¬ osort = -1 := by rw [y1]; exact nI_m1 co (by omega)
      have hto : ¬ iT o = 0 := by rw [y2]; decide
      rw [if_neg hno]
      simp only [Option.bind_some]
      rw [if_pos trivial]
      have hsort : sort = osort ↔ so s = so o := by rw [x1, y1, x3, y3]
      by_cases c3 : so s = so o
      · rw [if_pos (hsort.mpr c3), show f_X3_hasItems l2 l5 size = some (bz (decide (0 ≤ l2.toInt ∧ 0 ≤ l5.toInt ∧ l2.toInt + l5.toInt ≤ zs))) from by rw [x4]; exact has1 hzs, show f_X3_hasItems l4 l5 osize = some (bz (decide (0 ≤ l4.toInt ∧ 0 ≤ l5.toInt ∧ l4.toInt + l5.toInt ≤ zo))) from by rw [y4]; exact has1 hzo]
        simp only [Option.bind_some, bz_0, decide_eq_false_iff_not]
        have m1 := iMax l2
        have m2 := iMax l4
        have m3 := iMax l5
        have e1 : (nI zs).toInt = zs := nI_toInt (by omega)
        have e2 : (nI zo).toInt = zo := nI_toInt (by omega)
        by_cases d1 : 0 ≤ l2.toInt ∧ 0 ≤ l5.toInt ∧ l2.toInt + l5.toInt ≤ zs
        · rw [if_neg (show ¬ ¬ (0 ≤ l2.toInt ∧ 0 ≤ l5.toInt ∧ l2.toInt + l5.toInt ≤ zs) from fun h => h d1)]
          by_cases d2 : 0 ≤ l4.toInt ∧ 0 ≤ l5.toInt ∧ l4.toInt + l5.toInt ≤ zo
          · rw [if_neg (show ¬ ¬ (0 ≤ l4.toInt ∧ 0 ≤ l5.toInt ∧ l4.toInt + l5.toInt ≤ zo) from fun h => h d2)]
            obtain ⟨i, hi, rfl⟩ := nn_of d1.1
            obtain ⟨j, hj, rfl⟩ := nn_of d2.1
            obtain ⟨m, hm, rfl⟩ := nn_of d1.2.1
            rw [nI_toInt hi, nI_toInt hm] at d1
            rw [nI_toInt hj, nI_toInt hm] at d2
            have hcp : cpok (nI i) (nI j) (nI m) 40 40 = true := by unfold cpok; rw [decide_eq_true_eq, nI_toInt hi, nI_toInt hj, nI_toInt hm]; omega
            rw [if_pos hcp, copy7 (zs := zs) (zo := zo) hs ho (by omega) (by omega) hzs hzo x2 y2 c3 x5 y5, cl_nI (by omega), cl_nI (by omega), cl_nI (by omega)]
            refine ⟨_, _, _, rfl, rfl, Or.inr ⟨co, zo, hco, hzo, y1, y2, y3, y4, y5, ?_⟩, ?_⟩
            · intro k hk
              unfold va_cpy
              by_cases c : j ≤ k ∧ k < j + m
              · rw [if_pos c, if_pos (by omega), x6 (i + (k - j)) (by omega)]
                congr 1; omega
              · rw [if_neg c, if_neg (by omega)]; exact y6 k hk
            · intro t ht
              refine ⟨rfl, rfl, rfl, fun k hk => ?_⟩
              unfold va_cpy
              rw [if_neg (by omega)]
          · rw [if_pos d2]
            refine same _ (h7 _ ?_)
            rw [if_neg hts, if_neg hto, if_pos c3, if_neg (show ¬ l5 < 0 by rw [lt_i, i0]; omega), if_neg (show ¬ l2 < 0 by rw [lt_i, i0]; omega), x5, y5]
            by_cases d3 : l4 < 0
            · rw [if_pos d3]
            · rw [if_neg d3]
              rw [lt_i, i0] at d3
              rw [if_neg (show ¬ nI zs - l5 < l2 by rw [lt_i, sub_i (by rw [e1]; omega) (by rw [e1]; omega), e1]; omega), if_neg (show ¬ l4 ≤ nI zo - l5 by rw [le_i, sub_i (by rw [e2]; omega) (by rw [e2]; omega), e2]; omega)]
        · rw [if_pos d1]
          refine same _ (h7 _ ?_)
          rw [if_neg hts, if_neg hto, if_pos c3, x5, y5]
          by_cases d3 : l5 < 0
          · rw [if_pos d3]
          · rw [if_neg d3]
            rw [lt_i, i0] at d3
            by_cases d4 : l2 < 0
            · rw [if_pos d4]
            · rw [if_neg d4]
              rw [lt_i, i0] at d4
              by_cases d5 : l4 < 0
              · rw [if_pos d5]
              · rw [if_neg d5, if_pos (show nI zs - l5 < l2 by rw [lt_i, sub_i (by rw [e1]; omega) (by rw [e1]; omega), e1]; omega)]
      · rw [if_neg (fun h => c3 (hsort.mp h))]
        exact same _ (h7 _ (by rw [if_neg hts, if_neg hto, if_neg c3]))
/-- copy within a sheet -/
theorem A_copyS (hs : s < 4) (hS : SHr s sort size it iT so ss its) :
    ∃ a it' it7, f_X6_copyS (nI s) l2 (nI s) l4 l5 sort size it = some (a, it') ∧ f_X7_copy (nI s) l2 (nI s) l4 l5 iT so ss its = some (a, it7) ∧ SHr s sort size it' iT so ss it7 ∧ SHo s iT so ss its iT so ss it7 := by
  have hin : inb (nI s) 4 = true := inb_nI (by omega) (by decide)
  have hb : ¬ bz true = 0 := by decide
  have hO0 := hS
  have same : ∀ (a : Int32), f_X7_copy (nI s) l2 (nI s) l4 l5 iT so ss its = some (a, its) → ∃ a' oit' it7, some (a, it) = some (a', oit') ∧ f_X7_copy (nI s) l2 (nI s) l4 l5 iT so ss its = some (a', it7) ∧ SHr s sort size oit' iT so ss it7 ∧ SHo s iT so ss its iT so ss it7 := fun a h => ⟨a, it, its, rfl, h, hO0, SHo_rfl⟩
  unfold f_X6_copyS f_X3_isMissing
  rw [isSheet6, nI_toInt (show s < 2 ^ 31 by omega), decide_eq_true (show 0 ≤ (s : Int) ∧ (s : Int) < 4 by omega)]
  simp only [Option.bind_some]
  rw [if_neg hb, if_neg hb, if_pos hin, if_pos hin]
  have h7 : ∀ X : Option (Int32 × (Nat → Int32)), (if (iT s) = 0 then some ((-11), its) else (if l5 < 0 then some ((-12), its) else (if l2 < 0 then some ((-12), its) else (if l4 < 0 then some ((-12), its) else (if ((ss s) - l5) < l2 then some ((-12), its) else (if l4 ≤ ((ss s) - l5) then f_X7_copy (nI s) l2 (nI s) l4 l5 iT so ss its else some ((-12), its))))))) = X → f_X7_copy (nI s) l2 (nI s) l4 l5 iT so ss its = X := by
    intro X hX
    rw [← hX]
    unfold f_X7_copy
    rw [isSheet7, nI_toInt (show s < 2 ^ 31 by omega), decide_eq_true (show 0 ≤ (s : Int) ∧ (s : Int) < 4 by omega)]
    simp only [Option.bind_some]
    rw [if_neg hb, if_neg hb, if_pos hin, cl_nI (show s ≤ 2147483647 by omega), if_pos hin]
    by_cases c1 : iT s = 0
    · rw [if_pos c1, if_pos c1]
    · rw [if_neg c1, if_neg c1, if_neg c1, if_pos hin, if_pos hin, if_pos trivial]
      by_cases c4 : l5 < 0
      · rw [if_pos c4, if_pos c4]
      · rw [if_neg c4, if_neg c4]
        by_cases c5 : l2 < 0
        · rw [if_pos c5, if_pos c5]
        · rw [if_neg c5, if_neg c5]
          by_cases c6 : l4 < 0
          · rw [if_pos c6, if_pos c6]
          · rw [if_neg c6, if_neg c6, if_pos hin]
            by_cases c7 : (ss s) - l5 < l2
            · rw [if_pos c7, if_pos c7]
            · rw [if_neg c7, if_neg c7, if_pos hin]
              by_cases c8 : l4 ≤ (ss s) - l5
              · rw [if_pos c8, if_pos c8]
              · rw [if_neg c8, if_neg c8]
  rcases hS with ⟨x1, x2⟩ | ⟨cs, zs, hcs, hzs, x1, x2, x3, x4, x5, x6⟩
  · rw [if_pos x1]
    simp only [Option.bind_some]
    rw [if_neg (by decide)]
    exact same _ (h7 _ (by rw [if_pos x2]))
  · have hne : ¬ sort = -1 := by rw [x1]; exact nI_m1 cs (by omega)
    have hts : ¬ iT s = 0 := by rw [x2]; decide
    rw [if_neg hne]
    simp only [Option.bind_some]
    rw [if_pos trivial, if_pos trivial, if_pos trivial, show f_X3_hasItems l2 l5 size = some (bz (decide (0 ≤ l2.toInt ∧ 0 ≤ l5.toInt ∧ l2.toInt + l5.toInt ≤ zs))) from by rw [x4]; exact has1 hzs, show f_X3_hasItems l4 l5 size = some (bz (decide (0 ≤ l4.toInt ∧ 0 ≤ l5.toInt ∧ l4.toInt + l5.toInt ≤ zs))) from by rw [x4]; exact has1 hzs]
    simp only [Option.bind_some, bz_0, decide_eq_false_iff_not]
    have m1 := iMax l2
    have m2 := iMax l4
    have m3 := iMax l5
    have e1 : (nI zs).toInt = zs := nI_toInt (by omega)
    by_cases d1 : 0 ≤ l2.toInt ∧ 0 ≤ l5.toInt ∧ l2.toInt + l5.toInt ≤ zs
    · rw [if_neg (show ¬ ¬ (0 ≤ l2.toInt ∧ 0 ≤ l5.toInt ∧ l2.toInt + l5.toInt ≤ zs) from fun h => h d1)]
      by_cases d2 : 0 ≤ l4.toInt ∧ 0 ≤ l5.toInt ∧ l4.toInt + l5.toInt ≤ zs
      · rw [if_neg (show ¬ ¬ (0 ≤ l4.toInt ∧ 0 ≤ l5.toInt ∧ l4.toInt + l5.toInt ≤ zs) from fun h => h d2)]
        obtain ⟨i, hi, rfl⟩ := nn_of d1.1
        obtain ⟨j, hj, rfl⟩ := nn_of d2.1
        obtain ⟨m, hm, rfl⟩ := nn_of d1.2.1
        rw [nI_toInt hi, nI_toInt hm] at d1
        rw [nI_toInt hj, nI_toInt hm] at d2
        have hcp : cpok (nI i) (nI j) (nI m) 40 40 = true := by unfold cpok; rw [decide_eq_true_eq, nI_toInt hi, nI_toInt hj, nI_toInt hm]; omega
        rw [if_pos hcp, copy7 (zs := zs) (zo := zs) hs hs (by omega) (by omega) hzs hzs x2 x2 rfl x5 x5, cl_nI (by omega), cl_nI (by omega), cl_nI (by omega)]
        refine ⟨_, _, _, rfl, rfl, Or.inr ⟨cs, zs, hcs, hzs, x1, x2, x3, x4, x5, ?_⟩, ?_⟩
        · intro k hk
          unfold va_cpy
          by_cases c : j ≤ k ∧ k < j + m
          · rw [if_pos c, if_pos (by omega), x6 (i + (k - j)) (by omega)]
            congr 1; omega
          · rw [if_neg c, if_neg (by omega)]; exact x6 k hk
        · intro t ht
          refine ⟨rfl, rfl, rfl, fun k hk => ?_⟩
          unfold va_cpy
          rw [if_neg (by omega)]
      · rw [if_pos d2]
        refine same _ (h7 _ ?_)
        rw [if_neg hts, if_neg (show ¬ l5 < 0 by rw [lt_i, i0]; omega), if_neg (show ¬ l2 < 0 by rw [lt_i, i0]; omega), x5]
        by_cases d3 : l4 < 0
        · rw [if_pos d3]
        · rw [if_neg d3]
          rw [lt_i, i0] at d3
          rw [if_neg (show ¬ nI zs - l5 < l2 by rw [lt_i, sub_i (by rw [e1]; omega) (by rw [e1]; omega), e1]; omega), if_neg (show ¬ l4 ≤ nI zs - l5 by rw [le_i, sub_i (by rw [e1]; omega) (by rw [e1]; omega), e1]; omega)]
    · rw [if_pos d1]
      refine same _ (h7 _ ?_)
      rw [if_neg hts, x5]
      by_cases d3 : l5 < 0
      · rw [if_pos d3]
      · rw [if_neg d3]
        rw [lt_i, i0] at d3
        by_cases d4 : l2 < 0
        · rw [if_pos d4]
        · rw [if_neg d4]
          rw [lt_i, i0] at d4
          by_cases d5 : l4 < 0
          · rw [if_pos d5]
          · rw [if_neg d5, if_pos (show nI zs - l5 < l2 by rw [lt_i, sub_i (by rw [e1]; omega) (by rw [e1]; omega), e1]; omega)]
theorem copy_bad (h : ¬ ((0 ≤ l1.toInt ∧ l1.toInt < 4) ∧ (0 ≤ l3.toInt ∧ l3.toInt < 4))) : f_X6_copy l1 l2 l3 l4 l5 sort size osort osize it oit = some (-2, oit) ∧ f_X6_copyS l1 l2 l3 l4 l5 sort size it = some (-2, it) ∧ f_X7_copy l1 l2 l3 l4 l5 iT so ss its = some (-2, its) := by
  unfold f_X6_copy f_X6_copyS f_X7_copy
  rw [isSheet6, isSheet7, isSheet6, isSheet7]
  by_cases a : 0 ≤ l1.toInt ∧ l1.toInt < 4
  · rw [decide_eq_true a, decide_eq_false (fun b => h ⟨a, b⟩)]
    exact ⟨rfl, rfl, rfl⟩
  · rw [decide_eq_false a]
    exact ⟨rfl, rfl, rfl⟩
/-- taken -/
theorem A_taken (h : RG nT n F L S K N E face lamp stove pose rule painters kind number easel had pleased many kinds rows room) :
    ∃ a, f_X6_taken l1 l2 painters kind number = some a ∧ f_X7_taken l1 l2 many kinds rows = some a := by
  obtain ⟨hO, hX, hM, hr, hnT, hh, hpl⟩ := h
  have hn := hO.1
  have hp := hX.2.2.2.1
  have hmany := hM.1
  unfold f_X6_taken f_X7_taken
  rw [isKind6, in7i, e0, e5, show f_X2_has l1 painters = some (bz (decide (0 ≤ l1.toInt ∧ l1.toInt < n))) from by rw [hp]; exact has6 _ hn, show f_X7_isOne l1 many = some (bz (decide (0 ≤ l1.toInt ∧ l1.toInt < n))) from by rw [hmany]; exact isOne7 _ hn]
  simp only [Option.bind_some, bz_0, decide_eq_false_iff_not]
  by_cases a : 0 ≤ l2.toInt ∧ l2.toInt < 6
  · rw [if_neg (show ¬ ¬ (0 ≤ l2.toInt ∧ l2.toInt < 6) from fun h => h a), if_neg (show ¬ ¬ (0 ≤ l2.toInt ∧ l2.toInt ≤ 5) from fun h => h (by omega))]
    by_cases b : 0 ≤ l1.toInt ∧ l1.toInt < n
    · have nb : ¬ ¬ (0 ≤ l1.toInt ∧ l1.toInt < n) := fun h => h b
      rw [if_neg nb, if_neg nb]
      obtain ⟨q, hq', rfl⟩ := nn_of b.1
      rw [nI_toInt hq'] at b
      have hq : q < n := by omega
      obtain ⟨k, hk, rfl⟩ := nn_of a.1
      rw [nI_toInt hk] at a
      have hin : inb (nI q) 6 = true := inb_nI (by omega) (by decide)
      obtain ⟨y0, z0⟩ := ix0 (show q < 6 by omega)
      rw [if_pos hin, if_pos hin, cl_nI (show q ≤ 2147483647 by omega), (hX.2.2.2.2 q hq).1, (hM.2.2.2.2.2 q hq).1, (hX.2.2.2.2 q hq).2.1]
      have key : ∀ c, c < 6 → ∀ d, d < 6 → ∃ b : Bool, f_X6_isOrUnder (nI c) (nI d) = some (bz b) ∧ lq1 (f_X7_taken_33 rows (nI q) (nI d)) 200 (nI c) = if b = true then some (rows (4 * q)) else some (-13) := by
        have t6 : ∀ c, c < 6 → ∀ d, d < 6 → (f_X6_isOrUnder (nI c) (nI d) = some 1 ∨ f_X6_isOrUnder (nI c) (nI d) = some 0) := by decide +kernel
        have up : ∀ (x d : Int32) (fu : Nat), x ≠ -1 → x ≠ d → lq1 (f_X7_taken_33 rows (nI q) d) (fu + 1) x = (f_X7_over x).bind (fun v => lq1 (f_X7_taken_33 rows (nI q) d) fu v) := by
          intro x d fu h1 h2
          show f_X7_taken_33 _ _ _ (lq1 _ fu) x = _
          unfold f_X7_taken_33
          rw [if_neg h1, if_neg h2]
        have st : ∀ (d : Int32) (fu : Nat), d ≠ -1 → lq1 (f_X7_taken_33 rows (nI q) d) (fu + 1) d = some (rows (4 * q)) := by
          intro d fu h1
          show f_X7_taken_33 _ _ _ (lq1 _ fu) d = _
          unfold f_X7_taken_33 f_X7_taken_51
          rw [if_neg h1, if_pos rfl, if_pos rfl, if_pos y0, z0]
        have no : ∀ (d : Int32) (fu : Nat), d ≠ -1 → lq1 (f_X7_taken_33 rows (nI q) d) (fu + 1) (-1) = some (-13) := by
          intro d fu h1
          show f_X7_taken_33 _ _ _ (lq1 _ fu) (-1) = _
          unfold f_X7_taken_33 f_X7_taken_51
          rw [if_pos rfl, if_neg (fun e => h1 e.symm)]
        have b0 : ∀ d fu, d < 6 → lq1 (f_X7_taken_33 rows (nI q) (nI d)) (fu + 2) (nI 0) = if d = 0 then some (rows (4 * q)) else some (-13) := by
          intro d fu hd
          by_cases e : d = 0
          · subst e; rw [if_pos rfl]; exact st _ _ (by decide)
          · rw [if_neg e, up _ _ _ (by decide) (by rw [ne_eq, eq_nI] <;> omega)]
            exact no _ _ (nI_m1 d (by omega))
        have b1 : ∀ x, (x = 1 ∨ x = 2 ∨ x = 5) → ∀ d fu, d < 6 → lq1 (f_X7_taken_33 rows (nI q) (nI d)) (fu + 3) (nI x) = if d = x ∨ d = 0 then some (rows (4 * q)) else some (-13) := by
          intro x hx d fu hd
          by_cases e : d = x
          · subst e; rw [if_pos (Or.inl rfl)]; exact st _ _ (nI_m1 d (by omega))
          · rw [up _ _ _ (nI_m1 x (by omega)) (by rw [ne_eq, eq_nI] <;> omega)]
            have : f_X7_over (nI x) = some (nI 0) := by rcases hx with rfl | rfl | rfl <;> rfl
            rw [this]
            show lq1 _ _ _ = _
            rw [b0 d fu hd]
            exact ifc ⟨fun h => Or.inr h, fun h => h.resolve_left e⟩
        have b2 : ∀ x y, (x = 3 ∧ y = 1 ∨ x = 4 ∧ y = 2) → ∀ d fu, d < 6 → lq1 (f_X7_taken_33 rows (nI q) (nI d)) (fu + 4) (nI x) = if d = x ∨ d = y ∨ d = 0 then some (rows (4 * q)) else some (-13) := by
          intro x y hx d fu hd
          by_cases e : d = x
          · subst e; rw [if_pos (Or.inl rfl)]; exact st _ _ (nI_m1 d (by omega))
          · rw [up _ _ _ (nI_m1 x (by omega)) (by rw [ne_eq, eq_nI] <;> omega)]
            have : f_X7_over (nI x) = some (nI y) := by rcases hx with ⟨rfl, rfl⟩ | ⟨rfl, rfl⟩ <;> rfl
            rw [this]
            show lq1 _ _ _ = _
            rw [b1 y (by omega) d fu hd]
            exact ifc ⟨fun h => Or.inr h, fun h => h.resolve_left e⟩
        have u0 : ∀ d, d < 6 → f_X6_isOrUnder (nI 0) (nI d) = some (bz (decide (d = 0))) := by decide +kernel
        have u1 : ∀ d, d < 6 → f_X6_isOrUnder (nI 1) (nI d) = some (bz (decide (d = 1 ∨ d = 0))) := by decide +kernel
        have u2 : ∀ d, d < 6 → f_X6_isOrUnder (nI 2) (nI d) = some (bz (decide (d = 2 ∨ d = 0))) := by decide +kernel
        have u3 : ∀ d, d < 6 → f_X6_isOrUnder (nI 3) (nI d) = some (bz (decide (d = 3 ∨ d = 1 ∨ d = 0))) := by decide +kernel
        have u4 : ∀ d, d < 6 → f_X6_isOrUnder (nI 4) (nI d) = some (bz (decide (d = 4 ∨ d = 2 ∨ d = 0))) := by decide +kernel
        have u5 : ∀ d, d < 6 → f_X6_isOrUnder (nI 5) (nI d) = some (bz (decide (d = 5 ∨ d = 0))) := by decide +kernel
        intro c hc d hd
        rcases (show c = 0 ∨ c = 1 ∨ c = 2 ∨ c = 3 ∨ c = 4 ∨ c = 5 by omega) with rfl | rfl | rfl | rfl | rfl | rfl
        · exact ⟨_, u0 d hd, by rw [b0 d 198 hd]; exact ifc (decide_eq_true_iff).symm⟩
        · exact ⟨_, u1 d hd, by rw [b1 1 (by omega) d 197 hd]; exact ifc (decide_eq_true_iff).symm⟩
        · exact ⟨_, u2 d hd, by rw [b1 2 (by omega) d 197 hd]; exact ifc (decide_eq_true_iff).symm⟩
        · exact ⟨_, u3 d hd, by rw [b2 3 1 (by omega) d 196 hd]; exact ifc (decide_eq_true_iff).symm⟩
        · exact ⟨_, u4 d hd, by rw [b2 4 2 (by omega) d 196 hd]; exact ifc (decide_eq_true_iff).symm⟩
        · exact ⟨_, u5 d hd, by rw [b1 5 (by omega) d 197 hd]; exact ifc (decide_eq_true_iff).symm⟩
      obtain ⟨bb, k1, k2⟩ := key (K q) (hO.2.2.2.2.2 q hq).1 k (by omega)
      rw [k1, k2]
      simp only [Option.bind_some, bz_0]
      cases bb
      · exact ⟨-13, by rfl, by rw [if_pos hin]; rfl⟩
      · refine ⟨nI (N q), ?_, ?_⟩
        · rw [if_neg (by decide)]
        · rw [if_pos hin, if_pos rfl, (hM.2.2.2.2.2 q hq).2.1]
    · rw [if_pos b, if_pos b]; exact ⟨_, rfl, rfl⟩
  · rw [if_pos a, if_pos (show ¬ (0 ≤ l2.toInt ∧ l2.toInt ≤ 5) by omega)]; exact ⟨_, rfl, rfl⟩
end
