/-! ## drawn, chance -/
theorem nn_bt {x : Int32} (h : bt x 31 = false) : 0 ≤ x.toInt := by
  show 0 ≤ x.toBitVec.toInt
  rw [BitVec.toInt_eq_msb_cond, show x.toBitVec.msb = bt x 31 from by unfold bt; rw [BitVec.msb_eq_getLsbD_last], h]
  simp
theorem chalk (w : Int32) : ∃ T : Nat, T < 11 ∧ (((Int32.toUInt32 w >>> (Int32.toUInt32 9 &&& Int32.toUInt32 31)).toInt32) - ((Int32.toUInt32 w >>> (Int32.toUInt32 9 &&& Int32.toUInt32 31)).toInt32) / 11 * 11) = nI T := by
  have hb := b_ushr 9 (by decide) w 31
  rw [b_big (show 32 ≤ 9 + 31 by decide)] at hb
  obtain ⟨k, hk, e⟩ := nn_of (nn_bt hb)
  refine ⟨k % 11, Nat.mod_lt _ (by decide), ?_⟩
  rw [show Int32.toUInt32 9 = (nI 9).toUInt32 from rfl, e, show (11 : Int32) = nI 11 from rfl, pk_rem hk (by decide) (by decide)]
section
variable {tv : Int32 → Int32 → Int32 → Int32 → Int32 → Int32 → Int32 → Int32 → Int32} {nT n F L S : Nat} {K N E : Nat → Nat} {face lamp stove pose rule painters many fw pw l1 l2 l3 l4 : Int32} {kind number easel had pleased kinds rows room now gained was rows0 room0 : Nat → Int32}
theorem WR_draw {m : Nat} (hr : inb rule nT = true) (hnT : nT ≤ 6) (hm : m ≤ 60) :
    ∀ (k i fu1 fu2 : Nat) (F : Nat) (E : Nat → Nat) (z face pose sum : Int32) (easel had pleased room rows now gained : Nat → Int32), i + k = m → k < fu1 → k < fu2 → WR n F L S K N E i lamp stove painters many kind number kinds rows0 room0 face pose easel had pleased sum room rows gained →
      ∃ (sum' face' pose' : Int32) (easel' had' pleased' now' gained' : Nat → Int32), lq7 (f_X6_chalkSum_9 lamp stove rule painters kind number tv nT (nI m)) fu1 z (nI i) face pose easel had pleased = some (sum', face', lamp, stove, pose', rule, painters, kind, number, easel', had', pleased') ∧ lq7 (f_X7_sumDrawn_12 rule many (room0 0) (room0 3) (mpN 24 rows0 was) kinds tv nT (nI m)) fu2 z sum (nI i) room gained rows now = some (sum', room0 0, room0 3, room0, gained', rows0, mpN 24 rows0 was, now') := by
  intro k
  induction k with
  | zero =>
    intro i fu1 fu2 F E z face pose sum easel had pleased room rows now gained h1 h2 h3 hW
    obtain ⟨fu1, rfl⟩ : ∃ g, fu1 = g + 1 := ⟨fu1 - 1, by omega⟩
    obtain ⟨fu2, rfl⟩ : ∃ g, fu2 = g + 1 := ⟨fu2 - 1, by omega⟩
    obtain ⟨hO, hX, hM, hH, hP, hs, h24, h03⟩ := hW
    refine ⟨sum, face, pose, easel, had, pleased, now, gained, ?_, ?_⟩
    · show f_X6_chalkSum_9 _ _ _ _ _ _ _ _ _ (lq7 _ fu1) z (nI i) _ _ _ _ _ = _
      unfold f_X6_chalkSum_9
      rw [if_pos (by rw [le_nI] <;> omega), hX.2.2.2.1, sum6 hO.1, hs, smF_congr (g := pleased) (h := gained) n 0 0 (fun j _ hj => (hP j (by omega)).1)]
      rfl
    · show f_X7_sumDrawn_12 _ _ _ _ _ _ _ _ _ (lq7 _ fu2) z sum (nI i) _ _ _ _ = _
      unfold f_X7_sumDrawn_12
      rw [if_pos (by rw [le_nI] <;> omega), backs7' h24 h03]
      rfl
  | succ k ih =>
    intro i fu1 fu2 F E z face pose sum easel had pleased room rows now gained h1 h2 h3 hW
    obtain ⟨fu1, rfl⟩ : ∃ g, fu1 = g + 1 := ⟨fu1 - 1, by omega⟩
    obtain ⟨fu2, rfl⟩ : ∃ g, fu2 = g + 1 := ⟨fu2 - 1, by omega⟩
    obtain ⟨T, hT, hz⟩ := chalk ((z * 1103515245) + 12345)
    obtain ⟨v, w, hv, hw, -, -, hW'⟩ := WR_step (tv := tv) (now := now) (St := 0) hW hr hnT hT (by decide) (by omega)
    obtain ⟨sum', face', pose', easel', had', pleased', now', gained', r1, r2⟩ := ih (i + 1) fu1 fu2 _ _ ((z * 1103515245) + 12345) v.1 v.2.1 (sum + w.1) v.2.2.2.1 v.2.2.1 v.2.2.2.2 w.2.1 w.2.2.1 w.2.2.2.1 w.2.2.2.2 (by omega) (by omega) (by omega) hW'
    refine ⟨sum', face', pose', easel', had', pleased', now', gained', ?_, ?_⟩
    · show f_X6_chalkSum_9 _ _ _ _ _ _ _ _ _ (lq7 _ fu1) z (nI i) _ _ _ _ _ = _
      generalize lq7 (f_X6_chalkSum_9 lamp stove rule painters kind number tv nT (nI m)) fu1 = kp at r1 ⊢
      unfold f_X6_chalkSum_9
      rw [if_neg (by rw [le_nI] <;> omega), hz, show (0 : Int32) = nI 0 from rfl, hv]
      simp only [Option.bind_some]
      rw [nI_1]
      exact r1
    · show f_X7_sumDrawn_12 _ _ _ _ _ _ _ _ _ (lq7 _ fu2) z sum (nI i) _ _ _ _ = _
      generalize lq7 (f_X7_sumDrawn_12 rule many (room0 0) (room0 3) (mpN 24 rows0 was) kinds tv nT (nI m)) fu2 = kp at r2 ⊢
      unfold f_X7_sumDrawn_12
      rw [if_neg (by rw [le_nI] <;> omega), hz, show (0 : Int32) = nI 0 from rfl, hw]
      simp only [Option.bind_some]
      rw [nI_1]
      exact r2
/-- a walk by the chalk -/
theorem draw67 {m : Nat} (h : RG nT n F L S K N E face lamp stove pose rule painters kind number easel had pleased many kinds rows room) (hm : m ≤ 60) (z : Int32) :
    ∃ a v g' w' n', f_X6_chalkSum z (nI m) face lamp stove pose rule painters kind number easel had pleased tv nT = some (a, v) ∧ f_X7_sumDrawn z (nI m) rule many room gained rows was now kinds tv nT = some (a, room 0, room 3, room, g', rows, w', n') := by
  obtain ⟨sum', face', pose', easel', had', pleased', now', gained', r1, r2⟩ := WR_draw (tv := tv) (was := was) h.2.2.2.1 h.2.2.2.2.1 hm m 0 200 200 F E z face pose 0 easel had (mpN 6 (fun _ => 0) pleased) room rows now (mpN 6 (fun _ => 0) gained) (by omega) (by omega) (by omega) (WR_begin h)
  refine ⟨sum', (face', lamp, stove, pose', rule, painters, kind, number, easel', had', pleased'), gained', mpN 24 rows was, now', ?_, ?_⟩
  · unfold f_X6_chalkSum
    rw [begin6]
    exact r1
  · unfold f_X7_sumDrawn
    rw [aside7]
    exact r2
theorem A_drawn {th : Int32 × Int32 × Int32 × Int32 × Int32 × Int32 × (Nat → Int32) × (Nat → Int32) × (Nat → Int32) × (Nat → Int32) × (Nat → Int32)} (h : RG nT n F L S K N E face lamp stove pose rule painters kind number easel had pleased many kinds rows room) :
    ∃ a v fw' pw' g' w' n', f_X6_drawn l1 l2 th.1 th.2.1 th.2.2.1 th.2.2.2.1 th.2.2.2.2.1 th.2.2.2.2.2.1 face lamp stove pose rule painters kind th.2.2.2.2.2.2.1 number th.2.2.2.2.2.2.2.1 easel th.2.2.2.2.2.2.2.2.1 had th.2.2.2.2.2.2.2.2.2.1 pleased th.2.2.2.2.2.2.2.2.2.2 tv nT = some (a, v) ∧ f_X7_drawn l1 l2 rule many fw pw room gained rows was now kinds tv nT = some (a, fw', pw', room, g', rows, w', n') := by
  unfold f_X6_drawn f_X7_drawn
  rw [isPoses6]
  simp only [in7i, Option.bind_some, bz_0, decide_eq_false_iff_not, e0, e40]
  by_cases a : 0 ≤ l2.toInt ∧ l2.toInt ≤ 40
  · have na : ¬ ¬ (0 ≤ l2.toInt ∧ l2.toInt ≤ 40) := fun h => h a
    rw [if_neg na, if_neg na]
    obtain ⟨m, hm, rfl⟩ := nn_of a.1
    rw [nI_toInt hm] at a
    obtain ⟨s, v, g', w', n', r1, r2⟩ := draw67 (tv := tv) (was := was) (gained := gained) (now := now) (m := m) h (by omega) l1
    rw [r1, r2]
    exact ⟨_, _, _, _, _, _, _, rfl, rfl⟩
  · rw [if_pos a, if_pos a]
    exact ⟨_, _, _, _, _, _, _, rfl, rfl⟩
theorem chance_loop {m : Nat} (h : RG nT n F L S K N E face lamp stove pose rule painters kind number easel had pleased many kinds rows room) (hm0 : 0 < m) (hm : m ≤ 20) :
    ∀ (k i e fu1 fu2 : Nat) (t1 t2 t3 t4 t5 t6 fw pw : Int32) (u1 u2 u3 u4 u5 gained was now : Nat → Int32), i + k = m → e ≤ i → k < fu1 → k < fu2 →
      ∃ a v fw' pw' g' w' n', lq13 (f_X6_chance_43 face lamp stove pose rule painters kind number easel had pleased tv nT l1 (nI m) l3 l4) fu1 (nI e) (nI i) t1 t2 t3 t4 t5 t6 u1 u2 u3 u4 u5 = some (a, v) ∧ lq9 (f_X7_chance_47 rule many kinds tv nT l1 (nI m) l3 l4) fu2 (nI e).toInt64 (nI i) fw pw room gained rows was now = some (a, fw', pw', room, g', rows, w', n') := by
  intro k
  induction k with
  | zero =>
    intro i e fu1 fu2 t1 t2 t3 t4 t5 t6 fw pw u1 u2 u3 u4 u5 gained was now h1 he h2 h3
    obtain ⟨fu1, rfl⟩ : ∃ g, fu1 = g + 1 := ⟨fu1 - 1, by omega⟩
    obtain ⟨fu2, rfl⟩ : ∃ g, fu2 = g + 1 := ⟨fu2 - 1, by omega⟩
    obtain ⟨r, x1, x2⟩ := low67 (l0 := nI e) (l2 := l4) (q := m) (by omega) (by omega) (by rw [nI_toInt (by omega)]; omega)
    refine ⟨r, (t1, t2, t3, t4, t5, t6, u1, u2, u3, u4, u5), fw, pw, gained, was, now, ?_, ?_⟩
    · show f_X6_chance_43 _ _ _ _ _ _ _ _ _ _ _ _ _ _ _ _ _ (lq13 _ fu1) _ (nI i) _ _ _ _ _ _ _ _ _ _ _ = _
      unfold f_X6_chance_43
      rw [if_pos (by rw [le_nI] <;> omega), x1]
      rfl
    · show f_X7_chance_47 _ _ _ _ _ _ _ _ _ (lq9 _ fu2) _ (nI i) _ _ _ _ _ _ _ = _
      unfold f_X7_chance_47
      rw [if_pos (by rw [le_nI] <;> omega), x2]
      rfl
  | succ k ih =>
    intro i e fu1 fu2 t1 t2 t3 t4 t5 t6 fw pw u1 u2 u3 u4 u5 gained was now h1 he h2 h3
    obtain ⟨fu1, rfl⟩ : ∃ g, fu1 = g + 1 := ⟨fu1 - 1, by omega⟩
    obtain ⟨fu2, rfl⟩ : ∃ g, fu2 = g + 1 := ⟨fu2 - 1, by omega⟩
    obtain ⟨s, v, g', w', n', r1, r2⟩ := draw67 (tv := tv) (was := was) (gained := gained) (now := now) (m := 6) h (by omega) (l1 + nI i)
    have x64 : ((nI e).toInt64 + 0) = (nI e).toInt64 := Int64.add_zero _
    have y64 : ((nI e).toInt64 + 1) = (nI (e + 1)).toInt64 := by
      apply ext64
      rw [Int64.toInt_add, l64, l64, e1, nI_toInt (by omega), nI_toInt (by omega)]
      rw [show ((2 : Nat) ^ 64) = 18446744073709551616 from rfl, bm64] <;> omega
    by_cases hc : s < l3
    · obtain ⟨a, v', fw', pw', g'', w'', n'', q1, q2⟩ := ih (i + 1) e fu1 fu2 v.1 v.2.1 v.2.2.1 v.2.2.2.1 v.2.2.2.2.1 v.2.2.2.2.2.1 (room 0) (room 3) v.2.2.2.2.2.2.1 v.2.2.2.2.2.2.2.1 v.2.2.2.2.2.2.2.2.1 v.2.2.2.2.2.2.2.2.2.1 v.2.2.2.2.2.2.2.2.2.2 g' w' n' (by omega) (by omega) (by omega) (by omega)
      refine ⟨a, v', fw', pw', g'', w'', n'', ?_, ?_⟩
      · show f_X6_chance_43 _ _ _ _ _ _ _ _ _ _ _ _ _ _ _ _ _ (lq13 _ fu1) _ (nI i) _ _ _ _ _ _ _ _ _ _ _ = _
        generalize lq13 (f_X6_chance_43 face lamp stove pose rule painters kind number easel had pleased tv nT l1 (nI m) l3 l4) fu1 = kp at q1 ⊢
        unfold f_X6_chance_43
        rw [if_neg (by rw [le_nI] <;> omega), show (6 : Int32) = nI 6 from rfl, r1]
        simp only [Option.bind_some]
        rw [if_pos hc, nI_1]
        exact q1
      · show f_X7_chance_47 _ _ _ _ _ _ _ _ _ (lq9 _ fu2) _ (nI i) _ _ _ _ _ _ _ = _
        generalize lq9 (f_X7_chance_47 rule many kinds tv nT l1 (nI m) l3 l4) fu2 = kp at q2 ⊢
        unfold f_X7_chance_47
        rw [if_neg (by rw [le_nI] <;> omega), show (6 : Int32) = nI 6 from rfl, r2]
        simp only [Option.bind_some]
        rw [if_pos hc, nI_1, x64]
        exact q2
    · obtain ⟨a, v', fw', pw', g'', w'', n'', q1, q2⟩ := ih (i + 1) (e + 1) fu1 fu2 v.1 v.2.1 v.2.2.1 v.2.2.2.1 v.2.2.2.2.1 v.2.2.2.2.2.1 (room 0) (room 3) v.2.2.2.2.2.2.1 v.2.2.2.2.2.2.2.1 v.2.2.2.2.2.2.2.2.1 v.2.2.2.2.2.2.2.2.2.1 v.2.2.2.2.2.2.2.2.2.2 g' w' n' (by omega) (by omega) (by omega) (by omega)
      refine ⟨a, v', fw', pw', g'', w'', n'', ?_, ?_⟩
      · show f_X6_chance_43 _ _ _ _ _ _ _ _ _ _ _ _ _ _ _ _ _ (lq13 _ fu1) _ (nI i) _ _ _ _ _ _ _ _ _ _ _ = _
        generalize lq13 (f_X6_chance_43 face lamp stove pose rule painters kind number easel had pleased tv nT l1 (nI m) l3 l4) fu1 = kp at q1 ⊢
        unfold f_X6_chance_43
        rw [if_neg (by rw [le_nI] <;> omega), show (6 : Int32) = nI 6 from rfl, r1]
        simp only [Option.bind_some]
        rw [if_neg hc, nI_1, nI_1]
        exact q1
      · show f_X7_chance_47 _ _ _ _ _ _ _ _ _ (lq9 _ fu2) _ (nI i) _ _ _ _ _ _ _ = _
        generalize lq9 (f_X7_chance_47 rule many kinds tv nT l1 (nI m) l3 l4) fu2 = kp at q2 ⊢
        unfold f_X7_chance_47
        rw [if_neg (by rw [le_nI] <;> omega), show (6 : Int32) = nI 6 from rfl, r2]
        simp only [Option.bind_some]
        rw [if_neg hc, nI_1, y64]
        exact q2
theorem A_chance {th : Int32 × Int32 × Int32 × Int32 × Int32 × Int32 × (Nat → Int32) × (Nat → Int32) × (Nat → Int32) × (Nat → Int32) × (Nat → Int32)} (h : RG nT n F L S K N E face lamp stove pose rule painters kind number easel had pleased many kinds rows room) :
    ∃ a v fw' pw' g' w' n', f_X6_chance l1 l2 l3 l4 th.1 th.2.1 th.2.2.1 th.2.2.2.1 th.2.2.2.2.1 th.2.2.2.2.2.1 face lamp stove pose rule painters kind th.2.2.2.2.2.2.1 number th.2.2.2.2.2.2.2.1 easel th.2.2.2.2.2.2.2.2.1 had th.2.2.2.2.2.2.2.2.2.1 pleased th.2.2.2.2.2.2.2.2.2.2 tv nT = some (a, v) ∧ f_X7_chance l1 l2 l3 l4 rule many fw pw room gained rows was now kinds tv nT = some (a, fw', pw', room, g', rows, w', n') := by
  unfold f_X6_chance f_X7_chance
  rw [isPart6]
  simp only [in7i, Option.bind_some, bz_0, decide_eq_false_iff_not, e0, e1, e20, em99999, e99999]
  by_cases a : 1 ≤ l2.toInt ∧ l2.toInt ≤ 20
  · rw [if_neg (show ¬ l2 < 1 by rw [lt_i, i1]; omega), if_neg (show ¬ 20 < l2 by rw [lt_i, i20]; omega), if_neg (show ¬ ¬ (1 ≤ l2.toInt ∧ l2.toInt ≤ 20) from fun h => h a)]
    by_cases b : -99999 ≤ l3.toInt ∧ l3.toInt ≤ 99999
    · rw [if_neg (show ¬ l3 < (-99999) by rw [lt_i, im99999]; omega), if_neg (show ¬ 99999 < l3 by rw [lt_i, i99999]; omega), if_neg (show ¬ ¬ (-99999 ≤ l3.toInt ∧ l3.toInt ≤ 99999) from fun h => h b)]
      by_cases c : 0 ≤ l4.toInt ∧ l4.toInt ≤ 1
      · have nc : ¬ ¬ (0 ≤ l4.toInt ∧ l4.toInt ≤ 1) := fun h => h c
        rw [if_neg nc, if_neg nc]
        obtain ⟨m, hm, rfl⟩ := nn_of (show 0 ≤ l2.toInt by omega)
        rw [nI_toInt hm] at a
        exact chance_loop h (by omega) (by omega) m 0 0 200 200 _ _ _ _ _ _ _ _ _ _ _ _ _ _ _ _ (by omega) (by omega) (by omega) (by omega)
      · rw [if_pos c, if_pos c]
        exact ⟨_, _, _, _, _, _, _, rfl, rfl⟩
    · rw [if_pos b]
      by_cases b1 : l3 < (-99999)
      · rw [if_pos b1]; exact ⟨_, _, _, _, _, _, _, rfl, rfl⟩
      · rw [if_neg b1]
        rw [lt_i, im99999] at b1
        rw [if_pos (show 99999 < l3 by rw [lt_i, i99999]; omega)]; exact ⟨_, _, _, _, _, _, _, rfl, rfl⟩
  · rw [if_pos a]
    by_cases b1 : l2 < 1
    · rw [if_pos b1]; exact ⟨_, _, _, _, _, _, _, rfl, rfl⟩
    · rw [if_neg b1]
      rw [lt_i, i1] at b1
      rw [if_pos (show 20 < l2 by rw [lt_i, i20]; omega)]; exact ⟨_, _, _, _, _, _, _, rfl, rfl⟩
end
