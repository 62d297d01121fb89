/-! ## tells -/
section
variable {tv : Int32 → Int32 → Int32 → Int32 → Int32 → Int32 → Int32 → Int32 → Int32} {nT n F L S s z : Nat} {K N E : Nat → Nat} {face lamp stove pose rule painters many fw pw l1 l2 l3 l4 : Int32} {kind number easel had pleased kinds rows rows0 room room0 now gained was it iT so ss its its0 : Nat → Int32}
theorem first_loop {T St q : Nat} {ts : Int32} (hts1 : ts / 100 = nI T) (hts2 : ts - ts / 100 * 100 = nI St) (hr : inb rule nT = true) (hnT : nT ≤ 6) (hT : T < 11) (hSt : St < 11) (hq : q < n) (hs : s < 4) (hz : z ≤ 40) (hss : ss s = nI z) (hit : ∀ j, j < z → it j = its (40 * s + j)) :
    ∀ (k i fu1 fu2 : Nat) (F : Nat) (E : Nat → Nat) (face pose : Int32) (easel room rows now gained : Nat → Int32), i + k = z → k < fu1 → k + 2 < fu2 → LR n F L S K N E lamp stove painters many kind number kinds rows0 room0 face pose easel room rows →
      ∃ a v g' n', lq4 (f_X6_firstOtherwise_3 (nI z) lamp stove rule painters number kind it tv nT (nI q) ts) fu1 (nI i) face pose easel = some (a, v) ∧ lq6 (f_X7_firstOther_10 rule many (room0 0) (room0 3) (mpN 24 rows0 was) ss kinds its tv nT (nI s) (nI q) ts) fu2 (-1) (nI i) room gained rows now = some (a, room0 0, room0 3, room0, g', rows0, mpN 24 rows0 was, n') := by
  have hin : inb (nI s) 4 = true := inb_nI (by omega) (by decide)
  intro k
  induction k with
  | zero =>
    intro i fu1 fu2 F E face pose easel room rows now gained h1 h2 h3 hL
    obtain ⟨fu1, rfl⟩ : ∃ g, fu1 = g + 1 := ⟨fu1 - 1, by omega⟩
    obtain ⟨fu2, rfl⟩ : ∃ g, fu2 = g + 1 := ⟨fu2 - 1, by omega⟩
    refine ⟨-1, (face, pose, easel), gained, now, ?_, ?_⟩
    · show f_X6_firstOtherwise_3 _ _ _ _ _ _ _ _ _ _ _ _ (lq4 _ fu1) (nI i) _ _ _ = _
      unfold f_X6_firstOtherwise_3
      rw [if_pos (by rw [le_nI] <;> omega)]
    · show f_X7_firstOther_10 _ _ _ _ _ _ _ _ _ _ _ _ _ (lq6 _ fu2) _ (nI i) _ _ _ _ = _
      unfold f_X7_firstOther_10
      rw [if_pos hin, cl_nI (show s ≤ 2147483647 by omega), hss, if_pos (by rw [le_nI] <;> omega), backs7' hL.2.2.2.1 hL.2.2.2.2]
      rfl
  | succ k ih =>
    intro i fu1 fu2 F E face pose easel room rows now gained h1 h2 h3 hL
    obtain ⟨fu1, rfl⟩ : ∃ g, fu1 = g + 1 := ⟨fu1 - 1, by omega⟩
    obtain ⟨fu2, rfl⟩ : ∃ g, fu2 = g + 1 := ⟨fu2 - 1, by omega⟩
    have p6 := PB6 (tv := tv) (pose := pose) (p := q) hL.1 hL.2.1 hq hr hnT
    have p7 := PB7 (tv := tv) (p := q) hL.1 hL.2.2.1 hq hr
    obtain ⟨s1, s2, s3⟩ := LR_step (tv := tv) (now := now) (gained := gained) hL hr hT hSt
    obtain ⟨y1, y2⟩ := ix40 hs (show i < 40 by omega)
    by_cases c : pbN tv rule pose n F L S K N E q = it i
    · obtain ⟨a, v, g', n', q1, q2⟩ := ih (i + 1) fu1 fu2 _ _ _ _ _ _ _ (mpN n (pbN tv rule pose n F L S K N E) now) (mpN n (fun j => gained j + pbN tv rule pose n F L S K N E j) gained) (by omega) (by omega) (by omega) s3
      refine ⟨a, v, g', n', ?_, ?_⟩
      · rw [← q1]
        show f_X6_firstOtherwise_3 _ _ _ _ _ _ _ _ _ _ _ _ (lq4 _ fu1) (nI i) _ _ _ = _
        generalize lq4 (f_X6_firstOtherwise_3 (nI z) lamp stove rule painters number kind it tv nT (nI q) ts) fu1 = kp
        unfold f_X6_firstOtherwise_3
        rw [if_neg (by rw [le_nI] <;> omega), p6]
        simp only [Option.bind_some]
        rw [if_pos (inb_nI (show i < 40 by omega) (by decide)), cl_nI (show i ≤ 2147483647 by omega), if_pos c, hts2, hts1, s1]
        simp only [Option.bind_some]
        rw [nI_1]
      · rw [← q2]
        show f_X7_firstOther_10 _ _ _ _ _ _ _ _ _ _ _ _ _ (lq6 _ fu2) _ (nI i) _ _ _ _ = _
        generalize lq6 (f_X7_firstOther_10 rule many (room0 0) (room0 3) (mpN 24 rows0 was) ss kinds its tv nT (nI s) (nI q) ts) fu2 = kp
        unfold f_X7_firstOther_10 f_X7_firstOther_53
        rw [if_pos hin, cl_nI (show s ≤ 2147483647 by omega), hss, if_neg (by rw [le_nI] <;> omega), if_pos rfl, p7]
        simp only [Option.bind_some]
        rw [if_pos y1, y2, if_pos (by rw [← hit i (by omega)]; exact c), hts2, hts1, s2]
        simp only [Option.bind_some]
        rw [nI_1]
    · refine ⟨nI i, (face, pose, easel), mpN n (fun j => gained j + pbN tv rule pose n F L S K N E j) gained, mpN n (pbN tv rule pose n F L S K N E) now, ?_, ?_⟩
      · show f_X6_firstOtherwise_3 _ _ _ _ _ _ _ _ _ _ _ _ (lq4 _ fu1) (nI i) _ _ _ = _
        unfold f_X6_firstOtherwise_3
        rw [if_neg (by rw [le_nI] <;> omega), p6]
        simp only [Option.bind_some]
        rw [if_pos (inb_nI (show i < 40 by omega) (by decide)), cl_nI (show i ≤ 2147483647 by omega), if_neg c]
      · obtain ⟨fu2, rfl⟩ : ∃ g, fu2 = g + 1 := ⟨fu2 - 1, by omega⟩
        have key : lq6 (f_X7_firstOther_10 rule many (room0 0) (room0 3) (mpN 24 rows0 was) ss kinds its tv nT (nI s) (nI q) ts) (fu2 + 1) (nI i) (nI (i + 1)) (rmS T F room) (mpN n (fun j => gained j + pbN tv rule pose n F L S K N E j) gained) (rwS n St F E (pbN tv rule pose n F L S K N E) rows) (mpN n (pbN tv rule pose n F L S K N E) now) = some (nI i, room0 0, room0 3, room0, mpN n (fun j => gained j + pbN tv rule pose n F L S K N E j) gained, rows0, mpN 24 rows0 was, mpN n (pbN tv rule pose n F L S K N E) now) := by
          show f_X7_firstOther_10 _ _ _ _ _ _ _ _ _ _ _ _ _ (lq6 _ fu2) _ (nI (i + 1)) _ _ _ _ = _
          unfold f_X7_firstOther_10
          rw [if_pos hin, cl_nI (show s ≤ 2147483647 by omega), hss, backs7' s3.2.2.2.1 s3.2.2.2.2, if_neg (nI_m1 i (by omega))]
          split <;> rfl
        rw [← key]
        show f_X7_firstOther_10 _ _ _ _ _ _ _ _ _ _ _ _ _ (lq6 _ (fu2 + 1)) _ (nI i) _ _ _ _ = _
        generalize lq6 (f_X7_firstOther_10 rule many (room0 0) (room0 3) (mpN 24 rows0 was) ss kinds its tv nT (nI s) (nI q) ts) (fu2 + 1) = kp
        unfold f_X7_firstOther_10 f_X7_firstOther_53
        rw [if_pos hin, cl_nI (show s ≤ 2147483647 by omega), hss, if_neg (by rw [le_nI] <;> omega), if_pos rfl, p7]
        simp only [Option.bind_some]
        rw [if_pos y1, y2, if_neg (by rw [← hit i (by omega)]; exact c), hts2, hts1, s2]
        simp only [Option.bind_some]
        rw [nI_1]
theorem first67 {T St q : Nat} {ts : Int32} (hts1 : ts / 100 = nI T) (hts2 : ts - ts / 100 * 100 = nI St) (hO : OKr n F L S K N E) (hX : RX n F L S K N E face lamp stove painters kind number easel) (hM : RM n F L S K N E pose many kinds rows room) (hr : inb rule nT = true) (hnT : nT ≤ 6) (hT : T < 11) (hSt : St < 11) (hq : q < n) (hs : s < 4) (hz : z ≤ 40) (hss : ss s = nI z) (hit : ∀ j, j < z → it j = its (40 * s + j)) :
    ∃ a v g' w' n', f_X6_firstOtherwise (nI q) ts (nI z) face lamp stove pose rule painters easel number kind it tv nT = some (a, v) ∧ f_X7_firstOther (nI s) (nI q) ts rule many room gained rows was ss kinds its now tv nT = some (a, room 0, room 3, room, g', rows, w', n') := by
  obtain ⟨a, v, g', n', q1, q2⟩ := first_loop (tv := tv) (was := was) hts1 hts2 hr hnT hT hSt hq hs hz hss hit z 0 200 200 F E face pose easel room rows now (mpN 6 (fun _ => 0) gained) (by omega) (by omega) (by omega) (show LR n F L S K N E lamp stove painters many kind number kinds rows room face pose easel room rows from ⟨hO, hX, hM, fun _ _ => rfl, fun _ _ _ => rfl⟩)
  refine ⟨a, v, g', mpN 24 rows was, n', q1, ?_⟩
  unfold f_X7_firstOther
  rw [aside7]
  exact q2
end
/-- the reference's state but for what is supposed -/
def layF (w q : Nat) (v : Int32) (st : Int32 × (Nat → Int32) × (Nat → Int32) × (Nat → Int32)) : Int32 × (Nat → Int32) × (Nat → Int32) × (Nat → Int32) :=
  if w = 1 then (st.1, upd st.2.1 q v, st.2.2.1, st.2.2.2) else if w = 2 then (st.1, st.2.1, upd st.2.2.1 (4 * q) v, st.2.2.2) else if w = 3 then (st.1, st.2.1, upd st.2.2.1 (4 * q + 1) v, st.2.2.2)
  else if w = 4 then (st.1, st.2.1, st.2.2.1, upd st.2.2.2 0 v) else if w = 5 then (st.1, st.2.1, st.2.2.1, upd st.2.2.2 1 v) else if w = 6 then (st.1, st.2.1, st.2.2.1, upd st.2.2.2 2 v) else (v, st.2.1, st.2.2.1, st.2.2.2)
def sortW (w : Nat) : Nat := if w = 1 then 6 else if w = 2 then 4 else if w = 3 then 5 else if w = 7 then 7 else w - 4
theorem upd2 {a : Nat → Int32} {p : Nat} {u v : Int32} : upd (upd a p u) p v = upd a p v := by
  funext j; unfold upd; by_cases c : j = p
  · rw [if_pos c, if_pos c]
  · rw [if_neg c, if_neg c, if_neg c]
theorem upd_same {a : Nat → Int32} {p : Nat} : upd a p (a p) = a := by
  funext j; unfold upd; by_cases c : j = p
  · rw [if_pos c, c]
  · rw [if_neg c]
theorem layF2 {w q : Nat} {u v : Int32} {st : Int32 × (Nat → Int32) × (Nat → Int32) × (Nat → Int32)} : layF w q v (layF w q u st) = layF w q v st := by
  unfold layF
  by_cases a1 : w = 1
  · simp only [if_pos a1, upd2]
  · simp only [if_neg a1]
    by_cases a2 : w = 2
    · simp only [if_pos a2, upd2]
    · simp only [if_neg a2]
      by_cases a3 : w = 3
      · simp only [if_pos a3, upd2]
      · simp only [if_neg a3]
        by_cases a4 : w = 4
        · simp only [if_pos a4, upd2]
        · simp only [if_neg a4]
          by_cases a5 : w = 5
          · simp only [if_pos a5, upd2]
          · simp only [if_neg a5]
            by_cases a6 : w = 6
            · simp only [if_pos a6, upd2]
            · simp only [if_neg a6]
theorem lays7 {w q : Nat} {v : Int32} {st : Int32 × (Nat → Int32) × (Nat → Int32) × (Nat → Int32)} (h1 : 1 ≤ w) (h7 : w ≤ 7) (hq : q < 6) : f_X7_lays (nI (sortW w)) (nI q) v st.1 st.2.1 st.2.2.1 st.2.2.2 = some (layF w q v st) := by
  obtain ⟨y0, z0⟩ := ix0 hq
  obtain ⟨y1, z1⟩ := ix1 hq
  have e4 : ∀ q, q < 6 → 4 * nI q + nI 4 - 4 = 4 * nI q := by decide +kernel
  have e5 : ∀ q, q < 6 → 4 * nI q + nI 5 - 4 = 4 * nI q + 1 := by decide +kernel
  rcases (show w = 1 ∨ w = 2 ∨ w = 3 ∨ w = 4 ∨ w = 5 ∨ w = 6 ∨ w = 7 by omega) with rfl | rfl | rfl | rfl | rfl | rfl | rfl
  · show f_X7_lays (nI 6) (nI q) v _ _ _ _ = _
    unfold f_X7_lays
    rw [if_pos (by decide), if_pos (by decide), if_pos (by decide), if_pos (inb_nI hq (by decide)), cl_nI (by omega)]
    rfl
  · show f_X7_lays (nI 4) (nI q) v _ _ _ _ = _
    unfold f_X7_lays
    rw [if_pos (by decide), if_neg (by decide), e4 q hq, if_pos y0, z0]
    rfl
  · show f_X7_lays (nI 5) (nI q) v _ _ _ _ = _
    unfold f_X7_lays
    rw [if_pos (by decide), if_neg (by decide), e5 q hq, if_pos y1, z1]
    rfl
  · rfl
  · rfl
  · rfl
  · rfl
/-- whether it could be so -/
def okW (n nT : Nat) (E : Nat → Nat) (w q v : Nat) : Bool :=
  if w = 1 then decide (v < 6) else if w = 2 then decide (v < 10) else if w = 3 then (frE n E v || E q == v) else if w = 7 then decide (v < nT) else true
section
variable {tv : Int32 → Int32 → Int32 → Int32 → Int32 → Int32 → Int32 → Int32 → Int32} {nT n F L S s z q w : Nat} {K N E : Nat → Nat} {face lamp stove pose rule painters many fw pw l1 l2 l3 l4 : Int32} {kind number easel had pleased kinds rows rows0 room room0 now gained was it iT so ss its its0 : Nat → Int32}
/-- what is supposed, on both sides -/
theorem sup67 {v : Nat} (hO : OKr n F L S K N E) (hX : RX n F L S K N E face lamp stove painters kind number easel) (hM : RM n F L S K N E pose many kinds rows room) (hr : inb rule nT = true) (hnT : nT ≤ 6) (hq : q < n) (h1 : 1 ≤ w) (h7 : w ≤ 7) (hv : v < 11) :
    ∃ f l st r k nu e, f_X6_suppose (nI w) (nI q) (nI v) (nI nT) face lamp stove rule kind number easel painters easel = some (bz (okW n nT E w q v), f, l, st, r, k, nu, e) ∧ (okW n nT E w q v = true → r = (layF w q (nI v) (rule, kinds, rows, room)).1 ∧ inb r nT = true ∧ ∃ F' L' S' K' N' E', OKr n F' L' S' K' N' E' ∧ RX n F' L' S' K' N' E' f l st painters k nu e ∧ RM n F' L' S' K' N' E' pose many (layF w q (nI v) (rule, kinds, rows, room)).2.1 (layF w q (nI v) (rule, kinds, rows, room)).2.2.1 (layF w q (nI v) (rule, kinds, rows, room)).2.2.2) := by
  have hn := hO.1
  have hin : inb (nI q) 6 = true := inb_nI (by omega) (by decide)
  have hE : ∀ p, p < n → E p < 11 := fun p hp => (hO.2.2.2.2.2 p hp).2.2
  have he : ∀ p, p < n → easel p = nI (E p) := fun p hp => (hX.2.2.2.2 p hp).2.2
  have hvi : (nI v).toInt = v := nI_toInt (by omega)
  obtain ⟨hX1, hX2, hX3, hX4, hX5⟩ := hX
  obtain ⟨hM1, hM2, hM3, hM4, hM5, hM6⟩ := hM
  obtain ⟨hO1, hO2, hO3, hO4, hO5, hO6⟩ := hO
  unfold f_X6_suppose
  rcases (show w = 1 ∨ w = 2 ∨ w = 3 ∨ w = 4 ∨ w = 5 ∨ w = 6 ∨ w = 7 by omega) with rfl | rfl | rfl | rfl | rfl | rfl | rfl
  · rw [if_pos (by decide), if_pos hin, isKind6, cl_nI (by omega), hvi]
    simp only [Option.bind_some]
    rw [if_pos (bz_Z _)]
    refine ⟨_, _, _, _, _, _, _, by rw [show okW n nT E 1 q v = decide (0 ≤ (v : Int) ∧ (v : Int) < 6) from by show decide (v < 6) = _; rw [decide_eq_decide]; omega]; rfl, fun hk => ⟨rfl, hr, F, L, S, upE K q v, N, E, ⟨hO1, hO2, hO3, hO4, hO5, ?_⟩, ⟨hX1, hX2, hX3, hX4, ?_⟩, ⟨hM1, hM2, hM3, hM4, hM5, ?_⟩⟩⟩
    · intro p hp
      refine ⟨?_, (hO6 p hp).2⟩
      have hk : v < 6 := of_decide_eq_true hk
      unfold upE
      split
      · exact hk
      · exact (hO6 p hp).1
    · intro p hp
      refine ⟨?_, (hX5 p hp).2⟩
      unfold upd upE
      by_cases c : p = q
      · rw [if_pos c, if_pos c]
      · rw [if_neg c, if_neg c]; exact (hX5 p hp).1
    · intro p hp
      refine ⟨?_, (hM6 p hp).2⟩
      show upd kinds q (nI v) p = nI (upE K q v p)
      unfold upd upE
      by_cases c : p = q
      · rw [if_pos c, if_pos c]
      · rw [if_neg c, if_neg c]; exact (hM6 p hp).1
  · rw [if_neg (by decide), if_pos (by decide), if_pos hin, cl_nI (show q ≤ 2147483647 by omega)]
    by_cases c : v < 10
    · rw [if_neg (show ¬ (10 : Int32) ≤ nI v by rw [le_i, i10, hvi]; omega)]
      refine ⟨_, _, _, _, _, _, _, by rw [show okW n nT E 2 q v = true from decide_eq_true c]; rfl, fun _ => ⟨rfl, hr, F, L, S, K, upE N q v, E, ⟨hO1, hO2, hO3, hO4, hO5, ?_⟩, ⟨hX1, hX2, hX3, hX4, ?_⟩, ⟨hM1, hM2, hM3, hM4, hM5, ?_⟩⟩⟩
      · intro p hp
        refine ⟨(hO6 p hp).1, ?_, (hO6 p hp).2.2⟩
        unfold upE
        split
        · exact c
        · exact (hO6 p hp).2.1
      · intro p hp
        refine ⟨(hX5 p hp).1, ?_, (hX5 p hp).2.2⟩
        unfold upd upE
        by_cases c : p = q
        · rw [if_pos c, if_pos c]
        · rw [if_neg c, if_neg c]; exact (hX5 p hp).2.1
      · intro p hp
        refine ⟨(hM6 p hp).1, ?_, ?_⟩
        · show upd rows (4 * q) (nI v) (4 * p) = nI (upE N q v p)
          unfold upd upE
          by_cases c : p = q
          · rw [if_pos (by omega), if_pos c]
          · rw [if_neg (by omega), if_neg c]; exact (hM6 p hp).2.1
        · show upd rows (4 * q) (nI v) (4 * p + 1) = nI (E p)
          unfold upd
          rw [if_neg (by omega)]; exact (hM6 p hp).2.2
    · rw [if_pos (show (10 : Int32) ≤ nI v by rw [le_i, i10, hvi]; omega)]
      have hf : okW n nT E 2 q v = false := decide_eq_false c
      exact ⟨_, _, _, _, _, _, _, by rw [hf]; rfl, fun hk => by rw [hf] at hk; exact absurd hk (by decide)⟩
  · rw [if_neg (by decide), if_neg (by decide), if_pos (by decide), if_pos hin, hX4, maySit6 hn hq he hE, cl_nI (show q ≤ 2147483647 by omega), hvi, decide_eq_true (show 0 ≤ (v : Int) ∧ (v : Int) < 11 by omega), Bool.true_and, Int.toNat_natCast]
    simp only [Option.bind_some]
    rw [if_pos (bz_Z _)]
    refine ⟨_, _, _, _, _, _, _, rfl, fun hk => ?_⟩
    have hk : (frE n E v || E q == v) = true := hk
    rw [Bool.or_eq_true, beq_iff_eq] at hk
    have hfr : ∀ p, p < n → p ≠ q → E p ≠ v := by
      intro p hp hpq
      rcases hk with hk | hk
      · exact frE_iff.mp hk p hp
      · intro e1; exact hpq (hO5 p q hp hq (by rw [e1, hk]))
    exact ⟨rfl, hr, F, L, S, K, N, upE E q v, OK_up ⟨hO1, hO2, hO3, hO4, hO5, hO6⟩ hv hfr, RX_up (easel := easel) ⟨hX1, hX2, hX3, rfl, hX5⟩ (fun _ _ => rfl), RM_up (rows := rows) ⟨hM1, hM2, hM3, hM4, hM5, hM6⟩ (fun _ _ => rfl)⟩
  · refine ⟨_, _, _, _, _, _, _, rfl, fun _ => ⟨rfl, hr, v, L, S, K, N, E, ⟨hO1, hv, hO3, hO4, hO5, hO6⟩, ⟨rfl, hX2, hX3, hX4, hX5⟩, ⟨hM1, rfl, hM3, hM4, hM5, hM6⟩⟩⟩
  · refine ⟨_, _, _, _, _, _, _, rfl, fun _ => ⟨rfl, hr, F, v, S, K, N, E, ⟨hO1, hO2, hv, hO4, hO5, hO6⟩, ⟨hX1, rfl, hX3, hX4, hX5⟩, ⟨hM1, hM2, rfl, hM4, hM5, hM6⟩⟩⟩
  · refine ⟨_, _, _, _, _, _, _, rfl, fun _ => ⟨rfl, hr, F, L, v, K, N, E, ⟨hO1, hO2, hO3, hv, hO5, hO6⟩, ⟨hX1, hX2, rfl, hX4, hX5⟩, ⟨hM1, hM2, hM3, rfl, hM5, hM6⟩⟩⟩
  · rw [if_neg (by decide), if_neg (by decide), if_neg (by decide), if_neg (by decide), if_neg (by decide), if_neg (by decide)]
    by_cases c : v < nT
    · rw [if_neg (by rw [le_nI] <;> omega)]
      refine ⟨_, _, _, _, _, _, _, by rw [show okW n nT E 7 q v = true from decide_eq_true c]; rfl, fun _ => ⟨rfl, inb_nI c (by omega), F, L, S, K, N, E, ⟨hO1, hO2, hO3, hO4, hO5, hO6⟩, ⟨hX1, hX2, hX3, hX4, hX5⟩, ⟨hM1, hM2, hM3, hM4, hM5, hM6⟩⟩⟩
    · rw [if_pos (by rw [le_nI] <;> omega)]
      have hf : okW n nT E 7 q v = false := decide_eq_false c
      exact ⟨_, _, _, _, _, _, _, by rw [hf]; rfl, fun hk => by rw [hf] at hk; exact absurd hk (by decide)⟩
end
