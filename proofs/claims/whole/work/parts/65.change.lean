/-! ## change -/
def swE (E : Nat → Nat) (a b : Nat) : Nat → Nat := fun j => if j = b then E a else if j = a then E b else E j
theorem OK_sw {n F L S a b : Nat} {K N E : Nat → Nat} (h : OKr n F L S K N E) (ha : a < n) (hb : b < n) : OKr n F L S K N (swE E a b) := by
  obtain ⟨h1, h2, h3, h4, h5, h6⟩ := h
  refine ⟨h1, h2, h3, h4, ?_, fun q hq => ⟨(h6 q hq).1, (h6 q hq).2.1, ?_⟩⟩
  · intro x y hx hy e1
    unfold swE at e1
    by_cases x1 : x = b
    · rw [if_pos x1] at e1
      by_cases y1 : y = b
      · rw [x1, y1]
      · rw [if_neg y1] at e1
        by_cases y2 : y = a
        · rw [if_pos y2] at e1
          have := h5 a b ha hb e1
          omega
        · rw [if_neg y2] at e1
          have := h5 a y ha hy e1
          omega
    · rw [if_neg x1] at e1
      by_cases x2 : x = a
      · rw [if_pos x2] at e1
        by_cases y1 : y = b
        · rw [if_pos y1] at e1
          have := h5 b a hb ha e1
          omega
        · rw [if_neg y1] at e1
          by_cases y2 : y = a
          · rw [x2, y2]
          · rw [if_neg y2] at e1
            have := h5 b y hb hy e1
            omega
      · rw [if_neg x2] at e1
        by_cases y1 : y = b
        · rw [if_pos y1] at e1
          have := h5 x a hx ha e1
          omega
        · rw [if_neg y1] at e1
          by_cases y2 : y = a
          · rw [if_pos y2] at e1
            have := h5 x b hx hb e1
            omega
          · rw [if_neg y2] at e1
            exact h5 x y hx hy e1
  · unfold swE
    repeat' split
    · exact (h6 a ha).2.2
    · exact (h6 b hb).2.2
    · exact (h6 q hq).2.2
theorem sw_back (x : Nat → Int32) {a b : Nat} (h : a ≠ b) : upd (upd (upd (upd x a (x b)) b (x a)) a ((upd (upd x a (x b)) b (x a)) b)) b ((upd (upd x a (x b)) b (x a)) a) = x := by
  have h' : b ≠ a := fun e => h e.symm
  funext j
  unfold upd
  by_cases c1 : j = b
  · rw [if_pos c1, if_neg h, if_pos rfl, c1]
  · rw [if_neg c1]
    by_cases c2 : j = a
    · rw [if_pos c2, if_pos rfl, c2]
    · rw [if_neg c2, if_neg c1, if_neg c2]
theorem exch6 {a b n : Nat} {x : Nat → Int32} (ha : a < n) (hb : b < n) (hn : n ≤ 6) : f_X2_exchange (nI a) (nI b) x = some (upd (upd x a (x b)) b (x a)) := by
  have h1 : inb (nI a) 6 = true := inb_nI (by omega) (by decide)
  have h2 : inb (nI b) 6 = true := inb_nI (by omega) (by decide)
  unfold f_X2_exchange
  rw [if_pos h1, if_pos h2, if_pos h1, if_pos h2, cl_nI (show a ≤ 2147483647 by omega), cl_nI (show b ≤ 2147483647 by omega)]
theorem swap7 {a b n : Nat} {x : Nat → Int32} (ha : a < n) (hb : b < n) (hn : n ≤ 6) : f_X7_swaps (nI a) (nI b) x = some (upd (upd x (4 * a + 1) (x (4 * b + 1))) (4 * b + 1) (x (4 * a + 1))) := by
  obtain ⟨h1, h3⟩ := ix1 (show a < 6 by omega)
  obtain ⟨h2, h4⟩ := ix1 (show b < 6 by omega)
  unfold f_X7_swaps
  rw [if_pos h1, if_pos h2, if_pos h1, if_pos h2, h3, h4]
theorem RX_sw {n F L S a b : Nat} {K N E : Nat → Nat} {face lamp stove painters : Int32} {kind number easel : Nat → Int32} (h : RX n F L S K N E face lamp stove painters kind number easel) (ha : a < n) (hb : b < n) : RX n F L S K N (swE E a b) face lamp stove painters kind number (upd (upd easel a (easel b)) b (easel a)) := by
  obtain ⟨h1, h2, h3, h4, h5⟩ := h
  refine ⟨h1, h2, h3, h4, fun q hq => ⟨(h5 q hq).1, (h5 q hq).2.1, ?_⟩⟩
  unfold upd swE
  repeat' split
  · exact (h5 a ha).2.2
  · exact (h5 b hb).2.2
  · exact (h5 q hq).2.2
theorem RM_sw {n F L S a b : Nat} {K N E : Nat → Nat} {pose many : Int32} {kinds rows room : Nat → Int32} (h : RM n F L S K N E pose many kinds rows room) (ha : a < n) (hb : b < n) : RM n F L S K N (swE E a b) pose many kinds (upd (upd rows (4 * a + 1) (rows (4 * b + 1))) (4 * b + 1) (rows (4 * a + 1))) room := by
  obtain ⟨h1, h2, h3, h4, h5, h6⟩ := h
  refine ⟨h1, h2, h3, h4, h5, fun q hq => ⟨(h6 q hq).1, ?_, ?_⟩⟩
  · unfold upd
    rw [if_neg (by omega), if_neg (by omega)]; exact (h6 q hq).2.1
  · unfold upd swE
    by_cases c1 : q = b
    · rw [if_pos (by omega), if_pos c1]; exact (h6 a ha).2.2
    · rw [if_neg (by omega), if_neg c1]
      by_cases c2 : q = a
      · rw [if_pos (by omega), if_pos c2]; exact (h6 b hb).2.2
      · rw [if_neg (by omega), if_neg c2]; exact (h6 q hq).2.2
/-- more than what is so now -/
def stq (pl w : Int32) (fm : Int32 × Int32) : Int32 × Int32 := if w ≤ fm.2 then fm else (pl, w)
theorem offerq {pl w : Int32} {fm : Int32 × Int32} : f_X0_offer pl w fm.1 fm.2 1 = some ((stq pl w fm).1, (stq pl w fm).2, 1) := by
  unfold f_X0_offer stq
  rw [if_neg (by decide)]
  split <;> rfl
section
variable {tv : Int32 → Int32 → Int32 → Int32 → Int32 → Int32 → Int32 → Int32 → Int32} {nT n F L S m : Nat} {K N E : Nat → Nat} {face lamp stove pose rule painters many fw pw l1 l2 l3 l4 : Int32} {kind number easel had pleased kinds rows room now gained was : Nat → Int32}
theorem pair_in {a : Nat} (hO : OKr n F L S K N E) (hX : RX n F L S K N E face lamp stove painters kind number easel) (hM : RM n F L S K N E pose many kinds rows room) (hr : inb rule nT = true) (hnT : nT ≤ 6) (ha : a < n) (kp6 : Int32 → Int32 → Int32 → Int32 → (Nat → Int32) → Option (Int32 × Int32 × Int32 × (Nat → Int32))) (kp7 : Int32 → Int32 → Int32 → (Nat → Int32) → Option (Int32 × (Nat → Int32))) :
    ∀ (k b fu1 fu2 : Nat) (fm : Int32 × Int32), b + k = n → a < b → k < fu1 → k < fu2 →
      ∃ fm' : Int32 × Int32, lq5 (f_X6_offerPairs_33 kp6 painters face lamp stove pose rule painters number kind tv nT (nI a)) fu1 (nI b) fm.1 fm.2 1 easel = kp6 (nI (a + 1)) fm'.1 fm'.2 1 easel ∧ lq4 (f_X7_changed_25 kp7 rule many kinds room tv nT (nI a)) fu2 fm.1 fm.2 (nI b) rows = kp7 fm'.1 fm'.2 (nI (a + 1)) rows := by
  have hn := hO.1
  intro k
  induction k with
  | zero =>
    intro b fu1 fu2 fm h1 hab hf1 hf2
    obtain ⟨fu1, rfl⟩ : ∃ g, fu1 = g + 1 := ⟨fu1 - 1, by omega⟩
    obtain ⟨fu2, rfl⟩ : ∃ g, fu2 = g + 1 := ⟨fu2 - 1, by omega⟩
    refine ⟨fm, ?_, ?_⟩
    · show f_X6_offerPairs_33 _ _ _ _ _ _ _ _ _ _ _ _ _ (lq5 _ fu1) (nI b) _ _ _ _ = _
      unfold f_X6_offerPairs_33
      rw [if_pos (by rw [hX.2.2.2.1, le_nI] <;> omega), nI_1]
    · show f_X7_changed_25 _ _ _ _ _ _ _ _ (lq4 _ fu2) _ _ (nI b) _ = _
      unfold f_X7_changed_25
      rw [if_pos (by rw [hM.1, le_nI] <;> omega), nI_1]
  | succ k ih =>
    intro b fu1 fu2 fm h1 hab hf1 hf2
    obtain ⟨fu1, rfl⟩ : ∃ g, fu1 = g + 1 := ⟨fu1 - 1, by omega⟩
    obtain ⟨fu2, rfl⟩ : ∃ g, fu2 = g + 1 := ⟨fu2 - 1, by omega⟩
    have hb : b < n := by omega
    have hO' := OK_sw hO ha hb
    have w6 := whole6 (tv := tv) (pose := pose) hO' (RX_sw hX ha hb) hr hnT
    have w7 := whole7 (tv := tv) hO' (RM_sw hM ha hb) hr
    generalize smF (pbN tv rule pose n F L S K N (swE E a b)) 0 0 n = w at w6 w7
    obtain ⟨fm', q1, q2⟩ := ih (b + 1) fu1 fu2 (stq (10 * nI a + nI b) w fm) (by omega) (by omega) (by omega) (by omega)
    refine ⟨fm', ?_, ?_⟩
    · rw [← q1]
      show f_X6_offerPairs_33 _ _ _ _ _ _ _ _ _ _ _ _ _ (lq5 _ fu1) (nI b) _ _ _ _ = _
      generalize lq5 (f_X6_offerPairs_33 kp6 painters face lamp stove pose rule painters number kind tv nT (nI a)) fu1 = kp
      unfold f_X6_offerPairs_33
      rw [if_neg (by rw [hX.2.2.2.1, le_nI] <;> omega), exch6 ha hb hn]
      simp only [Option.bind_some]
      rw [w6, exch6 ha hb hn, sw_back easel (by omega)]
      simp only [Option.bind_some]
      rw [offerq, nI_1]
      rfl
    · rw [← q2]
      show f_X7_changed_25 _ _ _ _ _ _ _ _ (lq4 _ fu2) _ _ (nI b) _ = _
      generalize lq4 (f_X7_changed_25 kp7 rule many kinds room tv nT (nI a)) fu2 = kp
      unfold f_X7_changed_25
      rw [if_neg (by rw [hM.1, le_nI] <;> omega), swap7 ha hb hn]
      simp only [Option.bind_some]
      rw [w7, swap7 ha hb hn, sw_back rows (by omega)]
      simp only [Option.bind_some]
      rw [nI_1]
      unfold stq
      split <;> rfl
theorem pair_out (hO : OKr n F L S K N E) (hX : RX n F L S K N E face lamp stove painters kind number easel) (hM : RM n F L S K N E pose many kinds rows room) (hr : inb rule nT = true) (hnT : nT ≤ 6) :
    ∀ (k a fu1 fu2 : Nat) (fm : Int32 × Int32), a + k = n → k < fu1 → k < fu2 →
      ∃ fm' : Int32 × Int32, lq5 (f_X6_offerPairs_18 painters face lamp stove pose rule painters number kind tv nT) fu1 (nI a) fm.1 fm.2 1 easel = some (fm'.1, fm'.2, 1, easel) ∧ lq4 (f_X7_changed_10 rule many kinds room tv nT l1) fu2 fm.1 fm.2 (nI a) rows = some (if l1 = 0 then fm'.1 else fm'.2, rows) := by
  have hn := hO.1
  intro k
  induction k with
  | zero =>
    intro a fu1 fu2 fm h1 hf1 hf2
    obtain ⟨fu1, rfl⟩ : ∃ g, fu1 = g + 1 := ⟨fu1 - 1, by omega⟩
    obtain ⟨fu2, rfl⟩ : ∃ g, fu2 = g + 1 := ⟨fu2 - 1, by omega⟩
    refine ⟨fm, ?_, ?_⟩
    · show f_X6_offerPairs_18 _ _ _ _ _ _ _ _ _ _ _ (lq5 _ fu1) (nI a) _ _ _ _ = _
      unfold f_X6_offerPairs_18
      rw [if_pos (by rw [hX.2.2.2.1, le_nI] <;> omega)]
    · show f_X7_changed_10 _ _ _ _ _ _ _ (lq4 _ fu2) _ _ (nI a) _ = _
      unfold f_X7_changed_10
      rw [if_pos (by rw [hM.1, le_nI] <;> omega)]
      split <;> rfl
  | succ k ih =>
    intro a fu1 fu2 fm h1 hf1 hf2
    obtain ⟨fu1, rfl⟩ : ∃ g, fu1 = g + 1 := ⟨fu1 - 1, by omega⟩
    obtain ⟨fu2, rfl⟩ : ∃ g, fu2 = g + 1 := ⟨fu2 - 1, by omega⟩
    obtain ⟨fm1, p1, p2⟩ := pair_in (tv := tv) hO hX hM hr hnT (show a < n by omega) (lq5 (f_X6_offerPairs_18 painters face lamp stove pose rule painters number kind tv nT) fu1) (lq4 (f_X7_changed_10 rule many kinds room tv nT l1) fu2) k (a + 1) 200 200 fm (by omega) (by omega) (by omega) (by omega)
    obtain ⟨fm', q1, q2⟩ := ih (a + 1) fu1 fu2 fm1 (by omega) (by omega) (by omega)
    refine ⟨fm', ?_, ?_⟩
    · rw [← q1, ← p1]
      show f_X6_offerPairs_18 _ _ _ _ _ _ _ _ _ _ _ (lq5 _ fu1) (nI a) _ _ _ _ = _
      generalize lq5 (f_X6_offerPairs_18 painters face lamp stove pose rule painters number kind tv nT) fu1 = kp
      unfold f_X6_offerPairs_18
      rw [if_neg (by rw [hX.2.2.2.1, le_nI] <;> omega), nI_1]
    · rw [← q2, ← p2]
      show f_X7_changed_10 _ _ _ _ _ _ _ (lq4 _ fu2) _ _ (nI a) _ = _
      generalize lq4 (f_X7_changed_10 rule many kinds room tv nT l1) fu2 = kp
      unfold f_X7_changed_10
      rw [if_neg (by rw [hM.1, le_nI] <;> omega), nI_1]
/-- places of the lamp, the stove, the face: which place of the room -/
def rmE (F L S w e : Nat) : Nat × Nat × Nat := if w = 1 then (F, e, S) else if w = 2 then (F, L, e) else (e, L, S)
theorem place_loop {w : Nat} {l2 : Int32} (hw : w < 3) (hO : OKr n F L S K N E) (hX : RX n F L S K N E face lamp stove painters kind number easel) (hM : RM n F L S K N E pose many kinds rows room) (hr : inb rule nT = true) (hnT : nT ≤ 6) :
    ∀ (k i fu1 fu2 : Nat) (a v o f6 l6 s6 : Int32) (fm : Int32 × Int32) (room' : Nat → Int32), i + k = 11 → k < fu1 → k < fu2 → mo a v o fm → (w ≠ 0 → f6 = face) → (w ≠ 1 → l6 = lamp) → (w ≠ 2 → s6 = stove) → (∀ j, j ≠ w → room' j = room j) →
      ∃ (x : Int32 × Int32 × Int32) (o' : Int32) (fm' : Int32 × Int32), lq7 (f_X6_offerPlaces_2 pose rule painters easel number kind tv nT (if w = 0 then 3 else nI w)) fu1 (nI i) f6 l6 s6 a v o = some (x.1, x.2.1, x.2.2, fm'.1, fm'.2, o') ∧ lq4 (f_X7_placed_16 rule many kinds rows tv nT (nI w) l2 (room w)) fu2 fm.1 fm.2 (nI i) room' = some (if l2 = 0 then fm'.2 else fm'.1, room) := by
  have hn := hO.1
  have hin : inb (nI w) 4 = true := inb_nI (by omega) (by decide)
  intro k
  induction k with
  | zero =>
    intro i fu1 fu2 a v o f6 l6 s6 fm room' h1 hf1 hf2 hmo g0 g1 g2 hy
    obtain ⟨fu1, rfl⟩ : ∃ g, fu1 = g + 1 := ⟨fu1 - 1, by omega⟩
    obtain ⟨fu2, rfl⟩ : ∃ g, fu2 = g + 1 := ⟨fu2 - 1, by omega⟩
    have hle : (11 : Int32) ≤ nI i := by rw [show (11 : Int32) = nI 11 from rfl, le_nI] <;> omega
    refine ⟨(f6, l6, s6), o, fm, ?_, ?_⟩
    · show f_X6_offerPlaces_2 _ _ _ _ _ _ _ _ _ (lq7 _ fu1) (nI i) _ _ _ _ _ _ = _
      unfold f_X6_offerPlaces_2
      rw [if_pos hle, hmo.1, hmo.2.1]
    · show f_X7_placed_16 _ _ _ _ _ _ _ _ _ (lq4 _ fu2) _ _ (nI i) _ = _
      unfold f_X7_placed_16
      rw [if_pos hle, if_pos hin, cl_nI (by omega), upd_back hy rfl]
      split <;> rfl
  | succ k ih =>
    intro i fu1 fu2 a v o f6 l6 s6 fm room' h1 hf1 hf2 hmo g0 g1 g2 hy
    obtain ⟨fu1, rfl⟩ : ∃ g, fu1 = g + 1 := ⟨fu1 - 1, by omega⟩
    obtain ⟨fu2, rfl⟩ : ∃ g, fu2 = g + 1 := ⟨fu2 - 1, by omega⟩
    have hle : ¬ (11 : Int32) ≤ nI i := by rw [show (11 : Int32) = nI 11 from rfl, le_nI] <;> omega
    have hi : i < 11 := by omega
    obtain ⟨hX1, hX2, hX3, hX4, hX5⟩ := hX
    obtain ⟨hM1, hM2, hM3, hM4, hM5, hM6⟩ := hM
    obtain ⟨hO1, hO2, hO3, hO4, hO5, hO6⟩ := hO
    have hu : ∀ (v : Int32) j, upd room' w v j = if j = w then v else room j := by
      intro v j; unfold upd
      by_cases c : j = w
      · rw [if_pos c, if_pos c]
      · rw [if_neg c, if_neg c]; exact hy j c
    rcases (show w = 0 ∨ w = 1 ∨ w = 2 by omega) with rfl | rfl | rfl
    · have w6 := whole6 (tv := tv) (pose := pose) (rule := rule) (nT := nT) (n := n) (F := i) (L := L) (S := S) (K := K) (N := N) (E := E) (face := nI i) (lamp := l6) (stove := s6) (painters := painters) (kind := kind) (number := number) (easel := easel) ⟨hO1, hi, hO3, hO4, hO5, hO6⟩ ⟨rfl, (g1 (by decide)).trans hX2, (g2 (by decide)).trans hX3, hX4, hX5⟩ hr hnT
      have w7 := whole7 (tv := tv) (pose := pose) (rule := rule) (nT := nT) (n := n) (F := i) (L := L) (S := S) (K := K) (N := N) (E := E) (many := many) (kinds := kinds) (rows := rows) (room := upd room' 0 (nI i)) ⟨hO1, hi, hO3, hO4, hO5, hO6⟩ ⟨hM1, by rw [hu]; rfl, by rw [hu]; exact hM3, by rw [hu]; exact hM4, by rw [hu]; exact hM5, hM6⟩ hr
      obtain ⟨r, r1, r2⟩ := offer6 (pl := nI i) (w := smF (pbN tv rule pose n i L S K N E) 0 0 n) hmo (nI_m1 i (by omega))
      obtain ⟨x, o', fm', q1, q2⟩ := ih (i + 1) fu1 fu2 r.1 r.2.1 r.2.2 (nI i) l6 s6 _ (upd room' 0 (nI i)) (by omega) (by omega) (by omega) r2 (fun h => absurd rfl h) g1 g2 (upd_ne hy)
      refine ⟨x, o', fm', ?_, ?_⟩
      · rw [← q1]
        show f_X6_offerPlaces_2 _ _ _ _ _ _ _ _ _ (lq7 _ fu1) (nI i) _ _ _ _ _ _ = _
        generalize lq7 (f_X6_offerPlaces_2 pose rule painters easel number kind tv nT (if 0 = 0 then 3 else nI 0)) fu1 = kp
        unfold f_X6_offerPlaces_2 f_X6_offerPlaces_48
        rw [if_neg hle, if_neg (by decide), if_neg (by decide), w6]
        simp only [Option.bind_some]
        rw [r1, nI_1]
        rfl
      · rw [← q2]
        show f_X7_placed_16 _ _ _ _ _ _ _ _ _ (lq4 _ fu2) _ _ (nI i) _ = _
        generalize lq4 (f_X7_placed_16 rule many kinds rows tv nT (nI 0) l2 (room 0)) fu2 = kp
        unfold f_X7_placed_16
        rw [if_neg hle, if_pos hin, cl_nI (show 0 ≤ 2147483647 by omega), w7]
        simp only [Option.bind_some]
        rw [nI_1]
        exact stp7 (fun a b => kp a b (nI (i + 1)) (upd room' 0 (nI i)))
    · have w6 := whole6 (tv := tv) (pose := pose) (rule := rule) (nT := nT) (n := n) (F := F) (L := i) (S := S) (K := K) (N := N) (E := E) (face := f6) (lamp := nI i) (stove := s6) (painters := painters) (kind := kind) (number := number) (easel := easel) ⟨hO1, hO2, hi, hO4, hO5, hO6⟩ ⟨(g0 (by decide)).trans hX1, rfl, (g2 (by decide)).trans hX3, hX4, hX5⟩ hr hnT
      have w7 := whole7 (tv := tv) (pose := pose) (rule := rule) (nT := nT) (n := n) (F := F) (L := i) (S := S) (K := K) (N := N) (E := E) (many := many) (kinds := kinds) (rows := rows) (room := upd room' 1 (nI i)) ⟨hO1, hO2, hi, hO4, hO5, hO6⟩ ⟨hM1, by rw [hu]; exact hM2, by rw [hu]; rfl, by rw [hu]; exact hM4, by rw [hu]; exact hM5, hM6⟩ hr
      obtain ⟨r, r1, r2⟩ := offer6 (pl := nI i) (w := smF (pbN tv rule pose n F i S K N E) 0 0 n) hmo (nI_m1 i (by omega))
      obtain ⟨x, o', fm', q1, q2⟩ := ih (i + 1) fu1 fu2 r.1 r.2.1 r.2.2 f6 (nI i) s6 _ (upd room' 1 (nI i)) (by omega) (by omega) (by omega) r2 g0 (fun h => absurd rfl h) g2 (upd_ne hy)
      refine ⟨x, o', fm', ?_, ?_⟩
      · rw [← q1]
        show f_X6_offerPlaces_2 _ _ _ _ _ _ _ _ _ (lq7 _ fu1) (nI i) _ _ _ _ _ _ = _
        generalize lq7 (f_X6_offerPlaces_2 pose rule painters easel number kind tv nT (if 1 = 0 then 3 else nI 1)) fu1 = kp
        unfold f_X6_offerPlaces_2 f_X6_offerPlaces_48
        rw [if_neg hle, if_pos (by decide), w6]
        simp only [Option.bind_some]
        rw [r1, nI_1]
        rfl
      · rw [← q2]
        show f_X7_placed_16 _ _ _ _ _ _ _ _ _ (lq4 _ fu2) _ _ (nI i) _ = _
        generalize lq4 (f_X7_placed_16 rule many kinds rows tv nT (nI 1) l2 (room 1)) fu2 = kp
        unfold f_X7_placed_16
        rw [if_neg hle, if_pos hin, cl_nI (show 1 ≤ 2147483647 by omega), w7]
        simp only [Option.bind_some]
        rw [nI_1]
        exact stp7 (fun a b => kp a b (nI (i + 1)) (upd room' 1 (nI i)))
    · have w6 := whole6 (tv := tv) (pose := pose) (rule := rule) (nT := nT) (n := n) (F := F) (L := L) (S := i) (K := K) (N := N) (E := E) (face := f6) (lamp := l6) (stove := nI i) (painters := painters) (kind := kind) (number := number) (easel := easel) ⟨hO1, hO2, hO3, hi, hO5, hO6⟩ ⟨(g0 (by decide)).trans hX1, (g1 (by decide)).trans hX2, rfl, hX4, hX5⟩ hr hnT
      have w7 := whole7 (tv := tv) (pose := pose) (rule := rule) (nT := nT) (n := n) (F := F) (L := L) (S := i) (K := K) (N := N) (E := E) (many := many) (kinds := kinds) (rows := rows) (room := upd room' 2 (nI i)) ⟨hO1, hO2, hO3, hi, hO5, hO6⟩ ⟨hM1, by rw [hu]; exact hM2, by rw [hu]; exact hM3, by rw [hu]; rfl, by rw [hu]; exact hM5, hM6⟩ hr
      obtain ⟨r, r1, r2⟩ := offer6 (pl := nI i) (w := smF (pbN tv rule pose n F L i K N E) 0 0 n) hmo (nI_m1 i (by omega))
      obtain ⟨x, o', fm', q1, q2⟩ := ih (i + 1) fu1 fu2 r.1 r.2.1 r.2.2 f6 l6 (nI i) _ (upd room' 2 (nI i)) (by omega) (by omega) (by omega) r2 g0 g1 (fun h => absurd rfl h) (upd_ne hy)
      refine ⟨x, o', fm', ?_, ?_⟩
      · rw [← q1]
        show f_X6_offerPlaces_2 _ _ _ _ _ _ _ _ _ (lq7 _ fu1) (nI i) _ _ _ _ _ _ = _
        generalize lq7 (f_X6_offerPlaces_2 pose rule painters easel number kind tv nT (if 2 = 0 then 3 else nI 2)) fu1 = kp
        unfold f_X6_offerPlaces_2 f_X6_offerPlaces_48
        rw [if_neg hle, if_neg (by decide), if_pos (by decide), w6]
        simp only [Option.bind_some]
        rw [r1, nI_1]
        rfl
      · rw [← q2]
        show f_X7_placed_16 _ _ _ _ _ _ _ _ _ (lq4 _ fu2) _ _ (nI i) _ = _
        generalize lq4 (f_X7_placed_16 rule many kinds rows tv nT (nI 2) l2 (room 2)) fu2 = kp
        unfold f_X7_placed_16
        rw [if_neg hle, if_pos hin, cl_nI (show 2 ≤ 2147483647 by omega), w7]
        simp only [Option.bind_some]
        rw [nI_1]
        exact stp7 (fun a b => kp a b (nI (i + 1)) (upd room' 2 (nI i)))
theorem places67 {w : Nat} (hw : w < 3) (b : Bool) (h : RG nT n F L S K N E face lamp stove pose rule painters kind number easel had pleased many kinds rows room) :
    ∃ (x : Int32 × Int32 × Int32) (o' : Int32) (fm' : Int32 × Int32), f_X6_offerPlaces (if w = 0 then 3 else nI w) face lamp stove pose rule painters easel number kind (-1) 0 0 tv nT = some (x.1, x.2.1, x.2.2, fm'.1, fm'.2, o') ∧ f_X7_placed (nI w) 0 rule many room kinds rows tv nT = some (fm'.2, room) ∧ f_X7_placed (nI w) 1 rule many room kinds rows tv nT = some (fm'.1, room) := by
  have hin : inb (nI w) 4 = true := inb_nI (by omega) (by decide)
  obtain ⟨x, o', fm', q1, q2⟩ := place_loop (tv := tv) (l2 := 0) hw h.1 h.2.1 h.2.2.1 h.2.2.2.1 h.2.2.2.2.1 11 0 200 200 (-1) 0 0 face lamp stove (-1, 0) room (by omega) (by omega) (by omega) ⟨rfl, rfl, Or.inl ⟨rfl, rfl⟩⟩ (fun _ => rfl) (fun _ => rfl) (fun _ => rfl) (fun _ _ => rfl)
  obtain ⟨x2, o2, fm2, p1, p2⟩ := place_loop (tv := tv) (l2 := 1) hw h.1 h.2.1 h.2.2.1 h.2.2.2.1 h.2.2.2.2.1 11 0 200 200 (-1) 0 0 face lamp stove (-1, 0) room (by omega) (by omega) (by omega) ⟨rfl, rfl, Or.inl ⟨rfl, rfl⟩⟩ (fun _ => rfl) (fun _ => rfl) (fun _ => rfl) (fun _ _ => rfl)
  have e := Option.some.inj (q1.symm.trans p1)
  have e1 : fm'.1 = fm2.1 := congrArg (fun t => t.2.2.2.1) e
  refine ⟨x, o', fm', q1, ?_, ?_⟩
  · unfold f_X7_placed
    rw [if_pos hin, cl_nI (by omega)]
    exact q2
  · unfold f_X7_placed
    rw [if_pos hin, cl_nI (by omega), e1]
    exact p2
theorem A_change {a0 v0 o0 : Int32} {th : Int32 × Int32 × Int32 × Int32 × Int32 × Int32 × (Nat → Int32) × (Nat → Int32) × (Nat → Int32) × (Nat → Int32) × (Nat → Int32)} (h : RG nT n F L S K N E face lamp stove pose rule painters kind number easel had pleased many kinds rows room) :
    ∃ a v, f_X6_change l1 a0 v0 o0 th.1 th.2.1 th.2.2.1 th.2.2.2.1 th.2.2.2.2.1 th.2.2.2.2.2.1 face lamp stove pose rule painters kind th.2.2.2.2.2.2.1 number th.2.2.2.2.2.2.2.1 easel th.2.2.2.2.2.2.2.2.1 had th.2.2.2.2.2.2.2.2.2.1 pleased th.2.2.2.2.2.2.2.2.2.2 tv nT = some (a, v) ∧ f_X7_change l1 rule many room kinds rows tv nT = some (a, room, rows) := by
  have hn := h.1.1
  unfold f_X6_change f_X7_change
  rw [in7i, e0, e7]
  simp only [Option.bind_some, bz_0, decide_eq_false_iff_not]
  by_cases a : 0 ≤ l1.toInt ∧ l1.toInt ≤ 7
  · rw [if_neg (show ¬ l1 < 0 by rw [lt_i, i0]; omega), if_pos (show l1 ≤ 7 by rw [le_i, i7]; omega), if_neg (show ¬ ¬ (0 ≤ l1.toInt ∧ l1.toInt ≤ 7) from fun h => h a), take6]
    simp only [Option.bind_some, f_X0_clear]
    obtain ⟨c, hc, rfl⟩ := nn_of a.1
    rw [nI_toInt hc] at a
    obtain ⟨fm, p1, p2⟩ := pair_out (tv := tv) (l1 := nI c) h.1 h.2.1 h.2.2.1 h.2.2.2.1 h.2.2.2.2.1 n 0 200 200 (-1, smF (pbN tv rule pose n F L S K N E) 0 0 n) (by omega) (by omega) (by omega)
    have P6 : f_X6_offerPairs face lamp stove pose rule painters easel number kind (-1) 0 0 face lamp stove pose rule painters easel number kind tv nT = some (fm.1, fm.2, 1, easel) := by
      unfold f_X6_offerPairs
      rw [whole6 h.1 h.2.1 h.2.2.2.1 h.2.2.2.2.1]
      exact p1
    have P7 : f_X7_changed (nI c) rule many kinds rows room tv nT = some (if nI c = 0 then fm.1 else fm.2, rows) := by
      unfold f_X7_changed
      rw [whole7 h.1 h.2.2.1 h.2.2.2.1]
      exact p2
    obtain ⟨x0, o0, g0, z1, z2, z3⟩ := places67 (tv := tv) (w := 0) (by decide) true h
    obtain ⟨x1, o1, g1, z4, z5, z6⟩ := places67 (tv := tv) (w := 1) (by decide) true h
    obtain ⟨x2, o2, g2, z7, z8, z9⟩ := places67 (tv := tv) (w := 2) (by decide) true h
    have z1' : f_X6_offerPlaces 3 face lamp stove pose rule painters easel number kind (-1) 0 0 tv nT = some (x0.1, x0.2.1, x0.2.2, g0.1, g0.2, o0) := z1
    have z4' : f_X6_offerPlaces 1 face lamp stove pose rule painters easel number kind (-1) 0 0 tv nT = some (x1.1, x1.2.1, x1.2.2, g1.1, g1.2, o1) := z4
    have z7' : f_X6_offerPlaces 2 face lamp stove pose rule painters easel number kind (-1) 0 0 tv nT = some (x2.1, x2.2.1, x2.2.2, g2.1, g2.2, o2) := z7
    have z2' : f_X7_placed 0 0 rule many room kinds rows tv nT = some (g0.2, room) := z2
    have z3' : f_X7_placed 0 1 rule many room kinds rows tv nT = some (g0.1, room) := z3
    have z5' : f_X7_placed 1 0 rule many room kinds rows tv nT = some (g1.2, room) := z5
    have z6' : f_X7_placed 1 1 rule many room kinds rows tv nT = some (g1.1, room) := z6
    have z8' : f_X7_placed 2 0 rule many room kinds rows tv nT = some (g2.2, room) := z8
    have z9' : f_X7_placed 2 1 rule many room kinds rows tv nT = some (g2.1, room) := z9
    unfold f_X7_change_49
    rw [P6, P7]
    rcases (show c = 0 ∨ c = 1 ∨ c = 2 ∨ c = 3 ∨ c = 4 ∨ c = 5 ∨ c = 6 ∨ c = 7 by omega) with rfl | rfl | rfl | rfl | rfl | rfl | rfl | rfl
    · exact ⟨_, _, rfl, rfl⟩
    · exact ⟨_, _, rfl, rfl⟩
    · rw [if_pos (by decide), if_pos (by decide), if_neg (by decide), if_pos (by decide), show nI 2 / 2 = 1 from by decide, z4', z6']
      exact ⟨_, _, rfl, rfl⟩
    · rw [if_pos (by decide), if_pos (by decide), if_neg (by decide), if_neg (by decide), show nI 3 / 2 = 1 from by decide, z4', z5']
      exact ⟨_, _, rfl, rfl⟩
    · rw [if_pos (by decide), if_pos (by decide), if_pos (by decide), if_neg (by decide), if_pos (by decide), show nI 4 / 2 = 2 from by decide, z7', z9']
      exact ⟨_, _, rfl, rfl⟩
    · rw [if_pos (by decide), if_pos (by decide), if_pos (by decide), if_neg (by decide), if_neg (by decide), show nI 5 / 2 = 2 from by decide, z7', z8']
      exact ⟨_, _, rfl, rfl⟩
    · rw [if_pos (by decide), if_pos (by decide), if_pos (by decide), if_pos (by decide), if_pos (by decide), show nI 6 / 2 = 3 from by decide, z1', z3']
      exact ⟨_, _, rfl, rfl⟩
    · rw [if_pos (by decide), if_pos (by decide), if_pos (by decide), if_pos (by decide), if_neg (by decide), show nI 7 / 2 = 3 from by decide, z1', z2']
      exact ⟨_, _, rfl, rfl⟩
  · rw [if_pos a]
    by_cases b1 : l1 < 0
    · rw [if_pos b1]; exact ⟨_, _, rfl, rfl⟩
    · rw [if_neg b1]
      rw [lt_i, i0] at b1
      rw [if_neg (show ¬ l1 ≤ 7 by rw [le_i, i7]; omega)]; exact ⟨_, _, rfl, rfl⟩
end
