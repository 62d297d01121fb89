/-! ## ring -/
section
variable {tv : Int32 → Int32 → Int32 → Int32 → Int32 → Int32 → Int32 → Int32 → Int32} {nT n F L S m : Nat} {K N E : Nat → Nat} {face lamp stove pose rule painters many fw pw l1 l2 l3 l4 : Int32} {kind number easel had pleased kinds rows room now gained was : Nat → Int32}
theorem most_loop (hO : OKr n F L S K N E) (hX : RX n F L S K N E face lamp stove painters kind number easel) (hM : RM n F L S K N E pose many kinds rows room) (hr : inb rule nT = true) (hnT : nT ≤ 6) :
    ∀ (k i fu1 fu2 : Nat) (a v o : Int32), i + k = n → k < fu1 → k < fu2 → ((o = 0 ∧ a = -1) ∨ (o = 1 ∧ ∃ q, q < n ∧ a = nI q ∧ v = pbN tv rule pose n F L S K N E q)) →
      ∃ r x, lq4 (f_X6_mostPleased_9 face lamp stove pose rule painters easel number kind tv nT) fu1 (nI i) a v o = some (r, x) ∧ lq2 (f_X7_mostWho_4 rule many kinds rows room tv nT) fu2 a (nI i) = some r := by
  have hn := hO.1
  intro k
  induction k with
  | zero =>
    intro i fu1 fu2 a v o h1 hf1 hf2 ho
    obtain ⟨fu1, rfl⟩ : ∃ g, fu1 = g + 1 := ⟨fu1 - 1, by omega⟩
    obtain ⟨fu2, rfl⟩ : ∃ g, fu2 = g + 1 := ⟨fu2 - 1, by omega⟩
    refine ⟨a, (a, v, o), ?_, ?_⟩
    · show f_X6_mostPleased_9 _ _ _ _ _ _ _ _ _ _ _ (lq4 _ fu1) (nI i) _ _ _ = _
      unfold f_X6_mostPleased_9
      rw [if_pos (by rw [hX.2.2.2.1, le_nI] <;> omega)]
    · show f_X7_mostWho_4 _ _ _ _ _ _ _ (lq2 _ fu2) _ (nI i) = _
      unfold f_X7_mostWho_4
      rw [if_pos (by rw [hM.1, le_nI] <;> omega)]
  | succ k ih =>
    intro i fu1 fu2 a v o h1 hf1 hf2 ho
    obtain ⟨fu1, rfl⟩ : ∃ g, fu1 = g + 1 := ⟨fu1 - 1, by omega⟩
    obtain ⟨fu2, rfl⟩ : ∃ g, fu2 = g + 1 := ⟨fu2 - 1, by omega⟩
    have p6 := PB6 (tv := tv) (pose := pose) (p := i) hO hX (by omega) hr hnT
    have p7 := PB7 (tv := tv) (p := i) hO hM (by omega) hr
    have hle6 : ¬ painters ≤ nI i := by rw [hX.2.2.2.1, le_nI] <;> omega
    have hle7 : ¬ many ≤ nI i := by rw [hM.1, le_nI] <;> omega
    rcases ho with ⟨rfl, rfl⟩ | ⟨rfl, q, hq, rfl, rfl⟩
    · obtain ⟨r, x, q1, q2⟩ := ih (i + 1) fu1 fu2 (nI i) (pbN tv rule pose n F L S K N E i) 1 (by omega) (by omega) (by omega) (Or.inr ⟨rfl, i, by omega, rfl, rfl⟩)
      refine ⟨r, x, ?_, ?_⟩
      · rw [← q1]
        show f_X6_mostPleased_9 _ _ _ _ _ _ _ _ _ _ _ (lq4 _ fu1) (nI i) _ _ _ = _
        generalize lq4 (f_X6_mostPleased_9 face lamp stove pose rule painters easel number kind tv nT) fu1 = kp
        unfold f_X6_mostPleased_9 f_X0_offer
        rw [if_neg hle6, p6]
        simp only [Option.bind_some]
        rw [if_pos trivial, nI_1]
        rfl
      · rw [← q2]
        show f_X7_mostWho_4 _ _ _ _ _ _ _ (lq2 _ fu2) _ (nI i) = _
        generalize lq2 (f_X7_mostWho_4 rule many kinds rows room tv nT) fu2 = kp
        unfold f_X7_mostWho_4
        rw [if_neg hle7, if_pos rfl, nI_1]
    · have p7q := PB7 (tv := tv) (p := q) hO hM (by omega) hr
      by_cases c : pbN tv rule pose n F L S K N E i ≤ pbN tv rule pose n F L S K N E q
      · obtain ⟨r, x, q1, q2⟩ := ih (i + 1) fu1 fu2 (nI q) (pbN tv rule pose n F L S K N E q) 1 (by omega) (by omega) (by omega) (Or.inr ⟨rfl, q, by omega, rfl, rfl⟩)
        refine ⟨r, x, ?_, ?_⟩
        · rw [← q1]
          show f_X6_mostPleased_9 _ _ _ _ _ _ _ _ _ _ _ (lq4 _ fu1) (nI i) _ _ _ = _
          generalize lq4 (f_X6_mostPleased_9 face lamp stove pose rule painters easel number kind tv nT) fu1 = kp
          unfold f_X6_mostPleased_9 f_X0_offer
          rw [if_neg hle6, p6]
          simp only [Option.bind_some]
          rw [if_neg (show ¬ (1 : Int32) = 0 from by decide), if_pos c, nI_1]
          rfl
        · rw [← q2]
          show f_X7_mostWho_4 _ _ _ _ _ _ _ (lq2 _ fu2) _ (nI i) = _
          generalize lq2 (f_X7_mostWho_4 rule many kinds rows room tv nT) fu2 = kp
          unfold f_X7_mostWho_4
          rw [if_neg hle7, if_neg (nI_m1 q (by omega)), p7, p7q]
          simp only [Option.bind_some]
          rw [if_pos c, nI_1]
      · obtain ⟨r, x, q1, q2⟩ := ih (i + 1) fu1 fu2 (nI i) (pbN tv rule pose n F L S K N E i) 1 (by omega) (by omega) (by omega) (Or.inr ⟨rfl, i, by omega, rfl, rfl⟩)
        refine ⟨r, x, ?_, ?_⟩
        · rw [← q1]
          show f_X6_mostPleased_9 _ _ _ _ _ _ _ _ _ _ _ (lq4 _ fu1) (nI i) _ _ _ = _
          generalize lq4 (f_X6_mostPleased_9 face lamp stove pose rule painters easel number kind tv nT) fu1 = kp
          unfold f_X6_mostPleased_9 f_X0_offer
          rw [if_neg hle6, p6]
          simp only [Option.bind_some]
          rw [if_neg (show ¬ (1 : Int32) = 0 from by decide), if_neg c, nI_1]
          rfl
        · rw [← q2]
          show f_X7_mostWho_4 _ _ _ _ _ _ _ (lq2 _ fu2) _ (nI i) = _
          generalize lq2 (f_X7_mostWho_4 rule many kinds rows room tv nT) fu2 = kp
          unfold f_X7_mostWho_4
          rw [if_neg hle7, if_neg (nI_m1 q (by omega)), p7, p7q]
          simp only [Option.bind_some]
          rw [if_neg c, nI_1]
/-- the least, told by its contrary -/
def mw (a v o f m : Int32) : Prop := a = f ∧ ((o = 0 ∧ f = -1) ∨ (o = 1 ∧ f ≠ -1 ∧ v = -m ∧ -198 ≤ m.toInt ∧ m.toInt ≤ 297))
theorem worst_loop (hO : OKr n F L S K N E) (hX : RX n F L S K N E face lamp stove painters kind number easel) (hM : RM n F L S K N E pose many kinds rows room) (hr : inb rule nT = true) (hnT : nT ≤ 6) (hp : 0 < n) :
    ∀ (k i fu1 fu2 : Nat) (a v o f m : Int32) (easel' rows' : Nat → Int32), i + k = 11 → k < fu1 → k < fu2 → mw a v o f m → (∀ j, j ≠ 0 → easel' j = easel j) → (∀ j, j ≠ 1 → rows' j = rows j) →
      ∃ r x, lq5 (f_X6_worst_20 face lamp stove pose rule painters painters kind number easel had pleased tv nT) fu1 (nI i) a v o easel' = some (r, x) ∧ lq4 (f_X7_worstEasel_28 rule many kinds room tv nT (FMs E 2047 0 n) (nI (E 0))) fu2 f m (nI i) rows' = some (r, rows) := by
  have hn := hO.1
  have hE : ∀ p, p < n → E p < 11 := fun p hp => (hO.2.2.2.2.2 p hp).2.2
  have he : ∀ p, p < n → easel p = nI (E p) := fun p hp => (hX.2.2.2.2 p hp).2.2
  have hhas : f_X2_has 0 painters = some (bz true) := by
    rw [hX.2.2.2.1, has6 _ hn, i0, decide_eq_true (show (0 : Int) ≤ 0 ∧ (0 : Int) < n by omega)]
  intro k
  induction k with
  | zero =>
    intro i fu1 fu2 a v o f m easel' rows' h1 hf1 hf2 hmo hx hy
    obtain ⟨fu1, rfl⟩ : ∃ g, fu1 = g + 1 := ⟨fu1 - 1, by omega⟩
    obtain ⟨fu2, rfl⟩ : ∃ g, fu2 = g + 1 := ⟨fu2 - 1, by omega⟩
    have hle : (11 : Int32) ≤ nI i := by rw [show (11 : Int32) = nI 11 from rfl, le_nI] <;> omega
    refine ⟨a, (a, v, o, face, lamp, stove, pose, rule, painters, kind, number, easel', had, pleased), ?_, ?_⟩
    · show f_X6_worst_20 _ _ _ _ _ _ _ _ _ _ _ _ _ _ (lq5 _ fu1) (nI i) _ _ _ _ = _
      unfold f_X6_worst_20
      rw [if_pos hle]
    · show f_X7_worstEasel_28 _ _ _ _ _ _ _ _ (lq4 _ fu2) _ _ (nI i) _ = _
      unfold f_X7_worstEasel_28
      rw [if_pos hle, c1, upd_back hy (hM.2.2.2.2.2 0 hp).2.2.symm, hmo.1]
  | succ k ih =>
    intro i fu1 fu2 a v o f m easel' rows' h1 hf1 hf2 hmo hx hy
    obtain ⟨fu1, rfl⟩ : ∃ g, fu1 = g + 1 := ⟨fu1 - 1, by omega⟩
    obtain ⟨fu2, rfl⟩ : ∃ g, fu2 = g + 1 := ⟨fu2 - 1, by omega⟩
    have hle : ¬ (11 : Int32) ≤ nI i := by rw [show (11 : Int32) = nI 11 from rfl, le_nI] <;> omega
    have hms : f_X2_isFree (nI i) painters easel = some (bz (frE n E i)) := by
      rw [hX.2.2.2.1, isFree6 hn he hE]
      congr 2
      rw [nI_toInt (by omega), decide_eq_true (show 0 ≤ (i : Int) ∧ (i : Int) < 11 by omega), Bool.true_and, Int.toNat_natCast]
    have hfo := FM_test (e := i) hE (by omega)
    by_cases hc : frE n E i = true
    · have hO' := OK_up (p := 0) hO (show i < 11 by omega) (fun q hq _ => frE_iff.mp hc q hq)
      have w6 := PB6 (tv := tv) (pose := pose) (p := 0) hO' (RX_up (p := 0) (e := i) hX hx) hp hr hnT
      have w7 := PB7 (tv := tv) (p := 0) hO' (RM_up (p := 0) (e := i) hM hy) hp hr
      have hbd := pbN_bd (tv := tv) (rule := rule) (pose := pose) (n := n) (F := F) (L := L) (S := S) (K := K) (N := N) (E := upE E 0 i) (p := 0)
      generalize pbN tv rule pose n F L S K N (upE E 0 i) 0 = w at w6 w7 hbd
      have hi1 := nI_m1 i (by omega)
      have step : ∃ r f' m', f_X0_offer (nI i) (-w) a v o = some r ∧ mw r.1 r.2.1 r.2.2 f' m' ∧ ∀ kp : Int32 → Int32 → Option (Int32 × (Nat → Int32)), (if f = (-1) then kp (nI i) w else if m ≤ w then kp f m else kp (nI i) w) = kp f' m' := by
        obtain ⟨rfl, ho⟩ := hmo
        unfold f_X0_offer
        rcases ho with ⟨rfl, rfl⟩ | ⟨rfl, hf, rfl, hb1, hb2⟩
        · refine ⟨_, nI i, w, rfl, ⟨rfl, Or.inr ⟨rfl, hi1, rfl, hbd.1, hbd.2⟩⟩, fun kp => ?_⟩
          rw [if_pos rfl]
        · have hcmp : -w ≤ -m ↔ m ≤ w := by rw [le_i, le_i, neg_i (by omega), neg_i (by omega)]; omega
          rw [if_neg (by decide)]
          by_cases c : m ≤ w
          · rw [if_pos (hcmp.mpr c)]
            refine ⟨_, a, m, rfl, ⟨rfl, Or.inr ⟨rfl, hf, rfl, hb1, hb2⟩⟩, fun kp => ?_⟩
            rw [if_neg hf, if_pos c]
          · rw [if_neg (fun h => c (hcmp.mp h))]
            refine ⟨_, nI i, w, rfl, ⟨rfl, Or.inr ⟨rfl, hi1, rfl, hbd.1, hbd.2⟩⟩, fun kp => ?_⟩
            rw [if_neg hf, if_neg c]
      obtain ⟨r, f', m', r1, r2, r3⟩ := step
      obtain ⟨r', x, q1, q2⟩ := ih (i + 1) fu1 fu2 r.1 r.2.1 r.2.2 f' m' (upd easel' 0 (nI i)) (upd rows' 1 (nI i)) (by omega) (by omega) (by omega) r2 (upd_ne hx) (upd_ne hy)
      refine ⟨r', x, ?_, ?_⟩
      · rw [← q1]
        show f_X6_worst_20 _ _ _ _ _ _ _ _ _ _ _ _ _ _ (lq5 _ fu1) (nI i) _ _ _ _ = _
        generalize lq5 (f_X6_worst_20 face lamp stove pose rule painters painters kind number easel had pleased tv nT) fu1 = kp
        unfold f_X6_worst_20
        rw [if_neg hle, hhas]
        simp only [Option.bind_some]
        rw [if_neg (by decide), hms, hc]
        simp only [Option.bind_some]
        rw [if_neg (by decide), c0, show (0 : Int32) = nI 0 from rfl, w6]
        simp only [Option.bind_some]
        rw [r1, nI_1]
        rfl
      · rw [← q2]
        show f_X7_worstEasel_28 _ _ _ _ _ _ _ _ (lq4 _ fu2) _ _ (nI i) _ = _
        generalize lq4 (f_X7_worstEasel_28 rule many kinds room tv nT (FMs E 2047 0 n) (nI (E 0))) fu2 = kp
        unfold f_X7_worstEasel_28
        have w7' : f_X7_pleasedBy 0 rule many kinds (upd rows' 1 (nI i)) room tv nT = some w := w7
        rw [if_neg hle, if_pos (hfo.mpr hc), c1, w7']
        simp only [Option.bind_some]
        rw [nI_1]
        exact r3 (fun a b => kp a b (nI (i + 1)) (upd rows' 1 (nI i)))
    · have hc' : frE n E i = false := by simpa using hc
      obtain ⟨r', x, q1, q2⟩ := ih (i + 1) fu1 fu2 a v o f m easel' rows' (by omega) (by omega) (by omega) hmo hx hy
      refine ⟨r', x, ?_, ?_⟩
      · rw [← q1]
        show f_X6_worst_20 _ _ _ _ _ _ _ _ _ _ _ _ _ _ (lq5 _ fu1) (nI i) _ _ _ _ = _
        generalize lq5 (f_X6_worst_20 face lamp stove pose rule painters painters kind number easel had pleased tv nT) fu1 = kp
        unfold f_X6_worst_20
        rw [if_neg hle, hhas]
        simp only [Option.bind_some]
        rw [if_neg (by decide), hms, hc']
        simp only [Option.bind_some]
        rw [if_pos (show bz false = 0 from rfl), nI_1]
      · rw [← q2]
        show f_X7_worstEasel_28 _ _ _ _ _ _ _ _ (lq4 _ fu2) _ _ (nI i) _ = _
        generalize lq4 (f_X7_worstEasel_28 rule many kinds room tv nT (FMs E 2047 0 n) (nI (E 0))) fu2 = kp
        unfold f_X7_worstEasel_28
        rw [if_neg hle, if_neg (fun hh => hc (hfo.mp hh)), nI_1]
theorem worst67 (h : RG nT n F L S K N E face lamp stove pose rule painters kind number easel had pleased many kinds rows room) : ∃ a v, f_X6_worst face lamp stove pose rule painters kind number easel had pleased tv nT = some (a, v) ∧ f_X7_worstEasel rule many rows kinds room tv nT = some (a, rows) := by
  have hn := h.1.1
  have hp := h.2.1.2.2.2.1
  have hmany := h.2.2.1.1
  have he7 : ∀ p, p < n → rows (4 * p + 1) = nI (E p) := fun p hp => (h.2.2.1.2.2.2.2.2 p hp).2.2
  unfold f_X6_worst f_X7_worstEasel
  rw [take6]
  by_cases h0 : n = 0
  · subst h0
    rw [if_pos (show many = 0 from hmany)]
    refine ⟨-1, (-1, 0, 0, face, lamp, stove, pose, rule, painters, kind, number, easel, had, pleased), ?_, rfl⟩
    have key : ∀ fu, lq5 (f_X6_worst_20 face lamp stove pose rule painters painters kind number easel had pleased tv nT) (fu + 1) 0 (-1) 0 0 easel = some (-1, -1, 0, 0, face, lamp, stove, pose, rule, painters, kind, number, easel, had, pleased) := by
      intro fu
      show f_X6_worst_20 _ _ _ _ _ _ _ _ _ _ _ _ _ _ (lq5 _ fu) _ _ _ _ _ = _
      unfold f_X6_worst_20
      rw [if_neg (by decide), hp, has6 _ (by decide)]
      rfl
    exact key 199
  · have hz : ¬ many = 0 := by rw [hmany, show (0 : Int32) = nI 0 from rfl, eq_nI] <;> omega
    rw [if_neg hz, show f_X7_freeSet many rows = some (FMs E 2047 0 n) from by rw [hmany]; exact free7 hn he7, show f_X7_easelOf 0 rows = some (nI (E 0)) from easelOf7 (p := 0) hn he7 (by omega)]
    exact worst_loop (tv := tv) (had := had) (pleased := pleased) h.1 h.2.1 h.2.2.1 h.2.2.2.1 h.2.2.2.2.1 (by omega) 11 0 200 200 (-1) 0 0 (-1) 0 easel rows (by omega) (by omega) (by omega) ⟨rfl, Or.inl ⟨rfl, rfl⟩⟩ (fun _ _ => rfl) (fun _ _ => rfl)
theorem A_ring {a0 v0 o0 : Int32} {th : Int32 × Int32 × Int32 × Int32 × Int32 × Int32 × (Nat → Int32) × (Nat → Int32) × (Nat → Int32) × (Nat → Int32) × (Nat → Int32)} (h : RG nT n F L S K N E face lamp stove pose rule painters kind number easel had pleased many kinds rows room) :
    ∃ a v, f_X6_ring l1 face lamp stove pose rule painters easel number kind a0 v0 o0 th.1 th.2.1 th.2.2.1 th.2.2.2.1 th.2.2.2.2.1 th.2.2.2.2.2.1 th.2.2.2.2.2.2.1 th.2.2.2.2.2.2.2.1 th.2.2.2.2.2.2.2.2.1 had th.2.2.2.2.2.2.2.2.2.1 pleased th.2.2.2.2.2.2.2.2.2.2 tv nT = some (a, v) ∧ f_X7_ring l1 rule many rows kinds room tv nT = some (a, rows) := by
  have hn := h.1.1
  have hp := h.2.1.2.2.2.1
  have hmany := h.2.2.1.1
  have he7 : ∀ p, p < n → rows (4 * p + 1) = nI (E p) := fun p hp => (h.2.2.1.2.2.2.2.2 p hp).2.2
  have he6 : ∀ p, p < n → easel p = nI (E p) := fun p hp => (h.2.1.2.2.2.2 p hp).2.2
  unfold f_X6_ring f_X7_ring
  rw [in7i, e0, e3]
  simp only [Option.bind_some, bz_0, decide_eq_false_iff_not]
  by_cases a0 : l1 = 0
  · subst a0
    rw [if_pos rfl, if_neg (by decide), if_pos rfl, whole6 h.1 h.2.1 h.2.2.2.1 h.2.2.2.2.1, whole7 h.1 h.2.2.1 h.2.2.2.1]
    exact ⟨_, _, rfl, rfl⟩
  · rw [if_neg a0]
    by_cases a1 : l1 = 1
    · subst a1
      rw [if_pos rfl, if_neg (by decide), if_neg a0, if_pos rfl]
      obtain ⟨r, x, q1, q2⟩ := most_loop (tv := tv) h.1 h.2.1 h.2.2.1 h.2.2.2.1 h.2.2.2.2.1 n 0 200 200 (-1) 0 0 (by omega) (by omega) (by omega) (Or.inl ⟨rfl, rfl⟩)
      have q1' : f_X6_mostPleased face lamp stove pose rule painters easel number kind tv nT = some (r, x) := q1
      have q2' : f_X7_mostWho rule many kinds rows room tv nT = some r := q2
      rw [q1', q2']
      exact ⟨_, _, rfl, rfl⟩
    · rw [if_neg a1]
      by_cases a2 : l1 = 2
      · subst a2
        rw [if_pos rfl, if_neg (by decide), if_neg a0, if_neg a1, if_pos rfl, show f_X2_freeEasels painters easel = some (FMs E 2047 0 n) from by rw [hp]; exact free6 hn he6, show f_X7_freeSet many rows = some (FMs E 2047 0 n) from by rw [hmany]; exact free7 hn he7]
        exact ⟨_, _, rfl, rfl⟩
      · rw [if_neg a2]
        by_cases a3 : l1 = 3
        · subst a3
          rw [if_pos rfl, if_neg (by decide), if_neg a0, if_neg a1, if_neg a2]
          obtain ⟨r, x, q1, q2⟩ := worst67 (tv := tv) h
          rw [q1, q2]
          exact ⟨_, _, rfl, rfl⟩
        · have a0' : l1.toInt ≠ 0 := fun e => a0 (iext e)
          have a1' : l1.toInt ≠ 1 := fun e => a1 (iext e)
          have a2' : l1.toInt ≠ 2 := fun e => a2 (iext e)
          have a3' : l1.toInt ≠ 3 := fun e => a3 (iext e)
          rw [if_neg a3, if_pos (by omega)]
          exact ⟨_, _, rfl, rfl⟩
end
