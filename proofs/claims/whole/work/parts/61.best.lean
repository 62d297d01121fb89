/-! ## the most of what is offered -/
def stp (pl w : Int32) (fm : Int32 × Int32) : Int32 × Int32 := if fm.1 = -1 then (pl, w) else if w ≤ fm.2 then fm else (pl, w)
def mo (a v o : Int32) (fm : Int32 × Int32) : Prop := a = fm.1 ∧ v = fm.2 ∧ ((o = 0 ∧ fm.1 = -1) ∨ (o = 1 ∧ fm.1 ≠ -1))
theorem offer6 {a v o pl w : Int32} {fm : Int32 × Int32} (h : mo a v o fm) (hp : pl ≠ -1) : ∃ r, f_X0_offer pl w a v o = some r ∧ mo r.1 r.2.1 r.2.2 (stp pl w fm) := by
  obtain ⟨rfl, rfl, h⟩ := h
  unfold f_X0_offer stp
  rcases h with ⟨rfl, h⟩ | ⟨rfl, h⟩
  · rw [if_pos rfl, if_pos h]
    exact ⟨_, rfl, rfl, rfl, Or.inr ⟨rfl, hp⟩⟩
  · rw [if_neg (by decide), if_neg h]
    by_cases c : w ≤ fm.2
    · rw [if_pos c, if_pos c]
      exact ⟨_, rfl, rfl, rfl, Or.inr ⟨rfl, h⟩⟩
    · rw [if_neg c, if_neg c]
      exact ⟨_, rfl, rfl, rfl, Or.inr ⟨rfl, hp⟩⟩
theorem stp7 {R : Type} {pl w f m : Int32} (kp : Int32 → Int32 → R) : (if f = -1 then kp pl w else if w ≤ m then kp f m else kp pl w) = kp (stp pl w (f, m)).1 (stp pl w (f, m)).2 := by
  unfold stp
  by_cases a : f = -1
  · rw [if_pos a, if_pos (show (f, m).1 = -1 from a)]
  · rw [if_neg a, if_neg (show ¬ (f, m).1 = -1 from a)]
    by_cases b : w ≤ m
    · rw [if_pos b, if_pos (show w ≤ (f, m).2 from b)]
    · rw [if_neg b, if_neg (show ¬ w ≤ (f, m).2 from b)]
def tsB (i : Nat) : Int32 := nI (100 * (i / 11) + i % 11)
theorem tsB_ne : ∀ i, i < 121 → tsB i ≠ -1 := by decide +kernel
theorem tsB_eq : ∀ i, i < 121 → (100 * (nI i / 11) + (nI i - nI i / 11 * 11)) = tsB i := by decide +kernel
theorem tsB_1 : ∀ i, i < 121 → tsB i / 100 = nI (i / 11) := by decide +kernel
theorem tsB_2 : ∀ i, i < 121 → tsB i - tsB i / 100 * 100 = nI (i % 11) := by decide +kernel
theorem tsB_ok : ∀ i, i < 121 → tsok (tsB i) = true := by decide +kernel
theorem tsB_6 : ∀ T, T < 11 → ∀ s, s < 11 → 100 * nI T + nI s = tsB (11 * T + s) := by decide +kernel
def bF (val : Nat → Int32) (fm : Int32 × Int32) (i : Nat) : Nat → Int32 × Int32
  | 0 => fm
  | k + 1 => bF val (stp (tsB i) (val i) fm) (i + 1) k
theorem bF_add (val : Nat → Int32) : ∀ (a b i : Nat) (fm : Int32 × Int32), bF val fm i (a + b) = bF val (bF val fm i a) (i + a) b := by
  intro a
  induction a with
  | zero => intro b i fm; rw [Nat.zero_add]; rfl
  | succ a ih =>
    intro b i fm
    rw [show a + 1 + b = (a + b) + 1 by omega]
    show bF val (stp (tsB i) (val i) fm) (i + 1) (a + b) = bF val (bF val (stp (tsB i) (val i) fm) (i + 1) a) (i + (a + 1)) b
    rw [ih, show i + 1 + a = i + (a + 1) by omega]
section
variable {tv : Int32 → Int32 → Int32 → Int32 → Int32 → Int32 → Int32 → Int32 → Int32} {nT n F L S m : Nat} {K N E : Nat → Nat} {face lamp stove pose rule painters many fw pw l1 l2 l3 l4 : Int32} {kind number easel had pleased kinds rows room now gained was : Nat → Int32} {val : Nat → Int32}
theorem best40 (hn : n ≤ 6) (hval : ∀ T St, T < 11 → St < 11 → ∃ v, f_X6_think (nI m) (nI T) (nI St) face lamp stove pose rule painters kind number easel had pleased tv nT = some v ∧ v.2.2.2.2.2.1 = nI n ∧ (if 2 ≤ l2 then leF v.2.2.2.2.2.2.2.2.2.2 n else smF v.2.2.2.2.2.2.2.2.2.2 0 0 n) = val (11 * T + St)) {T : Nat} (hT : T < 11) (kp : Int32 → Int32 → Int32 → Int32 → Int32 → Int32 → Int32 → Int32 → Int32 → Int32 → (Nat → Int32) → (Nat → Int32) → (Nat → Int32) → (Nat → Int32) → (Nat → Int32) → Option (Int32 × Int32 × Int32 × Int32 × Int32 × Int32 × Int32 × Int32 × Int32 × Int32 × (Nat → Int32) × (Nat → Int32) × (Nat → Int32) × (Nat → Int32) × (Nat → Int32))) :
    ∀ (k s fu : Nat) (a v o t1 t2 t3 t4 t5 t6 : Int32) (u1 u2 u3 u4 u5 : Nat → Int32) (fm : Int32 × Int32), s + k = 11 → k < fu → mo a v o fm → ∃ (a' v' o' t1' t2' t3' t4' t5' t6' : Int32) (u1' u2' u3' u4' u5' : Nat → Int32), lq15 (f_X6_best_40 kp face lamp stove pose rule painters kind number easel had pleased tv nT (nI m) l2 (nI T)) fu (nI s) a v o t1 t2 t3 t4 t5 t6 u1 u2 u3 u4 u5 = kp (nI (T + 1)) a' v' o' t1' t2' t3' t4' t5' t6' u1' u2' u3' u4' u5' ∧ mo a' v' o' (bF val fm (11 * T + s) k) := by
  intro k
  induction k with
  | zero =>
    intro s fu a v o t1 t2 t3 t4 t5 t6 u1 u2 u3 u4 u5 fm h1 h2 h3
    obtain ⟨fu, rfl⟩ : ∃ g, fu = g + 1 := ⟨fu - 1, by omega⟩
    refine ⟨a, v, o, t1, t2, t3, t4, t5, t6, u1, u2, u3, u4, u5, ?_, h3⟩
    show f_X6_best_40 _ _ _ _ _ _ _ _ _ _ _ _ _ _ _ _ _ (lq15 _ fu) (nI s) _ _ _ _ _ _ _ _ _ _ _ _ _ _ = _
    unfold f_X6_best_40
    rw [if_pos (by rw [show (11 : Int32) = nI 11 from rfl, le_nI] <;> omega), nI_1]
  | succ k ih =>
    intro s fu a v o t1 t2 t3 t4 t5 t6 u1 u2 u3 u4 u5 fm h1 h2 h3
    obtain ⟨fu, rfl⟩ : ∃ g, fu = g + 1 := ⟨fu - 1, by omega⟩
    obtain ⟨w, w1, w2, w3⟩ := hval T s hT (by omega)
    obtain ⟨r, r1, r2⟩ := offer6 (w := val (11 * T + s)) h3 (tsB_ne (11 * T + s) (by omega))
    obtain ⟨a', v', o', t1', t2', t3', t4', t5', t6', u1', u2', u3', u4', u5', q1, q2⟩ := ih (s + 1) fu r.1 r.2.1 r.2.2 w.1 w.2.1 w.2.2.1 w.2.2.2.1 w.2.2.2.2.1 w.2.2.2.2.2.1 w.2.2.2.2.2.2.1 w.2.2.2.2.2.2.2.1 w.2.2.2.2.2.2.2.2.1 w.2.2.2.2.2.2.2.2.2.1 w.2.2.2.2.2.2.2.2.2.2 _ (by omega) (by omega) r2
    refine ⟨a', v', o', t1', t2', t3', t4', t5', t6', u1', u2', u3', u4', u5', ?_, q2⟩
    show f_X6_best_40 _ _ _ _ _ _ _ _ _ _ _ _ _ _ _ _ _ (lq15 _ fu) (nI s) _ _ _ _ _ _ _ _ _ _ _ _ _ _ = _
    generalize lq15 (f_X6_best_40 kp face lamp stove pose rule painters kind number easel had pleased tv nT (nI m) l2 (nI T)) fu = kq at q1 ⊢
    unfold f_X6_best_40
    rw [if_neg (by rw [show (11 : Int32) = nI 11 from rfl, le_nI] <;> omega), w1]
    simp only [Option.bind_some]
    have s1 : f_X2_least w.2.2.2.2.2.1 w.2.2.2.2.2.2.2.2.2.2 = some (leF w.2.2.2.2.2.2.2.2.2.2 n) := by rw [w2]; exact leastV6 hn
    have s2 : f_X2_sum w.2.2.2.2.2.1 w.2.2.2.2.2.2.2.2.2.2 = some (smF w.2.2.2.2.2.2.2.2.2.2 0 0 n) := by rw [w2]; exact sum6 hn
    rw [s1, s2, tsB_6 T hT s (by omega), nI_1]
    simp only [Option.bind_some]
    by_cases c : 2 ≤ l2
    · rw [if_pos c] at w3 ⊢
      rw [w3, r1]
      exact q1
    · rw [if_neg c] at w3 ⊢
      rw [w3, r1]
      exact q1
theorem best31 (hn : n ≤ 6) (hval : ∀ T St, T < 11 → St < 11 → ∃ v, f_X6_think (nI m) (nI T) (nI St) face lamp stove pose rule painters kind number easel had pleased tv nT = some v ∧ v.2.2.2.2.2.1 = nI n ∧ (if 2 ≤ l2 then leF v.2.2.2.2.2.2.2.2.2.2 n else smF v.2.2.2.2.2.2.2.2.2.2 0 0 n) = val (11 * T + St)) :
    ∀ (k T fu : Nat) (a v o t1 t2 t3 t4 t5 t6 : Int32) (u1 u2 u3 u4 u5 : Nat → Int32) (fm : Int32 × Int32), T + k = 11 → k < fu → mo a v o fm → ∃ x, lq15 (f_X6_best_31 face lamp stove pose rule painters kind number easel had pleased tv nT (nI m) l2) fu (nI T) a v o t1 t2 t3 t4 t5 t6 u1 u2 u3 u4 u5 = some (if (l2 - l2 / 2 * 2) = 0 then (bF val fm (11 * T) (11 * k)).1 else (bF val fm (11 * T) (11 * k)).2, x) := by
  intro k
  induction k with
  | zero =>
    intro T fu a v o t1 t2 t3 t4 t5 t6 u1 u2 u3 u4 u5 fm h1 h2 h3
    obtain ⟨fu, rfl⟩ : ∃ g, fu = g + 1 := ⟨fu - 1, by omega⟩
    refine ⟨(a, v, o, t1, t2, t3, t4, t5, t6, u1, u2, u3, u4, u5), ?_⟩
    show f_X6_best_31 _ _ _ _ _ _ _ _ _ _ _ _ _ _ _ (lq15 _ fu) (nI T) _ _ _ _ _ _ _ _ _ _ _ _ _ _ = _
    unfold f_X6_best_31 f_X0_atOrValue
    rw [if_pos (by rw [show (11 : Int32) = nI 11 from rfl, le_nI] <;> omega)]
    show _ = some ((if (l2 - l2 / 2 * 2) = 0 then fm.1 else fm.2), _)
    rw [← h3.1, ← h3.2.1]
    split <;> rfl
  | succ k ih =>
    intro T fu a v o t1 t2 t3 t4 t5 t6 u1 u2 u3 u4 u5 fm h1 h2 h3
    obtain ⟨fu, rfl⟩ : ∃ g, fu = g + 1 := ⟨fu - 1, by omega⟩
    obtain ⟨a', v', o', t1', t2', t3', t4', t5', t6', u1', u2', u3', u4', u5', q1, q2⟩ := best40 hn hval (show T < 11 by omega) (lq15 (f_X6_best_31 face lamp stove pose rule painters kind number easel had pleased tv nT (nI m) l2) fu) 11 0 200 a v o t1 t2 t3 t4 t5 t6 u1 u2 u3 u4 u5 fm (by omega) (by omega) h3
    have q3 : mo a' v' o' (bF val fm (11 * T) 11) := q2
    obtain ⟨x, hx⟩ := ih (T + 1) fu a' v' o' t1' t2' t3' t4' t5' t6' u1' u2' u3' u4' u5' _ (by omega) (by omega) q3
    refine ⟨x, ?_⟩
    rw [show 11 * (k + 1) = 11 + 11 * k by omega, bF_add]
    rw [show 11 * (T + 1) = 11 * T + 11 by omega] at hx
    rw [← hx, ← q1]
    show f_X6_best_31 _ _ _ _ _ _ _ _ _ _ _ _ _ _ _ (lq15 _ fu) (nI T) _ _ _ _ _ _ _ _ _ _ _ _ _ _ = _
    generalize lq15 (f_X6_best_31 face lamp stove pose rule painters kind number easel had pleased tv nT (nI m) l2) fu = kq
    unfold f_X6_best_31
    rw [if_neg (by rw [show (11 : Int32) = nI 11 from rfl, le_nI] <;> omega)]
    rfl
theorem best7 (hval : ∀ i, i < 121 → ∀ fw pw gained was now, ∃ fw' pw' g' w' n', f_X7_run (nI m) (tsB i) (if 2 ≤ l2 then 1 else 0) rule many fw pw room gained rows was now kinds tv nT = some (val i, fw', pw', room, g', rows, w', n')) :
    ∀ (k i fu : Nat) (f mm fw pw : Int32) (gained was now : Nat → Int32), i + k = 121 → k < fu → ∃ fw' pw' g' w' n', lq10 (f_X7_best_35 rule many kinds tv nT (nI m) l2) fu f mm (nI i) fw pw room gained rows was now = some (if (l2 - l2 / 2 * 2) = 0 then (bF val (f, mm) i k).1 else (bF val (f, mm) i k).2, fw', pw', room, g', rows, w', n') := by
  intro k
  induction k with
  | zero =>
    intro i fu f mm fw pw gained was now h1 h2
    obtain ⟨fu, rfl⟩ : ∃ g, fu = g + 1 := ⟨fu - 1, by omega⟩
    refine ⟨fw, pw, gained, was, now, ?_⟩
    show f_X7_best_35 _ _ _ _ _ _ _ (lq10 _ fu) _ _ (nI i) _ _ _ _ _ _ _ = _
    unfold f_X7_best_35
    rw [if_pos (by rw [show (121 : Int32) = nI 121 from rfl, le_nI] <;> omega)]
    show _ = some ((if (l2 - l2 / 2 * 2) = 0 then f else mm), _)
    split <;> rfl
  | succ k ih =>
    intro i fu f mm fw pw gained was now h1 h2
    obtain ⟨fu, rfl⟩ : ∃ g, fu = g + 1 := ⟨fu - 1, by omega⟩
    obtain ⟨fw', pw', g', w', n', r⟩ := hval i (by omega) fw pw gained was now
    obtain ⟨fw2, pw2, g2, w2, n2, q⟩ := ih (i + 1) fu (stp (tsB i) (val i) (f, mm)).1 (stp (tsB i) (val i) (f, mm)).2 fw' pw' g' w' n' (by omega) (by omega)
    refine ⟨fw2, pw2, g2, w2, n2, ?_⟩
    show f_X7_best_35 _ _ _ _ _ _ _ (lq10 _ fu) _ _ (nI i) _ _ _ _ _ _ _ = some (if (l2 - l2 / 2 * 2) = 0 then (bF val (stp (tsB i) (val i) (f, mm)) (i + 1) k).1 else (bF val (stp (tsB i) (val i) (f, mm)) (i + 1) k).2, fw2, pw2, room, g2, rows, w2, n2)
    rw [← q]
    generalize lq10 (f_X7_best_35 rule many kinds tv nT (nI m) l2) fu = kp
    unfold f_X7_best_35 f_X7_best_72
    rw [if_neg (by rw [show (121 : Int32) = nI 121 from rfl, le_nI] <;> omega), tsB_eq i (by omega)]
    by_cases c : 2 ≤ l2
    · rw [if_pos c] at r ⊢
      rw [r]
      simp only [Option.bind_some]
      rw [nI_1]
      exact stp7 (fun a b => kp a b (nI (i + 1)) fw' pw' room g' rows w' n')
    · rw [if_neg c] at r ⊢
      rw [r]
      simp only [Option.bind_some]
      rw [nI_1]
      exact stp7 (fun a b => kp a b (nI (i + 1)) fw' pw' room g' rows w' n')
theorem A_best {a0 v0 o0 : Int32} {th : Int32 × Int32 × Int32 × Int32 × Int32 × Int32 × (Nat → Int32) × (Nat → Int32) × (Nat → Int32) × (Nat → Int32) × (Nat → Int32)} (h : RG nT n F L S K N E face lamp stove pose rule painters kind number easel had pleased many kinds rows room) :
    ∃ a v fw' pw' g' w' n', f_X6_best l1 l2 a0 v0 o0 th.1 th.2.1 th.2.2.1 th.2.2.2.1 th.2.2.2.2.1 th.2.2.2.2.2.1 face lamp stove pose rule painters kind th.2.2.2.2.2.2.1 number th.2.2.2.2.2.2.2.1 easel th.2.2.2.2.2.2.2.2.1 had th.2.2.2.2.2.2.2.2.2.1 pleased th.2.2.2.2.2.2.2.2.2.2 tv nT = some (a, v) ∧ f_X7_best l1 l2 rule many fw pw room gained rows was now kinds tv nT = some (a, fw', pw', room, g', rows, w', n') := by
  have hn := h.1.1
  have hp := h.2.1.2.2.2.1
  have hmany := h.2.2.1.1
  unfold f_X6_best f_X7_best
  simp only [in7i, Option.bind_some, bz_0, decide_eq_false_iff_not, e0, e10, e3]
  by_cases a : 0 ≤ l1.toInt ∧ l1.toInt ≤ 10
  · rw [if_neg (show ¬ l1 < 0 by rw [lt_i, i0]; omega), if_neg (show ¬ 10 < l1 by rw [lt_i, i10]; omega), if_neg (show ¬ ¬ (0 ≤ l1.toInt ∧ l1.toInt ≤ 10) from fun h => h a)]
    by_cases b : 0 ≤ l2.toInt ∧ l2.toInt ≤ 3
    · rw [if_neg (show ¬ l2 < 0 by rw [lt_i, i0]; omega), if_pos (show l2 ≤ 3 by rw [le_i, i3]; omega), if_neg (show ¬ ¬ (0 ≤ l2.toInt ∧ l2.toInt ≤ 3) from fun h => h b)]
      obtain ⟨m, hm, rfl⟩ := nn_of a.1
      rw [nI_toInt hm] at a
      let val : Nat → Int32 := fun i => match f_X6_think (nI m) (nI (i / 11)) (nI (i % 11)) face lamp stove pose rule painters kind number easel had pleased tv nT with
        | some v => if 2 ≤ l2 then leF v.2.2.2.2.2.2.2.2.2.2 n else smF v.2.2.2.2.2.2.2.2.2.2 0 0 n
        | none => 0
      have hv6 : ∀ T St, T < 11 → St < 11 → ∃ v, f_X6_think (nI m) (nI T) (nI St) face lamp stove pose rule painters kind number easel had pleased tv nT = some v ∧ v.2.2.2.2.2.1 = nI n ∧ (if 2 ≤ l2 then leF v.2.2.2.2.2.2.2.2.2.2 n else smF v.2.2.2.2.2.2.2.2.2.2 0 0 n) = val (11 * T + St) := by
        intro T St hT hSt
        obtain ⟨v, hv, hvp⟩ := think6 (tv := tv) (m := m) h hT hSt (by omega)
        refine ⟨v, hv, by rw [hvp, hp], ?_⟩
        show _ = (match f_X6_think (nI m) (nI ((11 * T + St) / 11)) (nI ((11 * T + St) % 11)) face lamp stove pose rule painters kind number easel had pleased tv nT with
          | some v => if 2 ≤ l2 then leF v.2.2.2.2.2.2.2.2.2.2 n else smF v.2.2.2.2.2.2.2.2.2.2 0 0 n
          | none => 0)
        rw [show (11 * T + St) / 11 = T by omega, show (11 * T + St) % 11 = St by omega, hv]
      have hv7 : ∀ i, i < 121 → ∀ fw pw gained was now, ∃ fw' pw' g' w' n', f_X7_run (nI m) (tsB i) (if 2 ≤ l2 then 1 else 0) rule many fw pw room gained rows was now kinds tv nT = some (val i, fw', pw', room, g', rows, w', n') := by
        intro i hi fw pw gained was now
        obtain ⟨v, hv, hvp⟩ := think6 (tv := tv) (m := m) (T := i / 11) (St := i % 11) h (by omega) (by omega) (by omega)
        have e : val i = (if 2 ≤ l2 then leF v.2.2.2.2.2.2.2.2.2.2 n else smF v.2.2.2.2.2.2.2.2.2.2 0 0 n) := by
          show (match f_X6_think (nI m) (nI (i / 11)) (nI (i % 11)) face lamp stove pose rule painters kind number easel had pleased tv nT with
            | some v => if 2 ≤ l2 then leF v.2.2.2.2.2.2.2.2.2.2 n else smF v.2.2.2.2.2.2.2.2.2.2 0 0 n
            | none => 0) = _
          rw [hv]
        rw [e]
        by_cases c : 2 ≤ l2
        · rw [if_pos c, if_pos c]
          have hk : rwok 1 n = true := by unfold rwok; rw [decide_eq_true_eq, i1]; omega
          obtain ⟨g', w', n', hr⟩ := run85 (l3 := 1) (was := was) (now := now) (gained := gained) h (tsB_1 i hi) (tsB_2 i hi) (by omega) (by omega) (show m ≤ 60 by omega) hv hk
          rw [hmany] at hr ⊢
          rw [run7g hn, if_pos ⟨by rw [nI_toInt hm]; omega, tsB_ok i hi, hk⟩, hr]
          exact ⟨_, _, _, _, _, rfl⟩
        · rw [if_neg c, if_neg c]
          have hk : rwok 0 n = true := by unfold rwok; rw [decide_eq_true_eq, i0]; omega
          obtain ⟨g', w', n', hr⟩ := run85 (l3 := 0) (was := was) (now := now) (gained := gained) h (tsB_1 i hi) (tsB_2 i hi) (by omega) (by omega) (show m ≤ 60 by omega) hv hk
          rw [hmany] at hr ⊢
          rw [run7g hn, if_pos ⟨by rw [nI_toInt hm]; omega, tsB_ok i hi, hk⟩, hr]
          exact ⟨_, _, _, _, _, rfl⟩
      obtain ⟨x, hx⟩ := best31 (l2 := l2) hn hv6 11 0 200 (-1) 0 0 th.1 th.2.1 th.2.2.1 th.2.2.2.1 th.2.2.2.2.1 th.2.2.2.2.2.1 th.2.2.2.2.2.2.1 th.2.2.2.2.2.2.2.1 th.2.2.2.2.2.2.2.2.1 th.2.2.2.2.2.2.2.2.2.1 th.2.2.2.2.2.2.2.2.2.2 (-1, 0) (by omega) (by omega) ⟨rfl, rfl, Or.inl ⟨rfl, rfl⟩⟩
      obtain ⟨fw', pw', g', w', n', hy⟩ := best7 (l2 := l2) hv7 121 0 200 (-1) 0 fw pw gained was now (by omega) (by omega)
      exact ⟨_, x, fw', pw', g', w', n', hx, hy⟩
    · rw [if_pos b]
      by_cases b1 : l2 < 0
      · rw [if_pos b1]; exact ⟨_, _, _, _, _, _, _, rfl, rfl⟩
      · rw [if_neg b1]
        rw [lt_i, i0] at b1
        rw [if_neg (show ¬ l2 ≤ 3 by rw [le_i, i3]; omega)]; exact ⟨_, _, _, _, _, _, _, rfl, rfl⟩
  · rw [if_pos a]
    by_cases b1 : l1 < 0
    · rw [if_pos b1]; exact ⟨_, _, _, _, _, _, _, rfl, rfl⟩
    · rw [if_neg b1]
      rw [lt_i, i0] at b1
      rw [if_pos (show 10 < l1 by rw [lt_i, i10]; omega)]; exact ⟨_, _, _, _, _, _, _, rfl, rfl⟩
end
