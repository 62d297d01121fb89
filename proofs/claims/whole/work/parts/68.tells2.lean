/-- the set of what could be so and tells all -/
def tF (ok : Nat → Bool) (val : Nat → Int32) (acc : Int32) (i : Nat) : Nat → Int32
  | 0 => acc
  | k + 1 => tF ok val (if ok i = true ∧ val i = -1 then acc ||| (1 <<< (nI i &&& 31)) else acc) (i + 1) k
theorem tF_add (ok : Nat → Bool) (val : Nat → Int32) : ∀ (a b i : Nat) (acc : Int32), tF ok val acc i (a + b) = tF ok val (tF ok val acc i a) (i + a) b := by
  intro a
  induction a with
  | zero => intro b i acc; rw [Nat.zero_add]; rfl
  | succ a ih =>
    intro b i acc
    rw [show a + 1 + b = (a + b) + 1 by omega]
    show tF ok val _ (i + 1) (a + b) = tF ok val (tF ok val _ (i + 1) a) (i + (a + 1)) b
    rw [ih, show i + 1 + a = i + (a + 1) by omega]
theorem tF_no {ok : Nat → Bool} (val : Nat → Int32) : ∀ (k i : Nat) (acc : Int32), (∀ j, i ≤ j → j < i + k → ok j = false) → tF ok val acc i k = acc := by
  intro k
  induction k with
  | zero => intro i acc _; rfl
  | succ k ih =>
    intro i acc h
    show tF ok val (if ok i = true ∧ val i = -1 then acc ||| (1 <<< (nI i &&& 31)) else acc) (i + 1) k = acc
    rw [if_neg (by rw [h i (by omega) (by omega)]; exact fun h => absurd h.1 (by decide))]
    exact ih (i + 1) acc (fun j a b => h j (by omega) (by omega))
section
variable {tv : Int32 → Int32 → Int32 → Int32 → Int32 → Int32 → Int32 → Int32 → Int32} {nT n F L S s z q w lst : Nat} {K N E : Nat → Nat} {face lamp stove pose rule painters many fw pw l1 l2 l3 l4 ts wasv opn : Int32} {kind number easel had pleased kinds rows rows0 room room0 now gained was it iT so ss its its0 val : Nat → Int32} {ok : Nat → Bool}
theorem tells6 (H6 : ∀ v, v < 11 → ∃ f l st r k nu e, f_X6_suppose (nI w) (nI q) (nI v) (nI nT) face lamp stove rule kind number easel painters easel = some (bz (ok v), f, l, st, r, k, nu, e) ∧ (ok v = true → ∃ x, f_X6_firstOtherwise (nI q) ts (nI z) f l st pose r painters e nu k it tv nT = some (val v, x))) :
    ∀ (k i fu : Nat) (acc t1 t2 t3 t4 t5 t6 : Int32) (u1 u2 u3 u4 u5 : Nat → Int32), i + k = 11 → k < fu → ∃ x, lq13 (f_X6_tells_103 (nI nT) face lamp stove pose rule painters (nI z) kind number easel had pleased it tv nT (nI q) ts (nI w)) fu acc (nI i) t1 t2 t3 t4 t5 t6 u1 u2 u3 u4 u5 = some (tF ok val acc i k, x) := by
  intro k
  induction k with
  | zero =>
    intro i fu acc t1 t2 t3 t4 t5 t6 u1 u2 u3 u4 u5 h1 h2
    obtain ⟨fu, rfl⟩ : ∃ g, fu = g + 1 := ⟨fu - 1, by omega⟩
    refine ⟨(t1, t2, t3, t4, t5, t6, u1, u2, u3, u4, u5), ?_⟩
    show f_X6_tells_103 _ _ _ _ _ _ _ _ _ _ _ _ _ _ _ _ _ _ _ (lq13 _ fu) _ (nI i) _ _ _ _ _ _ _ _ _ _ _ = _
    unfold f_X6_tells_103
    rw [if_pos (by rw [show (11 : Int32) = nI 11 from rfl, le_nI] <;> omega)]
    rfl
  | succ k ih =>
    intro i fu acc t1 t2 t3 t4 t5 t6 u1 u2 u3 u4 u5 h1 h2
    obtain ⟨fu, rfl⟩ : ∃ g, fu = g + 1 := ⟨fu - 1, by omega⟩
    obtain ⟨f, l, st, r, kd, nu, e, y1, y2⟩ := H6 i (by omega)
    show ∃ x, f_X6_tells_103 _ _ _ _ _ _ _ _ _ _ _ _ _ _ _ _ _ _ _ (lq13 _ fu) _ (nI i) _ _ _ _ _ _ _ _ _ _ _ = some (tF ok val (if ok i = true ∧ val i = -1 then acc ||| (1 <<< (nI i &&& 31)) else acc) (i + 1) k, x)
    have ih' := ih (i + 1) fu
    generalize lq13 (f_X6_tells_103 (nI nT) face lamp stove pose rule painters (nI z) kind number easel had pleased it tv nT (nI q) ts (nI w)) fu = kp at ih' ⊢
    unfold f_X6_tells_103
    rw [if_neg (by rw [show (11 : Int32) = nI 11 from rfl, le_nI] <;> omega), take6]
    simp only [Option.bind_some]
    rw [y1]
    simp only [Option.bind_some]
    by_cases c : ok i = true
    · obtain ⟨x, hx⟩ := y2 c
      rw [c, if_neg (show ¬ bz true = 0 by decide), hx]
      simp only [Option.bind_some]
      by_cases d : val i = -1
      · rw [if_pos d, if_pos ⟨trivial, d⟩, nI_1]
        exact ih' _ _ _ _ _ _ _ _ _ _ _ _ (by omega) (by omega)
      · rw [if_neg d, if_neg (fun h => d h.2), nI_1]
        exact ih' _ _ _ _ _ _ _ _ _ _ _ _ (by omega) (by omega)
    · have c' : ok i = false := by simpa using c
      rw [c', if_pos (show bz false = 0 from rfl), if_neg (fun h => absurd h.1 (by decide)), nI_1]
      exact ih' _ _ _ _ _ _ _ _ _ _ _ _ (by omega) (by omega)
theorem or0 : ∀ i, i < 32 → (0 : Int32) <<< (nI i &&& 31) = 0 := by decide +kernel
theorem tells7 (h1w : 1 ≤ w) (h7w : w ≤ 7) (hq : q < 6) (hl : lst ≤ 10) (hw : layF w q wasv (rule, kinds, rows, room) = (rule, kinds, rows, room))
    (Hop : ∀ v, v ≤ lst → (((opn >>> (nI v &&& 31)) &&& 1) = 1 ↔ ok v = true))
    (H7 : ∀ v, v < 11 → ok v = true → ∀ gained was now, ∃ fw pw g' w' n', f_X7_firstOther (nI s) (nI q) ts (layF w q (nI v) (rule, kinds, rows, room)).1 many (layF w q (nI v) (rule, kinds, rows, room)).2.2.2 gained (layF w q (nI v) (rule, kinds, rows, room)).2.2.1 was ss (layF w q (nI v) (rule, kinds, rows, room)).2.1 its now tv nT = some (val v, fw, pw, (layF w q (nI v) (rule, kinds, rows, room)).2.2.2, g', (layF w q (nI v) (rule, kinds, rows, room)).2.2.1, w', n')) :
    ∀ (k i fu : Nat) (acc u fw pw : Int32) (gained was now : Nat → Int32), i + k = lst + 1 → k < fu → ∃ fw' pw' g' w' n', lq11 (f_X7_tells_220 many ss its tv nT (nI s) (nI q) ts (nI (sortW w)) wasv (nI lst) opn) fu acc (nI i) (layF w q u (rule, kinds, rows, room)).1 fw pw (layF w q u (rule, kinds, rows, room)).2.2.1 (layF w q u (rule, kinds, rows, room)).2.1 (layF w q u (rule, kinds, rows, room)).2.2.2 gained was now = some (tF ok val acc i k, rule, fw', pw', rows, kinds, room, g', w', n') := by
  intro k
  induction k with
  | zero =>
    intro i fu acc u fw pw gained was now h1 h2
    obtain ⟨fu, rfl⟩ : ∃ g, fu = g + 1 := ⟨fu - 1, by omega⟩
    refine ⟨fw, pw, gained, was, now, ?_⟩
    show f_X7_tells_220 _ _ _ _ _ _ _ _ _ _ _ _ (lq11 _ fu) _ (nI i) _ _ _ _ _ _ _ _ _ = _
    unfold f_X7_tells_220
    rw [if_pos (by rw [lt_i, nI_toInt (by omega), nI_toInt (by omega)]; omega), lays7 h1w h7w hq, layF2, hw]
    rfl
  | succ k ih =>
    intro i fu acc u fw pw gained was now h1 h2
    obtain ⟨fu, rfl⟩ : ∃ g, fu = g + 1 := ⟨fu - 1, by omega⟩
    show ∃ fw' pw' g' w' n', f_X7_tells_220 _ _ _ _ _ _ _ _ _ _ _ _ (lq11 _ fu) _ (nI i) _ _ _ _ _ _ _ _ _ = some (tF ok val (if ok i = true ∧ val i = -1 then acc ||| (1 <<< (nI i &&& 31)) else acc) (i + 1) k, rule, fw', pw', rows, kinds, room, g', w', n')
    have ih' := ih (i + 1) fu
    generalize lq11 (f_X7_tells_220 many ss its tv nT (nI s) (nI q) ts (nI (sortW w)) wasv (nI lst) opn) fu = kp at ih' ⊢
    unfold f_X7_tells_220
    rw [if_neg (by rw [lt_i, nI_toInt (by omega), nI_toInt (by omega)]; omega)]
    by_cases c : ok i = true
    · rw [if_pos ((Hop i (by omega)).mpr c), lays7 h1w h7w hq, layF2]
      simp only [Option.bind_some]
      obtain ⟨fw1, pw1, g1, w1, n1, hx⟩ := H7 i (by omega) c gained was now
      rw [hx]
      simp only [Option.bind_some]
      by_cases d : val i = -1
      · rw [if_pos d, if_pos ⟨c, d⟩, nI_1]
        exact ih' _ _ _ _ _ _ _ (by omega) (by omega)
      · rw [if_neg d, if_neg (fun h => d h.2), nI_1, or0 i (by omega), Int32.or_zero]
        exact ih' _ _ _ _ _ _ _ (by omega) (by omega)
    · rw [if_neg (fun h => c ((Hop i (by omega)).mp h)), if_neg (fun h => c h.1), nI_1]
      exact ih' _ _ _ _ _ _ _ (by omega) (by omega)
/-- what was so of what is supposed -/
def wasW (w q : Nat) (rule : Int32) (kinds rows room : Nat → Int32) : Int32 := if w = 1 then kinds q else if w = 2 then rows (4 * q) else if w = 3 then rows (4 * q + 1) else if w = 4 then room 0 else if w = 5 then room 1 else if w = 6 then room 2 else rule
theorem layW (h1 : 1 ≤ w) (h7 : w ≤ 7) : layF w q (wasW w q rule kinds rows room) (rule, kinds, rows, room) = (rule, kinds, rows, room) := by
  rcases (show w = 1 ∨ w = 2 ∨ w = 3 ∨ w = 4 ∨ w = 5 ∨ w = 6 ∨ w = 7 by omega) with rfl | rfl | rfl | rfl | rfl | rfl | rfl
  · show (rule, upd kinds q (kinds q), rows, room) = _; rw [upd_same]
  · show (rule, kinds, upd rows (4 * q) (rows (4 * q)), room) = _; rw [upd_same]
  · show (rule, kinds, upd rows (4 * q + 1) (rows (4 * q + 1)), room) = _; rw [upd_same]
  · show (rule, kinds, rows, upd room 0 (room 0)) = _; rw [upd_same]
  · show (rule, kinds, rows, upd room 1 (room 1)) = _; rw [upd_same]
  · show (rule, kinds, rows, upd room 2 (room 2)) = _; rw [upd_same]
  · rfl
theorem toldW (h1 : 1 ≤ w) (h7 : w ≤ 6) (hq : q < n) (hn : n ≤ 6) : f_X7_told (nI q) (nI (sortW w)) rule (nI n) rows kinds room tv nT = some (wasW w q rule kinds rows room) := by
  obtain ⟨y0, z0⟩ := ix0 (show q < 6 by omega)
  obtain ⟨y1, z1⟩ := ix1 (show q < 6 by omega)
  have e4 : ∀ q, q < 6 → 4 * nI q + nI 4 - 4 = 4 * nI q := by decide +kernel
  have e5 : ∀ q, q < 6 → 4 * nI q + nI 5 - 4 = 4 * nI q + 1 := by decide +kernel
  unfold f_X7_told f_X7_told_28
  rw [isOne7 _ hn, nI_toInt (show q < 2 ^ 31 by omega), decide_eq_true (show 0 ≤ (q : Int) ∧ (q : Int) < n by omega)]
  rcases (show w = 1 ∨ w = 2 ∨ w = 3 ∨ w = 4 ∨ w = 5 ∨ w = 6 by omega) with rfl | rfl | rfl | rfl | rfl | rfl
  · rw [show sortW 1 = 6 from rfl, in7i]
    simp only [Option.bind_some]
    rw [if_neg (by decide), if_neg (by decide), if_neg (by decide), if_neg (by decide), if_pos (by decide), if_pos (by decide), if_pos (inb_nI (by omega) (by decide)), cl_nI (by omega)]
    rfl
  · rw [show sortW 2 = 4 from rfl, in7i]
    simp only [Option.bind_some]
    rw [if_neg (by decide), if_neg (by decide), if_neg (by decide), if_neg (by decide), if_pos (by decide), if_neg (by decide), e4 q (by omega), if_pos y0, z0]
    rfl
  · rw [show sortW 3 = 5 from rfl, in7i]
    simp only [Option.bind_some]
    rw [if_neg (by decide), if_neg (by decide), if_neg (by decide), if_neg (by decide), if_pos (by decide), if_neg (by decide), e5 q (by omega), if_pos y1, z1]
    rfl
  · rw [show sortW 4 = 0 from rfl, in7i]; rfl
  · rw [show sortW 5 = 1 from rfl, in7i]; rfl
  · rw [show sortW 6 = 2 from rfl, in7i]; rfl
theorem b2047s : ∀ v, v < 11 → (((2047 : Int32) >>> (nI v &&& 31)) &&& 1) = 1 := by decide +kernel
/-- all of tells but for what = 0 -/
theorem tellsW {T St : Nat} (hts1 : ts / 100 = nI T) (hts2 : ts - ts / 100 * 100 = nI St) (hO : OKr n F L S K N E) (hX : RX n F L S K N E face lamp stove painters kind number easel) (hM : RM n F L S K N E pose many kinds rows room) (hr : inb rule nT = true) (hnT : nT ≤ 6) (hT : T < 11) (hSt : St < 11) (hq : q < n) (hs : s < 4) (hz : z ≤ 40) (hss : ss s = nI z) (hit : ∀ j, j < z → it j = its (40 * s + j)) (h1 : 1 ≤ w) (h7 : w ≤ 7) (t1 t2 t3 t4 t5 t6 : Int32) (u1 u2 u3 u4 u5 : Nat → Int32) :
    ∃ a x fw' pw' g' w' n', lq13 (f_X6_tells_103 (nI nT) face lamp stove pose rule painters (nI z) kind number easel had pleased it tv nT (nI q) ts (nI w)) 200 0 (nI 0) t1 t2 t3 t4 t5 t6 u1 u2 u3 u4 u5 = some (a, x) ∧ f_X7_tells_124 (nI nT) rule many fw pw ss rows kinds room gained was its now tv nT (nI s) (nI q) ts (nI (sortW w)) = some (a, rule, fw', pw', rows, kinds, room, g', w', n') := by
  have hn := hO.1
  have hE : ∀ p, p < n → E p < 11 := fun p hp => (hO.2.2.2.2.2 p hp).2.2
  let val : Nat → Int32 := fun v => match f_X6_suppose (nI w) (nI q) (nI v) (nI nT) face lamp stove rule kind number easel painters easel with
    | some y => (match f_X6_firstOtherwise (nI q) ts (nI z) y.2.1 y.2.2.1 y.2.2.2.1 pose y.2.2.2.2.1 painters y.2.2.2.2.2.2.2 y.2.2.2.2.2.2.1 y.2.2.2.2.2.1 it tv nT with
      | some x => x.1
      | none => 0)
    | none => 0
  have hval : ∀ v f l st r k nu e x a b, f_X6_suppose (nI w) (nI q) (nI v) (nI nT) face lamp stove rule kind number easel painters easel = some (b, f, l, st, r, k, nu, e) → f_X6_firstOtherwise (nI q) ts (nI z) f l st pose r painters e nu k it tv nT = some (a, x) → val v = a := by
    intro v f l st r k nu e x a b y1 y2
    show (match f_X6_suppose (nI w) (nI q) (nI v) (nI nT) face lamp stove rule kind number easel painters easel with
      | some y => (match f_X6_firstOtherwise (nI q) ts (nI z) y.2.1 y.2.2.1 y.2.2.2.1 pose y.2.2.2.2.1 painters y.2.2.2.2.2.2.2 y.2.2.2.2.2.2.1 y.2.2.2.2.2.1 it tv nT with
        | some x => x.1
        | none => 0)
      | none => 0) = a
    rw [y1]
    simp only []
    rw [y2]
  have H6 : ∀ v, v < 11 → ∃ f l st r k nu e, f_X6_suppose (nI w) (nI q) (nI v) (nI nT) face lamp stove rule kind number easel painters easel = some (bz (okW n nT E w q v), f, l, st, r, k, nu, e) ∧ (okW n nT E w q v = true → ∃ x, f_X6_firstOtherwise (nI q) ts (nI z) f l st pose r painters e nu k it tv nT = some (val v, x)) := by
    intro v hv
    obtain ⟨f, l, st, r, k, nu, e, y1, y2⟩ := sup67 hO hX hM hr hnT hq h1 h7 hv
    refine ⟨f, l, st, r, k, nu, e, y1, fun hk => ?_⟩
    obtain ⟨y3, y4, F', L', S', K', N', E', z1, z2, z3⟩ := y2 hk
    obtain ⟨a, x, g', w', n', q1, q2⟩ := first67 (tv := tv) (gained := gained) (was := was) (now := now) hts1 hts2 z1 z2 z3 y4 hnT hT hSt hq hs hz hss hit
    exact ⟨x, by rw [hval v f l st r k nu e x a _ y1 q1]; exact q1⟩
  have H7 : ∀ v, v < 11 → okW n nT E w q v = true → ∀ gained was now, ∃ fw pw g' w' n', f_X7_firstOther (nI s) (nI q) ts (layF w q (nI v) (rule, kinds, rows, room)).1 many (layF w q (nI v) (rule, kinds, rows, room)).2.2.2 gained (layF w q (nI v) (rule, kinds, rows, room)).2.2.1 was ss (layF w q (nI v) (rule, kinds, rows, room)).2.1 its now tv nT = some (val v, fw, pw, (layF w q (nI v) (rule, kinds, rows, room)).2.2.2, g', (layF w q (nI v) (rule, kinds, rows, room)).2.2.1, w', n') := by
    intro v hv hk gained was now
    obtain ⟨f, l, st, r, k, nu, e, y1, y2⟩ := sup67 hO hX hM hr hnT hq h1 h7 hv
    obtain ⟨y3, y4, F', L', S', K', N', E', z1, z2, z3⟩ := y2 hk
    obtain ⟨a, x, g', w', n', q1, q2⟩ := first67 (tv := tv) (gained := gained) (was := was) (now := now) hts1 hts2 z1 z2 z3 y4 hnT hT hSt hq hs hz hss hit
    rw [← y3, hval v f l st r k nu e x a _ y1 q1]
    exact ⟨_, _, g', w', n', q2⟩
  obtain ⟨x, hx⟩ := tells6 (tv := tv) (had := had) (pleased := pleased) H6 11 0 200 0 t1 t2 t3 t4 t5 t6 u1 u2 u3 u4 u5 (by omega) (by omega)
  have key : ∀ (lst : Nat) (opn : Int32), lst ≤ 10 → (∀ v, v ≤ lst → (((opn >>> (nI v &&& 31)) &&& 1) = 1 ↔ okW n nT E w q v = true)) → (∀ v, lst < v → v < 11 → okW n nT E w q v = false) → ∃ fw' pw' g' w' n', lq11 (f_X7_tells_220 many ss its tv nT (nI s) (nI q) ts (nI (sortW w)) (wasW w q rule kinds rows room) (nI lst) opn) 200 0 0 rule fw pw rows kinds room gained was now = some (tF (okW n nT E w q) val 0 0 11, rule, fw', pw', rows, kinds, room, g', w', n') := by
    intro lst opn hl Hop Hno
    have := tells7 (tv := tv) h1 h7 (show q < 6 by omega) hl (layW h1 h7) Hop H7 (lst + 1) 0 200 0 (wasW w q rule kinds rows room) fw pw gained was now (by omega) (by omega)
    rw [layW h1 h7] at this
    obtain ⟨fw', pw', g', w', n', r1⟩ := this
    refine ⟨fw', pw', g', w', n', ?_⟩
    rw [show (11 : Nat) = (lst + 1) + (10 - lst) by omega, tF_add, tF_no val (10 - lst) (0 + (lst + 1)) _ (fun j a b => Hno j (by omega) (by omega))]
    exact r1
  have hmany := hM.1
  have hnT1 : 1 ≤ nT := by have := inb_iff.mp hr; omega
  have fin : ∃ fw' pw' g' w' n', f_X7_tells_124 (nI nT) rule many fw pw ss rows kinds room gained was its now tv nT (nI s) (nI q) ts (nI (sortW w)) = some (tF (okW n nT E w q) val 0 0 11, rule, fw', pw', rows, kinds, room, g', w', n') := by
    rcases (show w = 1 ∨ w = 2 ∨ w = 3 ∨ w = 4 ∨ w = 5 ∨ w = 6 ∨ w = 7 by omega) with rfl | rfl | rfl | rfl | rfl | rfl | rfl
    · obtain ⟨fw', pw', g', w', n', r1⟩ := key 5 2047 (by decide) (fun v hv => ⟨fun _ => decide_eq_true (by omega), fun _ => b2047s v (by omega)⟩) (fun v a b => decide_eq_false (by omega))
      refine ⟨fw', pw', g', w', n', ?_⟩
      rw [← r1]
      unfold f_X7_tells_124
      rw [if_neg (by decide), show f_X7_told (nI q) (nI (sortW 1)) rule many rows kinds room tv nT = some (wasW 1 q rule kinds rows room) from by rw [hmany]; exact toldW (by decide) (by decide) hq hn]
      rfl
    · obtain ⟨fw', pw', g', w', n', r1⟩ := key 9 2047 (by decide) (fun v hv => ⟨fun _ => decide_eq_true (by omega), fun _ => b2047s v (by omega)⟩) (fun v a b => decide_eq_false (by omega))
      refine ⟨fw', pw', g', w', n', ?_⟩
      rw [← r1]
      unfold f_X7_tells_124
      rw [if_neg (by decide), show f_X7_told (nI q) (nI (sortW 2)) rule many rows kinds room tv nT = some (wasW 2 q rule kinds rows room) from by rw [hmany]; exact toldW (by decide) (by decide) hq hn]
      rfl
    · have hw3 : wasW 3 q rule kinds rows room = nI (E q) := (hM.2.2.2.2.2 q hq).2.2
      obtain ⟨fw', pw', g', w', n', r1⟩ := key 10 (FMs E 2047 0 n ||| (1 <<< (nI (E q) &&& 31))) (by decide) (fun v hv => by
        rw [FM_or hE (hE q hq) (by omega)]
        show _ ↔ (frE n E v || E q == v) = true
        rw [Bool.or_eq_true, beq_iff_eq]) (fun v a b => absurd b (by omega))
      refine ⟨fw', pw', g', w', n', ?_⟩
      rw [← r1]
      unfold f_X7_tells_124
      rw [if_neg (by decide), show f_X7_told (nI q) (nI (sortW 3)) rule many rows kinds room tv nT = some (wasW 3 q rule kinds rows room) from by rw [hmany]; exact toldW (by decide) (by decide) hq hn]
      simp only [Option.bind_some]
      unfold f_X7_tells_147 f_X7_tells_189
      rw [if_neg (by decide), if_neg (by decide), if_neg (by decide), if_pos (by decide), show f_X7_freeSet many rows = some (FMs E 2047 0 n) from by rw [hmany]; exact free7 hn (fun p hp => (hM.2.2.2.2.2 p hp).2.2), hw3]
      rfl
    · obtain ⟨fw', pw', g', w', n', r1⟩ := key 10 2047 (by decide) (fun v hv => ⟨fun _ => rfl, fun _ => b2047s v (by omega)⟩) (fun v a b => absurd b (by omega))
      refine ⟨fw', pw', g', w', n', ?_⟩
      rw [← r1]
      unfold f_X7_tells_124
      rw [if_neg (by decide), show f_X7_told (nI q) (nI (sortW 4)) rule many rows kinds room tv nT = some (wasW 4 q rule kinds rows room) from by rw [hmany]; exact toldW (by decide) (by decide) hq hn]
      rfl
    · obtain ⟨fw', pw', g', w', n', r1⟩ := key 10 2047 (by decide) (fun v hv => ⟨fun _ => rfl, fun _ => b2047s v (by omega)⟩) (fun v a b => absurd b (by omega))
      refine ⟨fw', pw', g', w', n', ?_⟩
      rw [← r1]
      unfold f_X7_tells_124
      rw [if_neg (by decide), show f_X7_told (nI q) (nI (sortW 5)) rule many rows kinds room tv nT = some (wasW 5 q rule kinds rows room) from by rw [hmany]; exact toldW (by decide) (by decide) hq hn]
      rfl
    · obtain ⟨fw', pw', g', w', n', r1⟩ := key 10 2047 (by decide) (fun v hv => ⟨fun _ => rfl, fun _ => b2047s v (by omega)⟩) (fun v a b => absurd b (by omega))
      refine ⟨fw', pw', g', w', n', ?_⟩
      rw [← r1]
      unfold f_X7_tells_124
      rw [if_neg (by decide), show f_X7_told (nI q) (nI (sortW 6)) rule many rows kinds room tv nT = some (wasW 6 q rule kinds rows room) from by rw [hmany]; exact toldW (by decide) (by decide) hq hn]
      rfl
    · obtain ⟨fw', pw', g', w', n', r1⟩ := key (nT - 1) 2047 (by omega) (fun v hv => ⟨fun _ => decide_eq_true (by omega), fun _ => b2047s v (by omega)⟩) (fun v a b => decide_eq_false (by omega))
      refine ⟨fw', pw', g', w', n', ?_⟩
      rw [← r1]
      have e : nI nT - 1 = nI (nT - 1) := by
        apply iext
        have e1 : (nI nT).toInt = nT := nI_toInt (by omega)
        rw [sub_i (by rw [e1, i1]; omega) (by rw [e1, i1]; omega), e1, i1, nI_toInt (by omega)]; omega
      unfold f_X7_tells_124 f_X7_tells_147
      rw [if_pos (by decide), if_pos (by decide), e]
      rfl
  obtain ⟨fw', pw', g', w', n', r1⟩ := fin
  exact ⟨_, x, fw', pw', g', w', n', hx, r1⟩
theorem tells_bad {sort size : Int32} {th : Int32 × Int32 × Int32 × Int32 × Int32 × Int32 × (Nat → Int32) × (Nat → Int32) × (Nat → Int32) × (Nat → Int32) × (Nat → Int32)} {tc : Int32} (h : ¬ (0 ≤ l1.toInt ∧ l1.toInt < 4)) :
    (∃ v, f_X6_tells l1 l2 l3 l4 tc face lamp stove pose rule painters sort size th.1 th.2.1 th.2.2.1 th.2.2.2.1 th.2.2.2.2.1 th.2.2.2.2.2.1 kind th.2.2.2.2.2.2.1 number th.2.2.2.2.2.2.2.1 easel th.2.2.2.2.2.2.2.2.1 had th.2.2.2.2.2.2.2.2.2.1 pleased th.2.2.2.2.2.2.2.2.2.2 it tv nT = some (-2, v)) ∧ f_X7_tells l1 l2 l3 l4 tc rule many fw pw iT ss rows kinds room gained was its now tv nT = some (-2, rule, fw, pw, rows, kinds, room, gained, was, now) := by
  unfold f_X6_tells f_X7_tells
  rw [isSheet6, isSheet7, decide_eq_false h]
  exact ⟨⟨_, rfl⟩, rfl⟩
theorem A_tells {sort size : Int32} {th : Int32 × Int32 × Int32 × Int32 × Int32 × Int32 × (Nat → Int32) × (Nat → Int32) × (Nat → Int32) × (Nat → Int32) × (Nat → Int32)} (h : RG nT n F L S K N E face lamp stove pose rule painters kind number easel had pleased many kinds rows room) (hs : s < 4) (hS : SHr s sort size it iT so ss its) :
    ∃ a v fw' pw' g' w' n', f_X6_tells (nI s) l2 l3 l4 (nI nT) face lamp stove pose rule painters sort size th.1 th.2.1 th.2.2.1 th.2.2.2.1 th.2.2.2.2.1 th.2.2.2.2.2.1 kind th.2.2.2.2.2.2.1 number th.2.2.2.2.2.2.2.1 easel th.2.2.2.2.2.2.2.2.1 had th.2.2.2.2.2.2.2.2.2.1 pleased th.2.2.2.2.2.2.2.2.2.2 it tv nT = some (a, v) ∧ f_X7_tells (nI s) l2 l3 l4 (nI nT) rule many fw pw iT ss rows kinds room gained was its now tv nT = some (a, rule, fw', pw', rows, kinds, room, g', w', n') := by
  have hn := h.1.1
  have hp := h.2.1.2.2.2.1
  have hmany := h.2.2.1.1
  have hin : inb (nI s) 4 = true := inb_nI (by omega) (by decide)
  unfold f_X6_tells f_X7_tells
  rw [isSheet6, isSheet7, nI_toInt (by omega), decide_eq_true (show 0 ≤ (s : Int) ∧ (s : Int) < 4 by omega), show f_X2_has l2 painters = some (bz (decide (0 ≤ l2.toInt ∧ l2.toInt < n))) from by rw [hp]; exact has6 _ hn, show f_X7_isOne l2 many = some (bz (decide (0 ≤ l2.toInt ∧ l2.toInt < n))) from by rw [hmany]; exact isOne7 _ hn, isTurnStep6, isTurnStep7, in7i]
  simp only [Option.bind_some, bz_0, decide_eq_false_iff_not, e0, e7]
  rw [if_neg (by decide), if_neg (show ¬ (true = false) by decide)]
  by_cases a : 0 ≤ l2.toInt ∧ l2.toInt < n
  · have na : ¬ ¬ (0 ≤ l2.toInt ∧ l2.toInt < n) := fun h => h a
    rw [if_neg na, if_neg na]
    by_cases b : tsok l3 = true
    · have nb : ¬ tsok l3 = false := by rw [b]; decide
      rw [if_neg nb, if_neg nb]
      by_cases c : 0 ≤ l4.toInt ∧ l4.toInt ≤ 7
      · rw [if_neg (show ¬ l4 < 0 by rw [lt_i, i0]; omega), if_pos (show l4 ≤ 7 by rw [le_i, i7]; omega), if_neg (show ¬ ¬ (0 ≤ l4.toInt ∧ l4.toInt ≤ 7) from fun h => h c), if_pos hin, if_pos hin, cl_nI (by omega)]
        unfold f_X3_isMissing
        rcases hS with ⟨x1, x2⟩ | ⟨cc, z, hc, hz, x1, x2, x3, x4, x5, x6⟩
        · rw [if_pos x1, if_pos x2]
          simp only [Option.bind_some]
          rw [if_neg (by decide)]
          exact ⟨_, _, _, _, _, _, _, rfl, rfl⟩
        · have hne : ¬ sort = -1 := by rw [x1]; exact nI_m1 cc (by omega)
          rw [if_neg hne, x2, if_neg (show ¬ (1 : Int32) = 0 by decide), if_pos hin]
          simp only [Option.bind_some]
          rw [if_pos trivial, x4, x5]
          by_cases d : z ≤ 20
          · have hz20 : nI z ≤ 20 := by rw [show (20 : Int32) = nI 20 from rfl, le_nI] <;> omega
            rw [if_pos hz20, if_pos hz20]
            obtain ⟨q, hq, rfl⟩ := nn_of a.1
            rw [nI_toInt hq] at a
            obtain ⟨w, hw, rfl⟩ := nn_of c.1
            rw [nI_toInt hw] at c
            obtain ⟨T, St, hT, hSt, -, t1, t2⟩ := ts_of b
            by_cases w0 : w = 0
            · subst w0
              obtain ⟨a, v, g', w', n', q1, q2⟩ := first67 (tv := tv) (gained := gained) (was := was) (now := now) t1 t2 h.1 h.2.1 h.2.2.1 h.2.2.2.1 h.2.2.2.2.1 hT hSt (show q < n by omega) hs hz x5 x6
              rw [if_pos (show nI 0 = 0 from rfl), if_pos (show nI 0 = 0 from rfl), take6]
              simp only [Option.bind_some]
              rw [q1, q2]
              exact ⟨_, _, _, _, _, _, _, rfl, rfl⟩
            · have hw0 : ¬ nI w = 0 := by rw [show (0 : Int32) = nI 0 from rfl, eq_nI] <;> omega
              obtain ⟨a, x, fw', pw', g', w', n', q1, q2⟩ := tellsW (tv := tv) (fw := fw) (pw := pw) (gained := gained) (was := was) (now := now) (had := had) (pleased := pleased) t1 t2 h.1 h.2.1 h.2.2.1 h.2.2.2.1 h.2.2.2.2.1 hT hSt (show q < n by omega) hs hz x5 x6 (show 1 ≤ w by omega) (show w ≤ 7 by omega) th.1 th.2.1 th.2.2.1 th.2.2.2.1 th.2.2.2.2.1 th.2.2.2.2.2.1 th.2.2.2.2.2.2.1 th.2.2.2.2.2.2.2.1 th.2.2.2.2.2.2.2.2.1 th.2.2.2.2.2.2.2.2.2.1 th.2.2.2.2.2.2.2.2.2.2
              rw [if_neg hw0, if_neg hw0]
              refine ⟨a, x, fw', pw', g', w', n', q1, ?_⟩
              rw [← q2]
              rcases (show w = 1 ∨ w = 2 ∨ w = 3 ∨ w = 4 ∨ w = 5 ∨ w = 6 ∨ w = 7 by omega) with rfl | rfl | rfl | rfl | rfl | rfl | rfl
              · rw [if_pos (by decide), show nI (sortW 1) = 6 from by decide]
              · rw [if_neg (by decide), if_pos (by decide), show nI (sortW 2) = 4 from by decide]
              · rw [if_neg (by decide), if_neg (by decide), if_pos (by decide), show nI (sortW 3) = 5 from by decide]
              · rw [if_neg (by decide), if_neg (by decide), if_neg (by decide), if_neg (by decide), show nI (sortW 4) = nI 4 - 4 from by decide]
              · rw [if_neg (by decide), if_neg (by decide), if_neg (by decide), if_neg (by decide), show nI (sortW 5) = nI 5 - 4 from by decide]
              · rw [if_neg (by decide), if_neg (by decide), if_neg (by decide), if_neg (by decide), show nI (sortW 6) = nI 6 - 4 from by decide]
              · rw [if_neg (by decide), if_neg (by decide), if_neg (by decide), if_pos (by decide), show nI (sortW 7) = 7 from by decide]
          · have hz20 : ¬ nI z ≤ 20 := by rw [show (20 : Int32) = nI 20 from rfl, le_nI] <;> omega
            rw [if_neg hz20, if_neg hz20]
            exact ⟨_, _, _, _, _, _, _, rfl, rfl⟩
      · rw [if_pos c]
        by_cases c1 : l4 < 0
        · rw [if_pos c1]
          exact ⟨_, _, _, _, _, _, _, rfl, rfl⟩
        · rw [if_neg c1]
          rw [lt_i, i0] at c1
          rw [if_neg (show ¬ l4 ≤ 7 by rw [le_i, i7]; omega)]
          exact ⟨_, _, _, _, _, _, _, rfl, rfl⟩
    · have b' : tsok l3 = false := by simpa using b
      rw [if_pos b', if_pos b']
      exact ⟨_, _, _, _, _, _, _, rfl, rfl⟩
  · rw [if_pos a, if_pos a]
    exact ⟨_, _, _, _, _, _, _, rfl, rfl⟩
end
