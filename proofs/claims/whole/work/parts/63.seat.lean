/-! ## one sits elsewhere -/
def upE (E : Nat → Nat) (p e : Nat) : Nat → Nat := fun j => if j = p then e else E j
theorem OK_up {n F L S p e : Nat} {K N E : Nat → Nat} (h : OKr n F L S K N E) (he : e < 11) (hf : ∀ q, q < n → q ≠ p → E q ≠ e) : OKr n F L S K N (upE E p e) := by
  obtain ⟨h1, h2, h3, h4, h5, h6⟩ := h
  refine ⟨h1, h2, h3, h4, ?_, fun q hq => ⟨(h6 q hq).1, (h6 q hq).2.1, ?_⟩⟩
  · intro a b ha hb e1
    unfold upE at e1
    by_cases ca : a = p
    · by_cases cb : b = p
      · rw [ca, cb]
      · rw [if_pos ca, if_neg cb] at e1
        exact absurd e1.symm (hf b hb cb)
    · by_cases cb : b = p
      · rw [if_neg ca, if_pos cb] at e1
        exact absurd e1 (hf a ha ca)
      · rw [if_neg ca, if_neg cb] at e1
        exact h5 a b ha hb e1
  · unfold upE
    by_cases c : q = p
    · rw [if_pos c]; exact he
    · rw [if_neg c]; exact (h6 q hq).2.2
theorem RX_up {n F L S p e : Nat} {K N E : Nat → Nat} {face lamp stove painters : Int32} {kind number easel easel' : Nat → Int32} (h : RX n F L S K N E face lamp stove painters kind number easel) (h' : ∀ j, j ≠ p → easel' j = easel j) : RX n F L S K N (upE E p e) face lamp stove painters kind number (upd easel' p (nI e)) := by
  obtain ⟨h1, h2, h3, h4, h5⟩ := h
  refine ⟨h1, h2, h3, h4, fun q hq => ⟨(h5 q hq).1, (h5 q hq).2.1, ?_⟩⟩
  unfold upd upE
  by_cases c : q = p
  · rw [if_pos c, if_pos c]
  · rw [if_neg c, if_neg c, h' q c]; exact (h5 q hq).2.2
theorem RM_up {n F L S p e : Nat} {K N E : Nat → Nat} {pose many : Int32} {kinds rows rows' room : Nat → Int32} (h : RM n F L S K N E pose many kinds rows room) (h' : ∀ j, j ≠ 4 * p + 1 → rows' j = rows j) : RM n F L S K N (upE E p e) pose many kinds (upd rows' (4 * p + 1) (nI e)) room := by
  obtain ⟨h1, h2, h3, h4, h5, h6⟩ := h
  refine ⟨h1, h2, h3, h4, h5, fun q hq => ⟨(h6 q hq).1, ?_, ?_⟩⟩
  · unfold upd
    rw [if_neg (by omega), h' (4 * q) (by omega)]; exact (h6 q hq).2.1
  · unfold upd upE
    by_cases c : q = p
    · rw [if_pos (by omega), if_pos c]
    · rw [if_neg (by omega), if_neg c, h' (4 * q + 1) (by omega)]; exact (h6 q hq).2.2
theorem upd_ne {a : Nat → Int32} {p : Nat} {v : Int32} {a' : Nat → Int32} (h : ∀ j, j ≠ p → a' j = a j) : ∀ j, j ≠ p → upd a' p v j = a j := by
  intro j hj; unfold upd; rw [if_neg hj]; exact h j hj
theorem upd_back {a a' : Nat → Int32} {p : Nat} {v : Int32} (h : ∀ j, j ≠ p → a' j = a j) (hv : v = a p) : upd a' p v = a := by
  funext j; unfold upd
  by_cases c : j = p
  · rw [if_pos c, hv, c]
  · rw [if_neg c]; exact h j c
theorem shlb : ∀ a, a < 11 → ∀ e, e < 11 → bt (1 <<< (nI a &&& 31)) e = decide (a = e) := by decide +kernel
theorem FM_or {n : Nat} {E : Nat → Nat} {a e : Nat} (hE : ∀ p, p < n → E p < 11) (ha : a < 11) (he : e < 11) : (((FMs E 2047 0 n ||| (1 <<< (nI a &&& 31))) >>> (nI e &&& 31)) &&& 1) = 1 ↔ (frE n E e = true ∨ a = e) := by
  have h := FM_test hE he
  rw [and1_iff, b_sshr e (by omega) _ (by decide), if_pos (by omega), Nat.add_zero] at h ⊢
  rw [b_or, shlb a ha e he, Bool.or_eq_true, h, decide_eq_true_eq]
section
variable {tv : Int32 → Int32 → Int32 → Int32 → Int32 → Int32 → Int32 → Int32 → Int32} {nT n F L S m : Nat} {K N E : Nat → Nat} {face lamp stove pose rule painters many fw pw l1 l2 l3 l4 : Int32} {kind number easel had pleased kinds rows room now gained was : Nat → Int32}
theorem seat_loop {p : Nat} (hO : OKr n F L S K N E) (hX : RX n F L S K N E face lamp stove painters kind number easel) (hM : RM n F L S K N E pose many kinds rows room) (hr : inb rule nT = true) (hnT : nT ≤ 6) (hp : p < n) (h2 : l2 = 0 ∨ l2 = 1) :
    ∀ (k i fu1 fu2 : Nat) (a v o : Int32) (fm : Int32 × Int32) (easel' rows' : Nat → Int32), i + k = 11 → k < fu1 → k < fu2 → mo a v o fm → (∀ j, j ≠ p → easel' j = easel j) → (∀ j, j ≠ 4 * p + 1 → rows' j = rows j) →
      ∃ r x, lq5 (f_X6_seat_43 painters face lamp stove pose rule painters kind number easel had pleased tv nT (nI p) l2) fu1 (nI i) a v o easel' = some (r, x) ∧ lq4 (f_X7_seat_46 rule many kinds room tv nT (nI p) l2 (nI (E p)) (FMs E 2047 0 n ||| (1 <<< (nI (E p) &&& 31)))) fu2 fm.1 fm.2 (nI i) rows' = some (r, rows) := by
  have hn := hO.1
  have hE : ∀ p, p < n → E p < 11 := fun p hp => (hO.2.2.2.2.2 p hp).2.2
  have he : ∀ p, p < n → easel p = nI (E p) := fun p hp => (hX.2.2.2.2 p hp).2.2
  obtain ⟨y1, y2⟩ := ix1 (show p < 6 by omega)
  intro k
  induction k with
  | zero =>
    intro i fu1 fu2 a v o fm easel' rows' h1 hf1 hf2 hmo hx hy
    obtain ⟨fu1, rfl⟩ : ∃ g, fu1 = g + 1 := ⟨fu1 - 1, by omega⟩
    obtain ⟨fu2, rfl⟩ : ∃ g, fu2 = g + 1 := ⟨fu2 - 1, by omega⟩
    have hle : (11 : Int32) ≤ nI i := by rw [show (11 : Int32) = nI 11 from rfl, le_nI] <;> omega
    refine ⟨if l2 = 0 then fm.1 else fm.2, (a, v, o, face, lamp, stove, pose, rule, painters, kind, number, easel', had, pleased), ?_, ?_⟩
    · show f_X6_seat_43 _ _ _ _ _ _ _ _ _ _ _ _ _ _ _ _ (lq5 _ fu1) (nI i) _ _ _ _ = _
      unfold f_X6_seat_43 f_X0_atOrValue
      rw [if_pos hle, hmo.1, hmo.2.1]
      rcases h2 with rfl | rfl
      · rfl
      · rfl
    · show f_X7_seat_46 _ _ _ _ _ _ _ _ _ _ (lq4 _ fu2) _ _ (nI i) _ = _
      unfold f_X7_seat_46
      rw [if_pos hle, if_pos y1, y2, upd_back hy (hM.2.2.2.2.2 p hp).2.2.symm]
      split <;> rfl
  | succ k ih =>
    intro i fu1 fu2 a v o fm easel' rows' h1 hf1 hf2 hmo hx hy
    obtain ⟨fu1, rfl⟩ : ∃ g, fu1 = g + 1 := ⟨fu1 - 1, by omega⟩
    obtain ⟨fu2, rfl⟩ : ∃ g, fu2 = g + 1 := ⟨fu2 - 1, by omega⟩
    have hle : ¬ (11 : Int32) ≤ nI i := by rw [show (11 : Int32) = nI 11 from rfl, le_nI] <;> omega
    have hms : f_X2_maySitAt (nI p) (nI i) painters easel = some (bz (frE n E i || E p == i)) := by
      rw [hX.2.2.2.1, maySit6 hn hp he hE]
      congr 2
      rw [nI_toInt (by omega), decide_eq_true (show 0 ≤ (i : Int) ∧ (i : Int) < 11 by omega), Bool.true_and, Int.toNat_natCast]
    have hfo := FM_or (e := i) hE (hE p hp) (by omega)
    by_cases hc : frE n E i = true ∨ E p = i
    · have hc' : (frE n E i || E p == i) = true := by rw [Bool.or_eq_true, beq_iff_eq]; exact hc
      have hfr : ∀ q, q < n → q ≠ p → E q ≠ i := by
        intro q hq hqp
        rcases hc with hc | hc
        · exact frE_iff.mp hc q hq
        · intro e1; exact hqp (hO.2.2.2.2.1 q p hq hp (by rw [e1, hc]))
      have hO' := OK_up hO (show i < 11 by omega) hfr
      have w6 := whole6 (tv := tv) (pose := pose) hO' (RX_up (e := i) hX hx) hr hnT
      have w7 := whole7 (tv := tv) hO' (RM_up (e := i) hM hy) hr
      obtain ⟨r, r1, r2⟩ := offer6 (pl := nI i) (w := smF (pbN tv rule pose n F L S K N (upE E p i)) 0 0 n) hmo (nI_m1 i (by omega))
      obtain ⟨r', x, q1, q2⟩ := ih (i + 1) fu1 fu2 r.1 r.2.1 r.2.2 _ (upd easel' p (nI i)) (upd rows' (4 * p + 1) (nI i)) (by omega) (by omega) (by omega) r2 (upd_ne hx) (upd_ne hy)
      refine ⟨r', x, ?_, ?_⟩
      · rw [← q1]
        show f_X6_seat_43 _ _ _ _ _ _ _ _ _ _ _ _ _ _ _ _ (lq5 _ fu1) (nI i) _ _ _ _ = _
        generalize lq5 (f_X6_seat_43 painters face lamp stove pose rule painters kind number easel had pleased tv nT (nI p) l2) fu1 = kp
        unfold f_X6_seat_43
        rw [if_neg hle, hms, hc']
        simp only [Option.bind_some]
        rw [if_neg (by decide), if_pos (inb_nI (by omega) (by decide)), cl_nI (show p ≤ 2147483647 by omega), w6]
        simp only [Option.bind_some]
        rw [r1, nI_1]
        rfl
      · rw [← q2]
        show f_X7_seat_46 _ _ _ _ _ _ _ _ _ _ (lq4 _ fu2) _ _ (nI i) _ = _
        generalize lq4 (f_X7_seat_46 rule many kinds room tv nT (nI p) l2 (nI (E p)) (FMs E 2047 0 n ||| (1 <<< (nI (E p) &&& 31)))) fu2 = kp
        unfold f_X7_seat_46
        rw [if_neg hle, if_pos (hfo.mpr hc), if_pos y1, y2, w7]
        simp only [Option.bind_some]
        rw [nI_1]
        exact stp7 (fun a b => kp a b (nI (i + 1)) (upd rows' (4 * p + 1) (nI i)))
    · have hc' : (frE n E i || E p == i) = false := by rw [Bool.eq_false_iff, ne_eq, Bool.or_eq_true, beq_iff_eq]; exact hc
      obtain ⟨r', x, q1, q2⟩ := ih (i + 1) fu1 fu2 a v o fm easel' rows' (by omega) (by omega) (by omega) hmo hx hy
      refine ⟨r', x, ?_, ?_⟩
      · rw [← q1]
        show f_X6_seat_43 _ _ _ _ _ _ _ _ _ _ _ _ _ _ _ _ (lq5 _ fu1) (nI i) _ _ _ _ = _
        generalize lq5 (f_X6_seat_43 painters face lamp stove pose rule painters kind number easel had pleased tv nT (nI p) l2) fu1 = kp
        unfold f_X6_seat_43
        rw [if_neg hle, hms, hc']
        simp only [Option.bind_some]
        rw [if_pos (show bz false = 0 from rfl), nI_1]
      · rw [← q2]
        show f_X7_seat_46 _ _ _ _ _ _ _ _ _ _ (lq4 _ fu2) _ _ (nI i) _ = _
        generalize lq4 (f_X7_seat_46 rule many kinds room tv nT (nI p) l2 (nI (E p)) (FMs E 2047 0 n ||| (1 <<< (nI (E p) &&& 31)))) fu2 = kp
        unfold f_X7_seat_46
        rw [if_neg hle, if_neg (fun hh => hc (hfo.mp hh)), nI_1]
theorem A_seat {a0 v0 o0 : Int32} {th : Int32 × Int32 × Int32 × Int32 × Int32 × Int32 × (Nat → Int32) × (Nat → Int32) × (Nat → Int32) × (Nat → Int32) × (Nat → Int32)} (h : RG nT n F L S K N E face lamp stove pose rule painters kind number easel had pleased many kinds rows room) :
    ∃ a v, f_X6_seat l1 l2 face lamp stove pose rule painters a0 v0 o0 th.1 th.2.1 th.2.2.1 th.2.2.2.1 th.2.2.2.2.1 th.2.2.2.2.2.1 kind th.2.2.2.2.2.2.1 number th.2.2.2.2.2.2.2.1 easel th.2.2.2.2.2.2.2.2.1 had th.2.2.2.2.2.2.2.2.2.1 pleased th.2.2.2.2.2.2.2.2.2.2 tv nT = some (a, v) ∧ f_X7_seat l1 l2 rule many rows kinds room tv nT = some (a, rows) := by
  have hn := h.1.1
  have hp := h.2.1.2.2.2.1
  have hmany := h.2.2.1.1
  have he7 : ∀ p, p < n → rows (4 * p + 1) = nI (E p) := fun p hp => (h.2.2.1.2.2.2.2.2 p hp).2.2
  unfold f_X6_seat f_X7_seat
  rw [show f_X2_has l1 painters = some (bz (decide (0 ≤ l1.toInt ∧ l1.toInt < n))) from by rw [hp]; exact has6 _ hn, show f_X7_isOne l1 many = some (bz (decide (0 ≤ l1.toInt ∧ l1.toInt < n))) from by rw [hmany]; exact isOne7 _ hn]
  simp only [in7i, Option.bind_some, bz_0, decide_eq_false_iff_not, e0, e1]
  by_cases a : 0 ≤ l1.toInt ∧ l1.toInt < n
  · have na : ¬ ¬ (0 ≤ l1.toInt ∧ l1.toInt < n) := fun h => h a
    rw [if_neg na, if_neg na]
    by_cases b : 0 ≤ l2.toInt ∧ l2.toInt ≤ 1
    · rw [if_neg (show ¬ l2 < 0 by rw [lt_i, i0]; omega), if_pos (show l2 ≤ 1 by rw [le_i, i1]; omega), if_neg (show ¬ ¬ (0 ≤ l2.toInt ∧ l2.toInt ≤ 1) from fun h => h b), take6]
      obtain ⟨q, hq, rfl⟩ := nn_of a.1
      rw [nI_toInt hq] at a
      rw [easelOf7 hn he7 (show q < n by omega), show f_X7_freeSet many rows = some (FMs E 2047 0 n) from by rw [hmany]; exact free7 hn he7]
      have h2 : l2 = 0 ∨ l2 = 1 := by
        rcases (show l2.toInt = 0 ∨ l2.toInt = 1 by omega) with h | h
        · exact Or.inl (iext h)
        · exact Or.inr (iext h)
      obtain ⟨r, x, q1, q2⟩ := seat_loop (tv := tv) (had := had) (pleased := pleased) h.1 h.2.1 h.2.2.1 h.2.2.2.1 h.2.2.2.2.1 (show q < n by omega) h2 11 0 200 200 (-1) 0 0 (-1, 0) easel rows (by omega) (by omega) (by omega) ⟨rfl, rfl, Or.inl ⟨rfl, rfl⟩⟩ (fun _ _ => rfl) (fun _ _ => rfl)
      exact ⟨r, x, q1, q2⟩
    · rw [if_pos b]
      by_cases b1 : l2 < 0
      · rw [if_pos b1]; exact ⟨_, _, rfl, rfl⟩
      · rw [if_neg b1]
        rw [lt_i, i0] at b1
        rw [if_neg (show ¬ l2 ≤ 1 by rw [le_i, i1]; omega)]; exact ⟨_, _, rfl, rfl⟩
  · rw [if_pos a, if_pos a]; exact ⟨_, _, rfl, rfl⟩
end
