/-! ## poses without PLEASED -/
def LR (n F L S : Nat) (K N E : Nat → Nat) (lamp stove painters many : Int32) (kind number kinds rows0 room0 : Nat → Int32) (face pose : Int32) (easel room rows : Nat → Int32) : Prop :=
  OKr n F L S K N E ∧ RX n F L S K N E face lamp stove painters kind number easel ∧ RM n F L S K N E pose many kinds rows room ∧ (∀ j, 24 ≤ j → rows j = rows0 j) ∧ (∀ j, j ≠ 0 → j ≠ 3 → room j = room0 j)
section
variable {tv : Int32 → Int32 → Int32 → Int32 → Int32 → Int32 → Int32 → Int32 → Int32} {nT n F L S : Nat} {K N E : Nat → Nat} {face lamp stove pose rule painters many fw pw l1 l2 l3 l4 : Int32} {kind number easel had pleased kinds rows rows0 room room0 now gained was : Nat → Int32}
theorem LR_step {T St : Nat} (h : LR n F L S K N E lamp stove painters many kind number kinds rows0 room0 face pose easel room rows) (hr : inb rule nT = true) (hT : T < 11) (hSt : St < 11) :
    f_X2_move (nI T) (nI St) face pose painters easel = some (nI ((F + T) % 11), pose + 1, mpN n (fun j => nI ((E j + St) % 11)) easel) ∧ f_X7_passes (nI T) (nI St) rule many room rows now gained kinds tv nT = some (smF (pbN tv rule pose n F L S K N E) 0 0 n, rmS T F room, rwS n St F E (pbN tv rule pose n F L S K N E) rows, mpN n (pbN tv rule pose n F L S K N E) now, mpN n (fun j => gained j + pbN tv rule pose n F L S K N E j) gained) ∧ LR n ((F + T) % 11) L S K N (shE E St) lamp stove painters many kind number kinds rows0 room0 (nI ((F + T) % 11)) (pose + 1) (mpN n (fun j => nI ((E j + St) % 11)) easel) (rmS T F room) (rwS n St F E (pbN tv rule pose n F L S K N E) rows) := by
  obtain ⟨hO, hX, hM, h24, h03⟩ := h
  have hE : ∀ p, p < n → E p < 11 := fun p hp => (hO.2.2.2.2.2 p hp).2.2
  have he : ∀ p, p < n → easel p = nI (E p) := fun p hp => (hX.2.2.2.2 p hp).2.2
  refine ⟨?_, passes7 hO hM hr hT hSt, OK_pass hO, RX_pass hX, RM_pass hM, ?_, ?_⟩
  · rw [hX.1, hX.2.2.2.1]
    exact move6 hO.1 hO.2.1 hT hSt he hE
  · intro j hj
    have hn := hO.1
    show rwS n St F E _ rows j = rows0 j
    unfold rwS mp4
    rw [if_neg (by omega), if_neg (by omega), if_neg (by omega)]
    exact h24 j hj
  · intro j h0 h3
    show rmS T F room j = room0 j
    unfold rmS upd
    rw [if_neg h3, if_neg h0]
    exact h03 j h0 h3
theorem had_step {St : Nat} {pb : Nat → Int32} (h : ∀ p, p < n → had p = rows (4 * p + 2)) : ∀ p, p < n → mpN n (hdS E F had) had p = rwS n St F E pb rows (4 * p + 2) := by
  intro p hp
  unfold rwS
  rw [mpN_lt hp, mp4_ne (by decide) (by decide), mp4_ne (by decide) (by decide), mp4_eq (by decide) hp]
  unfold hdS
  rw [h p hp]
theorem round_loop {T St q : Nat} {ts : Int32} (hts1 : ts / 100 = nI T) (hts2 : ts - ts / 100 * 100 = nI St) (hr : inb rule nT = true) (hT : T < 11) (hSt : St < 11) (hq : q < n) :
    ∀ (k i fu1 fu2 : Nat) (F : Nat) (E : Nat → Nat) (face pose : Int32) (easel had room rows now gained : Nat → Int32), i + k = 41 → k < fu1 → k < fu2 → LR n F L S K N E lamp stove painters many kind number kinds rows0 room0 face pose easel room rows → (∀ p, p < n → had p = rows (4 * p + 2)) →
      ∃ a v g' n', lq5 (f_X6_round_34 lamp stove rule painters kind number pleased (nI q) ts) fu1 (nI i) face pose easel had = some (a, v) ∧ lq5 (f_X7_round_24 rule many (room0 0) (room0 3) (mpN 24 rows0 was) kinds tv nT (nI q) ts) fu2 (nI i) room gained rows now = some (a, room0 0, room0 3, room0, g', rows0, mpN 24 rows0 was, n') := by
  intro k
  induction k with
  | zero =>
    intro i fu1 fu2 F E face pose easel had room rows now gained h1 h2 h3 hL hH
    obtain ⟨fu1, rfl⟩ : ∃ g, fu1 = g + 1 := ⟨fu1 - 1, by omega⟩
    obtain ⟨fu2, rfl⟩ : ∃ g, fu2 = g + 1 := ⟨fu2 - 1, by omega⟩
    have hlt : (40 : Int32) < nI i := by rw [lt_i, i40, nI_toInt (by omega)]; omega
    refine ⟨-1, (face, lamp, stove, pose, rule, painters, kind, number, easel, had, pleased), gained, now, ?_, ?_⟩
    · show f_X6_round_34 _ _ _ _ _ _ _ _ _ (lq5 _ fu1) (nI i) _ _ _ _ = _
      unfold f_X6_round_34
      rw [if_pos hlt]
    · show f_X7_round_24 _ _ _ _ _ _ _ _ _ _ (lq5 _ fu2) (nI i) _ _ _ _ = _
      unfold f_X7_round_24 f_X7_round_65
      rw [if_pos hlt, backs7' hL.2.2.2.1 hL.2.2.2.2]
      simp only [Option.bind_some]
      rw [if_neg (show ¬ nI i ≤ 40 by rw [le_i, i40, nI_toInt (by omega)]; omega)]
  | succ k ih =>
    intro i fu1 fu2 F E face pose easel had room rows now gained h1 h2 h3 hL hH
    obtain ⟨fu1, rfl⟩ : ∃ g, fu1 = g + 1 := ⟨fu1 - 1, by omega⟩
    obtain ⟨fu2, rfl⟩ : ∃ g, fu2 = g + 1 := ⟨fu2 - 1, by omega⟩
    have hn := hL.1.1
    have hlt : ¬ (40 : Int32) < nI i := by rw [lt_i, i40, nI_toInt (by omega)]; omega
    have hin : inb (nI q) 6 = true := inb_nI (by omega) (by decide)
    obtain ⟨y1, y2⟩ := ix2 (show q < 6 by omega)
    by_cases hd : had q = 2047
    · refine ⟨nI i, (face, lamp, stove, pose, rule, painters, kind, number, easel, had, pleased), gained, now, ?_, ?_⟩
      · show f_X6_round_34 _ _ _ _ _ _ _ _ _ (lq5 _ fu1) (nI i) _ _ _ _ = _
        unfold f_X6_round_34
        rw [if_neg hlt, if_pos hin, cl_nI (show q ≤ 2147483647 by omega), if_pos hd]
      · show f_X7_round_24 _ _ _ _ _ _ _ _ _ _ (lq5 _ fu2) (nI i) _ _ _ _ = _
        unfold f_X7_round_24 f_X7_round_65
        rw [if_neg hlt, if_pos y1, y2, if_pos (by rw [← hH q hq]; exact hd), backs7' hL.2.2.2.1 hL.2.2.2.2]
        simp only [Option.bind_some]
        rw [if_pos (show nI i ≤ 40 by rw [le_i, i40, nI_toInt (by omega)]; omega)]
    · obtain ⟨s1, s2, s3⟩ := LR_step (tv := tv) (now := now) (gained := gained) hL hr hT hSt
      have hE : ∀ p, p < n → E p < 11 := fun p hp => (hL.1.2.2.2.2.2 p hp).2.2
      have he : ∀ p, p < n → easel p = nI (E p) := fun p hp => (hL.2.1.2.2.2.2 p hp).2.2
      have s4 : f_X2_haveSides face painters had easel = some (mpN n (hdS E F had) had) := by
        rw [hL.2.1.1, hL.2.1.2.2.2.1]
        exact have6 hn hL.1.2.1 he hE
      obtain ⟨a, v, g', n', q1, q2⟩ := ih (i + 1) fu1 fu2 _ _ _ _ _ _ _ _ (mpN n (pbN tv rule pose n F L S K N E) now) (mpN n (fun j => gained j + pbN tv rule pose n F L S K N E j) gained) (by omega) (by omega) (by omega) s3 (had_step hH)
      refine ⟨a, v, g', n', ?_, ?_⟩
      · show f_X6_round_34 _ _ _ _ _ _ _ _ _ (lq5 _ fu1) (nI i) _ _ _ _ = _
        generalize lq5 (f_X6_round_34 lamp stove rule painters kind number pleased (nI q) ts) fu1 = kp at q1 ⊢
        unfold f_X6_round_34
        rw [if_neg hlt, if_pos hin, cl_nI (show q ≤ 2147483647 by omega), if_neg hd, s4, hts2, hts1]
        simp only [Option.bind_some]
        rw [s1]
        simp only [Option.bind_some]
        rw [nI_1]
        exact q1
      · show f_X7_round_24 _ _ _ _ _ _ _ _ _ _ (lq5 _ fu2) (nI i) _ _ _ _ = _
        generalize lq5 (f_X7_round_24 rule many (room0 0) (room0 3) (mpN 24 rows0 was) kinds tv nT (nI q) ts) fu2 = kp at q2 ⊢
        unfold f_X7_round_24
        rw [if_neg hlt, if_pos y1, y2, if_neg (by rw [← hH q hq]; exact hd), hts2, hts1, s2]
        simp only [Option.bind_some]
        rw [nI_1]
        exact q2
theorem A_round {th : Int32 × Int32 × Int32 × Int32 × Int32 × Int32 × (Nat → Int32) × (Nat → Int32) × (Nat → Int32) × (Nat → Int32) × (Nat → Int32)} (h : RG nT n F L S K N E face lamp stove pose rule painters kind number easel had pleased many kinds rows room) :
    ∃ a v fw' pw' g' w' n', f_X6_round l1 l2 face lamp stove pose rule painters th.1 th.2.1 th.2.2.1 th.2.2.2.1 th.2.2.2.2.1 th.2.2.2.2.2.1 kind th.2.2.2.2.2.2.1 number th.2.2.2.2.2.2.2.1 easel th.2.2.2.2.2.2.2.2.1 had th.2.2.2.2.2.2.2.2.2.1 pleased th.2.2.2.2.2.2.2.2.2.2 = some (a, v) ∧ f_X7_round l1 l2 rule many fw pw room gained rows was now kinds tv nT = some (a, fw', pw', room, g', rows, w', n') := by
  have hn := h.1.1
  have hp := h.2.1.2.2.2.1
  have hmany := h.2.2.1.1
  have hL : LR n F L S K N E lamp stove painters many kind number kinds rows room face pose easel room rows := ⟨h.1, h.2.1, h.2.2.1, fun _ _ => rfl, fun _ _ _ => rfl⟩
  unfold f_X6_round f_X7_round
  rw [show f_X2_has l1 painters = some (bz (decide (0 ≤ l1.toInt ∧ l1.toInt < n))) from by rw [hp]; exact has6 _ hn, show f_X7_isOne l1 many = some (bz (decide (0 ≤ l1.toInt ∧ l1.toInt < n))) from by rw [hmany]; exact isOne7 _ hn, isTurnStep6, isTurnStep7]
  simp only [Option.bind_some, bz_0, decide_eq_false_iff_not]
  by_cases a : 0 ≤ l1.toInt ∧ l1.toInt < n
  · have na : ¬ ¬ (0 ≤ l1.toInt ∧ l1.toInt < n) := fun h => h a
    rw [if_neg na, if_neg na]
    by_cases b : tsok l2 = true
    · have nb : ¬ tsok l2 = false := by rw [b]; decide
      rw [if_neg nb, if_neg nb, take6, aside7]
      simp only [Option.bind_some]
      obtain ⟨q, hq, rfl⟩ := nn_of a.1
      rw [nI_toInt hq] at a
      obtain ⟨T, St, hT, hSt, -, t1, t2⟩ := ts_of b
      obtain ⟨a, v, g', n', q1, q2⟩ := round_loop (tv := tv) (was := was) (pleased := pleased) t1 t2 h.2.2.2.1 hT hSt (show q < n by omega) 41 0 200 200 F E face pose easel had room rows now (mpN 6 (fun _ => 0) gained) (by omega) (by omega) (by omega) hL h.2.2.2.2.2.1
      exact ⟨a, v, _, _, g', _, n', q1, q2⟩
    · have b' : tsok l2 = false := by simpa using b
      rw [if_pos b', if_pos b']
      exact ⟨_, _, _, _, _, _, _, rfl, rfl⟩
  · rw [if_pos a, if_pos a]
    exact ⟨_, _, _, _, _, _, _, rfl, rfl⟩
end
