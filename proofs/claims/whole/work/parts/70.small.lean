/-! ## painter, set, pose, force, count, feed, image, back -/
section
variable {tv : Int32 → Int32 → Int32 → Int32 → Int32 → Int32 → Int32 → Int32 → Int32} {nT n F L S s z q w P : Nat} {K N E : Nat → Nat} {face lamp stove pose rule painters many fw pw l1 l2 l3 l4 ts wasv opn : Int32} {kind number easel had pleased kinds rows rows0 room room0 now gained was it iT so ss its its0 val : Nat → Int32}
theorem RG_congr {rows' room' kinds' : Nat → Int32} (h : RG nT n F L S K N E face lamp stove pose rule painters kind number easel had pleased many kinds rows room) (h1 : ∀ j, j < 24 → rows' j = rows j) (h2 : ∀ j, j < 4 → room' j = room j) (h3 : ∀ j, j < n → kinds' j = kinds j) : RG nT n F L S K N E face lamp stove pose rule painters kind number easel had pleased many kinds' rows' room' := by
  obtain ⟨hO, hX, hM, hr, hnT, hh, hpl⟩ := h
  have hn := hO.1
  refine ⟨hO, hX, ⟨hM.1, by rw [h2 0 (by decide)]; exact hM.2.1, by rw [h2 1 (by decide)]; exact hM.2.2.1, by rw [h2 2 (by decide)]; exact hM.2.2.2.1, by rw [h2 3 (by decide)]; exact hM.2.2.2.2.1, fun p hp => ⟨by rw [h3 p hp]; exact (hM.2.2.2.2.2 p hp).1, by rw [h1 (4 * p) (by omega)]; exact (hM.2.2.2.2.2 p hp).2.1, by rw [h1 (4 * p + 1) (by omega)]; exact (hM.2.2.2.2.2 p hp).2.2⟩⟩, hr, hnT, fun p hp => by rw [h1 (4 * p + 2) (by omega)]; exact hh p hp, fun p hp => by rw [h1 (4 * p + 3) (by omega)]; exact hpl p hp⟩
theorem A_painter (h : RG nT n F L S K N E face lamp stove pose rule painters kind number easel had pleased many kinds rows room) :
    ∃ a p' e' k' nu' h' pl' rows' kinds', f_X6_painter l1 l2 l3 painters easel kind number had pleased = some (a, p', e', k', nu', h', pl') ∧ f_X7_painter l1 l2 l3 many rows kinds = some (a, p', rows', kinds') ∧ (∀ j, j < n → kinds' j = kinds j) ∧ ∃ n' K' N' E', n ≤ n' ∧ RG nT n' F L S K' N' E' face lamp stove pose rule p' k' nu' e' h' pl' p' kinds' rows' room := by
  have hrg := h
  obtain ⟨hO, hX, hM, hr, hnT, hh, hpl⟩ := h
  have hn := hO.1
  have hp := hX.2.2.2.1
  have hmany := hM.1
  have hE : ∀ p, p < n → E p < 11 := fun p hp => (hO.2.2.2.2.2 p hp).2.2
  have he6 : ∀ p, p < n → easel p = nI (E p) := fun p hp => (hX.2.2.2.2 p hp).2.2
  have he7 : ∀ p, p < n → rows (4 * p + 1) = nI (E p) := fun p hp => (hM.2.2.2.2.2 p hp).2.2
  have same : ∀ a : Int32, ∃ a' p' e' k' nu' h' pl' rows' kinds', some (a, nI n, easel, kind, number, had, pleased) = some (a', p', e', k', nu', h', pl') ∧ some (a, nI n, rows, kinds) = some (a', p', rows', kinds') ∧ (∀ j, j < n → kinds' j = kinds j) ∧ ∃ n' K' N' E', n ≤ n' ∧ RG nT n' F L S K' N' E' face lamp stove pose rule p' k' nu' e' h' pl' p' kinds' rows' room := by
    intro a
    refine ⟨a, nI n, easel, kind, number, had, pleased, rows, kinds, rfl, rfl, fun _ _ => rfl, n, K, N, E, Nat.le_refl _, ?_⟩
    rw [hp, hmany] at hrg
    exact hrg
  rw [hp, hmany]
  unfold f_X6_painter f_X7_painter
  have hfr : f_X7_isFreeFor l3 6 (nI n) rows = some (bz (decide (0 ≤ l3.toInt ∧ l3.toInt < 11) && frE n E l3.toInt.toNat)) := by
    have := isFreeFor7 (p := 6) hn hO.2.2.2.2.1 he7 hE (by decide) l3
    rw [decide_eq_false (show ¬ 6 < n by omega), Bool.false_and, Bool.or_false] at this
    exact this
  rw [isKind6, isFree6 hn he6 hE, in7i, in7i, hfr, e0, e5, e9]
  simp only [Option.bind_some, bz_0, decide_eq_false_iff_not]
  by_cases a : 0 ≤ l1.toInt ∧ l1.toInt < 6
  · rw [if_neg (show ¬ ¬ (0 ≤ l1.toInt ∧ l1.toInt < 6) from fun h => h a), if_neg (show ¬ ¬ (0 ≤ l1.toInt ∧ l1.toInt ≤ 5) from fun h => h (by omega))]
    by_cases b : 0 ≤ l2.toInt ∧ l2.toInt ≤ 9
    · rw [if_neg (show ¬ l2 < 0 by rw [lt_i, i0]; omega), if_neg (show ¬ 10 ≤ l2 by rw [le_i, i10]; omega), if_neg (show ¬ ¬ (0 ≤ l2.toInt ∧ l2.toInt ≤ 9) from fun h => h b)]
      by_cases c : (decide (0 ≤ l3.toInt ∧ l3.toInt < 11) && frE n E l3.toInt.toNat) = true
      · have nc : ¬ (decide (0 ≤ l3.toInt ∧ l3.toInt < 11) && frE n E l3.toInt.toNat) = false := by rw [c]; decide
        rw [if_neg nc, if_neg nc]
        by_cases d : n = 6
        · subst d
          rw [if_neg (by decide), if_pos (by decide)]
          exact same _
        · have hin : inb (nI n) 6 = true := inb_nI (by omega) (by decide)
          obtain ⟨y0, z0⟩ := ix0 (show n < 6 by omega)
          obtain ⟨y1, z1⟩ := ix1 (show n < 6 by omega)
          obtain ⟨y2, z2⟩ := ix2 (show n < 6 by omega)
          obtain ⟨y3, z3⟩ := ix3 (show n < 6 by omega)
          unfold f_X2_come
          rw [if_pos (show nI n < 6 by rw [lt_i, i6, nI_toInt (by omega)]; omega), if_pos hin, if_pos hin, if_pos hin, if_pos hin, if_pos hin, if_neg (show ¬ nI n = 6 by rw [show (6 : Int32) = nI 6 from rfl, eq_nI] <;> omega), if_pos hin, if_pos y0, if_pos y1, if_pos y2, if_pos y3, z0, z1, z2, z3, cl_nI (show n ≤ 2147483647 by omega), nI_1]
          simp only [Option.bind_some]
          rw [Bool.and_eq_true, decide_eq_true_eq] at c
          obtain ⟨k, hk, rfl⟩ := nn_of a.1
          obtain ⟨nu, hnu, rfl⟩ := nn_of b.1
          obtain ⟨e, he, rfl⟩ := nn_of c.1.1
          rw [nI_toInt hk] at a
          rw [nI_toInt hnu] at b
          rw [nI_toInt he, Int.toNat_natCast] at c
          have hfe := frE_iff.mp c.2
          refine ⟨_, _, _, _, _, _, _, _, _, rfl, rfl, ?_, n + 1, upE K n k, upE N n nu, upE E n e, by omega, ?_, ?_, ?_, hr, hnT, ?_, ?_⟩
          · intro j hj
            unfold upd; rw [if_neg (by omega)]
          · refine ⟨by omega, hO.2.1, hO.2.2.1, hO.2.2.2.1, ?_, ?_⟩
            · intro x y hx hy exy
              unfold upE at exy
              by_cases x1 : x = n
              · by_cases y1 : y = n
                · rw [x1, y1]
                · rw [if_pos x1, if_neg y1] at exy
                  exact absurd exy.symm (hfe y (by omega))
              · by_cases y1 : y = n
                · rw [if_neg x1, if_pos y1] at exy
                  exact absurd exy (hfe x (by omega))
                · rw [if_neg x1, if_neg y1] at exy
                  exact hO.2.2.2.2.1 x y (by omega) (by omega) exy
            · intro p hp'
              unfold upE
              by_cases x1 : p = n
              · rw [if_pos x1, if_pos x1, if_pos x1]; omega
              · rw [if_neg x1, if_neg x1, if_neg x1]; exact hO.2.2.2.2.2 p (by omega)
          · refine ⟨hX.1, hX.2.1, hX.2.2.1, rfl, ?_⟩
            intro p hp'
            unfold upE upd
            by_cases x1 : p = n
            · rw [if_pos x1, if_pos x1, if_pos x1, if_pos x1, if_pos x1, if_pos x1]; exact ⟨rfl, rfl, rfl⟩
            · rw [if_neg x1, if_neg x1, if_neg x1, if_neg x1, if_neg x1, if_neg x1]; exact hX.2.2.2.2 p (by omega)
          · refine ⟨rfl, hM.2.1, hM.2.2.1, hM.2.2.2.1, hM.2.2.2.2.1, ?_⟩
            intro p hp'
            unfold upE upd
            by_cases x1 : p = n
            · rw [if_pos x1, if_pos x1, if_pos x1, if_pos x1]
              refine ⟨rfl, ?_, ?_⟩
              · rw [if_neg (by omega), if_neg (by omega), if_neg (by omega), if_pos (by omega)]
              · rw [if_neg (by omega), if_neg (by omega), if_pos (by omega)]
            · rw [if_neg x1, if_neg x1, if_neg x1, if_neg x1]
              refine ⟨(hM.2.2.2.2.2 p (by omega)).1, ?_, ?_⟩
              · rw [if_neg (by omega), if_neg (by omega), if_neg (by omega), if_neg (by omega)]; exact (hM.2.2.2.2.2 p (by omega)).2.1
              · rw [if_neg (by omega), if_neg (by omega), if_neg (by omega), if_neg (by omega)]; exact (hM.2.2.2.2.2 p (by omega)).2.2
          · intro p hp'
            unfold upd
            by_cases x1 : p = n
            · rw [if_pos x1, if_neg (by omega), if_pos (by omega)]
            · rw [if_neg x1, if_neg (by omega), if_neg (by omega), if_neg (by omega), if_neg (by omega)]; exact hh p (by omega)
          · intro p hp'
            unfold upd
            by_cases x1 : p = n
            · rw [if_pos x1, if_pos (by omega)]
            · rw [if_neg x1, if_neg (by omega), if_neg (by omega), if_neg (by omega), if_neg (by omega)]; exact hpl p (by omega)
      · have c' : (decide (0 ≤ l3.toInt ∧ l3.toInt < 11) && frE n E l3.toInt.toNat) = false := by simpa using c
        rw [if_pos c', if_pos c']
        exact same _
    · rw [if_pos b]
      by_cases b1 : l2 < 0
      · rw [if_pos b1]; exact same _
      · rw [if_neg b1]
        rw [lt_i, i0] at b1
        rw [if_pos (show 10 ≤ l2 by rw [le_i, i10]; omega)]; exact same _
  · rw [if_pos a, if_pos (show ¬ (0 ≤ l1.toInt ∧ l1.toInt ≤ 5) by omega)]
    exact same _
theorem A_pose (h : RG nT n F L S K N E face lamp stove pose rule painters kind number easel had pleased many kinds rows room) (hP : P ≤ 999) (hPe : pose = nI P) :
    ∃ a f po e h' pl rows' room' now' g', f_X6_pose l1 face lamp stove pose rule painters easel number kind had pleased tv nT = some (a, f, po, e, h', pl) ∧ f_X7_pose l1 rule many room rows now gained kinds tv nT = some (a, room', rows', now', g') ∧ ∃ F' E' P', P' ≤ 999 ∧ po = nI P' ∧ RG nT n F' L S K N E' f lamp stove po rule painters kind number e h' pl many kinds rows' room' := by
  have hrg := h
  obtain ⟨hO, hX, hM, hr, hnT, hh, hpl⟩ := h
  unfold f_X6_pose f_X7_pose
  rw [isTurnStep6, isTurnStep7, c3, hM.2.2.2.2.1]
  simp only [Option.bind_some, bz_0]
  by_cases b : tsok l1 = true
  · have nb : ¬ tsok l1 = false := by rw [b]; decide
    rw [if_neg nb, if_neg nb]
    by_cases d : P = 999
    · rw [if_neg (show ¬ pose < 999 by rw [hPe, lt_i, i999, nI_toInt (by omega)]; omega), if_pos (show pose = 999 by rw [hPe, d]; rfl)]
      exact ⟨_, _, _, _, _, _, _, _, _, _, rfl, rfl, F, E, P, hP, hPe, hrg⟩
    · rw [if_pos (show pose < 999 by rw [hPe, lt_i, i999, nI_toInt (by omega)]; omega), if_neg (show ¬ pose = 999 by rw [hPe, show (999 : Int32) = nI 999 from rfl, eq_nI] <;> omega)]
      obtain ⟨T, St, hT, hSt, -, t1, t2⟩ := ts_of b
      rw [t2, t1, whole6 hO hX hr hnT, pass6 hO hX hr hnT hT hSt, passes7 hO hM hr hT hSt]
      refine ⟨_, _, _, _, _, _, _, _, _, _, rfl, rfl, (F + T) % 11, shE E St, P + 1, by omega, by rw [hPe]; exact nI_1 P, OK_pass hO, RX_pass hX, RM_pass hM, hr, hnT, had_step hh, ?_⟩
      intro p hp
      show mpN n (plS (pbN tv rule pose n F L S K N E) pleased) pleased p = rwS n St F E (pbN tv rule pose n F L S K N E) rows (4 * p + 3)
      unfold rwS
      rw [mpN_lt hp, mp4_ne (by decide) (by decide), mp4_eq (by decide) hp]
      unfold plS
      rw [hpl p hp]
  · have b' : tsok l1 = false := by simpa using b
    rw [if_pos b', if_pos b']
    exact ⟨_, _, _, _, _, _, _, _, _, _, rfl, rfl, F, E, P, hP, hPe, hrg⟩
theorem A_force (h : RG nT n F L S K N E face lamp stove pose rule painters kind number easel had pleased many kinds rows room) :
    ∃ a r', f_X6_force l1 (nI nT) rule = some (a, r') ∧ f_X7_force l1 (nI nT) rule = some (a, r') ∧ RG nT n F L S K N E face lamp stove pose r' painters kind number easel had pleased many kinds rows room := by
  have hrg := h
  obtain ⟨hO, hX, hM, hr, hnT, hh, hpl⟩ := h
  have hr1 := inb_iff.mp hr
  have e : (nI nT - 1).toInt = nT - 1 := by
    rw [sub_i (by rw [nI_toInt (by omega), i1]; omega) (by rw [nI_toInt (by omega), i1]; omega), nI_toInt (by omega), i1]
  unfold f_X6_force f_X7_force
  rw [in7i, e0, l64, e]
  simp only [Option.bind_some, bz_0, decide_eq_false_iff_not]
  by_cases a : 0 ≤ l1.toInt ∧ l1.toInt < nT
  · rw [if_neg (show ¬ l1 < 0 by rw [lt_i, i0]; omega), if_pos (show l1 < nI nT by rw [lt_i, nI_toInt (by omega)]; omega), if_neg (show ¬ ¬ (0 ≤ l1.toInt ∧ l1.toInt ≤ (nT : Int) - 1) from fun h => h (by omega))]
    exact ⟨_, _, rfl, rfl, hO, hX, hM, inb_iff.mpr a, hnT, hh, hpl⟩
  · rw [if_pos (show ¬ (0 ≤ l1.toInt ∧ l1.toInt ≤ (nT : Int) - 1) by omega)]
    by_cases b : l1 < 0
    · rw [if_pos b]; exact ⟨_, _, rfl, rfl, hrg⟩
    · rw [if_neg b]
      rw [lt_i, i0] at b
      rw [if_neg (show ¬ l1 < nI nT by rw [lt_i, nI_toInt (by omega)]; omega)]; exact ⟨_, _, rfl, rfl, hrg⟩
theorem A_count {sz : Int32} (h : RG nT n F L S K N E face lamp stove pose rule painters kind number easel had pleased many kinds rows room) :
    ∃ a, f_X6_count l1 (nI nT) pose rule painters sz = some a ∧ f_X7_count l1 (nI nT) rule sz many room = some a := by
  obtain ⟨hO, hX, hM, hr, hnT, hh, hpl⟩ := h
  unfold f_X6_count f_X7_count
  rw [in7i, e0, e5, c3, hM.2.2.2.2.1, hM.1, hX.2.2.2.1]
  simp only [Option.bind_some, bz_0, decide_eq_false_iff_not]
  by_cases a : 0 ≤ l1.toInt ∧ l1.toInt ≤ 5
  · rw [if_neg (show ¬ ¬ (0 ≤ l1.toInt ∧ l1.toInt ≤ 5) from fun h => h a)]
    obtain ⟨w, hw, rfl⟩ := nn_of a.1
    rw [nI_toInt hw] at a
    rcases (show w = 0 ∨ w = 1 ∨ w = 2 ∨ w = 3 ∨ w = 4 ∨ w = 5 by omega) with rfl | rfl | rfl | rfl | rfl | rfl <;> exact ⟨_, rfl, rfl⟩
  · rw [if_pos a, if_neg (fun e => a (by rw [e, i0]; omega)), if_neg (fun e => a (by rw [e, i1]; omega)), if_neg (fun e => a (by rw [e, i2]; omega)), if_neg (fun e => a (by rw [e, i3]; omega)), if_neg (fun e => a (by rw [e, i4]; omega)), if_neg (fun e => a (by rw [e, i5]; omega))]
    exact ⟨_, rfl, rfl⟩
/-- the tape of both sides -/
def TPr (z : Nat) (size : Int32) (tp : Nat → Int32) (taped : Int32) (tp7 : Nat → Int32) : Prop := z ≤ 160 ∧ size = nI z ∧ taped = nI z ∧ ∀ j, j < z → tp j = tp7 j ∧ 0 ≤ (tp j).toInt ∧ (tp j).toInt ≤ 255
theorem A_feed {size taped : Int32} {tp tp7 : Nat → Int32} (h : TPr z size tp taped tp7) :
    ∃ a size' tp' taped' tp7', f_X6_feed l1 size tp = some (a, size', tp') ∧ f_X7_feed l1 taped tp7 = some (a, taped', tp7') ∧ ∃ z', TPr z' size' tp' taped' tp7' := by
  have h0 := h
  obtain ⟨hz, rfl, rfl, ht⟩ := h
  unfold f_X6_feed f_X7_feed f_X1_add
  rw [in7i, e0, e255]
  simp only [Option.bind_some, bz_0, decide_eq_false_iff_not]
  by_cases a : 0 ≤ l1.toInt ∧ l1.toInt ≤ 255
  · rw [if_neg (show ¬ l1 < 0 by rw [lt_i, i0]; omega), if_pos (show l1 ≤ 255 by rw [le_i, i255]; omega), if_neg (show ¬ ¬ (0 ≤ l1.toInt ∧ l1.toInt ≤ 255) from fun h => h a)]
    by_cases d : z = 160
    · subst d
      rw [if_neg (by decide), if_pos (by decide)]
      exact ⟨_, _, _, _, _, rfl, rfl, 160, h0⟩
    · have hin : inb (nI z) 160 = true := inb_nI (by omega) (by decide)
      rw [if_pos (show nI z < 160 by rw [lt_i, i160, nI_toInt (by omega)]; omega), if_neg (show ¬ 160 ≤ nI z by rw [le_i, i160, nI_toInt (by omega)]; omega), if_pos hin, if_neg (show ¬ nI z = 160 by rw [show (160 : Int32) = nI 160 from rfl, eq_nI] <;> omega), if_pos hin, cl_nI (by omega), nI_1]
      refine ⟨_, _, _, _, _, rfl, rfl, z + 1, by omega, rfl, rfl, ?_⟩
      intro j hj
      show upd tp z l1 j = upd tp7 z l1 j ∧ 0 ≤ (upd tp z l1 j).toInt ∧ (upd tp z l1 j).toInt ≤ 255
      unfold upd
      by_cases x : j = z
      · rw [if_pos x, if_pos x]; exact ⟨rfl, a.1, a.2⟩
      · rw [if_neg x, if_neg x]; exact ht j (by omega)
  · rw [if_pos a]
    by_cases b : l1 < 0
    · rw [if_pos b]; exact ⟨_, _, _, _, _, rfl, rfl, z, h0⟩
    · rw [if_neg b]
      rw [lt_i, i0] at b
      rw [if_neg (show ¬ l1 ≤ 255 by rw [le_i, i255]; omega)]; exact ⟨_, _, _, _, _, rfl, rfl, z, h0⟩
theorem image7 {rowsK roomK : Nat → Int32} : f_X7_image rule many rows rowsK room roomK = some (many, many, rule, mpN 24 rows rowsK, mpN 4 room roomK) := by
  have key2 : ∀ (rk : Nat → Int32) (k i fu : Nat), i + k = 24 → k < fu → lq2 (f_X7_image_27 rule many rows rk) fu (nI i) (mpN i rows rowsK) = some (many, many, rule, mpN 24 rows rowsK, rk) := by
    intro rk k
    induction k with
    | zero =>
      intro i fu h1 h2
      obtain ⟨fu, rfl⟩ : ∃ g, fu = g + 1 := ⟨fu - 1, by omega⟩
      show f_X7_image_27 _ _ _ _ (lq2 _ fu) (nI i) _ = _
      unfold f_X7_image_27
      rw [if_pos (by rw [show (24 : Int32) = nI 24 from rfl, le_nI] <;> omega), show i = 24 by omega]
    | succ k ih =>
      intro i fu h1 h2
      obtain ⟨fu, rfl⟩ : ∃ g, fu = g + 1 := ⟨fu - 1, by omega⟩
      show f_X7_image_27 _ _ _ _ (lq2 _ fu) (nI i) _ = _
      have ih' := ih (i + 1) fu
      generalize lq2 (f_X7_image_27 rule many rows rk) fu = kp at ih' ⊢
      unfold f_X7_image_27
      rw [if_neg (by rw [show (24 : Int32) = nI 24 from rfl, le_nI] <;> omega), if_pos (inb_nI (by omega) (by decide)), if_pos (inb_nI (by omega) (by decide)), cl_nI (by omega), nI_1, mpN_up]
      exact ih' (by omega) (by omega)
  have key : ∀ (k i fu : Nat), i + k = 4 → k < fu → lq2 (f_X7_image_2 rule many rows rowsK room) fu (nI i) (mpN i room roomK) = some (many, many, rule, mpN 24 rows rowsK, mpN 4 room roomK) := by
    intro k
    induction k with
    | zero =>
      intro i fu h1 h2
      obtain ⟨fu, rfl⟩ : ∃ g, fu = g + 1 := ⟨fu - 1, by omega⟩
      show f_X7_image_2 _ _ _ _ _ (lq2 _ fu) (nI i) _ = _
      unfold f_X7_image_2
      rw [if_pos (by rw [show (4 : Int32) = nI 4 from rfl, le_nI] <;> omega), show i = 4 by omega]
      have := key2 (mpN 4 room roomK) 24 0 200 (by omega) (by omega)
      rw [mpN_0] at this
      exact this
    | succ k ih =>
      intro i fu h1 h2
      obtain ⟨fu, rfl⟩ : ∃ g, fu = g + 1 := ⟨fu - 1, by omega⟩
      show f_X7_image_2 _ _ _ _ _ (lq2 _ fu) (nI i) _ = _
      have ih' := ih (i + 1) fu
      generalize lq2 (f_X7_image_2 rule many rows rowsK room) fu = kp at ih' ⊢
      unfold f_X7_image_2
      rw [if_neg (by rw [show (4 : Int32) = nI 4 from rfl, le_nI] <;> omega), if_pos (inb_nI (by omega) (by decide)), if_pos (inb_nI (by omega) (by decide)), cl_nI (by omega), nI_1, mpN_up]
      exact ih' (by omega) (by omega)
  unfold f_X7_image
  have := key 4 0 200 (by omega) (by omega)
  rw [mpN_0] at this
  exact this
theorem back7 {manyK ruleK : Int32} {rowsK roomK : Nat → Int32} (hk : manyK ≠ -1) : f_X7_back rule many manyK ruleK rowsK rows roomK room = some (manyK, ruleK, manyK, mpN 24 rowsK rows, mpN 4 roomK room) := by
  have key2 : ∀ (rk : Nat → Int32) (k i fu : Nat), i + k = 24 → k < fu → lq2 (f_X7_back_38 manyK ruleK rowsK rk) fu (nI i) (mpN i rowsK rows) = some (manyK, ruleK, manyK, mpN 24 rowsK rows, rk) := by
    intro rk k
    induction k with
    | zero =>
      intro i fu h1 h2
      obtain ⟨fu, rfl⟩ : ∃ g, fu = g + 1 := ⟨fu - 1, by omega⟩
      show f_X7_back_38 _ _ _ _ (lq2 _ fu) (nI i) _ = _
      unfold f_X7_back_38
      rw [if_pos (by rw [show (24 : Int32) = nI 24 from rfl, le_nI] <;> omega), show i = 24 by omega]
    | succ k ih =>
      intro i fu h1 h2
      obtain ⟨fu, rfl⟩ : ∃ g, fu = g + 1 := ⟨fu - 1, by omega⟩
      show f_X7_back_38 _ _ _ _ (lq2 _ fu) (nI i) _ = _
      have ih' := ih (i + 1) fu
      generalize lq2 (f_X7_back_38 manyK ruleK rowsK rk) fu = kp at ih' ⊢
      unfold f_X7_back_38
      rw [if_neg (by rw [show (24 : Int32) = nI 24 from rfl, le_nI] <;> omega), if_pos (inb_nI (by omega) (by decide)), if_pos (inb_nI (by omega) (by decide)), cl_nI (by omega), nI_1, mpN_up]
      exact ih' (by omega) (by omega)
  have key : ∀ (k i fu : Nat), i + k = 4 → k < fu → lq2 (f_X7_back_13 manyK ruleK rowsK rows roomK) fu (nI i) (mpN i roomK room) = some (manyK, ruleK, manyK, mpN 24 rowsK rows, mpN 4 roomK room) := by
    intro k
    induction k with
    | zero =>
      intro i fu h1 h2
      obtain ⟨fu, rfl⟩ : ∃ g, fu = g + 1 := ⟨fu - 1, by omega⟩
      show f_X7_back_13 _ _ _ _ _ (lq2 _ fu) (nI i) _ = _
      unfold f_X7_back_13
      rw [if_pos (by rw [show (4 : Int32) = nI 4 from rfl, le_nI] <;> omega), show i = 4 by omega]
      have := key2 (mpN 4 roomK room) 24 0 200 (by omega) (by omega)
      rw [mpN_0] at this
      exact this
    | succ k ih =>
      intro i fu h1 h2
      obtain ⟨fu, rfl⟩ : ∃ g, fu = g + 1 := ⟨fu - 1, by omega⟩
      show f_X7_back_13 _ _ _ _ _ (lq2 _ fu) (nI i) _ = _
      have ih' := ih (i + 1) fu
      generalize lq2 (f_X7_back_13 manyK ruleK rowsK rows roomK) fu = kp at ih' ⊢
      unfold f_X7_back_13
      rw [if_neg (by rw [show (4 : Int32) = nI 4 from rfl, le_nI] <;> omega), if_pos (inb_nI (by omega) (by decide)), if_pos (inb_nI (by omega) (by decide)), cl_nI (by omega), nI_1, mpN_up]
      exact ih' (by omega) (by omega)
  unfold f_X7_back
  rw [if_neg hk]
  have := key 4 0 200 (by omega) (by omega)
  rw [mpN_0] at this
  exact this
/-- set -/
theorem A_set (h : RG nT n F L S K N E face lamp stove pose rule painters kind number easel had pleased many kinds rows room) (hP : P ≤ 999) (hPe : pose = nI P) :
    ∃ a f l st po e nu rows' room', f_X6_set l1 l2 l3 face lamp stove pose painters easel number kind had pleased = some (a, f, l, st, po, e, nu) ∧ f_X7_set l1 l2 l3 rule many rows kinds room tv nT = some (a, rule, rows', kinds, room') ∧ ∃ F' L' S' N' E' P', P' ≤ 999 ∧ po = nI P' ∧ RG nT n F' L' S' K N' E' f l st po rule painters kind nu e had pleased many kinds rows' room' := by
  have hrg := h
  have hn := h.1.1
  have hE : ∀ p, p < n → E p < 11 := fun p hp => (h.1.2.2.2.2.2 p hp).2.2
  have he6 : ∀ p, p < n → easel p = nI (E p) := fun p hp => (h.2.1.2.2.2.2 p hp).2.2
  have he7 : ∀ p, p < n → rows (4 * p + 1) = nI (E p) := fun p hp => (h.2.2.1.2.2.2.2.2 p hp).2.2
  have hp := h.2.1.2.2.2.1
  have hmany := h.2.2.1.1
  have same : ∃ a f l st po e nu rows' room', some ((-2 : Int32), face, lamp, stove, pose, easel, number) = some (a, f, l, st, po, e, nu) ∧ some ((-2 : Int32), rule, rows, kinds, room) = some (a, rule, rows', kinds, room') ∧ ∃ F' L' S' N' E' P', P' ≤ 999 ∧ po = nI P' ∧ RG nT n F' L' S' K N' E' f l st po rule painters kind nu e had pleased many kinds rows' room' :=
    ⟨_, _, _, _, _, _, _, _, _, rfl, rfl, F, L, S, N, E, P, hP, hPe, hrg⟩
  obtain ⟨⟨hO1, hO2, hO3, hO4, hO5, hO6⟩, ⟨hX1, hX2, hX3, hX4, hX5⟩, ⟨hM1, hM2, hM3, hM4, hM5, hM6⟩, hr, hnT, hh, hpl⟩ := h
  unfold f_X6_set f_X7_set f_X7_set_25
  rw [in7i, e0, e5]
  simp only [Option.bind_some, bz_0, decide_eq_false_iff_not]
  by_cases a : 0 ≤ l1.toInt ∧ l1.toInt ≤ 5
  · rw [if_neg (show ¬ ¬ (0 ≤ l1.toInt ∧ l1.toInt ≤ 5) from fun h => h a)]
    obtain ⟨w, hw, rfl⟩ := nn_of a.1
    rw [nI_toInt hw] at a
    unfold f_X6_maySet f_X7_isValue
    rcases (show w = 0 ∨ w = 1 ∨ w = 2 ∨ w = 3 ∨ w = 4 ∨ w = 5 by omega) with rfl | rfl | rfl | rfl | rfl | rfl
    · rw [isEasel6, in7i, in7i, in7i, e0, e10, if_pos (show nI 0 = 0 from rfl), if_pos (show nI 0 ≤ 3 by decide), if_neg (show ¬ nI 0 = 5 by decide), if_neg (show ¬ 3 ≤ nI 0 by decide)]
      simp only [Option.bind_some]
      rw [if_pos (bz_Z _), if_pos (bz_Z _)]
      simp only [Option.bind_some, bz_0, decide_eq_false_iff_not]
      by_cases c : 0 ≤ l3.toInt ∧ l3.toInt < 11
      · rw [if_neg (show ¬ ¬ (0 ≤ l3.toInt ∧ l3.toInt < 11) from fun h => h c), if_neg (show ¬ ¬ (0 ≤ l3.toInt ∧ l3.toInt ≤ 10) from fun h => h (by omega))]
        obtain ⟨v, hv, rfl⟩ := nn_of c.1
        rw [nI_toInt hv] at c
        have ht : f_X7_told l2 (nI 0) rule many rows kinds room tv nT = some face := by rw [hX1, ← hM2]; unfold f_X7_told; rw [in7i]; rfl
        rw [ht]
        exact ⟨_, _, _, _, _, _, _, _, _, rfl, rfl, v, L, S, N, E, P, hP, hPe, ⟨hO1, by omega, hO3, hO4, hO5, hO6⟩, ⟨rfl, hX2, hX3, hX4, hX5⟩, ⟨hM1, rfl, hM3, hM4, hM5, hM6⟩, hr, hnT, hh, hpl⟩
      · rw [if_pos c, if_pos (show ¬ (0 ≤ l3.toInt ∧ l3.toInt ≤ 10) by omega)]; exact same
    · rw [isEasel6, in7i, in7i, in7i, e0, e10, if_neg (show ¬ nI 1 = 0 by decide), if_pos (show nI 1 = 1 from rfl), if_pos (show nI 1 ≤ 3 by decide), if_neg (show ¬ nI 1 = 5 by decide), if_neg (show ¬ 3 ≤ nI 1 by decide)]
      simp only [Option.bind_some]
      rw [if_pos (bz_Z _), if_pos (bz_Z _)]
      simp only [Option.bind_some, bz_0, decide_eq_false_iff_not]
      by_cases c : 0 ≤ l3.toInt ∧ l3.toInt < 11
      · rw [if_neg (show ¬ ¬ (0 ≤ l3.toInt ∧ l3.toInt < 11) from fun h => h c), if_neg (show ¬ ¬ (0 ≤ l3.toInt ∧ l3.toInt ≤ 10) from fun h => h (by omega))]
        obtain ⟨v, hv, rfl⟩ := nn_of c.1
        rw [nI_toInt hv] at c
        have ht : f_X7_told l2 (nI 1) rule many rows kinds room tv nT = some lamp := by rw [hX2, ← hM3]; unfold f_X7_told; rw [in7i]; rfl
        rw [ht]
        exact ⟨_, _, _, _, _, _, _, _, _, rfl, rfl, F, v, S, N, E, P, hP, hPe, ⟨hO1, hO2, by omega, hO4, hO5, hO6⟩, ⟨hX1, rfl, hX3, hX4, hX5⟩, ⟨hM1, hM2, rfl, hM4, hM5, hM6⟩, hr, hnT, hh, hpl⟩
      · rw [if_pos c, if_pos (show ¬ (0 ≤ l3.toInt ∧ l3.toInt ≤ 10) by omega)]; exact same
    · rw [isEasel6, in7i, in7i, in7i, e0, e10, if_neg (show ¬ nI 2 = 0 by decide), if_neg (show ¬ nI 2 = 1 by decide), if_pos (show nI 2 = 2 from rfl), if_pos (show nI 2 ≤ 3 by decide), if_neg (show ¬ nI 2 = 5 by decide), if_neg (show ¬ 3 ≤ nI 2 by decide)]
      simp only [Option.bind_some]
      rw [if_pos (bz_Z _), if_pos (bz_Z _)]
      simp only [Option.bind_some, bz_0, decide_eq_false_iff_not]
      by_cases c : 0 ≤ l3.toInt ∧ l3.toInt < 11
      · rw [if_neg (show ¬ ¬ (0 ≤ l3.toInt ∧ l3.toInt < 11) from fun h => h c), if_neg (show ¬ ¬ (0 ≤ l3.toInt ∧ l3.toInt ≤ 10) from fun h => h (by omega))]
        obtain ⟨v, hv, rfl⟩ := nn_of c.1
        rw [nI_toInt hv] at c
        have ht : f_X7_told l2 (nI 2) rule many rows kinds room tv nT = some stove := by rw [hX3, ← hM4]; unfold f_X7_told; rw [in7i]; rfl
        rw [ht]
        exact ⟨_, _, _, _, _, _, _, _, _, rfl, rfl, F, L, v, N, E, P, hP, hPe, ⟨hO1, hO2, hO3, by omega, hO5, hO6⟩, ⟨hX1, hX2, rfl, hX4, hX5⟩, ⟨hM1, hM2, hM3, rfl, hM5, hM6⟩, hr, hnT, hh, hpl⟩
      · rw [if_pos c, if_pos (show ¬ (0 ≤ l3.toInt ∧ l3.toInt ≤ 10) by omega)]; exact same
    · rw [in7i, in7i, in7i, e0, e999, if_neg (show ¬ nI 3 = 0 by decide), if_neg (show ¬ nI 3 = 1 by decide), if_neg (show ¬ nI 3 = 2 by decide), if_pos (show nI 3 = 3 from rfl), if_pos (show nI 3 ≤ 3 by decide), if_neg (show ¬ nI 3 = 5 by decide), if_pos (show 3 ≤ nI 3 by decide), if_pos (show nI 3 = 3 from rfl)]
      simp only [Option.bind_some]
      rw [if_pos (bz_Z _)]
      simp only [Option.bind_some, bz_0, decide_eq_false_iff_not]
      by_cases c : 0 ≤ l3.toInt ∧ l3.toInt ≤ 999
      · rw [if_neg (show ¬ l3 < 0 by rw [lt_i, i0]; omega), if_neg (show ¬ 999 < l3 by rw [lt_i, i999]; omega), if_neg (show ¬ ¬ (0 ≤ l3.toInt ∧ l3.toInt ≤ 999) from fun h => h c)]
        obtain ⟨v, hv, rfl⟩ := nn_of c.1
        rw [nI_toInt hv] at c
        have ht : f_X7_told l2 (nI 3) rule many rows kinds room tv nT = some pose := by rw [← hM5]; unfold f_X7_told; rw [in7i]; rfl
        rw [ht]
        exact ⟨_, _, _, _, _, _, _, _, _, rfl, rfl, F, L, S, N, E, v, by omega, rfl, ⟨hO1, hO2, hO3, hO4, hO5, hO6⟩, ⟨hX1, hX2, hX3, hX4, hX5⟩, ⟨hM1, hM2, hM3, hM4, rfl, hM6⟩, hr, hnT, hh, hpl⟩
      · rw [if_pos c]
        by_cases d : l3 < 0
        · rw [if_pos d]; exact same
        · rw [if_neg d]
          rw [lt_i, i0] at d
          rw [if_pos (show 999 < l3 by rw [lt_i, i999]; omega)]; exact same
    · rw [show f_X2_has l2 painters = some (bz (decide (0 ≤ l2.toInt ∧ l2.toInt < n))) from by rw [hp]; exact has6 _ hn, show f_X7_isOne l2 many = some (bz (decide (0 ≤ l2.toInt ∧ l2.toInt < n))) from by rw [hmany]; exact isOne7 _ hn, in7i, in7i, in7i, e0, e9, if_neg (show ¬ nI 4 = 0 by decide), if_neg (show ¬ nI 4 = 1 by decide), if_neg (show ¬ nI 4 = 2 by decide), if_neg (show ¬ nI 4 = 3 by decide), if_pos (show nI 4 = 4 from rfl), if_neg (show ¬ nI 4 ≤ 3 by decide), if_neg (show ¬ nI 4 = 5 by decide), if_pos (show 3 ≤ nI 4 by decide), if_neg (show ¬ nI 4 = 3 by decide)]
      simp only [Option.bind_some, bz_0, decide_eq_false_iff_not]
      rw [if_pos (bz_Z _)]
      simp only [Option.bind_some, bz_0, decide_eq_false_iff_not]
      by_cases b : 0 ≤ l2.toInt ∧ l2.toInt < n
      · have nb : ¬ ¬ (0 ≤ l2.toInt ∧ l2.toInt < n) := fun h => h b
        rw [if_neg nb, if_neg nb]
        by_cases c : 0 ≤ l3.toInt ∧ l3.toInt ≤ 9
        · rw [if_neg (show ¬ l3 < 0 by rw [lt_i, i0]; omega), if_neg (show ¬ 10 ≤ l3 by rw [le_i, i10]; omega), if_neg (show ¬ ¬ (0 ≤ l3.toInt ∧ l3.toInt ≤ 9) from fun h => h c)]
          simp only [Option.bind_some]
          rw [if_neg (show ¬ (1 : Int32) = 0 by decide)]
          obtain ⟨v, hv, rfl⟩ := nn_of c.1
          rw [nI_toInt hv] at c
          obtain ⟨q, hq', rfl⟩ := nn_of b.1
          rw [nI_toInt hq'] at b
          have hq : q < n := by omega
          have hin : inb (nI q) 6 = true := inb_nI (by omega) (by decide)
          have hcl : (nI q).toNatClampNeg = q := cl_nI (by omega)
          have ht : f_X7_told (nI q) (nI 4) rule many rows kinds room tv nT = some (number q) := by rw [hmany, (hX5 q hq).2.1, ← (hM6 q hq).2.1]; exact toldW (w := 2) (by decide) (by decide) hq hn
          have ht6 : f_X2_toldPlain (nI q) (nI 4) face lamp stove pose easel number kind had pleased = some (number q) := by
            unfold f_X2_toldPlain
            rw [if_neg (by decide), if_neg (by decide), if_neg (by decide), if_neg (by decide), if_pos (by decide), if_pos hin, hcl]
          have hl : f_X7_lays (nI 4) (nI q) (nI v) rule kinds rows room = some (layF 2 q (nI v) (rule, kinds, rows, room)) := lays7 (w := 2) (st := (rule, kinds, rows, room)) (by decide) (by decide) (by omega)
          have hpt : f_X2_put (nI 4) (nI q) (nI v) face lamp stove pose easel number = some (face, lamp, stove, pose, easel, upd number q (nI v)) := by
            unfold f_X2_put
            rw [if_neg (by decide), if_neg (by decide), if_neg (by decide), if_neg (by decide), if_pos (by decide), if_pos hin, hcl]
          rw [ht, ht6, hl, hpt]
          refine ⟨_, _, _, _, _, _, _, _, _, rfl, rfl, F, L, S, upE N q v, E, P, hP, hPe, ⟨hO1, hO2, hO3, hO4, hO5, ?_⟩, ⟨hX1, hX2, hX3, hX4, ?_⟩, ⟨hM1, hM2, hM3, hM4, hM5, ?_⟩, hr, hnT, ?_, ?_⟩
          · intro p hp'
            refine ⟨(hO6 p hp').1, ?_, (hO6 p hp').2.2⟩
            unfold upE
            split
            · omega
            · exact (hO6 p hp').2.1
          · intro p hp'
            refine ⟨(hX5 p hp').1, ?_, (hX5 p hp').2.2⟩
            show upd number q (nI v) p = nI (upE N q v p)
            unfold upd upE
            by_cases x : p = q
            · rw [if_pos x, if_pos x]
            · rw [if_neg x, if_neg x]; exact (hX5 p hp').2.1
          · intro p hp'
            refine ⟨(hM6 p hp').1, ?_, ?_⟩
            · show upd rows (4 * q) (nI v) (4 * p) = nI (upE N q v p)
              unfold upd upE
              by_cases x : p = q
              · rw [if_pos (by omega), if_pos x]
              · rw [if_neg (by omega), if_neg x]; exact (hM6 p hp').2.1
            · show upd rows (4 * q) (nI v) (4 * p + 1) = nI (E p)
              unfold upd
              rw [if_neg (by omega)]; exact (hM6 p hp').2.2
          · intro p hp'
            show had p = upd rows (4 * q) (nI v) (4 * p + 2)
            unfold upd
            rw [if_neg (by omega)]; exact hh p hp'
          · intro p hp'
            show pleased p = upd rows (4 * q) (nI v) (4 * p + 3)
            unfold upd
            rw [if_neg (by omega)]; exact hpl p hp'
        · rw [if_pos c]
          by_cases d : l3 < 0
          · rw [if_pos d]; exact same
          · rw [if_neg d]
            rw [lt_i, i0] at d
            rw [if_pos (show 10 ≤ l3 by rw [le_i, i10]; omega)]; exact same
      · rw [if_pos b, if_pos b]; exact same
    · rw [show f_X2_has l2 painters = some (bz (decide (0 ≤ l2.toInt ∧ l2.toInt < n))) from by rw [hp]; exact has6 _ hn, show f_X7_isOne l2 many = some (bz (decide (0 ≤ l2.toInt ∧ l2.toInt < n))) from by rw [hmany]; exact isOne7 _ hn, if_neg (show ¬ nI 5 = 0 by decide), if_neg (show ¬ nI 5 = 1 by decide), if_neg (show ¬ nI 5 = 2 by decide), if_neg (show ¬ nI 5 = 3 by decide), if_neg (show ¬ nI 5 = 4 by decide), if_pos (show nI 5 = 5 from rfl), if_neg (show ¬ nI 5 ≤ 3 by decide), if_pos (show nI 5 = 5 from rfl)]
      simp only [Option.bind_some, bz_0, decide_eq_false_iff_not]
      by_cases b : 0 ≤ l2.toInt ∧ l2.toInt < n
      · have nb : ¬ ¬ (0 ≤ l2.toInt ∧ l2.toInt < n) := fun h => h b
        rw [if_neg nb, if_neg nb]
        obtain ⟨q, hq', rfl⟩ := nn_of b.1
        rw [nI_toInt hq'] at b
        have hq : q < n := by omega
        have hin : inb (nI q) 6 = true := inb_nI (by omega) (by decide)
        have hcl : (nI q).toNatClampNeg = q := cl_nI (by omega)
        have hms : f_X2_maySitAt (nI q) l3 painters easel = some (bz (decide (0 ≤ l3.toInt ∧ l3.toInt < 11) && (frE n E l3.toInt.toNat || E q == l3.toInt.toNat))) := by rw [hp]; exact maySit6 hn hq he6 hE l3
        have hff : f_X7_isFreeFor l3 (nI q) many rows = some (bz (decide (0 ≤ l3.toInt ∧ l3.toInt < 11) && (frE n E l3.toInt.toNat || E q == l3.toInt.toNat))) := by
          have := isFreeFor7 (p := q) hn hO5 he7 hE (by omega) l3
          rw [decide_eq_true hq, Bool.true_and] at this
          rw [hmany]; exact this
        rw [hms, hff]
        simp only [Option.bind_some, bz_0]
        rw [if_pos (bz_Z _)]
        simp only [Option.bind_some, bz_0]
        by_cases c : (decide (0 ≤ l3.toInt ∧ l3.toInt < 11) && (frE n E l3.toInt.toNat || E q == l3.toInt.toNat)) = true
        · have nc : ¬ (decide (0 ≤ l3.toInt ∧ l3.toInt < 11) && (frE n E l3.toInt.toNat || E q == l3.toInt.toNat)) = false := by rw [c]; decide
          rw [if_neg nc, if_neg nc]
          simp only [Option.bind_some]
          rw [if_neg (show ¬ (1 : Int32) = 0 by decide)]
          rw [Bool.and_eq_true, decide_eq_true_eq, Bool.or_eq_true, beq_iff_eq] at c
          obtain ⟨v, hv, rfl⟩ := nn_of c.1.1
          rw [nI_toInt hv, Int.toNat_natCast] at c
          have ht : f_X7_told (nI q) (nI 5) rule many rows kinds room tv nT = some (easel q) := by rw [hmany, he6 q hq, ← he7 q hq]; exact toldW (w := 3) (by decide) (by decide) hq hn
          have ht6 : f_X2_toldPlain (nI q) (nI 5) face lamp stove pose easel number kind had pleased = some (easel q) := by
            unfold f_X2_toldPlain
            rw [if_neg (by decide), if_neg (by decide), if_neg (by decide), if_neg (by decide), if_neg (by decide), if_pos (by decide), if_pos hin, hcl]
          have hl : f_X7_lays (nI 5) (nI q) (nI v) rule kinds rows room = some (layF 3 q (nI v) (rule, kinds, rows, room)) := lays7 (w := 3) (st := (rule, kinds, rows, room)) (by decide) (by decide) (by omega)
          have hpt : f_X2_put (nI 5) (nI q) (nI v) face lamp stove pose easel number = some (face, lamp, stove, pose, upd easel q (nI v), number) := by
            unfold f_X2_put
            rw [if_neg (by decide), if_neg (by decide), if_neg (by decide), if_neg (by decide), if_neg (by decide), if_pos hin, hcl]
          have hfr : ∀ p, p < n → p ≠ q → E p ≠ v := by
            intro p hp' hpq
            rcases c.2 with hk | hk
            · exact frE_iff.mp hk p hp'
            · intro e1; exact hpq (hO5 p q hp' hq (by rw [e1, hk]))
          rw [ht, ht6, hl, hpt]
          refine ⟨_, _, _, _, _, _, _, _, _, rfl, rfl, F, L, S, N, upE E q v, P, hP, hPe, OK_up ⟨hO1, hO2, hO3, hO4, hO5, hO6⟩ (by omega) hfr, RX_up (easel := easel) ⟨hX1, hX2, hX3, hX4, hX5⟩ (fun _ _ => rfl), RM_up (rows := rows) ⟨hM1, hM2, hM3, hM4, hM5, hM6⟩ (fun _ _ => rfl), hr, hnT, ?_, ?_⟩
          · intro p hp'
            show had p = upd rows (4 * q + 1) (nI v) (4 * p + 2)
            unfold upd
            rw [if_neg (by omega)]; exact hh p hp'
          · intro p hp'
            show pleased p = upd rows (4 * q + 1) (nI v) (4 * p + 3)
            unfold upd
            rw [if_neg (by omega)]; exact hpl p hp'
        · have c' : (decide (0 ≤ l3.toInt ∧ l3.toInt < 11) && (frE n E l3.toInt.toNat || E q == l3.toInt.toNat)) = false := by simpa using c
          rw [if_pos c', if_pos c']; exact same
      · rw [if_pos b, if_pos b]; exact same
  · rw [if_pos a]
    unfold f_X6_maySet
    rw [if_neg (fun e => a (by rw [e, i0]; omega)), if_neg (fun e => a (by rw [e, i1]; omega)), if_neg (fun e => a (by rw [e, i2]; omega)), if_neg (fun e => a (by rw [e, i3]; omega)), if_neg (fun e => a (by rw [e, i4]; omega)), if_neg (fun e => a (by rw [e, i5]; omega))]
    exact same
end
