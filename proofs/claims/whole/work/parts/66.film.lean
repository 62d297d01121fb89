/-! ## sheets; film -/
/-- one sheet of both sides -/
def SHr (s : Nat) (sort size : Int32) (it iT so ss its : Nat → Int32) : Prop :=
  (sort = -1 ∧ iT s = 0) ∨ (∃ c z : Nat, c ≤ 2 ∧ z ≤ 40 ∧ sort = nI c ∧ iT s = 1 ∧ so s = nI c ∧ size = nI z ∧ ss s = nI z ∧ ∀ i, i < z → it i = its (40 * s + i))
/-- the other sheets of the reference are as they were -/
def SHo (s : Nat) (iT so ss its iT' so' ss' its' : Nat → Int32) : Prop :=
  ∀ t, t ≠ s → iT' t = iT t ∧ so' t = so t ∧ ss' t = ss t ∧ ∀ i, i < 40 → its' (40 * t + i) = its (40 * t + i)
theorem SHo_rfl {s : Nat} {iT so ss its : Nat → Int32} : SHo s iT so ss its iT so ss its := fun _ _ => ⟨rfl, rfl, rfl, fun _ _ => rfl⟩
theorem SHr_other {s t : Nat} {sort size : Int32} {it iT so ss its iT' so' ss' its' : Nat → Int32} (h : SHr t sort size it iT so ss its) (ho : SHo s iT so ss its iT' so' ss' its') (hn : t ≠ s) : SHr t sort size it iT' so' ss' its' := by
  obtain ⟨h1, h2, h3, h4⟩ := ho t hn
  rcases h with ⟨a, b⟩ | ⟨c, z, hc, hz, a1, a2, a3, a4, a5, a6⟩
  · exact Or.inl ⟨a, by rw [h1]; exact b⟩
  · exact Or.inr ⟨c, z, hc, hz, a1, by rw [h1]; exact a2, by rw [h2]; exact a3, a4, by rw [h3]; exact a5, fun i hi => by rw [h4 i (by omega)]; exact a6 i hi⟩
theorem isSheet7 (x : Int32) : f_X7_isSheet x = some (bz (decide (0 ≤ x.toInt ∧ x.toInt < 4))) := by
  unfold f_X7_isSheet
  rw [in7i, e0, e3]
  simp only [Option.bind_some]
  rw [if_pos (bz_Z _)]
  congr 2
  rw [decide_eq_decide]; omega
theorem ix40 {s i : Nat} (hs : s < 4) (hi : i < 40) : inb ((40 * nI s) + nI i) 160 = true ∧ ((40 * nI s) + nI i).toNatClampNeg = 40 * s + i := by
  have e : (40 * nI s) + nI i = nI (40 * s + i) := by
    apply iext
    have h1 : (40 * nI s).toInt = 40 * s := by
      rw [mul_i, i40, nI_toInt (by omega)] <;> rw [i40, nI_toInt (by omega)] <;> omega
    have h2 : (nI i).toInt = i := nI_toInt (by omega)
    rw [add_i (by rw [h1, h2]; omega) (by rw [h1, h2]; omega), h1, h2, nI_toInt (by omega)]
    omega
  rw [e]
  exact ⟨inb_nI (by omega) (by decide), cl_nI (by omega)⟩
/-- the items of a sheet laid to 0 -/
def zr (s z : Nat) (it : Nat → Int32) : Nat → Int32 := fun j => if 40 * s ≤ j ∧ j < 40 * s + z then 0 else it j
theorem zr_up {s z : Nat} {it : Nat → Int32} : upd (zr s z it) (40 * s + z) 0 = zr s (z + 1) it := by
  funext j
  unfold upd zr
  by_cases c : j = 40 * s + z
  · rw [if_pos c, if_pos (by omega)]
  · rw [if_neg c]
    by_cases d : 40 * s ≤ j ∧ j < 40 * s + z
    · rw [if_pos d, if_pos (by omega)]
    · rw [if_neg d, if_neg (by omega)]
theorem zr_0 {s : Nat} {it : Nat → Int32} : zr s 0 it = it := by
  funext j; unfold zr; rw [if_neg (by omega)]
theorem sheet77 {s c z : Nat} {iT so ss it : Nat → Int32} (hs : s < 4) (hc : c ≤ 2) (hz : z ≤ 40) : ∀ (k i fu : Nat), i + k = z → k < fu → lq2 (f_X7_sheet_77 iT so ss (nI s) (nI c) (nI z)) fu (nI i) (zr s i it) = some (1, iT, so, ss, zr s z it) := by
  intro k
  induction k with
  | zero =>
    intro i fu h1 h2
    obtain ⟨fu, rfl⟩ : ∃ g, fu = g + 1 := ⟨fu - 1, by omega⟩
    show f_X7_sheet_77 _ _ _ _ _ _ (lq2 _ fu) (nI i) _ = _
    unfold f_X7_sheet_77
    rw [if_pos (by rw [le_nI] <;> omega), show i = z by omega]
  | succ k ih =>
    intro i fu h1 h2
    obtain ⟨fu, rfl⟩ : ∃ g, fu = g + 1 := ⟨fu - 1, by omega⟩
    show f_X7_sheet_77 _ _ _ _ _ _ (lq2 _ fu) (nI i) _ = _
    have ih' := ih (i + 1) fu
    generalize lq2 (f_X7_sheet_77 iT so ss (nI s) (nI c) (nI z)) fu = kp at ih' ⊢
    obtain ⟨y1, y2⟩ := ix40 hs (show i < 40 by omega)
    unfold f_X7_sheet_77
    rw [if_neg (by rw [le_nI] <;> omega), if_neg (by rw [lt_i, i0, nI_toInt (by omega)]; omega), if_pos y1, y2, nI_1, zr_up]
    exact ih' (by omega) (by omega)
theorem sheet7 {s c z : Nat} {iT so ss it : Nat → Int32} (hs : s < 4) (hc : c ≤ 2) (hz : z ≤ 40) : f_X7_sheet (nI s) (nI c) (nI z) iT so ss it = some (1, upd iT s 1, upd so s (nI c), upd ss s (nI z), zr s z it) := by
  have hin : inb (nI s) 4 = true := inb_nI (by omega) (by decide)
  have hc0 : ¬ nI c < 0 := by rw [lt_i, i0, nI_toInt (by omega)]; omega
  unfold f_X7_sheet f_X7_sheet_34 f_X7_sheet_45 f_X7_sheet_59
  rw [isSheet7, in7i, nI_toInt (by omega), nI_toInt (by omega), decide_eq_true (show 0 ≤ (s : Int) ∧ (s : Int) < 4 by omega), em1, e2, decide_eq_true (show -1 ≤ (c : Int) ∧ (c : Int) ≤ 2 by omega)]
  simp only [Option.bind_some]
  rw [if_neg (by decide), if_neg (by decide), if_neg hc0, if_pos (by rw [show (40 : Int32) = nI 40 from rfl, le_nI] <;> omega), if_neg hc0, if_pos (by rw [le_i, i0, nI_toInt (by omega)]; omega), if_neg hc0, if_pos hin, if_pos hin, if_pos hin, cl_nI (by omega)]
  have := sheet77 (iT := upd iT s (vp_nar .boolean 1)) (so := upd so s (nI c)) (ss := upd ss s (nI z)) (it := it) hs hc hz z 0 200 (by omega) (by omega)
  rw [zr_0] at this
  exact this
theorem sh16 {x : Int32} (h1 : -32768 ≤ x.toInt) (h2 : x.toInt ≤ 32767) : (Int32.toInt16 x).toInt32 = x := by
  apply iext
  rw [Int16.toInt_toInt32, Int32.toInt_toInt16, Int.bmod_def]
  omega
theorem upd_lt {a b : Nat → Int32} {s z : Nat} {v : Int32} (h : ∀ i, i < z → a i = b (40 * s + i)) (hw : (i : Nat) → i < z → a i = b (40 * s + i) := h) (k : Nat) : ∀ i, i < z → upd a k v i = upd b (40 * s + k) v (40 * s + i) := by
  intro i hi
  unfold upd
  by_cases c : i = k
  · rw [if_pos c, if_pos (by omega)]
  · rw [if_neg c, if_neg (by omega)]; exact h i hi
section
variable {tv : Int32 → Int32 → Int32 → Int32 → Int32 → Int32 → Int32 → Int32 → Int32} {nT n F L S s z : Nat} {K N E : Nat → Nat} {face lamp stove pose rule painters many fw pw l1 l2 l3 l4 : Int32} {kind number easel had pleased kinds rows rows0 room room0 now gained was it iT so ss its its0 : Nat → Int32}
theorem film_loop {T St q : Nat} {ts : Int32} (hts1 : ts / 100 = nI T) (hts2 : ts - ts / 100 * 100 = nI St) (hr : inb rule nT = true) (hnT : nT ≤ 6) (hT : T < 11) (hSt : St < 11) (hq : q < n) (hs : s < 4) (hz : z ≤ 20) :
    ∀ (k i fu1 fu2 : Nat) (F : Nat) (E : Nat → Nat) (face pose : Int32) (easel room rows now gained it its : Nat → Int32), i + k = z → k < fu1 → k < fu2 → LR n F L S K N E lamp stove painters many kind number kinds rows0 room0 face pose easel room rows → (∀ j, j < z → it j = its (40 * s + j)) → (∀ j, ¬ (40 * s ≤ j ∧ j < 40 * s + z) → its j = its0 j) →
      ∃ v it' its' g' n', lq5 (f_X6_film_70 1 (nI z) lamp stove rule painters kind number had pleased tv nT (nI q) ts (nI z)) fu1 (nI i) it face pose easel = some (nI z, 1, nI z, it', v) ∧ lq6 (f_X7_film_54 rule many (room0 0) (room0 3) iT so ss (mpN 24 rows0 was) kinds tv nT (nI s) (nI q) ts (nI z)) fu2 (nI i) its room gained rows now = some (nI z, room0 0, room0 3, iT, so, ss, its', room0, g', rows0, mpN 24 rows0 was, n') ∧ (∀ j, j < z → it' j = its' (40 * s + j)) ∧ (∀ j, ¬ (40 * s ≤ j ∧ j < 40 * s + z) → its' j = its0 j) := by
  intro k
  induction k with
  | zero =>
    intro i fu1 fu2 F E face pose easel room rows now gained it its h1 h2 h3 hL hi1 hi2
    obtain ⟨fu1, rfl⟩ : ∃ g, fu1 = g + 1 := ⟨fu1 - 1, by omega⟩
    obtain ⟨fu2, rfl⟩ : ∃ g, fu2 = g + 1 := ⟨fu2 - 1, by omega⟩
    refine ⟨(face, lamp, stove, pose, rule, painters, kind, number, easel, had, pleased), it, its, gained, now, ?_, ?_, hi1, hi2⟩
    · show f_X6_film_70 _ _ _ _ _ _ _ _ _ _ _ _ _ _ _ (lq5 _ fu1) (nI i) _ _ _ _ = _
      unfold f_X6_film_70
      rw [if_pos (by rw [le_nI] <;> omega)]
    · show f_X7_film_54 _ _ _ _ _ _ _ _ _ _ _ _ _ _ _ (lq6 _ fu2) (nI i) _ _ _ _ _ = _
      unfold f_X7_film_54
      rw [if_pos (by rw [le_nI] <;> omega), backs7' hL.2.2.2.1 hL.2.2.2.2]
      rfl
  | succ k ih =>
    intro i fu1 fu2 F E face pose easel room rows now gained it its h1 h2 h3 hL hi1 hi2
    obtain ⟨fu1, rfl⟩ : ∃ g, fu1 = g + 1 := ⟨fu1 - 1, by omega⟩
    obtain ⟨fu2, rfl⟩ : ∃ g, fu2 = g + 1 := ⟨fu2 - 1, by omega⟩
    have p6 := PB6 (tv := tv) (pose := pose) (p := q) hL.1 hL.2.1 hq hr hnT
    have p7 := PB7 (tv := tv) (p := q) hL.1 hL.2.2.1 hq hr
    obtain ⟨s1, s2, s3⟩ := LR_step (tv := tv) (now := now) (gained := gained) hL hr hT hSt
    have hbd := pbN_bd (tv := tv) (rule := rule) (pose := pose) (n := n) (F := F) (L := L) (S := S) (K := K) (N := N) (E := E) (p := q)
    obtain ⟨y1, y2⟩ := ix40 hs (show i < 40 by omega)
    obtain ⟨v, it', its', g', n', q1, q2, q3, q4⟩ := ih (i + 1) fu1 fu2 _ _ _ _ _ _ _ (mpN n (pbN tv rule pose n F L S K N E) now) (mpN n (fun j => gained j + pbN tv rule pose n F L S K N E j) gained) (upd it i (pbN tv rule pose n F L S K N E q)) (upd its (40 * s + i) (pbN tv rule pose n F L S K N E q)) (by omega) (by omega) (by omega) s3 (upd_lt hi1 (k := i)) (fun j hj => by unfold upd; rw [if_neg (by omega)]; exact hi2 j hj)
    refine ⟨v, it', its', g', n', ?_, ?_, q3, q4⟩
    · rw [← q1]
      show f_X6_film_70 _ _ _ _ _ _ _ _ _ _ _ _ _ _ _ (lq5 _ fu1) (nI i) _ _ _ _ = _
      generalize lq5 (f_X6_film_70 1 (nI z) lamp stove rule painters kind number had pleased tv nT (nI q) ts (nI z)) fu1 = kp
      unfold f_X6_film_70 f_X3_put
      rw [if_neg (by rw [le_nI] <;> omega), p6]
      simp only [Option.bind_some]
      rw [if_neg (by decide), if_pos trivial, if_pos (inb_nI (show i < 40 by omega) (by decide)), cl_nI (show i ≤ 2147483647 by omega), sh16 (by omega) (by omega), hts2, hts1, s1]
      simp only [Option.bind_some]
      rw [nI_1]
    · rw [← q2]
      show f_X7_film_54 _ _ _ _ _ _ _ _ _ _ _ _ _ _ _ (lq6 _ fu2) (nI i) _ _ _ _ _ = _
      generalize lq6 (f_X7_film_54 rule many (room0 0) (room0 3) iT so ss (mpN 24 rows0 was) kinds tv nT (nI s) (nI q) ts (nI z)) fu2 = kp
      unfold f_X7_film_54
      rw [if_neg (by rw [le_nI] <;> omega), p7]
      simp only [Option.bind_some]
      rw [if_pos y1, y2, hts2, hts1, s2]
      simp only [Option.bind_some]
      rw [nI_1]
theorem film_bad {sort size : Int32} {th : Int32 × Int32 × Int32 × Int32 × Int32 × Int32 × (Nat → Int32) × (Nat → Int32) × (Nat → Int32) × (Nat → Int32) × (Nat → Int32)} (h : ¬ (0 ≤ l1.toInt ∧ l1.toInt < 4)) :
    (∃ v, f_X6_film l1 l2 l3 l4 face lamp stove pose rule painters sort size it th.1 th.2.1 th.2.2.1 th.2.2.2.1 th.2.2.2.2.1 th.2.2.2.2.2.1 kind th.2.2.2.2.2.2.1 number th.2.2.2.2.2.2.2.1 easel th.2.2.2.2.2.2.2.2.1 had th.2.2.2.2.2.2.2.2.2.1 pleased th.2.2.2.2.2.2.2.2.2.2 tv nT = some (-2, sort, size, it, v)) ∧ f_X7_film l1 l2 l3 l4 rule many fw pw iT so ss its room gained rows was kinds now tv nT = some (-2, fw, pw, iT, so, ss, its, room, gained, rows, was, now) := by
  unfold f_X6_film f_X7_film
  rw [isSheet6, isSheet7, decide_eq_false h]
  exact ⟨⟨_, rfl⟩, rfl⟩
theorem A_film {sort size : Int32} {th : Int32 × Int32 × Int32 × Int32 × Int32 × Int32 × (Nat → Int32) × (Nat → Int32) × (Nat → Int32) × (Nat → Int32) × (Nat → Int32)} (h : RG nT n F L S K N E face lamp stove pose rule painters kind number easel had pleased many kinds rows room) (hs : s < 4) (hS : SHr s sort size it iT so ss its) :
    ∃ a so' sz' it' v fw' pw' iT7 so7 ss7 it7 g' w' n', f_X6_film (nI s) l2 l3 l4 face lamp stove pose rule painters sort size it th.1 th.2.1 th.2.2.1 th.2.2.2.1 th.2.2.2.2.1 th.2.2.2.2.2.1 kind th.2.2.2.2.2.2.1 number th.2.2.2.2.2.2.2.1 easel th.2.2.2.2.2.2.2.2.1 had th.2.2.2.2.2.2.2.2.2.1 pleased th.2.2.2.2.2.2.2.2.2.2 tv nT = some (a, so', sz', it', v) ∧ f_X7_film (nI s) l2 l3 l4 rule many fw pw iT so ss its room gained rows was kinds now tv nT = some (a, fw', pw', iT7, so7, ss7, it7, room, g', rows, w', n') ∧ SHr s so' sz' it' iT7 so7 ss7 it7 ∧ SHo s iT so ss its iT7 so7 ss7 it7 := by
  have hn := h.1.1
  have hp := h.2.1.2.2.2.1
  have hmany := h.2.2.1.1
  have hL : LR n F L S K N E lamp stove painters many kind number kinds rows room face pose easel room rows := ⟨h.1, h.2.1, h.2.2.1, fun _ _ => rfl, fun _ _ _ => rfl⟩
  unfold f_X6_film f_X7_film
  rw [isSheet6, isSheet7, nI_toInt (by omega), decide_eq_true (show 0 ≤ (s : Int) ∧ (s : Int) < 4 by omega), show f_X2_has l2 painters = some (bz (decide (0 ≤ l2.toInt ∧ l2.toInt < n))) from by rw [hp]; exact has6 _ hn, show f_X7_isOne l2 many = some (bz (decide (0 ≤ l2.toInt ∧ l2.toInt < n))) from by rw [hmany]; exact isOne7 _ hn, isTurnStep6, isTurnStep7, in7i]
  simp only [Option.bind_some, bz_0, decide_eq_false_iff_not, e0, e20]
  rw [if_neg (by decide), if_neg (show ¬ (true = false) by decide)]
  by_cases a : 0 ≤ l2.toInt ∧ l2.toInt < n
  · have na : ¬ ¬ (0 ≤ l2.toInt ∧ l2.toInt < n) := fun h => h a
    rw [if_neg na, if_neg na]
    by_cases b : tsok l3 = true
    · have nb : ¬ tsok l3 = false := by rw [b]; decide
      rw [if_neg nb, if_neg nb]
      by_cases c : 0 ≤ l4.toInt ∧ l4.toInt ≤ 20
      · rw [if_neg (show ¬ l4 < 0 by rw [lt_i, i0]; omega), if_pos (show l4 ≤ 20 by rw [le_i, i20]; omega), if_neg (show ¬ ¬ (0 ≤ l4.toInt ∧ l4.toInt ≤ 20) from fun h => h c), if_pos (inb_nI (show s < 4 by omega) (by decide)), take6, aside7]
        obtain ⟨q, hq, rfl⟩ := nn_of a.1
        rw [nI_toInt hq] at a
        obtain ⟨z, hz, rfl⟩ := nn_of c.1
        rw [nI_toInt hz] at c
        rw [show f_X7_sheet (nI s) 1 (nI z) iT so ss its = some (1, upd iT s 1, upd so s 1, upd ss s (nI z), zr s z its) from sheet7 (c := 1) hs (by decide) (by omega)]
        unfold f_X3_become
        rw [fill6 0 (by decide)]
        simp only [Option.bind_some]
        obtain ⟨T, St, hT, hSt, -, t1, t2⟩ := ts_of b
        obtain ⟨v, it', its', g', n', q1, q2, q3, q4⟩ := film_loop (tv := tv) (z := z) (s := s) (had := had) (pleased := pleased) (iT := upd iT s 1) (so := upd so s 1) (ss := upd ss s (nI z)) (was := was) (its0 := its) t1 t2 h.2.2.2.1 h.2.2.2.2.1 hT hSt (show q < n by omega) hs (by omega) z 0 200 200 F E face pose easel room rows now (mpN 6 (fun _ => 0) gained) (mpN 40 (fun _ => 0) it) (zr s z its) (by omega) (by omega) (by omega) hL (fun j hj => by unfold mpN zr; rw [if_pos (by omega), if_pos (by omega)]) (fun j hj => by unfold zr; rw [if_neg hj])
        refine ⟨_, _, _, _, v, _, _, _, _, _, its', g', _, n', q1, q2, ?_, ?_⟩
        · refine Or.inr ⟨1, z, by decide, by omega, rfl, ?_, ?_, rfl, ?_, q3⟩
          · unfold upd; rw [if_pos rfl]
          · unfold upd; rw [if_pos rfl]; rfl
          · unfold upd; rw [if_pos rfl]
        · intro t ht
          unfold upd
          rw [if_neg ht, if_neg ht, if_neg ht]
          exact ⟨rfl, rfl, rfl, fun i hi => q4 _ (by omega)⟩
      · rw [if_pos c]
        by_cases c1 : l4 < 0
        · rw [if_pos c1]
          exact ⟨_, _, _, _, _, _, _, _, _, _, _, _, _, _, rfl, rfl, hS, SHo_rfl⟩
        · rw [if_neg c1]
          rw [lt_i, i0] at c1
          rw [if_neg (show ¬ l4 ≤ 20 by rw [le_i, i20]; omega)]
          exact ⟨_, _, _, _, _, _, _, _, _, _, _, _, _, _, rfl, rfl, hS, SHo_rfl⟩
    · have b' : tsok l3 = false := by simpa using b
      rw [if_pos b', if_pos b']
      exact ⟨_, _, _, _, _, _, _, _, _, _, _, _, _, _, rfl, rfl, hS, SHo_rfl⟩
  · rw [if_pos a, if_pos a]
    exact ⟨_, _, _, _, _, _, _, _, _, _, _, _, _, _, rfl, rfl, hS, SHo_rfl⟩
end
