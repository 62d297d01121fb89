/-! ## sheet, cell, copy, painters, taken -/
section
variable {tv : Int32 → Int32 → Int32 → Int32 → Int32 → Int32 → Int32 → Int32 → Int32} {nT n F L S s z q w P : Nat} {K N E : Nat → Nat} {face lamp stove pose rule painters many fw pw l1 l2 l3 l4 l5 sort size : Int32} {kind number easel had pleased kinds rows room it iT so ss its : Nat → Int32}
theorem sheet_bad (h : ¬ (0 ≤ l1.toInt ∧ l1.toInt < 4)) : f_X6_sheet l1 l2 l3 sort size it = some (-2, sort, size, it) ∧ f_X7_sheet l1 l2 l3 iT so ss its = some (-2, iT, so, ss, its) := by
  unfold f_X6_sheet f_X7_sheet
  rw [isSheet6, isSheet7, decide_eq_false h]
  exact ⟨rfl, rfl⟩
theorem A_sheet (hs : s < 4) (hS : SHr s sort size it iT so ss its) :
    ∃ a so' sz' it' iT7 so7 ss7 it7, f_X6_sheet (nI s) l2 l3 sort size it = some (a, so', sz', it') ∧ f_X7_sheet (nI s) l2 l3 iT so ss its = some (a, iT7, so7, ss7, it7) ∧ SHr s so' sz' it' iT7 so7 ss7 it7 ∧ SHo s iT so ss its iT7 so7 ss7 it7 := by
  have hin : inb (nI s) 4 = true := inb_nI (by omega) (by decide)
  unfold f_X6_sheet
  rw [isSheet6, nI_toInt (by omega), decide_eq_true (show 0 ≤ (s : Int) ∧ (s : Int) < 4 by omega)]
  simp only [Option.bind_some]
  rw [if_neg (show ¬ bz true = 0 by decide)]
  by_cases a : l2 = -1
  · subst a
    rw [if_pos rfl, if_pos hin]
    unfold f_X3_become
    rw [fill6 0 (by decide)]
    have e : f_X7_sheet (nI s) (-1) l3 iT so ss its = some (1, upd iT s 0, upd so s (-1), upd ss s l3, its) := by
      have key : ∀ (fu : Nat) (a b c : Nat → Int32), lq2 (f_X7_sheet_77 a b c (nI s) (-1) l3) (fu + 1) 0 its = some (1, a, b, c, its) := by
        intro fu a b c
        show f_X7_sheet_77 _ _ _ _ _ _ (lq2 _ fu) 0 _ = _
        unfold f_X7_sheet_77
        rw [if_pos (show (-1 : Int32) < 0 by decide)]
        split <;> rfl
      unfold f_X7_sheet f_X7_sheet_34 f_X7_sheet_45 f_X7_sheet_59
      rw [isSheet7, in7i, nI_toInt (by omega), decide_eq_true (show 0 ≤ (s : Int) ∧ (s : Int) < 4 by omega), em1, e2, im1, decide_eq_true (show (-1 : Int) ≤ -1 ∧ (-1 : Int) ≤ 2 by omega)]
      simp only [Option.bind_some]
      have hlt : (-1 : Int32) < 0 := by decide
      rw [if_neg (by decide), if_neg (by decide), if_pos hlt, if_pos hlt, if_pos hlt, if_pos hin, if_pos hin, if_pos hin, cl_nI (by omega)]
      exact key 199 _ _ _
    rw [e]
    refine ⟨_, _, _, _, _, _, _, _, rfl, rfl, Or.inl ⟨rfl, ?_⟩, ?_⟩
    · unfold upd; rw [if_pos rfl]
    · intro t ht
      unfold upd
      rw [if_neg ht, if_neg ht, if_neg ht]
      exact ⟨rfl, rfl, rfl, fun _ _ => rfl⟩
  · rw [if_neg a, isSort6]
    simp only [Option.bind_some, bz_0, decide_eq_false_iff_not]
    have a' : l2.toInt ≠ -1 := fun e => a (iext e)
    by_cases b : 0 ≤ l2.toInt ∧ l2.toInt ≤ 2
    · rw [if_neg (show ¬ ¬ (0 ≤ l2.toInt ∧ l2.toInt ≤ 2) from fun h => h b)]
      obtain ⟨c, hc, rfl⟩ := nn_of b.1
      rw [nI_toInt hc] at b
      have hc0 : ¬ nI c < 0 := by rw [lt_i, i0, nI_toInt (by omega)]; omega
      by_cases d : l3.toInt ≤ 40
      · rw [if_pos (show l3 ≤ 40 by rw [le_i, i40]; omega)]
        by_cases e : 0 ≤ l3.toInt
        · obtain ⟨z, hz, rfl⟩ := nn_of e
          rw [nI_toInt hz] at d
          rw [if_pos (show 0 ≤ nI z by rw [le_i, i0, nI_toInt hz]; omega), if_pos hin, sheet7 hs (by omega) (by omega)]
          unfold f_X3_become
          rw [fill6 0 (by decide)]
          refine ⟨_, _, _, _, _, _, _, _, rfl, rfl, Or.inr ⟨c, z, by omega, by omega, rfl, ?_, ?_, rfl, ?_, ?_⟩, ?_⟩
          · unfold upd; rw [if_pos rfl]
          · unfold upd; rw [if_pos rfl]
          · unfold upd; rw [if_pos rfl]
          · intro i hi
            show mpN 40 (fun _ => 0) it i = zr s z its (40 * s + i)
            unfold mpN zr
            rw [if_pos (by omega), if_pos (by omega)]
          · intro t ht
            unfold upd
            rw [if_neg ht, if_neg ht, if_neg ht]
            exact ⟨rfl, rfl, rfl, fun i hi => by unfold zr; rw [if_neg (by omega)]⟩
        · rw [if_neg (show ¬ 0 ≤ l3 by rw [le_i, i0]; omega)]
          refine ⟨_, _, _, _, _, _, _, _, rfl, ?_, hS, SHo_rfl⟩
          unfold f_X7_sheet f_X7_sheet_34
          rw [isSheet7, in7i, nI_toInt (by omega), nI_toInt (by omega), decide_eq_true (show 0 ≤ (s : Int) ∧ (s : Int) < 4 by omega), em1, e2, decide_eq_true (show -1 ≤ (c : Int) ∧ (c : Int) ≤ 2 by omega)]
          simp only [Option.bind_some]
          rw [if_neg (by decide), if_neg (by decide), if_neg hc0, if_pos (show l3 ≤ 40 by rw [le_i, i40]; omega), if_neg hc0, if_neg (show ¬ 0 ≤ l3 by rw [le_i, i0]; omega)]
      · rw [if_neg (show ¬ l3 ≤ 40 by rw [le_i, i40]; omega)]
        refine ⟨_, _, _, _, _, _, _, _, rfl, ?_, hS, SHo_rfl⟩
        unfold f_X7_sheet
        rw [isSheet7, in7i, nI_toInt (by omega), nI_toInt (by omega), decide_eq_true (show 0 ≤ (s : Int) ∧ (s : Int) < 4 by omega), em1, e2, decide_eq_true (show -1 ≤ (c : Int) ∧ (c : Int) ≤ 2 by omega)]
        simp only [Option.bind_some]
        rw [if_neg (by decide), if_neg (by decide), if_neg hc0, if_neg (show ¬ l3 ≤ 40 by rw [le_i, i40]; omega)]
    · rw [if_pos b]
      refine ⟨_, _, _, _, _, _, _, _, rfl, ?_, hS, SHo_rfl⟩
      unfold f_X7_sheet
      rw [isSheet7, in7i, nI_toInt (by omega), decide_eq_true (show 0 ≤ (s : Int) ∧ (s : Int) < 4 by omega), em1, e2, decide_eq_false (show ¬ (-1 ≤ l2.toInt ∧ l2.toInt ≤ 2) by omega)]
      rfl
theorem has1 {i m : Int32} {z : Nat} (hz : z ≤ 40) : f_X3_hasItems i m (nI z) = some (bz (decide (0 ≤ i.toInt ∧ 0 ≤ m.toInt ∧ i.toInt + m.toInt ≤ z))) := by
  unfold f_X3_hasItems
  have hi := iMax i
  have hm := iMax m
  have ez : (nI z).toInt = z := nI_toInt (by omega)
  by_cases a : 0 ≤ i.toInt
  · rw [if_neg (show ¬ i < 0 by rw [lt_i, i0]; omega)]
    by_cases b : 0 ≤ m.toInt
    · rw [if_neg (show ¬ m < 0 by rw [lt_i, i0]; omega)]
      by_cases c : i.toInt ≤ z
      · rw [if_neg (show ¬ nI z < i by rw [lt_i, ez]; omega)]
        have es : (nI z - i).toInt = z - i.toInt := by rw [sub_i (by rw [ez]; omega) (by rw [ez]; omega), ez]
        by_cases d : i.toInt + m.toInt ≤ z
        · rw [if_neg (show ¬ nI z - i < m by rw [lt_i, es]; omega), decide_eq_true (by omega)]; rfl
        · rw [if_pos (show nI z - i < m by rw [lt_i, es]; omega), decide_eq_false (by omega)]; rfl
      · rw [if_pos (show nI z < i by rw [lt_i, ez]; omega), decide_eq_false (by omega)]; rfl
    · rw [if_pos (show m < 0 by rw [lt_i, i0]; omega), decide_eq_false (by omega)]; rfl
  · rw [if_pos (show i < 0 by rw [lt_i, i0]; omega), decide_eq_false (by omega)]; rfl
theorem cell_bad (h : ¬ (0 ≤ l1.toInt ∧ l1.toInt < 4)) : f_X6_cell l1 l2 l3 sort size it = some (-2, it) ∧ f_X7_cell l1 l2 l3 iT ss so its = some (-2, its) := by
  unfold f_X6_cell f_X7_cell
  rw [isSheet6, isSheet7, decide_eq_false h]
  exact ⟨rfl, rfl⟩
theorem upd_oth {s t i j : Nat} {v : Int32} (hst : t ≠ s) (hi : i < 40) (hj : j < 40) : upd its (40 * s + i) v (40 * t + j) = its (40 * t + j) := by
  unfold upd; rw [if_neg (by omega)]
theorem A_cell (hs : s < 4) (hS : SHr s sort size it iT so ss its) :
    ∃ a it' it7, f_X6_cell (nI s) l2 l3 sort size it = some (a, it') ∧ f_X7_cell (nI s) l2 l3 iT ss so its = some (a, it7) ∧ SHr s sort size it' iT so ss it7 ∧ SHo s iT so ss its iT so ss it7 := by
  have hin : inb (nI s) 4 = true := inb_nI (by omega) (by decide)
  unfold f_X6_cell f_X7_cell
  rw [isSheet6, isSheet7, nI_toInt (by omega), decide_eq_true (show 0 ≤ (s : Int) ∧ (s : Int) < 4 by omega)]
  simp only [Option.bind_some]
  have hb : ¬ bz true = 0 := by decide
  rw [if_neg hb, if_neg hb, if_pos hin, if_pos hin, cl_nI (by omega)]
  unfold f_X3_isMissing
  have hS0 := hS
  rcases hS with ⟨x1, x2⟩ | ⟨cc, z, hc, hz, x1, x2, x3, x4, x5, x6⟩
  · rw [if_pos x1, if_pos x2]
    simp only [Option.bind_some]
    rw [if_neg (by decide)]
    exact ⟨_, _, _, rfl, rfl, hS0, SHo_rfl⟩
  · have hne : ¬ sort = -1 := by rw [x1]; exact nI_m1 cc (by omega)
    have ez : (nI z).toInt = z := nI_toInt (by omega)
    have e1' : (nI z - 1).toInt = z - 1 := by rw [sub_i (by rw [ez, i1]; omega) (by rw [ez, i1]; omega), ez, i1]
    rw [if_neg hne, x2, if_neg (show ¬ (1 : Int32) = 0 by decide), if_pos hin, x4, x5, in7i, l64, e0, e1', x1, x3]
    simp only [Option.bind_some]
    rw [if_pos trivial, has1 hz]
    simp only [Option.bind_some, bz_0, decide_eq_false_iff_not, i1]
    by_cases d : 0 ≤ l2.toInt ∧ l2.toInt < z
    · rw [if_neg (show ¬ ¬ (0 ≤ l2.toInt ∧ (0 : Int) ≤ 1 ∧ l2.toInt + 1 ≤ z) from fun h => h (by omega)), if_neg (show ¬ ¬ (0 ≤ l2.toInt ∧ l2.toInt ≤ (z : Int) - 1) from fun h => h (by omega)), if_pos hin]
      obtain ⟨i, hi, rfl⟩ := nn_of d.1
      rw [nI_toInt hi] at d
      obtain ⟨y1, y2⟩ := ix40 hs (show i < 40 by omega)
      have hin40 : inb (nI i) 40 = true := inb_nI (by omega) (by decide)
      have fin : ∀ v : Int32, SHr s (nI cc) (nI z) (upd it i v) iT so ss (upd its (40 * s + i) v) ∧ SHo s iT so ss its iT so ss (upd its (40 * s + i) v) := by
        intro v
        exact ⟨Or.inr ⟨cc, z, hc, hz, rfl, x2, x3, rfl, x5, upd_lt x6 (k := i)⟩, fun t ht => ⟨rfl, rfl, rfl, fun j hj => upd_oth ht (by omega) hj⟩⟩
      unfold f_X3_put
      rw [if_pos y1, y2, if_pos hin40, cl_nI (by omega)]
      rcases (show cc = 0 ∨ cc = 1 ∨ cc = 2 by omega) with rfl | rfl | rfl
      · rw [if_pos (show nI 0 = 0 from rfl), if_pos (show nI 0 = 0 from rfl)]
        exact ⟨_, _, _, rfl, rfl, fin _⟩
      · rw [if_neg (show ¬ nI 1 = 0 by decide), if_pos (show nI 1 = 1 from rfl), if_pos hin40, if_neg (show ¬ nI 1 = 0 by decide), if_pos hin, if_pos (show nI 1 = 1 from rfl), if_pos y1]
        exact ⟨_, _, _, rfl, rfl, fin _⟩
      · rw [if_neg (show ¬ nI 2 = 0 by decide), if_neg (show ¬ nI 2 = 1 by decide), if_pos hin40, if_neg (show ¬ nI 2 = 0 by decide), if_pos hin, if_neg (show ¬ nI 2 = 1 by decide), if_pos y1]
        exact ⟨_, _, _, rfl, rfl, fin _⟩
    · rw [if_pos (show ¬ (0 ≤ l2.toInt ∧ (0 : Int) ≤ 1 ∧ l2.toInt + 1 ≤ z) by omega), if_pos (show ¬ (0 ≤ l2.toInt ∧ l2.toInt ≤ (z : Int) - 1) by omega)]
      rw [x1, x4] at hS0
      exact ⟨_, _, _, rfl, rfl, hS0, SHo_rfl⟩
theorem ix40k {s i k : Nat} (hs : s < 4) (hi : i + k < 40) : inb (((40 * nI s) + nI i) + nI k) 160 = true ∧ (((40 * nI s) + nI i) + nI k).toNatClampNeg = 40 * s + i + k := by
  have h1 := (ix40 hs (show i < 40 by omega))
  have e : ((40 * nI s) + nI i) + nI k = nI (40 * s + i + k) := by
    obtain ⟨m, hm, em⟩ := inb_of h1.1 (by decide)
    have : m = 40 * s + i := by have := h1.2; rw [em, cl_nI (by omega)] at this; exact this
    rw [em, this]
    apply iext
    have a1 : (nI (40 * s + i)).toInt = ((40 * s + i : Nat) : Int) := nI_toInt (by omega)
    have a2 : (nI k).toInt = (k : Int) := nI_toInt (by omega)
    rw [add_i (by rw [a1, a2]; omega) (by rw [a1, a2]; omega), a1, a2, nI_toInt (by omega)]
    omega
  rw [e]
  exact ⟨inb_nI (by omega) (by decide), cl_nI (by omega)⟩
theorem copy_up {o i j m : Nat} (hs : s < 4) (ho : o < 4) (hi : i + m ≤ 40) (hj : j + m ≤ 40) (hab : 40 * o + j ≤ 40 * s + i ∨ 40 * s + i + m ≤ 40 * o + j) :
    ∀ (k x fu : Nat), x + k = m → k < fu → lq2 (f_X7_copy_121 (nI s) (nI i) (nI o) (nI j) (nI m) 0) fu (nI x) (va_cpy its its (40 * s + i) (40 * o + j) x) = some (nI m, va_cpy its its (40 * s + i) (40 * o + j) m) := by
  intro k
  induction k with
  | zero =>
    intro x fu h1 h2
    obtain ⟨fu, rfl⟩ : ∃ g, fu = g + 1 := ⟨fu - 1, by omega⟩
    show f_X7_copy_121 _ _ _ _ _ _ (lq2 _ fu) (nI x) _ = _
    unfold f_X7_copy_121
    rw [if_pos (by rw [le_nI] <;> omega), show x = m by omega]
  | succ k ih =>
    intro x fu h1 h2
    obtain ⟨fu, rfl⟩ : ∃ g, fu = g + 1 := ⟨fu - 1, by omega⟩
    show f_X7_copy_121 _ _ _ _ _ _ (lq2 _ fu) (nI x) _ = _
    have ih' := ih (x + 1) fu
    generalize lq2 (f_X7_copy_121 (nI s) (nI i) (nI o) (nI j) (nI m) 0) fu = kp at ih' ⊢
    obtain ⟨y1, y2⟩ := ix40k (i := i) (k := x) hs (by omega)
    obtain ⟨y3, y4⟩ := ix40k (i := j) (k := x) ho (by omega)
    unfold f_X7_copy_121 f_X7_copy_145
    rw [if_neg (by rw [le_nI] <;> omega), if_pos rfl, if_pos y1, if_pos y3, y2, y4, nI_1]
    have e : upd (va_cpy its its (40 * s + i) (40 * o + j) x) (40 * o + j + x) (va_cpy its its (40 * s + i) (40 * o + j) x (40 * s + i + x)) = va_cpy its its (40 * s + i) (40 * o + j) (x + 1) := by
      funext y
      unfold upd va_cpy
      by_cases c : y = 40 * o + j + x
      · rw [if_pos c, if_neg (by omega), if_pos (by omega), show 40 * s + i + (y - (40 * o + j)) = 40 * s + i + x by omega]
      · rw [if_neg c]
        by_cases d : 40 * o + j ≤ y ∧ y < 40 * o + j + x
        · rw [if_pos d, if_pos (by omega)]
        · rw [if_neg d, if_neg (by omega)]
    rw [e]
    exact ih' (by omega) (by omega)
/-- a copy from its end on -/
def cpyD (f : Nat → Int32) (a b m k : Nat) : Nat → Int32 := fun x => if b + (m - k) ≤ x ∧ x < b + m then f (a + (x - b)) else f x
theorem copy_dn {i j m : Nat} (hs : s < 4) (hi : i + m ≤ 40) (hj : j + m ≤ 40) (hab : i ≤ j) :
    ∀ (k x fu : Nat), x + k = m → k < fu → lq2 (f_X7_copy_121 (nI s) (nI i) (nI s) (nI j) (nI m) 1) fu (nI x) (cpyD its (40 * s + i) (40 * s + j) m x) = some (nI m, va_cpy its its (40 * s + i) (40 * s + j) m) := by
  intro k
  induction k with
  | zero =>
    intro x fu h1 h2
    obtain ⟨fu, rfl⟩ : ∃ g, fu = g + 1 := ⟨fu - 1, by omega⟩
    show f_X7_copy_121 _ _ _ _ _ _ (lq2 _ fu) (nI x) _ = _
    unfold f_X7_copy_121
    rw [if_pos (by rw [le_nI] <;> omega), show x = m by omega]
    congr 2
    funext y
    unfold cpyD va_cpy
    rw [Nat.sub_self, Nat.add_zero]
  | succ k ih =>
    intro x fu h1 h2
    obtain ⟨fu, rfl⟩ : ∃ g, fu = g + 1 := ⟨fu - 1, by omega⟩
    show f_X7_copy_121 _ _ _ _ _ _ (lq2 _ fu) (nI x) _ = _
    have ih' := ih (x + 1) fu
    generalize lq2 (f_X7_copy_121 (nI s) (nI i) (nI s) (nI j) (nI m) 1) fu = kp at ih' ⊢
    have ek : nI m - 1 - nI x = nI (m - 1 - x) := by
      have a1 : (nI m).toInt = m := nI_toInt (by omega)
      have a2 : (nI x).toInt = x := nI_toInt (by omega)
      have a3 : (nI m - 1).toInt = m - 1 := by rw [sub_i (by rw [a1, i1]; omega) (by rw [a1, i1]; omega), a1, i1]
      apply iext
      rw [sub_i (by rw [a3, a2]; omega) (by rw [a3, a2]; omega), a3, a2, nI_toInt (by omega)]
      omega
    obtain ⟨y1, y2⟩ := ix40k (i := i) (k := m - 1 - x) hs (by omega)
    obtain ⟨y3, y4⟩ := ix40k (i := j) (k := m - 1 - x) hs (by omega)
    unfold f_X7_copy_121 f_X7_copy_145
    rw [if_neg (by rw [le_nI] <;> omega), if_neg (by decide), ek, if_pos y1, if_pos y3, y2, y4, nI_1]
    have e : upd (cpyD its (40 * s + i) (40 * s + j) m x) (40 * s + j + (m - 1 - x)) (cpyD its (40 * s + i) (40 * s + j) m x (40 * s + i + (m - 1 - x))) = cpyD its (40 * s + i) (40 * s + j) m (x + 1) := by
      funext y
      unfold upd cpyD
      by_cases c : y = 40 * s + j + (m - 1 - x)
      · rw [if_pos c, if_neg (by omega), if_pos (by omega), show 40 * s + i + (y - (40 * s + j)) = 40 * s + i + (m - 1 - x) by omega]
      · rw [if_neg c]
        by_cases d : 40 * s + j + (m - x) ≤ y ∧ y < 40 * s + j + m
        · rw [if_pos d, if_pos (by omega)]
        · rw [if_neg d, if_neg (by omega)]
    rw [e]
    exact ih' (by omega) (by omega)
theorem cpy0 {f : Nat → Int32} {a b : Nat} : va_cpy f f a b 0 = f := by funext y; unfold va_cpy; rw [if_neg (by omega)]
theorem cpyD0 {f : Nat → Int32} {a b m : Nat} : cpyD f a b m 0 = f := by funext y; unfold cpyD; rw [if_neg (by omega)]
/-- the reference's copy, all sheets there and of one sort -/
theorem copy7 {o i j m zs zo : Nat} (hs : s < 4) (ho : o < 4) (hi : i + m ≤ zs) (hj : j + m ≤ zo) (hzs : zs ≤ 40) (hzo : zo ≤ 40) (ts : iT s = 1) (to : iT o = 1) (hso : so s = so o) (hss : ss s = nI zs) (hsz : ss o = nI zo) :
    f_X7_copy (nI s) (nI i) (nI o) (nI j) (nI m) iT so ss its = some (nI m, va_cpy its its (40 * s + i) (40 * o + j) m) := by
  have hin : inb (nI s) 4 = true := inb_nI (by omega) (by decide)
  have hio : inb (nI o) 4 = true := inb_nI (by omega) (by decide)
  have hb : ¬ bz true = 0 := by decide
  have a1 : (nI m).toInt = m := nI_toInt (by omega)
  have a2 : (nI i).toInt = i := nI_toInt (by omega)
  have a3 : (nI j).toInt = j := nI_toInt (by omega)
  have b1 : (nI zs - nI m).toInt = zs - m := by rw [sub_i (by rw [a1, nI_toInt (by omega)]; omega) (by rw [a1, nI_toInt (by omega)]; omega), a1, nI_toInt (by omega)]
  have b2 : (nI zo - nI m).toInt = zo - m := by rw [sub_i (by rw [a1, nI_toInt (by omega)]; omega) (by rw [a1, nI_toInt (by omega)]; omega), a1, nI_toInt (by omega)]
  unfold f_X7_copy
  rw [isSheet7, isSheet7, nI_toInt (show s < 2 ^ 31 by omega), nI_toInt (show o < 2 ^ 31 by omega), decide_eq_true (show 0 ≤ (s : Int) ∧ (s : Int) < 4 by omega), decide_eq_true (show 0 ≤ (o : Int) ∧ (o : Int) < 4 by omega)]
  simp only [Option.bind_some]
  rw [if_neg hb, if_neg hb, if_pos hin, cl_nI (show s ≤ 2147483647 by omega), cl_nI (show o ≤ 2147483647 by omega), ts, if_neg (show ¬ (1 : Int32) = 0 by decide), if_pos hio, to, if_neg (show ¬ (1 : Int32) = 0 by decide), if_pos hin, if_pos hio, if_pos hso, if_neg (show ¬ nI m < 0 by rw [lt_i, i0, a1]; omega), if_neg (show ¬ nI i < 0 by rw [lt_i, i0, a2]; omega), if_neg (show ¬ nI j < 0 by rw [lt_i, i0, a3]; omega), if_pos hin, hss, if_neg (show ¬ nI zs - nI m < nI i by rw [lt_i, b1, a2]; omega), if_pos hio, hsz, if_pos (show nI j ≤ nI zo - nI m by rw [le_i, b2, a3]; omega)]
  by_cases c : s = o
  · subst c
    rw [if_pos rfl]
    by_cases d : j ≤ i
    · rw [if_pos (show nI j ≤ nI i by rw [le_nI] <;> omega)]
      have := copy_up (its := its) (o := s) (i := i) (j := j) (m := m) hs ho (by omega) (by omega) (Or.inl (by omega)) m 0 200 (by omega) (by omega)
      rw [cpy0] at this
      exact this
    · rw [if_neg (show ¬ nI j ≤ nI i by rw [le_nI] <;> omega)]
      have := copy_dn (its := its) (i := i) (j := j) (m := m) hs (by omega) (by omega) (by omega) m 0 200 (by omega) (by omega)
      rw [cpyD0] at this
      exact this
  · rw [if_neg (show ¬ nI s = nI o by rw [eq_nI] <;> omega)]
    have := copy_up (its := its) (o := o) (i := i) (j := j) (m := m) hs ho (by omega) (by omega) (by omega) m 0 200 (by omega) (by omega)
    rw [cpy0] at this
    exact this
end
