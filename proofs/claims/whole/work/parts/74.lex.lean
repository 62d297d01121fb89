/-! ## the text's letters: what comes next, on both sides -/
/-- the reference's text lies at FR, letter by letter as on the class's tape -/
def LX (z FR : Nat) (tape texts : Nat → Int32) : Prop :=
  z ≤ 160 ∧ FR + 160 ≤ 960 ∧ (∀ i, i < z → texts (FR + i) = tape i) ∧ (∀ i, i < z → 0 ≤ (tape i).toInt ∧ (tape i).toInt ≤ 255)
theorem LX.hz {z FR : Nat} {tape texts : Nat → Int32} (h : LX z FR tape texts) : z ≤ 160 := h.1
theorem LX.hf {z FR : Nat} {tape texts : Nat → Int32} (h : LX z FR tape texts) : FR + 160 ≤ 960 := h.2.1
theorem LX.he {z FR : Nat} {tape texts : Nat → Int32} (h : LX z FR tape texts) : ∀ i, i < z → texts (FR + i) = tape i := h.2.2.1
theorem LX.hb {z FR : Nat} {tape texts : Nat → Int32} (h : LX z FR tape texts) : ∀ i, i < z → 0 ≤ (tape i).toInt ∧ (tape i).toInt ≤ 255 := h.2.2.2
/-- from p on, all as P says up to e, and no further -/
def RUN (z : Nat) (tape : Nat → Int32) (P : Int32 → Prop) (p e : Nat) : Prop :=
  p ≤ e ∧ e ≤ z ∧ (∀ i, p ≤ i → i < e → P (tape i)) ∧ (e < z → ¬ P (tape e))
theorem RUN.h1 {z : Nat} {tape : Nat → Int32} {P : Int32 → Prop} {p e : Nat} (h : RUN z tape P p e) : p ≤ e := h.1
theorem RUN.h2 {z : Nat} {tape : Nat → Int32} {P : Int32 → Prop} {p e : Nat} (h : RUN z tape P p e) : e ≤ z := h.2.1
theorem RUN.h3 {z : Nat} {tape : Nat → Int32} {P : Int32 → Prop} {p e : Nat} (h : RUN z tape P p e) : ∀ i, p ≤ i → i < e → P (tape i) := h.2.2.1
theorem RUN.h4 {z : Nat} {tape : Nat → Int32} {P : Int32 → Prop} {p e : Nat} (h : RUN z tape P p e) : e < z → ¬ P (tape e) := h.2.2.2
theorem RUN_ex (z : Nat) (tape : Nat → Int32) (P : Int32 → Prop) : ∀ (k p : Nat), p + k = z → ∃ e, RUN z tape P p e := by
  intro k
  induction k with
  | zero => intro p h; exact ⟨p, ⟨Nat.le_refl _, by omega, fun i a b => by omega, fun a => by omega⟩⟩
  | succ k ih =>
    intro p h
    by_cases hp : P (tape p)
    · obtain ⟨e, g⟩ := ih (p + 1) (by omega)
      refine ⟨e, ⟨by have := g.h1; omega, g.h2, fun i a b => ?_, g.h4⟩⟩
      rcases Nat.eq_or_lt_of_le a with rfl | a
      · exact hp
      · exact g.h3 i a b
    · exact ⟨p, ⟨Nat.le_refl _, by omega, fun i a b => by omega, fun _ => hp⟩⟩
def Blk (b : Int32) : Prop := b = 32 ∨ b = 10
def Ltr (b : Int32) : Prop := 97 ≤ b.toInt ∧ b.toInt ≤ 122
def Dgt (b : Int32) : Prop := 48 ≤ b.toInt ∧ b.toInt ≤ 57
def Sgn (b : Int32) : Prop := b = 40 ∨ b = 41 ∨ b = 59 ∨ b = 43 ∨ b = 45 ∨ b = 42 ∨ b = 60 ∨ b = 61
theorem i32 : (32 : Int32).toInt = 32 := by decide
theorem i97 : (97 : Int32).toInt = 97 := by decide
theorem i122 : (122 : Int32).toInt = 122 := by decide
theorem i48 : (48 : Int32).toInt = 48 := by decide
theorem i57 : (57 : Int32).toInt = 57 := by decide
theorem isLt1 {b : Int32} (h : Ltr b) : f_X1_isLetter b = some 1 := by
  unfold f_X1_isLetter; unfold Ltr at h; rw [if_neg (by rw [lt_i, i97]; omega), if_neg (by rw [lt_i, i122]; omega)]
theorem isLt0 {b : Int32} (h : ¬ Ltr b) : f_X1_isLetter b = some 0 := by
  unfold f_X1_isLetter; unfold Ltr at h
  by_cases h1 : b < 97
  · rw [if_pos h1]
  · rw [if_neg h1, if_pos (by rw [lt_i, i122]; rw [lt_i, i97] at h1; omega)]
theorem isDg1 {b : Int32} (h : Dgt b) : f_X1_isDigit b = some 1 := by
  unfold f_X1_isDigit; unfold Dgt at h; rw [if_neg (by rw [lt_i, i48]; omega), if_neg (by rw [lt_i, i57]; omega)]
theorem isDg0 {b : Int32} (h : ¬ Dgt b) : f_X1_isDigit b = some 0 := by
  unfold f_X1_isDigit; unfold Dgt at h
  by_cases h1 : b < 48
  · rw [if_pos h1]
  · rw [if_neg h1, if_pos (by rw [lt_i, i57]; rw [lt_i, i48] at h1; omega)]
theorem isSg1 {b : Int32} (h : Sgn b) : f_X1_isSign b = some 1 := by
  unfold f_X1_isSign
  rcases h with rfl | rfl | rfl | rfl | rfl | rfl | rfl | rfl <;> decide
theorem isSg0 {b : Int32} (h : ¬ Sgn b) : f_X1_isSign b = some 0 := by
  unfold f_X1_isSign; unfold Sgn at h
  simp only [not_or] at h
  rw [if_neg h.1, if_neg h.2.1, if_neg h.2.2.1, if_neg h.2.2.2.1, if_neg h.2.2.2.2.1, if_neg h.2.2.2.2.2.1, if_neg h.2.2.2.2.2.2.1, if_neg h.2.2.2.2.2.2.2]
theorem inLt1 {b : Int32} (h : Ltr b) : f_X7_in b.toInt64 97 122 = some 1 := by
  rw [in7i, bz_t]; exact decide_eq_true h
theorem inLt0 {b : Int32} (h : ¬ Ltr b) : f_X7_in b.toInt64 97 122 = some 0 := by
  rw [in7i, bz_f]; exact decide_eq_false h
theorem inDg1 {b : Int32} (h : Dgt b) : f_X7_in b.toInt64 48 57 = some 1 := by
  rw [in7i, bz_t]; exact decide_eq_true h
theorem inDg0 {b : Int32} (h : ¬ Dgt b) : f_X7_in b.toInt64 48 57 = some 0 := by
  rw [in7i, bz_f]; exact decide_eq_false h
section
variable {z FR : Nat} {tape texts : Nat → Int32}
theorem byteAt7 (L : LX z FR tape texts) {p : Nat} (h : p < z) : f_X7_byteAt (nI p) (nI FR) (nI z) texts = some (tape p) := by
  unfold f_X7_byteAt
  have := L.hz; have := L.hf
  rw [if_neg (by rw [le_nI] <;> omega), nI_add, if_pos (inb_nI (by omega) (by decide)), cl_nI (by omega), L.he p h]
theorem byteAtZ (L : LX z FR tape texts) : f_X7_byteAt (nI z) (nI FR) (nI z) texts = some (-1) := by
  unfold f_X7_byteAt
  have := L.hz
  rw [if_pos (by rw [le_nI] <;> omega)]
theorem isBlk0 {b : Int32} (h : ¬ Blk b) : b ≠ 32 ∧ b ≠ 10 := by unfold Blk at h; simpa only [not_or] using h
/-- blanks, the class -/
theorem skip1 (hz : z ≤ 160) {q : Nat} {val : Int32} : ∀ (k c p fu : Nat), p + k = q → RUN z tape Blk p q → c ≤ p → k < fu → lq2 (f_X1_next_2 (nI z) val tape) fu (nI c) (nI p) = f_X1_next_64 (nI z) (nI q) val tape := by
  intro k
  induction k with
  | zero =>
    intro c p fu h1 h2 h3 h4
    obtain ⟨fu, rfl⟩ : ∃ g, fu = g + 1 := ⟨fu - 1, by omega⟩
    show f_X1_next_2 _ _ _ (lq2 _ fu) (nI c) (nI p) = _
    generalize lq2 (f_X1_next_2 (nI z) val tape) fu = kp
    obtain rfl : p = q := by omega
    unfold f_X1_next_2
    have := h2.h2
    rcases Nat.lt_or_ge p z with hp | hp
    · obtain ⟨g1, g2⟩ := isBlk0 (h2.h4 hp)
      rw [if_neg (by rw [show (160 : Int32) = nI 160 from rfl, le_nI] <;> omega), if_neg (by rw [le_nI] <;> omega), if_pos (inb_nI (by omega) (by decide)), cl_nI (by omega), if_neg g1, if_pos (inb_nI (by omega) (by decide)), if_neg g2]
    · by_cases hc : (160 : Int32) ≤ nI c
      · rw [if_pos hc]
      · rw [if_neg hc, if_pos (by rw [le_nI] <;> omega)]
  | succ k ih =>
    intro c p fu h1 h2 h3 h4
    obtain ⟨fu, rfl⟩ : ∃ g, fu = g + 1 := ⟨fu - 1, by omega⟩
    show f_X1_next_2 _ _ _ (lq2 _ fu) (nI c) (nI p) = _
    have ih' := ih (c + 1) (p + 1) fu (by omega) ⟨by omega, h2.h2, fun i a b => h2.h3 i (by omega) b, h2.h4⟩ (by omega) (by omega)
    generalize lq2 (f_X1_next_2 (nI z) val tape) fu = kp at ih' ⊢
    have := h2.h2
    have hb := h2.h3 p (by omega) (by omega)
    unfold f_X1_next_2
    rw [if_neg (by rw [show (160 : Int32) = nI 160 from rfl, le_nI] <;> omega), if_neg (by rw [le_nI] <;> omega), if_pos (inb_nI (by omega) (by decide)), cl_nI (by omega), nI_1, nI_1]
    by_cases h5 : tape p = 32
    · rw [if_pos h5]; exact ih'
    · rw [if_neg h5, if_pos (inb_nI (by omega) (by decide)), if_pos (hb.resolve_left h5)]; exact ih'
/-- letters, the class -/
theorem run1 (hz : z ≤ 160) {t q : Nat} {val : Int32} : ∀ (k c p fu : Nat), p + k = q → RUN z tape Ltr p q → c ≤ p → k < fu → lq2 (f_X1_nextWord_2 (nI z) (nI t) val tape) fu (nI c) (nI p) = f_X1_nextWord_51 (nI q) (nI t) val tape := by
  intro k
  induction k with
  | zero =>
    intro c p fu h1 h2 h3 h4
    obtain ⟨fu, rfl⟩ : ∃ g, fu = g + 1 := ⟨fu - 1, by omega⟩
    show f_X1_nextWord_2 _ _ _ _ (lq2 _ fu) (nI c) (nI p) = _
    generalize lq2 (f_X1_nextWord_2 (nI z) (nI t) val tape) fu = kp
    obtain rfl : p = q := by omega
    unfold f_X1_nextWord_2
    have := h2.h2
    rcases Nat.lt_or_ge p z with hp | hp
    · have g1 := isLt0 (h2.h4 hp)
      rw [if_neg (by rw [show (160 : Int32) = nI 160 from rfl, le_nI] <;> omega), if_neg (by rw [le_nI] <;> omega), if_pos (inb_nI (by omega) (by decide)), cl_nI (by omega), g1]
      rfl
    · by_cases hc : (160 : Int32) ≤ nI c
      · rw [if_pos hc]
      · rw [if_neg hc, if_pos (by rw [le_nI] <;> omega)]
  | succ k ih =>
    intro c p fu h1 h2 h3 h4
    obtain ⟨fu, rfl⟩ : ∃ g, fu = g + 1 := ⟨fu - 1, by omega⟩
    show f_X1_nextWord_2 _ _ _ _ (lq2 _ fu) (nI c) (nI p) = _
    have ih' := ih (c + 1) (p + 1) fu (by omega) ⟨by omega, h2.h2, fun i a b => h2.h3 i (by omega) b, h2.h4⟩ (by omega) (by omega)
    generalize lq2 (f_X1_nextWord_2 (nI z) (nI t) val tape) fu = kp at ih' ⊢
    have := h2.h2
    have hb := isLt1 (h2.h3 p (by omega) (by omega))
    unfold f_X1_nextWord_2
    rw [if_neg (by rw [show (160 : Int32) = nI 160 from rfl, le_nI] <;> omega), if_neg (by rw [le_nI] <;> omega), if_pos (inb_nI (by omega) (by decide)), cl_nI (by omega), nI_1, nI_1, hb]
    exact ih'
/-- letters, the reference -/
theorem run7 (L : LX z FR tape texts) {q : Nat} {tk tA : Int32} {w : Int64} : ∀ (k p fu : Nat), p + k = q → RUN z tape Ltr p q → k < fu → lq1 (f_X7_next_100 (nI FR) (nI z) tk tA w texts) fu (nI p) = some (nI q, tk, tA, w) := by
  intro k
  induction k with
  | zero =>
    intro p fu h1 h2 h4
    obtain ⟨fu, rfl⟩ : ∃ g, fu = g + 1 := ⟨fu - 1, by omega⟩
    show f_X7_next_100 _ _ _ _ _ _ (lq1 _ fu) (nI p) = _
    generalize lq1 (f_X7_next_100 (nI FR) (nI z) tk tA w texts) fu = kp
    obtain rfl : p = q := by omega
    unfold f_X7_next_100
    have := h2.h2
    rcases Nat.lt_or_ge p z with hp | hp
    · have g1 := inLt0 (h2.h4 hp)
      rw [byteAt7 L hp, Option.bind_some, g1]; rfl
    · obtain rfl : p = z := by omega
      rw [byteAtZ L]; rfl
  | succ k ih =>
    intro p fu h1 h2 h4
    obtain ⟨fu, rfl⟩ : ∃ g, fu = g + 1 := ⟨fu - 1, by omega⟩
    show f_X7_next_100 _ _ _ _ _ _ (lq1 _ fu) (nI p) = _
    have ih' := ih (p + 1) fu (by omega) ⟨by omega, h2.h2, fun i a b => h2.h3 i (by omega) b, h2.h4⟩ (by omega)
    generalize lq1 (f_X7_next_100 (nI FR) (nI z) tk tA w texts) fu = kp at ih' ⊢
    have := h2.h2
    have hb := inLt1 (h2.h3 p (by omega) (by omega))
    unfold f_X7_next_100
    rw [byteAt7 L (by omega), Option.bind_some, hb, Option.bind_some, if_neg (by decide), nI_1]
    exact ih'
/-- digits: what they are worth -/
def dv1 (tape : Nat → Int32) (t : Nat) : Nat → Int32
  | 0 => 0
  | k + 1 => 10 * dv1 tape t k + tape (t + k) - 48
def dv7 (tape : Nat → Int32) (t : Nat) : Nat → Int64
  | 0 => 0
  | k + 1 => if 4 ≤ k then dv7 tape t k else 10 * dv7 tape t k + (tape (t + k)).toInt64 - 48
theorem i10' : (10 : Int32).toInt = 10 := by decide
theorem dv1_bd {t e : Nat} (h : RUN z tape Dgt t e) : ∀ k, k ≤ 4 → t + k ≤ e → 0 ≤ (dv1 tape t k).toInt ∧ (dv1 tape t k).toInt < 10 ^ k := by
  intro k
  induction k with
  | zero => intro _ _; exact ⟨by show (0 : Int) ≤ (0 : Int32).toInt; decide, by show (0 : Int32).toInt < 1; decide⟩
  | succ k ih =>
    intro h1 h2
    obtain ⟨a, b⟩ := ih (by omega) (by omega)
    obtain ⟨c, d⟩ := h.h3 (t + k) (by omega) (by omega)
    have hp : (10 : Int) ^ k ≤ 1000 := by
      rcases (show k = 0 ∨ k = 1 ∨ k = 2 ∨ k = 3 by omega) with rfl | rfl | rfl | rfl <;> decide
    have e1 : (10 * dv1 tape t k).toInt = 10 * (dv1 tape t k).toInt := by rw [mul_i] <;> rw [i10'] <;> omega
    have e2 : (10 * dv1 tape t k + tape (t + k)).toInt = 10 * (dv1 tape t k).toInt + (tape (t + k)).toInt := by rw [add_i] <;> rw [e1] <;> omega
    have e3 : (dv1 tape t (k + 1)).toInt = 10 * (dv1 tape t k).toInt + (tape (t + k)).toInt - 48 := by
      show (10 * dv1 tape t k + tape (t + k) - 48).toInt = _
      rw [sub_i] <;> rw [e2, i48] <;> omega
    rw [e3, Int.pow_succ]
    omega
theorem dv17 {t : Nat} : ∀ k, k ≤ 4 → (dv7 tape t k).toInt32 = dv1 tape t k := by
  intro k
  induction k with
  | zero => intro _; rfl
  | succ k ih =>
    intro h
    show (if 4 ≤ k then dv7 tape t k else 10 * dv7 tape t k + (tape (t + k)).toInt64 - 48).toInt32 = 10 * dv1 tape t k + tape (t + k) - 48
    rw [if_neg (by omega), ← ih (by omega), Int64.toInt32_sub, Int64.toInt32_add, Int64.toInt32_mul, Int32.toInt32_toInt64]
    rfl
/-- digits, the class -/
theorem dig1 (hz : z ≤ 160) {t q : Nat} : ∀ (k c p fu : Nat), p + k = q → RUN z tape Dgt p q → c ≤ p → t ≤ p → k < fu → lq3 (f_X1_nextNumber_14 (nI z) 258 (nI t) tape) fu (nI c) (nI p) (dv1 tape t (p - t)) = f_X1_nextNumber_87 (nI q) 258 (nI t) (dv1 tape t (q - t)) := by
  intro k
  induction k with
  | zero =>
    intro c p fu h1 h2 h3 ht h4
    obtain ⟨fu, rfl⟩ : ∃ g, fu = g + 1 := ⟨fu - 1, by omega⟩
    show f_X1_nextNumber_14 _ _ _ _ (lq3 _ fu) (nI c) (nI p) _ = _
    generalize lq3 (f_X1_nextNumber_14 (nI z) 258 (nI t) tape) fu = kp
    obtain rfl : p = q := by omega
    unfold f_X1_nextNumber_14
    have := h2.h2
    rcases Nat.lt_or_ge p z with hp | hp
    · have g1 := isDg0 (h2.h4 hp)
      rw [if_neg (by rw [show (160 : Int32) = nI 160 from rfl, le_nI] <;> omega), if_neg (by rw [le_nI] <;> omega), if_pos (inb_nI (by omega) (by decide)), cl_nI (by omega), g1, Option.bind_some, if_pos rfl]
    · by_cases hc : (160 : Int32) ≤ nI c
      · rw [if_pos hc]
      · rw [if_neg hc, if_pos (by rw [le_nI] <;> omega)]
  | succ k ih =>
    intro c p fu h1 h2 h3 ht h4
    obtain ⟨fu, rfl⟩ : ∃ g, fu = g + 1 := ⟨fu - 1, by omega⟩
    show f_X1_nextNumber_14 _ _ _ _ (lq3 _ fu) (nI c) (nI p) _ = _
    have ih' := ih (c + 1) (p + 1) fu (by omega) ⟨by omega, h2.h2, fun i a b => h2.h3 i (by omega) b, h2.h4⟩ (by omega) (by omega) (by omega)
    generalize lq3 (f_X1_nextNumber_14 (nI z) 258 (nI t) tape) fu = kp at ih' ⊢
    have := h2.h2
    have hb := isDg1 (h2.h3 p (by omega) (by omega))
    have e1 : dv1 tape t (p + 1 - t) = 10 * dv1 tape t (p - t) + tape p - 48 := by
      obtain ⟨j, rfl⟩ : ∃ j, p = t + j := ⟨p - t, by omega⟩
      rw [show t + j + 1 - t = j + 1 by omega, show t + j - t = j by omega]; rfl
    rw [e1] at ih'
    unfold f_X1_nextNumber_14
    rw [if_neg (by rw [show (160 : Int32) = nI 160 from rfl, le_nI] <;> omega), if_neg (by rw [le_nI] <;> omega), if_pos (inb_nI (by omega) (by decide)), cl_nI (by omega), nI_1, nI_1, hb, Option.bind_some, if_neg (by decide), if_pos (inb_nI (by omega) (by decide))]
    exact ih'
/-- digits, the reference -/
theorem dig7 (L : LX z FR tape texts) {t q : Nat} {tA : Int32} : ∀ (k p fu : Nat), p + k = q → RUN z tape Dgt p q → t ≤ p → k < fu → lq3 (f_X7_next_160 (nI FR) (nI z) tA texts) fu (nI (p - t)) (nI p) (dv7 tape t (p - t)) = some (nI q, if q - t ≤ 4 then 2 else 4, tA, dv7 tape t (q - t)) := by
  intro k
  induction k with
  | zero =>
    intro p fu h1 h2 ht h4
    obtain ⟨fu, rfl⟩ : ∃ g, fu = g + 1 := ⟨fu - 1, by omega⟩
    show f_X7_next_160 _ _ _ _ (lq3 _ fu) (nI (p - t)) (nI p) _ = _
    generalize lq3 (f_X7_next_160 (nI FR) (nI z) tA texts) fu = kp
    obtain rfl : p = q := by omega
    unfold f_X7_next_160
    have := h2.h2; have := L.hz
    have key : ∀ (v : Int32), f_X7_byteAt (nI p) (nI FR) (nI z) texts = some v → f_X7_in v.toInt64 48 57 = some 0 → ((f_X7_byteAt (nI p) (nI FR) (nI z) texts).bind fun v165_6 => (f_X7_in (Int32.toInt64 v165_6) 48 57).bind (fun v175_7 => if v175_7 = 0 then (if nI (p - t) ≤ 4 then some (nI p, (2 : Int32), tA, dv7 tape t (p - t)) else some (nI p, 4, tA, dv7 tape t (p - t))) else (if 4 ≤ nI (p - t) then kp (nI (p - t) + 1) (nI p + 1) (dv7 tape t (p - t)) else (f_X7_byteAt (nI p) (nI FR) (nI z) texts).bind (fun v200_8 => kp (nI (p - t) + 1) (nI p + 1) (((10 * dv7 tape t (p - t)) + (Int32.toInt64 v200_8)) - 48))))) = some (nI p, if p - t ≤ 4 then 2 else 4, tA, dv7 tape t (p - t)) := by
      intro v g1 g2
      rw [g1, Option.bind_some, g2, Option.bind_some, if_pos rfl]
      by_cases h5 : p - t ≤ 4
      · rw [if_pos (by rw [show (4 : Int32) = nI 4 from rfl, le_nI] <;> omega), if_pos h5]
      · rw [if_neg (by rw [show (4 : Int32) = nI 4 from rfl, le_nI] <;> omega), if_neg h5]
    rcases Nat.lt_or_ge p z with hp | hp
    · exact key _ (byteAt7 L hp) (inDg0 (h2.h4 hp))
    · obtain rfl : p = z := by omega
      exact key _ (byteAtZ L) (inDg0 (by unfold Dgt; rw [im1]; omega))
  | succ k ih =>
    intro p fu h1 h2 ht h4
    obtain ⟨fu, rfl⟩ : ∃ g, fu = g + 1 := ⟨fu - 1, by omega⟩
    show f_X7_next_160 _ _ _ _ (lq3 _ fu) (nI (p - t)) (nI p) _ = _
    have ih' := ih (p + 1) fu (by omega) ⟨by omega, h2.h2, fun i a b => h2.h3 i (by omega) b, h2.h4⟩ (by omega) (by omega)
    generalize lq3 (f_X7_next_160 (nI FR) (nI z) tA texts) fu = kp at ih' ⊢
    have := h2.h2; have := L.hz
    have hb := inDg1 (h2.h3 p (by omega) (by omega))
    have e1 : dv7 tape t (p + 1 - t) = if 4 ≤ p - t then dv7 tape t (p - t) else 10 * dv7 tape t (p - t) + (tape p).toInt64 - 48 := by
      obtain ⟨j, rfl⟩ : ∃ j, p = t + j := ⟨p - t, by omega⟩
      rw [show t + j + 1 - t = j + 1 by omega, show t + j - t = j by omega]; rfl
    rw [e1, show p + 1 - t = p - t + 1 by omega] at ih'
    unfold f_X7_next_160
    rw [byteAt7 L (by omega), Option.bind_some, hb, Option.bind_some, if_neg (by decide), nI_1, nI_1]
    by_cases h5 : 4 ≤ p - t
    · rw [if_pos h5] at ih'
      rw [if_pos (by rw [show (4 : Int32) = nI 4 from rfl, le_nI] <;> omega)]; exact ih'
    · rw [if_neg h5] at ih'
      rw [if_neg (by rw [show (4 : Int32) = nI 4 from rfl, le_nI] <;> omega), Option.bind_some]; exact ih'
end
