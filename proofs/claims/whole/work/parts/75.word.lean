/-! ## words -/
/-- the letters from t to e are that word -/
abbrev WDP (tape : Nat → Int32) (t e n : Nat) (c : Nat → Int32) : Prop := e = t + n ∧ ∀ i, i < n → tape (t + i) = c i
section
variable {z FR : Nat} {tape texts : Nat → Int32}
theorem mayBe1 {t e n : Nat} {K V tok val : Int32} {c : Nat → Int32} (he : t ≤ e) (hz : e ≤ 160) (hn : n ≤ 8) : f_X1_mayBe K V (nI e) tok (nI t) val tape n c = some (if WDP tape t e n c then (K, V) else (tok, val)) := by
  have fin : ∀ i a : Nat, i ≤ n → t + i ≤ e → (n = i ∨ e = t + i) → a ≤ i → (a = i ↔ ∀ j, j < i → tape (t + j) = c j) → f_X1_mayBe_59 (nI e) tok (nI t) val n K V (nI a) = some (if WDP tape t e n c then (K, V) else (tok, val)) := by
    intro i a h1 h2 h3 h4 h5
    unfold f_X1_mayBe_59
    by_cases hw : WDP tape t e n c
    · rw [if_pos hw]
      obtain rfl : n = i := by have := hw.1; omega
      have ha : a = n := h5.mpr hw.2
      rw [ha, if_pos rfl, hw.1, ← nI_add, if_pos]
      rw [eq_i, sub_i] <;> rw [nI_add, nI_toInt (by omega), nI_toInt (by omega)] <;> (try rw [nI_toInt (by omega)]) <;> omega
    · rw [if_neg hw]
      by_cases h6 : nI a = nI n
      · rw [if_pos h6]
        rw [eq_nI (by omega) (by omega)] at h6
        rw [if_neg]
        intro h7
        rw [eq_i, sub_i] at h7 <;> rw [nI_toInt (by omega), nI_toInt (by omega)] at * <;> (try rw [nI_toInt (by omega)] at h7)
        · obtain rfl : i = n := by omega
          exact hw ⟨by omega, h5.mp (by omega)⟩
        · omega
        · omega
      · rw [if_neg h6]
  have key : ∀ (k i a fu : Nat), i + k = n → t + i ≤ e → a ≤ i → (a = i ↔ ∀ j, j < i → tape (t + j) = c j) → k < fu → lq2 (f_X1_mayBe_6 (nI e) tok (nI t) val tape n c K V) fu (nI a) (nI i) = some (if WDP tape t e n c then (K, V) else (tok, val)) := by
    intro k
    induction k with
    | zero =>
      intro i a fu h1 h2 h3 h4 h5
      obtain ⟨fu, rfl⟩ : ∃ g, fu = g + 1 := ⟨fu - 1, by omega⟩
      show f_X1_mayBe_6 _ _ _ _ _ _ _ _ _ (lq2 _ fu) (nI a) (nI i) = _
      unfold f_X1_mayBe_6
      rw [if_pos (by rw [le_nI] <;> omega)]
      exact fin i a (by omega) h2 (Or.inl (by omega)) h3 h4
    | succ k ih =>
      intro i a fu h1 h2 h3 h4 h5
      obtain ⟨fu, rfl⟩ : ∃ g, fu = g + 1 := ⟨fu - 1, by omega⟩
      show f_X1_mayBe_6 _ _ _ _ _ _ _ _ _ (lq2 _ fu) (nI a) (nI i) = _
      have ih' := ih (i + 1)
      generalize hkp : lq2 (f_X1_mayBe_6 (nI e) tok (nI t) val tape n c K V) fu = kp
      unfold f_X1_mayBe_6
      rw [if_neg (by rw [le_nI] <;> omega), nI_add]
      rcases Nat.lt_or_ge (t + i) e with h6 | h6
      · rw [if_neg (by rw [le_nI] <;> omega), if_pos (inb_nI (by omega) (by decide)), if_pos (inb_nI (by omega) (by omega)), cl_nI (by omega), cl_nI (by omega), nI_1, nI_1, ← hkp]
        by_cases h7 : tape (t + i) = c i
        · rw [if_pos h7]
          refine ih' (a + 1) fu (by omega) (by omega) (by omega) ⟨fun h j hj => ?_, fun h => ?_⟩ (by omega)
          · rcases Nat.lt_or_ge j i with hj' | hj'
            · exact h4.mp (by omega) j hj'
            · obtain rfl : j = i := by omega
              exact h7
          · have := h4.mpr (fun j hj => h j (by omega)); omega
        · rw [if_neg h7]
          refine ih' a fu (by omega) (by omega) (by omega) ⟨fun h => by omega, fun h => absurd (h i (by omega)) h7⟩ (by omega)
      · rw [if_pos (by rw [le_nI] <;> omega)]
        exact fin i a (by omega) h2 (Or.inr (by omega)) h3 h4
  unfold f_X1_mayBe
  exact key n 0 0 200 (by omega) (by omega) (by omega) ⟨fun _ j hj => by omega, fun _ => rfl⟩ (by omega)
/-- the reference's look at a letter -/
theorem isLetter7 (L : LX z FR tape texts) {t e i : Nat} {l : Int32} (he : e ≤ z) (ht : t ≤ e) (hi : i < 8) : f_X7_isLetter (nI i) l (nI FR) (nI z) (nI e) (nI t) texts = some (bz (decide (if t + i < e then tape (t + i) = l else l = 0))) := by
  have := L.hz
  unfold f_X7_isLetter
  rw [nI_add]
  rcases Nat.lt_or_ge (t + i) e with h | h
  · rw [if_neg (by rw [le_nI] <;> omega), byteAt7 L (by omega), Option.bind_some]
    by_cases h2 : tape (t + i) = l
    · rw [if_pos h2, bz_t]; rw [decide_eq_true_eq, if_pos h]; exact h2
    · rw [if_neg h2, bz_f]; rw [decide_eq_false_iff_not, if_pos h]; exact h2
  · rw [if_pos (by rw [le_nI] <;> omega)]
    by_cases h2 : l = 0
    · rw [if_pos h2, bz_t]; rw [decide_eq_true_eq, if_neg (by omega)]; exact h2
    · rw [if_neg h2, bz_f]; rw [decide_eq_false_iff_not, if_neg (by omega)]; exact h2
theorem isWord7 (L : LX z FR tape texts) {t e n : Nat} {c lt : Nat → Int32} (he : e ≤ z) (ht : t ≤ e) (hl : ∀ i, t ≤ i → i < e → Ltr (tape i)) (hn : n ≤ 8) (h1 : ∀ i, i < n → lt i = c i ∧ c i ≠ 0) (h0 : ∀ i, n ≤ i → i < 8 → lt i = 0) :
    f_X7_isWord (lt 0) (lt 1) (lt 2) (lt 3) (lt 4) (lt 5) (lt 6) (lt 7) (nI FR) (nI z) (nI e) 1 (nI t) 0 texts = some (bz (decide (WDP tape t e n c))) := by
  have hz := L.hz
  have hall : WDP tape t e n c ↔ (e ≤ t + 8 ∧ ∀ i, i < 8 → decide (if t + i < e then tape (t + i) = lt i else lt i = 0) = true) := by
    constructor
    · intro w
      have w1 := w.1
      refine ⟨by omega, fun i hi => ?_⟩
      rw [decide_eq_true_eq]
      split
      · rw [(h1 i (by omega)).1]; exact w.2 i (by omega)
      · exact h0 i (by omega) hi
    · intro w
      have g : ∀ i, i < 8 → if t + i < e then tape (t + i) = lt i else lt i = 0 := fun i hi => of_decide_eq_true (w.2 i hi)
      have e1 : e = t + n := by
        rcases Nat.lt_trichotomy e (t + n) with h | h | h
        · have := g (e - t) (by omega)
          rw [if_neg (by omega), (h1 (e - t) (by omega)).1] at this
          exact absurd this (h1 (e - t) (by omega)).2
        · exact h
        · have := g n (by omega)
          rw [if_pos (by omega), h0 n (Nat.le_refl _) (by omega)] at this
          have h3 := hl (t + n) (by omega) (by omega)
          rw [this] at h3
          exact absurd h3.1 (by decide)
      refine ⟨e1, fun i hi => ?_⟩
      have := g i (by omega)
      rw [if_pos (by omega), (h1 i hi).1] at this
      exact this
  unfold f_X7_isWord
  rw [if_pos rfl, if_pos rfl, show (8 : Int32) = nI 8 from rfl, nI_add]
  by_cases h8 : t + 8 < e
  · rw [if_pos (by rw [nI_ltI (by omega) (by omega)]; exact h8), bz_f]
    exact decide_eq_false (fun w => by have := (hall.mp w).1; omega)
  · rw [if_neg (by rw [nI_ltI (by omega) (by omega)]; exact h8)]
    have no : ∀ i, i < 8 → decide (if t + i < e then tape (t + i) = lt i else lt i = 0) = false → some (0 : Int32) = some (bz (decide (WDP tape t e n c))) := by
      intro i hi hB
      rw [bz_f]
      exact decide_eq_false (fun w => by have := (hall.mp w).2 i hi; rw [hB] at this; exact absurd this (by decide))
    have q0 : f_X7_isLetter 0 (lt 0) (nI FR) (nI z) (nI e) (nI t) texts = _ := isLetter7 L he ht (i := 0) (l := lt 0) (by decide)
    have q1 : f_X7_isLetter 1 (lt 1) (nI FR) (nI z) (nI e) (nI t) texts = _ := isLetter7 L he ht (i := 1) (l := lt 1) (by decide)
    have q2 : f_X7_isLetter 2 (lt 2) (nI FR) (nI z) (nI e) (nI t) texts = _ := isLetter7 L he ht (i := 2) (l := lt 2) (by decide)
    have q3 : f_X7_isLetter 3 (lt 3) (nI FR) (nI z) (nI e) (nI t) texts = _ := isLetter7 L he ht (i := 3) (l := lt 3) (by decide)
    have q4 : f_X7_isLetter 4 (lt 4) (nI FR) (nI z) (nI e) (nI t) texts = _ := isLetter7 L he ht (i := 4) (l := lt 4) (by decide)
    have q5 : f_X7_isLetter 5 (lt 5) (nI FR) (nI z) (nI e) (nI t) texts = _ := isLetter7 L he ht (i := 5) (l := lt 5) (by decide)
    have q6 : f_X7_isLetter 6 (lt 6) (nI FR) (nI z) (nI e) (nI t) texts = _ := isLetter7 L he ht (i := 6) (l := lt 6) (by decide)
    have q7 : f_X7_isLetter 7 (lt 7) (nI FR) (nI z) (nI e) (nI t) texts = _ := isLetter7 L he ht (i := 7) (l := lt 7) (by decide)
    generalize hB : (fun i => decide (if t + i < e then tape (t + i) = lt i else lt i = 0)) = B at *
    have hBi : ∀ i, decide (if t + i < e then tape (t + i) = lt i else lt i = 0) = B i := fun i => by rw [← hB]
    simp only [hBi] at q0 q1 q2 q3 q4 q5 q6 q7 no hall
    rw [q0, Option.bind_some]
    by_cases b0 : B 0 = true
    case neg => rw [Bool.not_eq_true] at b0; rw [bz_f b0, if_pos rfl]; exact no 0 (by decide) b0
    rw [bz_t b0, if_neg (by decide), q1, Option.bind_some]
    by_cases b1 : B 1 = true
    case neg => rw [Bool.not_eq_true] at b1; rw [bz_f b1, if_pos rfl]; exact no 1 (by decide) b1
    rw [bz_t b1, if_neg (by decide), q2, Option.bind_some]
    by_cases b2 : B 2 = true
    case neg => rw [Bool.not_eq_true] at b2; rw [bz_f b2, if_pos rfl]; exact no 2 (by decide) b2
    rw [bz_t b2, if_neg (by decide), q3, Option.bind_some]
    by_cases b3 : B 3 = true
    case neg => rw [Bool.not_eq_true] at b3; rw [bz_f b3, if_pos rfl]; exact no 3 (by decide) b3
    rw [bz_t b3, if_neg (by decide), q4, Option.bind_some]
    by_cases b4 : B 4 = true
    case neg => rw [Bool.not_eq_true] at b4; rw [bz_f b4, if_pos rfl]; exact no 4 (by decide) b4
    rw [bz_t b4, if_neg (by decide), q5, Option.bind_some]
    by_cases b5 : B 5 = true
    case neg => rw [Bool.not_eq_true] at b5; rw [bz_f b5, if_pos rfl]; exact no 5 (by decide) b5
    rw [bz_t b5, if_neg (by decide), q6, Option.bind_some]
    by_cases b6 : B 6 = true
    case neg => rw [Bool.not_eq_true] at b6; rw [bz_f b6, if_pos rfl]; exact no 6 (by decide) b6
    rw [bz_t b6, if_neg (by decide), q7, Option.bind_some]
    by_cases b7 : B 7 = true
    case neg => rw [Bool.not_eq_true] at b7; rw [bz_f b7, if_pos rfl]; exact no 7 (by decide) b7
    rw [bz_t b7, if_neg (by decide), bz_t]
    refine decide_eq_true (hall.mpr ⟨by omega, fun i hi => ?_⟩)
    rcases (show i = 0 ∨ i = 1 ∨ i = 2 ∨ i = 3 ∨ i = 4 ∨ i = 5 ∨ i = 6 ∨ i = 7 by omega) with rfl | rfl | rfl | rfl | rfl | rfl | rfl | rfl <;> assumption
end
/-! the twelve words -/
def wS : Nat → String
  | 0 => "views" | 1 => "warms" | 2 => "minds" | 3 => "or" | 4 => "and" | 5 => "not" | 6 => "side" | 7 => "lamp" | 8 => "stove" | 9 => "number" | 10 => "pose" | _ => "near"
def wN : Nat → Nat
  | 0 => 5 | 1 => 5 | 2 => 5 | 3 => 2 | 4 => 3 | 5 => 3 | 6 => 4 | 7 => 4 | 8 => 5 | 9 => 6 | 10 => 4 | _ => 4
def wK : Nat → Int32
  | 0 => 260 | 1 => 261 | 2 => 262 | 3 => 263 | 4 => 264 | 5 => 265 | 6 => 259 | 7 => 259 | 8 => 259 | 9 => 259 | 10 => 259 | 11 => 259 | _ => 257
def wV : Nat → Int32
  | 6 => -1 | 7 => -2 | 8 => -3 | 9 => -4 | 10 => -5 | 11 => -6 | _ => 0
/-- the letters as the reference has them -/
def wL : Nat → Nat → Int32
  | 0, 0 => 118 | 0, 1 => 105 | 0, 2 => 101 | 0, 3 => 119 | 0, 4 => 115
  | 1, 0 => 119 | 1, 1 => 97 | 1, 2 => 114 | 1, 3 => 109 | 1, 4 => 115
  | 2, 0 => 109 | 2, 1 => 105 | 2, 2 => 110 | 2, 3 => 100 | 2, 4 => 115
  | 3, 0 => 111 | 3, 1 => 114
  | 4, 0 => 97 | 4, 1 => 110 | 4, 2 => 100
  | 5, 0 => 110 | 5, 1 => 111 | 5, 2 => 116
  | 6, 0 => 115 | 6, 1 => 105 | 6, 2 => 100 | 6, 3 => 101
  | 7, 0 => 108 | 7, 1 => 97 | 7, 2 => 109 | 7, 3 => 112
  | 8, 0 => 115 | 8, 1 => 116 | 8, 2 => 111 | 8, 3 => 118 | 8, 4 => 101
  | 9, 0 => 110 | 9, 1 => 117 | 9, 2 => 109 | 9, 3 => 98 | 9, 4 => 101 | 9, 5 => 114
  | 10, 0 => 112 | 10, 1 => 111 | 10, 2 => 115 | 10, 3 => 101
  | 11, 0 => 110 | 11, 1 => 101 | 11, 2 => 97 | 11, 3 => 114
  | _, _ => 0
theorem wL_S : ∀ j, j < 12 → ∀ i, i < wN j → wL j i = chT (wS j) i := by decide +kernel
theorem wL_0 : ∀ j, j < 12 → ∀ i, i < 8 → wN j ≤ i → wL j i = 0 := by decide +kernel
theorem wL_n : ∀ j, j < 12 → ∀ i, i < wN j → wL j i ≠ 0 := by decide +kernel
theorem wN_8 : ∀ j, j < 12 → wN j ≤ 8 ∧ 0 < wN j := by decide +kernel
theorem w_one : ∀ j, j < 12 → ∀ i, i < 12 → wN j = wN i → wL j 0 = wL i 0 → j = i := by decide +kernel
