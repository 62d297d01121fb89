/-! ## reading, both sides side by side -/
theorem lgc_0 (a b : Int64) : lg_cmp a b = 0 ↔ a.toInt = b.toInt := by
  have h1 := lgc_lt a b; have h2 := lgc_gt a b
  rw [lt_i, i0] at h1 h2
  rw [eq_i, i0]
  constructor
  · intro h; rcases Int.lt_trichotomy a.toInt b.toInt with g | g | g
    · have := h1.mpr g; omega
    · exact g
    · have := h2.mpr g; omega
  · intro h
    rcases Int.lt_trichotomy (lg_cmp a b).toInt 0 with g | g | g
    · have := h1.mp g; omega
    · exact g
    · have := h2.mp g; omega
theorem sg_lt {s : Int32} (h : Sgn s) : s.toInt < 100 := by rcases h with rfl | rfl | rfl | rfl | rfl | rfl | rfl | rfl <;> decide
theorem wK_ge : ∀ j, j ≤ 12 → 257 ≤ (wK j).toInt ∧ wK j ≠ 258 := by decide +kernel
theorem wK_6 : ∀ i, i < 6 → 260 ≤ (wK i).toInt := by decide +kernel
theorem wK_inj : ∀ j, j ≤ 12 → ∀ i, i < 6 → wK j = wK i → j = i := by decide +kernel
theorem wK_n : ∀ j, j ≤ 12 → (wK j = 259 ↔ 6 ≤ j ∧ j < 12) := by decide +kernel
theorem wV_n : ∀ j, j < 12 → 6 ≤ j → -6 ≤ (wV j).toInt ∧ (wV j).toInt < 0 ∧ (-1 - wV j).toNatClampNeg = j - 6 := by decide +kernel
theorem i256 : (256 : Int32).toInt = 256 := by decide
theorem i257 : (257 : Int32).toInt = 257 := by decide
theorem i258 : (258 : Int32).toInt = 258 := by decide
theorem put1 {c : Int32} {cs : Nat} {code : Nat → Int32} (h : cs < 160) : f_X1_put c (nI cs) code = some (1, nI (cs + 1), upd code cs c) := by
  unfold f_X1_put
  rw [if_neg (by rw [show (160 : Int32) = nI 160 from rfl, le_nI] <;> omega), if_pos (inb_nI h (by decide)), cl_nI (by omega), nI_1]
section
variable {z FR : Nat} {tape texts : Nat → Int32} {t e : Nat} {tok val hh tok7 : Int32} {worth : Int64}
theorem TK_sign (T : TK z FR texts t e tok val hh tok7 worth) {s : Int32} (hs : Sgn s) : f_X7_isSign s tok7 worth 0 = some (if tok = s then 1 else 0) := by
  have hs' := sg_lt hs
  unfold f_X7_isSign
  rw [if_pos rfl]
  have no : tok7 ≠ 3 → tok ≠ s → (if tok7 = 3 then (if lg_cmp worth (Int32.toInt64 s) = 0 then some 1 else some 0) else some 0) = some (if tok = s then (1 : Int32) else 0) := by
    intro h1 h2; rw [if_neg h1, if_neg h2]
  obtain ⟨_, _, T⟩ := T
  rcases T with ⟨_, h1, h2, _⟩ | ⟨_, h1, h2, h3, _⟩ | ⟨_, h1, h2, _⟩ | ⟨_, h2, _, j, hj, h1, _⟩ | ⟨h1, h2, _⟩
  · exact no (by rw [h2]; decide) (by rintro rfl; rw [h1, i256] at hs'; omega)
  · rw [if_pos h2, h3]
    by_cases h : tok = s
    · rw [if_pos (by rw [lgc_0, h]), if_pos h]
    · rw [if_neg (by rw [lgc_0, l64, l64]; exact fun g => h (iext g)), if_neg h]
  · exact no (by rw [h2]; decide) (by rintro rfl; rw [h1, i258] at hs'; omega)
  · exact no (by rw [h2]; decide) (by rintro rfl; have := (wK_ge j hj).1; rw [h1] at hs'; omega)
  · exact no (by rw [h2]; decide) (by rintro rfl; rw [h1, i257] at hs'; omega)
theorem TK_word (T : TK z FR texts t e tok val hh tok7 worth) {i : Nat} (hi : i < 6) : f_X7_isWord (wL i 0) (wL i 1) (wL i 2) (wL i 3) (wL i 4) (wL i 5) (wL i 6) (wL i 7) (nI FR) (nI z) hh tok7 (nI t) 0 texts = some (if tok = wK i then 1 else 0) := by
  have hk := wK_6 i hi
  have no : tok7 ≠ 1 → tok ≠ wK i → f_X7_isWord (wL i 0) (wL i 1) (wL i 2) (wL i 3) (wL i 4) (wL i 5) (wL i 6) (wL i 7) (nI FR) (nI z) hh tok7 (nI t) 0 texts = some (if tok = wK i then 1 else 0) := by
    intro h1 h2; unfold f_X7_isWord; rw [if_pos rfl, if_neg h1, if_neg h2]
  obtain ⟨_, _, T⟩ := T
  rcases T with ⟨_, h1, h2, _⟩ | ⟨_, h1, h2, h3, _⟩ | ⟨_, h1, h2, _⟩ | ⟨_, h2, _, j, hj, h1, _, h3⟩ | ⟨h1, h2, _⟩
  · exact no (by rw [h2]; decide) (by intro h; rw [← h, h1, i256] at hk; omega)
  · exact no (by rw [h2]; decide) (by intro h; have := sg_lt h1; rw [← h] at hk; omega)
  · exact no (by rw [h2]; decide) (by intro h; rw [← h, h1, i258] at hk; omega)
  · have g := h3 i (by omega)
    unfold isW at g
    rw [h2, g]
    by_cases h : j = i
    · rw [bz_t (decide_eq_true h), if_pos (by rw [h1, h])]
    · rw [bz_f (decide_eq_false h), if_neg (fun g => h (wK_inj j hj i hi (h1.symm.trans g)))]
  · exact no (by rw [h2]; decide) (by intro h; rw [← h, h1, i257] at hk; omega)
/-- a number -/
theorem TK_num (T : TK z FR texts t e tok val hh tok7 worth) (h : tok = 258) : tok7 = 2 ∧ worth.toInt32 = val ∧ 0 ≤ val.toInt := by
  obtain ⟨_, _, T⟩ := T
  rcases T with ⟨_, h1, _⟩ | ⟨_, h1, _⟩ | ⟨_, _, h2, h3, h4, _⟩ | ⟨_, _, _, j, hj, h1, _⟩ | ⟨h1, _⟩
  · rw [h1] at h; exact absurd h (by decide)
  · have := sg_lt h1; rw [h, i258] at this; omega
  · exact ⟨h2, h3, h4⟩
  · rw [h1] at h; exact absurd h (wK_ge j hj).2
  · rw [h1] at h; exact absurd h (by decide)
theorem TK_num0 (T : TK z FR texts t e tok val hh tok7 worth) (h : tok ≠ 258) : tok7 ≠ 2 := by
  obtain ⟨_, _, T⟩ := T
  rcases T with ⟨_, _, h2, _⟩ | ⟨_, _, h2, _⟩ | ⟨_, h1, _⟩ | ⟨_, h2, _⟩ | ⟨_, h2, _⟩
  · rw [h2]; decide
  · rw [h2]; decide
  · exact absurd h1 h
  · rw [h2]; decide
  · rw [h2]; decide
/-- a word -/
theorem TK_name (T : TK z FR texts t e tok val hh tok7 worth) (h : tok7 = 1) {nv : Nat → Int32} {fl : Int32} : f_X7_name (nv 0) (nv 1) (nv 2) (nv 3) (nv 4) (nv 5) (nI FR) (nI z) hh tok7 (nI t) 0 fl texts = some (if tok = 259 then (nv (-1 - val).toNatClampNeg, 0, fl) else (0, 1, nI t)) := by
  obtain ⟨_, _, T⟩ := T
  rcases T with ⟨_, _, h2, _⟩ | ⟨_, _, h2, _⟩ | ⟨_, _, h2, _⟩ | ⟨_, _, _, j, hj, h1, h3, h4⟩ | ⟨_, h2, _⟩
  · rw [h2] at h; exact absurd h (by decide)
  · rw [h2] at h; exact absurd h (by decide)
  · rw [h2] at h; exact absurd h (by decide)
  · subst h
    have w6 : f_X7_isWord 115 105 100 101 0 0 0 0 (nI FR) (nI z) hh 1 (nI t) 0 texts = _ := h4 6 (by decide)
    have w7 : f_X7_isWord 108 97 109 112 0 0 0 0 (nI FR) (nI z) hh 1 (nI t) 0 texts = _ := h4 7 (by decide)
    have w8 : f_X7_isWord 115 116 111 118 101 0 0 0 (nI FR) (nI z) hh 1 (nI t) 0 texts = _ := h4 8 (by decide)
    have w9 : f_X7_isWord 110 117 109 98 101 114 0 0 (nI FR) (nI z) hh 1 (nI t) 0 texts = _ := h4 9 (by decide)
    have w10 : f_X7_isWord 112 111 115 101 0 0 0 0 (nI FR) (nI z) hh 1 (nI t) 0 texts = _ := h4 10 (by decide)
    have w11 : f_X7_isWord 110 101 97 114 0 0 0 0 (nI FR) (nI z) hh 1 (nI t) 0 texts = _ := h4 11 (by decide)
    unfold f_X7_name
    rw [w6, w7, w8, w9, w10, w11]
    by_cases hn : 6 ≤ j ∧ j < 12
    · rw [if_pos (h1.trans ((wK_n j hj).mpr hn)), h3 hn.2, (wV_n j hn.2 hn.1).2.2]
      obtain ⟨a, b⟩ := hn
      rcases (show j = 6 ∨ j = 7 ∨ j = 8 ∨ j = 9 ∨ j = 10 ∨ j = 11 by omega) with rfl | rfl | rfl | rfl | rfl | rfl <;> rfl
    · rw [if_neg (fun g => hn ((wK_n j hj).mp (h1.symm.trans g)))]
      rw [bz_f (decide_eq_false (by omega)), bz_f (decide_eq_false (by omega)), bz_f (decide_eq_false (by omega)), bz_f (decide_eq_false (by omega)), bz_f (decide_eq_false (by omega)), bz_f (decide_eq_false (by omega))]
      rfl
  · rw [h2] at h; exact absurd h (by decide)
theorem TK_nm (T : TK z FR texts t e tok val hh tok7 worth) (h : tok = 259) : tok7 = 1 ∧ -6 ≤ val.toInt ∧ val.toInt < 0 := by
  obtain ⟨_, _, T⟩ := T
  rcases T with ⟨_, h1, _⟩ | ⟨_, h1, _⟩ | ⟨_, h1, _⟩ | ⟨_, h2, _, j, hj, h1, h3, _⟩ | ⟨h1, _⟩
  · rw [h1] at h; exact absurd h (by decide)
  · have := sg_lt h1; rw [h] at this; exact absurd this (by decide)
  · rw [h1] at h; exact absurd h (by decide)
  · have hn := (wK_n j hj).mp (h1.symm.trans h)
    rw [h3 hn.2]
    exact ⟨h2, (wV_n j hn.2 hn.1).1, (wV_n j hn.2 hn.1).2.1⟩
  · rw [h1] at h; exact absurd h (by decide)
theorem TK_end (T : TK z FR texts t e tok val hh tok7 worth) : tok = 256 ↔ tok7 = 0 := by
  obtain ⟨_, _, T⟩ := T
  rcases T with ⟨_, h1, h2, _⟩ | ⟨_, h1, h2, _⟩ | ⟨_, h1, h2, _⟩ | ⟨_, h2, _, j, hj, h1, _⟩ | ⟨h1, h2, _⟩
  · rw [h1, h2]; decide
  · rw [h2]; exact ⟨fun g => by have := sg_lt h1; rw [g] at this; exact absurd this (by decide), fun g => absurd g (by decide)⟩
  · rw [h1, h2]; decide
  · rw [h2]; exact ⟨fun g => by have := (wK_ge j hj).1; rw [← h1, g] at this; exact absurd this (by decide), fun g => absurd g (by decide)⟩
  · rw [h1, h2]; decide
theorem TK_nx (T : TK z FR texts t e tok val hh tok7 worth) (h : tok ≠ 256) (h' : tok ≠ 257) : t < e ∧ hh = nI e := by
  obtain ⟨_, _, T⟩ := T
  rcases T with ⟨_, h1, h2, _⟩ | ⟨a, h1, h2, _, b⟩ | ⟨a, h1, h2, _, _, b⟩ | ⟨a, h2, b, _⟩ | ⟨h1, h2, _⟩
  · exact absurd h1 h
  · exact ⟨a, b⟩
  · exact ⟨a, b⟩
  · exact ⟨a, b⟩
  · exact absurd h1 h'
theorem TK_go (L : LX z FR tape texts) (T : TK z FR texts t e tok val hh tok7 worth) (h : tok ≠ 256) (h' : tok ≠ 257) : ∃ (t' e' : Nat) (tok' val' hh' tok7' : Int32) (worth' : Int64),
    t < t' ∧ f_X1_next (nI z) (nI e) val tape = some (nI e', tok', nI t', val') ∧ f_X7_next (nI FR) (nI z) hh worth texts = some (hh', tok7', nI t', worth') ∧ TK z FR texts t' e' tok' val' hh' tok7' worth' := by
  obtain ⟨h1, h2⟩ := TK_nx T h h'
  obtain ⟨t', e', tok', val', hh', tok7', worth', a, b, c, d⟩ := TK_next L T.2.1 val worth
  rw [← h2] at c
  exact ⟨t', e', tok', val', hh', tok7', worth', by omega, b, c, d⟩
theorem Sgn_ne {s : Int32} (h : Sgn s) : s ≠ 256 ∧ s ≠ 257 ∧ s ≠ 258 ∧ s ≠ 259 := by
  have := sg_lt h
  refine ⟨?_, ?_, ?_, ?_⟩ <;> (rintro rfl; exact absurd this (by decide))
end
/-! ### a thing of the grammar, read by both -/
def OUT (z FR : Nat) (texts nv : Nat → Int32) (k D t cs : Nat) (code : Nat → Int32) (rC : RR) (rR : Int32 × Int32 × Int32 × Int32 × Int64 × Int32 × Int32 × Int32) : Prop :=
  (rC.1 = 0 ∧ rR.2.2.2.2.2.2.1 = 1 ∧ rC.2.1 = rR.2.2.2.2.2.2.2) ∨
  (∃ (fa' : Int32) (t' e' : Nat) (tok' val' hh' tok7' : Int32) (worth' : Int64) (fl' : Int32) (cs' : Nat) (code' : Nat → Int32) (v : Int32),
    rC = (1, fa', nI e', tok', nI t', val', nI cs', code') ∧ rR = (v, hh', tok7', nI t', worth', nI k, 0, fl') ∧ TK z FR texts t' e' tok' val' hh' tok7' worth' ∧ t < t' ∧ cs' + t ≤ t' + cs ∧ (∀ i, i < cs → code' i = code i) ∧ EV nv code' cs cs' v D)
def SIM (z FR : Nat) (tape texts nv : Nat → Int32) (k D : Nat) (F : RF) (A : AF) : Prop :=
  ∀ (fa : Int32) (t e : Nat) (tok val hh tok7 : Int32) (worth : Int64) (fl : Int32) (cs : Nat) (code : Nat → Int32),
    TK z FR texts t e tok val hh tok7 worth → cs ≤ t → ∃ rC rR, F (nI k) (nI z) fa (nI e) tok (nI t) val (nI cs) tape code = some rC ∧ A (nv 0) (nv 1) (nv 2) (nv 3) (nv 4) (nv 5) (nI FR) (nI z) hh tok7 (nI t) worth (nI k) 0 fl texts = some rR ∧ OUT z FR texts nv k D t cs code rC rR
theorem SIM_mono {z FR : Nat} {tape texts nv : Nat → Int32} {k D D' : Nat} {F : RF} {A : AF} (h : SIM z FR tape texts nv k D F A) (hD : D ≤ D') : SIM z FR tape texts nv k D' F A := by
  intro fa t e tok val hh tok7 worth fl cs code T hc
  obtain ⟨rC, rR, h1, h2, h3⟩ := h fa t e tok val hh tok7 worth fl cs code T hc
  refine ⟨rC, rR, h1, h2, ?_⟩
  rcases h3 with h3 | ⟨a1, a2, a3, a4, a5, a6, a7, a8, a9, a10, a11, a12, b1, b2, b3, b4, b5, b6, b7⟩
  · exact Or.inl h3
  · exact Or.inr ⟨a1, a2, a3, a4, a5, a6, a7, a8, a9, a10, a11, a12, b1, b2, b3, b4, b5, b6, EV_mono b7 hD⟩
