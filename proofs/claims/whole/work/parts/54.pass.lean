/-! ## a pose: class and reference -/
def mpN (n : Nat) (g a : Nat → Int32) : Nat → Int32 := fun j => if j < n then g j else a j
theorem mpN_0 (g a : Nat → Int32) : mpN 0 g a = a := by funext j; simp [mpN]
theorem mpN_at (g a : Nat → Int32) (i : Nat) : mpN i g a i = a i := by simp [mpN]
theorem mpN_lt {g a : Nat → Int32} {i j : Nat} (h : j < i) : mpN i g a j = g j := by simp [mpN, h]
theorem mpN_up (g a : Nat → Int32) (i : Nat) : upd (mpN i g a) i (g i) = mpN (i + 1) g a := by
  funext j
  unfold upd mpN
  by_cases h : j = i
  · subst h; simp
  · rw [if_neg h]
    by_cases h2 : j < i
    · rw [if_pos h2, if_pos (by omega)]
    · rw [if_neg h2, if_neg (by omega)]
def mp4 (n c : Nat) (g a : Nat → Int32) : Nat → Int32 := fun j => if j % 4 = c ∧ j / 4 < n then g (j / 4) else a j
theorem mp4_0 (c : Nat) (g a : Nat → Int32) : mp4 0 c g a = a := by funext j; simp [mp4]
theorem mp4_up {c : Nat} (hc : c < 4) (g a : Nat → Int32) (i : Nat) : upd (mp4 i c g a) (4 * i + c) (g i) = mp4 (i + 1) c g a := by
  funext j
  unfold upd mp4
  by_cases h : j = 4 * i + c
  · subst h
    rw [if_pos rfl, if_pos (by omega), show (4 * i + c) / 4 = i by omega]
  · rw [if_neg h]
    by_cases h2 : j % 4 = c ∧ j / 4 < i
    · rw [if_pos h2, if_pos (by omega)]
    · rw [if_neg h2, if_neg (by omega)]
theorem mp4_ne {n c d k : Nat} (hd : d < 4) (h : d ≠ c) (g a : Nat → Int32) : mp4 n c g a (4 * k + d) = a (4 * k + d) := by
  unfold mp4; rw [if_neg (by omega)]
theorem mp4_ne0 {n c k : Nat} (h : 0 ≠ c) (g a : Nat → Int32) : mp4 n c g a (4 * k) = a (4 * k) := by
  unfold mp4; rw [if_neg (by omega)]
theorem mp4_eq {n c k : Nat} (hc : c < 4) (hk : k < n) (g a : Nat → Int32) : mp4 n c g a (4 * k + c) = g k := by
  unfold mp4; rw [if_pos (by omega), show (4 * k + c) / 4 = k by omega]
theorem mp4_ge {n c k : Nat} (hc : c < 4) (hk : ¬ k < n) (g a : Nat → Int32) : mp4 n c g a (4 * k + c) = a (4 * k + c) := by
  unfold mp4; rw [if_neg (by omega)]
theorem mp4_up2 (g h a : Nat → Int32) (i : Nat) : upd (upd (mp4 i 3 g (mp4 i 2 h a)) (4 * i + 2) (h i)) (4 * i + 3) (g i) = mp4 (i + 1) 3 g (mp4 (i + 1) 2 h a) := by
  funext j
  unfold upd mp4
  by_cases h1 : j = 4 * i + 3
  · subst h1
    rw [if_pos rfl, if_pos (by omega), show (4 * i + 3) / 4 = i by omega]
  · rw [if_neg h1]
    by_cases h2 : j = 4 * i + 2
    · subst h2
      rw [if_pos rfl, if_neg (by omega), if_pos (by omega), show (4 * i + 2) / 4 = i by omega]
    · rw [if_neg h2]
      by_cases h3 : j % 4 = 3 ∧ j / 4 < i
      · rw [if_pos h3, if_pos (by omega)]
      · rw [if_neg h3]
        rw [if_neg (show ¬ (j % 4 = 3 ∧ j / 4 < i + 1) by omega)]
        by_cases h4 : j % 4 = 2 ∧ j / 4 < i
        · rw [if_pos h4, if_pos (by omega)]
        · rw [if_neg h4, if_neg (by omega)]
/-- the sum of k from i on -/
def smF (g : Nat → Int32) (acc : Int32) (i : Nat) : Nat → Int32
  | 0 => acc
  | k + 1 => smF g (acc + g i) (i + 1) k
section
variable {tv : Int32 → Int32 → Int32 → Int32 → Int32 → Int32 → Int32 → Int32 → Int32} {nT n F L S : Nat} {K N E : Nat → Nat} {face lamp stove pose rule painters many : Int32} {kind number easel had pleased kinds rows room now gained : Nat → Int32}
theorem whole6 (hO : OKr n F L S K N E) (hX : RX n F L S K N E face lamp stove painters kind number easel) (hr : inb rule nT = true) (hnT : nT ≤ 6) :
    f_X6_wholeOf face lamp stove pose rule painters easel number kind tv nT = some (smF (pbN tv rule pose n F L S K N E) 0 0 n) := by
  have hn := hO.1
  have key : ∀ (k i fu : Nat) (acc : Int32), i + k = n → k < fu → lq2 (f_X6_wholeOf_4 face lamp stove pose rule painters easel number kind tv nT) fu acc (nI i) = some (smF (pbN tv rule pose n F L S K N E) acc i k) := by
    intro k
    induction k with
    | zero =>
      intro i fu acc h1 h2
      obtain ⟨fu, rfl⟩ : ∃ g, fu = g + 1 := ⟨fu - 1, by omega⟩
      show f_X6_wholeOf_4 _ _ _ _ _ _ _ _ _ _ _ (lq2 _ fu) acc (nI i) = _
      unfold f_X6_wholeOf_4
      rw [if_pos (by rw [hX.2.2.2.1, le_nI] <;> omega)]
      rfl
    | succ k ih =>
      intro i fu acc h1 h2
      obtain ⟨fu, rfl⟩ : ∃ g, fu = g + 1 := ⟨fu - 1, by omega⟩
      show f_X6_wholeOf_4 _ _ _ _ _ _ _ _ _ _ _ (lq2 _ fu) acc (nI i) = _
      have ih' := ih (i + 1) fu
      generalize lq2 (f_X6_wholeOf_4 face lamp stove pose rule painters easel number kind tv nT) fu = kp at ih' ⊢
      unfold f_X6_wholeOf_4
      rw [if_neg (by rw [hX.2.2.2.1, le_nI] <;> omega), PB6 hO hX (by omega) hr hnT]
      simp only [Option.bind_some]
      rw [nI_1]
      exact ih' _ (by omega) (by omega)
  unfold f_X6_wholeOf
  exact key n 0 200 0 (by omega) (by omega)
theorem whole7 (hO : OKr n F L S K N E) (hM : RM n F L S K N E pose many kinds rows room) (hr : inb rule nT = true) :
    f_X7_wholeNow rule many kinds rows room tv nT = some (smF (pbN tv rule pose n F L S K N E) 0 0 n) := by
  have hn := hO.1
  have key : ∀ (k i fu : Nat) (acc : Int32), i + k = n → k < fu → lq2 (f_X7_wholeNow_4 rule many kinds rows room tv nT) fu acc (nI i) = some (smF (pbN tv rule pose n F L S K N E) acc i k) := by
    intro k
    induction k with
    | zero =>
      intro i fu acc h1 h2
      obtain ⟨fu, rfl⟩ : ∃ g, fu = g + 1 := ⟨fu - 1, by omega⟩
      show f_X7_wholeNow_4 _ _ _ _ _ _ _ (lq2 _ fu) acc (nI i) = _
      unfold f_X7_wholeNow_4
      rw [if_pos (by rw [hM.1, le_nI] <;> omega)]
      rfl
    | succ k ih =>
      intro i fu acc h1 h2
      obtain ⟨fu, rfl⟩ : ∃ g, fu = g + 1 := ⟨fu - 1, by omega⟩
      show f_X7_wholeNow_4 _ _ _ _ _ _ _ (lq2 _ fu) acc (nI i) = _
      have ih' := ih (i + 1) fu
      generalize lq2 (f_X7_wholeNow_4 rule many kinds rows room tv nT) fu = kp at ih' ⊢
      unfold f_X7_wholeNow_4
      rw [if_neg (by rw [hM.1, le_nI] <;> omega), PB7 hO hM (by omega) hr]
      simp only [Option.bind_some]
      rw [nI_1]
      exact ih' _ (by omega) (by omega)
  unfold f_X7_wholeNow
  exact key n 0 200 0 (by omega) (by omega)
/-- what a pose makes of SIDES that one has had -/
def hdS (E : Nat → Nat) (F : Nat) (had : Nat → Int32) : Nat → Int32 := fun j => had j ||| (1 <<< (nI (sd (E j) F) &&& 31))
theorem have6 (hn : n ≤ 6) (hF : F < 11) (he : ∀ p, p < n → easel p = nI (E p)) (hE : ∀ p, p < n → E p < 11) : f_X2_haveSides (nI F) (nI n) had easel = some (mpN n (hdS E F had) had) := by
  have key : ∀ (k i fu : Nat), i + k = n → k < fu → lq2 (f_X2_haveSides_2 (nI F) (nI n) easel) fu (nI i) (mpN i (hdS E F had) had) = some (mpN n (hdS E F had) had) := by
    intro k
    induction k with
    | zero =>
      intro i fu h1 h2
      obtain ⟨fu, rfl⟩ : ∃ g, fu = g + 1 := ⟨fu - 1, by omega⟩
      show f_X2_haveSides_2 _ _ _ (lq2 _ fu) (nI i) _ = _
      unfold f_X2_haveSides_2
      rw [if_pos (by rw [le_nI] <;> omega), show i = n by omega]
    | succ k ih =>
      intro i fu h1 h2
      obtain ⟨fu, rfl⟩ : ∃ g, fu = g + 1 := ⟨fu - 1, by omega⟩
      show f_X2_haveSides_2 _ _ _ (lq2 _ fu) (nI i) _ = _
      have ih' := ih (i + 1) fu
      generalize lq2 (f_X2_haveSides_2 (nI F) (nI n) easel) fu = kp at ih' ⊢
      have hin : inb (nI i) 6 = true := inb_nI (by omega) (by decide)
      have hsi : f_X2_sideOf (nI i) (nI F) easel = some (nI (sd (E i) F)) := by
        unfold f_X2_sideOf
        rw [if_pos hin, cl_nI (by omega), he i (by omega), side_a _ (hE i (by omega)) _ hF]
      unfold f_X2_haveSides_2
      rw [if_neg (by rw [le_nI] <;> omega), if_pos hin, hsi]
      simp only [Option.bind_some]
      rw [if_pos hin, cl_nI (by omega), mpN_at, nI_1]
      have := mpN_up (hdS E F had) had i
      unfold hdS at this ih' ⊢
      rw [this]
      exact ih' (by omega) (by omega)
  unfold f_X2_haveSides
  have := key n 0 200 (by omega) (by omega)
  rw [mpN_0] at this
  exact this
theorem rot : ∀ e, e < 11 → ∀ s, s < 11 → ((nI e + nI s) - (nI e + nI s) / 11 * 11) = nI ((e + s) % 11) := by decide +kernel
theorem move6 {T St : Nat} (hn : n ≤ 6) (hF : F < 11) (hT : T < 11) (hS : St < 11) (he : ∀ p, p < n → easel p = nI (E p)) (hE : ∀ p, p < n → E p < 11) : f_X2_move (nI T) (nI St) (nI F) pose (nI n) easel = some (nI ((F + T) % 11), pose + 1, mpN n (fun j => nI ((E j + St) % 11)) easel) := by
  have key : ∀ (k i fu : Nat), i + k = n → k < fu → lq2 (f_X2_move_15 (nI ((F + T) % 11)) pose (nI n) (nI St)) fu (nI i) (mpN i (fun j => nI ((E j + St) % 11)) easel) = some (nI ((F + T) % 11), pose + 1, mpN n (fun j => nI ((E j + St) % 11)) easel) := by
    intro k
    induction k with
    | zero =>
      intro i fu h1 h2
      obtain ⟨fu, rfl⟩ : ∃ g, fu = g + 1 := ⟨fu - 1, by omega⟩
      show f_X2_move_15 _ _ _ _ (lq2 _ fu) (nI i) _ = _
      unfold f_X2_move_15
      rw [if_pos (by rw [le_nI] <;> omega), show i = n by omega]
    | succ k ih =>
      intro i fu h1 h2
      obtain ⟨fu, rfl⟩ : ∃ g, fu = g + 1 := ⟨fu - 1, by omega⟩
      show f_X2_move_15 _ _ _ _ (lq2 _ fu) (nI i) _ = _
      have ih' := ih (i + 1) fu
      generalize lq2 (f_X2_move_15 (nI ((F + T) % 11)) pose (nI n) (nI St)) fu = kp at ih' ⊢
      have hin : inb (nI i) 6 = true := inb_nI (by omega) (by decide)
      unfold f_X2_move_15
      rw [if_neg (by rw [le_nI] <;> omega), if_pos hin, if_pos hin, cl_nI (by omega), mpN_at, he i (by omega), rot _ (hE i (by omega)) _ hS, nI_1, mpN_up (fun j => nI ((E j + St) % 11)) easel i]
      exact ih' (by omega) (by omega)
  unfold f_X2_move
  rw [rot _ hF _ hT]
  have := key n 0 200 (by omega) (by omega)
  rw [mpN_0] at this
  exact this
theorem le99999 : (-99999 : Int32) ≤ 99999 := by decide
/-- PLEASED in all behind a pose -/
def plS (pb pleased : Nat → Int32) : Nat → Int32 := fun j => clp (-99999) (pleased j + pb j) 99999
theorem pass6 {T St : Nat} (hO : OKr n F L S K N E) (hX : RX n F L S K N E face lamp stove painters kind number easel) (hr : inb rule nT = true) (hnT : nT ≤ 6) (hT : T < 11) (hSt : St < 11) :
    f_X6_pass (nI T) (nI St) face lamp stove pose rule painters had easel number kind pleased tv nT = some (nI ((F + T) % 11), pose + 1, mpN n (hdS E F had) had, mpN n (fun j => nI ((E j + St) % 11)) easel, mpN n (plS (pbN tv rule pose n F L S K N E) pleased) pleased) := by
  have hn := hO.1
  have hE : ∀ p, p < n → E p < 11 := fun p hp => (hO.2.2.2.2.2 p hp).2.2
  have he : ∀ p, p < n → easel p = nI (E p) := fun p hp => (hX.2.2.2.2 p hp).2.2
  have key : ∀ (k i fu : Nat), i + k = n → k < fu → lq2 (f_X6_pass_3 face lamp stove pose rule painters had easel number kind tv nT (nI T) (nI St)) fu (nI i) (mpN i (plS (pbN tv rule pose n F L S K N E) pleased) pleased) = some (nI ((F + T) % 11), pose + 1, mpN n (hdS E F had) had, mpN n (fun j => nI ((E j + St) % 11)) easel, mpN n (plS (pbN tv rule pose n F L S K N E) pleased) pleased) := by
    intro k
    induction k with
    | zero =>
      intro i fu h1 h2
      obtain ⟨fu, rfl⟩ : ∃ g, fu = g + 1 := ⟨fu - 1, by omega⟩
      show f_X6_pass_3 _ _ _ _ _ _ _ _ _ _ _ _ _ _ (lq2 _ fu) (nI i) _ = _
      unfold f_X6_pass_3
      rw [if_pos (by rw [hX.2.2.2.1, le_nI] <;> omega), hX.1, hX.2.2.2.1, have6 hn hO.2.1 he hE]
      simp only [Option.bind_some]
      rw [move6 hn hO.2.1 hT hSt he hE, show i = n by omega]
      rfl
    | succ k ih =>
      intro i fu h1 h2
      obtain ⟨fu, rfl⟩ : ∃ g, fu = g + 1 := ⟨fu - 1, by omega⟩
      show f_X6_pass_3 _ _ _ _ _ _ _ _ _ _ _ _ _ _ (lq2 _ fu) (nI i) _ = _
      have ih' := ih (i + 1) fu
      generalize lq2 (f_X6_pass_3 face lamp stove pose rule painters had easel number kind tv nT (nI T) (nI St)) fu = kp at ih' ⊢
      have hin : inb (nI i) 6 = true := inb_nI (by omega) (by decide)
      unfold f_X6_pass_3
      rw [if_neg (by rw [hX.2.2.2.1, le_nI] <;> omega), PB6 hO hX (by omega) hr hnT]
      simp only [Option.bind_some]
      unfold f_X2_please
      rw [if_pos hin, cl_nI (by omega), mpN_at, within6 le99999]
      simp only [Option.bind_some]
      rw [if_pos hin]
      simp only [Option.bind_some]
      rw [nI_1]
      have := mpN_up (plS (pbN tv rule pose n F L S K N E) pleased) pleased i
      have e : plS (pbN tv rule pose n F L S K N E) pleased i = clp (-99999) (pleased i + pbN tv rule pose n F L S K N E i) 99999 := rfl
      rw [e] at this
      rw [this]
      exact ih' (by omega) (by omega)
  unfold f_X6_pass
  have := key n 0 200 (by omega) (by omega)
  rw [mpN_0] at this
  exact this
end
