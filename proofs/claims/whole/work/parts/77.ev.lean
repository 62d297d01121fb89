/-! ## what a piece of code says: a stack of values -/
def stpE (nv : Nat → Int32) (c : Int32) (st : List Int32) : Option (List Int32) :=
  if c < -6 then
    (if c = -12 ∨ c = -13 then
      (match st with
      | x :: st => (f_X5_turned c x).map (· :: st)
      | [] => none)
    else
      (match st with
      | y :: x :: st => (f_X5_joined c x y).map (· :: st)
      | _ => none))
  else if 40 ≤ st.length then none
  else some ((if c < 0 then nv (-1 - c).toNatClampNeg else c) :: st)
def rnsE (nv : Nat → Int32) (code : Nat → Int32) : Nat → Nat → List Int32 → Option (List Int32)
  | _, 0, st => some st
  | a, n + 1, st => (stpE nv (code a) st).bind (rnsE nv code (a + 1) n)
/-- code from a to b says v, with D places of the stack -/
def EV (nv : Nat → Int32) (code : Nat → Int32) (a b : Nat) (v : Int32) (D : Nat) : Prop :=
  a ≤ b ∧ ∀ st : List Int32, st.length + D ≤ 40 → rnsE nv code a (b - a) st = some (v :: st)
theorem rnsE_add (nv : Nat → Int32) (code : Nat → Int32) : ∀ (m n a : Nat) (st : List Int32), rnsE nv code a (m + n) st = (rnsE nv code a m st).bind (rnsE nv code (a + m) n) := by
  intro m
  induction m with
  | zero => intro n a st; rw [Nat.zero_add]; rfl
  | succ m ih =>
    intro n a st
    rw [show m + 1 + n = (m + n) + 1 by omega]
    show (stpE nv (code a) st).bind (rnsE nv code (a + 1) (m + n)) = ((stpE nv (code a) st).bind (rnsE nv code (a + 1) m)).bind (rnsE nv code (a + (m + 1)) n)
    cases h : stpE nv (code a) st with
    | none => rfl
    | some s =>
      show rnsE nv code (a + 1) (m + n) s = (rnsE nv code (a + 1) m s).bind _
      rw [ih n (a + 1) s, show a + 1 + m = a + (m + 1) by omega]
theorem rnsE_congr (nv : Nat → Int32) {code code' : Nat → Int32} : ∀ (n a : Nat) (st : List Int32), (∀ i, a ≤ i → i < a + n → code' i = code i) → rnsE nv code' a n st = rnsE nv code a n st := by
  intro n
  induction n with
  | zero => intro a st _; rfl
  | succ n ih =>
    intro a st h
    show (stpE nv (code' a) st).bind (rnsE nv code' (a + 1) n) = (stpE nv (code a) st).bind (rnsE nv code (a + 1) n)
    rw [h a (by omega) (by omega)]
    congr 1
    funext s
    exact ih (a + 1) s (fun i h1 h2 => h i (by omega) (by omega))
theorem EV_congr {nv code code' : Nat → Int32} {a b : Nat} {v : Int32} {D : Nat} (h : EV nv code a b v D) (hc : ∀ i, a ≤ i → i < b → code' i = code i) : EV nv code' a b v D := by
  refine ⟨h.1, fun st hs => ?_⟩
  rw [rnsE_congr nv (b - a) a st (fun i h1 h2 => hc i h1 (by have := h.1; omega))]
  exact h.2 st hs
theorem EV_mono {nv code : Nat → Int32} {a b : Nat} {v : Int32} {D D' : Nat} (h : EV nv code a b v D) (hD : D ≤ D') : EV nv code a b v D' := ⟨h.1, fun st hs => h.2 st (by omega)⟩
/-- a number, or a name -/
theorem EV_num {nv code : Nat → Int32} {a D : Nat} {c v : Int32} (h1 : -6 ≤ c.toInt) (hv : v = if c < 0 then nv (-1 - c).toNatClampNeg else c) (hD : 1 ≤ D) : EV nv (upd code a c) a (a + 1) v D := by
  refine ⟨by omega, fun st hs => ?_⟩
  rw [show a + 1 - a = 0 + 1 by omega]
  show (stpE nv (upd code a c a) st).bind (rnsE nv (upd code a c) (a + 1) 0) = _
  have e : upd code a c a = c := by simp [upd]
  rw [e]
  unfold stpE
  rw [if_neg (by rw [lt_i, show (-6 : Int32).toInt = -6 by decide]; omega), if_neg (by omega), ← hv]
  rfl
/-- one turned -/
theorem EV_un {nv code : Nat → Int32} {a b D : Nat} {c v w : Int32} (h : EV nv code a b v D) (hc : c = -12 ∨ c = -13) (hw : f_X5_turned c v = some w) : EV nv (upd code b c) a (b + 1) w D := by
  obtain ⟨h1, h2⟩ := h
  refine ⟨by omega, fun st hs => ?_⟩
  rw [show b + 1 - a = (b - a) + 1 by omega, rnsE_add, rnsE_congr nv (b - a) a st (code := code) (fun i g1 g2 => by simp only [upd]; rw [if_neg (by omega)]), h2 st hs, Option.bind_some]
  show (stpE nv (upd code b c (a + (b - a))) (v :: st)).bind (rnsE nv (upd code b c) (a + (b - a) + 1) 0) = _
  have e : upd code b c (a + (b - a)) = c := by simp only [upd]; rw [if_pos (by omega)]
  rw [e]
  unfold stpE
  rw [if_pos (by rcases hc with rfl | rfl <;> decide), if_pos hc]
  simp only [hw]
  rfl
/-- two joined -/
theorem EV_bin {nv code code2 : Nat → Int32} {a b d D : Nat} {c v w u : Int32} (h : EV nv code a b v (D + 1)) (h' : EV nv code2 b d w D) (hag : ∀ i, i < b → code2 i = code i) (hc : c < -6) (hc2 : c ≠ -12) (hc3 : c ≠ -13) (hw : f_X5_joined c v w = some u) : EV nv (upd code2 d c) a (d + 1) u (D + 1) := by
  obtain ⟨h1, h2⟩ := h
  obtain ⟨h3, h4⟩ := h'
  refine ⟨by omega, fun st hs => ?_⟩
  rw [show d + 1 - a = (b - a) + ((d - b) + 1) by omega, rnsE_add, rnsE_congr nv (b - a) a st (code := code) (fun i g1 g2 => by simp only [upd]; rw [if_neg (by omega)]; exact hag i (by omega)), h2 st hs, Option.bind_some, rnsE_add, show a + (b - a) = b by omega,
    rnsE_congr nv (d - b) b (v :: st) (code := code2) (fun i g1 g2 => by simp only [upd]; rw [if_neg (by omega)]), h4 (v :: st) (by simp only [List.length_cons]; omega), Option.bind_some]
  show (stpE nv (upd code2 d c (b + (d - b))) (w :: v :: st)).bind (rnsE nv (upd code2 d c) (b + (d - b) + 1) 0) = _
  have e : upd code2 d c (b + (d - b)) = c := by simp only [upd]; rw [if_pos (by omega)]
  rw [e]
  unfold stpE
  rw [if_pos hc, if_neg (by rintro (h | h); exact hc2 h; exact hc3 h)]
  simp only [hw]
  rfl
/-! the class's own loop does just that -/
/-- the stack's places below its top -/
def REP (sk : Nat → Int32) : List Int32 → Prop
  | [] => True
  | x :: st => sk st.length = x ∧ REP sk st
theorem REP_far {sk : Nat → Int32} {n : Nat} {y : Int32} : ∀ {st : List Int32}, st.length ≤ n → REP sk st → REP (upd sk n y) st := by
  intro st
  induction st with
  | nil => intro _ _; trivial
  | cons x st ih =>
    intro h1 h2
    simp only [List.length_cons] at h1
    refine ⟨?_, ih (by omega) h2.2⟩
    simp only [upd]; rw [if_neg (by omega)]; exact h2.1
theorem REP_up {sk : Nat → Int32} {st : List Int32} {x : Int32} (h : REP sk st) : REP (upd sk st.length x) (x :: st) := ⟨by simp [upd], REP_far (Nat.le_refl _) h⟩
theorem tellE {nE nC : Nat} {ends code nm : Nat → Int32} {w : Int32} {E : Nat} (hw : inb w nE = true) (hE : ends w.toNatClampNeg = nI E) (hEC : E ≤ nC) (hn : nC < 200) {v : Int32} :
    ∀ (n a fu : Nat) (st : List Int32) (sk : Nat → Int32), a + n = E → n < fu → st.length ≤ 40 → REP sk st → rnsE nm code a n st = some [v] →
      ∃ sk', lq3 (f_X5_tell_25 nE 40 nC 6 ends code nm w) fu (nI st.length) (nI a) sk = some (v, sk') := by
  intro n
  induction n with
  | zero =>
    intro a fu st sk h1 h2 h3 h4 h5
    obtain ⟨fu, rfl⟩ : ∃ g, fu = g + 1 := ⟨fu - 1, by omega⟩
    obtain rfl : st = [v] := Option.some.inj h5
    show ∃ sk', f_X5_tell_25 _ _ _ _ _ _ _ _ (lq3 _ fu) (nI 1) (nI a) sk = _
    generalize lq3 (f_X5_tell_25 nE 40 nC 6 ends code nm w) fu = kp
    unfold f_X5_tell_25
    refine ⟨sk, ?_⟩
    rw [if_pos hw, hE, if_pos (by rw [le_nI] <;> omega), if_neg (by decide), if_pos (by decide)]
    have : sk 0 = v := h4.1
    show some (sk 0, sk) = _
    rw [this]
  | succ n ih =>
    intro a fu st sk h1 h2 h3 h4 h5
    obtain ⟨fu, rfl⟩ : ∃ g, fu = g + 1 := ⟨fu - 1, by omega⟩
    have h5' : (stpE nm (code a) st).bind (rnsE nm code (a + 1) n) = some [v] := h5
    show ∃ sk', f_X5_tell_25 _ _ _ _ _ _ _ _ (lq3 _ fu) (nI st.length) (nI a) sk = _
    have ih' := ih (a + 1) fu
    generalize lq3 (f_X5_tell_25 nE 40 nC 6 ends code nm w) fu = kp at ih' ⊢
    cases hs : stpE nm (code a) st with
    | none => rw [hs] at h5'; cases h5'
    | some s =>
      rw [hs, Option.bind_some] at h5'
      unfold f_X5_tell_25
      rw [if_pos hw, hE, if_neg (by rw [le_nI] <;> omega), if_pos (inb_nI (by omega) (by omega)), cl_nI (by omega), nI_1]
      unfold stpE at hs
      by_cases c1 : code a < -6
      · rw [if_pos c1] at hs ⊢
        by_cases c2 : code a = -12 ∨ code a = -13
        · rw [if_pos c2] at hs
          have g : f_X5_tell_99 kp 40 sk (nI st.length) (nI a) (code a) = kp (nI st.length) (nI (a + 1)) (upd sk (st.length - 1) (s.headD 0)) ∧ s.length = st.length ∧ REP (upd sk (st.length - 1) (s.headD 0)) s := by
            cases st with
            | nil => cases hs
            | cons x st =>
              simp only [List.length_cons] at *
              cases ht : f_X5_turned (code a) x with
              | none => rw [ht] at hs; cases hs
              | some y =>
                rw [ht] at hs
                obtain rfl : y :: st = s := Option.some.inj hs
                unfold f_X5_tell_99
                have e1 : nI (st.length + 1) - 1 = nI st.length := nI_pred _
                rw [if_neg (by rw [show (1 : Int32) = nI 1 from rfl, nI_ltI (by omega) (by omega)]; omega), e1, if_pos (inb_nI (by omega) (by decide)), cl_nI (by omega), h4.1, ht, Option.bind_some, if_pos (inb_nI (by omega) (by decide)), nI_1]
                exact ⟨rfl, rfl, REP_up h4.2⟩
          obtain ⟨g1, g2, g3⟩ := g
          obtain ⟨sk', hk⟩ := ih' s _ (by omega) (by omega) (by omega) g3 h5'
          rw [g2] at hk
          refine ⟨sk', ?_⟩
          rcases c2 with c2 | c2
          · rw [if_pos c2, g1]; exact hk
          · rw [if_neg (by rw [c2]; decide), if_pos c2, g1]; exact hk
        · rw [if_neg c2] at hs
          simp only [not_or] at c2
          rw [if_neg c2.1, if_neg c2.2]
          cases st with
          | nil => cases hs
          | cons y st =>
            cases st with
            | nil => cases hs
            | cons x st =>
              simp only [List.length_cons] at *
              cases ht : f_X5_joined (code a) x y with
              | none => rw [ht] at hs; cases hs
              | some u =>
                rw [ht] at hs
                obtain rfl : u :: st = s := Option.some.inj hs
                have e1 : nI (st.length + 1 + 1) + -1 = nI (st.length + 1) := by
                  rw [← nI_pred (st.length + 1)]; exact (Int32.sub_eq_add_neg _ _).symm
                have e2 : nI (st.length + 1) - 1 = nI st.length := nI_pred _
                have q1 : sk (st.length + 1) = y := h4.1
                have q2 : sk st.length = x := h4.2.1
                rw [if_neg (by rw [show (2 : Int32) = nI 2 from rfl, nI_ltI (by omega) (by omega)]; omega), e1, e2, if_pos (inb_nI (by omega) (by decide)), if_pos (inb_nI (by omega) (by decide)), cl_nI (by omega), cl_nI (by omega), q1, q2, ht, Option.bind_some, if_pos (inb_nI (by omega) (by decide))]
                exact ih' (u :: st) _ (by omega) (by omega) (by simp only [List.length_cons]; omega) (REP_up h4.2.2) h5'
      · rw [if_neg c1] at hs ⊢
        by_cases c2 : 40 ≤ st.length
        · rw [if_pos c2] at hs; cases hs
        · rw [if_neg c2] at hs
          obtain rfl := Option.some.inj hs
          rw [if_neg (by rw [show Int32.ofNat 40 = nI 40 from rfl, le_nI] <;> omega), nI_1]
          have ih2 := ih' _ _ (by omega) (by omega) (by simp only [List.length_cons]; omega) (REP_up h4) h5'
          simp only [List.length_cons] at ih2
          by_cases c3 : code a < 0
          · rw [if_pos c3] at ih2 ⊢
            have e1 : (-1 - code a).toInt = -1 - (code a).toInt := by
              rw [lt_i, i0] at c3; rw [lt_i, show (-6 : Int32).toInt = -6 by decide] at c1
              rw [sub_i] <;> rw [im1] <;> omega
            rw [if_pos (by rw [inb_iff, e1]; rw [lt_i, i0] at c3; rw [lt_i, show (-6 : Int32).toInt = -6 by decide] at c1; omega), if_pos (inb_nI (by omega) (by decide)), cl_nI (by omega)]
            exact ih2
          · rw [if_neg c3] at ih2 ⊢
            rw [if_pos (inb_nI (by omega) (by decide)), cl_nI (by omega)]
            exact ih2
