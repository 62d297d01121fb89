/-! ## how pleased one is by a pose: class and reference alike -/
def aw (a b : Nat) : Nat := let d := if a ≤ b then b - a else a - b; if d ≤ 11 - d then d else 11 - d
def sd (e f : Nat) : Nat := (e + 11 - f) % 11
theorem away6 : ∀ a, a < 11 → ∀ b, b < 11 → f_X2_awayOf (nI a) (nI b) = some (nI (aw a b)) := by decide +kernel
theorem away7 : ∀ a, a < 11 → ∀ b, b < 11 → f_X7_away (nI a) (nI b) = some (nI (aw a b)) := by decide +kernel
theorem side_a : ∀ e, e < 11 → ∀ f, f < 11 → ((nI e - nI f + 11) - (nI e - nI f + 11) / 11 * 11) = nI (sd e f) := by decide +kernel
theorem side_b : ∀ e, e < 11 → ∀ f, f < 11 → ((nI e + 11 - nI f) - (nI e + 11 - nI f) / 11 * 11) = nI (sd e f) := by decide +kernel
theorem aw_lt : ∀ a, a < 11 → ∀ b, b < 11 → aw a b < 6 := by decide +kernel
theorem sd_lt (e f : Nat) : sd e f < 11 := Nat.mod_lt _ (by decide)
theorem aw_1 : ∀ e, e < 11 → ∀ x, x < 11 → (aw e x = 1 ↔ x = (e + 1) % 11 ∨ x = (e + 10) % 11) := by decide +kernel
theorem nb_ne : ∀ e, e < 11 → (e + 1) % 11 ≠ (e + 10) % 11 := by decide +kernel
theorem up_a : ∀ e, e < 11 → ((nI e + 1) - (nI e + 1) / 11 * 11) = nI ((e + 1) % 11) := by decide +kernel
theorem up_b : ∀ e, e < 11 → ((nI e + 11 - 1) - (nI e + 11 - 1) / 11 * 11) = nI ((e + 10) % 11) := by decide +kernel
theorem c0 : (Int32.toNatClampNeg 0) = 0 := by decide
theorem c1 : (Int32.toNatClampNeg 1) = 1 := by decide
theorem c2 : (Int32.toNatClampNeg 2) = 2 := by decide
theorem c3 : (Int32.toNatClampNeg 3) = 3 := by decide
theorem c4 : (Int32.toNatClampNeg 4) = 4 := by decide
theorem c5 : (Int32.toNatClampNeg 5) = 5 := by decide
/-- the painters next to e, of k from i on -/
def nrF (E : Nat → Nat) (e acc i : Nat) : Nat → Nat
  | 0 => acc
  | k + 1 => nrF E e (if aw e (E i) = 1 then acc + 1 else acc) (i + 1) k
theorem nrF_le (E : Nat → Nat) (e : Nat) : ∀ (k acc i : Nat), nrF E e acc i k ≤ acc + k := by
  intro k
  induction k with
  | zero => intro acc i; exact Nat.le_refl _
  | succ k ih =>
    intro acc i
    show nrF E e _ (i + 1) k ≤ _
    refine Nat.le_trans (ih _ _) ?_
    split <;> omega
theorem near6_loop {n p : Nat} {E : Nat → Nat} {easel : Nat → Int32} (hn : n ≤ 6) (hp : p < n) (he : ∀ p, p < n → easel p = nI (E p)) (hE : ∀ p, p < n → E p < 11) : ∀ (k i fu acc : Nat), i + k = n → k < fu → acc ≤ i → lq2 (f_X2_nearOf_4 (nI n) easel (nI p)) fu (nI acc) (nI i) = some (nI (nrF E (E p) acc i k)) := by
  intro k
  induction k with
  | zero =>
    intro i fu acc h1 h2 h3
    obtain ⟨fu, rfl⟩ : ∃ g, fu = g + 1 := ⟨fu - 1, by omega⟩
    show f_X2_nearOf_4 (nI n) easel (nI p) (lq2 _ fu) (nI acc) (nI i) = _
    unfold f_X2_nearOf_4
    rw [if_pos (by rw [le_nI] <;> omega)]
    rfl
  | succ k ih =>
    intro i fu acc h1 h2 h3
    obtain ⟨fu, rfl⟩ : ∃ g, fu = g + 1 := ⟨fu - 1, by omega⟩
    show f_X2_nearOf_4 (nI n) easel (nI p) (lq2 _ fu) (nI acc) (nI i) = _
    have ih' := ih (i + 1) fu
    generalize lq2 (f_X2_nearOf_4 (nI n) easel (nI p)) fu = kp at ih' ⊢
    unfold f_X2_nearOf_4
    have a1 := hE p hp
    have a2 := hE i (by omega)
    have a3 := aw_lt _ a1 _ a2
    rw [if_neg (by rw [le_nI] <;> omega), if_pos (inb_nI (by omega) (by decide)), if_pos (inb_nI (by omega) (by decide)), cl_nI (by omega), cl_nI (by omega), he i (by omega), he p hp, away6 _ a1 _ a2]
    show (if nI (aw (E p) (E i)) = 1 then kp (nI acc + 1) (nI i + 1) else kp (nI acc) (nI i + 1)) = some (nI (nrF E (E p) (if aw (E p) (E i) = 1 then acc + 1 else acc) (i + 1) k))
    rw [nI_1, nI_1]
    by_cases h : aw (E p) (E i) = 1
    · rw [if_pos (by rw [h]; rfl), if_pos h]
      exact ih' _ (by omega) (by omega) (by omega)
    · rw [if_neg (by rw [show (1 : Int32) = nI 1 from rfl, eq_nI (by omega) (by omega)]; exact h), if_neg h]
      exact ih' _ (by omega) (by omega) (by omega)
theorem near6 {n p : Nat} {E : Nat → Nat} {easel : Nat → Int32} (hn : n ≤ 6) (hp : p < n) (he : ∀ p, p < n → easel p = nI (E p)) (hE : ∀ p, p < n → E p < 11) : f_X2_nearOf (nI p) (nI n) easel = some (nI (nrF E (E p) 0 0 n)) := by
  unfold f_X2_nearOf
  exact near6_loop hn hp he hE n 0 200 0 (by omega) (by omega) (by omega)
def b01 (b : Bool) : Nat := if b = true then 0 else 1
theorem nrF_eq {E : Nat → Nat} {n e : Nat} (he : e < 11) (hE : ∀ p, p < n → E p < 11) (hd : dis n E) : ∀ (k acc i : Nat), i + k ≤ n → nrF E e acc i k = acc + b01 (noE E ((e + 1) % 11) i k) + b01 (noE E ((e + 10) % 11) i k) := by
  intro k
  induction k with
  | zero => intro acc i h; rfl
  | succ k ih =>
    intro acc i h
    show nrF E e _ (i + 1) k = acc + b01 (!(E i == (e + 1) % 11) && noE E ((e + 1) % 11) (i + 1) k) + b01 (!(E i == (e + 10) % 11) && noE E ((e + 10) % 11) (i + 1) k)
    rw [ih _ (i + 1) (by omega)]
    have hi := hE i (by omega)
    have rest : ∀ a, E i = a → noE E a (i + 1) k = true := by
      intro a ha
      rw [noE_iff]
      intro p h1 h2 h3
      have := hd i p (by omega) (by omega) (by rw [ha, h3])
      omega
    have hne := nb_ne e he
    by_cases h1 : E i = (e + 1) % 11
    · have h2 : aw e (E i) = 1 := (aw_1 e he _ hi).mpr (Or.inl h1)
      rw [if_pos h2, rest _ h1]
      have h3 : (E i == (e + 1) % 11) = true := by simpa using h1
      have h4 : (E i == (e + 10) % 11) = false := by simp only [beq_eq_false_iff_ne]; rw [h1]; exact hne
      rw [h3, h4]
      simp [b01]
    · have h3 : (E i == (e + 1) % 11) = false := by simpa using h1
      rw [h3]
      by_cases h5 : E i = (e + 10) % 11
      · have h2 : aw e (E i) = 1 := (aw_1 e he _ hi).mpr (Or.inr h5)
        rw [if_pos h2, rest _ h5]
        have h4 : (E i == (e + 10) % 11) = true := by simpa using h5
        rw [h4]
        simp [b01]
        omega
      · have h2 : ¬ aw e (E i) = 1 := by rw [aw_1 e he _ hi]; rintro (q | q); exact h1 q; exact h5 q
        have h4 : (E i == (e + 10) % 11) = false := by simpa using h5
        rw [if_neg h2, h4]
        simp
/-- a ring by its numbers -/
def OKr (n F L S : Nat) (K N E : Nat → Nat) : Prop := n ≤ 6 ∧ F < 11 ∧ L < 11 ∧ S < 11 ∧ dis n E ∧ ∀ p, p < n → K p < 6 ∧ N p < 10 ∧ E p < 11
/-- the class's ring holds these numbers -/
def RX (n F L S : Nat) (K N E : Nat → Nat) (face lamp stove painters : Int32) (kind number easel : Nat → Int32) : Prop := face = nI F ∧ lamp = nI L ∧ stove = nI S ∧ painters = nI n ∧ ∀ p, p < n → kind p = nI (K p) ∧ number p = nI (N p) ∧ easel p = nI (E p)
/-- the reference's rows hold these numbers -/
def RM (n F L S : Nat) (K N E : Nat → Nat) (pose many : Int32) (kinds rows room : Nat → Int32) : Prop := many = nI n ∧ room 0 = nI F ∧ room 1 = nI L ∧ room 2 = nI S ∧ room 3 = pose ∧ ∀ p, p < n → kinds p = nI (K p) ∧ rows (4 * p) = nI (N p) ∧ rows (4 * p + 1) = nI (E p)
theorem near7 {n p : Nat} {E : Nat → Nat} {rows : Nat → Int32} (hn : n ≤ 6) (hp : p < n) (hd : dis n E) (he : ∀ p, p < n → rows (4 * p + 1) = nI (E p)) (hE : ∀ p, p < n → E p < 11) : f_X7_nearOf (nI p) (nI n) rows = some (nI (nrF E (E p) 0 0 n)) := by
  have a1 := hE p hp
  have key : ∀ k0 : Nat, k0 ≤ 1 → f_X7_nearOf_23 (nI n) rows (nI p) (nI k0) = some (nI (k0 + b01 (noE E ((E p + 10) % 11) 0 n))) := by
    intro k0 hk
    unfold f_X7_nearOf_23
    rw [easelOf7 hn he hp]
    simp only [Option.bind_some, f_X7_round1]
    rw [up_b _ a1, who7 hn he hE (Nat.mod_lt _ (by decide))]
    simp only [Option.bind_some]
    show (if whoF E ((E p + 10) % 11) 0 n = -1 then some (nI k0 + 0) else some (nI k0 + 1)) = _
    have hw := whoF_none (E := E) (e := (E p + 10) % 11) n 0 (by omega)
    by_cases h : noE E ((E p + 10) % 11) 0 n = true
    · rw [if_pos (hw.mpr h), h]
      show some (nI k0 + nI 0) = _
      rw [nI_add]; rfl
    · rw [if_neg (fun q => h (hw.mp q)), nI_1]
      have h : noE E ((E p + 10) % 11) 0 n = false := by simpa using h
      rw [h]; rfl
  unfold f_X7_nearOf
  rw [easelOf7 hn he hp]
  simp only [Option.bind_some, f_X7_round1]
  rw [up_a _ a1, who7 hn he hE (Nat.mod_lt _ (by decide)), nrF_eq a1 hE hd n 0 0 (by omega)]
  simp only [Option.bind_some]
  show (if whoF E ((E p + 1) % 11) 0 n = -1 then f_X7_nearOf_23 (nI n) rows (nI p) (nI 0) else f_X7_nearOf_23 (nI n) rows (nI p) (nI 1)) = _
  have hw := whoF_none (E := E) (e := (E p + 1) % 11) n 0 (by omega)
  by_cases h : noE E ((E p + 1) % 11) 0 n = true
  · rw [if_pos (hw.mpr h), h, key 0 (by omega)]
    simp [b01]
  · have h2 : noE E ((E p + 1) % 11) 0 n = false := by simpa using h
    rw [if_neg (fun q => h (hw.mp q)), h2, key 1 (by omega)]
    simp [b01]
/-- the bound -/
def clp (lo v hi : Int32) : Int32 := if v < lo then lo else if hi < v then hi else v
theorem within6 {lo v hi : Int32} (h : lo ≤ hi) : f_X6_within lo v hi = some (clp lo v hi) := by
  unfold f_X6_within clp
  simp only [lt_i, le_i, apply_ite Int32.toInt] at *
  congr 1
  repeat' split
  all_goals first | rfl | omega | (apply iext; omega)
theorem within7 {lo v hi : Int32} (h : lo ≤ hi) : f_X7_within v lo hi = some (clp lo v hi) := by
  unfold f_X7_within clp
  simp only [lt_i, le_i] at *
  repeat' split
  all_goals first | rfl | omega | (congr 1; apply iext; omega)
theorem clp_i {lo v hi : Int32} (h : lo ≤ hi) : lo.toInt ≤ (clp lo v hi).toInt ∧ (clp lo v hi).toInt ≤ hi.toInt := by
  unfold clp
  simp only [lt_i, le_i] at *
  repeat' split
  all_goals omega
/-- what a kind makes of it -/
def vwS (k : Nat) (v side lamp number pose : Int32) : Int32 :=
  let left := if side < 1 then v else if 5 < side then v else 2 * v
  if k = 0 then v else if k = 1 then left else if k = 2 then v + 2 else if k = 3 then (if number ≤ pose then left else left / 2) else if k = 4 then (if lamp ≤ 3 then v + 2 else 0) else 0
def wmS (k : Nat) (v stove number : Int32) : Int32 :=
  let tall := if 2 ≤ stove then v else -v
  if k = 2 then tall else if k = 3 then v - number else if k = 4 then 2 * tall else if k = 5 then 1 else v
def mdS (k : Nat) (v near : Int32) : Int32 :=
  if k = 1 then v + 1 else if k = 2 then 0 else if k = 3 then v + 1 else if k = 4 then near else if k = 5 then 0 else v
/-- PLEASED by a pose -/
def pbS (k : Nat) (a b c side lamp stove number pose near : Int32) : Int32 :=
  clp 0 (vwS k (clp 0 a 99) side lamp number pose) 99 + clp (-99) (wmS k (clp (-99) b 99) stove number) 99 - clp (-99) (mdS k (clp (-99) c 99) near) 99
def pbN (tv : Int32 → Int32 → Int32 → Int32 → Int32 → Int32 → Int32 → Int32 → Int32) (rule pose : Int32) (n F L S : Nat) (K N E : Nat → Nat) (p : Nat) : Int32 :=
  let s := nI (sd (E p) F); let la := nI (aw (E p) L); let st := nI (aw (E p) S); let nu := nI (N p); let ne := nI (nrF E (E p) 0 0 n)
  pbS (K p) (tv rule 0 s la st nu pose ne) (tv rule 1 s la st nu pose ne) (tv rule 2 s la st nu pose ne) s la st nu pose ne
theorem le099 : (0 : Int32) ≤ 99 := by decide
theorem lem99 : (-99 : Int32) ≤ 99 := by decide
theorem pbS_bd (k : Nat) (a b c side lamp stove number pose near : Int32) : -198 ≤ (pbS k a b c side lamp stove number pose near).toInt ∧ (pbS k a b c side lamp stove number pose near).toInt ≤ 297 := by
  unfold pbS
  have h1 := clp_i (v := vwS k (clp 0 a 99) side lamp number pose) le099
  have h2 := clp_i (v := wmS k (clp (-99) b 99) stove number) lem99
  have h3 := clp_i (v := mdS k (clp (-99) c 99) near) lem99
  rw [i0, i99] at h1
  rw [im99, i99] at h2 h3
  rw [sub_i, add_i] <;> first | omega | (rw [add_i] <;> omega)
theorem pbN_bd {tv : Int32 → Int32 → Int32 → Int32 → Int32 → Int32 → Int32 → Int32 → Int32} {rule pose : Int32} {n F L S : Nat} {K N E : Nat → Nat} {p : Nat} : -198 ≤ (pbN tv rule pose n F L S K N E p).toInt ∧ (pbN tv rule pose n F L S K N E p).toInt ≤ 297 := pbS_bd _ _ _ _ _ _ _ _ _ _
theorem view6 {k : Nat} (hk : k < 6) (v s l st nu po ne : Int32) : f_X4_view (nI k) v (nm6 s l st nu po ne) = some (clp 0 (vwS k v s l nu po) 99) := by
  unfold f_X4_view f_X4_freeView f_X4_leftView f_X4_tallView
  rw [c0, c1, c3, c4]
  show Option.bind _ _ = _
  rcases (show k = 0 ∨ k = 1 ∨ k = 2 ∨ k = 3 ∨ k = 4 ∨ k = 5 by omega) with rfl | rfl | rfl | rfl | rfl | rfl
  all_goals
    simp only [nI, nm6, vwS]
    simp (decide := true) only [if_true, if_false]
    repeat' split
    all_goals simp only [Option.bind_some, within6 le099]
theorem warmth6 {k : Nat} (hk : k < 6) (v s l st nu po ne : Int32) : f_X4_warmth (nI k) v (nm6 s l st nu po ne) = some (clp (-99) (wmS k v st nu) 99) := by
  unfold f_X4_warmth f_X4_freeWarmth f_X4_tallWarmth
  rw [c2, c3]
  rcases (show k = 0 ∨ k = 1 ∨ k = 2 ∨ k = 3 ∨ k = 4 ∨ k = 5 by omega) with rfl | rfl | rfl | rfl | rfl | rfl
  all_goals
    simp only [nI, nm6, wmS]
    simp (decide := true) only [if_true, if_false]
    repeat' split
    all_goals simp only [Option.bind_some, within6 lem99]
theorem minding6 {k : Nat} (hk : k < 6) (v s l st nu po ne : Int32) : f_X4_minding (nI k) v (nm6 s l st nu po ne) = some (clp (-99) (mdS k v ne) 99) := by
  unfold f_X4_minding f_X4_freeMinding
  rw [c5]
  rcases (show k = 0 ∨ k = 1 ∨ k = 2 ∨ k = 3 ∨ k = 4 ∨ k = 5 by omega) with rfl | rfl | rfl | rfl | rfl | rfl
  all_goals
    simp only [nI, nm6, mdS]
    simp (decide := true) only [if_true, if_false]
    try simp only [Option.bind_some, within6 lem99]
