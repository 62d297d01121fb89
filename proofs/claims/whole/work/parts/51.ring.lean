/-! rows on bits, shifts and unsigned numbers, to paste: each family out of a closed proof of our own, whole with what it rests on; each by itself clean at Lean in its own claim (generation 39, form 5). Take a family whole -/
/-! ===== Int32 by its bits: bt x i ===== -/
def bt (x : Int32) (i : Nat) : Bool := x.toBitVec.getLsbD i
theorem b_ext {x y : Int32} (h : ∀ i, i < 32 → bt x i = bt y i) : x = y := Int32.toBitVec_inj.mp (BitVec.eq_of_getLsbD_eq (fun i hi => h i hi))
theorem b_or (x y : Int32) (i : Nat) : bt (x ||| y) i = (bt x i || bt y i) := by unfold bt; rw [Int32.toBitVec_or, BitVec.getLsbD_or]
theorem b_and (x y : Int32) (i : Nat) : bt (x &&& y) i = (bt x i && bt y i) := by unfold bt; rw [Int32.toBitVec_and, BitVec.getLsbD_and]
theorem b_xor (x y : Int32) (i : Nat) : bt (x ^^^ y) i = (bt x i ^^ bt y i) := by unfold bt; rw [Int32.toBitVec_xor, BitVec.getLsbD_xor]
theorem b_big {x : Int32} {i : Nat} (h : 32 ≤ i) : bt x i = false := BitVec.getLsbD_of_ge _ _ h
theorem b_255 (i : Nat) : bt 255 i = decide (i < 8) := by
  rcases Nat.lt_or_ge i 32 with h | h
  · exact (by decide +kernel : ∀ i, i < 32 → bt 255 i = decide (i < 8)) i h
  · rw [b_big h, decide_eq_false (by omega)]
theorem b_65535 (i : Nat) : bt 65535 i = decide (i < 16) := by
  rcases Nat.lt_or_ge i 32 with h | h
  · exact (by decide +kernel : ∀ i, i < 32 → bt 65535 i = decide (i < 16)) i h
  · rw [b_big h, decide_eq_false (by omega)]
theorem b_m1 : ∀ i, i < 32 → bt (-1) i = true := by decide +kernel
theorem b_0 (i : Nat) : bt 0 i = false := BitVec.getLsbD_zero
theorem s_l : ∀ n, n < 32 → ((nI n &&& 31).toBitVec.smod 32).toNat = n := by decide +kernel
theorem s_u : ∀ n, n < 32 → (((nI n).toUInt32 &&& Int32.toUInt32 31).toBitVec % 32).toNat = n := by decide +kernel
theorem b_shl (n : Nat) (hn : n < 32) (x : Int32) {i : Nat} (hi : i < 32) : bt (x <<< (nI n &&& 31)) i = (decide (n ≤ i) && bt x (i - n)) := by
  unfold bt
  rw [Int32.toBitVec_shiftLeft]
  show (x.toBitVec <<< ((nI n &&& 31).toBitVec.smod 32).toNat).getLsbD i = _
  rw [s_l n hn, BitVec.getLsbD_shiftLeft]
  rcases Nat.lt_or_ge i n with h | h
  · simp [h, Nat.not_le.mpr h]
  · simp [hi, h, Nat.not_lt.mpr h]
theorem b_ushr (n : Nat) (hn : n < 32) (x : Int32) (i : Nat) : bt ((x.toUInt32 >>> ((nI n).toUInt32 &&& Int32.toUInt32 31)).toInt32) i = bt x (n + i) := by
  show (x.toUInt32 >>> ((nI n).toUInt32 &&& Int32.toUInt32 31)).toBitVec.getLsbD i = x.toUInt32.toBitVec.getLsbD (n + i)
  rw [UInt32.toBitVec_shiftRight]
  show (x.toUInt32.toBitVec >>> (((nI n).toUInt32 &&& Int32.toUInt32 31).toBitVec % 32).toNat).getLsbD i = _
  rw [s_u n hn, BitVec.getLsbD_ushiftRight]
theorem b_sshr (n : Nat) (hn : n < 32) (x : Int32) {i : Nat} (hi : i < 32) : bt (x >>> (nI n &&& 31)) i = if n + i < 32 then bt x (n + i) else bt x 31 := by
  unfold bt
  rw [Int32.toBitVec_shiftRight]
  show (x.toBitVec.sshiftRight ((nI n &&& 31).toBitVec.smod 32).toNat).getLsbD i = _
  rw [s_l n hn, BitVec.getLsbD_sshiftRight, BitVec.msb_eq_getLsbD_last]
  simp [hi]
/-! ## easels, painters: helpers of both sides -/
theorem le_nI {a b : Nat} (ha : a ≤ 2147483647) (hb : b ≤ 2147483647) : nI a ≤ nI b ↔ a ≤ b := nI_leI (by omega) (by omega)
theorem eq_nI {a b : Nat} (ha : a ≤ 2147483647) (hb : b ≤ 2147483647) : nI a = nI b ↔ a = b := nI_eq (by omega) (by omega)
theorem cl_nI {a : Nat} (ha : a ≤ 2147483647) : (nI a).toNatClampNeg = a := nI_clamp (by omega)
/-- the places of a painter's row -/
theorem ix0 {p : Nat} (h : p < 6) : inb (4 * nI p) 24 = true ∧ (4 * nI p).toNatClampNeg = 4 * p := by
  rcases (show p = 0 ∨ p = 1 ∨ p = 2 ∨ p = 3 ∨ p = 4 ∨ p = 5 by omega) with rfl | rfl | rfl | rfl | rfl | rfl <;> decide +kernel
theorem ix1 {p : Nat} (h : p < 6) : inb (4 * nI p + 1) 24 = true ∧ (4 * nI p + 1).toNatClampNeg = 4 * p + 1 := by
  rcases (show p = 0 ∨ p = 1 ∨ p = 2 ∨ p = 3 ∨ p = 4 ∨ p = 5 by omega) with rfl | rfl | rfl | rfl | rfl | rfl <;> decide +kernel
theorem ix2 {p : Nat} (h : p < 6) : inb (4 * nI p + 2) 24 = true ∧ (4 * nI p + 2).toNatClampNeg = 4 * p + 2 := by
  rcases (show p = 0 ∨ p = 1 ∨ p = 2 ∨ p = 3 ∨ p = 4 ∨ p = 5 by omega) with rfl | rfl | rfl | rfl | rfl | rfl <;> decide +kernel
theorem ix3 {p : Nat} (h : p < 6) : inb (4 * nI p + 3) 24 = true ∧ (4 * nI p + 3).toNatClampNeg = 4 * p + 3 := by
  rcases (show p = 0 ∨ p = 1 ∨ p = 2 ∨ p = 3 ∨ p = 4 ∨ p = 5 by omega) with rfl | rfl | rfl | rfl | rfl | rfl <;> decide +kernel
theorem has6 (x : Int32) {n : Nat} (hn : n ≤ 6) : f_X2_has x (nI n) = some (bz (decide (0 ≤ x.toInt ∧ x.toInt < n))) := by
  unfold f_X2_has
  simp only [lt_i, le_i, i0]
  rw [nI_toInt (by omega)]
  repeat' split
  all_goals first | (rw [bz_f]; simp only [decide_eq_false_iff_not]; omega) | (rw [bz_t]; simp only [decide_eq_true_eq]; omega)
theorem isOne7 (x : Int32) {n : Nat} (hn : n ≤ 6) : f_X7_isOne x (nI n) = some (bz (decide (0 ≤ x.toInt ∧ x.toInt < n))) := by
  unfold f_X7_isOne
  rw [in7i]
  have e : (nI n - 1).toInt64.toInt = (n : Int) - 1 := by
    rw [l64, sub_i, nI_toInt (by omega), i1]
    · rw [nI_toInt (by omega), i1]; omega
    · rw [nI_toInt (by omega), i1]; omega
  rw [e, show (0 : Int64).toInt = 0 from by decide]
  simp only [Option.bind_some, bz_Z, if_true]
  congr 2
  apply decide_eq_decide.mpr
  omega
theorem isEasel7 (x : Int32) : f_X7_isEasel x = some (bz (decide (0 ≤ x.toInt ∧ x.toInt < 11))) := by
  unfold f_X7_isEasel
  rw [in7i]
  rw [show (0 : Int64).toInt = 0 from by decide, show (10 : Int64).toInt = 10 from by decide]
  simp only [Option.bind_some, bz_Z, if_true]
  congr 2
  apply decide_eq_decide.mpr
  omega
/-- the mask of free easels -/
def FMs (E : Nat → Nat) (acc : Int32) (i : Nat) : Nat → Int32
  | 0 => acc
  | k + 1 => FMs E (acc &&& ((1 <<< (nI (E i) &&& 31)) ^^^ (-1))) (i + 1) k
theorem free6_loop {n : Nat} {E : Nat → Nat} {easel : Nat → Int32} (hn : n ≤ 6) (he : ∀ p, p < n → easel p = nI (E p)) : ∀ (k i fu : Nat) (acc : Int32), i + k = n → k < fu → lq2 (f_X2_freeEasels_6 (nI n) easel) fu acc (nI i) = some (FMs E acc i k) := by
  intro k
  induction k with
  | zero =>
    intro i fu acc h1 h2
    obtain ⟨fu, rfl⟩ : ∃ g, fu = g + 1 := ⟨fu - 1, by omega⟩
    show f_X2_freeEasels_6 (nI n) easel (lq2 _ fu) acc (nI i) = _
    unfold f_X2_freeEasels_6
    rw [if_pos (by rw [le_nI] <;> omega)]
    rfl
  | succ k ih =>
    intro i fu acc h1 h2
    obtain ⟨fu, rfl⟩ : ∃ g, fu = g + 1 := ⟨fu - 1, by omega⟩
    show f_X2_freeEasels_6 (nI n) easel (lq2 _ fu) acc (nI i) = _
    have ih' := ih (i + 1) fu
    generalize lq2 (f_X2_freeEasels_6 (nI n) easel) fu = kp at ih' ⊢
    unfold f_X2_freeEasels_6
    rw [if_neg (by rw [le_nI] <;> omega), if_pos (inb_nI (by omega) (by decide)), cl_nI (by omega), he i (by omega), nI_1]
    exact ih' _ (by omega) (by omega)
theorem free6 {n : Nat} {E : Nat → Nat} {easel : Nat → Int32} (hn : n ≤ 6) (he : ∀ p, p < n → easel p = nI (E p)) : f_X2_freeEasels (nI n) easel = some (FMs E 2047 0 n) := by
  unfold f_X2_freeEasels
  exact free6_loop hn he n 0 200 2047 (by omega) (by omega)
theorem easelOf7 {p n : Nat} {E : Nat → Nat} {rows : Nat → Int32} (hn : n ≤ 6) (he : ∀ p, p < n → rows (4 * p + 1) = nI (E p)) (hp : p < n) : f_X7_easelOf (nI p) rows = some (nI (E p)) := by
  unfold f_X7_easelOf
  obtain ⟨h1, h2⟩ := ix1 (show p < 6 by omega)
  rw [if_pos h1, h2, he p hp]
theorem free7_loop {n : Nat} {E : Nat → Nat} {rows : Nat → Int32} (hn : n ≤ 6) (he : ∀ p, p < n → rows (4 * p + 1) = nI (E p)) : ∀ (k i fu : Nat) (acc : Int32), i + k = n → k < fu → lq2 (f_X7_freeSet_6 (nI n) rows) fu acc (nI i) = some (FMs E acc i k) := by
  intro k
  induction k with
  | zero =>
    intro i fu acc h1 h2
    obtain ⟨fu, rfl⟩ : ∃ g, fu = g + 1 := ⟨fu - 1, by omega⟩
    show f_X7_freeSet_6 (nI n) rows (lq2 _ fu) acc (nI i) = _
    unfold f_X7_freeSet_6
    rw [if_pos (by rw [le_nI] <;> omega)]
    rfl
  | succ k ih =>
    intro i fu acc h1 h2
    obtain ⟨fu, rfl⟩ : ∃ g, fu = g + 1 := ⟨fu - 1, by omega⟩
    show f_X7_freeSet_6 (nI n) rows (lq2 _ fu) acc (nI i) = _
    have ih' := ih (i + 1) fu
    generalize lq2 (f_X7_freeSet_6 (nI n) rows) fu = kp at ih' ⊢
    unfold f_X7_freeSet_6
    rw [if_neg (by rw [le_nI] <;> omega), easelOf7 hn he (by omega : i < n)]
    show kp _ (nI i + 1) = _
    rw [nI_1]
    exact ih' _ (by omega) (by omega)
theorem free7 {n : Nat} {E : Nat → Nat} {rows : Nat → Int32} (hn : n ≤ 6) (he : ∀ p, p < n → rows (4 * p + 1) = nI (E p)) : f_X7_freeSet (nI n) rows = some (FMs E 2047 0 n) := by
  unfold f_X7_freeSet
  exact free7_loop hn he n 0 200 2047 (by omega) (by omega)
theorem bt1 : ∀ i, i < 32 → bt 1 i = decide (i = 0) := by decide +kernel
theorem b2047 : ∀ i, i < 32 → bt 2047 i = decide (i < 11) := by decide +kernel
theorem and1_iff (y : Int32) : (y &&& 1) = 1 ↔ bt y 0 = true := by
  constructor
  · intro h
    have h2 := congrArg (fun z => bt z 0) h
    simp only [b_and, bt1 0 (by decide)] at h2
    simpa using h2
  · intro h
    apply b_ext
    intro i hi
    rw [b_and, bt1 i hi]
    by_cases h0 : i = 0
    · subst h0; rw [h]; rfl
    · simp [h0]
/-- nobody of k painters from i on sits at e -/
def noE (E : Nat → Nat) (e i : Nat) : Nat → Bool
  | 0 => true
  | k + 1 => !(E i == e) && noE E e (i + 1) k
theorem noE_iff (E : Nat → Nat) (e : Nat) : ∀ (k i : Nat), noE E e i k = true ↔ ∀ p, i ≤ p → p < i + k → E p ≠ e := by
  intro k
  induction k with
  | zero => intro i; exact ⟨fun _ p h1 h2 => by omega, fun _ => rfl⟩
  | succ k ih =>
    intro i
    unfold noE
    rw [Bool.and_eq_true, ih (i + 1)]
    simp only [Bool.not_eq_true', beq_eq_false_iff_ne]
    constructor
    · intro ⟨h1, h2⟩ p h3 h4
      by_cases h5 : p = i
      · subst h5; exact h1
      · exact h2 p (by omega) (by omega)
    · intro h; exact ⟨h i (by omega) (by omega), fun p h1 h2 => h p (by omega) (by omega)⟩
theorem FMs_bt {E : Nat → Nat} {n : Nat} (hE : ∀ p, p < n → E p < 11) : ∀ (k i : Nat) (acc : Int32), i + k ≤ n → ∀ e, e < 32 → bt (FMs E acc i k) e = (bt acc e && noE E e i k) := by
  intro k
  induction k with
  | zero =>
    intro i acc h e he
    simp [FMs, noE]
  | succ k ih =>
    intro i acc h e he
    show bt (FMs E _ (i + 1) k) e = _
    rw [ih (i + 1) _ (by omega) e he, b_and, b_xor, b_shl (E i) (by have := hE i (by omega); omega) 1 he, b_m1 e he]
    show _ = (bt acc e && (!(E i == e) && noE E e (i + 1) k))
    by_cases h1 : E i = e
    · have h3 : bt 1 (e - E i) = true := by rw [bt1 _ (by omega)]; simp only [decide_eq_true_eq]; omega
      rw [h3]
      have h4 : decide (E i ≤ e) = true := by simp only [decide_eq_true_eq]; omega
      rw [h4]
      simp [h1]
    · have h3 : (decide (E i ≤ e) && bt 1 (e - E i)) = false := by
        rw [bt1 _ (by omega)]
        by_cases h4 : E i ≤ e
        · simp only [h4, decide_true, Bool.true_and, decide_eq_false_iff_not]; omega
        · simp [h4]
      rw [h3]
      have h4 : (E i == e) = false := by simpa using h1
      rw [h4]
      simp
/-- a place is free -/
def frE (n : Nat) (E : Nat → Nat) (e : Nat) : Bool := noE E e 0 n
theorem frE_iff {n : Nat} {E : Nat → Nat} {e : Nat} : frE n E e = true ↔ ∀ p, p < n → E p ≠ e := by
  unfold frE
  rw [noE_iff]
  exact ⟨fun h p hp => h p (by omega) (by omega), fun h p _ hp => h p (by omega)⟩
theorem FM_test {n : Nat} {E : Nat → Nat} {e : Nat} (hE : ∀ p, p < n → E p < 11) (he : e < 11) : ((FMs E 2047 0 n >>> (nI e &&& 31)) &&& 1) = 1 ↔ frE n E e = true := by
  rw [and1_iff, b_sshr e (by omega) _ (by decide), if_pos (by omega), FMs_bt hE n 0 2047 (by omega) _ (by omega), b2047 _ (by omega)]
  unfold frE
  simp only [Bool.and_eq_true, decide_eq_true_eq, Nat.add_zero]
  exact ⟨fun h => h.2, fun h => ⟨by omega, h⟩⟩
theorem isFree6 {n : Nat} {E : Nat → Nat} {easel : Nat → Int32} (hn : n ≤ 6) (he : ∀ p, p < n → easel p = nI (E p)) (hE : ∀ p, p < n → E p < 11) (x : Int32) : f_X2_isFree x (nI n) easel = some (bz (decide (0 ≤ x.toInt ∧ x.toInt < 11) && frE n E x.toInt.toNat)) := by
  unfold f_X2_isFree
  rw [isEasel6, free6 hn he]
  simp only [Option.bind_some, bz_0, decide_eq_false_iff_not]
  by_cases h : 0 ≤ x.toInt ∧ x.toInt < 11
  · rw [if_neg (by intro q; exact q h)]
    obtain ⟨e, h1, rfl⟩ := inb_of (inb_iff.mpr h : inb x 11 = true) (by decide)
    rw [nI_toInt (by omega)]
    simp only [Int.toNat_natCast, h1]
    have h2 := FM_test hE h1
    by_cases h3 : frE n E e = true
    · rw [if_pos (h2.mpr h3), bz_t]; simp only [h3, Bool.and_true, decide_eq_true_eq]; omega
    · rw [if_neg (fun q => h3 (h2.mp q)), bz_f]; simp [h3]
  · rw [if_pos h, bz_f]; simp [h]
theorem maySit6 {n p : Nat} {E : Nat → Nat} {easel : Nat → Int32} (hn : n ≤ 6) (hp : p < n) (he : ∀ p, p < n → easel p = nI (E p)) (hE : ∀ p, p < n → E p < 11) (x : Int32) : f_X2_maySitAt (nI p) x (nI n) easel = some (bz (decide (0 ≤ x.toInt ∧ x.toInt < 11) && (frE n E x.toInt.toNat || E p == x.toInt.toNat))) := by
  unfold f_X2_maySitAt
  rw [if_pos (inb_nI (by omega) (by decide)), cl_nI (by omega), he p hp, isFree6 hn he hE]
  have hEp := hE p hp
  by_cases h : nI (E p) = x
  · subst h
    rw [if_pos rfl, bz_t]
    rw [nI_toInt (by omega)]
    simp only [Int.toNat_natCast, beq_self_eq_true, Bool.or_true, Bool.and_true, decide_eq_true_eq]; omega
  · rw [if_neg h]
    simp only [Option.bind_some, bz_0]
    by_cases hx : 0 ≤ x.toInt ∧ x.toInt < 11
    · have h3 : (E p == x.toInt.toNat) = false := by
        simp only [beq_eq_false_iff_ne]
        intro q
        apply h
        apply iext
        rw [nI_toInt (by omega)]; omega
      rw [h3, Bool.or_false]
      by_cases h4 : (decide (0 ≤ x.toInt ∧ x.toInt < 11) && frE n E x.toInt.toNat) = false
      · rw [if_pos h4, bz_f h4]
      · rw [if_neg h4, bz_t (by cases hq : (decide (0 ≤ x.toInt ∧ x.toInt < 11) && frE n E x.toInt.toNat) <;> simp_all)]
    · have h5 : decide (0 ≤ x.toInt ∧ x.toInt < 11) = false := by simp only [decide_eq_false_iff_not]; exact hx
      rw [h5]; rfl
/-- who sits at e, of k from i on -/
def whoF (E : Nat → Nat) (e i : Nat) : Nat → Int32
  | 0 => -1
  | k + 1 => if E i = e then nI i else whoF E e (i + 1) k
theorem who7_loop {n e : Nat} {E : Nat → Nat} {rows : Nat → Int32} (hn : n ≤ 6) (he : ∀ p, p < n → rows (4 * p + 1) = nI (E p)) (hE : ∀ p, p < n → E p < 11) (h11 : e < 11) : ∀ (k i fu : Nat), i + k = n → k < fu → lq1 (f_X7_whoAt_2 (nI n) rows (nI e)) fu (nI i) = some (whoF E e i k) := by
  intro k
  induction k with
  | zero =>
    intro i fu h1 h2
    obtain ⟨fu, rfl⟩ : ∃ g, fu = g + 1 := ⟨fu - 1, by omega⟩
    show f_X7_whoAt_2 (nI n) rows (nI e) (lq1 _ fu) (nI i) = _
    unfold f_X7_whoAt_2
    rw [if_pos (by rw [le_nI] <;> omega)]
    rfl
  | succ k ih =>
    intro i fu h1 h2
    obtain ⟨fu, rfl⟩ : ∃ g, fu = g + 1 := ⟨fu - 1, by omega⟩
    show f_X7_whoAt_2 (nI n) rows (nI e) (lq1 _ fu) (nI i) = _
    have ih' := ih (i + 1) fu
    generalize lq1 (f_X7_whoAt_2 (nI n) rows (nI e)) fu = kp at ih' ⊢
    unfold f_X7_whoAt_2
    obtain ⟨a1, a2⟩ := ix1 (show i < 6 by omega)
    have := hE i (by omega)
    rw [if_neg (by rw [le_nI] <;> omega), if_pos a1, a2, he i (by omega), nI_1]
    show (if nI (E i) = nI e then some (nI i) else kp (nI (i + 1))) = some (if E i = e then nI i else whoF E e (i + 1) k)
    by_cases h : E i = e
    · rw [if_pos (by rw [h]), if_pos h]
    · rw [if_neg (by rw [eq_nI (by omega) (by omega)]; exact h), if_neg h]
      exact ih' (by omega) (by omega)
theorem who7 {n e : Nat} {E : Nat → Nat} {rows : Nat → Int32} (hn : n ≤ 6) (he : ∀ p, p < n → rows (4 * p + 1) = nI (E p)) (hE : ∀ p, p < n → E p < 11) (h11 : e < 11) : f_X7_whoAt (nI e) (nI n) rows = some (whoF E e 0 n) := by
  unfold f_X7_whoAt
  exact who7_loop hn he hE h11 n 0 200 (by omega) (by omega)
theorem whoF_none {E : Nat → Nat} {e : Nat} : ∀ (k i : Nat), i + k ≤ 6 → (whoF E e i k = -1 ↔ noE E e i k = true) := by
  intro k
  induction k with
  | zero => intro i h; exact ⟨fun _ => rfl, fun _ => rfl⟩
  | succ k ih =>
    intro i h
    show (if E i = e then nI i else whoF E e (i + 1) k) = -1 ↔ (!(E i == e) && noE E e (i + 1) k) = true
    by_cases h1 : E i = e
    · rw [if_pos h1]
      simp only [h1, beq_self_eq_true, Bool.not_true, Bool.false_and, Bool.false_eq_true, iff_false]
      intro q
      have := congrArg Int32.toInt q
      rw [nI_toInt (by omega), im1] at this
      omega
    · rw [if_neg h1, ih (i + 1) (by omega)]
      simp [h1]
theorem whoF_p {E : Nat → Nat} {e : Nat} : ∀ (k i p : Nat), i + k ≤ 6 → (∀ a b, i ≤ a → a < i + k → i ≤ b → b < i + k → E a = E b → a = b) → i ≤ p → p < i + k → E p = e → whoF E e i k = nI p := by
  intro k
  induction k with
  | zero => intro i p h _ h1 h2; omega
  | succ k ih =>
    intro i p h hd h1 h2 h3
    show (if E i = e then nI i else whoF E e (i + 1) k) = nI p
    by_cases h4 : E i = e
    · rw [if_pos h4, hd i p (by omega) (by omega) h1 h2 (by rw [h4, h3])]
    · rw [if_neg h4]
      exact ih (i + 1) p (by omega) (fun a b q1 q2 q3 q4 => hd a b (by omega) (by omega) (by omega) (by omega)) (by by_cases h5 : p = i; (subst h5; exact absurd h3 h4); omega) (by omega) h3
theorem whoF_some {E : Nat → Nat} {e : Nat} : ∀ (k i : Nat), noE E e i k = false → ∃ p, i ≤ p ∧ p < i + k ∧ E p = e ∧ whoF E e i k = nI p := by
  intro k
  induction k with
  | zero => intro i h; cases h
  | succ k ih =>
    intro i h
    have h : (!(E i == e) && noE E e (i + 1) k) = false := h
    show ∃ p, i ≤ p ∧ p < i + (k + 1) ∧ E p = e ∧ (if E i = e then nI i else whoF E e (i + 1) k) = nI p
    by_cases h1 : E i = e
    · exact ⟨i, by omega, by omega, h1, by rw [if_pos h1]⟩
    · have h2 : noE E e (i + 1) k = false := by simpa [h1] using h
      obtain ⟨p, q1, q2, q3, q4⟩ := ih (i + 1) h2
      exact ⟨p, by omega, by omega, q3, by rw [if_neg h1]; exact q4⟩
/-- no two at one easel -/
def dis (n : Nat) (E : Nat → Nat) : Prop := ∀ a b, a < n → b < n → E a = E b → a = b
theorem isFreeFor7 {n p : Nat} {E : Nat → Nat} {rows : Nat → Int32} (hn : n ≤ 6) (hd : dis n E) (he : ∀ p, p < n → rows (4 * p + 1) = nI (E p)) (hE : ∀ p, p < n → E p < 11) (hp : p ≤ 6) (x : Int32) : f_X7_isFreeFor x (nI p) (nI n) rows = some (bz (decide (0 ≤ x.toInt ∧ x.toInt < 11) && (frE n E x.toInt.toNat || (decide (p < n) && E p == x.toInt.toNat)))) := by
  unfold f_X7_isFreeFor
  rw [isEasel7]
  simp only [Option.bind_some, bz_0, decide_eq_false_iff_not]
  by_cases h : 0 ≤ x.toInt ∧ x.toInt < 11
  · rw [if_neg (by intro q; exact q h)]
    obtain ⟨e, h1, rfl⟩ := inb_of (inb_iff.mpr h : inb x 11 = true) (by decide)
    rw [who7 hn he hE h1, nI_toInt (by omega)]
    have h0 : decide (0 ≤ (e : Int) ∧ (e : Int) < 11) = true := by simp only [decide_eq_true_eq]; omega
    rw [h0]
    simp only [Option.bind_some, Int.toNat_natCast, Bool.true_and]
    have hw := whoF_none (E := E) (e := e) n 0 (by omega)
    unfold frE
    by_cases h2 : noE E e 0 n = true
    · rw [if_pos (hw.mpr h2), h2]; rfl
    · rw [if_neg (fun q => h2 (hw.mp q))]
      have h2 : noE E e 0 n = false := by simpa using h2
      rw [h2, Bool.false_or]
      obtain ⟨a, q1, q2, q3, q4⟩ := whoF_some n 0 h2
      rw [q4]
      by_cases h3 : p < n ∧ E p = e
      · have : a = p := hd a p (by omega) h3.1 (by rw [q3, h3.2])
        subst this
        rw [if_pos rfl, bz_t]; simp only [h3.1, h3.2, decide_true, beq_self_eq_true, Bool.and_self]
      · rw [if_neg (by rw [eq_nI (by omega) (by omega)]; intro q; subst q; exact h3 ⟨by omega, q3⟩), bz_f]
        by_cases h4 : p < n
        · have : ¬ E p = e := fun q => h3 ⟨h4, q⟩
          simp [h4, this]
        · simp [h4]
  · rw [if_pos h, bz_f]; simp [h]
