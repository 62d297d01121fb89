/-! ## numbers -/
/-- a truth as an int -/
def bz (b : Bool) : Int32 := if b = true then 1 else 0
theorem bz_t {b : Bool} (h : b = true) : bz b = 1 := by rw [h]; rfl
theorem bz_f {b : Bool} (h : b = false) : bz b = 0 := by rw [h]; rfl
theorem bz_0 (b : Bool) : bz b = 0 ↔ b = false := by cases b <;> decide
theorem bz_1 (b : Bool) : bz b = 1 ↔ b = true := by cases b <;> decide
theorem bz_Z (b : Bool) : isZ (bz b) = true := by cases b <;> decide
theorem i0 : (0 : Int32).toInt = 0 := by decide
theorem i1 : (1 : Int32).toInt = 1 := by decide
theorem i2 : (2 : Int32).toInt = 2 := by decide
theorem i3 : (3 : Int32).toInt = 3 := by decide
theorem i4 : (4 : Int32).toInt = 4 := by decide
theorem i5 : (5 : Int32).toInt = 5 := by decide
theorem i6 : (6 : Int32).toInt = 6 := by decide
theorem i7 : (7 : Int32).toInt = 7 := by decide
theorem i8 : (8 : Int32).toInt = 8 := by decide
theorem i9 : (9 : Int32).toInt = 9 := by decide
theorem i10 : (10 : Int32).toInt = 10 := by decide
theorem i11 : (11 : Int32).toInt = 11 := by decide
theorem i14 : (14 : Int32).toInt = 14 := by decide
theorem i20 : (20 : Int32).toInt = 20 := by decide
theorem i40 : (40 : Int32).toInt = 40 := by decide
theorem i99 : (99 : Int32).toInt = 99 := by decide
theorem i100 : (100 : Int32).toInt = 100 := by decide
theorem i160 : (160 : Int32).toInt = 160 := by decide
theorem i255 : (255 : Int32).toInt = 255 := by decide
theorem i999 : (999 : Int32).toInt = 999 := by decide
theorem i99999 : (99999 : Int32).toInt = 99999 := by decide
theorem im1 : (-1 : Int32).toInt = -1 := by decide
theorem im99 : (-99 : Int32).toInt = -99 := by decide
theorem im99999 : (-99999 : Int32).toInt = -99999 := by decide
theorem iMin (x : Int32) : -2147483648 ≤ x.toInt := by have := Int32.le_toInt x; simpa using this
theorem iMax (x : Int32) : x.toInt < 2147483648 := by have := Int32.toInt_lt x; simpa using this
theorem iext {x y : Int32} (h : x.toInt = y.toInt) : x = y := Int32.toInt_inj.mp h
/-- an int by its whole number -/
theorem bm_id {z : Int} (h1 : -2147483648 ≤ z) (h2 : z < 2147483648) : z.bmod 4294967296 = z := by
  rw [Int.bmod_def]; omega
theorem add_i {x y : Int32} (h1 : -2147483648 ≤ x.toInt + y.toInt) (h2 : x.toInt + y.toInt < 2147483648) : (x + y).toInt = x.toInt + y.toInt := by
  rw [Int32.toInt_add]; exact bm_id h1 h2
theorem sub_i {x y : Int32} (h1 : -2147483648 ≤ x.toInt - y.toInt) (h2 : x.toInt - y.toInt < 2147483648) : (x - y).toInt = x.toInt - y.toInt := by
  rw [Int32.toInt_sub]; exact bm_id h1 h2
theorem mul_i {x y : Int32} (h1 : -2147483648 ≤ x.toInt * y.toInt) (h2 : x.toInt * y.toInt < 2147483648) : (x * y).toInt = x.toInt * y.toInt := by
  rw [Int32.toInt_mul]; exact bm_id h1 h2
theorem neg_i {x : Int32} (h : -2147483648 < x.toInt) : (-x).toInt = -x.toInt := by
  rw [Int32.toInt_neg]; have := iMax x; exact bm_id (by omega) (by omega)
theorem inb_nI {i n : Nat} (h : i < n) (hn : n < 2 ^ 31) : inb (nI i) n = true := by
  unfold inb
  rw [decide_eq_true_eq, nI_toInt (by omega)]
  omega
theorem inb_iff {x : Int32} {n : Nat} : inb x n = true ↔ 0 ≤ x.toInt ∧ x.toInt < n := by unfold inb; rw [decide_eq_true_eq]
/-- an index in range is a natural number -/
theorem inb_of {x : Int32} {n : Nat} (h : inb x n = true) (hn : n < 2 ^ 31) : ∃ i : Nat, i < n ∧ x = nI i := by
  have h := inb_iff.mp h
  refine ⟨x.toInt.toNat, by omega, iext ?_⟩
  rw [nI_toInt (by omega)]; omega
theorem l64 (x : Int32) : x.toInt64.toInt = x.toInt := by first | exact Int32.toInt_toInt64 x | simp
theorem lgc_lt (a b : Int64) : lg_cmp a b < 0 ↔ a.toInt < b.toInt := by
  unfold lg_cmp
  simp only [gt_iff_lt, Int64.lt_iff_toInt_lt]
  by_cases h : b.toInt < a.toInt
  · rw [if_pos h]; simp only [show ¬ ((1 : Int32) < 0) from by decide, false_iff]; omega
  · rw [if_neg h]
    by_cases h2 : a = b
    · rw [if_pos h2]; subst h2; simp only [show ¬ ((0 : Int32) < 0) from by decide, false_iff]; omega
    · rw [if_neg h2]; simp only [show ((-1 : Int32) < 0) from by decide, true_iff]
      have : a.toInt ≠ b.toInt := fun e => h2 (Int64.toInt_inj.mp e)
      omega
theorem lgc_gt (a b : Int64) : 0 < lg_cmp a b ↔ b.toInt < a.toInt := by
  unfold lg_cmp
  simp only [gt_iff_lt, Int64.lt_iff_toInt_lt]
  by_cases h : b.toInt < a.toInt
  · rw [if_pos h]; simp only [show ((0 : Int32) < 1) from by decide, true_iff]; exact h
  · rw [if_neg h]
    by_cases h2 : a = b
    · rw [if_pos h2]; subst h2; simp only [show ¬ ((0 : Int32) < 0) from by decide, false_iff]; omega
    · rw [if_neg h2]; simp only [show ¬ ((0 : Int32) < (-1)) from by decide, false_iff]; omega
/-- the reference's 'in' -/
theorem in7 (x a b : Int64) : f_X7_in x a b = some (bz (decide (a.toInt ≤ x.toInt ∧ x.toInt ≤ b.toInt))) := by
  unfold f_X7_in
  simp only [lgc_lt, lgc_gt]
  by_cases h1 : x.toInt < a.toInt
  · rw [if_pos h1, bz_f]; simp only [decide_eq_false_iff_not]; omega
  · rw [if_neg h1]
    by_cases h2 : b.toInt < x.toInt
    · rw [if_pos h2, bz_f]; simp only [decide_eq_false_iff_not]; omega
    · rw [if_neg h2, bz_t]; simp only [decide_eq_true_eq]; omega
theorem in7i (x : Int32) (a b : Int64) : f_X7_in x.toInt64 a b = some (bz (decide (a.toInt ≤ x.toInt ∧ x.toInt ≤ b.toInt))) := by rw [in7, l64]
theorem lt_i {x y : Int32} : x < y ↔ x.toInt < y.toInt := Int32.lt_iff_toInt_lt
theorem le_i {x y : Int32} : x ≤ y ↔ x.toInt ≤ y.toInt := Int32.le_iff_toInt_le
theorem eq_i {x y : Int32} : x = y ↔ x.toInt = y.toInt := ⟨fun h => by rw [h], iext⟩
/-! ## the tests of arguments -/
theorem isEasel6 (x : Int32) : f_X6_isEasel x = some (bz (decide (0 ≤ x.toInt ∧ x.toInt < 11))) := by
  unfold f_X6_isEasel
  simp only [lt_i, le_i, i0, i11]
  repeat' split
  all_goals first | (rw [bz_f]; simp only [decide_eq_false_iff_not]; omega) | (rw [bz_t]; simp only [decide_eq_true_eq]; omega)
theorem isKind6 (x : Int32) : f_X6_isKind x = some (bz (decide (0 ≤ x.toInt ∧ x.toInt < 6))) := by
  unfold f_X6_isKind
  simp only [lt_i, le_i, i0, i6]
  repeat' split
  all_goals first | (rw [bz_f]; simp only [decide_eq_false_iff_not]; omega) | (rw [bz_t]; simp only [decide_eq_true_eq]; omega)
theorem isSheet6 (x : Int32) : f_X6_isSheet x = some (bz (decide (0 ≤ x.toInt ∧ x.toInt < 4))) := by
  unfold f_X6_isSheet
  simp only [lt_i, le_i, i0, i4]
  repeat' split
  all_goals first | (rw [bz_f]; simp only [decide_eq_false_iff_not]; omega) | (rw [bz_t]; simp only [decide_eq_true_eq]; omega)
theorem isSort6 (x : Int32) : f_X6_isSort x = some (bz (decide (0 ≤ x.toInt ∧ x.toInt ≤ 2))) := by
  unfold f_X6_isSort
  simp only [lt_i, le_i, i0, i2]
  repeat' split
  all_goals first | (rw [bz_f]; simp only [decide_eq_false_iff_not]; omega) | (rw [bz_t]; simp only [decide_eq_true_eq]; omega)
theorem isPart6 (x : Int32) : f_X6_isPart x = some (bz (decide (0 ≤ x.toInt ∧ x.toInt ≤ 1))) := by
  unfold f_X6_isPart
  simp only [eq_i, i0, i1]
  repeat' split
  all_goals first | (rw [bz_f]; simp only [decide_eq_false_iff_not]; omega) | (rw [bz_t]; simp only [decide_eq_true_eq]; omega)
theorem isPoses6 (x : Int32) : f_X6_isPoses x = some (bz (decide (0 ≤ x.toInt ∧ x.toInt ≤ 40))) := by
  unfold f_X6_isPoses
  simp only [lt_i, le_i, i0, i40]
  repeat' split
  all_goals first | (rw [bz_f]; simp only [decide_eq_false_iff_not]; omega) | (rw [bz_t]; simp only [decide_eq_true_eq]; omega)
/-- a turn and a step -/
def tsok (x : Int32) : Bool := decide (0 ≤ x.toInt ∧ x.toInt / 100 < 11 ∧ x.toInt % 100 < 11)
theorem nn_of {x : Int32} (h : 0 ≤ x.toInt) : ∃ k : Nat, k < 2 ^ 31 ∧ x = nI k := nI_of (nneg h)
theorem isTurnStep6 (x : Int32) : f_X6_isTurnStep x = some (bz (tsok x)) := by
  unfold f_X6_isTurnStep tsok
  by_cases h : 0 ≤ x.toInt
  · obtain ⟨k, hk, rfl⟩ := nn_of h
    rw [if_neg (nneg h), show (100 : Int32) = nI 100 from rfl, pk_rem hk (by decide) (by decide), pk_div hk (by decide) (by decide)]
    simp only [le_i, i11]
    rw [nI_toInt (by omega : k / 100 < 2 ^ 31), nI_toInt (by omega : k % 100 < 2 ^ 31), nI_toInt hk]
    repeat' split
    all_goals first | (rw [bz_f]; simp only [decide_eq_false_iff_not]; omega) | (rw [bz_t]; simp only [decide_eq_true_eq]; omega)
  · rw [if_pos (by rw [lt_i, i0]; omega), bz_f]
    simp only [decide_eq_false_iff_not]; omega
theorem isTurnStep7 (x : Int32) : f_X7_isTurnStep x = some (bz (tsok x)) := by
  unfold f_X7_isTurnStep tsok
  rw [in7i]
  simp only [Option.bind_some, bz_0, decide_eq_false_iff_not]
  have e0 : (0 : Int64).toInt = 0 := by decide
  have e1 : (1010 : Int64).toInt = 1010 := by decide
  rw [e0, e1]
  by_cases h : 0 ≤ x.toInt
  · obtain ⟨k, hk, rfl⟩ := nn_of h
    rw [show (100 : Int32) = nI 100 from rfl, pk_rem hk (by decide) (by decide)]
    simp only [le_i, i11]
    rw [nI_toInt (by omega : k % 100 < 2 ^ 31), nI_toInt hk]
    repeat' split
    all_goals first | (rw [bz_f]; simp only [decide_eq_false_iff_not]; omega) | (rw [bz_t]; simp only [decide_eq_true_eq]; omega)
  · rw [if_pos (by omega), bz_f]
    simp only [decide_eq_false_iff_not]; omega
theorem ts_of {x : Int32} (h : tsok x = true) : ∃ T S : Nat, T < 11 ∧ S < 11 ∧ x = nI (100 * T + S) ∧ x / 100 = nI T ∧ x - x / 100 * 100 = nI S := by
  have h := of_decide_eq_true h
  obtain ⟨k, hk, rfl⟩ := nn_of h.1
  rw [nI_toInt hk] at h
  refine ⟨k / 100, k % 100, by omega, by omega, by rw [show 100 * (k / 100) + k % 100 = k by omega], pk_div hk (by decide) (by decide), pk_rem hk (by decide) (by decide)⟩
