/-! ## fractions in lowest terms -/
theorem dv32 {a : Int32} {g : Nat} (hg : 0 < g) (hg2 : g < 2 ^ 31) : (a / nI g).toInt = a.toInt.tdiv g := by
  rw [Int32.toInt_div, nI_toInt hg2]
  have h1 := iMin a
  have h2 := iMax a
  apply bm_id
  · rcases Int.le_total 0 a.toInt with h | h
    · have := Int.tdiv_nonneg h (show (0 : Int) ≤ g by omega); omega
    · have e : a.toInt.tdiv g = -((-a.toInt).tdiv g) := by rw [Int.neg_tdiv, Int.neg_neg]
      have := Int.tdiv_le_self (g : Int) (show 0 ≤ -a.toInt by omega)
      omega
  · rcases Int.le_total 0 a.toInt with h | h
    · have := Int.tdiv_le_self (g : Int) h; omega
    · have e : a.toInt.tdiv g = -((-a.toInt).tdiv g) := by rw [Int.neg_tdiv, Int.neg_neg]
      have := Int.tdiv_nonneg (show 0 ≤ -a.toInt by omega) (show (0 : Int) ≤ g by omega)
      omega
theorem bm64 {z : Int} (h1 : -9223372036854775808 ≤ z) (h2 : z < 9223372036854775808) : z.bmod 18446744073709551616 = z := by
  rw [Int.bmod_def]; omega
theorem dv64 {a b : Int64} {g : Nat} (hb : b.toInt = g) (hg : 0 < g) : (a / b).toInt = a.toInt.tdiv g := by
  rw [Int64.toInt_div, hb]
  have h1 : -9223372036854775808 ≤ a.toInt := by have := Int64.le_toInt a; simpa using this
  have h2 : a.toInt < 9223372036854775808 := by have := Int64.toInt_lt a; simpa using this
  apply bm64
  · rcases Int.le_total 0 a.toInt with h | h
    · have := Int.tdiv_nonneg h (show (0 : Int) ≤ g by omega); omega
    · have e : a.toInt.tdiv g = -((-a.toInt).tdiv g) := by rw [Int.neg_tdiv, Int.neg_neg]
      have := Int.tdiv_le_self (g : Int) (show 0 ≤ -a.toInt by omega)
      omega
  · rcases Int.le_total 0 a.toInt with h | h
    · have := Int.tdiv_le_self (g : Int) h; omega
    · have e : a.toInt.tdiv g = -((-a.toInt).tdiv g) := by rw [Int.neg_tdiv, Int.neg_neg]
      have := Int.tdiv_nonneg (show 0 ≤ -a.toInt by omega) (show (0 : Int) ≤ g by omega)
      omega
theorem md64 {a b : Int64} {x y : Nat} (ha : a.toInt = x) (hb : b.toInt = y) (hy : 0 < y) (hx : x < 2 ^ 40) : (a - a / b * b).toInt = ((x % y : Nat) : Int) := by
  have e1 : (a / b).toInt = ((x / y : Nat) : Int) := by
    rw [dv64 hb hy, ha]; exact Int.ofNat_tdiv x y
  have h3 : y * (x / y) + x % y = x := Nat.div_add_mod x y
  have h4 : ((x / y : Nat) : Int) * (y : Int) = ((y * (x / y) : Nat) : Int) := by rw [Nat.mul_comm, Int.natCast_mul]
  have e2 : (a / b * b).toInt = ((y * (x / y) : Nat) : Int) := by
    rw [Int64.toInt_mul, e1, hb, h4]
    apply bm64 <;> omega
  rw [Int64.toInt_sub, e2, ha]
  have : (x : Int) - ((y * (x / y) : Nat) : Int) = ((x % y : Nat) : Int) := by omega
  rw [show ((2 : Nat) ^ 64) = 18446744073709551616 from rfl] at *
  rw [this]
  have := Nat.mod_le x y
  apply bm64 <;> omega
theorem low6_loop {l0 l1 l2 : Int32} : ∀ (b a i fu : Nat), i + b < 100 → b < fu → a < 2 ^ 31 → lq3 (f_X6_lowest_11 l0 l1 l2) fu (nI a) (nI b) (nI i) = f_X6_lowest_42 l0 l1 l2 (nI (Nat.gcd b a)) := by
  intro b
  induction b using Nat.strongRecOn with
  | ind b ih =>
    intro a i fu h1 h2 h3
    obtain ⟨fu, rfl⟩ : ∃ g, fu = g + 1 := ⟨fu - 1, by omega⟩
    show f_X6_lowest_11 _ _ _ (lq3 _ fu) (nI a) (nI b) (nI i) = _
    by_cases hb : b = 0
    · subst hb
      unfold f_X6_lowest_11
      rw [if_neg (by rw [show (100 : Int32) = nI 100 from rfl, le_nI] <;> omega), if_pos (show nI 0 = 0 from rfl), Nat.gcd_zero_left]
    · have hlt : a % b < b := Nat.mod_lt _ (by omega)
      have ih' := ih (a % b) hlt b (i + 1) fu (by omega) (by omega) (by omega)
      rw [Nat.gcd_rec b a, ← ih']
      generalize lq3 (f_X6_lowest_11 l0 l1 l2) fu = kp at ih' ⊢
      unfold f_X6_lowest_11
      have hz : ¬ nI b = 0 := by rw [show (0 : Int32) = nI 0 from rfl, eq_nI] <;> omega
      rw [if_neg (by rw [show (100 : Int32) = nI 100 from rfl, le_nI] <;> omega), if_neg hz, if_neg hz, pk_rem h3 (by omega) (by omega), nI_1]
theorem abs6 {x : Int32} (h : -2147483648 < x.toInt) : (if 0 ≤ x then x else 0 - x) = nI x.toInt.natAbs := by
  have := iMax x
  by_cases h0 : 0 ≤ x.toInt
  · rw [if_pos (by rw [le_i, i0]; exact h0)]
    apply iext; rw [nI_toInt (by omega)]; omega
  · rw [if_neg (by rw [le_i, i0]; exact h0)]
    apply iext; rw [nI_toInt (by omega), sub_i (by rw [i0]; omega) (by rw [i0]; omega), i0]; omega
theorem low6_start {l0 l2 : Int32} {q A : Nat} (hq2 : q ≤ 20) (hA : A < 2 ^ 31) : ∀ fu, 30 ≤ fu → lq3 (f_X6_lowest_11 l0 (nI q) l2) (fu + 1) (nI q) (nI A) (nI 0) = f_X6_lowest_42 l0 (nI q) l2 (nI (Nat.gcd q A)) := by
  intro fu hfu
  show f_X6_lowest_11 _ _ _ (lq3 _ fu) (nI q) (nI A) (nI 0) = _
  by_cases hz : A = 0
  · subst hz
    unfold f_X6_lowest_11
    rw [if_neg (by decide), if_pos (show nI 0 = 0 from rfl), Nat.gcd_zero_right]
  · have ih' := low6_loop (l0 := l0) (l1 := nI q) (l2 := l2) (q % A) A 1 fu (by have := Nat.mod_le q A; omega) (by have := Nat.mod_le q A; omega) hA
    rw [Nat.gcd_comm q A, Nat.gcd_rec A q, ← ih']
    generalize lq3 (f_X6_lowest_11 l0 (nI q) l2) fu = kp at ih' ⊢
    unfold f_X6_lowest_11
    have hz' : ¬ nI A = 0 := by rw [show (0 : Int32) = nI 0 from rfl, eq_nI] <;> omega
    rw [if_neg (by decide), if_neg hz', if_neg hz', pk_rem (by omega) (by omega) (by omega)]
    rfl
theorem low6 {l0 l2 : Int32} {q : Nat} (hq : 0 < q) (hq2 : q ≤ 20) (h0 : -2147483648 < l0.toInt) : f_X6_lowest l0 (nI q) l2 = f_X6_lowest_42 l0 (nI q) l2 (nI (Nat.gcd q l0.toInt.natAbs)) := by
  unfold f_X6_lowest
  rw [abs6 h0]
  have := iMax l0
  have hA : l0.toInt.natAbs < 2 ^ 31 := by omega
  exact low6_start hq2 hA 199 (by omega)
theorem lgc_eq (a : Int64) : lg_cmp a 0 = 0 ↔ a.toInt = 0 := by
  have h1 := lgc_lt a 0
  have h2 := lgc_gt a 0
  rw [e0] at h1 h2
  rw [lt_i, i0] at h1 h2
  rw [eq_i, i0]
  omega
theorem low7_loop {l0 l2 : Int64} {l4 : Int32} : ∀ (q p fu : Nat) (l5 l7 : Int64), q < fu → fu ≤ 1000 → p < 2 ^ 40 → 0 < Nat.gcd q p → l5.toInt = p → l7.toInt = q → ∃ g : Int64, g.toInt = (Nat.gcd q p : Nat) ∧ lq2 (f_X7_lowest_17 l0 l2 l4) fu l5 l7 = if l4 = 0 then some (l0 / g) else some (l2 / g) := by
  intro q
  induction q using Nat.strongRecOn with
  | ind q ih =>
    intro p fu l5 l7 h1 hfu h2 hg h3 h4
    obtain ⟨fu, rfl⟩ : ∃ g, fu = g + 1 := ⟨fu - 1, by omega⟩
    by_cases hq : q = 0
    · subst hq
      refine ⟨l5, by rw [h3, Nat.gcd_zero_left], ?_⟩
      show f_X7_lowest_17 _ _ _ (lq2 _ fu) l5 l7 = _
      rw [Nat.gcd_zero_left] at hg
      have hz : ¬ l5 = 0 := by intro e; rw [e, e0] at h3; omega
      unfold f_X7_lowest_17
      rw [if_pos (by rw [lgc_eq, h4]; rfl), if_neg hz, if_neg hz]
    · have hlt : p % q < q := Nat.mod_lt _ (by omega)
      have hz : ¬ l7 = 0 := by intro e; rw [e, e0] at h4; omega
      rw [Nat.gcd_rec q p] at hg ⊢
      obtain ⟨g, hg1, hg2⟩ := ih (p % q) hlt q fu l7 (l5 - l5 / l7 * l7) (by omega) (by omega) (by omega) hg h4 (md64 h3 h4 (by omega) h2)
      refine ⟨g, hg1, ?_⟩
      show f_X7_lowest_17 _ _ _ (lq2 _ fu) l5 l7 = _
      rw [← hg2]
      generalize lq2 (f_X7_lowest_17 l0 l2 l4) fu = kp
      unfold f_X7_lowest_17
      rw [if_neg (by rw [lgc_eq, h4]; omega), if_neg hz]
theorem ext64 {a b : Int64} (h : a.toInt = b.toInt) : a = b := Int64.toInt_inj.mp h
/-- lowest: an int above, a count below -/
theorem low67 {l0 l2 : Int32} {q : Nat} (hq : 0 < q) (hq2 : q ≤ 20) (h0 : -2147483648 < l0.toInt) : ∃ r, f_X6_lowest l0 (nI q) l2 = some r ∧ f_X7_lowest l0.toInt64 (nI q).toInt64 l2 = some r := by
  have hM := iMax l0
  have hA : l0.toInt.natAbs < 2 ^ 31 := by omega
  have hgp : 0 < Nat.gcd q l0.toInt.natAbs := Nat.gcd_pos_of_pos_left _ hq
  have hgq : Nat.gcd q l0.toInt.natAbs ≤ q := Nat.le_of_dvd hq (Nat.gcd_dvd_left _ _)
  have key : ∃ g : Int64, g.toInt = (Nat.gcd q l0.toInt.natAbs : Nat) ∧ f_X7_lowest l0.toInt64 (nI q).toInt64 l2 = if l2 = 0 then some (l0.toInt64 / g) else some ((nI q).toInt64 / g) := by
    unfold f_X7_lowest
    have hc := lgc_lt l0.toInt64 0
    rw [e0, l64, lt_i, i0] at hc
    have eq7 : (nI q).toInt64.toInt = q := by rw [l64, nI_toInt (by omega)]
    by_cases hs : 0 ≤ l0.toInt
    · rw [if_pos (by rw [le_i, i0]; omega)]
      exact low7_loop q l0.toInt.natAbs 200 _ _ (by omega) (by omega) (by omega) hgp (by rw [l64]; omega) eq7
    · rw [if_neg (by rw [le_i, i0]; omega)]
      exact low7_loop q l0.toInt.natAbs 200 _ _ (by omega) (by omega) (by omega) hgp (by rw [Int64.toInt_neg, l64]; rw [bm64] <;> omega) eq7
  obtain ⟨g, hg1, hg2⟩ := key
  rw [low6 hq hq2 h0, hg2]
  generalize hG : Nat.gcd q l0.toInt.natAbs = G at *
  unfold f_X6_lowest_42
  have hz : ¬ nI G = 0 := by rw [show (0 : Int32) = nI 0 from rfl, eq_nI] <;> omega
  rw [if_neg hz, if_neg hz, if_neg hz]
  by_cases h2 : l2 = 0
  · rw [if_pos h2, if_pos h2]
    refine ⟨_, rfl, ?_⟩
    congr 1
    apply ext64
    rw [l64, dv32 hgp (by omega), dv64 hg1 hgp, l64]
  · rw [if_neg h2, if_neg h2]
    refine ⟨_, rfl, ?_⟩
    congr 1
    apply ext64
    rw [l64, dv32 hgp (by omega), dv64 hg1 hgp, l64]
theorem smF_bd {g : Nat → Int32} {B : Int} : ∀ (k i : Nat) (acc : Int32) (C : Int), 0 ≤ B → -C ≤ acc.toInt → acc.toInt ≤ C → C + k * B < 2147483648 → (∀ j, i ≤ j → j < i + k → -B ≤ (g j).toInt ∧ (g j).toInt ≤ B) → -(C + k * B) ≤ (smF g acc i k).toInt ∧ (smF g acc i k).toInt ≤ C + k * B := by
  intro k
  induction k with
  | zero => intro i acc C hB h1 h2 h3 h4; show -(C + (0 : Nat) * B) ≤ acc.toInt ∧ acc.toInt ≤ C + (0 : Nat) * B; simp; omega
  | succ k ih =>
    intro i acc C hB h1 h2 h3 h4
    have hb := h4 i (by omega) (by omega)
    have e : ((k + 1 : Nat) : Int) * B = k * B + B := by rw [Int.natCast_add, Int.add_mul]; simp
    have hk : 0 ≤ (k : Int) * B := Int.mul_nonneg (by omega) hB
    rw [e] at h3 ⊢
    have e2 : (acc + g i).toInt = acc.toInt + (g i).toInt := by apply add_i <;> omega
    have := ih (i + 1) (acc + g i) (C + B) hB (by rw [e2]; omega) (by rw [e2]; omega) (by omega) (fun j a b => h4 j (by omega) (by omega))
    show -(C + (k * B + B)) ≤ (smF g (acc + g i) (i + 1) k).toInt ∧ (smF g (acc + g i) (i + 1) k).toInt ≤ C + (k * B + B)
    omega
section
variable {tv : Int32 → Int32 → Int32 → Int32 → Int32 → Int32 → Int32 → Int32 → Int32} {nT n F L S : Nat} {K N E : Nat → Nat} {face lamp stove pose rule painters many fw pw l1 l2 l3 : Int32} {kind number easel had pleased kinds rows room now gained was : Nat → Int32}
/-- mean -/
theorem A_mean {th : Int32 × Int32 × Int32 × Int32 × Int32 × Int32 × (Nat → Int32) × (Nat → Int32) × (Nat → Int32) × (Nat → Int32) × (Nat → Int32)} (h : RG nT n F L S K N E face lamp stove pose rule painters kind number easel had pleased many kinds rows room) :
    ∃ a v fw' pw' g' w' n', f_X6_mean l1 l2 l3 face lamp stove pose rule painters th.1 th.2.1 th.2.2.1 th.2.2.2.1 th.2.2.2.2.1 th.2.2.2.2.2.1 kind th.2.2.2.2.2.2.1 number th.2.2.2.2.2.2.2.1 easel th.2.2.2.2.2.2.2.2.1 had th.2.2.2.2.2.2.2.2.2.1 pleased th.2.2.2.2.2.2.2.2.2.2 tv nT = some (a, v) ∧ f_X7_mean l1 l2 l3 rule many fw pw room gained rows was now kinds tv nT = some (a, fw', pw', room, g', rows, w', n') := by
  have hn := h.1.1
  have hp := h.2.1.2.2.2.1
  have hmany := h.2.2.1.1
  subst hp hmany
  unfold f_X6_mean f_X7_mean
  rw [run7g hn, isPoses6, isTurnStep6, isTurnStep7, isPart6]
  simp only [in7i, Option.bind_some, bz_0, decide_eq_false_iff_not, e0, e40, e1]
  by_cases a : 0 ≤ l1.toInt ∧ l1.toInt ≤ 40
  · rw [if_neg (fun h => h a), if_neg (show ¬ ¬ (0 ≤ l1.toInt ∧ l1.toInt ≤ 40) from fun h => h a)]
    by_cases b : tsok l2 = true
    · have nb : ¬ tsok l2 = false := by rw [b]; decide
      rw [if_neg nb, if_neg nb]
      by_cases c : 0 ≤ l3.toInt ∧ l3.toInt ≤ 1
      · have nc : ¬ ¬ (0 ≤ l3.toInt ∧ l3.toInt ≤ 1) := fun h => h c
        rw [if_neg nc, if_neg nc]
        by_cases d : n = 0
        · subst d
          rw [if_pos (show nI 0 = 0 from rfl), if_pos (show nI 0 = 0 from rfl)]
          exact ⟨_, _, _, _, _, _, _, rfl, rfl⟩
        · have hz : ¬ nI n = 0 := by rw [show (0 : Int32) = nI 0 from rfl, eq_nI] <;> omega
          have h0 : rwok 0 n = true := by unfold rwok; rw [decide_eq_true_eq, i0]; omega
          rw [if_neg hz, if_neg hz, if_pos ⟨a, b, h0⟩]
          obtain ⟨m, hm, rfl⟩ := nn_of a.1
          rw [nI_toInt hm] at a
          obtain ⟨T, St, hT, hSt, -, t1, t2⟩ := ts_of b
          rw [t2, t1]
          obtain ⟨F', E', face', pose', sum', easel', had', pleased', room', rows', now', gained', r1, r2, r3⟩ := think67 (tv := tv) (m := m) (now := now) (gained := gained) h t1 t2 hT hSt (by omega)
          obtain ⟨g', w', n', hr⟩ := run85 (l3 := 0) (was := was) (now := now) (gained := gained) h t1 t2 hT hSt (show m ≤ 60 by omega) r1 h0
          rw [hr, r1]
          simp only [Option.bind_some]
          rw [sum6 hn]
          simp only [Option.bind_some, ansR, if_true]
          have hbd := smF_bd (g := pleased') (B := 297 * 40) n 0 0 0 (by omega) (by rw [i0]; omega) (by rw [i0]; omega) (by omega) (fun j _ hj => by
            obtain ⟨q1, q2, q3⟩ := r3.2.2.2.2.1 j (by omega)
            rw [q1]; omega)
          obtain ⟨r, x1, x2⟩ := low67 (l0 := smF pleased' 0 0 n) (l2 := l3) (q := n) (by omega) (by omega) (by omega)
          rw [x1, x2]
          exact ⟨_, _, _, _, _, _, _, rfl, rfl⟩
      · rw [if_pos c, if_pos c]
        exact ⟨_, _, _, _, _, _, _, rfl, rfl⟩
    · have b' : tsok l2 = false := by simpa using b
      rw [if_pos b', if_pos b']
      exact ⟨_, _, _, _, _, _, _, rfl, rfl⟩
  · rw [if_pos a, if_pos a]
    exact ⟨_, _, _, _, _, _, _, rfl, rfl⟩
end
