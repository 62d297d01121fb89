/-! ## run -/
theorem ifc {A : Type} {p q : Prop} [Decidable p] [Decidable q] {a b : A} (h : p ↔ q) : (if p then a else b) = if q then a else b := by
  by_cases c : p
  · rw [if_pos c, if_pos (h.mp c)]
  · rw [if_neg c, if_neg (fun d => c (h.mpr d))]
def rwok (x : Int32) (n : Nat) : Bool := decide ((0 ≤ x.toInt ∧ x.toInt ≤ 3) ∨ (10 ≤ x.toInt ∧ x.toInt < 10 + n) ∨ (20 ≤ x.toInt ∧ x.toInt < 20 + n))
theorem isRunWhat6 (x : Int32) {n : Nat} (hn : n ≤ 6) : f_X6_isRunWhat x (nI n) = some (bz (rwok x n)) := by
  unfold f_X6_isRunWhat rwok
  have hx := iMax x
  by_cases h1 : 10 ≤ x.toInt
  · rw [if_pos (by rw [le_i, i10]; omega)]
    by_cases h2 : 20 ≤ x.toInt
    · rw [if_pos (by rw [le_i, i20]; omega), has6 _ hn, sub_i (by rw [i20]; omega) (by rw [i20]; omega), i20]
      simp only [Option.bind_some]
      rw [if_pos (bz_Z _)]
      congr 2
      rw [decide_eq_decide]; omega
    · rw [if_neg (by rw [le_i, i20]; omega), has6 _ hn, sub_i (by rw [i10]; omega) (by rw [i10]; omega), i10]
      simp only [Option.bind_some]
      rw [if_pos (bz_Z _)]
      congr 2
      rw [decide_eq_decide]; omega
  · rw [if_neg (by rw [le_i, i10]; omega)]
    simp only [lt_i, i0, i3]
    repeat' split
    all_goals first | (rw [bz_f]; simp only [decide_eq_false_iff_not]; omega) | (rw [bz_t]; simp only [decide_eq_true_eq]; omega)
theorem md10 : ∀ k, k < 26 → nI k - nI k / 10 * 10 = nI (k % 10) := by decide +kernel
section
variable {tv : Int32 → Int32 → Int32 → Int32 → Int32 → Int32 → Int32 → Int32 → Int32} {nT n F L S : Nat} {K N E : Nat → Nat} {face lamp stove pose rule painters many fw pw l1 l2 l3 : Int32} {kind number easel had pleased kinds rows room now gained was : Nat → Int32}
theorem run44 {k0 : Int32} : f_X7_run_44 rule many fw pw room gained rows was now kinds tv nT l1 l2 l3 k0 = if (0 ≤ l1.toInt ∧ l1.toInt ≤ 40) ∧ tsok l2 = true ∧ ((0 ≤ l3.toInt ∧ l3.toInt ≤ 3) ∨ k0 ≠ 0) then f_X7_run_85 rule many room gained rows was now kinds tv nT l1 l2 l3 else some ((-100000), fw, pw, room, gained, rows, was, now) := by
  unfold f_X7_run_44
  simp only [in7i, isTurnStep7, Option.bind_some, bz_0, decide_eq_false_iff_not, e0, e40, e3]
  by_cases a : 0 ≤ l1.toInt ∧ l1.toInt ≤ 40
  · rw [if_neg (by omega)]
    by_cases b : tsok l2 = true
    · rw [if_neg (by rw [b]; decide)]
      by_cases c : 0 ≤ l3.toInt ∧ l3.toInt ≤ 3
      · rw [if_neg (by omega), if_pos ⟨a, b, Or.inl c⟩]
      · rw [if_pos c]
        by_cases d : k0 = 0
        · rw [if_pos d, if_neg (fun h => h.2.2.elim c (fun h => h d))]
        · rw [if_neg d, if_pos ⟨a, b, Or.inr d⟩]
    · rw [if_pos (by simpa using b), if_neg (fun h => b h.2.1)]
  · rw [if_pos a, if_neg (fun h => a h.1)]
theorem run7g (hn : n ≤ 6) : f_X7_run l1 l2 l3 rule (nI n) fw pw room gained rows was now kinds tv nT = if (0 ≤ l1.toInt ∧ l1.toInt ≤ 40) ∧ tsok l2 = true ∧ rwok l3 n = true then f_X7_run_85 rule (nI n) room gained rows was now kinds tv nT l1 l2 l3 else some ((-100000), fw, pw, room, gained, rows, was, now) := by
  have h28 : (10 ≤ l3.toInt ∧ l3.toInt ≤ 15) ∨ (20 ≤ l3.toInt ∧ l3.toInt ≤ 25) → f_X7_run_28 rule (nI n) fw pw room gained rows was now kinds tv nT l1 l2 l3 = if (0 ≤ l1.toInt ∧ l1.toInt ≤ 40) ∧ tsok l2 = true ∧ rwok l3 n = true then f_X7_run_85 rule (nI n) room gained rows was now kinds tv nT l1 l2 l3 else some ((-100000), fw, pw, room, gained, rows, was, now) := by
    intro h
    obtain ⟨k, hk, rfl⟩ := nn_of (show 0 ≤ l3.toInt by omega)
    rw [nI_toInt hk] at h
    unfold f_X7_run_28 f_X7_run_43
    rw [md10 k (by omega), isOne7 _ hn, nI_toInt (by omega)]
    simp only [Option.bind_some, bz_0, decide_eq_false_iff_not, run44]
    have e : rwok (nI k) n = true ↔ (0 ≤ ((k % 10 : Nat) : Int) ∧ ((k % 10 : Nat) : Int) < n) := by
      unfold rwok; rw [decide_eq_true_eq, nI_toInt hk]; omega
    rw [nI_toInt hk]
    by_cases hc : 0 ≤ ((k % 10 : Nat) : Int) ∧ ((k % 10 : Nat) : Int) < n
    · rw [if_neg (by omega)]
      apply ifc
      rw [e]
      constructor
      · rintro ⟨a, b, -⟩; exact ⟨a, b, hc⟩
      · rintro ⟨a, b, -⟩; exact ⟨a, b, Or.inr (by decide)⟩
    · rw [if_pos hc]
      apply ifc
      rw [e]
      constructor
      · rintro ⟨a, b, c | c⟩
        · omega
        · exact absurd rfl c
      · rintro ⟨a, b, c⟩; exact absurd c hc
  unfold f_X7_run
  simp only [in7i, Option.bind_some, bz_0, decide_eq_false_iff_not, e10, e15, e20, e25]
  by_cases a : 10 ≤ l3.toInt ∧ l3.toInt ≤ 15
  · rw [if_neg (by omega)]; exact h28 (Or.inl a)
  · rw [if_pos a]
    by_cases b : 20 ≤ l3.toInt ∧ l3.toInt ≤ 25
    · rw [if_neg (by omega)]; exact h28 (Or.inr b)
    · rw [if_pos b]
      unfold f_X7_run_43
      rw [run44]
      apply ifc
      unfold rwok
      rw [decide_eq_true_eq]
      constructor
      · rintro ⟨x, y, c | c⟩
        · exact ⟨x, y, Or.inl c⟩
        · exact absurd rfl c
      · rintro ⟨x, y, c⟩; exact ⟨x, y, Or.inl (by omega)⟩
/-- what run tells of a thought -/
def ansR (n : Nat) (v : Int32 × Int32 × Int32 × Int32 × Int32 × Int32 × (Nat → Int32) × (Nat → Int32) × (Nat → Int32) × (Nat → Int32) × (Nat → Int32)) (x : Int32) : Int32 :=
  if x = 0 then smF v.2.2.2.2.2.2.2.2.2.2 0 0 n else if x = 1 then leF v.2.2.2.2.2.2.2.2.2.2 n else if x = 2 then lwF v.2.2.2.2.2.2.2.2.2.2 (-1) 0 n else if x = 3 then v.1 else if 20 ≤ x then v.2.2.2.2.2.2.2.2.2.1 (x - 20).toNatClampNeg else v.2.2.2.2.2.2.2.2.2.2 (x - 10).toNatClampNeg
theorem think6 {T St m : Nat} (h : RG nT n F L S K N E face lamp stove pose rule painters kind number easel had pleased many kinds rows room) (hT : T < 11) (hSt : St < 11) (hm : m ≤ 60) : ∃ v, f_X6_think (nI m) (nI T) (nI St) face lamp stove pose rule painters kind number easel had pleased tv nT = some v ∧ v.2.2.2.2.2.1 = painters := by
  have e1 : ∀ T, T < 11 → ∀ St, St < 11 → nI (100 * T + St) / 100 = nI T := by decide +kernel
  have e2 : ∀ T, T < 11 → ∀ St, St < 11 → nI (100 * T + St) - nI (100 * T + St) / 100 * 100 = nI St := by decide +kernel
  obtain ⟨F', E', face', pose', sum', easel', had', pleased', room', rows', now', gained', r1, r2, r3⟩ := think67 (tv := tv) (m := m) (now := fun _ => 0) (gained := fun _ => 0) h (e1 T hT St hSt) (e2 T hT St hSt) hT hSt hm
  exact ⟨_, r1, rfl⟩
theorem k10 : ∀ k, k < 6 → nI (10 + k) - 10 = nI k := by decide +kernel
theorem k20 : ∀ k, k < 6 → nI (20 + k) - 20 = nI k := by decide +kernel
theorem run85 {T St m : Nat} {ts : Int32} {v : Int32 × Int32 × Int32 × Int32 × Int32 × Int32 × (Nat → Int32) × (Nat → Int32) × (Nat → Int32) × (Nat → Int32) × (Nat → Int32)} (h : RG nT n F L S K N E face lamp stove pose rule painters kind number easel had pleased many kinds rows room) (hts1 : ts / 100 = nI T) (hts2 : ts - ts / 100 * 100 = nI St) (hT : T < 11) (hSt : St < 11) (hm : m ≤ 60)
    (hv : f_X6_think (nI m) (nI T) (nI St) face lamp stove pose rule painters kind number easel had pleased tv nT = some v) (hl : rwok l3 n = true) :
    ∃ (g' w' n' : Nat → Int32), f_X7_run_85 rule many room gained rows was now kinds tv nT (nI m) ts l3 = some (ansR n v l3, room 0, room 3, room, g', rows, w', n') := by
  obtain ⟨F', E', face', pose', sum', easel', had', pleased', room', rows', now', gained', r1, r2, r3⟩ := think67 (tv := tv) (m := m) (now := now) (gained := gained) h hts1 hts2 hT hSt hm
  rw [hv] at r1
  have r1 := Option.some.inj r1
  subst r1
  obtain ⟨hO, hX, hM, hH, hP, hs, h24, h03⟩ := r3
  have hn := hO.1
  have hmany := hM.1
  have hgp : ∀ p, p < n → pleased' p = gained' p := fun p hp => (hP p hp).1
  have hb := backs7' (was := was) h24 h03
  unfold f_X7_run_85
  rw [aside7]
  simp only [Option.bind_some]
  rw [r2]
  simp only [Option.bind_some]
  rw [hb, hmany, leastV7 hn, leastWho7 hn]
  simp only [Option.bind_some, ansR]
  have hl := of_decide_eq_true hl
  by_cases a0 : l3 = 0
  · rw [if_pos a0, if_pos a0, hs, smF_congr n 0 0 (fun j _ hj => hgp j (by omega))]
    exact ⟨_, _, _, rfl⟩
  · rw [if_neg a0, if_neg a0]
    by_cases a1 : l3 = 1
    · rw [if_pos a1, if_pos a1, leF_congr hn hgp]
      exact ⟨_, _, _, rfl⟩
    · rw [if_neg a1, if_neg a1]
      by_cases a2 : l3 = 2
      · rw [if_pos a2, if_pos a2, lwF_congr (by omega) hgp n 0 (-1) (by omega) (Or.inl rfl)]
        exact ⟨_, _, _, rfl⟩
      · rw [if_neg a2, if_neg a2]
        by_cases a3 : l3 = 3
        · rw [if_pos a3, if_pos a3, c0, hM.2.1, hX.1]
          exact ⟨_, _, _, rfl⟩
        · rw [if_neg a3, if_neg a3]
          have a0' : l3.toInt ≠ 0 := fun e => a0 (iext e)
          have a1' : l3.toInt ≠ 1 := fun e => a1 (iext e)
          have a2' : l3.toInt ≠ 2 := fun e => a2 (iext e)
          have a3' : l3.toInt ≠ 3 := fun e => a3 (iext e)
          obtain ⟨k, hk, rfl⟩ := nn_of (show 0 ≤ l3.toInt by omega)
          rw [nI_toInt hk] at hl a0' a1' a2' a3'
          by_cases a4 : 20 ≤ k
          · obtain ⟨q, rfl⟩ : ∃ q, k = 20 + q := ⟨k - 20, by omega⟩
            have hq : q < n := by omega
            obtain ⟨y1, y2⟩ := ix2 (show q < 6 by omega)
            have a4' : (20 : Int32) ≤ nI (20 + q) := by rw [show (20 : Int32) = nI 20 from rfl, le_nI] <;> omega
            rw [if_pos a4', if_pos a4', md10 _ (by omega), show (20 + q) % 10 = q by omega, if_pos y1, y2, k20 q (by omega), cl_nI (by omega), hH q hq]
            exact ⟨_, _, _, rfl⟩
          · obtain ⟨q, rfl⟩ : ∃ q, k = 10 + q := ⟨k - 10, by omega⟩
            have hq : q < n := by omega
            have a4' : ¬ (20 : Int32) ≤ nI (10 + q) := by rw [show (20 : Int32) = nI 20 from rfl, le_nI] <;> omega
            rw [if_neg a4', if_neg a4', md10 _ (by omega), show (10 + q) % 10 = q by omega, if_pos (inb_nI (by omega) (by decide)), k10 q (by omega), cl_nI (by omega), hgp q hq]
            exact ⟨_, _, _, rfl⟩
/-- run -/
theorem A_run {th : Int32 × Int32 × Int32 × Int32 × Int32 × Int32 × (Nat → Int32) × (Nat → Int32) × (Nat → Int32) × (Nat → Int32) × (Nat → Int32)} (h : RG nT n F L S K N E face lamp stove pose rule painters kind number easel had pleased many kinds rows room) :
    ∃ a v fw' pw' g' w' n', f_X6_run l1 l2 l3 face lamp stove pose rule painters th.1 th.2.1 th.2.2.1 th.2.2.2.1 th.2.2.2.2.1 th.2.2.2.2.2.1 kind th.2.2.2.2.2.2.1 number th.2.2.2.2.2.2.2.1 easel th.2.2.2.2.2.2.2.2.1 had th.2.2.2.2.2.2.2.2.2.1 pleased th.2.2.2.2.2.2.2.2.2.2 tv nT = some (a, v) ∧ f_X7_run l1 l2 l3 rule many fw pw room gained rows was now kinds tv nT = some (a, fw', pw', room, g', rows, w', n') := by
  have hn := h.1.1
  have hp := h.2.1.2.2.2.1
  have hmany := h.2.2.1.1
  subst hp hmany
  rw [run7g hn]
  unfold f_X6_run
  rw [isPoses6, isTurnStep6, isRunWhat6 _ hn]
  simp only [Option.bind_some, bz_0, decide_eq_false_iff_not]
  by_cases a : 0 ≤ l1.toInt ∧ l1.toInt ≤ 40
  · rw [if_neg (by omega)]
    by_cases b : tsok l2 = true
    · rw [if_neg (by rw [b]; decide)]
      by_cases c : rwok l3 n = true
      · rw [if_neg (by rw [c]; decide), if_pos ⟨a, b, c⟩]
        obtain ⟨m, hm, rfl⟩ := nn_of a.1
        rw [nI_toInt hm] at a
        obtain ⟨T, St, hT, hSt, -, t1, t2⟩ := ts_of b
        rw [t2, t1]
        obtain ⟨v, hv, hvp⟩ := think6 (tv := tv) (m := m) h hT hSt (by omega)
        obtain ⟨g', w', n', hr⟩ := run85 (l3 := l3) (was := was) (now := now) (gained := gained) h t1 t2 hT hSt (show m ≤ 60 by omega) hv c
        rw [hr, hv]
        simp only [Option.bind_some]
        rw [hvp, sum6 hn, leastV6 hn, least6 hn]
        simp only [Option.bind_some, ansR]
        have hl := of_decide_eq_true c
        repeat' split
        all_goals first
          | exact ⟨_, _, _, _, _, _, _, rfl, rfl⟩
          | skip
        all_goals
          rename_i q1 q2 q3 q4 q5 q6
          exfalso; apply q6
          have a0' : l3.toInt ≠ 0 := fun e => q1 (iext e)
          have a1' : l3.toInt ≠ 1 := fun e => q2 (iext e)
          have a2' : l3.toInt ≠ 2 := fun e => q3 (iext e)
          have a3' : l3.toInt ≠ 3 := fun e => q4 (iext e)
          rw [le_i, i20] at q5
          rw [inb_iff]
          have := iMax l3
          first | (rw [sub_i (by rw [i20]; omega) (by rw [i20]; omega), i20]; omega) | (rw [sub_i (by rw [i10]; omega) (by rw [i10]; omega), i10]; omega)
      · rw [if_pos (by simpa using c), if_neg (fun h => c h.2.2)]
        exact ⟨_, _, _, _, _, _, _, rfl, rfl⟩
    · rw [if_pos (by simpa using b), if_neg (fun h => b h.2.1)]
      exact ⟨_, _, _, _, _, _, _, rfl, rfl⟩
  · rw [if_pos a, if_neg (fun h => a h.1)]
    exact ⟨_, _, _, _, _, _, _, rfl, rfl⟩
end
