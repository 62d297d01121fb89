theorem e0 : (Int64.toInt 0) = 0 := by decide
theorem e1 : (Int64.toInt 1) = 1 := by decide
theorem e2 : (Int64.toInt 2) = 2 := by decide
theorem e3 : (Int64.toInt 3) = 3 := by decide
theorem e4 : (Int64.toInt 4) = 4 := by decide
theorem e5 : (Int64.toInt 5) = 5 := by decide
theorem e6 : (Int64.toInt 6) = 6 := by decide
theorem e7 : (Int64.toInt 7) = 7 := by decide
theorem e9 : (Int64.toInt 9) = 9 := by decide
theorem e10 : (Int64.toInt 10) = 10 := by decide
theorem e14 : (Int64.toInt 14) = 14 := by decide
theorem e15 : (Int64.toInt 15) = 15 := by decide
theorem e20 : (Int64.toInt 20) = 20 := by decide
theorem e25 : (Int64.toInt 25) = 25 := by decide
theorem e40 : (Int64.toInt 40) = 40 := by decide
theorem e48 : (Int64.toInt 48) = 48 := by decide
theorem e57 : (Int64.toInt 57) = 57 := by decide
theorem e97 : (Int64.toInt 97) = 97 := by decide
theorem e122 : (Int64.toInt 122) = 122 := by decide
theorem e255 : (Int64.toInt 255) = 255 := by decide
theorem e999 : (Int64.toInt 999) = 999 := by decide
theorem e1010 : (Int64.toInt 1010) = 1010 := by decide
theorem e99999 : (Int64.toInt 99999) = 99999 := by decide
theorem em1 : (Int64.toInt (-1)) = -1 := by decide
theorem em99999 : (Int64.toInt (-99999)) = -99999 := by decide
theorem im12 : (-12 : Int32).toInt = -12 := by decide
theorem i15 : (15 : Int32).toInt = 15 := by decide
theorem i25 : (25 : Int32).toInt = 25 := by decide
/-! ## the ring of both sides -/
def RG (nT n F L S : Nat) (K N E : Nat → Nat) (face lamp stove pose rule painters : Int32) (kind number easel had pleased : Nat → Int32) (many : Int32) (kinds rows room : Nat → Int32) : Prop :=
  OKr n F L S K N E ∧ RX n F L S K N E face lamp stove painters kind number easel ∧ RM n F L S K N E pose many kinds rows room ∧ inb rule nT = true ∧ nT ≤ 6 ∧ (∀ p, p < n → had p = rows (4 * p + 2)) ∧ (∀ p, p < n → pleased p = rows (4 * p + 3))
theorem begin6 {face lamp stove pose rule painters : Int32} {kind number easel had pleased : Nat → Int32} : f_X6_beginThought face lamp stove pose rule painters kind number easel had pleased = some (face, lamp, stove, pose, rule, painters, kind, number, easel, had, mpN 6 (fun _ => 0) pleased) := by
  unfold f_X6_beginThought f_X2_take
  have hc : cpok 0 0 6 6 6 = true := by decide
  rw [if_pos hc, if_pos hc, if_pos hc, if_pos hc, if_pos hc]
  simp only [Option.bind_some]
  rw [fill6 0 (by decide)]
  rfl
theorem take6 {face lamp stove pose rule painters : Int32} {kind number easel had pleased : Nat → Int32} : f_X2_take face lamp stove pose rule painters kind number easel had pleased = some (face, lamp, stove, pose, rule, painters, kind, number, easel, had, pleased) := by
  unfold f_X2_take
  have hc : cpok 0 0 6 6 6 = true := by decide
  rw [if_pos hc, if_pos hc, if_pos hc, if_pos hc, if_pos hc]
theorem sum6 {n : Nat} {pleased : Nat → Int32} (hn : n ≤ 6) : f_X2_sum (nI n) pleased = some (smF pleased 0 0 n) := by
  have key : ∀ (k i fu : Nat) (acc : Int32), i + k = n → k < fu → lq2 (f_X2_sum_4 (nI n) pleased) fu acc (nI i) = some (smF pleased acc i k) := by
    intro k
    induction k with
    | zero =>
      intro i fu acc h1 h2
      obtain ⟨fu, rfl⟩ : ∃ g, fu = g + 1 := ⟨fu - 1, by omega⟩
      show f_X2_sum_4 _ _ (lq2 _ fu) acc (nI i) = _
      unfold f_X2_sum_4
      rw [if_pos (by rw [le_nI] <;> omega)]
      rfl
    | succ k ih =>
      intro i fu acc h1 h2
      obtain ⟨fu, rfl⟩ : ∃ g, fu = g + 1 := ⟨fu - 1, by omega⟩
      show f_X2_sum_4 _ _ (lq2 _ fu) acc (nI i) = _
      have ih' := ih (i + 1) fu
      generalize lq2 (f_X2_sum_4 (nI n) pleased) fu = kp at ih' ⊢
      unfold f_X2_sum_4
      rw [if_neg (by rw [le_nI] <;> omega), if_pos (inb_nI (by omega) (by decide)), cl_nI (by omega), nI_1]
      exact ih' _ (by omega) (by omega)
  unfold f_X2_sum
  exact key n 0 200 0 (by omega) (by omega)
/-- who is least so -/
def lwF (g : Nat → Int32) (acc : Int32) (i : Nat) : Nat → Int32
  | 0 => acc
  | k + 1 => lwF g (if acc = -1 then nI i else if g acc.toNatClampNeg ≤ g i then acc else nI i) (i + 1) k
theorem lwF_in (g : Nat → Int32) {n : Nat} : ∀ (k i : Nat) (acc : Int32), i + k = n → (∃ q, q < n ∧ acc = nI q) → ∃ q, q < n ∧ lwF g acc i k = nI q := by
  intro k
  induction k with
  | zero => intro i acc _ h; exact h
  | succ k ih =>
    intro i acc h h2
    show ∃ q, q < n ∧ lwF g _ (i + 1) k = nI q
    apply ih (i + 1) _ (by omega)
    repeat' split
    · exact ⟨i, by omega, rfl⟩
    · exact h2
    · exact ⟨i, by omega, rfl⟩
theorem lwF_in0 (g : Nat → Int32) {n : Nat} (h : 0 < n) : ∃ q, q < n ∧ lwF g (-1) 0 n = nI q := by
  obtain ⟨k, rfl⟩ : ∃ k, n = k + 1 := ⟨n - 1, by omega⟩
  show ∃ q, q < k + 1 ∧ lwF g _ 1 k = nI q
  rw [if_pos rfl]
  exact lwF_in g k 1 _ (by omega) ⟨0, by omega, rfl⟩
theorem nI_m1 : ∀ q, q < 200 → nI q ≠ -1 := by decide +kernel
theorem lwF_congr {g h : Nat → Int32} {n : Nat} (hn : n ≤ 100) (hg : ∀ p, p < n → g p = h p) : ∀ (k i : Nat) (acc : Int32), i + k = n → (acc = -1 ∨ ∃ q, q < n ∧ acc = nI q) → lwF g acc i k = lwF h acc i k := by
  intro k
  induction k with
  | zero => intro i acc _ h; rfl
  | succ k ih =>
    intro i acc h1 h2
    show lwF g _ (i + 1) k = lwF h _ (i + 1) k
    have e : (if acc = -1 then nI i else if g acc.toNatClampNeg ≤ g i then acc else nI i) = (if acc = -1 then nI i else if h acc.toNatClampNeg ≤ h i then acc else nI i) := by
      rcases h2 with h2 | ⟨q, hq, h2⟩
      · rw [if_pos h2, if_pos h2]
      · rw [h2, cl_nI (by omega), hg q hq, hg i (by omega)]
    rw [e]
    apply ih (i + 1) _ (by omega)
    right
    rcases h2 with h2 | ⟨q, hq, h2⟩
    · rw [if_pos h2]; exact ⟨i, by omega, rfl⟩
    · repeat' split
      · exact ⟨i, by omega, rfl⟩
      · exact ⟨q, hq, h2⟩
      · exact ⟨i, by omega, rfl⟩
theorem least6 {n : Nat} {g : Nat → Int32} (hn : n ≤ 6) : f_X2_leastPleased (nI n) g = some (lwF g (-1) 0 n) := by
  have key : ∀ (k i fu : Nat) (acc : Int32), i + k = n → k < fu → (acc = -1 ∨ ∃ q, q < n ∧ acc = nI q) → lq2 (f_X2_leastPleased_4 (nI n) g) fu acc (nI i) = some (lwF g acc i k) := by
    intro k
    induction k with
    | zero =>
      intro i fu acc h1 h2 h3
      obtain ⟨fu, rfl⟩ : ∃ g, fu = g + 1 := ⟨fu - 1, by omega⟩
      show f_X2_leastPleased_4 _ _ (lq2 _ fu) acc (nI i) = _
      unfold f_X2_leastPleased_4
      rw [if_pos (by rw [le_nI] <;> omega)]
      rfl
    | succ k ih =>
      intro i fu acc h1 h2 h3
      obtain ⟨fu, rfl⟩ : ∃ g, fu = g + 1 := ⟨fu - 1, by omega⟩
      show f_X2_leastPleased_4 _ _ (lq2 _ fu) acc (nI i) = some (lwF g (if acc = -1 then nI i else if g acc.toNatClampNeg ≤ g i then acc else nI i) (i + 1) k)
      have ih' := ih (i + 1) fu
      generalize lq2 (f_X2_leastPleased_4 (nI n) g) fu = kp at ih' ⊢
      unfold f_X2_leastPleased_4
      rw [if_neg (by rw [le_nI] <;> omega), nI_1]
      rcases h3 with h3 | ⟨q, hq, h3⟩
      · rw [if_pos h3, if_pos h3]
        exact ih' _ (by omega) (by omega) (Or.inr ⟨i, by omega, rfl⟩)
      · have h4 : acc ≠ -1 := by rw [h3]; exact nI_m1 q (by omega)
        rw [if_neg h4, if_neg h4, if_pos (inb_nI (by omega) (by decide)), if_pos (by rw [h3]; exact inb_nI (by omega) (by decide)), cl_nI (show i ≤ 2147483647 by omega)]
        by_cases h5 : g acc.toNatClampNeg ≤ g i
        · rw [if_pos h5, if_pos h5]
          exact ih' _ (by omega) (by omega) (Or.inr ⟨q, hq, h3⟩)
        · rw [if_neg h5, if_neg h5]
          exact ih' _ (by omega) (by omega) (Or.inr ⟨i, by omega, rfl⟩)
  unfold f_X2_leastPleased
  exact key n 0 200 (-1) (by omega) (by omega) (Or.inl rfl)
theorem leastWho7 {n : Nat} {g : Nat → Int32} (hn : n ≤ 6) : f_X7_leastWho (nI n) g = some (lwF g (-1) 0 n) := by
  have key : ∀ (k i fu : Nat) (acc : Int32), i + k = n → k < fu → (acc = -1 ∨ ∃ q, q < n ∧ acc = nI q) → lq2 (f_X7_leastWho_4 (nI n) g) fu acc (nI i) = some (lwF g acc i k) := by
    intro k
    induction k with
    | zero =>
      intro i fu acc h1 h2 h3
      obtain ⟨fu, rfl⟩ : ∃ g, fu = g + 1 := ⟨fu - 1, by omega⟩
      show f_X7_leastWho_4 _ _ (lq2 _ fu) acc (nI i) = _
      unfold f_X7_leastWho_4
      rw [if_pos (by rw [le_nI] <;> omega)]
      rfl
    | succ k ih =>
      intro i fu acc h1 h2 h3
      obtain ⟨fu, rfl⟩ : ∃ g, fu = g + 1 := ⟨fu - 1, by omega⟩
      show f_X7_leastWho_4 _ _ (lq2 _ fu) acc (nI i) = some (lwF g (if acc = -1 then nI i else if g acc.toNatClampNeg ≤ g i then acc else nI i) (i + 1) k)
      have ih' := ih (i + 1) fu
      generalize lq2 (f_X7_leastWho_4 (nI n) g) fu = kp at ih' ⊢
      unfold f_X7_leastWho_4
      rw [if_neg (by rw [le_nI] <;> omega), nI_1]
      rcases h3 with h3 | ⟨q, hq, h3⟩
      · rw [if_pos h3, if_pos h3]
        exact ih' _ (by omega) (by omega) (Or.inr ⟨i, by omega, rfl⟩)
      · have h4 : acc ≠ -1 := by rw [h3]; exact nI_m1 q (by omega)
        rw [if_neg h4, if_neg h4, if_pos (inb_nI (by omega) (by decide)), if_pos (by rw [h3]; exact inb_nI (by omega) (by decide)), cl_nI (show i ≤ 2147483647 by omega)]
        by_cases h5 : g acc.toNatClampNeg ≤ g i
        · rw [if_pos h5, if_pos h5]
          exact ih' _ (by omega) (by omega) (Or.inr ⟨q, hq, h3⟩)
        · rw [if_neg h5, if_neg h5]
          exact ih' _ (by omega) (by omega) (Or.inr ⟨i, by omega, rfl⟩)
  unfold f_X7_leastWho
  exact key n 0 200 (-1) (by omega) (by omega) (Or.inl rfl)
def leF (g : Nat → Int32) (n : Nat) : Int32 := if n = 0 then 0 else g (lwF g (-1) 0 n).toNatClampNeg
theorem leastV6 {n : Nat} {g : Nat → Int32} (hn : n ≤ 6) : f_X2_least (nI n) g = some (leF g n) := by
  unfold f_X2_least leF
  rw [least6 hn]
  simp only [Option.bind_some]
  by_cases h : n = 0
  · subst h; rfl
  · obtain ⟨q, hq, e⟩ := lwF_in0 g (show 0 < n by omega)
    rw [e, if_neg (nI_m1 q (by omega)), if_pos (inb_nI (by omega) (by decide)), if_neg h]
theorem leastV7 {n : Nat} {g : Nat → Int32} (hn : n ≤ 6) : f_X7_leastOf (nI n) g = some (leF g n) := by
  unfold f_X7_leastOf leF
  rw [leastWho7 hn]
  simp only [Option.bind_some]
  by_cases h : n = 0
  · subst h; rfl
  · obtain ⟨q, hq, e⟩ := lwF_in0 g (show 0 < n by omega)
    rw [if_neg (by rw [show (0 : Int32) = nI 0 from rfl, eq_nI] <;> omega), e, if_pos (inb_nI (by omega) (by decide)), if_neg h]
theorem leF_congr {g h : Nat → Int32} {n : Nat} (hn : n ≤ 6) (hg : ∀ p, p < n → g p = h p) : leF g n = leF h n := by
  unfold leF
  by_cases h0 : n = 0
  · rw [if_pos h0, if_pos h0]
  · rw [if_neg h0, if_neg h0, lwF_congr (h := h) (by omega) hg n 0 (-1) (by omega) (Or.inl rfl)]
    obtain ⟨q, hq, e⟩ := lwF_in0 h (show 0 < n by omega)
    rw [e, cl_nI (by omega), hg q hq]
section
variable {tv : Int32 → Int32 → Int32 → Int32 → Int32 → Int32 → Int32 → Int32 → Int32} {nT n F L S : Nat} {K N E : Nat → Nat} {face lamp stove pose rule painters many : Int32} {kind number easel had pleased kinds rows room now gained was : Nat → Int32}
theorem WR_begin (h : RG nT n F L S K N E face lamp stove pose rule painters kind number easel had pleased many kinds rows room) :
    WR n F L S K N E 0 lamp stove painters many kind number kinds rows room face pose easel had (mpN 6 (fun _ => 0) pleased) 0 room rows (mpN 6 (fun _ => 0) gained) := by
  obtain ⟨hO, hX, hM, hr, hnT, h2, h3⟩ := h
  have hn := hO.1
  refine ⟨hO, hX, hM, h2, ?_, ?_, fun _ _ => rfl, fun _ _ _ => rfl⟩
  · intro p hp
    rw [mpN_lt (show p < 6 by omega), mpN_lt (show p < 6 by omega)]
    refine ⟨rfl, ?_, ?_⟩
    · rw [i0]; omega
    · rw [i0]; omega
  · have : ∀ (k i : Nat), i + k ≤ 6 → smF (mpN 6 (fun _ => (0 : Int32)) gained) 0 i k = 0 := by
      intro k
      induction k with
      | zero => intro i _; rfl
      | succ k ih =>
        intro i hi
        show smF (mpN 6 (fun _ => (0 : Int32)) gained) (0 + mpN 6 (fun _ => (0 : Int32)) gained i) (i + 1) k = 0
        rw [mpN_lt (by omega)]
        exact ih (i + 1) (by omega)
    exact (this n 0 (by omega)).symm
/-- all is laid back -/
theorem backs7' {room' rows' : Nat → Int32} (h1 : ∀ j, 24 ≤ j → rows' j = rows j) (h2 : ∀ j, j ≠ 0 → j ≠ 3 → room' j = room j) : f_X7_laysBack (room 0) (room 3) room' (mpN 24 rows was) rows' = some (room, rows) := by
  rw [backs7]
  have e1 : upd (upd room' 0 (room 0)) 3 (room 3) = room := by
    funext j
    unfold upd
    by_cases a : j = 3
    · rw [if_pos a, a]
    · rw [if_neg a]
      by_cases b : j = 0
      · rw [if_pos b, b]
      · rw [if_neg b]; exact h2 j b a
  have e2 : mpN 24 (mpN 24 rows was) rows' = rows := by
    funext j
    unfold mpN
    by_cases a : j < 24
    · rw [if_pos a, if_pos a]
    · rw [if_neg a]; exact h1 j (by omega)
  rw [e1, e2]
theorem think67 {T St m : Nat} {ts : Int32} (h : RG nT n F L S K N E face lamp stove pose rule painters kind number easel had pleased many kinds rows room) (hts1 : ts / 100 = nI T) (hts2 : ts - ts / 100 * 100 = nI St) (hT : T < 11) (hSt : St < 11) (hm : m ≤ 60) :
    ∃ (F' : Nat) (E' : Nat → Nat) (face' pose' sum' : Int32) (easel' had' pleased' room' rows' now' gained' : Nat → Int32), f_X6_think (nI m) (nI T) (nI St) face lamp stove pose rule painters kind number easel had pleased tv nT = some (face', lamp, stove, pose', rule, painters, kind, number, easel', had', pleased') ∧ f_X7_sumBy (nI m) ts rule many room rows now (mpN 6 (fun _ => 0) gained) kinds tv nT = some (sum', room', rows', now', gained') ∧ WR n F' L S K N E' m lamp stove painters many kind number kinds rows room face' pose' easel' had' pleased' sum' room' rows' gained' := by
  obtain ⟨F', E', face', pose', sum', easel', had', pleased', room', rows', now', gained', r1, r2, r3⟩ := WR_loop (tv := tv) (nT := nT) hts1 hts2 h.2.2.2.1 h.2.2.2.2.1 hT hSt hm m 0 200 200 F E face pose 0 easel had (mpN 6 (fun _ => 0) pleased) room rows now (mpN 6 (fun _ => 0) gained) (by omega) (by omega) (by omega) (WR_begin h)
  refine ⟨F', E', face', pose', sum', easel', had', pleased', room', rows', now', gained', ?_, ?_, r3⟩
  · unfold f_X6_think
    rw [begin6]
    exact r1
  · unfold f_X7_sumBy
    exact r2
end
