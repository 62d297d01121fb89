/-! ## what holds between the class and the reference, call by call -/
/-- what was kept -/
def KPT (nT n : Nat) (kinds : Nat → Int32) (kp : Int32 × Int32 × Int32 × Int32 × Int32 × Int32 × (Nat → Int32) × (Nat → Int32) × (Nat → Int32) × (Nat → Int32) × (Nat → Int32)) (ik manyK ruleK : Int32) (rowsK roomK : Nat → Int32) : Prop :=
  (ik = 0 ∧ manyK = -1) ∨ (ik = 1 ∧ ∃ (m F L S P : Nat) (K N E : Nat → Nat), m ≤ n ∧ P ≤ 999 ∧ kp.2.2.2.1 = nI P ∧ ruleK = kp.2.2.2.2.1 ∧ RG nT m F L S K N E kp.1 kp.2.1 kp.2.2.1 kp.2.2.2.1 kp.2.2.2.2.1 kp.2.2.2.2.2.1 kp.2.2.2.2.2.2.1 kp.2.2.2.2.2.2.2.1 kp.2.2.2.2.2.2.2.2.1 kp.2.2.2.2.2.2.2.2.2.1 kp.2.2.2.2.2.2.2.2.2.2 manyK kinds rowsK roomK)
/-- class and reference alike -/
def INV (qT : Nat → ClassId) (tw : va_W) (face : Int32) (lamp : Int32) (stove : Int32) (pose : Int32) (rule : Int32) (painters : Int32) (kind : (Nat → Int32)) (number : (Nat → Int32)) (easel : (Nat → Int32)) (had : (Nat → Int32)) (pleased : (Nat → Int32)) (kp : Int32 × Int32 × Int32 × Int32 × Int32 × Int32 × (Nat → Int32) × (Nat → Int32) × (Nat → Int32) × (Nat → Int32) × (Nat → Int32)) (ik : Int32) (rd : Int32 × Int32 × Int32 × Int32 × Int32 × Int32 × Int32 × (Nat → Int32) × (Nat → Int32)) (txs : Nat → Option Nat) (tc : Int32) (sh0 : Int32 × Int32 × (Nat → Int32)) (sh1 : Int32 × Int32 × (Nat → Int32)) (sh2 : Int32 × Int32 × (Nat → Int32)) (sh3 : Int32 × Int32 × (Nat → Int32)) (tc7 : Int32) (rule7 : Int32) (taped : Int32) (many : Int32) (manyK : Int32) (ruleK : Int32) (texts : (Nat → Int32)) (textSize : (Nat → Int32)) (tp7 : (Nat → Int32)) (room : (Nat → Int32)) (kinds : (Nat → Int32)) (rows : (Nat → Int32)) (roomK : (Nat → Int32)) (rowsK : (Nat → Int32)) (iT : (Nat → Int32)) (so : (Nat → Int32)) (ss : (Nat → Int32)) (its : (Nat → Int32)) : Prop :=
  ∃ (nT n F L S P z : Nat) (K N E : Nat → Nat) (tds : Nat → TD), RG nT n F L S K N E face lamp stove pose rule painters kind number easel had pleased many kinds rows room ∧ rule7 = rule ∧ P ≤ 999 ∧ pose = nI P ∧ tc = nI nT ∧ tc7 = nI nT ∧ TPr z rd.1 rd.2.2.2.2.2.2.2.1 taped tp7 ∧ (∀ t, t < nT → TXOK texts textSize t (tds t)) ∧ TXW qT txs tds nT tw ∧ SHr 0 sh0.1 sh0.2.1 sh0.2.2 iT so ss its ∧ SHr 1 sh1.1 sh1.2.1 sh1.2.2 iT so ss its ∧ SHr 2 sh2.1 sh2.2.1 sh2.2.2 iT so ss its ∧ SHr 3 sh3.1 sh3.2.1 sh3.2.2 iT so ss its ∧ KPT nT n kinds kp ik manyK ruleK rowsK roomK
theorem KPT_mono {nT n n' : Nat} {kinds kinds' : Nat → Int32} {kp : Int32 × Int32 × Int32 × Int32 × Int32 × Int32 × (Nat → Int32) × (Nat → Int32) × (Nat → Int32) × (Nat → Int32) × (Nat → Int32)} {ik manyK ruleK : Int32} {rowsK roomK : Nat → Int32} (h : KPT nT n kinds kp ik manyK ruleK rowsK roomK) (h1 : ∀ j, j < n → kinds' j = kinds j) (h2 : n ≤ n') : KPT nT n' kinds' kp ik manyK ruleK rowsK roomK := by
  rcases h with h | ⟨h, m, F, L, S, P, K, N, E, a1, a2, a3, a4, a5⟩
  · exact Or.inl h
  · exact Or.inr ⟨h, m, F, L, S, P, K, N, E, by omega, a2, a3, a4, RG_congr a5 (fun _ _ => rfl) (fun _ _ => rfl) (fun j hj => h1 j (by omega))⟩
theorem RG_up {nT n F L S : Nat} {K N E : Nat → Nat} {face lamp stove pose rule painters many : Int32} {kind number easel had pleased kinds rows room : Nat → Int32} (h : RG nT n F L S K N E face lamp stove pose rule painters kind number easel had pleased many kinds rows room) (hn : nT < 6) : RG (nT + 1) n F L S K N E face lamp stove pose rule painters kind number easel had pleased many kinds rows room := by
  obtain ⟨a1, a2, a3, a4, a5, a6, a7⟩ := h
  refine ⟨a1, a2, a3, ?_, by omega, a6, a7⟩
  rw [inb_iff] at a4 ⊢
  omega
theorem KPT_up {nT n : Nat} {kinds : Nat → Int32} {kp : Int32 × Int32 × Int32 × Int32 × Int32 × Int32 × (Nat → Int32) × (Nat → Int32) × (Nat → Int32) × (Nat → Int32) × (Nat → Int32)} {ik manyK ruleK : Int32} {rowsK roomK : Nat → Int32} (h : KPT nT n kinds kp ik manyK ruleK rowsK roomK) (hn : nT < 6) : KPT (nT + 1) n kinds kp ik manyK ruleK rowsK roomK := by
  rcases h with h | ⟨h, m, F, L, S, P, K, N, E, a1, a2, a3, a4, a5⟩
  · exact Or.inl h
  · exact Or.inr ⟨h, m, F, L, S, P, K, N, E, a1, a2, a3, a4, RG_up a5 hn⟩
theorem RG_pm {nT n F L S : Nat} {K N E : Nat → Nat} {face lamp stove pose rule painters many : Int32} {kind number easel had pleased kinds rows room : Nat → Int32} (h : RG nT n F L S K N E face lamp stove pose rule painters kind number easel had pleased many kinds rows room) : painters = many ∧ many ≠ -1 := by
  obtain ⟨a1, a2, a3, _⟩ := h
  refine ⟨by rw [a2.2.2.2.1, a3.1], ?_⟩
  rw [a3.1]
  have := a1.1
  exact nI_m1 n (by omega)
theorem image6 {face lamp stove pose rule painters : Int32} {kind number easel had pleased : Nat → Int32} : f_X6_image face lamp stove pose rule painters kind number easel had pleased = some (painters, 1, face, lamp, stove, pose, rule, painters, kind, number, easel, had, pleased) := by
  unfold f_X6_image
  rw [take6]
  rfl
theorem shs_in {ad : Nat → Nat} {l : Int32} {s : Nat} (h : l = nI s) (hs : s < 4) : shsF ad l.toNatClampNeg = some (ad (28 + s)) := by
  unfold shsF
  rw [h, cl_nI (by omega), if_pos hs]
theorem shs_bad {ad : Nat → Nat} {l : Int32} (h : ¬ (0 ≤ l.toInt ∧ l.toInt < 4)) : shsF ad l.toNatClampNeg = some (ad 28) := by
  unfold shsF
  by_cases h0 : 0 ≤ l.toInt
  · obtain ⟨k, hk, rfl⟩ := nn_of h0
    rw [nI_toInt (by omega)] at h
    rw [cl_nI (by omega), if_neg (by omega)]
  · rw [show l.toNatClampNeg = 0 from by unfold Int32.toNatClampNeg; omega, if_pos (by decide)]
theorem s4_of {l : Int32} (h : 0 ≤ l.toInt ∧ l.toInt < 4) : l = nI 0 ∨ l = nI 1 ∨ l = nI 2 ∨ l = nI 3 := by
  obtain ⟨k, hk, rfl⟩ := nn_of h.1
  rw [nI_toInt (by omega)] at h
  rcases (show k = 0 ∨ k = 1 ∨ k = 2 ∨ k = 3 by omega) with rfl | rfl | rfl | rfl
  · exact Or.inl rfl
  · exact Or.inr (Or.inl rfl)
  · exact Or.inr (Or.inr (Or.inl rfl))
  · exact Or.inr (Or.inr (Or.inr rfl))
theorem back_none {rule many ruleK : Int32} {rowsK rows roomK room : Nat → Int32} : f_X7_back rule many (-1) ruleK rowsK rows roomK room = some (-3, rule, many, rows, room) := by
  unfold f_X7_back
  rw [if_pos rfl]
