theorem inb6 {x : Int32} {nT : Nat} (h : inb x nT = true) (hn : nT ≤ 6) : inb x 6 = true := by
  rw [inb_iff] at h ⊢; omega
theorem see6 {tv : Int32 → Int32 → Int32 → Int32 → Int32 → Int32 → Int32 → Int32 → Int32} {nT n F L S p : Nat} {K N E : Nat → Nat} {face lamp stove pose rule painters : Int32} {kind number easel : Nat → Int32} (hO : OKr n F L S K N E) (hX : RX n F L S K N E face lamp stove painters kind number easel) (hp : p < n) (hr : inb rule nT = true) (hnT : nT ≤ 6) :
    f_X4_see (nI p) face lamp stove pose rule painters easel number tv nT = some (clp 0 (tv rule 0 (nI (sd (E p) F)) (nI (aw (E p) L)) (nI (aw (E p) S)) (nI (N p)) pose (nI (nrF E (E p) 0 0 n))) 99, clp (-99) (tv rule 1 (nI (sd (E p) F)) (nI (aw (E p) L)) (nI (aw (E p) S)) (nI (N p)) pose (nI (nrF E (E p) 0 0 n))) 99, clp (-99) (tv rule 2 (nI (sd (E p) F)) (nI (aw (E p) L)) (nI (aw (E p) S)) (nI (N p)) pose (nI (nrF E (E p) 0 0 n))) 99, nm6 (nI (sd (E p) F)) (nI (aw (E p) L)) (nI (aw (E p) S)) (nI (N p)) pose (nI (nrF E (E p) 0 0 n))) := by
  obtain ⟨hn, hF, hL, hS, hd, hK⟩ := hO
  obtain ⟨rfl, rfl, rfl, rfl, hX⟩ := hX
  have he : ∀ p, p < n → easel p = nI (E p) := fun p hp => (hX p hp).2.2
  have hE : ∀ p, p < n → E p < 11 := fun p hp => (hK p hp).2.2
  have hEp := hE p hp
  have h6 := inb6 hr hnT
  have h7 := inb_iff.mp h6
  have hin : inb (nI p) 6 = true := inb_nI (by omega) (by decide)
  have hsi : f_X2_sideOf (nI p) (nI F) easel = some (nI (sd (E p) F)) := by
    unfold f_X2_sideOf
    rw [if_pos hin, cl_nI (by omega), he p hp, side_a _ hEp _ hF]
  unfold f_X4_see
  rw [if_pos hin, hsi, cl_nI (by omega), he p hp, away6 _ hEp _ hL, away6 _ hEp _ hS, near6 hn hp he hE, (hX p hp).2.1]
  simp only [Option.bind_some]
  rw [if_pos hin]
  unfold f_X4_see_82
  rw [if_neg (by rw [lt_i, i0]; omega), if_neg (by rw [le_i, i6]; omega), if_pos h6, if_pos hr]
  rw [within6 le099, within6 lem99]
  simp only [Option.bind_some]
  rw [within6 lem99]
  rfl
theorem PB6 {tv : Int32 → Int32 → Int32 → Int32 → Int32 → Int32 → Int32 → Int32 → Int32} {nT n F L S p : Nat} {K N E : Nat → Nat} {face lamp stove pose rule painters : Int32} {kind number easel : Nat → Int32} (hO : OKr n F L S K N E) (hX : RX n F L S K N E face lamp stove painters kind number easel) (hp : p < n) (hr : inb rule nT = true) (hnT : nT ≤ 6) :
    g_X6_pleasedBy (nI p) face lamp stove pose rule painters easel number kind tv nT = some (pbN tv rule pose n F L S K N E p) := by
  unfold g_X6_pleasedBy f_X6_pleasedBy
  rw [see6 hO hX hp hr hnT]
  simp only [Option.bind_some]
  obtain ⟨hn, hF, hL, hS, hd, hK⟩ := hO
  obtain ⟨rfl, rfl, rfl, rfl, hX⟩ := hX
  rw [if_pos (inb_nI (by omega) (by decide)), cl_nI (by omega), (hX p hp).1, view6 (hK p hp).1, warmth6 (hK p hp).1, minding6 (hK p hp).1]
  rfl
theorem says7 {tv : Int32 → Int32 → Int32 → Int32 → Int32 → Int32 → Int32 → Int32 → Int32} {nT n F L S p : Nat} {K N E : Nat → Nat} {pose rule many w : Int32} {kinds rows room : Nat → Int32} (hO : OKr n F L S K N E) (hM : RM n F L S K N E pose many kinds rows room) (hp : p < n) (hr : inb rule nT = true) (hw : w = 0 ∨ w = 1 ∨ w = 2) :
    g_X7_says w (nI p) rule many rows room tv nT = some (clp (if w = 0 then 0 else -99) (tv rule w (nI (sd (E p) F)) (nI (aw (E p) L)) (nI (aw (E p) S)) (nI (N p)) pose (nI (nrF E (E p) 0 0 n))) 99) := by
  obtain ⟨hn, hF, hL, hS, hd, hK⟩ := hO
  obtain ⟨rfl, h0, h1, h2, h3, hM⟩ := hM
  have he : ∀ p, p < n → rows (4 * p + 1) = nI (E p) := fun p hp => (hM p hp).2.2
  have hE : ∀ p, p < n → E p < 11 := fun p hp => (hK p hp).2.2
  have hEp := hE p hp
  obtain ⟨a1, a2⟩ := ix0 (show p < 6 by omega)
  unfold g_X7_says f_X7_says f_X7_sideOf
  rw [easelOf7 hn he hp, c0, c1, c2, c3]
  simp only [Option.bind_some, f_X7_round1]
  rw [h0, h1, h2, h3, side_b _ hEp _ hF, away7 _ hEp _ hL]
  simp only [Option.bind_some]
  rw [away7 _ hEp _ hS]
  simp only [Option.bind_some]
  rw [if_pos a1, a2, (hM p hp).2.1, near7 hn hp hd he hE]
  simp only [Option.bind_some, g_X7_read]
  rw [if_pos hr]
  simp only [Option.bind_some]
  rw [within7 le099, within7 lem99]
  rcases hw with rfl | rfl | rfl <;> rfl
theorem VWM7 {tv : Int32 → Int32 → Int32 → Int32 → Int32 → Int32 → Int32 → Int32 → Int32} {nT n F L S p : Nat} {K N E : Nat → Nat} {pose rule many : Int32} {kinds rows room : Nat → Int32} (hO : OKr n F L S K N E) (hM : RM n F L S K N E pose many kinds rows room) (hp : p < n) (hr : inb rule nT = true) :
    (f_X7_viewOf (nI p) rule many kinds rows room tv nT = some (clp 0 (vwS (K p) (clp 0 (tv rule 0 (nI (sd (E p) F)) (nI (aw (E p) L)) (nI (aw (E p) S)) (nI (N p)) pose (nI (nrF E (E p) 0 0 n))) 99) (nI (sd (E p) F)) (nI (aw (E p) L)) (nI (N p)) pose) 99)) ∧ (f_X7_warmthOf (nI p) rule many kinds rows room tv nT = some (clp (-99) (wmS (K p) (clp (-99) (tv rule 1 (nI (sd (E p) F)) (nI (aw (E p) L)) (nI (aw (E p) S)) (nI (N p)) pose (nI (nrF E (E p) 0 0 n))) 99) (nI (aw (E p) S)) (nI (N p))) 99)) ∧ (f_X7_mindsOf (nI p) rule many kinds rows room tv nT = some (clp (-99) (mdS (K p) (clp (-99) (tv rule 2 (nI (sd (E p) F)) (nI (aw (E p) L)) (nI (aw (E p) S)) (nI (N p)) pose (nI (nrF E (E p) 0 0 n))) 99) (nI (nrF E (E p) 0 0 n))) 99)) := by
  have s0 := says7 (tv := tv) hO hM hp hr (Or.inl rfl)
  have s1 := says7 (tv := tv) hO hM hp hr (Or.inr (Or.inl rfl))
  have s2 := says7 (tv := tv) hO hM hp hr (Or.inr (Or.inr rfl))
  obtain ⟨hn, hF, hL, hS, hd, hK⟩ := hO
  obtain ⟨rfl, h0, h1, h2, h3, hM⟩ := hM
  have he : ∀ p, p < n → rows (4 * p + 1) = nI (E p) := fun p hp => (hM p hp).2.2
  have hE : ∀ p, p < n → E p < 11 := fun p hp => (hK p hp).2.2
  have hEp := hE p hp
  obtain ⟨a1, a2⟩ := ix0 (show p < 6 by omega)
  have hin : inb (nI p) 6 = true := inb_nI (by omega) (by decide)
  have hcl : (nI p).toNatClampNeg = p := cl_nI (by omega)
  have hk := (hM p hp).1
  have hnu := (hM p hp).2.1
  have hea := easelOf7 hn he hp
  have hsi : f_X7_sideOf (nI p) rows room = some (nI (sd (E p) F)) := by
    unfold f_X7_sideOf
    rw [hea, c0, h0]
    simp only [Option.bind_some, f_X7_round1]
    rw [side_b _ hEp _ hF]
  have hne := near7 hn hp hd he hE
  have hin5 : f_X7_in (nI (sd (E p) F)).toInt64 1 5 = some (bz (decide (1 ≤ (nI (sd (E p) F)).toInt ∧ (nI (sd (E p) F)).toInt ≤ 5))) := by
    rw [in7i]; rfl
  have hkk := (hK p hp).1
  have V : f_X7_viewOf (nI p) rule (nI n) kinds rows room tv nT = some (clp 0 (vwS (K p) (clp 0 (tv rule 0 (nI (sd (E p) F)) (nI (aw (E p) L)) (nI (aw (E p) S)) (nI (N p)) pose (nI (nrF E (E p) 0 0 n))) 99) (nI (sd (E p) F)) (nI (aw (E p) L)) (nI (N p)) pose) 99) := by
    have h37 : ∀ k : Nat, k < 6 → f_X7_viewOf_37 rule (nI n) rows room tv nT (nI p) (nI k) = f_X7_viewOf_67 rows room (nI p) (nI k) (clp 0 (tv rule 0 (nI (sd (E p) F)) (nI (aw (E p) L)) (nI (aw (E p) S)) (nI (N p)) pose (nI (nrF E (E p) 0 0 n))) 99) (if nI (sd (E p) F) < 1 then (clp 0 (tv rule 0 (nI (sd (E p) F)) (nI (aw (E p) L)) (nI (aw (E p) S)) (nI (N p)) pose (nI (nrF E (E p) 0 0 n))) 99) else if 5 < nI (sd (E p) F) then (clp 0 (tv rule 0 (nI (sd (E p) F)) (nI (aw (E p) L)) (nI (aw (E p) S)) (nI (N p)) pose (nI (nrF E (E p) 0 0 n))) 99) else 2 * (clp 0 (tv rule 0 (nI (sd (E p) F)) (nI (aw (E p) L)) (nI (aw (E p) S)) (nI (N p)) pose (nI (nrF E (E p) 0 0 n))) 99)) := by
      intro k hk6
      unfold f_X7_viewOf_37
      rw [s0, hsi]
      simp only [Option.bind_some]
      rw [hin5]
      simp only [Option.bind_some, bz_0, decide_eq_false_iff_not, lt_i, i1, i5, if_true]
      generalize (nI (sd (E p) F)).toInt = z
      repeat' split
      all_goals first | rfl | omega
    unfold f_X7_viewOf
    rw [if_pos hin, hcl, hk, hea, c1, h1]
    simp only [Option.bind_some]
    rw [away7 _ hEp _ hL]
    simp only [Option.bind_some]
    rw [h37 (K p) hkk]
    generalize tv rule 0 (nI (sd (E p) F)) (nI (aw (E p) L)) (nI (aw (E p) S)) (nI (N p)) pose (nI (nrF E (E p) 0 0 n)) = t
    generalize nI (sd (E p) F) = si at *
    generalize nI (aw (E p) L) = al at *
    unfold f_X7_viewOf_67 f_X7_viewOf_123
    rw [if_pos a1, a2, hnu, c3, h3]
    generalize nI (N p) = nu at *
    generalize clp 0 t 99 = v
    generalize hkp : K p = k at *
    rcases (show k = 0 ∨ k = 1 ∨ k = 2 ∨ k = 3 ∨ k = 4 ∨ k = 5 by omega) with rfl | rfl | rfl | rfl | rfl | rfl
    all_goals
      simp only [nI, vwS]
      simp (decide := true) only [if_true, if_false]
      repeat' split
      all_goals first | rfl | (simp only [Option.bind_some, within7 le099]; done) | (rw [within7 le099]; rfl)
  have Wm : f_X7_warmthOf (nI p) rule (nI n) kinds rows room tv nT = some (clp (-99) (wmS (K p) (clp (-99) (tv rule 1 (nI (sd (E p) F)) (nI (aw (E p) L)) (nI (aw (E p) S)) (nI (N p)) pose (nI (nrF E (E p) 0 0 n))) 99) (nI (aw (E p) S)) (nI (N p))) 99) := by
    unfold f_X7_warmthOf
    rw [if_pos hin, hcl, hk, s1, hea, c2, h2]
    simp only [Option.bind_some]
    rw [away7 _ hEp _ hS]
    simp only [Option.bind_some]
    generalize tv rule 1 (nI (sd (E p) F)) (nI (aw (E p) L)) (nI (aw (E p) S)) (nI (N p)) pose (nI (nrF E (E p) 0 0 n)) = t
    generalize nI (aw (E p) S) = ast
    unfold f_X7_warmthOf_45
    rw [if_pos a1, a2, hnu]
    generalize nI (N p) = nu
    rw [show (if (1 : Int32) = 0 then (0 : Int32) else -99) = -99 from by decide]
    generalize clp (-99) t 99 = v
    generalize hkp : K p = k at *
    rcases (show k = 0 ∨ k = 1 ∨ k = 2 ∨ k = 3 ∨ k = 4 ∨ k = 5 by omega) with rfl | rfl | rfl | rfl | rfl | rfl
    all_goals
      simp only [nI, wmS]
      simp (decide := true) only [if_true, if_false]
      repeat' split
      all_goals first | rfl | (simp only [Option.bind_some, within7 lem99]; done) | (rw [within7 lem99]; rfl)
  have Md : f_X7_mindsOf (nI p) rule (nI n) kinds rows room tv nT = some (clp (-99) (mdS (K p) (clp (-99) (tv rule 2 (nI (sd (E p) F)) (nI (aw (E p) L)) (nI (aw (E p) S)) (nI (N p)) pose (nI (nrF E (E p) 0 0 n))) 99) (nI (nrF E (E p) 0 0 n))) 99) := by
    have hnr : nrF E (E p) 0 0 n ≤ 6 := by have := nrF_le E (E p) n 0 0; omega
    have hcn : clp (-99) (nI (nrF E (E p) 0 0 n)) 99 = nI (nrF E (E p) 0 0 n) := by
      unfold clp
      rw [if_neg (by rw [lt_i, im99, nI_toInt (by omega)]; omega), if_neg (by rw [lt_i, i99, nI_toInt (by omega)]; omega)]
    unfold f_X7_mindsOf f_X7_mindsOf_22 f_X7_mindsOf_54
    rw [if_pos hin, hcl, hk, s2, hne]
    simp only [Option.bind_some]
    generalize tv rule 2 (nI (sd (E p) F)) (nI (aw (E p) L)) (nI (aw (E p) S)) (nI (N p)) pose (nI (nrF E (E p) 0 0 n)) = t
    generalize nI (nrF E (E p) 0 0 n) = nr at *
    rw [show (if (2 : Int32) = 0 then (0 : Int32) else -99) = -99 from by decide]
    generalize clp (-99) t 99 = v
    generalize hkp : K p = k at *
    rcases (show k = 0 ∨ k = 1 ∨ k = 2 ∨ k = 3 ∨ k = 4 ∨ k = 5 by omega) with rfl | rfl | rfl | rfl | rfl | rfl
    all_goals
      simp only [nI, mdS]
      simp (decide := true) only [if_true, if_false]
      try first | rfl | (simp only [Option.bind_some, within7 lem99]; done) | (rw [within7 lem99]; rfl) | (rw [hcn]; done) | (rw [hcn])
  exact ⟨V, Wm, Md⟩
theorem PB7 {tv : Int32 → Int32 → Int32 → Int32 → Int32 → Int32 → Int32 → Int32 → Int32} {nT n F L S p : Nat} {K N E : Nat → Nat} {pose rule many : Int32} {kinds rows room : Nat → Int32} (hO : OKr n F L S K N E) (hM : RM n F L S K N E pose many kinds rows room) (hp : p < n) (hr : inb rule nT = true) :
    f_X7_pleasedBy (nI p) rule many kinds rows room tv nT = some (pbN tv rule pose n F L S K N E p) := by
  obtain ⟨V, Wm, Md⟩ := VWM7 (tv := tv) hO hM hp hr
  unfold f_X7_pleasedBy
  rw [V, Wm, Md]
  rfl
