/-! ## told, set, painter, pose, force, count, feed -/
section
variable {tv : Int32 → Int32 → Int32 → Int32 → Int32 → Int32 → Int32 → Int32 → Int32} {nT n F L S s z q w P : Nat} {K N E : Nat → Nat} {face lamp stove pose rule painters many fw pw l1 l2 l3 l4 ts wasv opn : Int32} {kind number easel had pleased kinds rows rows0 room room0 now gained was it iT so ss its its0 val : Nat → Int32}
theorem side6 (hn : n ≤ 6) (hp : q < n) (hF : F < 11) (he : easel q = nI (E q)) (hE : E q < 11) : f_X2_sideOf (nI q) (nI F) easel = some (nI (sd (E q) F)) := by
  unfold f_X2_sideOf
  rw [if_pos (inb_nI (by omega) (by decide)), cl_nI (by omega), he, side_a _ hE _ hF]
theorem side7 (hn : n ≤ 6) (hp : q < n) (hF : F < 11) (he : ∀ p, p < n → rows (4 * p + 1) = nI (E p)) (hE : E q < 11) (h0 : room 0 = nI F) : f_X7_sideOf (nI q) rows room = some (nI (sd (E q) F)) := by
  unfold f_X7_sideOf
  rw [easelOf7 hn he hp, c0, h0]
  simp only [Option.bind_some, f_X7_round1]
  rw [side_b _ hE _ hF]
theorem A_told (h : RG nT n F L S K N E face lamp stove pose rule painters kind number easel had pleased many kinds rows room) :
    ∃ a, f_X6_told l1 l2 face lamp stove pose rule painters easel number kind had pleased tv nT = some a ∧ f_X7_told l1 l2 rule many rows kinds room tv nT = some a := by
  obtain ⟨hO, hX, hM, hr, hnT, hh, hpl⟩ := h
  have hn := hO.1
  have hp := hX.2.2.2.1
  have hmany := hM.1
  have hE : ∀ p, p < n → E p < 11 := fun p hp => (hO.2.2.2.2.2 p hp).2.2
  have he6 : ∀ p, p < n → easel p = nI (E p) := fun p hp => (hX.2.2.2.2 p hp).2.2
  have he7 : ∀ p, p < n → rows (4 * p + 1) = nI (E p) := fun p hp => (hM.2.2.2.2.2 p hp).2.2
  unfold f_X6_told f_X6_told_19 f_X7_told
  rw [in7i, e0, e14, show f_X2_has l1 painters = some (bz (decide (0 ≤ l1.toInt ∧ l1.toInt < n))) from by rw [hp]; exact has6 _ hn, show f_X7_isOne l1 many = some (bz (decide (0 ≤ l1.toInt ∧ l1.toInt < n))) from by rw [hmany]; exact isOne7 _ hn]
  simp only [Option.bind_some, bz_0, decide_eq_false_iff_not]
  by_cases a : 0 ≤ l2.toInt ∧ l2.toInt ≤ 14
  · have hnlt : ¬ l2 < 0 := by rw [lt_i, i0]; omega
    rw [if_neg hnlt, if_neg (show ¬ ¬ (0 ≤ l2.toInt ∧ l2.toInt ≤ 14) from fun h => h a), if_neg hnlt, if_neg (show ¬ 14 < l2 by rw [lt_i, i14]; omega)]
    obtain ⟨w, hw, rfl⟩ := nn_of a.1
    rw [nI_toInt hw] at a
    by_cases b : w ≤ 3
    · rw [if_neg (show ¬ 3 < nI w by rw [lt_i, i3, nI_toInt (by omega)]; omega), if_pos (show nI w ≤ 3 by rw [le_i, i3, nI_toInt (by omega)]; omega)]
      rcases (show w = 0 ∨ w = 1 ∨ w = 2 ∨ w = 3 by omega) with rfl | rfl | rfl | rfl
      · exact ⟨_, rfl, by rw [hX.1, ← hM.2.1]; rfl⟩
      · exact ⟨_, rfl, by rw [hX.2.1, ← hM.2.2.1]; rfl⟩
      · exact ⟨_, rfl, by rw [hX.2.2.1, ← hM.2.2.2.1]; rfl⟩
      · exact ⟨_, rfl, by rw [← hM.2.2.2.2.1]; rfl⟩
    · rw [if_pos (show 3 < nI w by rw [lt_i, i3, nI_toInt (by omega)]; omega), if_neg (show ¬ nI w ≤ 3 by rw [le_i, i3, nI_toInt (by omega)]; omega)]
      by_cases c : 0 ≤ l1.toInt ∧ l1.toInt < n
      · have nc : ¬ ¬ (0 ≤ l1.toInt ∧ l1.toInt < n) := fun h => h c
        rw [if_neg nc, if_neg nc]
        obtain ⟨q, hq', rfl⟩ := nn_of c.1
        rw [nI_toInt hq'] at c
        have hq : q < n := by omega
        have hin : inb (nI q) 6 = true := inb_nI (by omega) (by decide)
        have hcl : (nI q).toNatClampNeg = q := cl_nI (by omega)
        obtain ⟨y0, z0⟩ := ix0 (show q < 6 by omega)
        obtain ⟨y1, z1⟩ := ix1 (show q < 6 by omega)
        obtain ⟨y2, z2⟩ := ix2 (show q < 6 by omega)
        obtain ⟨y3, z3⟩ := ix3 (show q < 6 by omega)
        have k4 : ∀ q, q < 6 → 4 * nI q + nI 4 - 4 = 4 * nI q := by decide +kernel
        have k5 : ∀ q, q < 6 → 4 * nI q + nI 5 - 4 = 4 * nI q + 1 := by decide +kernel
        have k7 : ∀ q, q < 6 → 4 * nI q + nI 7 - 5 = 4 * nI q + 2 := by decide +kernel
        have k8 : ∀ q, q < 6 → 4 * nI q + nI 8 - 5 = 4 * nI q + 3 := by decide +kernel
        have s6 : f_X2_sideOf (nI q) face easel = some (nI (sd (E q) F)) := by rw [hX.1]; exact side6 hn hq hO.2.1 (he6 q hq) (hE q hq)
        have s7 := side7 hn hq hO.2.1 he7 (hE q hq) hM.2.1
        by_cases d : w ≤ 9
        · rw [if_neg (show ¬ 9 < nI w by rw [lt_i, i9, nI_toInt (by omega)]; omega)]
          unfold f_X2_toldPlain f_X7_told_28
          rcases (show w = 4 ∨ w = 5 ∨ w = 6 ∨ w = 7 ∨ w = 8 ∨ w = 9 by omega) with rfl | rfl | rfl | rfl | rfl | rfl
          · refine ⟨nI (N q), ?_, ?_⟩
            · rw [if_neg (by decide), if_neg (by decide), if_neg (by decide), if_neg (by decide), if_pos (by decide), if_pos hin, hcl, (hX.2.2.2.2 q hq).2.1]; rfl
            · rw [if_neg (by decide), if_pos (by decide), if_neg (by decide), k4 q (by omega), if_pos y0, z0, (hM.2.2.2.2.2 q hq).2.1]
          · refine ⟨nI (E q), ?_, ?_⟩
            · rw [if_neg (by decide), if_neg (by decide), if_neg (by decide), if_neg (by decide), if_neg (by decide), if_pos (by decide), if_pos hin, hcl, he6 q hq]; rfl
            · rw [if_neg (by decide), if_pos (by decide), if_neg (by decide), k5 q (by omega), if_pos y1, z1, he7 q hq]
          · refine ⟨nI (K q), ?_, ?_⟩
            · rw [if_neg (by decide), if_neg (by decide), if_neg (by decide), if_neg (by decide), if_neg (by decide), if_neg (by decide), if_pos (by decide), if_pos hin, hcl, (hX.2.2.2.2 q hq).1]; rfl
            · rw [if_neg (by decide), if_pos (by decide), if_pos (by decide), if_pos hin, hcl, (hM.2.2.2.2.2 q hq).1]
          · refine ⟨had q, ?_, ?_⟩
            · rw [if_neg (by decide), if_neg (by decide), if_neg (by decide), if_neg (by decide), if_neg (by decide), if_neg (by decide), if_neg (by decide), if_pos (by decide), if_pos hin, hcl]; rfl
            · rw [if_pos (by decide), if_neg (by decide), if_neg (by decide), k7 q (by omega), if_pos y2, z2, hh q hq]
          · refine ⟨pleased q, ?_, ?_⟩
            · rw [if_neg (by decide), if_neg (by decide), if_neg (by decide), if_neg (by decide), if_neg (by decide), if_neg (by decide), if_neg (by decide), if_neg (by decide), if_pos (by decide), if_pos hin, hcl]; rfl
            · rw [if_pos (by decide), if_neg (by decide), if_neg (by decide), k8 q (by omega), if_pos y3, z3, hpl q hq]
          · refine ⟨nI (sd (E q) F), ?_, ?_⟩
            · rw [if_neg (by decide), if_neg (by decide), if_neg (by decide), if_neg (by decide), if_neg (by decide), if_neg (by decide), if_neg (by decide), if_neg (by decide), if_neg (by decide), s6]; rfl
            · rw [if_pos (by decide), if_neg (by decide), if_pos (by decide), s7]; rfl
        · rw [if_pos (show 9 < nI w by rw [lt_i, i9, nI_toInt (by omega)]; omega)]
          have hs := see6 (tv := tv) (pose := pose) hO hX hq hr hnT
          obtain ⟨V, Wm, Md⟩ := VWM7 (tv := tv) hO hM hq hr
          have hpb6 := PB6 (tv := tv) (pose := pose) hO hX hq hr hnT
          have hpb7 := PB7 (tv := tv) hO hM hq hr
          have hkq := (hO.2.2.2.2.2 q hq).1
          have hk6 := (hX.2.2.2.2 q hq).1
          unfold f_X6_toldSeen f_X7_told_28
          rw [hs]
          simp only [Option.bind_some]
          rw [if_pos hin, hcl, hk6, view6 hkq, warmth6 hkq, minding6 hkq, hpb6, if_pos (show (7 : Int32) ≤ nI w by rw [le_i, i7, nI_toInt (by omega)]; omega), if_pos (show (10 : Int32) ≤ nI w by rw [le_i, i10, nI_toInt (by omega)]; omega), V, Wm, Md, hpb7]
          simp only [Option.bind_some]
          rcases (show w = 10 ∨ w = 11 ∨ w = 12 ∨ w = 13 ∨ w = 14 by omega) with rfl | rfl | rfl | rfl | rfl
          · exact ⟨_, rfl, rfl⟩
          · exact ⟨_, rfl, rfl⟩
          · exact ⟨_, rfl, rfl⟩
          · exact ⟨_, rfl, rfl⟩
          · refine ⟨nI (nrF E (E q) 0 0 n), rfl, ?_⟩
            rw [hmany, near7 hn hq hO.2.2.2.2.1 he7 hE]
            rfl
      · rw [if_pos c, if_pos c]; exact ⟨_, rfl, rfl⟩
  · rw [if_pos a]
    by_cases b : l2 < 0
    · rw [if_pos b, if_pos b]; exact ⟨_, rfl, rfl⟩
    · rw [if_neg b, if_neg b]
      rw [lt_i, i0] at b
      rw [if_pos (show 3 < l2 by rw [lt_i, i3]; omega), if_pos (show 14 < l2 by rw [lt_i, i14]; omega)]; exact ⟨_, rfl, rfl⟩
end
