set_option maxRecDepth 100000 in
set_option maxHeartbeats 4000000 in
theorem L_copy {x : VX} {ad : Nat → Nat} {tw : va_W} {b Ls i k n : Nat} {xs : Nat → Int32} {face : Int32} {lamp : Int32} {stove : Int32} {pose : Int32} {rule : Int32} {painters : Int32} {kind : (Nat → Int32)} {number : (Nat → Int32)} {easel : (Nat → Int32)} {had : (Nat → Int32)} {pleased : (Nat → Int32)} {th : Int32 × Int32 × Int32 × Int32 × Int32 × Int32 × (Nat → Int32) × (Nat → Int32) × (Nat → Int32) × (Nat → Int32) × (Nat → Int32)} {kp : Int32 × Int32 × Int32 × Int32 × Int32 × Int32 × (Nat → Int32) × (Nat → Int32) × (Nat → Int32) × (Nat → Int32) × (Nat → Int32)} {ik : Int32} {rd : Int32 × Int32 × Int32 × Int32 × Int32 × Int32 × Int32 × (Nat → Int32) × (Nat → Int32)} {txs : Nat → Option Nat} {tc : Int32} {sg : Int32 × Int32 × Int32 × (Nat → Int32) × (Nat → Int32)} {mo : Int32 × Int32 × Int32} {sh0 : Int32 × Int32 × (Nat → Int32)} {sh1 : Int32 × Int32 × (Nat → Int32)} {sh2 : Int32 × Int32 × (Nat → Int32)} {sh3 : Int32 × Int32 × (Nat → Int32)} {thr : Int32} {tc7 : Int32} {rule7 : Int32} {taped : Int32} {many : Int32} {jk : Int32 × Int32 × Int32 × Int32 × Int32 × Int32 × Int32 × Int32 × Int32 × Int32 × Int32 × Int64 × Int32 × Int32 × Int32} {fw : Int32} {pw : Int32} {manyK : Int32} {ruleK : Int32} {texts : (Nat → Int32)} {textSize : (Nat → Int32)} {tp7 : (Nat → Int32)} {room : (Nat → Int32)} {kinds : (Nat → Int32)} {rows : (Nat → Int32)} {now : (Nat → Int32)} {gained : (Nat → Int32)} {was : (Nat → Int32)} {roomK : (Nat → Int32)} {rowsK : (Nat → Int32)} {iT : (Nat → Int32)} {so : (Nat → Int32)} {ss : (Nat → Int32)} {its : (Nat → Int32)} (X : Cx x cL_law RL 2048) (hs : SCR x b Ls xs) (hi : i + 6 ≤ Ls) (hRm : vxR x = room_1) (hk : k + 3 ≤ 628623 ∧ n + 165 ≤ 7216380) (hWd : ∀ tw : va_W, WordsK (vxD x) (vxT x) (ZT (vxD x) (vxT x) (vxZ x) tw)) (hUn : ∀ tw : va_W, UnderK (ZT (vxD x) (vxT x) (vxZ x) tw))
    (I : INV (vxT x) tw face lamp stove pose rule painters kind number easel had pleased kp ik rd txs tc sh0 sh1 sh2 sh3 tc7 rule7 taped many manyK ruleK texts textSize tp7 room kinds rows roomK rowsK iT so ss its)
    (kk : ∀ (tw' : va_W) (face : Int32) (lamp : Int32) (stove : Int32) (pose : Int32) (rule : Int32) (painters : Int32) (kind : (Nat → Int32)) (number : (Nat → Int32)) (easel : (Nat → Int32)) (had : (Nat → Int32)) (pleased : (Nat → Int32)) (th : Int32 × Int32 × Int32 × Int32 × Int32 × Int32 × (Nat → Int32) × (Nat → Int32) × (Nat → Int32) × (Nat → Int32) × (Nat → Int32)) (kp : Int32 × Int32 × Int32 × Int32 × Int32 × Int32 × (Nat → Int32) × (Nat → Int32) × (Nat → Int32) × (Nat → Int32) × (Nat → Int32)) (ik : Int32) (rd : Int32 × Int32 × Int32 × Int32 × Int32 × Int32 × Int32 × (Nat → Int32) × (Nat → Int32)) (txs : Nat → Option Nat) (tc : Int32) (sg : Int32 × Int32 × Int32 × (Nat → Int32) × (Nat → Int32)) (mo : Int32 × Int32 × Int32) (sh0 : Int32 × Int32 × (Nat → Int32)) (sh1 : Int32 × Int32 × (Nat → Int32)) (sh2 : Int32 × Int32 × (Nat → Int32)) (sh3 : Int32 × Int32 × (Nat → Int32)) (thr : Int32) (tc7 : Int32) (rule7 : Int32) (taped : Int32) (many : Int32) (jk : Int32 × Int32 × Int32 × Int32 × Int32 × Int32 × Int32 × Int32 × Int32 × Int32 × Int32 × Int64 × Int32 × Int32 × Int32) (fw : Int32) (pw : Int32) (manyK : Int32) (ruleK : Int32) (texts : (Nat → Int32)) (textSize : (Nat → Int32)) (tp7 : (Nat → Int32)) (room : (Nat → Int32)) (kinds : (Nat → Int32)) (rows : (Nat → Int32)) (now : (Nat → Int32)) (gained : (Nat → Int32)) (was : (Nat → Int32)) (roomK : (Nat → Int32)) (rowsK : (Nat → Int32)) (iT : (Nat → Int32)) (so : (Nat → Int32)) (ss : (Nat → Int32)) (its : (Nat → Int32)), INV (vxT x) tw' face lamp stove pose rule painters kind number easel had pleased kp ik rd txs tc sh0 sh1 sh2 sh3 tc7 rule7 taped many manyK ruleK texts textSize tp7 room kinds rows roomK rowsK iT so ss its → V x (k + 3) (n + 165) (WL (vxT x) ad face lamp stove pose rule painters kind number easel had pleased th kp ik rd txs tc sg mo sh0 sh1 sh2 sh3 thr tc7 rule7 taped many jk fw pw manyK ruleK texts textSize tp7 room kinds rows now gained was roomK rowsK iT so ss its ++ tw') [(0, .ref b), (1, .ref (ad 0)), (2, .ref (ad 36)), (3, .int (nI i))] 1062 []) :
    V x k n (WL (vxT x) ad face lamp stove pose rule painters kind number easel had pleased th kp ik rd txs tc sg mo sh0 sh1 sh2 sh3 thr tc7 rule7 taped many jk fw pw manyK ruleK texts textSize tp7 room kinds rows now gained was roomK rowsK iT so ss its ++ tw) [(0, .ref b), (1, .ref (ad 0)), (2, .ref (ad 36)), (3, .int (nI i))] 913 [] := by
  obtain ⟨nT, m, F, L, S, P, z, K, N, E, tds, h1, rfl, hP, hPe, rfl, rfl, hT, hX, hW, s0, s1, s2, s3, hK⟩ := I
  have hn6 : nT ≤ 6 := h1.2.2.2.2.1
  have hCx := CTx_of (D := vxD x) X.2.2.2.2.2.2.2.1 hn6 hX hW
  have hTx := RTx_of hn6 hX
  by_cases hl : 0 ≤ (xs (i + 1)).toInt ∧ (xs (i + 1)).toInt < 4
  · rcases s4_of hl with h0 | h0 | h0 | h0
    · have hsh0 := shs_in (ad := ad) h0 (by decide)
      by_cases hl3 : 0 ≤ (xs (i + 3)).toInt ∧ (xs (i + 3)).toInt < 4
      · rcases s4_of hl3 with h3 | h3 | h3 | h3
        · have hsh1 := shs_in (ad := ad) h3 (by decide)
          obtain ⟨a, it', it7, e6, e7, hS2, hO⟩ := A_copyS (l2 := xs (i + 2)) (l4 := xs (i + 4)) (l5 := xs (i + 5)) (s := 0) (by decide) s0
          have e6 : f_X6_copyS (xs (i + 1)) (xs (i + 2)) (xs (i + 3)) (xs (i + 4)) (xs (i + 5)) sh0.1 sh0.2.1 sh0.2.2 = some (a, it') := by rw [h0, h3]; exact e6
          have e7 : f_X7_copy (xs (i + 1)) (xs (i + 2)) (xs (i + 3)) (xs (i + 4)) (xs (i + 5)) iT so ss its = some (a, it7) := by rw [h0, h3]; exact e7
          exact M_copy_00 (tv := tvs tds) (nT := nT) X hs hi hRm hk hsh0 hsh1 e6 e7 rfl (v_wid (by omega) (by omega) (kk _ _ _ _ _ _ _ _ _ _ _ _ _ _ _ _ _ _ _ _ _ _ _ _ _ _ _ _ _ _ _ _ _ _ _ _ _ _ _ _ _ _ _ _ _ _ _ _ _ ⟨nT, m, F, L, S, P, z, K, N, E, tds, h1, rfl, hP, hPe, rfl, rfl, hT, hX, hW, hS2, (SHr_other s1 hO (by decide)), (SHr_other s2 hO (by decide)), (SHr_other s3 hO (by decide)), hK⟩))
        · have hsh1 := shs_in (ad := ad) h3 (by decide)
          obtain ⟨a, oit', it7, e6, e7, hS2, hO⟩ := A_copy (l2 := xs (i + 2)) (l4 := xs (i + 4)) (l5 := xs (i + 5)) (s := 0) (o := 1) (by decide) (by decide) (by decide) s0 s1
          rw [← h0, ← h3] at e6 e7
          exact M_copy_01 (tv := tvs tds) (nT := nT) X hs hi hRm hk hsh0 hsh1 e6 e7 rfl (v_wid (by omega) (by omega) (kk _ _ _ _ _ _ _ _ _ _ _ _ _ _ _ _ _ _ _ _ _ _ _ _ _ _ _ _ _ _ _ _ _ _ _ _ _ _ _ _ _ _ _ _ _ _ _ _ _ ⟨nT, m, F, L, S, P, z, K, N, E, tds, h1, rfl, hP, hPe, rfl, rfl, hT, hX, hW, (SHr_other s0 hO (by decide)), hS2, (SHr_other s2 hO (by decide)), (SHr_other s3 hO (by decide)), hK⟩))
        · have hsh1 := shs_in (ad := ad) h3 (by decide)
          obtain ⟨a, oit', it7, e6, e7, hS2, hO⟩ := A_copy (l2 := xs (i + 2)) (l4 := xs (i + 4)) (l5 := xs (i + 5)) (s := 0) (o := 2) (by decide) (by decide) (by decide) s0 s2
          rw [← h0, ← h3] at e6 e7
          exact M_copy_02 (tv := tvs tds) (nT := nT) X hs hi hRm hk hsh0 hsh1 e6 e7 rfl (v_wid (by omega) (by omega) (kk _ _ _ _ _ _ _ _ _ _ _ _ _ _ _ _ _ _ _ _ _ _ _ _ _ _ _ _ _ _ _ _ _ _ _ _ _ _ _ _ _ _ _ _ _ _ _ _ _ ⟨nT, m, F, L, S, P, z, K, N, E, tds, h1, rfl, hP, hPe, rfl, rfl, hT, hX, hW, (SHr_other s0 hO (by decide)), (SHr_other s1 hO (by decide)), hS2, (SHr_other s3 hO (by decide)), hK⟩))
        · have hsh1 := shs_in (ad := ad) h3 (by decide)
          obtain ⟨a, oit', it7, e6, e7, hS2, hO⟩ := A_copy (l2 := xs (i + 2)) (l4 := xs (i + 4)) (l5 := xs (i + 5)) (s := 0) (o := 3) (by decide) (by decide) (by decide) s0 s3
          rw [← h0, ← h3] at e6 e7
          exact M_copy_03 (tv := tvs tds) (nT := nT) X hs hi hRm hk hsh0 hsh1 e6 e7 rfl (v_wid (by omega) (by omega) (kk _ _ _ _ _ _ _ _ _ _ _ _ _ _ _ _ _ _ _ _ _ _ _ _ _ _ _ _ _ _ _ _ _ _ _ _ _ _ _ _ _ _ _ _ _ _ _ _ _ ⟨nT, m, F, L, S, P, z, K, N, E, tds, h1, rfl, hP, hPe, rfl, rfl, hT, hX, hW, (SHr_other s0 hO (by decide)), (SHr_other s1 hO (by decide)), (SHr_other s2 hO (by decide)), hS2, hK⟩))
      · have hsh1 := shs_bad (ad := ad) hl3
        obtain ⟨e6, e6S, e7⟩ := copy_bad (sort := sh0.1) (size := sh0.2.1) (it := sh0.2.2) (osort := sh0.1) (osize := sh0.2.1) (oit := sh0.2.2) (iT := iT) (so := so) (ss := ss) (its := its) (l1 := xs (i + 1)) (l2 := xs (i + 2)) (l3 := xs (i + 3)) (l4 := xs (i + 4)) (l5 := xs (i + 5)) (fun h => hl3 h.2)
        exact M_copy_00 (tv := tvs tds) (nT := nT) X hs hi hRm hk hsh0 hsh1 e6S e7 rfl (v_wid (by omega) (by omega) (kk _ _ _ _ _ _ _ _ _ _ _ _ _ _ _ _ _ _ _ _ _ _ _ _ _ _ _ _ _ _ _ _ _ _ _ _ _ _ _ _ _ _ _ _ _ _ _ _ _ ⟨nT, m, F, L, S, P, z, K, N, E, tds, h1, rfl, hP, hPe, rfl, rfl, hT, hX, hW, s0, s1, s2, s3, hK⟩))
    · have hsh0 := shs_in (ad := ad) h0 (by decide)
      by_cases hl3 : 0 ≤ (xs (i + 3)).toInt ∧ (xs (i + 3)).toInt < 4
      · rcases s4_of hl3 with h3 | h3 | h3 | h3
        · have hsh1 := shs_in (ad := ad) h3 (by decide)
          obtain ⟨a, oit', it7, e6, e7, hS2, hO⟩ := A_copy (l2 := xs (i + 2)) (l4 := xs (i + 4)) (l5 := xs (i + 5)) (s := 1) (o := 0) (by decide) (by decide) (by decide) s1 s0
          rw [← h0, ← h3] at e6 e7
          exact M_copy_10 (tv := tvs tds) (nT := nT) X hs hi hRm hk hsh0 hsh1 e6 e7 rfl (v_wid (by omega) (by omega) (kk _ _ _ _ _ _ _ _ _ _ _ _ _ _ _ _ _ _ _ _ _ _ _ _ _ _ _ _ _ _ _ _ _ _ _ _ _ _ _ _ _ _ _ _ _ _ _ _ _ ⟨nT, m, F, L, S, P, z, K, N, E, tds, h1, rfl, hP, hPe, rfl, rfl, hT, hX, hW, hS2, (SHr_other s1 hO (by decide)), (SHr_other s2 hO (by decide)), (SHr_other s3 hO (by decide)), hK⟩))
        · have hsh1 := shs_in (ad := ad) h3 (by decide)
          obtain ⟨a, it', it7, e6, e7, hS2, hO⟩ := A_copyS (l2 := xs (i + 2)) (l4 := xs (i + 4)) (l5 := xs (i + 5)) (s := 1) (by decide) s1
          have e6 : f_X6_copyS (xs (i + 1)) (xs (i + 2)) (xs (i + 3)) (xs (i + 4)) (xs (i + 5)) sh1.1 sh1.2.1 sh1.2.2 = some (a, it') := by rw [h0, h3]; exact e6
          have e7 : f_X7_copy (xs (i + 1)) (xs (i + 2)) (xs (i + 3)) (xs (i + 4)) (xs (i + 5)) iT so ss its = some (a, it7) := by rw [h0, h3]; exact e7
          exact M_copy_11 (tv := tvs tds) (nT := nT) X hs hi hRm hk hsh0 hsh1 e6 e7 rfl (v_wid (by omega) (by omega) (kk _ _ _ _ _ _ _ _ _ _ _ _ _ _ _ _ _ _ _ _ _ _ _ _ _ _ _ _ _ _ _ _ _ _ _ _ _ _ _ _ _ _ _ _ _ _ _ _ _ ⟨nT, m, F, L, S, P, z, K, N, E, tds, h1, rfl, hP, hPe, rfl, rfl, hT, hX, hW, (SHr_other s0 hO (by decide)), hS2, (SHr_other s2 hO (by decide)), (SHr_other s3 hO (by decide)), hK⟩))
        · have hsh1 := shs_in (ad := ad) h3 (by decide)
          obtain ⟨a, oit', it7, e6, e7, hS2, hO⟩ := A_copy (l2 := xs (i + 2)) (l4 := xs (i + 4)) (l5 := xs (i + 5)) (s := 1) (o := 2) (by decide) (by decide) (by decide) s1 s2
          rw [← h0, ← h3] at e6 e7
          exact M_copy_12 (tv := tvs tds) (nT := nT) X hs hi hRm hk hsh0 hsh1 e6 e7 rfl (v_wid (by omega) (by omega) (kk _ _ _ _ _ _ _ _ _ _ _ _ _ _ _ _ _ _ _ _ _ _ _ _ _ _ _ _ _ _ _ _ _ _ _ _ _ _ _ _ _ _ _ _ _ _ _ _ _ ⟨nT, m, F, L, S, P, z, K, N, E, tds, h1, rfl, hP, hPe, rfl, rfl, hT, hX, hW, (SHr_other s0 hO (by decide)), (SHr_other s1 hO (by decide)), hS2, (SHr_other s3 hO (by decide)), hK⟩))
        · have hsh1 := shs_in (ad := ad) h3 (by decide)
          obtain ⟨a, oit', it7, e6, e7, hS2, hO⟩ := A_copy (l2 := xs (i + 2)) (l4 := xs (i + 4)) (l5 := xs (i + 5)) (s := 1) (o := 3) (by decide) (by decide) (by decide) s1 s3
          rw [← h0, ← h3] at e6 e7
          exact M_copy_13 (tv := tvs tds) (nT := nT) X hs hi hRm hk hsh0 hsh1 e6 e7 rfl (v_wid (by omega) (by omega) (kk _ _ _ _ _ _ _ _ _ _ _ _ _ _ _ _ _ _ _ _ _ _ _ _ _ _ _ _ _ _ _ _ _ _ _ _ _ _ _ _ _ _ _ _ _ _ _ _ _ ⟨nT, m, F, L, S, P, z, K, N, E, tds, h1, rfl, hP, hPe, rfl, rfl, hT, hX, hW, (SHr_other s0 hO (by decide)), (SHr_other s1 hO (by decide)), (SHr_other s2 hO (by decide)), hS2, hK⟩))
      · have hsh1 := shs_bad (ad := ad) hl3
        obtain ⟨e6, e6S, e7⟩ := copy_bad (sort := sh1.1) (size := sh1.2.1) (it := sh1.2.2) (osort := sh0.1) (osize := sh0.2.1) (oit := sh0.2.2) (iT := iT) (so := so) (ss := ss) (its := its) (l1 := xs (i + 1)) (l2 := xs (i + 2)) (l3 := xs (i + 3)) (l4 := xs (i + 4)) (l5 := xs (i + 5)) (fun h => hl3 h.2)
        exact M_copy_10 (tv := tvs tds) (nT := nT) X hs hi hRm hk hsh0 hsh1 e6 e7 rfl (v_wid (by omega) (by omega) (kk _ _ _ _ _ _ _ _ _ _ _ _ _ _ _ _ _ _ _ _ _ _ _ _ _ _ _ _ _ _ _ _ _ _ _ _ _ _ _ _ _ _ _ _ _ _ _ _ _ ⟨nT, m, F, L, S, P, z, K, N, E, tds, h1, rfl, hP, hPe, rfl, rfl, hT, hX, hW, s0, s1, s2, s3, hK⟩))
    · have hsh0 := shs_in (ad := ad) h0 (by decide)
      by_cases hl3 : 0 ≤ (xs (i + 3)).toInt ∧ (xs (i + 3)).toInt < 4
      · rcases s4_of hl3 with h3 | h3 | h3 | h3
        · have hsh1 := shs_in (ad := ad) h3 (by decide)
          obtain ⟨a, oit', it7, e6, e7, hS2, hO⟩ := A_copy (l2 := xs (i + 2)) (l4 := xs (i + 4)) (l5 := xs (i + 5)) (s := 2) (o := 0) (by decide) (by decide) (by decide) s2 s0
          rw [← h0, ← h3] at e6 e7
          exact M_copy_20 (tv := tvs tds) (nT := nT) X hs hi hRm hk hsh0 hsh1 e6 e7 rfl (v_wid (by omega) (by omega) (kk _ _ _ _ _ _ _ _ _ _ _ _ _ _ _ _ _ _ _ _ _ _ _ _ _ _ _ _ _ _ _ _ _ _ _ _ _ _ _ _ _ _ _ _ _ _ _ _ _ ⟨nT, m, F, L, S, P, z, K, N, E, tds, h1, rfl, hP, hPe, rfl, rfl, hT, hX, hW, hS2, (SHr_other s1 hO (by decide)), (SHr_other s2 hO (by decide)), (SHr_other s3 hO (by decide)), hK⟩))
        · have hsh1 := shs_in (ad := ad) h3 (by decide)
          obtain ⟨a, oit', it7, e6, e7, hS2, hO⟩ := A_copy (l2 := xs (i + 2)) (l4 := xs (i + 4)) (l5 := xs (i + 5)) (s := 2) (o := 1) (by decide) (by decide) (by decide) s2 s1
          rw [← h0, ← h3] at e6 e7
          exact M_copy_21 (tv := tvs tds) (nT := nT) X hs hi hRm hk hsh0 hsh1 e6 e7 rfl (v_wid (by omega) (by omega) (kk _ _ _ _ _ _ _ _ _ _ _ _ _ _ _ _ _ _ _ _ _ _ _ _ _ _ _ _ _ _ _ _ _ _ _ _ _ _ _ _ _ _ _ _ _ _ _ _ _ ⟨nT, m, F, L, S, P, z, K, N, E, tds, h1, rfl, hP, hPe, rfl, rfl, hT, hX, hW, (SHr_other s0 hO (by decide)), hS2, (SHr_other s2 hO (by decide)), (SHr_other s3 hO (by decide)), hK⟩))
        · have hsh1 := shs_in (ad := ad) h3 (by decide)
          obtain ⟨a, it', it7, e6, e7, hS2, hO⟩ := A_copyS (l2 := xs (i + 2)) (l4 := xs (i + 4)) (l5 := xs (i + 5)) (s := 2) (by decide) s2
          have e6 : f_X6_copyS (xs (i + 1)) (xs (i + 2)) (xs (i + 3)) (xs (i + 4)) (xs (i + 5)) sh2.1 sh2.2.1 sh2.2.2 = some (a, it') := by rw [h0, h3]; exact e6
          have e7 : f_X7_copy (xs (i + 1)) (xs (i + 2)) (xs (i + 3)) (xs (i + 4)) (xs (i + 5)) iT so ss its = some (a, it7) := by rw [h0, h3]; exact e7
          exact M_copy_22 (tv := tvs tds) (nT := nT) X hs hi hRm hk hsh0 hsh1 e6 e7 rfl (v_wid (by omega) (by omega) (kk _ _ _ _ _ _ _ _ _ _ _ _ _ _ _ _ _ _ _ _ _ _ _ _ _ _ _ _ _ _ _ _ _ _ _ _ _ _ _ _ _ _ _ _ _ _ _ _ _ ⟨nT, m, F, L, S, P, z, K, N, E, tds, h1, rfl, hP, hPe, rfl, rfl, hT, hX, hW, (SHr_other s0 hO (by decide)), (SHr_other s1 hO (by decide)), hS2, (SHr_other s3 hO (by decide)), hK⟩))
        · have hsh1 := shs_in (ad := ad) h3 (by decide)
          obtain ⟨a, oit', it7, e6, e7, hS2, hO⟩ := A_copy (l2 := xs (i + 2)) (l4 := xs (i + 4)) (l5 := xs (i + 5)) (s := 2) (o := 3) (by decide) (by decide) (by decide) s2 s3
          rw [← h0, ← h3] at e6 e7
          exact M_copy_23 (tv := tvs tds) (nT := nT) X hs hi hRm hk hsh0 hsh1 e6 e7 rfl (v_wid (by omega) (by omega) (kk _ _ _ _ _ _ _ _ _ _ _ _ _ _ _ _ _ _ _ _ _ _ _ _ _ _ _ _ _ _ _ _ _ _ _ _ _ _ _ _ _ _ _ _ _ _ _ _ _ ⟨nT, m, F, L, S, P, z, K, N, E, tds, h1, rfl, hP, hPe, rfl, rfl, hT, hX, hW, (SHr_other s0 hO (by decide)), (SHr_other s1 hO (by decide)), (SHr_other s2 hO (by decide)), hS2, hK⟩))
      · have hsh1 := shs_bad (ad := ad) hl3
        obtain ⟨e6, e6S, e7⟩ := copy_bad (sort := sh2.1) (size := sh2.2.1) (it := sh2.2.2) (osort := sh0.1) (osize := sh0.2.1) (oit := sh0.2.2) (iT := iT) (so := so) (ss := ss) (its := its) (l1 := xs (i + 1)) (l2 := xs (i + 2)) (l3 := xs (i + 3)) (l4 := xs (i + 4)) (l5 := xs (i + 5)) (fun h => hl3 h.2)
        exact M_copy_20 (tv := tvs tds) (nT := nT) X hs hi hRm hk hsh0 hsh1 e6 e7 rfl (v_wid (by omega) (by omega) (kk _ _ _ _ _ _ _ _ _ _ _ _ _ _ _ _ _ _ _ _ _ _ _ _ _ _ _ _ _ _ _ _ _ _ _ _ _ _ _ _ _ _ _ _ _ _ _ _ _ ⟨nT, m, F, L, S, P, z, K, N, E, tds, h1, rfl, hP, hPe, rfl, rfl, hT, hX, hW, s0, s1, s2, s3, hK⟩))
    · have hsh0 := shs_in (ad := ad) h0 (by decide)
      by_cases hl3 : 0 ≤ (xs (i + 3)).toInt ∧ (xs (i + 3)).toInt < 4
      · rcases s4_of hl3 with h3 | h3 | h3 | h3
        · have hsh1 := shs_in (ad := ad) h3 (by decide)
          obtain ⟨a, oit', it7, e6, e7, hS2, hO⟩ := A_copy (l2 := xs (i + 2)) (l4 := xs (i + 4)) (l5 := xs (i + 5)) (s := 3) (o := 0) (by decide) (by decide) (by decide) s3 s0
          rw [← h0, ← h3] at e6 e7
          exact M_copy_30 (tv := tvs tds) (nT := nT) X hs hi hRm hk hsh0 hsh1 e6 e7 rfl (v_wid (by omega) (by omega) (kk _ _ _ _ _ _ _ _ _ _ _ _ _ _ _ _ _ _ _ _ _ _ _ _ _ _ _ _ _ _ _ _ _ _ _ _ _ _ _ _ _ _ _ _ _ _ _ _ _ ⟨nT, m, F, L, S, P, z, K, N, E, tds, h1, rfl, hP, hPe, rfl, rfl, hT, hX, hW, hS2, (SHr_other s1 hO (by decide)), (SHr_other s2 hO (by decide)), (SHr_other s3 hO (by decide)), hK⟩))
        · have hsh1 := shs_in (ad := ad) h3 (by decide)
          obtain ⟨a, oit', it7, e6, e7, hS2, hO⟩ := A_copy (l2 := xs (i + 2)) (l4 := xs (i + 4)) (l5 := xs (i + 5)) (s := 3) (o := 1) (by decide) (by decide) (by decide) s3 s1
          rw [← h0, ← h3] at e6 e7
          exact M_copy_31 (tv := tvs tds) (nT := nT) X hs hi hRm hk hsh0 hsh1 e6 e7 rfl (v_wid (by omega) (by omega) (kk _ _ _ _ _ _ _ _ _ _ _ _ _ _ _ _ _ _ _ _ _ _ _ _ _ _ _ _ _ _ _ _ _ _ _ _ _ _ _ _ _ _ _ _ _ _ _ _ _ ⟨nT, m, F, L, S, P, z, K, N, E, tds, h1, rfl, hP, hPe, rfl, rfl, hT, hX, hW, (SHr_other s0 hO (by decide)), hS2, (SHr_other s2 hO (by decide)), (SHr_other s3 hO (by decide)), hK⟩))
        · have hsh1 := shs_in (ad := ad) h3 (by decide)
          obtain ⟨a, oit', it7, e6, e7, hS2, hO⟩ := A_copy (l2 := xs (i + 2)) (l4 := xs (i + 4)) (l5 := xs (i + 5)) (s := 3) (o := 2) (by decide) (by decide) (by decide) s3 s2
          rw [← h0, ← h3] at e6 e7
          exact M_copy_32 (tv := tvs tds) (nT := nT) X hs hi hRm hk hsh0 hsh1 e6 e7 rfl (v_wid (by omega) (by omega) (kk _ _ _ _ _ _ _ _ _ _ _ _ _ _ _ _ _ _ _ _ _ _ _ _ _ _ _ _ _ _ _ _ _ _ _ _ _ _ _ _ _ _ _ _ _ _ _ _ _ ⟨nT, m, F, L, S, P, z, K, N, E, tds, h1, rfl, hP, hPe, rfl, rfl, hT, hX, hW, (SHr_other s0 hO (by decide)), (SHr_other s1 hO (by decide)), hS2, (SHr_other s3 hO (by decide)), hK⟩))
        · have hsh1 := shs_in (ad := ad) h3 (by decide)
          obtain ⟨a, it', it7, e6, e7, hS2, hO⟩ := A_copyS (l2 := xs (i + 2)) (l4 := xs (i + 4)) (l5 := xs (i + 5)) (s := 3) (by decide) s3
          have e6 : f_X6_copyS (xs (i + 1)) (xs (i + 2)) (xs (i + 3)) (xs (i + 4)) (xs (i + 5)) sh3.1 sh3.2.1 sh3.2.2 = some (a, it') := by rw [h0, h3]; exact e6
          have e7 : f_X7_copy (xs (i + 1)) (xs (i + 2)) (xs (i + 3)) (xs (i + 4)) (xs (i + 5)) iT so ss its = some (a, it7) := by rw [h0, h3]; exact e7
          exact M_copy_33 (tv := tvs tds) (nT := nT) X hs hi hRm hk hsh0 hsh1 e6 e7 rfl (v_wid (by omega) (by omega) (kk _ _ _ _ _ _ _ _ _ _ _ _ _ _ _ _ _ _ _ _ _ _ _ _ _ _ _ _ _ _ _ _ _ _ _ _ _ _ _ _ _ _ _ _ _ _ _ _ _ ⟨nT, m, F, L, S, P, z, K, N, E, tds, h1, rfl, hP, hPe, rfl, rfl, hT, hX, hW, (SHr_other s0 hO (by decide)), (SHr_other s1 hO (by decide)), (SHr_other s2 hO (by decide)), hS2, hK⟩))
      · have hsh1 := shs_bad (ad := ad) hl3
        obtain ⟨e6, e6S, e7⟩ := copy_bad (sort := sh3.1) (size := sh3.2.1) (it := sh3.2.2) (osort := sh0.1) (osize := sh0.2.1) (oit := sh0.2.2) (iT := iT) (so := so) (ss := ss) (its := its) (l1 := xs (i + 1)) (l2 := xs (i + 2)) (l3 := xs (i + 3)) (l4 := xs (i + 4)) (l5 := xs (i + 5)) (fun h => hl3 h.2)
        exact M_copy_30 (tv := tvs tds) (nT := nT) X hs hi hRm hk hsh0 hsh1 e6 e7 rfl (v_wid (by omega) (by omega) (kk _ _ _ _ _ _ _ _ _ _ _ _ _ _ _ _ _ _ _ _ _ _ _ _ _ _ _ _ _ _ _ _ _ _ _ _ _ _ _ _ _ _ _ _ _ _ _ _ _ ⟨nT, m, F, L, S, P, z, K, N, E, tds, h1, rfl, hP, hPe, rfl, rfl, hT, hX, hW, s0, s1, s2, s3, hK⟩))
  · have hsh0 := shs_bad (ad := ad) hl
    by_cases hl3 : 0 ≤ (xs (i + 3)).toInt ∧ (xs (i + 3)).toInt < 4
    · rcases s4_of hl3 with h3 | h3 | h3 | h3
      · have hsh1 := shs_in (ad := ad) h3 (by decide)
        obtain ⟨e6, e6S, e7⟩ := copy_bad (sort := sh0.1) (size := sh0.2.1) (it := sh0.2.2) (osort := sh0.1) (osize := sh0.2.1) (oit := sh0.2.2) (iT := iT) (so := so) (ss := ss) (its := its) (l1 := xs (i + 1)) (l2 := xs (i + 2)) (l3 := xs (i + 3)) (l4 := xs (i + 4)) (l5 := xs (i + 5)) (fun h => hl h.1)
        exact M_copy_00 (tv := tvs tds) (nT := nT) X hs hi hRm hk hsh0 hsh1 e6S e7 rfl (v_wid (by omega) (by omega) (kk _ _ _ _ _ _ _ _ _ _ _ _ _ _ _ _ _ _ _ _ _ _ _ _ _ _ _ _ _ _ _ _ _ _ _ _ _ _ _ _ _ _ _ _ _ _ _ _ _ ⟨nT, m, F, L, S, P, z, K, N, E, tds, h1, rfl, hP, hPe, rfl, rfl, hT, hX, hW, s0, s1, s2, s3, hK⟩))
      · have hsh1 := shs_in (ad := ad) h3 (by decide)
        obtain ⟨e6, e6S, e7⟩ := copy_bad (sort := sh0.1) (size := sh0.2.1) (it := sh0.2.2) (osort := sh1.1) (osize := sh1.2.1) (oit := sh1.2.2) (iT := iT) (so := so) (ss := ss) (its := its) (l1 := xs (i + 1)) (l2 := xs (i + 2)) (l3 := xs (i + 3)) (l4 := xs (i + 4)) (l5 := xs (i + 5)) (fun h => hl h.1)
        exact M_copy_01 (tv := tvs tds) (nT := nT) X hs hi hRm hk hsh0 hsh1 e6 e7 rfl (v_wid (by omega) (by omega) (kk _ _ _ _ _ _ _ _ _ _ _ _ _ _ _ _ _ _ _ _ _ _ _ _ _ _ _ _ _ _ _ _ _ _ _ _ _ _ _ _ _ _ _ _ _ _ _ _ _ ⟨nT, m, F, L, S, P, z, K, N, E, tds, h1, rfl, hP, hPe, rfl, rfl, hT, hX, hW, s0, s1, s2, s3, hK⟩))
      · have hsh1 := shs_in (ad := ad) h3 (by decide)
        obtain ⟨e6, e6S, e7⟩ := copy_bad (sort := sh0.1) (size := sh0.2.1) (it := sh0.2.2) (osort := sh2.1) (osize := sh2.2.1) (oit := sh2.2.2) (iT := iT) (so := so) (ss := ss) (its := its) (l1 := xs (i + 1)) (l2 := xs (i + 2)) (l3 := xs (i + 3)) (l4 := xs (i + 4)) (l5 := xs (i + 5)) (fun h => hl h.1)
        exact M_copy_02 (tv := tvs tds) (nT := nT) X hs hi hRm hk hsh0 hsh1 e6 e7 rfl (v_wid (by omega) (by omega) (kk _ _ _ _ _ _ _ _ _ _ _ _ _ _ _ _ _ _ _ _ _ _ _ _ _ _ _ _ _ _ _ _ _ _ _ _ _ _ _ _ _ _ _ _ _ _ _ _ _ ⟨nT, m, F, L, S, P, z, K, N, E, tds, h1, rfl, hP, hPe, rfl, rfl, hT, hX, hW, s0, s1, s2, s3, hK⟩))
      · have hsh1 := shs_in (ad := ad) h3 (by decide)
        obtain ⟨e6, e6S, e7⟩ := copy_bad (sort := sh0.1) (size := sh0.2.1) (it := sh0.2.2) (osort := sh3.1) (osize := sh3.2.1) (oit := sh3.2.2) (iT := iT) (so := so) (ss := ss) (its := its) (l1 := xs (i + 1)) (l2 := xs (i + 2)) (l3 := xs (i + 3)) (l4 := xs (i + 4)) (l5 := xs (i + 5)) (fun h => hl h.1)
        exact M_copy_03 (tv := tvs tds) (nT := nT) X hs hi hRm hk hsh0 hsh1 e6 e7 rfl (v_wid (by omega) (by omega) (kk _ _ _ _ _ _ _ _ _ _ _ _ _ _ _ _ _ _ _ _ _ _ _ _ _ _ _ _ _ _ _ _ _ _ _ _ _ _ _ _ _ _ _ _ _ _ _ _ _ ⟨nT, m, F, L, S, P, z, K, N, E, tds, h1, rfl, hP, hPe, rfl, rfl, hT, hX, hW, s0, s1, s2, s3, hK⟩))
    · have hsh1 := shs_bad (ad := ad) hl3
      obtain ⟨e6, e6S, e7⟩ := copy_bad (sort := sh0.1) (size := sh0.2.1) (it := sh0.2.2) (osort := sh0.1) (osize := sh0.2.1) (oit := sh0.2.2) (iT := iT) (so := so) (ss := ss) (its := its) (l1 := xs (i + 1)) (l2 := xs (i + 2)) (l3 := xs (i + 3)) (l4 := xs (i + 4)) (l5 := xs (i + 5)) (fun h => hl h.1)
      exact M_copy_00 (tv := tvs tds) (nT := nT) X hs hi hRm hk hsh0 hsh1 e6S e7 rfl (v_wid (by omega) (by omega) (kk _ _ _ _ _ _ _ _ _ _ _ _ _ _ _ _ _ _ _ _ _ _ _ _ _ _ _ _ _ _ _ _ _ _ _ _ _ _ _ _ _ _ _ _ _ _ _ _ _ ⟨nT, m, F, L, S, P, z, K, N, E, tds, h1, rfl, hP, hPe, rfl, rfl, hT, hX, hW, s0, s1, s2, s3, hK⟩))
set_option maxRecDepth 100000 in
set_option maxHeartbeats 4000000 in
theorem L_text {x : VX} {ad : Nat → Nat} {tw : va_W} {b Ls i k n : Nat} {xs : Nat → Int32} {face : Int32} {lamp : Int32} {stove : Int32} {pose : Int32} {rule : Int32} {painters : Int32} {kind : (Nat → Int32)} {number : (Nat → Int32)} {easel : (Nat → Int32)} {had : (Nat → Int32)} {pleased : (Nat → Int32)} {th : Int32 × Int32 × Int32 × Int32 × Int32 × Int32 × (Nat → Int32) × (Nat → Int32) × (Nat → Int32) × (Nat → Int32) × (Nat → Int32)} {kp : Int32 × Int32 × Int32 × Int32 × Int32 × Int32 × (Nat → Int32) × (Nat → Int32) × (Nat → Int32) × (Nat → Int32) × (Nat → Int32)} {ik : Int32} {rd : Int32 × Int32 × Int32 × Int32 × Int32 × Int32 × Int32 × (Nat → Int32) × (Nat → Int32)} {txs : Nat → Option Nat} {tc : Int32} {sg : Int32 × Int32 × Int32 × (Nat → Int32) × (Nat → Int32)} {mo : Int32 × Int32 × Int32} {sh0 : Int32 × Int32 × (Nat → Int32)} {sh1 : Int32 × Int32 × (Nat → Int32)} {sh2 : Int32 × Int32 × (Nat → Int32)} {sh3 : Int32 × Int32 × (Nat → Int32)} {thr : Int32} {tc7 : Int32} {rule7 : Int32} {taped : Int32} {many : Int32} {jk : Int32 × Int32 × Int32 × Int32 × Int32 × Int32 × Int32 × Int32 × Int32 × Int32 × Int32 × Int64 × Int32 × Int32 × Int32} {fw : Int32} {pw : Int32} {manyK : Int32} {ruleK : Int32} {texts : (Nat → Int32)} {textSize : (Nat → Int32)} {tp7 : (Nat → Int32)} {room : (Nat → Int32)} {kinds : (Nat → Int32)} {rows : (Nat → Int32)} {now : (Nat → Int32)} {gained : (Nat → Int32)} {was : (Nat → Int32)} {roomK : (Nat → Int32)} {rowsK : (Nat → Int32)} {iT : (Nat → Int32)} {so : (Nat → Int32)} {ss : (Nat → Int32)} {its : (Nat → Int32)} (X : Cx x cL_law RL 2048) (hs : SCR x b Ls xs) (hi : i + 6 ≤ Ls) (hRm : vxR x = room_1) (hk : k + 3 ≤ 628623 ∧ n + 165 ≤ 7216380) (hWd : ∀ tw : va_W, WordsK (vxD x) (vxT x) (ZT (vxD x) (vxT x) (vxZ x) tw)) (hUn : ∀ tw : va_W, UnderK (ZT (vxD x) (vxT x) (vxZ x) tw))
    (I : INV (vxT x) tw face lamp stove pose rule painters kind number easel had pleased kp ik rd txs tc sh0 sh1 sh2 sh3 tc7 rule7 taped many manyK ruleK texts textSize tp7 room kinds rows roomK rowsK iT so ss its)
    (kk : ∀ (tw' : va_W) (face : Int32) (lamp : Int32) (stove : Int32) (pose : Int32) (rule : Int32) (painters : Int32) (kind : (Nat → Int32)) (number : (Nat → Int32)) (easel : (Nat → Int32)) (had : (Nat → Int32)) (pleased : (Nat → Int32)) (th : Int32 × Int32 × Int32 × Int32 × Int32 × Int32 × (Nat → Int32) × (Nat → Int32) × (Nat → Int32) × (Nat → Int32) × (Nat → Int32)) (kp : Int32 × Int32 × Int32 × Int32 × Int32 × Int32 × (Nat → Int32) × (Nat → Int32) × (Nat → Int32) × (Nat → Int32) × (Nat → Int32)) (ik : Int32) (rd : Int32 × Int32 × Int32 × Int32 × Int32 × Int32 × Int32 × (Nat → Int32) × (Nat → Int32)) (txs : Nat → Option Nat) (tc : Int32) (sg : Int32 × Int32 × Int32 × (Nat → Int32) × (Nat → Int32)) (mo : Int32 × Int32 × Int32) (sh0 : Int32 × Int32 × (Nat → Int32)) (sh1 : Int32 × Int32 × (Nat → Int32)) (sh2 : Int32 × Int32 × (Nat → Int32)) (sh3 : Int32 × Int32 × (Nat → Int32)) (thr : Int32) (tc7 : Int32) (rule7 : Int32) (taped : Int32) (many : Int32) (jk : Int32 × Int32 × Int32 × Int32 × Int32 × Int32 × Int32 × Int32 × Int32 × Int32 × Int32 × Int64 × Int32 × Int32 × Int32) (fw : Int32) (pw : Int32) (manyK : Int32) (ruleK : Int32) (texts : (Nat → Int32)) (textSize : (Nat → Int32)) (tp7 : (Nat → Int32)) (room : (Nat → Int32)) (kinds : (Nat → Int32)) (rows : (Nat → Int32)) (now : (Nat → Int32)) (gained : (Nat → Int32)) (was : (Nat → Int32)) (roomK : (Nat → Int32)) (rowsK : (Nat → Int32)) (iT : (Nat → Int32)) (so : (Nat → Int32)) (ss : (Nat → Int32)) (its : (Nat → Int32)), INV (vxT x) tw' face lamp stove pose rule painters kind number easel had pleased kp ik rd txs tc sh0 sh1 sh2 sh3 tc7 rule7 taped many manyK ruleK texts textSize tp7 room kinds rows roomK rowsK iT so ss its → V x (k + 3) (n + 165) (WL (vxT x) ad face lamp stove pose rule painters kind number easel had pleased th kp ik rd txs tc sg mo sh0 sh1 sh2 sh3 thr tc7 rule7 taped many jk fw pw manyK ruleK texts textSize tp7 room kinds rows now gained was roomK rowsK iT so ss its ++ tw') [(0, .ref b), (1, .ref (ad 0)), (2, .ref (ad 36)), (3, .int (nI i))] 1062 []) :
    V x k n (WL (vxT x) ad face lamp stove pose rule painters kind number easel had pleased th kp ik rd txs tc sg mo sh0 sh1 sh2 sh3 thr tc7 rule7 taped many jk fw pw manyK ruleK texts textSize tp7 room kinds rows now gained was roomK rowsK iT so ss its ++ tw) [(0, .ref b), (1, .ref (ad 0)), (2, .ref (ad 36)), (3, .int (nI i))] 294 [] := by
  obtain ⟨nT, m, F, L, S, P, z, K, N, E, tds, h1, rfl, hP, hPe, rfl, rfl, hT, hX, hW, s0, s1, s2, s3, hK⟩ := I
  have hn6 : nT ≤ 6 := h1.2.2.2.2.1
  have hCx := CTx_of (D := vxD x) X.2.2.2.2.2.2.2.1 hn6 hX hW
  have hTx := RTx_of hn6 hX
  obtain ⟨a, bb, ends, nT', size', fa', at', tok', tA', val', csz', code', taped', fr', sz', hh', tk', tA7', tw', op', bad', fl', textSize', texts', z', e6, e7, hT2, hor⟩ := A_text (fa := rd.2.1) (at0 := rd.2.2.1) (tok := rd.2.2.2.1) (tA := rd.2.2.2.2.1) (val := rd.2.2.2.2.2.1) (csz := rd.2.2.2.2.2.2.1) (code := rd.2.2.2.2.2.2.2.2) (oa := jk.1) (ob := jk.2.1) (oc := jk.2.2.1) (od := jk.2.2.2.1) (oe := jk.2.2.2.2.1) (og := jk.2.2.2.2.2.1) (fr := jk.2.2.2.2.2.2.1) (sz := jk.2.2.2.2.2.2.2.1) (hh := jk.2.2.2.2.2.2.2.2.1) (tk := jk.2.2.2.2.2.2.2.2.2.1) (tA7 := jk.2.2.2.2.2.2.2.2.2.2.1) (op := jk.2.2.2.2.2.2.2.2.2.2.2.2.1) (bad := jk.2.2.2.2.2.2.2.2.2.2.2.2.2.1) (fl := jk.2.2.2.2.2.2.2.2.2.2.2.2.2.2) (tw := jk.2.2.2.2.2.2.2.2.2.2.2.1) hn6 hT hX
  refine M_text X hs hi hRm hk (hWd tw) e6 e7 rfl (fun hb => ?_) (fun hb qt qc qe => ?_)
  · rcases hor with ⟨_, hne, hX2⟩ | ⟨hb1, _⟩
    · have hne2 := hne.symm
      subst hne2
      exact (kk _ _ _ _ _ _ _ _ _ _ _ _ _ _ _ _ _ _ _ _ _ _ _ _ _ _ _ _ _ _ _ _ _ _ _ _ _ _ _ _ _ _ _ _ _ _ _ _ _ ⟨nT, m, F, L, S, P, z', K, N, E, tds, h1, rfl, hP, hPe, rfl, rfl, hT2, hX2, hW, s0, s1, s2, s3, hK⟩)
    · exact absurd (hb1.symm.trans hb) (by decide)
  · rcases hor with ⟨hb1, _⟩ | ⟨_, hlt, rfl, cs, rfl, hX2, hX3⟩
    · exact absurd (hb1.symm.trans hb) (by decide)
    · have hcl : (nI cs).toNatClampNeg = cs := by have := (TX_all hlt hX3 (fun _ => 0)).1; exact cl_nI (by simp only at this; omega)
      have hcn : (nI nT).toNatClampNeg = nT := cl_nI (by omega)
      refine kk _ _ _ _ _ _ _ _ _ _ _ _ _ _ _ _ _ _ _ _ _ _ _ _ _ _ _ _ _ _ _ _ _ _ _ _ _ _ _ _ _ _ _ _ _ _ _ _ _ ⟨nT + 1, m, F, L, S, P, z', K, N, E, (fun j => if j = nT then (code', ends, cs) else tds j), RG_up h1 hlt, rfl, hP, hPe, rfl, rfl, hT2, fun t ht => ?_, ?_, s0, s1, s2, s3, KPT_up hK hlt⟩
      · dsimp only
        rcases Nat.lt_or_ge t nT with h5 | h5
        · rw [if_neg (by omega)]; exact hX2 t h5
        · obtain rfl : t = nT := by omega
          rw [if_pos rfl]; exact hX3
      · simp only [hcl, hcn]
        exact TXW_add hW
