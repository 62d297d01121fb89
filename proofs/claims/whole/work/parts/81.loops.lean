section
variable {z FR : Nat} {tape texts nv : Nat → Int32} {k D : Nat} {A : AF}
theorem SIM_sum (L : LX z FR tape texts) {rE rO : RF} (hF : SIM z FR tape texts nv k D (fun l1 sz fa a tok tA val cs tp cd => f_X1_readTerm l1 sz fa a tok tA val cs tp cd rE rO) A) :
    SIM z FR tape texts nv k (D + 1) (fun l1 sz fa a tok tA val cs tp cd => f_X1_readSum l1 sz fa a tok tA val cs tp cd rE rO) (g7_added A) := by
  refine SIM_loop (S := fun tok => tok = 43 ∨ tok = 45) (op := fun tok => if tok = 43 then -14 else -15) (u := fun tok x y => if tok = 43 then x + y else x - y) (Cb := f_X1_readSum_8 (nI z) tape rE rO (nI k)) (Rb := g7_added_5 A (nv 0) (nv 1) (nv 2) (nv 3) (nv 4) (nv 5) (nI FR) (nI z) texts) L hF (by rintro _ (rfl | rfl) <;> decide) (by rintro _ (rfl | rfl) <;> exact ⟨by decide, by decide, by decide, fun x y => rfl⟩) ?_ ?_ ?_ ?_ ?_ ?_ (fun _ _ _ _ _ _ _ => rfl) (fun _ _ _ _ _ _ => rfl)
  · intro kp l3 fa a tok tA val cs code h
    simp only [not_or] at h
    unfold f_X1_readSum_8
    by_cases h3 : (160 : Int32) ≤ l3
    · rw [if_pos h3, if_pos (by decide)]
    · rw [if_neg h3, if_neg (by decide), if_neg h.1, if_neg h.2, if_pos (by decide)]
  · intro kp l3 fa a tok tA val cs code
    unfold f_X1_readSum_8
    by_cases h3 : (160 : Int32) ≤ l3
    · rw [if_pos h3, if_pos (by decide)]
    · rw [if_neg h3, if_pos rfl, if_pos (by decide)]
  · intro kp c fa a tok tA val cs code n r hc hs hn hr
    have hx : f_X1_readSum_8 (nI z) tape rE rO (nI k) kp 1 (nI c) fa a tok tA val cs code = f_X1_readSum_53 kp (nI z) fa a val cs tape code rE rO (nI k) (nI c) (if tok = 43 then -14 else -15) := by
      unfold f_X1_readSum_8 f_X1_readSum_37
      rw [if_neg (by rw [show (160 : Int32) = nI 160 from rfl, le_nI] <;> omega), if_neg (by decide)]
      rcases hs with rfl | rfl
      · rw [if_pos rfl, if_pos rfl, if_pos rfl]
      · rw [if_neg (by decide), if_pos rfl, if_neg (by decide), if_neg (by decide)]
    rw [hx]
    unfold f_X1_readSum_53
    rw [hn, Option.bind_some]
    refine ⟨fun h0 => ?_, fun cs1 h1 h2 h3 => ?_⟩
    · erw [hr]; rw [Option.bind_some, if_pos h0, nI_1]
    · erw [hr]; rw [Option.bind_some, if_neg (by rw [h1]; decide), h2, put1 h3, Option.bind_some, if_neg (show ¬ (1 : Int32) = 0 by decide), nI_1]
  · intro kp v t e tok val hh tok7 worth o fl T h
    simp only [not_or] at h
    unfold g7_added_5
    rw [TK_sign T (by unfold Sgn; decide), if_neg h.1, Option.bind_some, if_pos rfl, TK_sign T (by unfold Sgn; decide), if_neg h.2, Option.bind_some, if_pos rfl]
  · intro kp v hh tok7 tA worth o fl
    unfold g7_added_5 f_X7_isSign
    rw [if_neg (by decide), Option.bind_some, if_pos rfl, if_neg (by decide), Option.bind_some, if_pos rfl]
  · intro kp v t e tok val hh tok7 worth fl n r T h hn hr
    have hw : worth = tok.toInt64 := by
      obtain ⟨_, _, T⟩ := T
      rcases T with ⟨_, h1, h2, _⟩ | ⟨_, h1, h2, h3, _⟩ | ⟨_, h1, h2, _⟩ | ⟨_, h2, _, j, hj, h1, _⟩ | ⟨h1, h2, _⟩
      · rcases h with rfl | rfl <;> exact absurd h1 (by decide)
      · exact h3
      · rcases h with rfl | rfl <;> exact absurd h1 (by decide)
      · have := (wK_ge j hj).1; rw [← h1] at this; rcases h with rfl | rfl <;> exact absurd this (by decide)
      · rcases h with rfl | rfl <;> exact absurd h1 (by decide)
    have hx : g7_added_5 A (nv 0) (nv 1) (nv 2) (nv 3) (nv 4) (nv 5) (nI FR) (nI z) texts kp v hh tok7 (nI t) worth (nI k) 0 fl = g7_added_39 A kp (nv 0) (nv 1) (nv 2) (nv 3) (nv 4) (nv 5) (nI FR) (nI z) hh worth (nI k) 0 fl texts v (if tok = 43 then 1 else 0) := by
      have s1 := TK_sign T (s := 43) (by unfold Sgn; decide)
      have s2 := TK_sign T (s := 45) (by unfold Sgn; decide)
      unfold g7_added_5 g7_added_23
      rcases h with rfl | rfl
      · rw [s1, if_pos rfl, Option.bind_some, if_neg (by decide), hw, if_pos (by decide)]
      · rw [s1, if_neg (by decide), Option.bind_some, if_pos rfl, s2, if_pos rfl, Option.bind_some, if_neg (by decide), hw, if_neg (by decide)]
    rw [hx]
    unfold g7_added_39
    rw [hn, Option.bind_some, hr, Option.bind_some]
    rcases h with rfl | rfl
    · rw [if_neg (show ¬ (if (43 : Int32) = 43 then (1 : Int32) else 0) = 0 by decide)]; rfl
    · rw [if_pos (show (if (45 : Int32) = 43 then (1 : Int32) else 0) = 0 by decide)]; rfl
theorem SIM_both (L : LX z FR tape texts) {rE rO rN : RF} (hF : SIM z FR tape texts nv k D (fun l1 sz fa a tok tA val cs tp cd => f_X1_readNot l1 sz fa a tok tA val cs tp cd rE rO rN) A) :
    SIM z FR tape texts nv k (D + 1) (fun l1 sz fa a tok tA val cs tp cd => f_X1_readBoth l1 sz fa a tok tA val cs tp cd rE rO rN) (g7_both A) := by
  refine SIM_loop (S := fun tok => tok = 264) (op := fun _ => -11) (u := fun _ x y => if x = 0 then 0 else if y = 0 then 0 else 1) (Cb := f_X1_readBoth_8 (nI z) tape rE rO rN (nI k)) (Rb := g7_both_5 A (nv 0) (nv 1) (nv 2) (nv 3) (nv 4) (nv 5) (nI FR) (nI z) texts) L hF (by rintro _ rfl; decide) (by rintro _ rfl; refine ⟨by decide, by decide, by decide, fun x y => ?_⟩; unfold f_X5_joined; rw [if_neg (by decide), if_neg (by decide), if_neg (by decide), if_neg (by decide), if_neg (by decide), if_neg (by decide), if_neg (by decide), if_pos rfl]; (repeat' split) <;> rfl) ?_ ?_ ?_ ?_ ?_ ?_ (fun _ _ _ _ _ _ _ => rfl) (fun _ _ _ _ _ _ => rfl)
  · intro kp l3 fa a tok tA val cs code h
    unfold f_X1_readBoth_8
    by_cases h3 : (160 : Int32) ≤ l3
    · rw [if_pos h3, if_pos (by decide)]
    · rw [if_neg h3, if_neg (by decide), if_neg h, if_pos (by decide)]
  · intro kp l3 fa a tok tA val cs code
    unfold f_X1_readBoth_8
    by_cases h3 : (160 : Int32) ≤ l3
    · rw [if_pos h3, if_pos (by decide)]
    · rw [if_neg h3, if_pos rfl, if_pos (by decide)]
  · intro kp c fa a tok tA val cs code n r hc hs hn hr
    unfold f_X1_readBoth_8
    rw [if_neg (by rw [show (160 : Int32) = nI 160 from rfl, le_nI] <;> omega), if_neg (by decide), if_pos hs, hn, Option.bind_some]
    refine ⟨fun h0 => ?_, fun cs1 h1 h2 h3 => ?_⟩
    · erw [hr]; rw [Option.bind_some, if_pos h0, nI_1]
    · erw [hr]; rw [Option.bind_some, if_neg (by rw [h1]; decide), h2, put1 h3, Option.bind_some, if_neg (show ¬ (1 : Int32) = 0 by decide), nI_1]
  · intro kp v t e tok val hh tok7 worth o fl T h
    have w : f_X7_isWord 97 110 100 0 0 0 0 0 (nI FR) (nI z) hh tok7 (nI t) 0 texts = some (if tok = 264 then 1 else 0) := TK_word T (i := 4) (by decide)
    unfold g7_both_5
    rw [w, if_neg h, Option.bind_some, if_pos rfl]
  · intro kp v hh tok7 tA worth o fl
    unfold g7_both_5 f_X7_isWord
    rw [if_neg (by decide), Option.bind_some, if_pos rfl]
  · intro kp v t e tok val hh tok7 worth fl n r T h hn hr
    have w : f_X7_isWord 97 110 100 0 0 0 0 0 (nI FR) (nI z) hh tok7 (nI t) 0 texts = some (if tok = 264 then 1 else 0) := TK_word T (i := 4) (by decide)
    unfold g7_both_5
    rw [w, if_pos h, Option.bind_some, if_neg (by decide), hn, Option.bind_some, hr, Option.bind_some]
    by_cases h1 : v = 0
    · rw [if_pos h1, if_pos h1]
    · rw [if_neg h1, if_neg h1]
      by_cases h2 : r.1 = 0
      · rw [if_pos h2, if_pos h2]
      · rw [if_neg h2, if_neg h2]
theorem SIM_either (L : LX z FR tape texts) {rE rO rN : RF} (hF : SIM z FR tape texts nv k D (fun l1 sz fa a tok tA val cs tp cd => f_X1_readBoth l1 sz fa a tok tA val cs tp cd rE rO rN) A) :
    SIM z FR tape texts nv k (D + 1) (fun l1 sz fa a tok tA val cs tp cd => f_X1_readEither l1 sz fa a tok tA val cs tp cd rE rO rN) (g7_either A) := by
  refine SIM_loop (S := fun tok => tok = 263) (op := fun _ => -10) (u := fun _ x y => if x = 0 then (if y = 0 then 0 else 1) else 1) (Cb := f_X1_readEither_8 (nI z) tape rE rO rN (nI k)) (Rb := g7_either_5 A (nv 0) (nv 1) (nv 2) (nv 3) (nv 4) (nv 5) (nI FR) (nI z) texts) L hF (by rintro _ rfl; decide) (by rintro _ rfl; refine ⟨by decide, by decide, by decide, fun x y => ?_⟩; unfold f_X5_joined; rw [if_neg (by decide), if_neg (by decide), if_neg (by decide), if_neg (by decide), if_neg (by decide), if_neg (by decide), if_neg (by decide), if_neg (by decide), if_pos rfl]; (repeat' split) <;> rfl) ?_ ?_ ?_ ?_ ?_ ?_ (fun _ _ _ _ _ _ _ => rfl) (fun _ _ _ _ _ _ => rfl)
  · intro kp l3 fa a tok tA val cs code h
    unfold f_X1_readEither_8
    by_cases h3 : (160 : Int32) ≤ l3
    · rw [if_pos h3, if_pos (by decide)]
    · rw [if_neg h3, if_neg (by decide), if_neg h, if_pos (by decide)]
  · intro kp l3 fa a tok tA val cs code
    unfold f_X1_readEither_8
    by_cases h3 : (160 : Int32) ≤ l3
    · rw [if_pos h3, if_pos (by decide)]
    · rw [if_neg h3, if_pos rfl, if_pos (by decide)]
  · intro kp c fa a tok tA val cs code n r hc hs hn hr
    unfold f_X1_readEither_8
    rw [if_neg (by rw [show (160 : Int32) = nI 160 from rfl, le_nI] <;> omega), if_neg (by decide), if_pos hs, hn, Option.bind_some]
    refine ⟨fun h0 => ?_, fun cs1 h1 h2 h3 => ?_⟩
    · erw [hr]; rw [Option.bind_some, if_pos h0, nI_1]
    · erw [hr]; rw [Option.bind_some, if_neg (by rw [h1]; decide), h2, put1 h3, Option.bind_some, if_neg (show ¬ (1 : Int32) = 0 by decide), nI_1]
  · intro kp v t e tok val hh tok7 worth o fl T h
    have w : f_X7_isWord 111 114 0 0 0 0 0 0 (nI FR) (nI z) hh tok7 (nI t) 0 texts = some (if tok = 263 then 1 else 0) := TK_word T (i := 3) (by decide)
    unfold g7_either_5
    rw [w, if_neg h, Option.bind_some, if_pos rfl]
  · intro kp v hh tok7 tA worth o fl
    unfold g7_either_5 f_X7_isWord
    rw [if_neg (by decide), Option.bind_some, if_pos rfl]
  · intro kp v t e tok val hh tok7 worth fl n r T h hn hr
    have w : f_X7_isWord 111 114 0 0 0 0 0 0 (nI FR) (nI z) hh tok7 (nI t) 0 texts = some (if tok = 263 then 1 else 0) := TK_word T (i := 3) (by decide)
    unfold g7_either_5
    rw [w, if_pos h, Option.bind_some, if_neg (by decide), hn, Option.bind_some, hr, Option.bind_some]
    by_cases h1 : v = 0
    · rw [if_pos h1, if_pos h1]
      by_cases h2 : r.1 = 0
      · rw [if_pos h2, if_pos h2]
      · rw [if_neg h2, if_neg h2]
    · rw [if_neg h1, if_neg h1]
end
