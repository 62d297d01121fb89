/-! ## the next token, on both sides -/
def isW (z FR : Nat) (texts : Nat → Int32) (j : Nat) (hh tA : Int32) : Option Int32 := f_X7_isWord (wL j 0) (wL j 1) (wL j 2) (wL j 3) (wL j 4) (wL j 5) (wL j 6) (wL j 7) (nI FR) (nI z) hh 1 tA 0 texts
/-- the token at t, read up to e: the class's (tok, val), the reference's (hh, tok7, worth) -/
def TK (z FR : Nat) (texts : Nat → Int32) (t e : Nat) (tok val hh tok7 : Int32) (worth : Int64) : Prop :=
  t ≤ e ∧ e ≤ z ∧ (
    (t = z ∧ tok = 256 ∧ tok7 = 0 ∧ hh = nI e)
    ∨ (t < e ∧ Sgn tok ∧ tok7 = 3 ∧ worth = tok.toInt64 ∧ hh = nI e)
    ∨ (t < e ∧ tok = 258 ∧ tok7 = 2 ∧ worth.toInt32 = val ∧ 0 ≤ val.toInt ∧ hh = nI e)
    ∨ (t < e ∧ tok7 = 1 ∧ hh = nI e ∧ ∃ j, j ≤ 12 ∧ tok = wK j ∧ (j < 12 → val = wV j) ∧ ∀ i, i < 12 → isW z FR texts i hh (nI t) = some (bz (decide (j = i))))
    ∨ (tok = 257 ∧ tok7 = 4 ∧ t < z))
/-- the word that stands from t to e, of the first i -/
def SS (tape : Nat → Int32) (t e : Nat) (v0 : Int32) (i : Nat) (r : Int32 × Int32) : Prop :=
  (∃ j, j < i ∧ WDP tape t e (wN j) (chT (wS j)) ∧ r = (wK j, wV j)) ∨ ((∀ j, j < i → ¬ WDP tape t e (wN j) (chT (wS j))) ∧ r = (257, v0))
section
variable {z FR : Nat} {tape texts : Nat → Int32}
theorem mb_step {t e : Nat} {v0 : Int32} (j : Nat) (hj : j < 12) {R : Type} {f : Int32 × Int32 → Option R} {G : Option R → Prop} {tok val : Int32} (he : t ≤ e) (hz : e ≤ 160) (S : SS tape t e v0 j (tok, val)) (h : ∀ r, SS tape t e v0 (j + 1) r → G (f r)) :
    G ((f_X1_mayBe (wK j) (wV j) (nI e) tok (nI t) val tape (wN j) (chT (wS j))).bind f) := by
  rw [mayBe1 he hz (wN_8 j hj).1, Option.bind_some]
  refine h _ ?_
  by_cases hq : WDP tape t e (wN j) (chT (wS j))
  · rw [if_pos hq]; exact Or.inl ⟨j, by omega, hq, rfl⟩
  · rw [if_neg hq]
    rcases S with ⟨i, h1, h2, h3⟩ | ⟨h1, h2⟩
    · exact Or.inl ⟨i, by omega, h2, h3⟩
    · refine Or.inr ⟨fun i hi => ?_, h2⟩
      rcases Nat.lt_or_ge i j with h5 | h5
      · exact h1 i h5
      · obtain rfl : i = j := by omega
        exact hq
theorem nextWord51 {t e : Nat} {v0 : Int32} (he : t ≤ e) (hz : e ≤ 160) : ∃ tok val, f_X1_nextWord_51 (nI e) (nI t) v0 tape = some (nI e, tok, val) ∧ SS tape t e v0 12 (tok, val) := by
  unfold f_X1_nextWord_51
  refine mb_step (G := fun x => ∃ tok val, x = some (nI e, tok, val) ∧ SS tape t e v0 12 (tok, val)) 0 (by decide) he hz (Or.inr ⟨fun i hi => by omega, rfl⟩) (fun r0 s0 => ?_)
  refine mb_step (G := fun x => ∃ tok val, x = some (nI e, tok, val) ∧ SS tape t e v0 12 (tok, val)) 1 (by decide) he hz s0 (fun r1 s1 => ?_)
  refine mb_step (G := fun x => ∃ tok val, x = some (nI e, tok, val) ∧ SS tape t e v0 12 (tok, val)) 2 (by decide) he hz s1 (fun r2 s2 => ?_)
  refine mb_step (G := fun x => ∃ tok val, x = some (nI e, tok, val) ∧ SS tape t e v0 12 (tok, val)) 3 (by decide) he hz s2 (fun r3 s3 => ?_)
  refine mb_step (G := fun x => ∃ tok val, x = some (nI e, tok, val) ∧ SS tape t e v0 12 (tok, val)) 4 (by decide) he hz s3 (fun r4 s4 => ?_)
  refine mb_step (G := fun x => ∃ tok val, x = some (nI e, tok, val) ∧ SS tape t e v0 12 (tok, val)) 5 (by decide) he hz s4 (fun r5 s5 => ?_)
  refine mb_step (G := fun x => ∃ tok val, x = some (nI e, tok, val) ∧ SS tape t e v0 12 (tok, val)) 6 (by decide) he hz s5 (fun r6 s6 => ?_)
  refine mb_step (G := fun x => ∃ tok val, x = some (nI e, tok, val) ∧ SS tape t e v0 12 (tok, val)) 7 (by decide) he hz s6 (fun r7 s7 => ?_)
  refine mb_step (G := fun x => ∃ tok val, x = some (nI e, tok, val) ∧ SS tape t e v0 12 (tok, val)) 8 (by decide) he hz s7 (fun r8 s8 => ?_)
  refine mb_step (G := fun x => ∃ tok val, x = some (nI e, tok, val) ∧ SS tape t e v0 12 (tok, val)) 9 (by decide) he hz s8 (fun r9 s9 => ?_)
  refine mb_step (G := fun x => ∃ tok val, x = some (nI e, tok, val) ∧ SS tape t e v0 12 (tok, val)) 10 (by decide) he hz s9 (fun r10 s10 => ?_)
  refine mb_step (G := fun x => ∃ tok val, x = some (nI e, tok, val) ∧ SS tape t e v0 12 (tok, val)) 11 (by decide) he hz s10 (fun r11 s11 => ?_)
  exact ⟨r11.1, r11.2, rfl, s11⟩
/-- blanks, the reference -/
theorem skip7 (L : LX z FR tape texts) {q : Nat} {w : Int64} : ∀ (k p fu : Nat), p + k = q → RUN z tape Blk p q → k < fu → lq1 (f_X7_next_0 (nI FR) (nI z) w texts) fu (nI p) = f_X7_next_0 (nI FR) (nI z) w texts (fun _ => none) (nI q) := by
  intro k
  induction k with
  | zero =>
    intro p fu h1 h2 h4
    obtain ⟨fu, rfl⟩ : ∃ g, fu = g + 1 := ⟨fu - 1, by omega⟩
    show f_X7_next_0 _ _ _ _ (lq1 _ fu) (nI p) = _
    generalize lq1 (f_X7_next_0 (nI FR) (nI z) w texts) fu = kp
    obtain rfl : p = q := by omega
    unfold f_X7_next_0
    have := h2.h2
    rcases Nat.lt_or_ge p z with hp | hp
    · obtain ⟨g1, g2⟩ := isBlk0 (h2.h4 hp)
      simp only [byteAt7 L hp, Option.bind_some, if_neg g1, if_neg g2]
    · obtain rfl : p = z := by omega
      simp only [byteAtZ L, Option.bind_some, if_neg (show ¬ (-1 : Int32) = 32 by decide), if_neg (show ¬ (-1 : Int32) = 10 by decide)]
  | succ k ih =>
    intro p fu h1 h2 h4
    obtain ⟨fu, rfl⟩ : ∃ g, fu = g + 1 := ⟨fu - 1, by omega⟩
    show f_X7_next_0 _ _ _ _ (lq1 _ fu) (nI p) = _
    have ih' := ih (p + 1) fu (by omega) ⟨by omega, h2.h2, fun i a b => h2.h3 i (by omega) b, h2.h4⟩ (by omega)
    generalize lq1 (f_X7_next_0 (nI FR) (nI z) w texts) fu = kp at ih' ⊢
    have := h2.h2
    have hb := h2.h3 p (by omega) (by omega)
    rw [← ih']
    conv => lhs; unfold f_X7_next_0
    rw [byteAt7 L (by omega), Option.bind_some, nI_1]
    by_cases h5 : tape p = 32
    · rw [if_pos h5]
    · rw [if_neg h5, Option.bind_some, if_pos (hb.resolve_left h5)]
theorem sub_nI {a b : Nat} (h : b ≤ a) (ha : a < 1000) : nI a - nI b = nI (a - b) := by
  refine iext ?_
  rw [sub_i] <;> rw [nI_toInt (by omega), nI_toInt (by omega)] <;> (try rw [nI_toInt (by omega)]) <;> omega
theorem Ltr_nB {b : Int32} (h : Sgn b) : ¬ Ltr b ∧ ¬ Dgt b := by
  unfold Ltr Dgt
  rcases h with rfl | rfl | rfl | rfl | rfl | rfl | rfl | rfl <;> decide
set_option maxHeartbeats 2000000 in
theorem TK_next (L : LX z FR tape texts) {p : Nat} (hp : p ≤ z) (val : Int32) (worth : Int64) : ∃ (t e : Nat) (tok val' hh tok7 : Int32) (worth' : Int64),
    p ≤ t ∧ f_X1_next (nI z) (nI p) val tape = some (nI e, tok, nI t, val') ∧ f_X7_next (nI FR) (nI z) (nI p) worth texts = some (hh, tok7, nI t, worth') ∧ TK z FR texts t e tok val' hh tok7 worth' := by
  have hz := L.hz
  obtain ⟨q, hq⟩ := RUN_ex z tape Blk (z - p) p (by omega)
  have hq1 := hq.h1; have hq2 := hq.h2
  have c1 : f_X1_next (nI z) (nI p) val tape = f_X1_next_64 (nI z) (nI q) val tape := skip1 hz (q - p) 0 p 200 (by omega) hq (by omega) (by omega)
  have c7 : f_X7_next (nI FR) (nI z) (nI p) worth texts = f_X7_next_0 (nI FR) (nI z) worth texts (fun _ => none) (nI q) := skip7 L (q - p) p 200 (by omega) hq (by omega)
  rw [c1, c7]
  rcases Nat.lt_or_ge q z with hz2 | hz2
  · obtain ⟨g1, g2⟩ := isBlk0 (hq.h4 hz2)
    have hb := (L.hb q hz2).1
    have d7 : ∀ X : Option (Int32 × Int32 × Int32 × Int64), f_X7_next_0 (nI FR) (nI z) worth texts (fun _ => none) (nI q) = X → f_X7_next_0 (nI FR) (nI z) worth texts (fun _ => none) (nI q) = X := fun _ h => h
    by_cases hL : Ltr (tape q)
    · obtain ⟨e, he⟩ := RUN_ex z tape Ltr (z - q) q (by omega)
      have he1 := he.h1; have he2 := he.h2
      have hqe : q < e := by
        rcases Nat.lt_or_ge q e with h | h
        · exact h
        · obtain rfl : e = q := by omega
          exact absurd hL (he.h4 hz2)
      obtain ⟨tok, val', w1, w2⟩ := nextWord51 (tape := tape) (t := q) (e := e) (v0 := val) he1 (by omega)
      have w0 : f_X1_nextWord (nI z) (nI q) (nI q) val tape = some (nI e, tok, val') := by
        rw [← w1]; exact run1 hz (e - q) 0 q 200 (by omega) he (by omega) (by omega)
      refine ⟨q, e, tok, val', nI e, 1, worth, hq1, ?_, ?_, he1, he2, Or.inr (Or.inr (Or.inr (Or.inl ⟨hqe, rfl, rfl, ?_⟩)))⟩
      · unfold f_X1_next_64
        rw [if_pos (by rw [nI_ltI (by omega) (by omega)]; exact hz2), if_pos (inb_nI (by omega) (by decide)), cl_nI (by omega), isLt1 hL, Option.bind_some, if_neg (by decide), w0, Option.bind_some]
      · unfold f_X7_next_0
        rw [byteAt7 L hz2, Option.bind_some, if_neg g1, Option.bind_some, if_neg g2, Option.bind_some, if_pos (by rw [le_i, i0]; exact hb), inLt1 hL, Option.bind_some, if_neg (by decide)]
        exact run7 L (e - q) q 200 (by omega) he (by omega)
      · have iw : ∀ i, i < 12 → isW z FR texts i (nI e) (nI q) = some (bz (decide (WDP tape q e (wN i) (chT (wS i))))) := by
          intro i hi
          unfold isW
          refine isWord7 L he2 he1 he.h3 (wN_8 i hi).1 (fun k hk => ⟨wL_S i hi k hk, ?_⟩) (fun k hk h8 => wL_0 i hi k h8 hk)
          rw [← wL_S i hi k hk]; exact wL_n i hi k hk
        rcases w2 with ⟨j, j1, j2, j3⟩ | ⟨j1, j2⟩
        · obtain ⟨rfl, rfl⟩ := Prod.mk.inj j3
          refine ⟨j, by omega, rfl, fun _ => rfl, fun i hi => ?_⟩
          rw [iw i hi]
          by_cases hij : j = i
          · subst hij; rw [bz_t (decide_eq_true j2), bz_t (decide_eq_true rfl)]
          · rw [bz_f (decide_eq_false hij), bz_f]
            refine decide_eq_false (fun w => hij (w_one j j1 i hi ?_ ?_))
            · have := j2.1; have := w.1; omega
            · have a1 := wN_8 j j1; have a2 := wN_8 i hi
              rw [wL_S j j1 0 a1.2, wL_S i hi 0 a2.2, ← j2.2 0 a1.2, ← w.2 0 a2.2]
        · obtain ⟨rfl, rfl⟩ := Prod.mk.inj j2
          refine ⟨12, by omega, rfl, fun h => by omega, fun i hi => ?_⟩
          rw [iw i hi, bz_f (decide_eq_false (j1 i hi)), bz_f (decide_eq_false (by omega))]
    · by_cases hD : Dgt (tape q)
      · obtain ⟨e, he⟩ := RUN_ex z tape Dgt (z - q) q (by omega)
        have he1 := he.h1; have he2 := he.h2
        have hqe : q < e := by
          rcases Nat.lt_or_ge q e with h | h
          · exact h
          · obtain rfl : e = q := by omega
            exact absurd hD (he.h4 hz2)
        have n1 := dig1 (tape := tape) hz (t := q) (q := e) (e - q) 0 q 200 (by omega) he (by omega) (by omega) (by omega)
        have n7 := dig7 L (t := q) (q := e) (tA := nI q) (e - q) q 200 (by omega) he (by omega) (by omega)
        rw [Nat.sub_self] at n1 n7
        have n1' : f_X1_nextNumber (nI z) (nI q) (nI q) tape = f_X1_nextNumber_87 (nI e) 258 (nI q) (dv1 tape q (e - q)) := n1
        have d1 : f_X1_next_64 (nI z) (nI q) val tape = (f_X1_nextNumber_87 (nI e) 258 (nI q) (dv1 tape q (e - q))).bind (fun v131_4 => some (v131_4.1, v131_4.2.1, nI q, v131_4.2.2)) := by
          unfold f_X1_next_64
          rw [if_pos (by rw [nI_ltI (by omega) (by omega)]; exact hz2), if_pos (inb_nI (by omega) (by decide)), cl_nI (by omega), isLt0 hL, Option.bind_some, if_pos rfl, if_pos (inb_nI (by omega) (by decide)), isDg1 hD, Option.bind_some, if_neg (by decide), n1']
        have e7 : f_X7_next_0 (nI FR) (nI z) worth texts (fun _ => none) (nI q) = some (nI e, if e - q ≤ 4 then 2 else 4, nI q, dv7 tape q (e - q)) := by
          unfold f_X7_next_0
          rw [byteAt7 L hz2, Option.bind_some, if_neg g1, Option.bind_some, if_neg g2, Option.bind_some, if_pos (by rw [le_i, i0]; exact hb), inLt0 hL, Option.bind_some, if_pos rfl, inDg1 hD, Option.bind_some, if_neg (by decide)]
          exact n7
        rw [d1, e7]
        unfold f_X1_nextNumber_87
        rw [sub_nI he1 (by omega)]
        by_cases h4 : e - q ≤ 4
        · rw [if_pos (by rw [show (4 : Int32) = nI 4 from rfl, le_nI] <;> omega), if_pos h4]
          exact ⟨q, e, 258, _, nI e, 2, _, hq1, rfl, rfl, he1, he2, Or.inr (Or.inr (Or.inl ⟨hqe, rfl, rfl, dv17 _ h4, (dv1_bd he (e - q) h4 (by omega)).1, rfl⟩))⟩
        · rw [if_neg (by rw [show (4 : Int32) = nI 4 from rfl, le_nI] <;> omega), if_neg h4]
          exact ⟨q, e, 257, _, nI e, 4, _, hq1, rfl, rfl, he1, he2, Or.inr (Or.inr (Or.inr (Or.inr ⟨rfl, rfl, hz2⟩)))⟩
      · have d1 : f_X1_next_64 (nI z) (nI q) val tape = (f_X1_isSign (tape q)).bind (fun v147_3 => if v147_3 = 0 then some (nI q + 1, 257, nI q, val) else if inb (nI q) 160 = true then some (nI q + 1, tape q, nI q, val) else none) := by
          unfold f_X1_next_64
          rw [if_pos (by rw [nI_ltI (by omega) (by omega)]; exact hz2), if_pos (inb_nI (by omega) (by decide)), cl_nI (by omega), isLt0 hL, Option.bind_some, if_pos rfl, if_pos (inb_nI (by omega) (by decide)), isDg0 hD, Option.bind_some, if_pos rfl, if_pos (inb_nI (by omega) (by decide))]
        by_cases hS : Sgn (tape q)
        · refine ⟨q, q + 1, tape q, val, nI (q + 1), 3, (tape q).toInt64, hq1, ?_, ?_, by omega, by omega, Or.inr (Or.inl ⟨by omega, hS, rfl, rfl, rfl⟩)⟩
          · rw [d1, isSg1 hS, Option.bind_some, if_neg (by decide), if_pos (inb_nI (by omega) (by decide)), nI_1]
          · unfold f_X7_next_0
            rw [byteAt7 L hz2, Option.bind_some, if_neg g1, Option.bind_some, if_neg g2, Option.bind_some, if_pos (by rw [le_i, i0]; exact hb), inLt0 hL, Option.bind_some, if_pos rfl, inDg0 hD, Option.bind_some, if_pos rfl]
            unfold f_X7_next_300
            rw [nI_1]
            rcases hS with h | h | h | h | h | h | h | h
            · rw [if_pos h]
            · rw [if_pos h]; split <;> rfl
            all_goals (repeat' split) <;> first | rfl | (exfalso; simp_all)
        · refine ⟨q, q + 1, 257, val, nI q, 4, worth, hq1, ?_, ?_, by omega, by omega, Or.inr (Or.inr (Or.inr (Or.inr ⟨rfl, rfl, hz2⟩)))⟩
          · rw [d1, isSg0 hS, Option.bind_some, if_pos rfl, nI_1]
          · unfold f_X7_next_0
            rw [byteAt7 L hz2, Option.bind_some, if_neg g1, Option.bind_some, if_neg g2, Option.bind_some, if_pos (by rw [le_i, i0]; exact hb), inLt0 hL, Option.bind_some, if_pos rfl, inDg0 hD, Option.bind_some, if_pos rfl]
            unfold Sgn at hS
            simp only [not_or] at hS
            rw [if_neg hS.1, if_neg hS.2.1, if_neg hS.2.2.1, if_neg hS.2.2.2.1, if_neg hS.2.2.2.2.1, if_neg hS.2.2.2.2.2.1, if_neg hS.2.2.2.2.2.2.1, if_neg hS.2.2.2.2.2.2.2]
  · obtain rfl : q = z := by omega
    refine ⟨q, q, 256, val, nI q, 0, worth, hq1, ?_, ?_, by omega, by omega, Or.inl ⟨rfl, rfl, rfl, rfl⟩⟩
    · unfold f_X1_next_64
      rw [if_neg (by rw [nI_ltI (by omega) (by omega)]; omega)]
    · unfold f_X7_next_0
      rw [byteAtZ L, Option.bind_some, if_neg (by decide), Option.bind_some, if_neg (by decide), Option.bind_some, if_neg (by decide)]
end
