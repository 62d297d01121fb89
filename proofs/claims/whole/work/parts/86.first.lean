/-! ## the first text -/
def fstL : List Int32 := [118, 105, 101, 119, 115, 32, 49, 48, 32, 45, 32, 115, 105, 100, 101, 32, 59, 32, 119, 97, 114, 109, 115, 32, 53, 32, 45, 32, 115, 116, 111, 118, 101, 32, 59, 32, 109, 105, 110, 100, 115, 32, 110, 101, 97, 114, 32, 59]
def fstT : Nat → Int32 := fun j => if j < 48 then fstL.getD j 0 else 0
theorem fst_ch : ∀ j, j < 48 → chT "views 10 - side ; warms 5 - stove ; minds near ;" j = fstL.getD j 0 := by decide +kernel
theorem fst_bd : ∀ j, j < 48 → 0 ≤ (fstL.getD j 0).toInt ∧ (fstL.getD j 0).toInt ≤ 255 := by decide +kernel
theorem fst_ok : (match f_X1_read 48 0 fstT (fun _ => 0) with | some r => decide (r.1 = 1) | none => false) = true := by decide +kernel
theorem fst_add : ∀ (k i fu : Nat), i + k = 48 → k < fu → lq3 (f_X6_initF_125 0 (fun _ => 0)) fu (nI i) (nI i) (fun j => if j < i then fstL.getD j 0 else 0) = (f_X1_read 48 0 fstT (fun _ => 0)).bind (fun v162_1 => if v162_1.1 = 1 then some (v162_1.2.2.2.2.2.2.2.2.2, v162_1.2.1, v162_1.2.2.1, v162_1.2.2.2.1, v162_1.2.2.2.2.1, v162_1.2.2.2.2.2.1, v162_1.2.2.2.2.2.2.1, v162_1.2.2.2.2.2.2.2.1, fstT, v162_1.2.2.2.2.2.2.2.2.1) else none) := by
  intro k
  induction k with
  | zero =>
    intro i fu h1 h2
    obtain ⟨fu, rfl⟩ : ∃ g, fu = g + 1 := ⟨fu - 1, by omega⟩
    show f_X6_initF_125 _ _ (lq3 _ fu) (nI i) (nI i) _ = _
    generalize lq3 (f_X6_initF_125 0 (fun _ => 0)) fu = kp
    obtain rfl : i = 48 := by omega
    unfold f_X6_initF_125
    rw [if_pos (by rw [le_nI] <;> omega)]
    rfl
  | succ k ih =>
    intro i fu h1 h2
    obtain ⟨fu, rfl⟩ : ∃ g, fu = g + 1 := ⟨fu - 1, by omega⟩
    show f_X6_initF_125 _ _ (lq3 _ fu) (nI i) (nI i) _ = _
    have ih' := ih (i + 1) fu (by omega) (by omega)
    generalize lq3 (f_X6_initF_125 0 (fun _ => 0)) fu = kp at ih' ⊢
    unfold f_X6_initF_125 f_X1_add
    rw [if_neg (by rw [le_nI] <;> omega), if_pos (inb_nI (by omega) (by decide)), cl_nI (by omega), if_neg (by rw [show (160 : Int32) = nI 160 from rfl, le_nI] <;> omega), if_pos (inb_nI (by omega) (by decide)), Option.bind_some, nI_1, fst_ch i (by omega)]
    have e : upd (fun j => if j < i then fstL.getD j 0 else 0) i (fstL.getD i 0) = (fun j => if j < i + 1 then fstL.getD j 0 else 0) := by
      funext j
      simp only [upd]
      by_cases h : j = i
      · rw [if_pos h, if_pos (by omega), h]
      · rw [if_neg h]
        by_cases h2 : j < i
        · rw [if_pos h2, if_pos (by omega)]
        · rw [if_neg h2, if_neg (by omega)]
    rw [e]
    exact ih'
theorem f7_ok : f_X7_init.isSome = true := by decide +kernel
theorem f7_at : ∀ j, j < 48 → (match f_X7_init with | some r => r j | none => 0) = fstL.getD j 0 := by decide +kernel
theorem first_text : ∃ (ends : Nat → Int32) (fa a tok tA val : Int32) (cs : Nat) (code texts0 : Nat → Int32), f_X6_init = some (ends, 0, fa, a, tok, tA, val, nI cs, fstT, code) ∧ f_X7_init = some texts0 ∧ ∀ textSize : Nat → Int32, textSize 0 = 48 → TXOK texts0 textSize 0 (code, ends, cs) := by
  obtain ⟨texts0, h0⟩ := Option.isSome_iff_exists.mp f7_ok
  have hat : ∀ j, j < 48 → texts0 j = fstL.getD j 0 := by
    intro j hj
    have := f7_at j hj
    rw [h0] at this
    exact this
  have L : LX 48 (160 * 0) fstT texts0 := by
    refine ⟨by decide, by decide, fun i hi => ?_, fun i hi => ?_⟩
    · rw [show 160 * 0 + i = i by omega, hat i hi]; unfold fstT; rw [if_pos hi]
    · unfold fstT; rw [if_pos hi]; exact fst_bd i hi
  have hf : f_X6_init = _ := fst_add 48 0 200 (by omega) (by omega)
  have key : ∀ textSize : Nat → Int32, textSize 0 = 48 → _ := fun textSize hs => read_sim (nv := fun _ => 0) (Tn := 0) (by decide) L (textSize := textSize) hs 0 (fun _ => 0) 0 0
  obtain ⟨rC, r1, r2, r3⟩ := key (fun _ => 48) rfl
  have r1' : f_X1_read 48 0 fstT (fun _ => 0) = some rC := r1
  have ok := fst_ok
  rw [r1'] at ok
  have ok : rC.1 = 1 := of_decide_eq_true ok
  rcases r3 with ⟨g1, g2⟩ | ⟨fa1, a1, tok1, tA1, val1, cs, E0, E1, code1, ends1, v0, v1, v2, rfl, b1, b2, b3, b4, b5, b6, b7, b8⟩
  · rw [ok] at g1; exact absurd g1 (by decide)
  · rw [r1', Option.bind_some, if_pos rfl] at hf
    exact ⟨ends1, fa1, a1, tok1, tA1, val1, cs, code1, texts0, hf, h0, fun ts hs => ⟨48, fstT, 0, fun _ => 0, fa1, a1, tok1, tA1, val1, L, hs, b1, r1⟩⟩
