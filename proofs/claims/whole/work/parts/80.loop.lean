/-! ### one behind the other, joined: the four loops -/
abbrev R8 : Type := Int32 × Int32 × Int32 × Int32 × Int64 × Int32 × Int32 × Int32
section
variable {z FR : Nat} {tape texts nv : Nat → Int32} {k D : Nat} {F : RF} {A : AF} {S : Int32 → Prop} {op : Int32 → Int32} {u : Int32 → Int32 → Int32 → Int32}
  {Cb : (Int32 → Int32 → Int32 → Int32 → Int32 → Int32 → Int32 → Int32 → (Nat → Int32) → Option RR) → Int32 → Int32 → Int32 → Int32 → Int32 → Int32 → Int32 → Int32 → (Nat → Int32) → Option RR}
  {Rb : (Int32 → Int32 → Int32 → Int32 → Int64 → Int32 → Int32 → Int32 → Option R8) → Int32 → Int32 → Int32 → Int32 → Int64 → Int32 → Int32 → Int32 → Option R8}
theorem loop_sim (L : LX z FR tape texts) (hF : SIM z FR tape texts nv k D F A) (hS : ∀ tok, S tok → tok ≠ 256 ∧ tok ≠ 257)
    (hop : ∀ tok, S tok → op tok < -6 ∧ op tok ≠ -12 ∧ op tok ≠ -13 ∧ ∀ x y, f_X5_joined (op tok) x y = some (u tok x y))
    (hC0 : ∀ kp l3 fa a tok tA val cs code, ¬ S tok → Cb kp 1 l3 fa a tok tA val cs code = some (1, fa, a, tok, tA, val, cs, code))
    (hCf : ∀ kp l3 fa a tok tA val cs code, Cb kp 0 l3 fa a tok tA val cs code = some (0, fa, a, tok, tA, val, cs, code))
    (hC1 : ∀ kp (c : Nat) fa a tok tA val cs code n r, c < 160 → S tok → f_X1_next (nI z) a val tape = some n → F (nI k) (nI z) fa n.1 n.2.1 n.2.2.1 n.2.2.2 cs tape code = some r →
      (r.1 = 0 → Cb kp 1 (nI c) fa a tok tA val cs code = kp 0 (nI (c + 1)) r.2.1 r.2.2.1 r.2.2.2.1 r.2.2.2.2.1 r.2.2.2.2.2.1 r.2.2.2.2.2.2.1 r.2.2.2.2.2.2.2) ∧
      (∀ cs1 : Nat, r.1 = 1 → r.2.2.2.2.2.2.1 = nI cs1 → cs1 < 160 → Cb kp 1 (nI c) fa a tok tA val cs code = kp 1 (nI (c + 1)) r.2.1 r.2.2.1 r.2.2.2.1 r.2.2.2.2.1 r.2.2.2.2.2.1 (nI (cs1 + 1)) (upd r.2.2.2.2.2.2.2 cs1 (op tok))))
    (hR0 : ∀ kp v t e tok val hh tok7 worth o fl, TK z FR texts t e tok val hh tok7 worth → ¬ S tok → Rb kp v hh tok7 (nI t) worth o 0 fl = some (v, hh, tok7, nI t, worth, o, 0, fl))
    (hRf : ∀ kp v hh tok7 tA worth o fl, Rb kp v hh tok7 tA worth o 1 fl = some (v, hh, tok7, tA, worth, o, 1, fl))
    (hR1 : ∀ kp v t e tok val hh tok7 worth fl n r, TK z FR texts t e tok val hh tok7 worth → S tok → f_X7_next (nI FR) (nI z) hh worth texts = some n → A (nv 0) (nv 1) (nv 2) (nv 3) (nv 4) (nv 5) (nI FR) (nI z) n.1 n.2.1 n.2.2.1 n.2.2.2 (nI k) 0 fl texts = some r →
      Rb kp v hh tok7 (nI t) worth (nI k) 0 fl = kp (u tok v r.1) r.2.1 r.2.2.1 r.2.2.2.1 r.2.2.2.2.1 r.2.2.2.2.2.1 r.2.2.2.2.2.2.1 r.2.2.2.2.2.2.2)
    {t0 cs0 : Nat} {code0 : Nat → Int32} :
    ∀ (m fuC fuR c : Nat) (fa : Int32) (t e : Nat) (tok val hh tok7 : Int32) (worth : Int64) (fl : Int32) (cs : Nat) (code : Nat → Int32) (v : Int32), z - t ≤ m → m < fuC → m < fuR → c ≤ t → TK z FR texts t e tok val hh tok7 worth → t0 < t → cs ≤ t → cs + t0 ≤ t + cs0 → cs0 ≤ cs → (∀ i, i < cs0 → code i = code0 i) → EV nv code cs0 cs v (D + 1) →
      ∃ rC rR, lq9 Cb fuC 1 (nI c) fa (nI e) tok (nI t) val (nI cs) code = some rC ∧ lq8 Rb fuR v hh tok7 (nI t) worth (nI k) 0 fl = some rR ∧ OUT z FR texts nv k (D + 1) t0 cs0 code0 rC rR := by
  intro m
  induction m with
  | zero =>
    intro fuC fuR c fa t e tok val hh tok7 worth fl cs code v h1 h2 h3 h4 T h5 h6 h7 h8 h9 h10
    obtain ⟨fuC, rfl⟩ : ∃ g, fuC = g + 1 := ⟨fuC - 1, by omega⟩
    obtain ⟨fuR, rfl⟩ : ∃ g, fuR = g + 1 := ⟨fuR - 1, by omega⟩
    by_cases hs : S tok
    · obtain ⟨a, b⟩ := hS tok hs
      have := (TK_nx T a b).1
      have := T.2.1
      omega
    · exact ⟨_, _, hC0 _ _ _ _ _ _ _ _ _ hs, hR0 _ _ _ _ _ _ _ _ _ _ _ T hs, Or.inr ⟨fa, t, e, tok, val, hh, tok7, worth, fl, cs, code, v, rfl, rfl, T, h5, h7, h9, h10⟩⟩
  | succ m ih =>
    intro fuC fuR c fa t e tok val hh tok7 worth fl cs code v h1 h2 h3 h4 T h5 h6 h7 h8 h9 h10
    obtain ⟨fuC, rfl⟩ : ∃ g, fuC = g + 1 := ⟨fuC - 1, by omega⟩
    obtain ⟨fuR, rfl⟩ : ∃ g, fuR = g + 1 := ⟨fuR - 1, by omega⟩
    by_cases hs : S tok
    · obtain ⟨a, b⟩ := hS tok hs
      have hte := (TK_nx T a b).1
      have hez := T.2.1
      have hz := L.hz
      obtain ⟨t1, e1, tok1, val1, hh1, tok71, worth1, i1, i2, i3, T1⟩ := TK_go L T a b
      obtain ⟨rC, rR, j1, j2, j3⟩ := hF fa t1 e1 tok1 val1 hh1 tok71 worth1 fl cs code T1 (by omega)
      have hc := hC1 (lq9 Cb fuC) c fa (nI e) tok (nI t) val (nI cs) code _ rC (by omega) hs i2 j1
      have hr := hR1 (lq8 Rb fuR) v t e tok val hh tok7 worth fl _ rR T hs i3 j2
      show ∃ rC rR, Cb (lq9 Cb fuC) 1 (nI c) fa (nI e) tok (nI t) val (nI cs) code = some rC ∧ Rb (lq8 Rb fuR) v hh tok7 (nI t) worth (nI k) 0 fl = some rR ∧ OUT z FR texts nv k (D + 1) t0 cs0 code0 rC rR
      rcases j3 with ⟨g1, g2, g3⟩ | ⟨fa', t2, e2, tok2, val2, hh2, tok72, worth2, fl2, cs2, code2, w, rfl, rfl, T2, k1, k2, k3, k4⟩
      · rw [hc.1 g1, hr]
        obtain ⟨fuC, rfl⟩ : ∃ g, fuC = g + 1 := ⟨fuC - 1, by omega⟩
        obtain ⟨fuR, rfl⟩ : ∃ g, fuR = g + 1 := ⟨fuR - 1, by omega⟩
        rw [g2]
        exact ⟨_, _, hCf _ _ _ _ _ _ _ _ _, hRf _ _ _ _ _ _ _ _, Or.inl ⟨rfl, rfl, g3⟩⟩
      · have hk4 := k4.1
        have ht2 := T2.1; have hez2 := T2.2.1
        rw [hc.2 cs2 rfl rfl (by omega), hr]
        obtain ⟨p1, p2, p3, p4⟩ := hop tok hs
        refine ih fuC fuR (c + 1) fa' t2 e2 tok2 val2 hh2 tok72 worth2 fl2 (cs2 + 1) (upd code2 cs2 (op tok)) (u tok v w) (by omega) (by omega) (by omega) (by omega) T2 (by omega) (by omega) (by omega) (by omega) (fun i hi => ?_) (EV_bin h10 k4 k3 p1 p2 p3 (p4 v w))
        simp only [upd]
        rw [if_neg (by omega), k3 i (by omega)]
        exact h9 i hi
    · exact ⟨_, _, hC0 _ _ _ _ _ _ _ _ _ hs, hR0 _ _ _ _ _ _ _ _ _ _ _ T hs, Or.inr ⟨fa, t, e, tok, val, hh, tok7, worth, fl, cs, code, v, rfl, rfl, T, h5, h7, h9, h10⟩⟩
theorem SIM_loop (L : LX z FR tape texts) (hF : SIM z FR tape texts nv k D F A) (hS : ∀ tok, S tok → tok ≠ 256 ∧ tok ≠ 257)
    (hop : ∀ tok, S tok → op tok < -6 ∧ op tok ≠ -12 ∧ op tok ≠ -13 ∧ ∀ x y, f_X5_joined (op tok) x y = some (u tok x y))
    (hC0 : ∀ kp l3 fa a tok tA val cs code, ¬ S tok → Cb kp 1 l3 fa a tok tA val cs code = some (1, fa, a, tok, tA, val, cs, code))
    (hCf : ∀ kp l3 fa a tok tA val cs code, Cb kp 0 l3 fa a tok tA val cs code = some (0, fa, a, tok, tA, val, cs, code))
    (hC1 : ∀ kp (c : Nat) fa a tok tA val cs code n r, c < 160 → S tok → f_X1_next (nI z) a val tape = some n → F (nI k) (nI z) fa n.1 n.2.1 n.2.2.1 n.2.2.2 cs tape code = some r →
      (r.1 = 0 → Cb kp 1 (nI c) fa a tok tA val cs code = kp 0 (nI (c + 1)) r.2.1 r.2.2.1 r.2.2.2.1 r.2.2.2.2.1 r.2.2.2.2.2.1 r.2.2.2.2.2.2.1 r.2.2.2.2.2.2.2) ∧
      (∀ cs1 : Nat, r.1 = 1 → r.2.2.2.2.2.2.1 = nI cs1 → cs1 < 160 → Cb kp 1 (nI c) fa a tok tA val cs code = kp 1 (nI (c + 1)) r.2.1 r.2.2.1 r.2.2.2.1 r.2.2.2.2.1 r.2.2.2.2.2.1 (nI (cs1 + 1)) (upd r.2.2.2.2.2.2.2 cs1 (op tok))))
    (hR0 : ∀ kp v t e tok val hh tok7 worth o fl, TK z FR texts t e tok val hh tok7 worth → ¬ S tok → Rb kp v hh tok7 (nI t) worth o 0 fl = some (v, hh, tok7, nI t, worth, o, 0, fl))
    (hRf : ∀ kp v hh tok7 tA worth o fl, Rb kp v hh tok7 tA worth o 1 fl = some (v, hh, tok7, tA, worth, o, 1, fl))
    (hR1 : ∀ kp v t e tok val hh tok7 worth fl n r, TK z FR texts t e tok val hh tok7 worth → S tok → f_X7_next (nI FR) (nI z) hh worth texts = some n → A (nv 0) (nv 1) (nv 2) (nv 3) (nv 4) (nv 5) (nI FR) (nI z) n.1 n.2.1 n.2.2.1 n.2.2.2 (nI k) 0 fl texts = some r →
      Rb kp v hh tok7 (nI t) worth (nI k) 0 fl = kp (u tok v r.1) r.2.1 r.2.2.1 r.2.2.2.1 r.2.2.2.2.1 r.2.2.2.2.2.1 r.2.2.2.2.2.2.1 r.2.2.2.2.2.2.2)
    {F2 : RF} {A2 : AF} (hF2 : ∀ fa a tok tA val cs code, F2 (nI k) (nI z) fa a tok tA val cs tape code = (F (nI k) (nI z) fa a tok tA val cs tape code).bind (fun r => lq9 Cb 200 r.1 0 r.2.1 r.2.2.1 r.2.2.2.1 r.2.2.2.2.1 r.2.2.2.2.2.1 r.2.2.2.2.2.2.1 r.2.2.2.2.2.2.2))
    (hA2 : ∀ hh tok7 tA worth o fl, A2 (nv 0) (nv 1) (nv 2) (nv 3) (nv 4) (nv 5) (nI FR) (nI z) hh tok7 tA worth o 0 fl texts = (A (nv 0) (nv 1) (nv 2) (nv 3) (nv 4) (nv 5) (nI FR) (nI z) hh tok7 tA worth o 0 fl texts).bind (fun r => lq8 Rb 200 r.1 r.2.1 r.2.2.1 r.2.2.2.1 r.2.2.2.2.1 r.2.2.2.2.2.1 r.2.2.2.2.2.2.1 r.2.2.2.2.2.2.2)) :
    SIM z FR tape texts nv k (D + 1) F2 A2 := by
  intro fa t e tok val hh tok7 worth fl cs code T hcs
  obtain ⟨rC, rR, j1, j2, j3⟩ := hF fa t e tok val hh tok7 worth fl cs code T hcs
  rw [hF2, hA2, j1, j2, Option.bind_some, Option.bind_some]
  have hz := L.hz
  rcases j3 with ⟨g1, g2, g3⟩ | ⟨fa', t2, e2, tok2, val2, hh2, tok72, worth2, fl2, cs2, code2, w, rfl, rfl, T2, k1, k2, k3, k4⟩
  · rw [g1, g2]
    exact ⟨_, _, hCf _ _ _ _ _ _ _ _ _, hRf _ _ _ _ _ _ _ _, Or.inl ⟨rfl, rfl, g3⟩⟩
  · have hk4 := k4.1
    have ht2 := T2.1; have hez2 := T2.2.1
    exact loop_sim L hF hS hop hC0 hCf hC1 hR0 hRf hR1 160 200 200 0 fa' t2 e2 tok2 val2 hh2 tok72 worth2 fl2 cs2 code2 w (by omega) (by omega) (by omega) (by omega) T2 k1 (by omega) (by omega) (by omega) k3 (EV_mono k4 (by omega))
theorem SIM_term (L : LX z FR tape texts) {rE rO : RF} (hF : SIM z FR tape texts nv k D (fun l1 sz fa a tok tA val cs tp cd => f_X1_readOne l1 sz fa a tok tA val cs tp cd rE rO) A) :
    SIM z FR tape texts nv k (D + 1) (fun l1 sz fa a tok tA val cs tp cd => f_X1_readTerm l1 sz fa a tok tA val cs tp cd rE rO) (g7_term A) := by
  refine SIM_loop (S := fun tok => tok = 42) (op := fun _ => -16) (u := fun _ x y => x * y) (Cb := f_X1_readTerm_8 (nI z) tape rE rO (nI k)) (Rb := g7_term_5 A (nv 0) (nv 1) (nv 2) (nv 3) (nv 4) (nv 5) (nI FR) (nI z) texts) L hF (by rintro _ rfl; decide) (by rintro _ rfl; exact ⟨by decide, by decide, by decide, fun x y => rfl⟩) ?_ ?_ ?_ ?_ ?_ ?_ (fun _ _ _ _ _ _ _ => rfl) (fun _ _ _ _ _ _ => rfl)
  · intro kp l3 fa a tok tA val cs code h
    unfold f_X1_readTerm_8
    by_cases h3 : (160 : Int32) ≤ l3
    · rw [if_pos h3, if_pos (by decide)]
    · rw [if_neg h3, if_neg (by decide), if_neg h, if_pos (by decide)]
  · intro kp l3 fa a tok tA val cs code
    unfold f_X1_readTerm_8
    by_cases h3 : (160 : Int32) ≤ l3
    · rw [if_pos h3, if_pos (by decide)]
    · rw [if_neg h3, if_pos rfl, if_pos (by decide)]
  · intro kp c fa a tok tA val cs code n r hc hs hn hr
    unfold f_X1_readTerm_8
    rw [if_neg (by rw [show (160 : Int32) = nI 160 from rfl, le_nI] <;> omega), if_neg (by decide), if_pos hs, hn, Option.bind_some]
    refine ⟨fun h0 => ?_, fun cs1 h1 h2 h3 => ?_⟩
    · erw [hr]; rw [Option.bind_some, if_pos h0, nI_1]
    · erw [hr]; rw [Option.bind_some, if_neg (by rw [h1]; decide), h2, put1 h3, Option.bind_some, if_neg (show ¬ (1 : Int32) = 0 by decide), nI_1]
  · intro kp v t e tok val hh tok7 worth o fl T h
    unfold g7_term_5
    rw [TK_sign T (by unfold Sgn; decide), if_neg h, Option.bind_some, if_pos rfl]
  · intro kp v hh tok7 tA worth o fl
    unfold g7_term_5 f_X7_isSign
    rw [if_neg (by decide), Option.bind_some, if_pos rfl]
  · intro kp v t e tok val hh tok7 worth fl n r T h hn hr
    unfold g7_term_5
    rw [TK_sign T (by unfold Sgn; decide), if_pos h, Option.bind_some, if_neg (by decide), hn, Option.bind_some, hr, Option.bind_some]
end
