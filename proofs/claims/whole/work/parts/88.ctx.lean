/-! ## the texts' cells: what they say -/
theorem va_P2 {D : va_G} {p q : Nat × va_E} {H : Heap} (h : va_P D vwCl [q, p] H) : va_P D vwCl [p, q] H := by
  intro k e hk
  match k, hk with
  | 0, hk => exact h 1 e hk
  | 1, hk => exact h 0 e hk
  | k + 2, hk => exact absurd hk (by simp)
theorem va_D2 {A : Nat → Prop} {p q : Nat × va_E} (h : va_D A [q, p]) : va_D A [p, q] := by
  refine h.by (fun k => if k = 0 then 1 else 0) (fun k e hk => ?_) (fun i j hi hj e => ?_)
  · match k, hk with
    | 0, hk => exact hk
    | 1, hk => exact hk
    | k + 2, hk => exact absurd hk (by simp)
  · simp only [List.length_cons, List.length_nil] at hi hj
    rcases (show i = 0 ∨ i = 1 by omega) with rfl | rfl <;> rcases (show j = 0 ∨ j = 1 by omega) with rfl | rfl <;> simp at e ⊢
theorem va_A2 (p q : Nat × va_E) (sz : Nat) : va_A [p, q] sz = va_A [q, p] sz := by
  funext r
  refine propext ⟨fun h => ?_, fun h => ?_⟩
  · rcases h with ⟨k, e, h⟩ | h
    · match k, h with
      | 0, h => exact Or.inl ⟨1, e, h⟩
      | 1, h => exact Or.inl ⟨0, e, h⟩
      | k + 2, h => exact absurd h (by simp)
    · exact Or.inr h
  · rcases h with ⟨k, e, h⟩ | h
    · match k, h with
      | 0, h => exact Or.inl ⟨1, e, h⟩
      | 1, h => exact Or.inl ⟨0, e, h⟩
      | k + 2, h => exact absurd h (by simp)
    · exact Or.inr h
theorem CI_swap2 {l : Launch} {D : va_G} {qT : Nat → ClassId} {Z : (Nat → Prop) → State → Heap → Prop} {y : MethodName} {bytes : ByteArray} {maxL d mc ms : Nat} {ret : Option FieldType} {as : List Value} {p q p' q' : Nat × va_E} {rv : Int32} (h : CI l D qT Z y bytes maxL ret d mc ms as [p, q] rv [p', q']) : CJI l D qT Z y bytes maxL ret d mc ms as [q, p] rv (fun u => u = [q', p']) := by
  intro sz
  have hs := h sz
  rw [va_A2 p q sz] at hs
  refine MetFree.mono hs (fun a s hP => ?_) (fun _ _ _ _ _ h => h) ?_
  · obtain ⟨q0, q1, qP, qK, qD, qZ, qN⟩ := hP
    exact ⟨q0, q1, va_P2 qP, qK, va_D2 qD, by rw [va_A2 p q sz]; exact qZ, qN⟩
  · rintro a st oc t - ⟨⟨hq, hF⟩, hL⟩
    refine ⟨⟨?_, hF⟩, hL⟩
    obtain ⟨r0, u, h1, h2, h3⟩ := hq
    obtain ⟨b1, b2, b3⟩ := h3
    rw [va_A2 p q sz] at b3
    exact ⟨r0, u, h1, h2, [q', p'], rfl, va_P2 b1, b2, va_D2 b3⟩
/-- the texts' cells in the tail -/
def TXW (qT : Nat → ClassId) (txs : Nat → Option Nat) (tds : Nat → TD) (nT : Nat) (tw : va_W) : Prop :=
  ∀ t, t < nT → ∃ qt qc qe k : Nat, txs t = some qt ∧ tw[k]? = some (qt, .inr (5, [.ref qc, .ref qe])) ∧ tw[k + 1]? = some (qc, .inl (qT 0, (tds t).2.2, .inl (tds t).1)) ∧ tw[k + 2]? = some (qe, .inl (qT 0, 3, .inl (tds t).2.1))
theorem w3_in {w : Int32} (h : inb w 3 = true) : w3 w = w := by
  obtain ⟨i, hi, rfl⟩ := inb_of h (by decide)
  rcases (show i = 0 ∨ i = 1 ∨ i = 2 by omega) with rfl | rfl | rfl <;> decide
theorem tvOf_6 {texts textSize : Nat → Int32} {t : Nat} {td : TD} (ht : t < 6) (h : TXOK texts textSize t td) (w : Int32) (nm : Nat → Int32) : tvOf td (w3 w) nm = tvOf td (w3 w) (nm6 (nm 0) (nm 1) (nm 2) (nm 3) (nm 4) (nm 5)) := by
  obtain ⟨r1, a1, a2, _⟩ := (TX_all ht h nm).2.2 w 0 0
  obtain ⟨r2, b1, b2, _⟩ := (TX_all ht h (nm6 (nm 0) (nm 1) (nm 2) (nm 3) (nm 4) (nm 5))).2.2 w 0 0
  have b1' : f_X7_read (nI t) w (nm 0) (nm 1) (nm 2) (nm 3) (nm 4) (nm 5) 0 0 textSize texts = some r2 := b1
  rw [a1] at b1'
  rw [← a2, ← b2, Option.some.inj b1']
theorem CTx_of {D : va_G} {qT : Nat → ClassId} {Z : (Nat → Prop) → State → Heap → Prop} {texts textSize : Nat → Int32} {txs : Nat → Option Nat} {tds : Nat → TD} {nT : Nat} {tw : va_W} (hZ : ZOK Z) (hn : nT ≤ 6) (hx : ∀ t, t < nT → TXOK texts textSize t (tds t)) (hw : TXW qT txs tds nT tw) : CTx D qT (ZT D qT Z tw) txs (tvs tds) nT := by
  intro t ht
  obtain ⟨i, hi, rfl⟩ := inb_of ht (by omega)
  rw [cl_nI (by omega)]
  obtain ⟨qt, qc, qe, k, h1, h2, h4, h3⟩ := hw i hi
  refine ⟨qt, h1, fun A U H hz => va_recv (ci := 5) hz.2.1 hz.2.2.1 rfl h2, fun l w nm sk aN aS hw3 => ?_⟩
  obtain ⟨g1, g2, _⟩ := TX_all (by omega) (hx i hi) nm
  obtain ⟨sk', g2⟩ := g2 w sk
  have e : tvn (tvs tds) (nI i) w nm = tvOf (tds i) (w3 w) nm := by
    unfold tvn tvs
    rw [cl_nI (by omega), ← tvOf_6 (by omega) (hx i hi) w nm]
  rw [e]
  rw [w3_in hw3] at g2 ⊢
  have hc := c_X5_tell (l := l) (D := D) (qT := qT) (Z := ZT D qT Z tw) (a0 := qt) (a_ends := qe) (a_code := qc) (a_p2 := aN) (a_p3 := aS) (ZT_ok hZ) (fun A U H hz k9 q9 hk9 => by
    match k9, hk9 with
    | 0, hk9 => obtain rfl := Option.some.inj hk9; exact hz.2.2.1 _ _ h2
    | 1, hk9 => obtain rfl := Option.some.inj hk9; exact hz.2.2.1 _ _ h3
    | 2, hk9 => obtain rfl := Option.some.inj hk9; exact hz.2.2.1 _ _ h4
    | k9 + 3, hk9 => exact absurd hk9 (by simp)) g2
  exact (CI_swap2 hc).mono (fun u hu => ⟨sk', hu⟩)
theorem TXW_add {qT : Nat → ClassId} {txs : Nat → Option Nat} {tds : Nat → TD} {nT : Nat} {tw : va_W} {qt qc qe cs : Nat} {code ends : Nat → Int32} (h : TXW qT txs tds nT tw) : TXW qT (va_up txs nT (some qt)) (fun j => if j = nT then (code, ends, cs) else tds j) (nT + 1) ([(qt, .inr (5, [.ref qc, .ref qe])), (qc, .inl (qT 0, cs, .inl code)), (qe, .inl (qT 0, 3, .inl ends))] ++ tw) := by
  intro t ht
  simp only [va_up]
  rcases Nat.lt_or_ge t nT with h1 | h1
  · obtain ⟨a, b, c, k, h2, h3, h4, h5⟩ := h t h1
    rw [if_neg (by omega), if_neg (by omega)]
    exact ⟨a, b, c, k + 3, h2, h3, h4, h5⟩
  · obtain rfl : t = nT := by omega
    rw [if_pos rfl, if_pos rfl]
    exact ⟨qt, qc, qe, 0, rfl, rfl, rfl, rfl⟩
