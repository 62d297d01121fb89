/-! ## what a text says: one meaning for both sides -/
/-- a text's code, its parts' ends, its length -/
abbrev TD : Type := (Nat → Int32) × (Nat → Int32) × Nat
def tvOf (td : TD) (w : Int32) (nv : Nat → Int32) : Int32 :=
  match f_X5_tell w 3 40 td.2.2 6 td.2.1 (fun _ => 0) td.1 nv with
  | some r => r.1
  | none => 0
def w3 (w : Int32) : Int32 := if w = 0 then 0 else if w = 1 then 1 else 2
/-- the text t of the reference, as the class read it -/
def TXOK (texts textSize : Nat → Int32) (t : Nat) (td : TD) : Prop :=
  ∃ (z : Nat) (tape : Nat → Int32) (val : Int32) (code0 : Nat → Int32) (fa a tok tA val' : Int32), LX z (160 * t) tape texts ∧ textSize t = nI z ∧ td.2.2 < 160 ∧ f_X1_read (nI z) val tape code0 = some (1, 0, fa, a, tok, tA, val', nI td.2.2, td.1, td.2.1)
theorem tell_at {td : TD} {nv : Nat → Int32} {E0 E1 : Nat} {v0 v1 v2 : Int32} (hcs : td.2.2 < 160) (h0 : td.2.1 0 = nI E0) (h1 : td.2.1 1 = nI E1) (h2 : td.2.1 2 = nI td.2.2) (e0 : EV nv td.1 0 E0 v0 31) (e1 : EV nv td.1 E0 E1 v1 31) (e2 : EV nv td.1 E1 td.2.2 v2 31) (w : Int32) (sk : Nat → Int32) :
    ∃ sk', f_X5_tell (w3 w) 3 40 td.2.2 6 td.2.1 sk td.1 nv = some (if w = 0 then v0 else if w = 1 then v1 else v2, sk') := by
  obtain ⟨cd, en, cs⟩ := td
  simp only at *
  have g1 := e0.1; have g2 := e1.1; have g3 := e2.1
  have r0 := e0.2 [] (by decide)
  have r1 := e1.2 [] (by decide)
  have r2 := e2.2 [] (by decide)
  rw [Nat.sub_zero] at r0
  have q0 := fun fu hfu => tellE (nE := 3) (nC := cs) (ends := en) (code := cd) (nm := nv) (w := 0) (E := E0) (by decide) h0 (by omega) (by omega) E0 0 fu [] sk (by omega) hfu (by decide) trivial r0
  have q1 := fun fu hfu => tellE (nE := 3) (nC := cs) (ends := en) (code := cd) (nm := nv) (w := 1) (E := E1) (by decide) h1 (by omega) (by omega) (E1 - E0) E0 fu [] sk (by omega) hfu (by decide) trivial r1
  have q2 := fun fu hfu => tellE (nE := 3) (nC := cs) (ends := en) (code := cd) (nm := nv) (w := 2) (E := cs) (by decide) h2 (by omega) (by omega) (cs - E1) E1 fu [] sk (by omega) hfu (by decide) trivial r2
  unfold f_X5_tell w3
  by_cases c0 : w = 0
  · rw [if_pos c0, if_pos c0, if_pos rfl]
    exact q0 200 (by omega)
  · rw [if_neg c0, if_neg c0]
    by_cases c1 : w = 1
    · rw [if_pos c1, if_pos c1, if_neg (by decide), if_pos (by decide), show ((1 : Int32) - 1).toNatClampNeg = 0 from by decide, h0]
      exact q1 200 (by omega)
    · rw [if_neg c1, if_neg c1, if_neg (by decide), if_pos (by decide), show ((2 : Int32) - 1).toNatClampNeg = 1 from by decide, h1]
      exact q2 200 (by omega)
theorem TX_all {texts textSize : Nat → Int32} {t : Nat} {td : TD} (ht : t < 6) (h : TXOK texts textSize t td) (nv : Nat → Int32) : td.2.2 < 160 ∧ (∀ (w : Int32) (sk : Nat → Int32), ∃ sk', f_X5_tell (w3 w) 3 40 td.2.2 6 td.2.1 sk td.1 nv = some (tvOf td (w3 w) nv, sk')) ∧
    ∀ (w : Int32) (tw : Int64) (fl : Int32), ∃ r, f_X7_read (nI t) w (nv 0) (nv 1) (nv 2) (nv 3) (nv 4) (nv 5) tw fl textSize texts = some r ∧ r.1 = tvOf td (w3 w) nv ∧ r.2.2.2.2.2.2.2.2.1 = 0 := by
  obtain ⟨z, tape, val, code0, fa, a, tok, tA, val', L, hs, hlt, hr⟩ := h
  have key : ∀ (tw : Int64) (fl : Int32), ∃ (E0 E1 : Nat) (v0 v1 v2 : Int32), td.2.2 < 160 ∧ td.2.1 0 = nI E0 ∧ td.2.1 1 = nI E1 ∧ td.2.1 2 = nI td.2.2 ∧ EV nv td.1 0 E0 v0 31 ∧ EV nv td.1 E0 E1 v1 31 ∧ EV nv td.1 E1 td.2.2 v2 31 ∧ ∀ w, ∃ r, f_X7_read (nI t) w (nv 0) (nv 1) (nv 2) (nv 3) (nv 4) (nv 5) tw fl textSize texts = some r ∧ r.2.2.2.2.2.2.2.2.1 = 0 ∧ r.1 = if w = 0 then v0 else if w = 1 then v1 else v2 := by
    intro tw fl
    obtain ⟨rC, h1, h2, h3⟩ := read_sim (nv := nv) ht L hs val code0 tw fl
    rw [hr] at h1
    obtain rfl := Option.some.inj h1
    rcases h3 with ⟨h3, _⟩ | ⟨fa', a', tok', tA', val'', cs, E0, E1, code, ends, v0, v1, v2, e, b1, b2, b3, b4, b5, b6, b7, b8⟩
    · exact absurd (show (1 : Int32) = 0 from h3) (by decide)
    · simp only [Prod.mk.injEq] at e
      obtain ⟨_, _, _, _, _, _, _, e1, e2, e3⟩ := e
      have hcs : td.2.2 = cs := by rw [eq_nI (by omega) (by omega)] at e1; exact e1
      subst e2; subst e3; subst hcs
      exact ⟨E0, E1, v0, v1, v2, hlt, b2, b3, b4, b5, b6, b7, b8⟩
  have tvq : ∀ (E0 E1 : Nat) (v0 v1 v2 : Int32), td.2.1 0 = nI E0 → td.2.1 1 = nI E1 → td.2.1 2 = nI td.2.2 → EV nv td.1 0 E0 v0 31 → EV nv td.1 E0 E1 v1 31 → EV nv td.1 E1 td.2.2 v2 31 → ∀ w, tvOf td (w3 w) nv = if w = 0 then v0 else if w = 1 then v1 else v2 := by
    intro E0 E1 v0 v1 v2 b2 b3 b4 b5 b6 b7 w
    obtain ⟨sk', hk⟩ := tell_at hlt b2 b3 b4 b5 b6 b7 w (fun _ => 0)
    unfold tvOf
    rw [hk]
  refine ⟨hlt, fun w sk => ?_, fun w tw fl => ?_⟩
  · obtain ⟨E0, E1, v0, v1, v2, b1, b2, b3, b4, b5, b6, b7, b8⟩ := key 0 0
    obtain ⟨sk', hk⟩ := tell_at hlt b2 b3 b4 b5 b6 b7 w sk
    exact ⟨sk', by rw [hk, tvq E0 E1 v0 v1 v2 b2 b3 b4 b5 b6 b7 w]⟩
  · obtain ⟨E0, E1, v0, v1, v2, b1, b2, b3, b4, b5, b6, b7, b8⟩ := key tw fl
    obtain ⟨r, r1, r2, r3⟩ := b8 w
    exact ⟨r, r1, by rw [r3, tvq E0 E1 v0 v1 v2 b2 b3 b4 b5 b6 b7 w], r2⟩
/-- what the texts say -/
def tvs (tds : Nat → TD) : Int32 → Int32 → Int32 → Int32 → Int32 → Int32 → Int32 → Int32 → Int32 := fun t w a b c d e f => tvOf (tds t.toNatClampNeg) (w3 w) (nm6 a b c d e f)
theorem RTx_of {texts textSize : Nat → Int32} {tds : Nat → TD} {nT : Nat} (hn : nT ≤ 6) (h : ∀ t, t < nT → TXOK texts textSize t (tds t)) : RTx texts textSize (tvs tds) nT := by
  intro t w a b c d e f tw fl ht
  obtain ⟨i, hi, rfl⟩ := inb_of ht (by omega)
  obtain ⟨r, r1, r2, _⟩ := (TX_all (by omega) (h i hi) (nm6 a b c d e f)).2.2 w tw fl
  refine ⟨r, r1, ?_⟩
  unfold tvs
  rw [r2, cl_nI (by omega)]
/-! the tape's text laid down by the reference -/
def cpT (texts : Nat → Int32) (FR : Nat) (tp : Nat → Int32) (i : Nat) : Nat → Int32 := fun j => if FR ≤ j ∧ j < FR + i then tp (j - FR) else texts j
theorem cpT_up {texts tp : Nat → Int32} {FR i : Nat} : upd (cpT texts FR tp i) (FR + i) (tp i) = cpT texts FR tp (i + 1) := by
  funext j
  simp only [upd, cpT]
  by_cases h : j = FR + i
  · rw [if_pos h, if_pos (by omega), h, Nat.add_sub_cancel_left]
  · rw [if_neg h]
    by_cases h2 : FR ≤ j ∧ j < FR + i
    · rw [if_pos h2, if_pos (by omega)]
    · rw [if_neg h2, if_neg (by omega)]
theorem text14 {nT z : Nat} (hn : nT < 6) (hz : z ≤ 160) {oa ob oc od oe og : Int32} {tw : Int64} {fl : Int32} {textSize tp texts : Nat → Int32} : ∀ (k i fu : Nat), i + k = z → k < fu →
    lq2 (f_X7_text_14 (nI nT) (nI z) oa ob oc od oe og tw fl textSize tp) fu (nI i) (cpT texts (160 * nT) tp i) = (f_X7_read (nI nT) 0 oa ob oc od oe og tw fl (upd textSize nT (nI z)) (cpT texts (160 * nT) tp z)).bind (fun v73_1 =>
      if v73_1.2.2.2.2.2.2.2.2.1 = 0 then some (nI nT, nI (nT + 1), 0, v73_1.2.1, v73_1.2.2.1, v73_1.2.2.2.1, v73_1.2.2.2.2.1, v73_1.2.2.2.2.2.1, v73_1.2.2.2.2.2.2.1, v73_1.2.2.2.2.2.2.2.1, v73_1.2.2.2.2.2.2.2.2.1, v73_1.2.2.2.2.2.2.2.2.2, upd textSize nT (nI z), cpT texts (160 * nT) tp z)
      else some ((-100) - v73_1.2.2.2.2.2.2.2.2.2, nI nT, 0, v73_1.2.1, v73_1.2.2.1, v73_1.2.2.2.1, v73_1.2.2.2.2.1, v73_1.2.2.2.2.2.1, v73_1.2.2.2.2.2.2.1, v73_1.2.2.2.2.2.2.2.1, v73_1.2.2.2.2.2.2.2.2.1, v73_1.2.2.2.2.2.2.2.2.2, upd textSize nT (nI z), cpT texts (160 * nT) tp z)) := by
  intro k
  have h160 : 160 * nI nT = nI (160 * nT) := by
    rcases (show nT = 0 ∨ nT = 1 ∨ nT = 2 ∨ nT = 3 ∨ nT = 4 ∨ nT = 5 by omega) with rfl | rfl | rfl | rfl | rfl | rfl <;> decide
  induction k with
  | zero =>
    intro i fu h1 h2
    obtain ⟨fu, rfl⟩ : ∃ g, fu = g + 1 := ⟨fu - 1, by omega⟩
    show f_X7_text_14 _ _ _ _ _ _ _ _ _ _ _ _ (lq2 _ fu) (nI i) _ = _
    obtain rfl : i = z := by omega
    generalize lq2 (f_X7_text_14 (nI nT) (nI i) oa ob oc od oe og tw fl textSize tp) fu = kp
    unfold f_X7_text_14
    rw [if_pos (by rw [le_nI] <;> omega), if_pos (inb_nI hn (by decide)), cl_nI (by omega), nI_1, nI_pred]
  | succ k ih =>
    intro i fu h1 h2
    obtain ⟨fu, rfl⟩ : ∃ g, fu = g + 1 := ⟨fu - 1, by omega⟩
    show f_X7_text_14 _ _ _ _ _ _ _ _ _ _ _ _ (lq2 _ fu) (nI i) _ = _
    have ih' := ih (i + 1) fu (by omega) (by omega)
    generalize lq2 (f_X7_text_14 (nI nT) (nI z) oa ob oc od oe og tw fl textSize tp) fu = kp at ih' ⊢
    unfold f_X7_text_14
    rw [if_neg (by rw [le_nI] <;> omega), if_pos (inb_nI (by omega) (by decide)), h160, nI_add, if_pos (inb_nI (by omega) (by decide)), cl_nI (by omega), cl_nI (by omega), nI_1, cpT_up]
    exact ih'
/-- the reference's text store beyond the texts told does not matter -/
theorem TXOK_cp {texts textSize tp : Nat → Int32} {t nT z : Nat} {td : TD} {v : Int32} (ht : t < nT) (hz : z ≤ 160) (h : TXOK texts textSize t td) : TXOK (cpT texts (160 * nT) tp z) (upd textSize nT v) t td := by
  obtain ⟨z1, tape, val, code0, fa, a, tok, tA, val', L, hs, hlt, hr⟩ := h
  refine ⟨z1, tape, val, code0, fa, a, tok, tA, val', ⟨L.hz, L.hf, fun i hi => ?_, L.hb⟩, ?_, hlt, hr⟩
  · have := L.hz
    rw [← L.he i hi]; simp only [cpT]; rw [if_neg (by omega)]
  · simp only [upd]; rw [if_neg (by omega)]; exact hs
section
variable {z nT : Nat} {size taped fa at0 tok tA val csz oa ob oc od oe og fr sz hh tk tA7 op bad fl : Int32} {tw : Int64} {tp tp7 code textSize texts : Nat → Int32} {tds : Nat → TD}
/-- text: both alike; where it is taken, one text more, with one meaning -/
theorem A_text (hn : nT ≤ 6) (h : TPr z size tp taped tp7) (hT : ∀ t, t < nT → TXOK texts textSize t (tds t)) :
    ∃ (a b : Int32) (ends : Nat → Int32) (nT' : Nat) (size' fa' at' tok' tA' val' csz' : Int32) (code' : Nat → Int32) (taped' fr' sz' hh' tk' tA7' : Int32) (tw' : Int64) (op' bad' fl' : Int32) (textSize' texts' : Nat → Int32) (z' : Nat),
      f_X6_text (nI nT) size fa at0 tok tA val csz tp code = some (a, b, ends, nI nT', size', fa', at', tok', tA', val', csz', code') ∧
      f_X7_text (nI nT) taped oa ob oc od oe og fr sz hh tk tA7 tw op bad fl textSize texts tp7 = some (a, nI nT', taped', fr', sz', hh', tk', tA7', tw', op', bad', fl', textSize', texts') ∧
      TPr z' size' tp taped' tp7 ∧ ((b = 0 ∧ nT' = nT ∧ ∀ t, t < nT → TXOK texts' textSize' t (tds t)) ∨
        (b = 1 ∧ nT < 6 ∧ nT' = nT + 1 ∧ ∃ cs : Nat, csz' = nI cs ∧ (∀ t, t < nT → TXOK texts' textSize' t (tds t)) ∧ TXOK texts' textSize' nT (code', ends, cs))) := by
  obtain ⟨h1, h2, h3, h4⟩ := h
  subst h2; subst h3
  rcases Nat.lt_or_ge nT 6 with hlt | hge
  · have L : LX z (160 * nT) tp (cpT texts (160 * nT) tp7 z) := by
      refine ⟨h1, by omega, fun i hi => ?_, fun i hi => (h4 i hi).2⟩
      simp only [cpT]; rw [if_pos (by omega), Nat.add_sub_cancel_left]; exact ((h4 i hi).1).symm
    have hs : upd textSize nT (nI z) nT = nI z := by simp [upd]
    obtain ⟨rC, r1, r2, r3⟩ := read_sim (nv := nm6 oa ob oc od oe og) hlt L hs val code tw fl
    have hx := text14 (oa := oa) (ob := ob) (oc := oc) (od := od) (oe := oe) (og := og) (tw := tw) (fl := fl) (textSize := textSize) (tp := tp7) (texts := texts) hlt h1 z 0 200 (by omega) (by omega)
    have c0 : cpT texts (160 * nT) tp7 0 = texts := by funext j; simp only [cpT]; rw [if_neg (by omega)]
    rw [c0] at hx
    have h7 := (show f_X7_text (nI nT) (nI z) oa ob oc od oe og fr sz hh tk tA7 tw op bad fl textSize texts tp7 = lq2 (f_X7_text_14 (nI nT) (nI z) oa ob oc od oe og tw fl textSize tp7) 200 (nI 0) texts from by
      unfold f_X7_text
      rw [if_neg (by rw [show (6 : Int32) = nI 6 from rfl, eq_nI] <;> omega)]
      rfl).trans hx
    have old : ∀ t, t < nT → TXOK (cpT texts (160 * nT) tp7 z) (upd textSize nT (nI z)) t (tds t) := fun t ht => TXOK_cp ht h1 (hT t ht)
    have h6 : f_X6_text (nI nT) (nI z) fa at0 tok tA val csz tp code = (some rC).bind (fun v16_1 => if v16_1.1 = 0 then some (((-100) - v16_1.2.2.1), 0, (fun _ => 0), nI nT, v16_1.2.1, v16_1.2.2.1, v16_1.2.2.2.1, v16_1.2.2.2.2.1, v16_1.2.2.2.2.2.1, v16_1.2.2.2.2.2.2.1, v16_1.2.2.2.2.2.2.2.1, v16_1.2.2.2.2.2.2.2.2.1) else (if v16_1.1 = 1 then (if inb (nI nT) 6 = true then some (((nI nT + 1) - 1), 1, v16_1.2.2.2.2.2.2.2.2.2, (nI nT + 1), v16_1.2.1, v16_1.2.2.1, v16_1.2.2.2.1, v16_1.2.2.2.2.1, v16_1.2.2.2.2.2.1, v16_1.2.2.2.2.2.2.1, v16_1.2.2.2.2.2.2.2.1, v16_1.2.2.2.2.2.2.2.2.1) else none) else none)) := by
      unfold f_X6_text
      rw [if_pos (by rw [show (6 : Int32) = nI 6 from rfl, nI_ltI (by omega) (by omega)]; exact hlt), r1]
    rcases r3 with ⟨g1, g2⟩ | ⟨fa1, a1, tok1, tA1, val1, cs, E0, E1, code1, ends1, v0, v1, v2, rfl, b1, b2, b3, b4, b5, b6, b7, b8⟩
    · obtain ⟨r, q1, q2, q3⟩ := g2 0
      have q1' : f_X7_read (nI nT) 0 oa ob oc od oe og tw fl (upd textSize nT (nI z)) (cpT texts (160 * nT) tp7 z) = some r := q1
      rw [h6, h7, q1', Option.bind_some, Option.bind_some, if_pos g1, if_neg (by rw [q2]; decide), q3, r2]
      exact ⟨_, _, _, nT, _, _, _, _, _, _, _, _, _, _, _, _, _, _, _, _, _, _, _, _, 0, rfl, rfl, ⟨by omega, rfl, rfl, fun j hj => by omega⟩, Or.inl ⟨rfl, rfl, old⟩⟩
    · obtain ⟨r, q1, q2, q3⟩ := b8 0
      have q1' : f_X7_read (nI nT) 0 oa ob oc od oe og tw fl (upd textSize nT (nI z)) (cpT texts (160 * nT) tp7 z) = some r := q1
      rw [h6, h7, q1', Option.bind_some, Option.bind_some, if_neg (show ¬ (1 : Int32) = 0 by decide), if_pos rfl, if_pos (inb_nI hlt (by decide)), if_pos q2, nI_1, nI_pred]
      exact ⟨_, _, _, nT + 1, _, _, _, _, _, _, _, _, _, _, _, _, _, _, _, _, _, _, _, _, 0, rfl, rfl, ⟨by omega, rfl, rfl, fun j hj => by omega⟩, Or.inr ⟨rfl, hlt, rfl, cs, rfl, old, z, tp, val, code, fa1, a1, tok1, tA1, val1, L, hs, b1, r1⟩⟩
  · obtain rfl : nT = 6 := by omega
    refine ⟨-4, 0, fun _ => 0, 6, nI z, fa, at0, tok, tA, val, csz, code, nI z, fr, sz, hh, tk, tA7, tw, op, bad, fl, textSize, texts, z, ?_, ?_, ⟨h1, rfl, rfl, h4⟩, Or.inl ⟨rfl, rfl, hT⟩⟩
    · unfold f_X6_text
      rw [if_neg (by decide)]
    · unfold f_X7_text
      rw [if_pos (show nI 6 = 6 from rfl)]
end
