theorem ite_some {α : Type} {c : Prop} {d : Decidable c} {g1 g2 : Option α} {r : α} (h : @ite _ c d g1 g2 = some r) : (c ∧ g1 = some r) ∨ (¬ c ∧ g2 = some r) := by
  by_cases hc : c
  · rw [if_pos hc] at h; exact Or.inl ⟨hc, h⟩
  · rw [if_neg hc] at h; exact Or.inr ⟨hc, h⟩
theorem sw_ne {a b : Int32} {n : Int} (h : ¬ a = b) (hb : b.toInt = n) : a.toInt ≠ n := fun q => h (Int32.toInt_inj.mp (q.trans hb.symm))
theorem nz0 : narrow .boolean (.int 0) = .int 0 := by decide +kernel
theorem nz1 : narrow .boolean (.int 1) = .int 1 := by decide +kernel
def lq0 { R : Type} (body : (Option R) → Option R) : Nat → Option R
  | 0 => none
  | n + 1 => body (lq0 body n)
theorem lq0_V { R : Type} {body : (Option R) → Option R} {r : R} {G : Prop} (h : ∀ (kp : Option R), (kp  = some r → G ) → body kp  = some r → G ) : ∀ (fu : Nat), lq0 body fu  = some r → G  := by
  intro fu
  induction fu with
  | zero => intro  hf; cases hf
  | succ n ih => exact h _ ih
def lq1 {A0 R : Type} (body : (A0 → Option R) → A0 → Option R) : Nat → A0 → Option R
  | 0 => fun _ => none
  | n + 1 => body (lq1 body n)
theorem lq1_V {A0 R : Type} {body : (A0 → Option R) → A0 → Option R} {r : R} {G : A0 → Prop} (h : ∀ (kp : A0 → Option R), (∀ a0, kp a0 = some r → G a0) → ∀ a0, body kp a0 = some r → G a0) : ∀ (fu : Nat) a0, lq1 body fu a0 = some r → G a0 := by
  intro fu
  induction fu with
  | zero => intro a0 hf; cases hf
  | succ n ih => exact h _ ih
def lq2 {A0 A1 R : Type} (body : (A0 → A1 → Option R) → A0 → A1 → Option R) : Nat → A0 → A1 → Option R
  | 0 => fun _ _ => none
  | n + 1 => body (lq2 body n)
theorem lq2_V {A0 A1 R : Type} {body : (A0 → A1 → Option R) → A0 → A1 → Option R} {r : R} {G : A0 → A1 → Prop} (h : ∀ (kp : A0 → A1 → Option R), (∀ a0 a1, kp a0 a1 = some r → G a0 a1) → ∀ a0 a1, body kp a0 a1 = some r → G a0 a1) : ∀ (fu : Nat) a0 a1, lq2 body fu a0 a1 = some r → G a0 a1 := by
  intro fu
  induction fu with
  | zero => intro a0 a1 hf; cases hf
  | succ n ih => exact h _ ih
def lq3 {A0 A1 A2 R : Type} (body : (A0 → A1 → A2 → Option R) → A0 → A1 → A2 → Option R) : Nat → A0 → A1 → A2 → Option R
  | 0 => fun _ _ _ => none
  | n + 1 => body (lq3 body n)
theorem lq3_V {A0 A1 A2 R : Type} {body : (A0 → A1 → A2 → Option R) → A0 → A1 → A2 → Option R} {r : R} {G : A0 → A1 → A2 → Prop} (h : ∀ (kp : A0 → A1 → A2 → Option R), (∀ a0 a1 a2, kp a0 a1 a2 = some r → G a0 a1 a2) → ∀ a0 a1 a2, body kp a0 a1 a2 = some r → G a0 a1 a2) : ∀ (fu : Nat) a0 a1 a2, lq3 body fu a0 a1 a2 = some r → G a0 a1 a2 := by
  intro fu
  induction fu with
  | zero => intro a0 a1 a2 hf; cases hf
  | succ n ih => exact h _ ih
def lq4 {A0 A1 A2 A3 R : Type} (body : (A0 → A1 → A2 → A3 → Option R) → A0 → A1 → A2 → A3 → Option R) : Nat → A0 → A1 → A2 → A3 → Option R
  | 0 => fun _ _ _ _ => none
  | n + 1 => body (lq4 body n)
theorem lq4_V {A0 A1 A2 A3 R : Type} {body : (A0 → A1 → A2 → A3 → Option R) → A0 → A1 → A2 → A3 → Option R} {r : R} {G : A0 → A1 → A2 → A3 → Prop} (h : ∀ (kp : A0 → A1 → A2 → A3 → Option R), (∀ a0 a1 a2 a3, kp a0 a1 a2 a3 = some r → G a0 a1 a2 a3) → ∀ a0 a1 a2 a3, body kp a0 a1 a2 a3 = some r → G a0 a1 a2 a3) : ∀ (fu : Nat) a0 a1 a2 a3, lq4 body fu a0 a1 a2 a3 = some r → G a0 a1 a2 a3 := by
  intro fu
  induction fu with
  | zero => intro a0 a1 a2 a3 hf; cases hf
  | succ n ih => exact h _ ih
def lq5 {A0 A1 A2 A3 A4 R : Type} (body : (A0 → A1 → A2 → A3 → A4 → Option R) → A0 → A1 → A2 → A3 → A4 → Option R) : Nat → A0 → A1 → A2 → A3 → A4 → Option R
  | 0 => fun _ _ _ _ _ => none
  | n + 1 => body (lq5 body n)
theorem lq5_V {A0 A1 A2 A3 A4 R : Type} {body : (A0 → A1 → A2 → A3 → A4 → Option R) → A0 → A1 → A2 → A3 → A4 → Option R} {r : R} {G : A0 → A1 → A2 → A3 → A4 → Prop} (h : ∀ (kp : A0 → A1 → A2 → A3 → A4 → Option R), (∀ a0 a1 a2 a3 a4, kp a0 a1 a2 a3 a4 = some r → G a0 a1 a2 a3 a4) → ∀ a0 a1 a2 a3 a4, body kp a0 a1 a2 a3 a4 = some r → G a0 a1 a2 a3 a4) : ∀ (fu : Nat) a0 a1 a2 a3 a4, lq5 body fu a0 a1 a2 a3 a4 = some r → G a0 a1 a2 a3 a4 := by
  intro fu
  induction fu with
  | zero => intro a0 a1 a2 a3 a4 hf; cases hf
  | succ n ih => exact h _ ih
def lq6 {A0 A1 A2 A3 A4 A5 R : Type} (body : (A0 → A1 → A2 → A3 → A4 → A5 → Option R) → A0 → A1 → A2 → A3 → A4 → A5 → Option R) : Nat → A0 → A1 → A2 → A3 → A4 → A5 → Option R
  | 0 => fun _ _ _ _ _ _ => none
  | n + 1 => body (lq6 body n)
theorem lq6_V {A0 A1 A2 A3 A4 A5 R : Type} {body : (A0 → A1 → A2 → A3 → A4 → A5 → Option R) → A0 → A1 → A2 → A3 → A4 → A5 → Option R} {r : R} {G : A0 → A1 → A2 → A3 → A4 → A5 → Prop} (h : ∀ (kp : A0 → A1 → A2 → A3 → A4 → A5 → Option R), (∀ a0 a1 a2 a3 a4 a5, kp a0 a1 a2 a3 a4 a5 = some r → G a0 a1 a2 a3 a4 a5) → ∀ a0 a1 a2 a3 a4 a5, body kp a0 a1 a2 a3 a4 a5 = some r → G a0 a1 a2 a3 a4 a5) : ∀ (fu : Nat) a0 a1 a2 a3 a4 a5, lq6 body fu a0 a1 a2 a3 a4 a5 = some r → G a0 a1 a2 a3 a4 a5 := by
  intro fu
  induction fu with
  | zero => intro a0 a1 a2 a3 a4 a5 hf; cases hf
  | succ n ih => exact h _ ih
def lq7 {A0 A1 A2 A3 A4 A5 A6 R : Type} (body : (A0 → A1 → A2 → A3 → A4 → A5 → A6 → Option R) → A0 → A1 → A2 → A3 → A4 → A5 → A6 → Option R) : Nat → A0 → A1 → A2 → A3 → A4 → A5 → A6 → Option R
  | 0 => fun _ _ _ _ _ _ _ => none
  | n + 1 => body (lq7 body n)
theorem lq7_V {A0 A1 A2 A3 A4 A5 A6 R : Type} {body : (A0 → A1 → A2 → A3 → A4 → A5 → A6 → Option R) → A0 → A1 → A2 → A3 → A4 → A5 → A6 → Option R} {r : R} {G : A0 → A1 → A2 → A3 → A4 → A5 → A6 → Prop} (h : ∀ (kp : A0 → A1 → A2 → A3 → A4 → A5 → A6 → Option R), (∀ a0 a1 a2 a3 a4 a5 a6, kp a0 a1 a2 a3 a4 a5 a6 = some r → G a0 a1 a2 a3 a4 a5 a6) → ∀ a0 a1 a2 a3 a4 a5 a6, body kp a0 a1 a2 a3 a4 a5 a6 = some r → G a0 a1 a2 a3 a4 a5 a6) : ∀ (fu : Nat) a0 a1 a2 a3 a4 a5 a6, lq7 body fu a0 a1 a2 a3 a4 a5 a6 = some r → G a0 a1 a2 a3 a4 a5 a6 := by
  intro fu
  induction fu with
  | zero => intro a0 a1 a2 a3 a4 a5 a6 hf; cases hf
  | succ n ih => exact h _ ih
def lq8 {A0 A1 A2 A3 A4 A5 A6 A7 R : Type} (body : (A0 → A1 → A2 → A3 → A4 → A5 → A6 → A7 → Option R) → A0 → A1 → A2 → A3 → A4 → A5 → A6 → A7 → Option R) : Nat → A0 → A1 → A2 → A3 → A4 → A5 → A6 → A7 → Option R
  | 0 => fun _ _ _ _ _ _ _ _ => none
  | n + 1 => body (lq8 body n)
theorem lq8_V {A0 A1 A2 A3 A4 A5 A6 A7 R : Type} {body : (A0 → A1 → A2 → A3 → A4 → A5 → A6 → A7 → Option R) → A0 → A1 → A2 → A3 → A4 → A5 → A6 → A7 → Option R} {r : R} {G : A0 → A1 → A2 → A3 → A4 → A5 → A6 → A7 → Prop} (h : ∀ (kp : A0 → A1 → A2 → A3 → A4 → A5 → A6 → A7 → Option R), (∀ a0 a1 a2 a3 a4 a5 a6 a7, kp a0 a1 a2 a3 a4 a5 a6 a7 = some r → G a0 a1 a2 a3 a4 a5 a6 a7) → ∀ a0 a1 a2 a3 a4 a5 a6 a7, body kp a0 a1 a2 a3 a4 a5 a6 a7 = some r → G a0 a1 a2 a3 a4 a5 a6 a7) : ∀ (fu : Nat) a0 a1 a2 a3 a4 a5 a6 a7, lq8 body fu a0 a1 a2 a3 a4 a5 a6 a7 = some r → G a0 a1 a2 a3 a4 a5 a6 a7 := by
  intro fu
  induction fu with
  | zero => intro a0 a1 a2 a3 a4 a5 a6 a7 hf; cases hf
  | succ n ih => exact h _ ih
def lq9 {A0 A1 A2 A3 A4 A5 A6 A7 A8 R : Type} (body : (A0 → A1 → A2 → A3 → A4 → A5 → A6 → A7 → A8 → Option R) → A0 → A1 → A2 → A3 → A4 → A5 → A6 → A7 → A8 → Option R) : Nat → A0 → A1 → A2 → A3 → A4 → A5 → A6 → A7 → A8 → Option R
  | 0 => fun _ _ _ _ _ _ _ _ _ => none
  | n + 1 => body (lq9 body n)
theorem lq9_V {A0 A1 A2 A3 A4 A5 A6 A7 A8 R : Type} {body : (A0 → A1 → A2 → A3 → A4 → A5 → A6 → A7 → A8 → Option R) → A0 → A1 → A2 → A3 → A4 → A5 → A6 → A7 → A8 → Option R} {r : R} {G : A0 → A1 → A2 → A3 → A4 → A5 → A6 → A7 → A8 → Prop} (h : ∀ (kp : A0 → A1 → A2 → A3 → A4 → A5 → A6 → A7 → A8 → Option R), (∀ a0 a1 a2 a3 a4 a5 a6 a7 a8, kp a0 a1 a2 a3 a4 a5 a6 a7 a8 = some r → G a0 a1 a2 a3 a4 a5 a6 a7 a8) → ∀ a0 a1 a2 a3 a4 a5 a6 a7 a8, body kp a0 a1 a2 a3 a4 a5 a6 a7 a8 = some r → G a0 a1 a2 a3 a4 a5 a6 a7 a8) : ∀ (fu : Nat) a0 a1 a2 a3 a4 a5 a6 a7 a8, lq9 body fu a0 a1 a2 a3 a4 a5 a6 a7 a8 = some r → G a0 a1 a2 a3 a4 a5 a6 a7 a8 := by
  intro fu
  induction fu with
  | zero => intro a0 a1 a2 a3 a4 a5 a6 a7 a8 hf; cases hf
  | succ n ih => exact h _ ih
def lq10 {A0 A1 A2 A3 A4 A5 A6 A7 A8 A9 R : Type} (body : (A0 → A1 → A2 → A3 → A4 → A5 → A6 → A7 → A8 → A9 → Option R) → A0 → A1 → A2 → A3 → A4 → A5 → A6 → A7 → A8 → A9 → Option R) : Nat → A0 → A1 → A2 → A3 → A4 → A5 → A6 → A7 → A8 → A9 → Option R
  | 0 => fun _ _ _ _ _ _ _ _ _ _ => none
  | n + 1 => body (lq10 body n)
theorem lq10_V {A0 A1 A2 A3 A4 A5 A6 A7 A8 A9 R : Type} {body : (A0 → A1 → A2 → A3 → A4 → A5 → A6 → A7 → A8 → A9 → Option R) → A0 → A1 → A2 → A3 → A4 → A5 → A6 → A7 → A8 → A9 → Option R} {r : R} {G : A0 → A1 → A2 → A3 → A4 → A5 → A6 → A7 → A8 → A9 → Prop} (h : ∀ (kp : A0 → A1 → A2 → A3 → A4 → A5 → A6 → A7 → A8 → A9 → Option R), (∀ a0 a1 a2 a3 a4 a5 a6 a7 a8 a9, kp a0 a1 a2 a3 a4 a5 a6 a7 a8 a9 = some r → G a0 a1 a2 a3 a4 a5 a6 a7 a8 a9) → ∀ a0 a1 a2 a3 a4 a5 a6 a7 a8 a9, body kp a0 a1 a2 a3 a4 a5 a6 a7 a8 a9 = some r → G a0 a1 a2 a3 a4 a5 a6 a7 a8 a9) : ∀ (fu : Nat) a0 a1 a2 a3 a4 a5 a6 a7 a8 a9, lq10 body fu a0 a1 a2 a3 a4 a5 a6 a7 a8 a9 = some r → G a0 a1 a2 a3 a4 a5 a6 a7 a8 a9 := by
  intro fu
  induction fu with
  | zero => intro a0 a1 a2 a3 a4 a5 a6 a7 a8 a9 hf; cases hf
  | succ n ih => exact h _ ih
def lq11 {A0 A1 A2 A3 A4 A5 A6 A7 A8 A9 A10 R : Type} (body : (A0 → A1 → A2 → A3 → A4 → A5 → A6 → A7 → A8 → A9 → A10 → Option R) → A0 → A1 → A2 → A3 → A4 → A5 → A6 → A7 → A8 → A9 → A10 → Option R) : Nat → A0 → A1 → A2 → A3 → A4 → A5 → A6 → A7 → A8 → A9 → A10 → Option R
  | 0 => fun _ _ _ _ _ _ _ _ _ _ _ => none
  | n + 1 => body (lq11 body n)
theorem lq11_V {A0 A1 A2 A3 A4 A5 A6 A7 A8 A9 A10 R : Type} {body : (A0 → A1 → A2 → A3 → A4 → A5 → A6 → A7 → A8 → A9 → A10 → Option R) → A0 → A1 → A2 → A3 → A4 → A5 → A6 → A7 → A8 → A9 → A10 → Option R} {r : R} {G : A0 → A1 → A2 → A3 → A4 → A5 → A6 → A7 → A8 → A9 → A10 → Prop} (h : ∀ (kp : A0 → A1 → A2 → A3 → A4 → A5 → A6 → A7 → A8 → A9 → A10 → Option R), (∀ a0 a1 a2 a3 a4 a5 a6 a7 a8 a9 a10, kp a0 a1 a2 a3 a4 a5 a6 a7 a8 a9 a10 = some r → G a0 a1 a2 a3 a4 a5 a6 a7 a8 a9 a10) → ∀ a0 a1 a2 a3 a4 a5 a6 a7 a8 a9 a10, body kp a0 a1 a2 a3 a4 a5 a6 a7 a8 a9 a10 = some r → G a0 a1 a2 a3 a4 a5 a6 a7 a8 a9 a10) : ∀ (fu : Nat) a0 a1 a2 a3 a4 a5 a6 a7 a8 a9 a10, lq11 body fu a0 a1 a2 a3 a4 a5 a6 a7 a8 a9 a10 = some r → G a0 a1 a2 a3 a4 a5 a6 a7 a8 a9 a10 := by
  intro fu
  induction fu with
  | zero => intro a0 a1 a2 a3 a4 a5 a6 a7 a8 a9 a10 hf; cases hf
  | succ n ih => exact h _ ih
def lq12 {A0 A1 A2 A3 A4 A5 A6 A7 A8 A9 A10 A11 R : Type} (body : (A0 → A1 → A2 → A3 → A4 → A5 → A6 → A7 → A8 → A9 → A10 → A11 → Option R) → A0 → A1 → A2 → A3 → A4 → A5 → A6 → A7 → A8 → A9 → A10 → A11 → Option R) : Nat → A0 → A1 → A2 → A3 → A4 → A5 → A6 → A7 → A8 → A9 → A10 → A11 → Option R
  | 0 => fun _ _ _ _ _ _ _ _ _ _ _ _ => none
  | n + 1 => body (lq12 body n)
theorem lq12_V {A0 A1 A2 A3 A4 A5 A6 A7 A8 A9 A10 A11 R : Type} {body : (A0 → A1 → A2 → A3 → A4 → A5 → A6 → A7 → A8 → A9 → A10 → A11 → Option R) → A0 → A1 → A2 → A3 → A4 → A5 → A6 → A7 → A8 → A9 → A10 → A11 → Option R} {r : R} {G : A0 → A1 → A2 → A3 → A4 → A5 → A6 → A7 → A8 → A9 → A10 → A11 → Prop} (h : ∀ (kp : A0 → A1 → A2 → A3 → A4 → A5 → A6 → A7 → A8 → A9 → A10 → A11 → Option R), (∀ a0 a1 a2 a3 a4 a5 a6 a7 a8 a9 a10 a11, kp a0 a1 a2 a3 a4 a5 a6 a7 a8 a9 a10 a11 = some r → G a0 a1 a2 a3 a4 a5 a6 a7 a8 a9 a10 a11) → ∀ a0 a1 a2 a3 a4 a5 a6 a7 a8 a9 a10 a11, body kp a0 a1 a2 a3 a4 a5 a6 a7 a8 a9 a10 a11 = some r → G a0 a1 a2 a3 a4 a5 a6 a7 a8 a9 a10 a11) : ∀ (fu : Nat) a0 a1 a2 a3 a4 a5 a6 a7 a8 a9 a10 a11, lq12 body fu a0 a1 a2 a3 a4 a5 a6 a7 a8 a9 a10 a11 = some r → G a0 a1 a2 a3 a4 a5 a6 a7 a8 a9 a10 a11 := by
  intro fu
  induction fu with
  | zero => intro a0 a1 a2 a3 a4 a5 a6 a7 a8 a9 a10 a11 hf; cases hf
  | succ n ih => exact h _ ih
def lq13 {A0 A1 A2 A3 A4 A5 A6 A7 A8 A9 A10 A11 A12 R : Type} (body : (A0 → A1 → A2 → A3 → A4 → A5 → A6 → A7 → A8 → A9 → A10 → A11 → A12 → Option R) → A0 → A1 → A2 → A3 → A4 → A5 → A6 → A7 → A8 → A9 → A10 → A11 → A12 → Option R) : Nat → A0 → A1 → A2 → A3 → A4 → A5 → A6 → A7 → A8 → A9 → A10 → A11 → A12 → Option R
  | 0 => fun _ _ _ _ _ _ _ _ _ _ _ _ _ => none
  | n + 1 => body (lq13 body n)
theorem lq13_V {A0 A1 A2 A3 A4 A5 A6 A7 A8 A9 A10 A11 A12 R : Type} {body : (A0 → A1 → A2 → A3 → A4 → A5 → A6 → A7 → A8 → A9 → A10 → A11 → A12 → Option R) → A0 → A1 → A2 → A3 → A4 → A5 → A6 → A7 → A8 → A9 → A10 → A11 → A12 → Option R} {r : R} {G : A0 → A1 → A2 → A3 → A4 → A5 → A6 → A7 → A8 → A9 → A10 → A11 → A12 → Prop} (h : ∀ (kp : A0 → A1 → A2 → A3 → A4 → A5 → A6 → A7 → A8 → A9 → A10 → A11 → A12 → Option R), (∀ a0 a1 a2 a3 a4 a5 a6 a7 a8 a9 a10 a11 a12, kp a0 a1 a2 a3 a4 a5 a6 a7 a8 a9 a10 a11 a12 = some r → G a0 a1 a2 a3 a4 a5 a6 a7 a8 a9 a10 a11 a12) → ∀ a0 a1 a2 a3 a4 a5 a6 a7 a8 a9 a10 a11 a12, body kp a0 a1 a2 a3 a4 a5 a6 a7 a8 a9 a10 a11 a12 = some r → G a0 a1 a2 a3 a4 a5 a6 a7 a8 a9 a10 a11 a12) : ∀ (fu : Nat) a0 a1 a2 a3 a4 a5 a6 a7 a8 a9 a10 a11 a12, lq13 body fu a0 a1 a2 a3 a4 a5 a6 a7 a8 a9 a10 a11 a12 = some r → G a0 a1 a2 a3 a4 a5 a6 a7 a8 a9 a10 a11 a12 := by
  intro fu
  induction fu with
  | zero => intro a0 a1 a2 a3 a4 a5 a6 a7 a8 a9 a10 a11 a12 hf; cases hf
  | succ n ih => exact h _ ih
def lq14 {A0 A1 A2 A3 A4 A5 A6 A7 A8 A9 A10 A11 A12 A13 R : Type} (body : (A0 → A1 → A2 → A3 → A4 → A5 → A6 → A7 → A8 → A9 → A10 → A11 → A12 → A13 → Option R) → A0 → A1 → A2 → A3 → A4 → A5 → A6 → A7 → A8 → A9 → A10 → A11 → A12 → A13 → Option R) : Nat → A0 → A1 → A2 → A3 → A4 → A5 → A6 → A7 → A8 → A9 → A10 → A11 → A12 → A13 → Option R
  | 0 => fun _ _ _ _ _ _ _ _ _ _ _ _ _ _ => none
  | n + 1 => body (lq14 body n)
theorem lq14_V {A0 A1 A2 A3 A4 A5 A6 A7 A8 A9 A10 A11 A12 A13 R : Type} {body : (A0 → A1 → A2 → A3 → A4 → A5 → A6 → A7 → A8 → A9 → A10 → A11 → A12 → A13 → Option R) → A0 → A1 → A2 → A3 → A4 → A5 → A6 → A7 → A8 → A9 → A10 → A11 → A12 → A13 → Option R} {r : R} {G : A0 → A1 → A2 → A3 → A4 → A5 → A6 → A7 → A8 → A9 → A10 → A11 → A12 → A13 → Prop} (h : ∀ (kp : A0 → A1 → A2 → A3 → A4 → A5 → A6 → A7 → A8 → A9 → A10 → A11 → A12 → A13 → Option R), (∀ a0 a1 a2 a3 a4 a5 a6 a7 a8 a9 a10 a11 a12 a13, kp a0 a1 a2 a3 a4 a5 a6 a7 a8 a9 a10 a11 a12 a13 = some r → G a0 a1 a2 a3 a4 a5 a6 a7 a8 a9 a10 a11 a12 a13) → ∀ a0 a1 a2 a3 a4 a5 a6 a7 a8 a9 a10 a11 a12 a13, body kp a0 a1 a2 a3 a4 a5 a6 a7 a8 a9 a10 a11 a12 a13 = some r → G a0 a1 a2 a3 a4 a5 a6 a7 a8 a9 a10 a11 a12 a13) : ∀ (fu : Nat) a0 a1 a2 a3 a4 a5 a6 a7 a8 a9 a10 a11 a12 a13, lq14 body fu a0 a1 a2 a3 a4 a5 a6 a7 a8 a9 a10 a11 a12 a13 = some r → G a0 a1 a2 a3 a4 a5 a6 a7 a8 a9 a10 a11 a12 a13 := by
  intro fu
  induction fu with
  | zero => intro a0 a1 a2 a3 a4 a5 a6 a7 a8 a9 a10 a11 a12 a13 hf; cases hf
  | succ n ih => exact h _ ih
def lq15 {A0 A1 A2 A3 A4 A5 A6 A7 A8 A9 A10 A11 A12 A13 A14 R : Type} (body : (A0 → A1 → A2 → A3 → A4 → A5 → A6 → A7 → A8 → A9 → A10 → A11 → A12 → A13 → A14 → Option R) → A0 → A1 → A2 → A3 → A4 → A5 → A6 → A7 → A8 → A9 → A10 → A11 → A12 → A13 → A14 → Option R) : Nat → A0 → A1 → A2 → A3 → A4 → A5 → A6 → A7 → A8 → A9 → A10 → A11 → A12 → A13 → A14 → Option R
  | 0 => fun _ _ _ _ _ _ _ _ _ _ _ _ _ _ _ => none
  | n + 1 => body (lq15 body n)
theorem lq15_V {A0 A1 A2 A3 A4 A5 A6 A7 A8 A9 A10 A11 A12 A13 A14 R : Type} {body : (A0 → A1 → A2 → A3 → A4 → A5 → A6 → A7 → A8 → A9 → A10 → A11 → A12 → A13 → A14 → Option R) → A0 → A1 → A2 → A3 → A4 → A5 → A6 → A7 → A8 → A9 → A10 → A11 → A12 → A13 → A14 → Option R} {r : R} {G : A0 → A1 → A2 → A3 → A4 → A5 → A6 → A7 → A8 → A9 → A10 → A11 → A12 → A13 → A14 → Prop} (h : ∀ (kp : A0 → A1 → A2 → A3 → A4 → A5 → A6 → A7 → A8 → A9 → A10 → A11 → A12 → A13 → A14 → Option R), (∀ a0 a1 a2 a3 a4 a5 a6 a7 a8 a9 a10 a11 a12 a13 a14, kp a0 a1 a2 a3 a4 a5 a6 a7 a8 a9 a10 a11 a12 a13 a14 = some r → G a0 a1 a2 a3 a4 a5 a6 a7 a8 a9 a10 a11 a12 a13 a14) → ∀ a0 a1 a2 a3 a4 a5 a6 a7 a8 a9 a10 a11 a12 a13 a14, body kp a0 a1 a2 a3 a4 a5 a6 a7 a8 a9 a10 a11 a12 a13 a14 = some r → G a0 a1 a2 a3 a4 a5 a6 a7 a8 a9 a10 a11 a12 a13 a14) : ∀ (fu : Nat) a0 a1 a2 a3 a4 a5 a6 a7 a8 a9 a10 a11 a12 a13 a14, lq15 body fu a0 a1 a2 a3 a4 a5 a6 a7 a8 a9 a10 a11 a12 a13 a14 = some r → G a0 a1 a2 a3 a4 a5 a6 a7 a8 a9 a10 a11 a12 a13 a14 := by
  intro fu
  induction fu with
  | zero => intro a0 a1 a2 a3 a4 a5 a6 a7 a8 a9 a10 a11 a12 a13 a14 hf; cases hf
  | succ n ih => exact h _ ih
def lq16 {A0 A1 A2 A3 A4 A5 A6 A7 A8 A9 A10 A11 A12 A13 A14 A15 R : Type} (body : (A0 → A1 → A2 → A3 → A4 → A5 → A6 → A7 → A8 → A9 → A10 → A11 → A12 → A13 → A14 → A15 → Option R) → A0 → A1 → A2 → A3 → A4 → A5 → A6 → A7 → A8 → A9 → A10 → A11 → A12 → A13 → A14 → A15 → Option R) : Nat → A0 → A1 → A2 → A3 → A4 → A5 → A6 → A7 → A8 → A9 → A10 → A11 → A12 → A13 → A14 → A15 → Option R
  | 0 => fun _ _ _ _ _ _ _ _ _ _ _ _ _ _ _ _ => none
  | n + 1 => body (lq16 body n)
theorem lq16_V {A0 A1 A2 A3 A4 A5 A6 A7 A8 A9 A10 A11 A12 A13 A14 A15 R : Type} {body : (A0 → A1 → A2 → A3 → A4 → A5 → A6 → A7 → A8 → A9 → A10 → A11 → A12 → A13 → A14 → A15 → Option R) → A0 → A1 → A2 → A3 → A4 → A5 → A6 → A7 → A8 → A9 → A10 → A11 → A12 → A13 → A14 → A15 → Option R} {r : R} {G : A0 → A1 → A2 → A3 → A4 → A5 → A6 → A7 → A8 → A9 → A10 → A11 → A12 → A13 → A14 → A15 → Prop} (h : ∀ (kp : A0 → A1 → A2 → A3 → A4 → A5 → A6 → A7 → A8 → A9 → A10 → A11 → A12 → A13 → A14 → A15 → Option R), (∀ a0 a1 a2 a3 a4 a5 a6 a7 a8 a9 a10 a11 a12 a13 a14 a15, kp a0 a1 a2 a3 a4 a5 a6 a7 a8 a9 a10 a11 a12 a13 a14 a15 = some r → G a0 a1 a2 a3 a4 a5 a6 a7 a8 a9 a10 a11 a12 a13 a14 a15) → ∀ a0 a1 a2 a3 a4 a5 a6 a7 a8 a9 a10 a11 a12 a13 a14 a15, body kp a0 a1 a2 a3 a4 a5 a6 a7 a8 a9 a10 a11 a12 a13 a14 a15 = some r → G a0 a1 a2 a3 a4 a5 a6 a7 a8 a9 a10 a11 a12 a13 a14 a15) : ∀ (fu : Nat) a0 a1 a2 a3 a4 a5 a6 a7 a8 a9 a10 a11 a12 a13 a14 a15, lq16 body fu a0 a1 a2 a3 a4 a5 a6 a7 a8 a9 a10 a11 a12 a13 a14 a15 = some r → G a0 a1 a2 a3 a4 a5 a6 a7 a8 a9 a10 a11 a12 a13 a14 a15 := by
  intro fu
  induction fu with
  | zero => intro a0 a1 a2 a3 a4 a5 a6 a7 a8 a9 a10 a11 a12 a13 a14 a15 hf; cases hf
  | succ n ih => exact h _ ih
def lq17 {A0 A1 A2 A3 A4 A5 A6 A7 A8 A9 A10 A11 A12 A13 A14 A15 A16 R : Type} (body : (A0 → A1 → A2 → A3 → A4 → A5 → A6 → A7 → A8 → A9 → A10 → A11 → A12 → A13 → A14 → A15 → A16 → Option R) → A0 → A1 → A2 → A3 → A4 → A5 → A6 → A7 → A8 → A9 → A10 → A11 → A12 → A13 → A14 → A15 → A16 → Option R) : Nat → A0 → A1 → A2 → A3 → A4 → A5 → A6 → A7 → A8 → A9 → A10 → A11 → A12 → A13 → A14 → A15 → A16 → Option R
  | 0 => fun _ _ _ _ _ _ _ _ _ _ _ _ _ _ _ _ _ => none
  | n + 1 => body (lq17 body n)
theorem lq17_V {A0 A1 A2 A3 A4 A5 A6 A7 A8 A9 A10 A11 A12 A13 A14 A15 A16 R : Type} {body : (A0 → A1 → A2 → A3 → A4 → A5 → A6 → A7 → A8 → A9 → A10 → A11 → A12 → A13 → A14 → A15 → A16 → Option R) → A0 → A1 → A2 → A3 → A4 → A5 → A6 → A7 → A8 → A9 → A10 → A11 → A12 → A13 → A14 → A15 → A16 → Option R} {r : R} {G : A0 → A1 → A2 → A3 → A4 → A5 → A6 → A7 → A8 → A9 → A10 → A11 → A12 → A13 → A14 → A15 → A16 → Prop} (h : ∀ (kp : A0 → A1 → A2 → A3 → A4 → A5 → A6 → A7 → A8 → A9 → A10 → A11 → A12 → A13 → A14 → A15 → A16 → Option R), (∀ a0 a1 a2 a3 a4 a5 a6 a7 a8 a9 a10 a11 a12 a13 a14 a15 a16, kp a0 a1 a2 a3 a4 a5 a6 a7 a8 a9 a10 a11 a12 a13 a14 a15 a16 = some r → G a0 a1 a2 a3 a4 a5 a6 a7 a8 a9 a10 a11 a12 a13 a14 a15 a16) → ∀ a0 a1 a2 a3 a4 a5 a6 a7 a8 a9 a10 a11 a12 a13 a14 a15 a16, body kp a0 a1 a2 a3 a4 a5 a6 a7 a8 a9 a10 a11 a12 a13 a14 a15 a16 = some r → G a0 a1 a2 a3 a4 a5 a6 a7 a8 a9 a10 a11 a12 a13 a14 a15 a16) : ∀ (fu : Nat) a0 a1 a2 a3 a4 a5 a6 a7 a8 a9 a10 a11 a12 a13 a14 a15 a16, lq17 body fu a0 a1 a2 a3 a4 a5 a6 a7 a8 a9 a10 a11 a12 a13 a14 a15 a16 = some r → G a0 a1 a2 a3 a4 a5 a6 a7 a8 a9 a10 a11 a12 a13 a14 a15 a16 := by
  intro fu
  induction fu with
  | zero => intro a0 a1 a2 a3 a4 a5 a6 a7 a8 a9 a10 a11 a12 a13 a14 a15 a16 hf; cases hf
  | succ n ih => exact h _ ih
def lq18 {A0 A1 A2 A3 A4 A5 A6 A7 A8 A9 A10 A11 A12 A13 A14 A15 A16 A17 R : Type} (body : (A0 → A1 → A2 → A3 → A4 → A5 → A6 → A7 → A8 → A9 → A10 → A11 → A12 → A13 → A14 → A15 → A16 → A17 → Option R) → A0 → A1 → A2 → A3 → A4 → A5 → A6 → A7 → A8 → A9 → A10 → A11 → A12 → A13 → A14 → A15 → A16 → A17 → Option R) : Nat → A0 → A1 → A2 → A3 → A4 → A5 → A6 → A7 → A8 → A9 → A10 → A11 → A12 → A13 → A14 → A15 → A16 → A17 → Option R
  | 0 => fun _ _ _ _ _ _ _ _ _ _ _ _ _ _ _ _ _ _ => none
  | n + 1 => body (lq18 body n)
theorem lq18_V {A0 A1 A2 A3 A4 A5 A6 A7 A8 A9 A10 A11 A12 A13 A14 A15 A16 A17 R : Type} {body : (A0 → A1 → A2 → A3 → A4 → A5 → A6 → A7 → A8 → A9 → A10 → A11 → A12 → A13 → A14 → A15 → A16 → A17 → Option R) → A0 → A1 → A2 → A3 → A4 → A5 → A6 → A7 → A8 → A9 → A10 → A11 → A12 → A13 → A14 → A15 → A16 → A17 → Option R} {r : R} {G : A0 → A1 → A2 → A3 → A4 → A5 → A6 → A7 → A8 → A9 → A10 → A11 → A12 → A13 → A14 → A15 → A16 → A17 → Prop} (h : ∀ (kp : A0 → A1 → A2 → A3 → A4 → A5 → A6 → A7 → A8 → A9 → A10 → A11 → A12 → A13 → A14 → A15 → A16 → A17 → Option R), (∀ a0 a1 a2 a3 a4 a5 a6 a7 a8 a9 a10 a11 a12 a13 a14 a15 a16 a17, kp a0 a1 a2 a3 a4 a5 a6 a7 a8 a9 a10 a11 a12 a13 a14 a15 a16 a17 = some r → G a0 a1 a2 a3 a4 a5 a6 a7 a8 a9 a10 a11 a12 a13 a14 a15 a16 a17) → ∀ a0 a1 a2 a3 a4 a5 a6 a7 a8 a9 a10 a11 a12 a13 a14 a15 a16 a17, body kp a0 a1 a2 a3 a4 a5 a6 a7 a8 a9 a10 a11 a12 a13 a14 a15 a16 a17 = some r → G a0 a1 a2 a3 a4 a5 a6 a7 a8 a9 a10 a11 a12 a13 a14 a15 a16 a17) : ∀ (fu : Nat) a0 a1 a2 a3 a4 a5 a6 a7 a8 a9 a10 a11 a12 a13 a14 a15 a16 a17, lq18 body fu a0 a1 a2 a3 a4 a5 a6 a7 a8 a9 a10 a11 a12 a13 a14 a15 a16 a17 = some r → G a0 a1 a2 a3 a4 a5 a6 a7 a8 a9 a10 a11 a12 a13 a14 a15 a16 a17 := by
  intro fu
  induction fu with
  | zero => intro a0 a1 a2 a3 a4 a5 a6 a7 a8 a9 a10 a11 a12 a13 a14 a15 a16 a17 hf; cases hf
  | succ n ih => exact h _ ih
def lq19 {A0 A1 A2 A3 A4 A5 A6 A7 A8 A9 A10 A11 A12 A13 A14 A15 A16 A17 A18 R : Type} (body : (A0 → A1 → A2 → A3 → A4 → A5 → A6 → A7 → A8 → A9 → A10 → A11 → A12 → A13 → A14 → A15 → A16 → A17 → A18 → Option R) → A0 → A1 → A2 → A3 → A4 → A5 → A6 → A7 → A8 → A9 → A10 → A11 → A12 → A13 → A14 → A15 → A16 → A17 → A18 → Option R) : Nat → A0 → A1 → A2 → A3 → A4 → A5 → A6 → A7 → A8 → A9 → A10 → A11 → A12 → A13 → A14 → A15 → A16 → A17 → A18 → Option R
  | 0 => fun _ _ _ _ _ _ _ _ _ _ _ _ _ _ _ _ _ _ _ => none
  | n + 1 => body (lq19 body n)
theorem lq19_V {A0 A1 A2 A3 A4 A5 A6 A7 A8 A9 A10 A11 A12 A13 A14 A15 A16 A17 A18 R : Type} {body : (A0 → A1 → A2 → A3 → A4 → A5 → A6 → A7 → A8 → A9 → A10 → A11 → A12 → A13 → A14 → A15 → A16 → A17 → A18 → Option R) → A0 → A1 → A2 → A3 → A4 → A5 → A6 → A7 → A8 → A9 → A10 → A11 → A12 → A13 → A14 → A15 → A16 → A17 → A18 → Option R} {r : R} {G : A0 → A1 → A2 → A3 → A4 → A5 → A6 → A7 → A8 → A9 → A10 → A11 → A12 → A13 → A14 → A15 → A16 → A17 → A18 → Prop} (h : ∀ (kp : A0 → A1 → A2 → A3 → A4 → A5 → A6 → A7 → A8 → A9 → A10 → A11 → A12 → A13 → A14 → A15 → A16 → A17 → A18 → Option R), (∀ a0 a1 a2 a3 a4 a5 a6 a7 a8 a9 a10 a11 a12 a13 a14 a15 a16 a17 a18, kp a0 a1 a2 a3 a4 a5 a6 a7 a8 a9 a10 a11 a12 a13 a14 a15 a16 a17 a18 = some r → G a0 a1 a2 a3 a4 a5 a6 a7 a8 a9 a10 a11 a12 a13 a14 a15 a16 a17 a18) → ∀ a0 a1 a2 a3 a4 a5 a6 a7 a8 a9 a10 a11 a12 a13 a14 a15 a16 a17 a18, body kp a0 a1 a2 a3 a4 a5 a6 a7 a8 a9 a10 a11 a12 a13 a14 a15 a16 a17 a18 = some r → G a0 a1 a2 a3 a4 a5 a6 a7 a8 a9 a10 a11 a12 a13 a14 a15 a16 a17 a18) : ∀ (fu : Nat) a0 a1 a2 a3 a4 a5 a6 a7 a8 a9 a10 a11 a12 a13 a14 a15 a16 a17 a18, lq19 body fu a0 a1 a2 a3 a4 a5 a6 a7 a8 a9 a10 a11 a12 a13 a14 a15 a16 a17 a18 = some r → G a0 a1 a2 a3 a4 a5 a6 a7 a8 a9 a10 a11 a12 a13 a14 a15 a16 a17 a18 := by
  intro fu
  induction fu with
  | zero => intro a0 a1 a2 a3 a4 a5 a6 a7 a8 a9 a10 a11 a12 a13 a14 a15 a16 a17 a18 hf; cases hf
  | succ n ih => exact h _ ih
def lq20 {A0 A1 A2 A3 A4 A5 A6 A7 A8 A9 A10 A11 A12 A13 A14 A15 A16 A17 A18 A19 R : Type} (body : (A0 → A1 → A2 → A3 → A4 → A5 → A6 → A7 → A8 → A9 → A10 → A11 → A12 → A13 → A14 → A15 → A16 → A17 → A18 → A19 → Option R) → A0 → A1 → A2 → A3 → A4 → A5 → A6 → A7 → A8 → A9 → A10 → A11 → A12 → A13 → A14 → A15 → A16 → A17 → A18 → A19 → Option R) : Nat → A0 → A1 → A2 → A3 → A4 → A5 → A6 → A7 → A8 → A9 → A10 → A11 → A12 → A13 → A14 → A15 → A16 → A17 → A18 → A19 → Option R
  | 0 => fun _ _ _ _ _ _ _ _ _ _ _ _ _ _ _ _ _ _ _ _ => none
  | n + 1 => body (lq20 body n)
theorem lq20_V {A0 A1 A2 A3 A4 A5 A6 A7 A8 A9 A10 A11 A12 A13 A14 A15 A16 A17 A18 A19 R : Type} {body : (A0 → A1 → A2 → A3 → A4 → A5 → A6 → A7 → A8 → A9 → A10 → A11 → A12 → A13 → A14 → A15 → A16 → A17 → A18 → A19 → Option R) → A0 → A1 → A2 → A3 → A4 → A5 → A6 → A7 → A8 → A9 → A10 → A11 → A12 → A13 → A14 → A15 → A16 → A17 → A18 → A19 → Option R} {r : R} {G : A0 → A1 → A2 → A3 → A4 → A5 → A6 → A7 → A8 → A9 → A10 → A11 → A12 → A13 → A14 → A15 → A16 → A17 → A18 → A19 → Prop} (h : ∀ (kp : A0 → A1 → A2 → A3 → A4 → A5 → A6 → A7 → A8 → A9 → A10 → A11 → A12 → A13 → A14 → A15 → A16 → A17 → A18 → A19 → Option R), (∀ a0 a1 a2 a3 a4 a5 a6 a7 a8 a9 a10 a11 a12 a13 a14 a15 a16 a17 a18 a19, kp a0 a1 a2 a3 a4 a5 a6 a7 a8 a9 a10 a11 a12 a13 a14 a15 a16 a17 a18 a19 = some r → G a0 a1 a2 a3 a4 a5 a6 a7 a8 a9 a10 a11 a12 a13 a14 a15 a16 a17 a18 a19) → ∀ a0 a1 a2 a3 a4 a5 a6 a7 a8 a9 a10 a11 a12 a13 a14 a15 a16 a17 a18 a19, body kp a0 a1 a2 a3 a4 a5 a6 a7 a8 a9 a10 a11 a12 a13 a14 a15 a16 a17 a18 a19 = some r → G a0 a1 a2 a3 a4 a5 a6 a7 a8 a9 a10 a11 a12 a13 a14 a15 a16 a17 a18 a19) : ∀ (fu : Nat) a0 a1 a2 a3 a4 a5 a6 a7 a8 a9 a10 a11 a12 a13 a14 a15 a16 a17 a18 a19, lq20 body fu a0 a1 a2 a3 a4 a5 a6 a7 a8 a9 a10 a11 a12 a13 a14 a15 a16 a17 a18 a19 = some r → G a0 a1 a2 a3 a4 a5 a6 a7 a8 a9 a10 a11 a12 a13 a14 a15 a16 a17 a18 a19 := by
  intro fu
  induction fu with
  | zero => intro a0 a1 a2 a3 a4 a5 a6 a7 a8 a9 a10 a11 a12 a13 a14 a15 a16 a17 a18 a19 hf; cases hf
  | succ n ih => exact h _ ih
theorem wm_max_s : Cond.static Lib.Math.max.name ∈ gw := gw_of (List.mem_append_right _ (List.mem_of_getElem? (i := 466) (by decide +kernel))) (by decide +kernel)
theorem wm_max_c : Cond.code Lib.Math.max.name Lib.Math.max.code 2 (some .int) ∈ gw := gw_of (List.mem_append_right _ (List.mem_of_getElem? (i := 467) (by decide +kernel))) (by decide +kernel)
theorem wm_min_s : Cond.static Lib.Math.min.name ∈ gw := gw_of (List.mem_append_right _ (List.mem_of_getElem? (i := 325) (by decide +kernel))) (by decide +kernel)
theorem wm_min_c : Cond.code Lib.Math.min.name Lib.Math.min.code 2 (some .int) ∈ gw := gw_of (List.mem_append_right _ (List.mem_of_getElem? (i := 326) (by decide +kernel))) (by decide +kernel)
theorem wm_abs_s : Cond.static Lib.Math.abs.name ∈ gw := gw_of (List.mem_append_right _ (List.mem_of_getElem? (i := 443) (by decide +kernel))) (by decide +kernel)
theorem wm_abs_c : Cond.code Lib.Math.abs.name Lib.Math.abs.code 1 (some .int) ∈ gw := gw_of (List.mem_append_right _ (List.mem_of_getElem? (i := 444) (by decide +kernel))) (by decide +kernel)
theorem wm_i : Cond.initialized "java/lang/Math" ∈ gw := gw_of (List.mem_append_right _ (List.mem_of_getElem? (i := 13) (by decide +kernel))) (by decide +kernel)
theorem wa_n : Cond.native arraycopyName ∈ gw := gw_of (List.mem_append_right _ (List.mem_of_getElem? (i := 329) (by decide +kernel))) (by decide +kernel)
theorem wa_s : Cond.static arraycopyName ∈ gw := gw_of (List.mem_append_right _ (List.mem_of_getElem? (i := 328) (by decide +kernel))) (by decide +kernel)
theorem wa_i : Cond.initialized "java/lang/System" ∈ gw := gw_of (List.mem_append_right _ (List.mem_of_getElem? (i := 14) (by decide +kernel))) (by decide +kernel)
section
variable {x : VX} {cc : ByteArray} {own : String} {d0 j : Nat} {ws : va_W} {lv : List (Nat × Value)} {pc : Nat} {st : List Value} {α : Type} {r : α}
theorem v_mmax (X : Cx x cc own d0) {a b : Int32} (hl : Cond.methodLink own j Lib.Math.max.name ∈ gw) (h1 : 1 ≤ d0) (h2 : (st.map fun v => v.category).sum + 13 ≤ 40 * d0) (hd : decode cc pc = .ok (.invokestatic j, 3))
    (kk : V x 0 0 ws lv (pc + 3) (.int (if a < b then b else a) :: st)) : V x 0 0 ws lv pc (.int b :: .int a :: st) :=
  fun H locs ls hP hD hS hl9 => va_mmax X.1 X.2.1 (X.2.2.1.trans hl9.1.symm) X.2.2.2.1 (X.2.2.2.2.1 _ hl) (X.2.2.2.2.1 _ wm_max_s) (X.2.2.2.2.1 _ wm_i) (X.2.2.2.2.1 _ wm_max_c) (Nat.le_trans h1 X.2.2.2.2.2.2.2.2.2.1) (Nat.le_trans h2 X.2.2.2.2.2.2.2.2.2.2.1) (Nat.zero_le _) (Nat.zero_le _) hd (kk H locs ls hP hD hS hl9)
theorem v_mmin (X : Cx x cc own d0) {a b : Int32} (hl : Cond.methodLink own j Lib.Math.min.name ∈ gw) (h1 : 1 ≤ d0) (h2 : (st.map fun v => v.category).sum + 13 ≤ 40 * d0) (hd : decode cc pc = .ok (.invokestatic j, 3))
    (kk : V x 0 0 ws lv (pc + 3) (.int (if b < a then b else a) :: st)) : V x 0 0 ws lv pc (.int b :: .int a :: st) :=
  fun H locs ls hP hD hS hl9 => va_mmin X.1 X.2.1 (X.2.2.1.trans hl9.1.symm) X.2.2.2.1 (X.2.2.2.2.1 _ hl) (X.2.2.2.2.1 _ wm_min_s) (X.2.2.2.2.1 _ wm_i) (X.2.2.2.2.1 _ wm_min_c) (Nat.le_trans h1 X.2.2.2.2.2.2.2.2.2.1) (Nat.le_trans h2 X.2.2.2.2.2.2.2.2.2.2.1) (Nat.zero_le _) (Nat.zero_le _) hd (kk H locs ls hP hD hS hl9)
theorem v_mabs (X : Cx x cc own d0) {a : Int32} (hl : Cond.methodLink own j Lib.Math.abs.name ∈ gw) (h1 : 1 ≤ d0) (h2 : (st.map fun v => v.category).sum + 13 ≤ 40 * d0) (hd : decode cc pc = .ok (.invokestatic j, 3))
    (kk : V x 0 0 ws lv (pc + 3) (.int (if 0 ≤ a then a else 0 - a) :: st)) : V x 0 0 ws lv pc (.int a :: st) :=
  fun H locs ls hP hD hS hl9 => va_mabs X.1 X.2.1 (X.2.2.1.trans hl9.1.symm) X.2.2.2.1 (X.2.2.2.2.1 _ hl) (X.2.2.2.2.1 _ wm_abs_s) (X.2.2.2.2.1 _ wm_i) (X.2.2.2.2.1 _ wm_abs_c) (Nat.le_trans h1 X.2.2.2.2.2.2.2.2.2.1) (Nat.le_trans h2 X.2.2.2.2.2.2.2.2.2.2.1) (Nat.zero_le _) (Nat.zero_le _) hd (kk H locs ls hP hD hS hl9)
def cpok (sp dp n : Int32) (la lb : Nat) : Bool := decide (0 ≤ sp.toInt ∧ 0 ≤ dp.toInt ∧ 0 ≤ n.toInt ∧ sp.toInt + n.toInt ≤ (la : Int) ∧ dp.toInt + n.toInt ≤ (lb : Int))
theorem clampI {a : Int32} (h : 0 ≤ a.toInt) : (a.toNatClampNeg : Int) = a.toInt := by
  have : a.toNatClampNeg = a.toInt.toNat := by first | rfl | exact Int32.toNatClampNeg_eq_toNat_toInt a | simp
  rw [this]; omega
theorem nneg {a : Int32} (h : 0 ≤ a.toInt) : ¬ a < 0 := by
  rw [Int32.lt_iff_toInt_lt, Int32.toInt_zero]; omega
theorem v_copyi (X : Cx x cc own d0) (hl : Cond.methodLink own j arraycopyName ∈ gw) (q0 q1 : Nat) {a b la lb : Nat} {f g : Nat → Int32} (ha : ws[q0]? = some (a, .inl (vxT x 0, la, .inl f))) (hb : ws[q1]? = some (b, .inl (vxT x 0, lb, .inl g))) {sp dp m : Int32} {gg : Option α} (hf : (if cpok sp dp m la lb = true then gg else none) = some r)
    {ws' : va_W} (hw : ws.set q1 (b, .inl (vxT x 0, lb, .inl (va_cpy f g sp.toNatClampNeg dp.toNatClampNeg m.toNatClampNeg))) = ws') (h1 : 1 ≤ d0) (h2 : (st.map fun v => v.category).sum + (nativeFrameWords "java/lang/System" "arraycopy" 5 + 11) ≤ 40 * d0) (hd : decode cc pc = .ok (.invokestatic j, 3))
    (kk : cpok sp dp m la lb = true → gg = some r → V x 0 0 ws' lv (pc + 3) st) : V x 0 0 ws lv pc (.int m :: .int dp :: .ref b :: .int sp :: .ref a :: st) := by
  intro H locs ls hP hD hS hl9
  subst hw
  obtain ⟨hc, hg⟩ := if_some hf
  obtain ⟨c1, c2, c3, c4, c5⟩ := of_decide_eq_true hc
  have e1 := clampI c1
  have e2 := clampI c2
  have e3 := clampI c3
  exact va_copyi X.1 X.2.1 (X.2.2.1.trans hl9.1.symm) X.2.2.2.1 (X.2.2.2.2.1 _ hl) (X.2.2.2.2.1 _ wa_n) (X.2.2.2.2.1 _ wa_s) (X.2.2.2.2.1 _ wa_i) X.2.2.2.2.2.1 hP hD hS q0 q1 0 0 ha hb (ty := .int) rfl rfl rfl (nneg c1) (nneg c2) (nneg c3) (by omega) (by omega) (fun _ _ => rfl) (Nat.le_trans h1 X.2.2.2.2.2.2.2.2.2.1) (Nat.le_trans h2 X.2.2.2.2.2.2.2.2.2.2.1) hd (fun H1 locs1 hP1 hD1 hS1 => kk hc hg H1 locs1 ls hP1 hD1 hS1 hl9)
end
theorem cpy_all {f g : Nat → Int32} {n : Nat} : ∀ j, j < n → va_cpy f g 0 0 n j = f j := fun j h => by
  rw [pk_cpy_in (Nat.zero_le _) (by omega)]; congr 1; omega
