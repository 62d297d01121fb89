section
variable {tv : Int32 → Int32 → Int32 → Int32 → Int32 → Int32 → Int32 → Int32 → Int32} {nT n F L S : Nat} {K N E : Nat → Nat} {pose rule many : Int32} {kinds rows room now gained : Nat → Int32}
/-- the rows behind a pose -/
def rwS (n St F : Nat) (E : Nat → Nat) (pb rows : Nat → Int32) : Nat → Int32 :=
  mp4 n 1 (fun j => nI ((E j + St) % 11)) (mp4 n 3 (fun j => clp (-99999) (rows (4 * j + 3) + pb j) 99999) (mp4 n 2 (fun j => rows (4 * j + 2) ||| (1 <<< (nI (sd (E j) F) &&& 31))) rows))
/-- the room behind a pose -/
def rmS (T F : Nat) (room : Nat → Int32) : Nat → Int32 := upd (upd room 0 (nI ((F + T) % 11))) 3 (room 3 + 1)
theorem passes142 {T St : Nat} {l3 : Int32} {R0 : Nat → Int32} (hn : n ≤ 6) (hF : F < 11) (hT : T < 11) (hSt : St < 11) (h0 : room 0 = nI F) (he : ∀ p, p < n → R0 (4 * p + 1) = nI (E p)) (hE : ∀ p, p < n → E p < 11) :
    ∀ (k i fu : Nat), i + k = n → k < fu → lq2 (f_X7_passes_142 (nI n) room now gained (nI T) (nI St) l3) fu (nI i) (mp4 i 1 (fun j => nI ((E j + St) % 11)) R0) = some (l3, rmS T F room, mp4 n 1 (fun j => nI ((E j + St) % 11)) R0, now, gained) := by
  intro k
  induction k with
  | zero =>
    intro i fu h1 h2
    obtain ⟨fu, rfl⟩ : ∃ g, fu = g + 1 := ⟨fu - 1, by omega⟩
    show f_X7_passes_142 _ _ _ _ _ _ _ (lq2 _ fu) (nI i) _ = _
    unfold f_X7_passes_142
    rw [if_pos (by rw [le_nI] <;> omega), show i = n by omega, c0, c3, h0]
    unfold f_X7_round1
    rw [rot _ hF _ hT]
    rfl
  | succ k ih =>
    intro i fu h1 h2
    obtain ⟨fu, rfl⟩ : ∃ g, fu = g + 1 := ⟨fu - 1, by omega⟩
    show f_X7_passes_142 _ _ _ _ _ _ _ (lq2 _ fu) (nI i) _ = _
    have ih' := ih (i + 1) fu
    generalize lq2 (f_X7_passes_142 (nI n) room now gained (nI T) (nI St) l3) fu = kp at ih' ⊢
    obtain ⟨a1, a2⟩ := ix1 (show i < 6 by omega)
    unfold f_X7_passes_142
    rw [if_neg (by rw [le_nI] <;> omega), if_pos a1, a2, mp4_ge (by decide) (by omega), he i (by omega)]
    unfold f_X7_round1
    rw [rot _ (hE i (by omega)) _ hSt]
    simp only [Option.bind_some]
    rw [if_pos a1, nI_1, mp4_up (by decide) (fun j => nI ((E j + St) % 11)) R0 i]
    exact ih' (by omega) (by omega)
theorem passes36 {T St : Nat} {pb : Nat → Int32} (hn : n ≤ 6) (hF : F < 11) (hT : T < 11) (hSt : St < 11) (h0 : room 0 = nI F) (he : ∀ p, p < n → rows (4 * p + 1) = nI (E p)) (hE : ∀ p, p < n → E p < 11) (hnow : ∀ p, p < n → now p = pb p) :
    ∀ (k i fu : Nat) (acc : Int32), i + k = n → k < fu → lq4 (f_X7_passes_36 (nI n) room now (nI T) (nI St)) fu acc (nI i) (mp4 i 3 (fun j => clp (-99999) (rows (4 * j + 3) + pb j) 99999) (mp4 i 2 (fun j => rows (4 * j + 2) ||| (1 <<< (nI (sd (E j) F) &&& 31))) rows)) (mpN i (fun j => gained j + pb j) gained) = some (smF pb acc i k, rmS T F room, rwS n St F E pb rows, now, mpN n (fun j => gained j + pb j) gained) := by
  intro k
  induction k with
  | zero =>
    intro i fu acc h1 h2
    obtain ⟨fu, rfl⟩ : ∃ g, fu = g + 1 := ⟨fu - 1, by omega⟩
    show f_X7_passes_36 _ _ _ _ _ (lq4 _ fu) acc (nI i) _ _ = _
    unfold f_X7_passes_36
    rw [if_pos (by rw [le_nI] <;> omega), show i = n by omega]
    have := passes142 (now := now) (gained := mpN n (fun j => gained j + pb j) gained) (l3 := acc) (R0 := mp4 n 3 (fun j => clp (-99999) (rows (4 * j + 3) + pb j) 99999) (mp4 n 2 (fun j => rows (4 * j + 2) ||| (1 <<< (nI (sd (E j) F) &&& 31))) rows)) hn hF hT hSt h0 (fun p hp => by rw [mp4_ne (by decide) (by decide), mp4_ne (by decide) (by decide)]; exact he p hp) hE n 0 200 (by omega) (by omega)
    rw [mp4_0] at this
    exact this
  | succ k ih =>
    intro i fu acc h1 h2
    obtain ⟨fu, rfl⟩ : ∃ g, fu = g + 1 := ⟨fu - 1, by omega⟩
    show f_X7_passes_36 _ _ _ _ _ (lq4 _ fu) acc (nI i) _ _ = _
    have ih' := ih (i + 1) fu
    generalize lq4 (f_X7_passes_36 (nI n) room now (nI T) (nI St)) fu = kp at ih' ⊢
    have hin : inb (nI i) 6 = true := inb_nI (by omega) (by decide)
    obtain ⟨b1, b2⟩ := ix2 (show i < 6 by omega)
    obtain ⟨d1, d2⟩ := ix3 (show i < 6 by omega)
    have hs : f_X7_sideOf (nI i) (mp4 i 3 (fun j => clp (-99999) (rows (4 * j + 3) + pb j) 99999) (mp4 i 2 (fun j => rows (4 * j + 2) ||| (1 <<< (nI (sd (E j) F) &&& 31))) rows)) room = some (nI (sd (E i) F)) := by
      unfold f_X7_sideOf
      rw [easelOf7 (n := n) (E := E) hn (fun p hp => by rw [mp4_ne (by decide) (by decide), mp4_ne (by decide) (by decide)]; exact he p hp) (by omega), c0, h0]
      simp only [Option.bind_some, f_X7_round1]
      rw [side_b _ (hE i (by omega)) _ hF]
    unfold f_X7_passes_36
    rw [if_neg (by rw [le_nI] <;> omega), if_pos hin, if_pos hin, if_pos hin, if_pos hin, if_pos b1, hs]
    simp only [Option.bind_some]
    rw [if_pos b1, if_pos d1, if_pos hin, within7 le99999]
    simp only [Option.bind_some]
    rw [if_pos d1, b2, d2, cl_nI (by omega), mpN_at, hnow i (by omega), nI_1]
    have e1 : mp4 i 3 (fun j => clp (-99999) (rows (4 * j + 3) + pb j) 99999) (mp4 i 2 (fun j => rows (4 * j + 2) ||| (1 <<< (nI (sd (E j) F) &&& 31))) rows) (4 * i + 2) = rows (4 * i + 2) := by
      rw [mp4_ne (by decide) (by decide), mp4_ge (by decide) (by omega)]
    rw [e1]
    have e2 : ∀ w : Int32, upd (mp4 i 3 (fun j => clp (-99999) (rows (4 * j + 3) + pb j) 99999) (mp4 i 2 (fun j => rows (4 * j + 2) ||| (1 <<< (nI (sd (E j) F) &&& 31))) rows)) (4 * i + 2) w (4 * i + 3) = rows (4 * i + 3) := by
      intro w
      unfold upd
      rw [if_neg (by omega), mp4_ge (by decide) (by omega), mp4_ne (by decide) (by decide)]
    rw [e2]
    have e3 := mp4_up2 (fun j => clp (-99999) (rows (4 * j + 3) + pb j) 99999) (fun j => rows (4 * j + 2) ||| (1 <<< (nI (sd (E j) F) &&& 31))) rows i
    have e4 := mpN_up (fun j => gained j + pb j) gained i
    try simp only at e3 e4
    rw [e3, e4]
    exact ih' _ (by omega) (by omega)
theorem passes7 {T St : Nat} (hO : OKr n F L S K N E) (hM : RM n F L S K N E pose many kinds rows room) (hr : inb rule nT = true) (hT : T < 11) (hSt : St < 11) :
    f_X7_passes (nI T) (nI St) rule many room rows now gained kinds tv nT = some (smF (pbN tv rule pose n F L S K N E) 0 0 n, rmS T F room, rwS n St F E (pbN tv rule pose n F L S K N E) rows, mpN n (pbN tv rule pose n F L S K N E) now, mpN n (fun j => gained j + pbN tv rule pose n F L S K N E j) gained) := by
  have hn := hO.1
  have hE : ∀ p, p < n → E p < 11 := fun p hp => (hO.2.2.2.2.2 p hp).2.2
  have he : ∀ p, p < n → rows (4 * p + 1) = nI (E p) := fun p hp => (hM.2.2.2.2.2 p hp).2.2
  have hmany := hM.1
  have key : ∀ (k i fu : Nat), i + k = n → k < fu → lq2 (f_X7_passes_5 rule many room rows gained kinds tv nT (nI T) (nI St) 0) fu (nI i) (mpN i (pbN tv rule pose n F L S K N E) now) = some (smF (pbN tv rule pose n F L S K N E) 0 0 n, rmS T F room, rwS n St F E (pbN tv rule pose n F L S K N E) rows, mpN n (pbN tv rule pose n F L S K N E) now, mpN n (fun j => gained j + pbN tv rule pose n F L S K N E j) gained) := by
    intro k
    induction k with
    | zero =>
      intro i fu h1 h2
      obtain ⟨fu, rfl⟩ : ∃ g, fu = g + 1 := ⟨fu - 1, by omega⟩
      show f_X7_passes_5 _ _ _ _ _ _ _ _ _ _ _ (lq2 _ fu) (nI i) _ = _
      unfold f_X7_passes_5
      rw [if_pos (by rw [hmany, le_nI] <;> omega), show i = n by omega, hmany]
      have := passes36 (gained := gained) (now := mpN n (pbN tv rule pose n F L S K N E) now) (pb := pbN tv rule pose n F L S K N E) hn hO.2.1 hT hSt hM.2.1 he hE (fun p hp => mpN_lt hp) n 0 200 0 (by omega) (by omega)
      rw [mp4_0, mp4_0, mpN_0] at this
      exact this
    | succ k ih =>
      intro i fu h1 h2
      obtain ⟨fu, rfl⟩ : ∃ g, fu = g + 1 := ⟨fu - 1, by omega⟩
      show f_X7_passes_5 _ _ _ _ _ _ _ _ _ _ _ (lq2 _ fu) (nI i) _ = _
      have ih' := ih (i + 1) fu
      generalize lq2 (f_X7_passes_5 rule many room rows gained kinds tv nT (nI T) (nI St) 0) fu = kp at ih' ⊢
      unfold f_X7_passes_5
      rw [if_neg (by rw [hmany, le_nI] <;> omega), PB7 hO hM (by omega) hr]
      simp only [Option.bind_some]
      rw [if_pos (inb_nI (by omega) (by decide)), cl_nI (by omega), nI_1, mpN_up]
      exact ih' (by omega) (by omega)
  unfold f_X7_passes
  have := key n 0 200 (by omega) (by omega)
  rw [mpN_0] at this
  exact this
end
/-! ## a ring behind a pose is a ring -/
def shE (E : Nat → Nat) (St : Nat) : Nat → Nat := fun j => (E j + St) % 11
theorem OK_pass {n F L S T St : Nat} {K N E : Nat → Nat} (h : OKr n F L S K N E) : OKr n ((F + T) % 11) L S K N (shE E St) := by
  obtain ⟨h1, h2, h3, h4, h5, h6⟩ := h
  refine ⟨h1, Nat.mod_lt _ (by decide), h3, h4, ?_, fun p hp => ⟨(h6 p hp).1, (h6 p hp).2.1, Nat.mod_lt _ (by decide)⟩⟩
  intro a b ha hb e
  have := (h6 a ha).2.2
  have := (h6 b hb).2.2
  unfold shE at e
  exact h5 a b ha hb (by omega)
theorem RX_pass {n F L S T St : Nat} {K N E : Nat → Nat} {face lamp stove painters : Int32} {kind number easel : Nat → Int32} (h : RX n F L S K N E face lamp stove painters kind number easel) : RX n ((F + T) % 11) L S K N (shE E St) (nI ((F + T) % 11)) lamp stove painters kind number (mpN n (fun j => nI ((E j + St) % 11)) easel) := by
  obtain ⟨h1, h2, h3, h4, h5⟩ := h
  exact ⟨rfl, h2, h3, h4, fun p hp => ⟨(h5 p hp).1, (h5 p hp).2.1, mpN_lt hp⟩⟩
theorem RM_pass {n F L S T St : Nat} {K N E : Nat → Nat} {pose many : Int32} {kinds rows room pb : Nat → Int32} (h : RM n F L S K N E pose many kinds rows room) : RM n ((F + T) % 11) L S K N (shE E St) (pose + 1) many kinds (rwS n St F E pb rows) (rmS T F room) := by
  obtain ⟨h1, h2, h3, h4, h5, h6⟩ := h
  refine ⟨h1, rfl, h3, h4, by rw [← h5]; rfl, fun p hp => ⟨(h6 p hp).1, ?_, ?_⟩⟩
  · unfold rwS
    rw [mp4_ne0 (by decide), mp4_ne0 (by decide), mp4_ne0 (by decide)]
    exact (h6 p hp).2.1
  · unfold rwS
    rw [mp4_eq (by decide) hp]
    rfl
