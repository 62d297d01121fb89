/-! ## poses in thought: both sides step together -/
theorem smF_acc (g : Nat → Int32) : ∀ (k i : Nat) (acc : Int32), smF g acc i k = acc + smF g 0 i k := by
  intro k
  induction k with
  | zero => intro i acc; show acc = acc + 0; rw [Int32.add_zero]
  | succ k ih =>
    intro i acc
    show smF g (acc + g i) (i + 1) k = acc + smF g (0 + g i) (i + 1) k
    rw [ih (i + 1) (acc + g i), ih (i + 1) (0 + g i), Int32.zero_add, Int32.add_assoc]
theorem smF_congr {g h : Nat → Int32} : ∀ (k i : Nat) (acc : Int32), (∀ j, i ≤ j → j < i + k → g j = h j) → smF g acc i k = smF h acc i k := by
  intro k
  induction k with
  | zero => intro i acc _; rfl
  | succ k ih =>
    intro i acc hh
    show smF g (acc + g i) (i + 1) k = smF h (acc + h i) (i + 1) k
    rw [hh i (by omega) (by omega)]
    exact ih (i + 1) _ (fun j h1 h2 => hh j (by omega) (by omega))
theorem smF_add (g h : Nat → Int32) : ∀ (k i : Nat), smF (fun j => g j + h j) 0 i k = smF g 0 i k + smF h 0 i k := by
  intro k
  induction k with
  | zero => intro i; show (0 : Int32) = 0 + 0; rfl
  | succ k ih =>
    intro i
    show smF (fun j => g j + h j) (0 + (g i + h i)) (i + 1) k = smF g (0 + g i) (i + 1) k + smF h (0 + h i) (i + 1) k
    rw [smF_acc _ k (i + 1) (0 + (g i + h i)), smF_acc g k (i + 1) (0 + g i), smF_acc h k (i + 1) (0 + h i), ih (i + 1)]
    simp only [Int32.zero_add]
    rw [Int32.add_assoc, Int32.add_assoc, ← Int32.add_assoc (h i), Int32.add_comm (h i) (smF g 0 (i + 1) k), Int32.add_assoc]
/-- class and reference in the midst of poses in thought, b of them gone -/
def WR (n F L S : Nat) (K N E : Nat → Nat) (b : Nat) (lamp stove painters many : Int32) (kind number kinds rows0 room0 : Nat → Int32) (face pose : Int32) (easel had pleased : Nat → Int32) (sum : Int32) (room rows gained : Nat → Int32) : Prop :=
  OKr n F L S K N E ∧ RX n F L S K N E face lamp stove painters kind number easel ∧ RM n F L S K N E pose many kinds rows room ∧ (∀ p, p < n → had p = rows (4 * p + 2)) ∧ (∀ p, p < n → pleased p = gained p ∧ -(297 * (b : Int)) ≤ (gained p).toInt ∧ (gained p).toInt ≤ 297 * (b : Int)) ∧ sum = smF gained 0 0 n ∧ (∀ j, 24 ≤ j → rows j = rows0 j) ∧ (∀ j, j ≠ 0 → j ≠ 3 → room j = room0 j)
section
variable {tv : Int32 → Int32 → Int32 → Int32 → Int32 → Int32 → Int32 → Int32 → Int32} {nT n F L S : Nat} {K N E : Nat → Nat} {face lamp stove pose rule painters many sum : Int32} {kind number easel had pleased kinds rows rows0 room room0 now gained : Nat → Int32}
theorem clp_id {v : Int32} (h1 : -99999 ≤ v.toInt) (h2 : v.toInt ≤ 99999) : clp (-99999) v 99999 = v := by
  unfold clp
  rw [if_neg (by rw [lt_i, im99999]; omega), if_neg (by rw [lt_i, i99999]; omega)]
theorem WR_step {T St b : Nat} (h : WR n F L S K N E b lamp stove painters many kind number kinds rows0 room0 face pose easel had pleased sum room rows gained) (hr : inb rule nT = true) (hnT : nT ≤ 6) (hT : T < 11) (hSt : St < 11) (hb : b ≤ 200) :
    ∃ (v : Int32 × Int32 × (Nat → Int32) × (Nat → Int32) × (Nat → Int32)) (w : Int32 × (Nat → Int32) × (Nat → Int32) × (Nat → Int32) × (Nat → Int32)), f_X6_pass (nI T) (nI St) face lamp stove pose rule painters had easel number kind pleased tv nT = some v ∧ f_X7_passes (nI T) (nI St) rule many room rows now gained kinds tv nT = some w ∧ v.1 = nI ((F + T) % 11) ∧ v.2.1 = pose + 1 ∧ WR n ((F + T) % 11) L S K N (shE E St) (b + 1) lamp stove painters many kind number kinds rows0 room0 v.1 v.2.1 v.2.2.2.1 v.2.2.1 v.2.2.2.2 (sum + w.1) w.2.1 w.2.2.1 w.2.2.2.2 := by
  obtain ⟨hO, hX, hM, hH, hP, hs, h24, h03⟩ := h
  refine ⟨_, _, pass6 hO hX hr hnT hT hSt, passes7 hO hM hr hT hSt, rfl, rfl, OK_pass hO, RX_pass hX, RM_pass hM, ?_, ?_, ?_, ?_, ?_⟩
  · intro p hp
    show mpN n (hdS E F had) had p = rwS n St F E _ rows (4 * p + 2)
    unfold rwS
    rw [mpN_lt hp, mp4_ne (by decide) (by decide), mp4_ne (by decide) (by decide), mp4_eq (by decide) hp]
    unfold hdS
    rw [hH p hp]
  · intro p hp
    obtain ⟨q1, q2, q3⟩ := hP p hp
    have hbd := pbN_bd (tv := tv) (rule := rule) (pose := pose) (n := n) (F := F) (L := L) (S := S) (K := K) (N := N) (E := E) (p := p)
    show mpN n (plS (pbN tv rule pose n F L S K N E) pleased) pleased p = mpN n (fun j => gained j + pbN tv rule pose n F L S K N E j) gained p ∧ -(297 * ((b + 1 : Nat) : Int)) ≤ (mpN n (fun j => gained j + pbN tv rule pose n F L S K N E j) gained p).toInt ∧ (mpN n (fun j => gained j + pbN tv rule pose n F L S K N E j) gained p).toInt ≤ 297 * ((b + 1 : Nat) : Int)
    rw [mpN_lt hp, mpN_lt hp]
    unfold plS
    rw [q1]
    have e : (gained p + pbN tv rule pose n F L S K N E p).toInt = (gained p).toInt + (pbN tv rule pose n F L S K N E p).toInt := by apply add_i <;> omega
    refine ⟨clp_id (by omega) (by omega), ?_, ?_⟩
    · rw [e]; omega
    · rw [e]; omega
  · show sum + smF _ 0 0 n = smF (mpN n (fun j => gained j + pbN tv rule pose n F L S K N E j) gained) 0 0 n
    rw [smF_congr (g := mpN n (fun j => gained j + pbN tv rule pose n F L S K N E j) gained) (h := fun j => gained j + pbN tv rule pose n F L S K N E j) n 0 0 (fun j _ hj => mpN_lt (by omega)), smF_add, hs]
  · intro j hj
    have hn := hO.1
    show rwS n St F E _ rows j = rows0 j
    unfold rwS mp4
    rw [if_neg (by omega), if_neg (by omega), if_neg (by omega)]
    exact h24 j hj
  · intro j h0 h3
    show rmS T F room j = room0 j
    unfold rmS upd
    rw [if_neg h3, if_neg h0]
    exact h03 j h0 h3
/-- m poses by one turn and step: the class's thought, the reference's sum -/
theorem WR_loop {T St m : Nat} {ts : Int32} (hts1 : ts / 100 = nI T) (hts2 : ts - ts / 100 * 100 = nI St) (hr : inb rule nT = true) (hnT : nT ≤ 6) (hT : T < 11) (hSt : St < 11) (hm : m ≤ 60) :
    ∀ (k i fu1 fu2 : Nat) (F : Nat) (E : Nat → Nat) (face pose sum : Int32) (easel had pleased room rows now gained : Nat → Int32), i + k = m → k < fu1 → k < fu2 → WR n F L S K N E i lamp stove painters many kind number kinds rows0 room0 face pose easel had pleased sum room rows gained →
      ∃ (F' : Nat) (E' : Nat → Nat) (face' pose' sum' : Int32) (easel' had' pleased' room' rows' now' gained' : Nat → Int32), lq6 (f_X6_think_7 lamp stove rule painters kind number tv nT (nI m) (nI T) (nI St)) fu1 (nI i) face pose easel had pleased = some (face', lamp, stove, pose', rule, painters, kind, number, easel', had', pleased') ∧ lq6 (f_X7_sumBy_5 rule many kinds tv nT (nI m) ts) fu2 sum (nI i) room rows now gained = some (sum', room', rows', now', gained') ∧ WR n F' L S K N E' m lamp stove painters many kind number kinds rows0 room0 face' pose' easel' had' pleased' sum' room' rows' gained' := by
  intro k
  induction k with
  | zero =>
    intro i fu1 fu2 F E face pose sum easel had pleased room rows now gained h1 h2 h3 hW
    obtain ⟨fu1, rfl⟩ : ∃ g, fu1 = g + 1 := ⟨fu1 - 1, by omega⟩
    obtain ⟨fu2, rfl⟩ : ∃ g, fu2 = g + 1 := ⟨fu2 - 1, by omega⟩
    refine ⟨F, E, face, pose, sum, easel, had, pleased, room, rows, now, gained, ?_, ?_, by rw [show m = i by omega]; exact hW⟩
    · show f_X6_think_7 _ _ _ _ _ _ _ _ _ _ _ (lq6 _ fu1) (nI i) _ _ _ _ _ = _
      unfold f_X6_think_7
      rw [if_pos (by rw [le_nI] <;> omega)]
    · show f_X7_sumBy_5 _ _ _ _ _ _ _ (lq6 _ fu2) sum (nI i) _ _ _ _ = _
      unfold f_X7_sumBy_5
      rw [if_pos (by rw [le_nI] <;> omega)]
  | succ k ih =>
    intro i fu1 fu2 F E face pose sum easel had pleased room rows now gained h1 h2 h3 hW
    obtain ⟨fu1, rfl⟩ : ∃ g, fu1 = g + 1 := ⟨fu1 - 1, by omega⟩
    obtain ⟨fu2, rfl⟩ : ∃ g, fu2 = g + 1 := ⟨fu2 - 1, by omega⟩
    obtain ⟨v, w, hv, hw, -, -, hW'⟩ := WR_step (now := now) hW hr hnT hT hSt (by omega)
    obtain ⟨F', E', face', pose', sum', easel', had', pleased', room', rows', now', gained', r1, r2, r3⟩ := ih (i + 1) fu1 fu2 _ _ v.1 v.2.1 (sum + w.1) v.2.2.2.1 v.2.2.1 v.2.2.2.2 w.2.1 w.2.2.1 w.2.2.2.1 w.2.2.2.2 (by omega) (by omega) (by omega) hW'
    refine ⟨F', E', face', pose', sum', easel', had', pleased', room', rows', now', gained', ?_, ?_, r3⟩
    · show f_X6_think_7 _ _ _ _ _ _ _ _ _ _ _ (lq6 _ fu1) (nI i) _ _ _ _ _ = _
      generalize lq6 (f_X6_think_7 lamp stove rule painters kind number tv nT (nI m) (nI T) (nI St)) fu1 = kp at r1 ⊢
      unfold f_X6_think_7
      rw [if_neg (by rw [le_nI] <;> omega), hv]
      simp only [Option.bind_some]
      rw [nI_1]
      exact r1
    · show f_X7_sumBy_5 _ _ _ _ _ _ _ (lq6 _ fu2) sum (nI i) _ _ _ _ = _
      generalize lq6 (f_X7_sumBy_5 rule many kinds tv nT (nI m) ts) fu2 = kp at r2 ⊢
      unfold f_X7_sumBy_5
      rw [if_neg (by rw [le_nI] <;> omega), hts1] at *
      rw [show ts - nI T * 100 = nI St from by rw [← hts1]; exact hts2, hw]
      simp only [Option.bind_some]
      rw [nI_1]
      exact r2
end
theorem fill6 (v : Int32) {m : Nat} (hm : m ≤ 100) (a : Nat → Int32) : f_J7_fill_53178 v m a = some (mpN m (fun _ => v) a) := by
  have key : ∀ (k i fu : Nat), i + k = m → k < fu → lq2 (f_J7_fill_53178_5 m v (Int32.ofNat m)) fu (nI i) (mpN i (fun _ => v) a) = some (mpN m (fun _ => v) a) := by
    intro k
    induction k with
    | zero =>
      intro i fu h1 h2
      obtain ⟨fu, rfl⟩ : ∃ g, fu = g + 1 := ⟨fu - 1, by omega⟩
      show f_J7_fill_53178_5 _ _ (nI m) (lq2 _ fu) (nI i) _ = _
      unfold f_J7_fill_53178_5
      rw [if_pos (by rw [le_nI] <;> omega), show i = m by omega]
    | succ k ih =>
      intro i fu h1 h2
      obtain ⟨fu, rfl⟩ : ∃ g, fu = g + 1 := ⟨fu - 1, by omega⟩
      show f_J7_fill_53178_5 _ _ (nI m) (lq2 _ fu) (nI i) _ = _
      have ih' := ih (i + 1) fu
      rw [show Int32.ofNat m = nI m from rfl] at ih' ⊢
      generalize lq2 (f_J7_fill_53178_5 m v (nI m)) fu = kp at ih' ⊢
      unfold f_J7_fill_53178_5
      rw [if_neg (by rw [le_nI] <;> omega), if_pos (inb_nI (by omega) (by omega)), cl_nI (by omega), nI_1]
      have := mpN_up (fun _ => v) a i
      try simp only at this
      rw [this]
      exact ih' (by omega) (by omega)
  unfold f_J7_fill_53178
  have := key m 0 200 (by omega) (by omega)
  rw [mpN_0] at this
  exact this
theorem aside7 {room gained rows was : Nat → Int32} : f_X7_laysAside room gained rows was = some (room 0, room 3, mpN 6 (fun _ => 0) gained, mpN 24 rows was) := by
  have key2 : ∀ (w : Nat → Int32) (k i fu : Nat), i + k = 6 → k < fu → lq2 (f_X7_laysAside_48 (room 0) (room 3) w) fu (nI i) (mpN i (fun _ => 0) gained) = some (room 0, room 3, mpN 6 (fun _ => 0) gained, w) := by
    intro w k
    induction k with
    | zero =>
      intro i fu h1 h2
      obtain ⟨fu, rfl⟩ : ∃ g, fu = g + 1 := ⟨fu - 1, by omega⟩
      show f_X7_laysAside_48 _ _ _ (lq2 _ fu) (nI i) _ = _
      unfold f_X7_laysAside_48
      rw [if_pos (by rw [show (6 : Int32) = nI 6 from rfl, le_nI] <;> omega), show i = 6 by omega]
    | succ k ih =>
      intro i fu h1 h2
      obtain ⟨fu, rfl⟩ : ∃ g, fu = g + 1 := ⟨fu - 1, by omega⟩
      show f_X7_laysAside_48 _ _ _ (lq2 _ fu) (nI i) _ = _
      have ih' := ih (i + 1) fu
      generalize lq2 (f_X7_laysAside_48 (room 0) (room 3) w) fu = kp at ih' ⊢
      unfold f_X7_laysAside_48
      have := mpN_up (fun _ => 0) gained i
      try simp only at this
      rw [if_neg (by rw [show (6 : Int32) = nI 6 from rfl, le_nI] <;> omega), if_pos (inb_nI (by omega) (by decide)), cl_nI (by omega), nI_1, this]
      exact ih' (by omega) (by omega)
  have key : ∀ (k i fu : Nat), i + k = 24 → k < fu → lq2 (f_X7_laysAside_2 room gained rows) fu (nI i) (mpN i rows was) = some (room 0, room 3, mpN 6 (fun _ => 0) gained, mpN 24 rows was) := by
    intro k
    induction k with
    | zero =>
      intro i fu h1 h2
      obtain ⟨fu, rfl⟩ : ∃ g, fu = g + 1 := ⟨fu - 1, by omega⟩
      show f_X7_laysAside_2 _ _ _ (lq2 _ fu) (nI i) _ = _
      unfold f_X7_laysAside_2
      rw [if_pos (by rw [show (24 : Int32) = nI 24 from rfl, le_nI] <;> omega), show i = 24 by omega, c0, c3]
      have := key2 (mpN 24 rows was) 6 0 200 (by omega) (by omega)
      rw [mpN_0] at this
      exact this
    | succ k ih =>
      intro i fu h1 h2
      obtain ⟨fu, rfl⟩ : ∃ g, fu = g + 1 := ⟨fu - 1, by omega⟩
      show f_X7_laysAside_2 _ _ _ (lq2 _ fu) (nI i) _ = _
      have ih' := ih (i + 1) fu
      generalize lq2 (f_X7_laysAside_2 room gained rows) fu = kp at ih' ⊢
      unfold f_X7_laysAside_2
      rw [if_neg (by rw [show (24 : Int32) = nI 24 from rfl, le_nI] <;> omega), if_pos (inb_nI (by omega) (by decide)), if_pos (inb_nI (by omega) (by decide)), cl_nI (by omega), nI_1, mpN_up]
      exact ih' (by omega) (by omega)
  unfold f_X7_laysAside
  have := key 24 0 200 (by omega) (by omega)
  rw [mpN_0] at this
  exact this
theorem backs7 {fw pw : Int32} {room was rows : Nat → Int32} : f_X7_laysBack fw pw room was rows = some (upd (upd room 0 fw) 3 pw, mpN 24 was rows) := by
  have key : ∀ (k i fu : Nat), i + k = 24 → k < fu → lq2 (f_X7_laysBack_2 fw pw room was) fu (nI i) (mpN i was rows) = some (upd (upd room 0 fw) 3 pw, mpN 24 was rows) := by
    intro k
    induction k with
    | zero =>
      intro i fu h1 h2
      obtain ⟨fu, rfl⟩ : ∃ g, fu = g + 1 := ⟨fu - 1, by omega⟩
      show f_X7_laysBack_2 _ _ _ _ (lq2 _ fu) (nI i) _ = _
      unfold f_X7_laysBack_2
      rw [if_pos (by rw [show (24 : Int32) = nI 24 from rfl, le_nI] <;> omega), show i = 24 by omega, c0, c3]
    | succ k ih =>
      intro i fu h1 h2
      obtain ⟨fu, rfl⟩ : ∃ g, fu = g + 1 := ⟨fu - 1, by omega⟩
      show f_X7_laysBack_2 _ _ _ _ (lq2 _ fu) (nI i) _ = _
      have ih' := ih (i + 1) fu
      generalize lq2 (f_X7_laysBack_2 fw pw room was) fu = kp at ih' ⊢
      unfold f_X7_laysBack_2
      rw [if_neg (by rw [show (24 : Int32) = nI 24 from rfl, le_nI] <;> omega), if_pos (inb_nI (by omega) (by decide)), if_pos (inb_nI (by omega) (by decide)), cl_nI (by omega), nI_1, mpN_up]
      exact ih' (by omega) (by omega)
  unfold f_X7_laysBack
  have := key 24 0 200 (by omega) (by omega)
  rw [mpN_0] at this
  exact this
