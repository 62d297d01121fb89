def R_law : String := "RoundTheModelLaw"
def lw_P (b : Addr) (xs : List Int32) (args : Array Value) (s : State) : Prop := args = #[.ref b] ∧ s.IntsAt b xs ∧ xs.length ≤ 3072 ∧ (Jvm.Cond.and given_1 narrow_1).before args s = true
def lw_Q (_ : Array Value) (s : State) (o : Outcome) (t : State) : Prop := o = .returned (some (.int 1)) ∧ Framed s o t [] 628623 7216380
def lw_Z (below : List Frame) (a : Array Value) (s : State) : State → Prop := fun t => ∃ o, t.status = .running ∧ Ended t below o ∧ lw_Q a s o t
/-- the law's own end, with 1 on the stack, nothing written that was there before, its room as the claim has it -/
theorem lw_ret {p : Program} {l : Launch} {e : Env} {s : State} {m : MethodId} {below : List Frame} {meth : Method} {c : Code} {b : Nat} (hx : p.tables.exec = Jvm.exec) (hb : c.code = code) (hr : meth.sig.returnType = ret) (hlocks : meth.locks = false) {pc : Nat} {H : Heap} {ls : Array Slot} (hdg : decode code pc = .ok (.ireturn, 1)) : W p l e room_1 s m #[Value.ref b] below meth c H [] 628623 7216380 (lw_Z below #[Value.ref b] s) (F0 m pc ls [.int 1]) := by
  intro T hT X
  obtain ⟨fs, hret, hrun, hended, hW, hframe⟩ := X.leave (v := some (.int 1)) (hlocks := hlocks) (fun h => by rw [hr] at h; cases h)
  have hmeth' : T.vm.method? m = some meth := X.method'
  refine ⟨T.setFrames fs, ?_, .returned (some (.int 1)), hrun, hended, rfl, ⟨_, rfl⟩, hW, hframe⟩
  jvm_step X.here [X.here.top, hx, hb, hdg, hmeth', hr, ret, narrow_b1]
  (try refine ⟨rfl, ?_⟩); (try refine ⟨rfl, ?_⟩)
  first | (intro acts; rw [hret _ acts rfl rfl rfl]) | rw [hret _ _ rfl rfl rfl]
  exact Steps.refl _
/-- what holds at the law's entry: the machine, the code, the tables' words (any of lw_tbl by 'hts w (by decide +kernel)'), the script of L ints xs at the cell b, what the Statement gives of the start (any of its parts by flat_of_before) -/
def lw_At (p : Program) (s : State) (m : MethodId) (meth : Method) (c : Code) (b L : Nat) (xs : Nat → Int32) : Prop :=
  p.tables.exec = Jvm.exec ∧ c.code = code ∧ meth.sig.returnType = ret ∧ c.maxLocals = 4 ∧ s.vm.findClass R_law = some m.cls ∧ (∀ w ∈ lw_tbl, w.before #[Value.ref b] s = true) ∧ va_X b L xs s s.heap ∧ b < s.heap.size ∧ meth.locks = false ∧ (Jvm.Cond.and given_1 narrow_1).before #[Value.ref b] s = true

/-- the law's end -/
theorem law_end {x : VX} {b k n : Nat} {ws : va_W} {lv : List (Nat × Value)} (X : Cx x cL_law RL 2048) (hRm : vxR x = room_1) (hAx : ∀ q, vxA x q → (vxs x).heap.size ≤ q) (hQx : vxQ x = lw_Z (vxb x) #[Value.ref b] (vxs x)) (hax : vxa x = #[Value.ref b]) (hr : (vxh x).sig.returnType = ret) (hlk : (vxh x).locks = false) (hk : k ≤ 628623) (hn : n ≤ 7216380) : V x k n ws lv 1068 [] := by
  refine v_iconst X (v := 1) (by decide) dL_law_1068 ?_
  intro H locs ls hP hD hS hl
  refine va_forget (fun q hq => hAx _ (hS.2.2 q hq)) (W.widen hk hn ?_)
  rw [hRm, hQx, hax]
  exact lw_ret X.1 X.2.1 hr hlk dL_law_1069
theorem v_slen {x : VX} {cc : ByteArray} {own : String} {d0 k n : Nat} {ws : va_W} {lv : List (Nat × Value)} {pc : Nat} {st : List Value} (X : Cx x cc own d0) {b L : Nat} {xs : Nat → Int32} (hs : SCR x b L xs) (hd : decode cc pc = .ok (.arraylength, 1)) (kk : V x k n ws lv (pc + 1) (.int (nI L) :: st)) : V x k n ws lv pc (.ref b :: st) :=
  fun H locs ls hP hD hS hl => va_slen X.1 X.2.1 hs.1 hs.2.1 hs.2.2.1 hS hd (kk H locs ls hP hD hS hl)
theorem nI6 {L : Nat} (h : L ≤ 3072) : (nI L - 6).toInt = (L : Int) - 6 := by
  rw [sub_i] <;> rw [nI_toInt (by omega), i6] <;> omega
set_option maxRecDepth 100000 in
set_option maxHeartbeats 4000000 in
theorem law_loop {x : VX} {ad : Nat → Nat} {b Ls : Nat} {xs : Nat → Int32} (X : Cx x cL_law RL 2048) (hN : vxn x = 4) (hs : SCR x b Ls xs) (hRm : vxR x = room_1) (hWd : ∀ tw : va_W, WordsK (vxD x) (vxT x) (ZT (vxD x) (vxT x) (vxZ x) tw)) (hUn : ∀ tw : va_W, UnderK (ZT (vxD x) (vxT x) (vxZ x) tw)) (hAx : ∀ q, vxA x q → (vxs x).heap.size ≤ q) (hQx : vxQ x = lw_Z (vxb x) #[Value.ref b] (vxs x)) (hax : vxa x = #[Value.ref b]) (hr : (vxh x).sig.returnType = ret) (hlk : (vxh x).locks = false) :
    ∀ (r i k n : Nat) (tw : va_W) (face : Int32) (lamp : Int32) (stove : Int32) (pose : Int32) (rule : Int32) (painters : Int32) (kind : (Nat → Int32)) (number : (Nat → Int32)) (easel : (Nat → Int32)) (had : (Nat → Int32)) (pleased : (Nat → Int32)) (th : Int32 × Int32 × Int32 × Int32 × Int32 × Int32 × (Nat → Int32) × (Nat → Int32) × (Nat → Int32) × (Nat → Int32) × (Nat → Int32)) (kp : Int32 × Int32 × Int32 × Int32 × Int32 × Int32 × (Nat → Int32) × (Nat → Int32) × (Nat → Int32) × (Nat → Int32) × (Nat → Int32)) (ik : Int32) (rd : Int32 × Int32 × Int32 × Int32 × Int32 × Int32 × Int32 × (Nat → Int32) × (Nat → Int32)) (txs : Nat → Option Nat) (tc : Int32) (sg : Int32 × Int32 × Int32 × (Nat → Int32) × (Nat → Int32)) (mo : Int32 × Int32 × Int32) (sh0 : Int32 × Int32 × (Nat → Int32)) (sh1 : Int32 × Int32 × (Nat → Int32)) (sh2 : Int32 × Int32 × (Nat → Int32)) (sh3 : Int32 × Int32 × (Nat → Int32)) (thr : Int32) (tc7 : Int32) (rule7 : Int32) (taped : Int32) (many : Int32) (jk : Int32 × Int32 × Int32 × Int32 × Int32 × Int32 × Int32 × Int32 × Int32 × Int32 × Int32 × Int64 × Int32 × Int32 × Int32) (fw : Int32) (pw : Int32) (manyK : Int32) (ruleK : Int32) (texts : (Nat → Int32)) (textSize : (Nat → Int32)) (tp7 : (Nat → Int32)) (room : (Nat → Int32)) (kinds : (Nat → Int32)) (rows : (Nat → Int32)) (now : (Nat → Int32)) (gained : (Nat → Int32)) (was : (Nat → Int32)) (roomK : (Nat → Int32)) (rowsK : (Nat → Int32)) (iT : (Nat → Int32)) (so : (Nat → Int32)) (ss : (Nat → Int32)) (its : (Nat → Int32)), Ls < i + 6 * r + 6 → i ≤ 3072 → k + 3 * r ≤ 628623 → n + 165 * r ≤ 7216380 → INV (vxT x) tw face lamp stove pose rule painters kind number easel had pleased kp ik rd txs tc sh0 sh1 sh2 sh3 tc7 rule7 taped many manyK ruleK texts textSize tp7 room kinds rows roomK rowsK iT so ss its → V x k n (WL (vxT x) ad face lamp stove pose rule painters kind number easel had pleased th kp ik rd txs tc sg mo sh0 sh1 sh2 sh3 thr tc7 rule7 taped many jk fw pw manyK ruleK texts textSize tp7 room kinds rows now gained was roomK rowsK iT so ss its ++ tw) [(0, .ref b), (1, .ref (ad 0)), (2, .ref (ad 36)), (3, .int (nI i))] 18 [] := by
  have h4 := hs.2.2.2
  intro r
  induction r with
  | zero =>
    intro i k n tw face lamp stove pose rule painters kind number easel had pleased th kp ik rd txs tc sg mo sh0 sh1 sh2 sh3 thr tc7 rule7 taped many jk fw pw manyK ruleK texts textSize tp7 room kinds rows now gained was roomK rowsK iT so ss its g1 g2 g3 g4 I
    refine v_iload_n X 3 rfl dL_law_18 ?_
    refine v_aload_n X 0 rfl dL_law_19 ?_
    refine v_slen X hs dL_law_20 ?_
    refine v_bipush X (v := 6) (by decide) dL_law_21 ?_
    refine v_isub X dL_law_23 ?_
    refine v_icmp_gt_T X (tgt := 1068) (by rw [lt_i, nI6 h4, nI_toInt (by omega)]; omega) (by decide) dL_law_24 ?_
    exact law_end X hRm hAx hQx hax hr hlk (by omega) (by omega)
  | succ r ih =>
    intro i k n tw face lamp stove pose rule painters kind number easel had pleased th kp ik rd txs tc sg mo sh0 sh1 sh2 sh3 thr tc7 rule7 taped many jk fw pw manyK ruleK texts textSize tp7 room kinds rows now gained was roomK rowsK iT so ss its g1 g2 g3 g4 I
    refine v_iload_n X 3 rfl dL_law_18 ?_
    refine v_aload_n X 0 rfl dL_law_19 ?_
    refine v_slen X hs dL_law_20 ?_
    refine v_bipush X (v := 6) (by decide) dL_law_21 ?_
    refine v_isub X dL_law_23 ?_
    by_cases hi : Ls < i + 6
    · refine v_icmp_gt_T X (tgt := 1068) (by rw [lt_i, nI6 h4, nI_toInt (by omega)]; omega) (by decide) dL_law_24 ?_
      exact law_end X hRm hAx hQx hax hr hlk (by omega) (by omega)
    have hi : i + 6 ≤ Ls := by omega
    refine v_icmp_gt_F X (tgt := 1068) (by rw [lt_i, nI6 h4, nI_toInt (by omega)]; omega) (by decide) dL_law_24 ?_
    refine v_aload_n X 0 rfl dL_law_27 ?_
    refine v_iload_n X 3 rfl dL_law_28 ?_
    refine v_sld X hs (by omega) dL_law_29 ?_
    refine v_bipush X (v := 31) (by decide) dL_law_30 ?_
    refine v_iand X dL_law_32 ?_
    have kk : ∀ (tw' : va_W) (face : Int32) (lamp : Int32) (stove : Int32) (pose : Int32) (rule : Int32) (painters : Int32) (kind : (Nat → Int32)) (number : (Nat → Int32)) (easel : (Nat → Int32)) (had : (Nat → Int32)) (pleased : (Nat → Int32)) (th : Int32 × Int32 × Int32 × Int32 × Int32 × Int32 × (Nat → Int32) × (Nat → Int32) × (Nat → Int32) × (Nat → Int32) × (Nat → Int32)) (kp : Int32 × Int32 × Int32 × Int32 × Int32 × Int32 × (Nat → Int32) × (Nat → Int32) × (Nat → Int32) × (Nat → Int32) × (Nat → Int32)) (ik : Int32) (rd : Int32 × Int32 × Int32 × Int32 × Int32 × Int32 × Int32 × (Nat → Int32) × (Nat → Int32)) (txs : Nat → Option Nat) (tc : Int32) (sg : Int32 × Int32 × Int32 × (Nat → Int32) × (Nat → Int32)) (mo : Int32 × Int32 × Int32) (sh0 : Int32 × Int32 × (Nat → Int32)) (sh1 : Int32 × Int32 × (Nat → Int32)) (sh2 : Int32 × Int32 × (Nat → Int32)) (sh3 : Int32 × Int32 × (Nat → Int32)) (thr : Int32) (tc7 : Int32) (rule7 : Int32) (taped : Int32) (many : Int32) (jk : Int32 × Int32 × Int32 × Int32 × Int32 × Int32 × Int32 × Int32 × Int32 × Int32 × Int32 × Int64 × Int32 × Int32 × Int32) (fw : Int32) (pw : Int32) (manyK : Int32) (ruleK : Int32) (texts : (Nat → Int32)) (textSize : (Nat → Int32)) (tp7 : (Nat → Int32)) (room : (Nat → Int32)) (kinds : (Nat → Int32)) (rows : (Nat → Int32)) (now : (Nat → Int32)) (gained : (Nat → Int32)) (was : (Nat → Int32)) (roomK : (Nat → Int32)) (rowsK : (Nat → Int32)) (iT : (Nat → Int32)) (so : (Nat → Int32)) (ss : (Nat → Int32)) (its : (Nat → Int32)), INV (vxT x) tw' face lamp stove pose rule painters kind number easel had pleased kp ik rd txs tc sh0 sh1 sh2 sh3 tc7 rule7 taped many manyK ruleK texts textSize tp7 room kinds rows roomK rowsK iT so ss its → V x (k + 3) (n + 165) (WL (vxT x) ad face lamp stove pose rule painters kind number easel had pleased th kp ik rd txs tc sg mo sh0 sh1 sh2 sh3 thr tc7 rule7 taped many jk fw pw manyK ruleK texts textSize tp7 room kinds rows now gained was roomK rowsK iT so ss its ++ tw') [(0, .ref b), (1, .ref (ad 0)), (2, .ref (ad 36)), (3, .int (nI i))] 1062 [] := by
      intro tw' face lamp stove pose rule painters kind number easel had pleased th kp ik rd txs tc sg mo sh0 sh1 sh2 sh3 thr tc7 rule7 taped many jk fw pw manyK ruleK texts textSize tp7 room kinds rows now gained was roomK rowsK iT so ss its I'
      refine v_iinc X 3 rfl (c0 := 6) (v := nI (i + 6)) (by rw [show Int32.ofInt 6 = nI 6 from by decide]; exact nI_add i 6) (by rw [hN]; decide) (lv' := [(3, .int (nI (i + 6))), (0, .ref b), (1, .ref (ad 0)), (2, .ref (ad 36))]) rfl dL_law_1062 ?_
      refine v_goto X (tgt := 18) (by decide) dL_law_1065 ?_
      refine v_lv [1, 2, 3, 0] rfl ?_
      exact ih (i + 6) (k + 3) (n + 165) tw' face lamp stove pose rule painters kind number easel had pleased th kp ik rd txs tc sg mo sh0 sh1 sh2 sh3 thr tc7 rule7 taped many jk fw pw manyK ruleK texts textSize tp7 room kinds rows now gained was roomK rowsK iT so ss its (by omega) (by omega) (by omega) (by omega) I'
    generalize hv : (xs i &&& 31) = v
    by_cases ho : v.toInt < 0 ∨ 25 < v.toInt
    · refine v_tab_out X (tgt := 1062) ho (by decide) dL_law_33 ?_
      exact v_wid (by omega) (by omega) (kk tw face lamp stove pose rule painters kind number easel had pleased th kp ik rd txs tc sg mo sh0 sh1 sh2 sh3 thr tc7 rule7 taped many jk fw pw manyK ruleK texts textSize tp7 room kinds rows now gained was roomK rowsK iT so ss its I)
    rcases (show v.toInt = 0 ∨ v.toInt = 1 ∨ v.toInt = 2 ∨ v.toInt = 3 ∨ v.toInt = 4 ∨ v.toInt = 5 ∨ v.toInt = 6 ∨ v.toInt = 7 ∨ v.toInt = 8 ∨ v.toInt = 9 ∨ v.toInt = 10 ∨ v.toInt = 11 ∨ v.toInt = 12 ∨ v.toInt = 13 ∨ v.toInt = 14 ∨ v.toInt = 15 ∨ v.toInt = 16 ∨ v.toInt = 17 ∨ v.toInt = 18 ∨ v.toInt = 19 ∨ v.toInt = 20 ∨ v.toInt = 21 ∨ v.toInt = 22 ∨ v.toInt = 23 ∨ v.toInt = 24 ∨ v.toInt = 25 by omega) with hc | hc | hc | hc | hc | hc | hc | hc | hc | hc | hc | hc | hc | hc | hc | hc | hc | hc | hc | hc | hc | hc | hc | hc | hc | hc
    · refine v_tab_in X (off := 119) (tgt := 152) (by rw [hc]; decide) (by rw [hc]; decide) (by rw [hc]; rfl) (by decide) dL_law_33 ?_
      exact L_set X hs hi hRm ⟨by omega, by omega⟩ hWd hUn I kk
    · refine v_tab_in X (off := 162) (tgt := 195) (by rw [hc]; decide) (by rw [hc]; decide) (by rw [hc]; rfl) (by decide) dL_law_33 ?_
      exact L_painter X hs hi hRm ⟨by omega, by omega⟩ hWd hUn I kk
    · refine v_tab_in X (off := 205) (tgt := 238) (by rw [hc]; decide) (by rw [hc]; decide) (by rw [hc]; rfl) (by decide) dL_law_33 ?_
      exact L_told X hs hi hRm ⟨by omega, by omega⟩ hWd hUn I kk
    · refine v_tab_in X (off := 238) (tgt := 271) (by rw [hc]; decide) (by rw [hc]; decide) (by rw [hc]; rfl) (by decide) dL_law_33 ?_
      exact L_feed X hs hi hRm ⟨by omega, by omega⟩ hWd hUn I kk
    · refine v_tab_in X (off := 261) (tgt := 294) (by rw [hc]; decide) (by rw [hc]; decide) (by rw [hc]; rfl) (by decide) dL_law_33 ?_
      exact L_text X hs hi hRm ⟨by omega, by omega⟩ hWd hUn I kk
    · refine v_tab_in X (off := 274) (tgt := 307) (by rw [hc]; decide) (by rw [hc]; decide) (by rw [hc]; rfl) (by decide) dL_law_33 ?_
      exact L_force X hs hi hRm ⟨by omega, by omega⟩ hWd hUn I kk
    · refine v_tab_in X (off := 297) (tgt := 330) (by rw [hc]; decide) (by rw [hc]; decide) (by rw [hc]; rfl) (by decide) dL_law_33 ?_
      exact L_pose X hs hi hRm ⟨by omega, by omega⟩ hWd hUn I kk
    · refine v_tab_in X (off := 320) (tgt := 353) (by rw [hc]; decide) (by rw [hc]; decide) (by rw [hc]; rfl) (by decide) dL_law_33 ?_
      exact L_run X hs hi hRm ⟨by omega, by omega⟩ hWd hUn I kk
    · refine v_tab_in X (off := 363) (tgt := 396) (by rw [hc]; decide) (by rw [hc]; decide) (by rw [hc]; rfl) (by decide) dL_law_33 ?_
      exact L_ring X hs hi hRm ⟨by omega, by omega⟩ hWd hUn I kk
    · refine v_tab_in X (off := 386) (tgt := 419) (by rw [hc]; decide) (by rw [hc]; decide) (by rw [hc]; rfl) (by decide) dL_law_33 ?_
      exact L_mean X hs hi hRm ⟨by omega, by omega⟩ hWd hUn I kk
    · refine v_tab_in X (off := 430) (tgt := 463) (by rw [hc]; decide) (by rw [hc]; decide) (by rw [hc]; rfl) (by decide) dL_law_33 ?_
      exact L_best X hs hi hRm ⟨by omega, by omega⟩ hWd hUn I kk
    · refine v_tab_in X (off := 463) (tgt := 496) (by rw [hc]; decide) (by rw [hc]; decide) (by rw [hc]; rfl) (by decide) dL_law_33 ?_
      exact L_seat X hs hi hRm ⟨by omega, by omega⟩ hWd hUn I kk
    · refine v_tab_in X (off := 496) (tgt := 529) (by rw [hc]; decide) (by rw [hc]; decide) (by rw [hc]; rfl) (by decide) dL_law_33 ?_
      exact L_change X hs hi hRm ⟨by omega, by omega⟩ hWd hUn I kk
    · refine v_tab_in X (off := 519) (tgt := 552) (by rw [hc]; decide) (by rw [hc]; decide) (by rw [hc]; rfl) (by decide) dL_law_33 ?_
      exact L_round X hs hi hRm ⟨by omega, by omega⟩ hWd hUn I kk
    · refine v_tab_in X (off := 552) (tgt := 585) (by rw [hc]; decide) (by rw [hc]; decide) (by rw [hc]; rfl) (by decide) dL_law_33 ?_
      exact L_tells X hs hi hRm ⟨by omega, by omega⟩ hWd hUn I kk
    · refine v_tab_in X (off := 605) (tgt := 638) (by rw [hc]; decide) (by rw [hc]; decide) (by rw [hc]; rfl) (by decide) dL_law_33 ?_
      exact L_film X hs hi hRm ⟨by omega, by omega⟩ hWd hUn I kk
    · refine v_tab_in X (off := 658) (tgt := 691) (by rw [hc]; decide) (by rw [hc]; decide) (by rw [hc]; rfl) (by decide) dL_law_33 ?_
      exact L_drawn X hs hi hRm ⟨by omega, by omega⟩ hWd hUn I kk
    · refine v_tab_in X (off := 691) (tgt := 724) (by rw [hc]; decide) (by rw [hc]; decide) (by rw [hc]; rfl) (by decide) dL_law_33 ?_
      exact L_chance X hs hi hRm ⟨by omega, by omega⟩ hWd hUn I kk
    · refine v_tab_in X (off := 745) (tgt := 778) (by rw [hc]; decide) (by rw [hc]; decide) (by rw [hc]; rfl) (by decide) dL_law_33 ?_
      exact L_image X hs hi hRm ⟨by omega, by omega⟩ hWd hUn I kk
    · refine v_tab_in X (off := 758) (tgt := 791) (by rw [hc]; decide) (by rw [hc]; decide) (by rw [hc]; rfl) (by decide) dL_law_33 ?_
      exact L_back X hs hi hRm ⟨by omega, by omega⟩ hWd hUn I kk
    · refine v_tab_in X (off := 771) (tgt := 804) (by rw [hc]; decide) (by rw [hc]; decide) (by rw [hc]; rfl) (by decide) dL_law_33 ?_
      exact L_count X hs hi hRm ⟨by omega, by omega⟩ hWd hUn I kk
    · refine v_tab_in X (off := 794) (tgt := 827) (by rw [hc]; decide) (by rw [hc]; decide) (by rw [hc]; rfl) (by decide) dL_law_33 ?_
      exact L_sheet X hs hi hRm ⟨by omega, by omega⟩ hWd hUn I kk
    · refine v_tab_in X (off := 837) (tgt := 870) (by rw [hc]; decide) (by rw [hc]; decide) (by rw [hc]; rfl) (by decide) dL_law_33 ?_
      exact L_cell X hs hi hRm ⟨by omega, by omega⟩ hWd hUn I kk
    · refine v_tab_in X (off := 880) (tgt := 913) (by rw [hc]; decide) (by rw [hc]; decide) (by rw [hc]; rfl) (by decide) dL_law_33 ?_
      exact L_copy X hs hi hRm ⟨by omega, by omega⟩ hWd hUn I kk
    · refine v_tab_in X (off := 943) (tgt := 976) (by rw [hc]; decide) (by rw [hc]; decide) (by rw [hc]; rfl) (by decide) dL_law_33 ?_
      exact L_painters X hs hi hRm ⟨by omega, by omega⟩ hWd hUn I kk
    · refine v_tab_in X (off := 996) (tgt := 1029) (by rw [hc]; decide) (by rw [hc]; decide) (by rw [hc]; rfl) (by decide) dL_law_33 ?_
      exact L_taken X hs hi hRm ⟨by omega, by omega⟩ hWd hUn I kk
