set_option maxHeartbeats 4000000 in
set_option maxRecDepth 100000 in
theorem c_X8_isWithin (l : Launch) (D : va_G) (cI : ClassId) (v0 : Int32) (lo : Int32) (hi : Int32) : CR l yX8_isWithin (wm yX8_isWithin cX8_isWithin 3 (some .boolean)) 0 0 D cI [.int v0, .int lo, .int hi] [] (some (.int (bz (inR v0 lo hi)))) := by
  refine CR.of (by decide) (Nat.le_of_ble_eq_true rfl) ?_
  intro p e s m below meth c hx hb hr hml hown hlocks hta hP hD hK ls hl
  have hl : lv_has ls 3 [(0, .int v0), (1, .int lo), (2, .int hi)] := hl
  have hP : va_P D vwCl [] s.heap := hP
  refine lv_iload_n hx hb dX8_isWithin_0 rfl (lv_at hl 0 rfl) ?_
  refine lv_iload_n hx hb dX8_isWithin_1 rfl (lv_at hl 1 rfl) ?_
  refine icmpI_lt (tgt := 14) hx hb dX8_isWithin_2 (by decide) (fun c_2 => ?_) (fun c_2 => ?_)
  · refine lv_iconst (v := nI 0) hx hb dX8_isWithin_14 (by decide) ?_
    exact rRz hx hb hr hlocks dX8_isWithin_15 (by first | (simp only [inR, eq_true c_2, decide_true, decide_false, Bool.true_or, Bool.or_true, Bool.false_or, Bool.or_false, Bool.true_and, Bool.and_true, Bool.false_and, Bool.and_false, Bool.not_true, Bool.not_false, if_true, if_false, Bool.false_eq_true, and_true, true_and, and_false, false_and, or_true, true_or, or_false, false_or, not_true_eq_false, not_false_eq_true, bz]; done) | (simp only [inR, eq_true c_2, decide_true, decide_false, Bool.true_or, Bool.or_true, Bool.false_or, Bool.or_false, Bool.true_and, Bool.and_true, Bool.false_and, Bool.and_false, Bool.not_true, Bool.not_false, if_true, if_false, Bool.false_eq_true, and_true, true_and, and_false, false_and, or_true, true_or, or_false, false_or, not_true_eq_false, not_false_eq_true, bz]; rfl))
  · refine lv_iload_n hx hb dX8_isWithin_5 rfl (lv_at hl 0 rfl) ?_
    refine lv_iload_n hx hb dX8_isWithin_6 rfl (lv_at hl 2 rfl) ?_
    refine icmpI_gt (tgt := 14) hx hb dX8_isWithin_7 (by decide) (fun c_7 => ?_) (fun c_7 => ?_)
    · refine lv_iconst (v := nI 0) hx hb dX8_isWithin_14 (by decide) ?_
      exact rRz hx hb hr hlocks dX8_isWithin_15 (by first | (simp only [inR, eq_false c_2, eq_true c_7, decide_true, decide_false, Bool.true_or, Bool.or_true, Bool.false_or, Bool.or_false, Bool.true_and, Bool.and_true, Bool.false_and, Bool.and_false, Bool.not_true, Bool.not_false, if_true, if_false, Bool.false_eq_true, and_true, true_and, and_false, false_and, or_true, true_or, or_false, false_or, not_true_eq_false, not_false_eq_true, bz]; done) | (simp only [inR, eq_false c_2, eq_true c_7, decide_true, decide_false, Bool.true_or, Bool.or_true, Bool.false_or, Bool.or_false, Bool.true_and, Bool.and_true, Bool.false_and, Bool.and_false, Bool.not_true, Bool.not_false, if_true, if_false, Bool.false_eq_true, and_true, true_and, and_false, false_and, or_true, true_or, or_false, false_or, not_true_eq_false, not_false_eq_true, bz]; rfl))
    · refine lv_iconst (v := nI 1) hx hb dX8_isWithin_10 (by decide) ?_
      refine lv_goto (tgt := 15) hx hb dX8_isWithin_11 (by decide) ?_
      exact rRz hx hb hr hlocks dX8_isWithin_15 (by first | (simp only [inR, eq_false c_2, eq_false c_7, decide_true, decide_false, Bool.true_or, Bool.or_true, Bool.false_or, Bool.or_false, Bool.true_and, Bool.and_true, Bool.false_and, Bool.and_false, Bool.not_true, Bool.not_false, if_true, if_false, Bool.false_eq_true, and_true, true_and, and_false, false_and, or_true, true_or, or_false, false_or, not_true_eq_false, not_false_eq_true, bz]; done) | (simp only [inR, eq_false c_2, eq_false c_7, decide_true, decide_false, Bool.true_or, Bool.or_true, Bool.false_or, Bool.or_false, Bool.true_and, Bool.and_true, Bool.false_and, Bool.and_false, Bool.not_true, Bool.not_false, if_true, if_false, Bool.false_eq_true, and_true, true_and, and_false, false_and, or_true, true_or, or_false, false_or, not_true_eq_false, not_false_eq_true, bz]; rfl))
theorem kn_X8_isWithin {p : Program} {l : Launch} {e : Env} {R : Room} {s : State} {m : MethodId} {args : Array Value} {below : List Frame} {meth : Method} {c : Code} {H : Heap} {locs : List Loc} {cells slots : Nat} {Q : State → Prop} {pc : Nat} {ls : Array Slot} {rest : List Value} {cc : ByteArray} {nL index : Nat} {own : String} {D : va_G} {cI : ClassId} (v0 : Int32) (lo : Int32) (hi : Int32) (S : CallFix p m c cc nL s args WA own) (hl : va_Nw (.methodLinkNest own index yX8_isWithin RX8) s) (hR : 0 + 1 ≤ R.frames ∧ 8 + (3 + 11) + 0 ≤ R.locals) (hK : KB D cI s) (hsz : ls.size = nL) (hW : (rest.map fun v => v.category).sum ≤ 8) (hdg : decode cc pc = .ok (.invokestatic index, 3)) (hcel : cells ≤ R.cells ∧ slots ≤ R.slots) (kk : W p l e R s m args below meth c H locs cells slots Q (F0 m (pc + 3) ls (.int (bz (inR v0 lo hi)) :: rest))) : W p l e R s m args below meth c H locs cells slots Q (F0 m pc ls (.int hi :: .int lo :: .int v0 :: rest)) :=
  kRSN (n := 3) (As := [.int v0, .int lo, .int hi]) S (c_X8_isWithin l D cI v0 lo hi ) hl mw257 mw256 mw40 (by decide +kernel) hR rfl hK hsz hW hdg hcel kk
theorem k_X8_isWithin {p : Program} {l : Launch} {e : Env} {R : Room} {s : State} {m : MethodId} {args : Array Value} {below : List Frame} {meth : Method} {c : Code} {H : Heap} {locs : List Loc} {cells slots : Nat} {Q : State → Prop} {pc : Nat} {ls : Array Slot} {rest : List Value} {cc : ByteArray} {nL index Wd : Nat} {own : String} {D : va_G} {cI : ClassId} (v0 : Int32) (lo : Int32) (hi : Int32) (S : CallFix p m c cc nL s args WA own) (hl : Cond.methodLink own index yX8_isWithin ∈ WA) (hR : 0 + 1 ≤ R.frames ∧ Wd + (3 + 11) + 0 ≤ R.locals) (hK : KB D cI s) (hsz : ls.size = nL) (hW : (rest.map fun v => v.category).sum ≤ Wd) (hdg : decode cc pc = .ok (.invokestatic index, 3)) (hcel : cells ≤ R.cells ∧ slots ≤ R.slots) (kk : W p l e R s m args below meth c H locs cells slots Q (F0 m (pc + 3) ls (.int (bz (inR v0 lo hi)) :: rest))) : W p l e R s m args below meth c H locs cells slots Q (F0 m pc ls (.int hi :: .int lo :: .int v0 :: rest)) :=
  kRS (n := 3) (As := [.int v0, .int lo, .int hi]) S (c_X8_isWithin l D cI v0 lo hi ) hl mw257 mw256 mw40 (by decide +kernel) hR rfl hK hsz hW hdg hcel kk

set_option maxHeartbeats 4000000 in
set_option maxRecDepth 100000 in
theorem c_X8_isPlace (l : Launch) (D : va_G) (cI : ClassId) (x0 : Int32) (y0 : Int32) : CR l yX8_isPlace (wm yX8_isPlace cX8_isPlace 2 (some .boolean)) 1 14 D cI [.int x0, .int y0] [] (some (.int (bz (inR x0 (nI 0) (nI 1000) && inR y0 (nI 0) (nI 1000))))) := by
  refine CR.of (by decide) (Nat.le_of_ble_eq_true rfl) ?_
  intro p e s m below meth c hx hb hr hml hown hlocks hta hP hD hK ls hl
  have hl : lv_has ls 2 [(0, .int x0), (1, .int y0)] := hl
  have hP : va_P D vwCl [] s.heap := hP
  refine lv_iload_n hx hb dX8_isPlace_0 rfl (lv_at hl 0 rfl) ?_
  refine lv_iconst (v := nI 0) hx hb dX8_isPlace_1 (by decide) ?_
  refine lv_sipush (v := nI 1000) hx hb dX8_isPlace_2 (by decide) ?_
  refine k_X8_isWithin (Wd := 0) x0 (nI 0) (nI 1000)  ⟨hx, hb, hml, hown, hta⟩ mw328 ⟨Nat.le_of_ble_eq_true rfl, Nat.le_of_ble_eq_true rfl⟩ hK hl.1 (Nat.le_of_ble_eq_true rfl) dX8_isPlace_5 ⟨Nat.le_of_ble_eq_true rfl, Nat.le_of_ble_eq_true rfl⟩ ?_
  refine ifB_eq (tgt := 26) hx hb dX8_isPlace_8 (by decide) (fun c_8 => ?_) (fun c_8 => ?_)
  · refine lv_iconst (v := nI 0) hx hb dX8_isPlace_26 (by decide) ?_
    exact rRz hx hb hr hlocks dX8_isPlace_27 (by first | (simp only [bz, c_8, decide_true, decide_false, Bool.true_or, Bool.or_true, Bool.false_or, Bool.or_false, Bool.true_and, Bool.and_true, Bool.false_and, Bool.and_false, Bool.not_true, Bool.not_false, if_true, if_false, Bool.false_eq_true, and_true, true_and, and_false, false_and, or_true, true_or, or_false, false_or, not_true_eq_false, not_false_eq_true, bz]; done) | (simp only [bz, c_8, decide_true, decide_false, Bool.true_or, Bool.or_true, Bool.false_or, Bool.or_false, Bool.true_and, Bool.and_true, Bool.false_and, Bool.and_false, Bool.not_true, Bool.not_false, if_true, if_false, Bool.false_eq_true, and_true, true_and, and_false, false_and, or_true, true_or, or_false, false_or, not_true_eq_false, not_false_eq_true, bz]; rfl))
  · refine lv_iload_n hx hb dX8_isPlace_11 rfl (lv_at hl 1 rfl) ?_
    refine lv_iconst (v := nI 0) hx hb dX8_isPlace_12 (by decide) ?_
    refine lv_sipush (v := nI 1000) hx hb dX8_isPlace_13 (by decide) ?_
    refine k_X8_isWithin (Wd := 0) y0 (nI 0) (nI 1000)  ⟨hx, hb, hml, hown, hta⟩ mw328 ⟨Nat.le_of_ble_eq_true rfl, Nat.le_of_ble_eq_true rfl⟩ hK hl.1 (Nat.le_of_ble_eq_true rfl) dX8_isPlace_16 ⟨Nat.le_of_ble_eq_true rfl, Nat.le_of_ble_eq_true rfl⟩ ?_
    refine ifB_eq (tgt := 26) hx hb dX8_isPlace_19 (by decide) (fun c_19 => ?_) (fun c_19 => ?_)
    · refine lv_iconst (v := nI 0) hx hb dX8_isPlace_26 (by decide) ?_
      exact rRz hx hb hr hlocks dX8_isPlace_27 (by first | (simp only [bz, c_8, c_19, decide_true, decide_false, Bool.true_or, Bool.or_true, Bool.false_or, Bool.or_false, Bool.true_and, Bool.and_true, Bool.false_and, Bool.and_false, Bool.not_true, Bool.not_false, if_true, if_false, Bool.false_eq_true, and_true, true_and, and_false, false_and, or_true, true_or, or_false, false_or, not_true_eq_false, not_false_eq_true, bz]; done) | (simp only [bz, c_8, c_19, decide_true, decide_false, Bool.true_or, Bool.or_true, Bool.false_or, Bool.or_false, Bool.true_and, Bool.and_true, Bool.false_and, Bool.and_false, Bool.not_true, Bool.not_false, if_true, if_false, Bool.false_eq_true, and_true, true_and, and_false, false_and, or_true, true_or, or_false, false_or, not_true_eq_false, not_false_eq_true, bz]; rfl))
    · refine lv_iconst (v := nI 1) hx hb dX8_isPlace_22 (by decide) ?_
      refine lv_goto (tgt := 27) hx hb dX8_isPlace_23 (by decide) ?_
      exact rRz hx hb hr hlocks dX8_isPlace_27 (by first | (simp only [bz, c_8, c_19, decide_true, decide_false, Bool.true_or, Bool.or_true, Bool.false_or, Bool.or_false, Bool.true_and, Bool.and_true, Bool.false_and, Bool.and_false, Bool.not_true, Bool.not_false, if_true, if_false, Bool.false_eq_true, and_true, true_and, and_false, false_and, or_true, true_or, or_false, false_or, not_true_eq_false, not_false_eq_true, bz]; done) | (simp only [bz, c_8, c_19, decide_true, decide_false, Bool.true_or, Bool.or_true, Bool.false_or, Bool.or_false, Bool.true_and, Bool.and_true, Bool.false_and, Bool.and_false, Bool.not_true, Bool.not_false, if_true, if_false, Bool.false_eq_true, and_true, true_and, and_false, false_and, or_true, true_or, or_false, false_or, not_true_eq_false, not_false_eq_true, bz]; rfl))
theorem k_X8_isPlace {p : Program} {l : Launch} {e : Env} {R : Room} {s : State} {m : MethodId} {args : Array Value} {below : List Frame} {meth : Method} {c : Code} {H : Heap} {locs : List Loc} {cells slots : Nat} {Q : State → Prop} {pc : Nat} {ls : Array Slot} {rest : List Value} {cc : ByteArray} {nL index Wd : Nat} {own : String} {D : va_G} {cI : ClassId} (x0 : Int32) (y0 : Int32) (S : CallFix p m c cc nL s args WA own) (hl : Cond.methodLink own index yX8_isPlace ∈ WA) (hR : 1 + 1 ≤ R.frames ∧ Wd + (2 + 11) + 14 ≤ R.locals) (hK : KB D cI s) (hsz : ls.size = nL) (hW : (rest.map fun v => v.category).sum ≤ Wd) (hdg : decode cc pc = .ok (.invokestatic index, 3)) (hcel : cells ≤ R.cells ∧ slots ≤ R.slots) (kk : W p l e R s m args below meth c H locs cells slots Q (F0 m (pc + 3) ls (.int (bz (inR x0 (nI 0) (nI 1000) && inR y0 (nI 0) (nI 1000))) :: rest))) : W p l e R s m args below meth c H locs cells slots Q (F0 m pc ls (.int y0 :: .int x0 :: rest)) :=
  kRS (n := 2) (As := [.int x0, .int y0]) S (c_X8_isPlace l D cI x0 y0 ) hl mw327 mw326 mw40 (by decide +kernel) hR rfl hK hsz hW hdg hcel kk

set_option maxHeartbeats 4000000 in
set_option maxRecDepth 100000 in
theorem c_X8_isPicture (l : Launch) (D : va_G) (cI : ClassId) (q0 : Int32) : CR l yX8_isPicture (wm yX8_isPicture cX8_isPicture 1 (some .boolean)) 1 14 D cI [.int q0] [] (some (.int (bz (inR q0 (nI 0) (nI 1))))) := by
  refine CR.of (by decide) (Nat.le_of_ble_eq_true rfl) ?_
  intro p e s m below meth c hx hb hr hml hown hlocks hta hP hD hK ls hl
  have hl : lv_has ls 1 [(0, .int q0)] := hl
  have hP : va_P D vwCl [] s.heap := hP
  refine lv_iload_n hx hb dX8_isPicture_0 rfl (lv_at hl 0 rfl) ?_
  refine lv_iconst (v := nI 0) hx hb dX8_isPicture_1 (by decide) ?_
  refine lv_iconst (v := nI 1) hx hb dX8_isPicture_2 (by decide) ?_
  refine k_X8_isWithin (Wd := 0) q0 (nI 0) (nI 1)  ⟨hx, hb, hml, hown, hta⟩ mw328 ⟨Nat.le_of_ble_eq_true rfl, Nat.le_of_ble_eq_true rfl⟩ hK hl.1 (Nat.le_of_ble_eq_true rfl) dX8_isPicture_3 ⟨Nat.le_of_ble_eq_true rfl, Nat.le_of_ble_eq_true rfl⟩ ?_
  exact rRz hx hb hr hlocks dX8_isPicture_6 rfl
theorem k_X8_isPicture {p : Program} {l : Launch} {e : Env} {R : Room} {s : State} {m : MethodId} {args : Array Value} {below : List Frame} {meth : Method} {c : Code} {H : Heap} {locs : List Loc} {cells slots : Nat} {Q : State → Prop} {pc : Nat} {ls : Array Slot} {rest : List Value} {cc : ByteArray} {nL index Wd : Nat} {own : String} {D : va_G} {cI : ClassId} (q0 : Int32) (S : CallFix p m c cc nL s args WA own) (hl : Cond.methodLink own index yX8_isPicture ∈ WA) (hR : 1 + 1 ≤ R.frames ∧ Wd + (1 + 11) + 14 ≤ R.locals) (hK : KB D cI s) (hsz : ls.size = nL) (hW : (rest.map fun v => v.category).sum ≤ Wd) (hdg : decode cc pc = .ok (.invokestatic index, 3)) (hcel : cells ≤ R.cells ∧ slots ≤ R.slots) (kk : W p l e R s m args below meth c H locs cells slots Q (F0 m (pc + 3) ls (.int (bz (inR q0 (nI 0) (nI 1))) :: rest))) : W p l e R s m args below meth c H locs cells slots Q (F0 m pc ls (.int q0 :: rest)) :=
  kRS (n := 1) (As := [.int q0]) S (c_X8_isPicture l D cI q0 ) hl mw352 mw351 mw40 (by decide +kernel) hR rfl hK hsz hW hdg hcel kk

set_option maxHeartbeats 4000000 in
set_option maxRecDepth 100000 in
theorem c_X8_isTicks (l : Launch) (D : va_G) (cI : ClassId) (n0 : Int32) : CR l yX8_isTicks (wm yX8_isTicks cX8_isTicks 1 (some .boolean)) 1 14 D cI [.int n0] [] (some (.int (bz (inR n0 (nI 1) (nI 100))))) := by
  refine CR.of (by decide) (Nat.le_of_ble_eq_true rfl) ?_
  intro p e s m below meth c hx hb hr hml hown hlocks hta hP hD hK ls hl
  have hl : lv_has ls 1 [(0, .int n0)] := hl
  have hP : va_P D vwCl [] s.heap := hP
  refine lv_iload_n hx hb dX8_isTicks_0 rfl (lv_at hl 0 rfl) ?_
  refine lv_iconst (v := nI 1) hx hb dX8_isTicks_1 (by decide) ?_
  refine lv_bipush (v := nI 100) hx hb dX8_isTicks_2 (by decide) ?_
  refine k_X8_isWithin (Wd := 0) n0 (nI 1) (nI 100)  ⟨hx, hb, hml, hown, hta⟩ mw328 ⟨Nat.le_of_ble_eq_true rfl, Nat.le_of_ble_eq_true rfl⟩ hK hl.1 (Nat.le_of_ble_eq_true rfl) dX8_isTicks_4 ⟨Nat.le_of_ble_eq_true rfl, Nat.le_of_ble_eq_true rfl⟩ ?_
  exact rRz hx hb hr hlocks dX8_isTicks_7 rfl
theorem k_X8_isTicks {p : Program} {l : Launch} {e : Env} {R : Room} {s : State} {m : MethodId} {args : Array Value} {below : List Frame} {meth : Method} {c : Code} {H : Heap} {locs : List Loc} {cells slots : Nat} {Q : State → Prop} {pc : Nat} {ls : Array Slot} {rest : List Value} {cc : ByteArray} {nL index Wd : Nat} {own : String} {D : va_G} {cI : ClassId} (n0 : Int32) (S : CallFix p m c cc nL s args WA own) (hl : Cond.methodLink own index yX8_isTicks ∈ WA) (hR : 1 + 1 ≤ R.frames ∧ Wd + (1 + 11) + 14 ≤ R.locals) (hK : KB D cI s) (hsz : ls.size = nL) (hW : (rest.map fun v => v.category).sum ≤ Wd) (hdg : decode cc pc = .ok (.invokestatic index, 3)) (hcel : cells ≤ R.cells ∧ slots ≤ R.slots) (kk : W p l e R s m args below meth c H locs cells slots Q (F0 m (pc + 3) ls (.int (bz (inR n0 (nI 1) (nI 100))) :: rest))) : W p l e R s m args below meth c H locs cells slots Q (F0 m pc ls (.int n0 :: rest)) :=
  kRS (n := 1) (As := [.int n0]) S (c_X8_isTicks l D cI n0 ) hl mw363 mw362 mw40 (by decide +kernel) hR rfl hK hsz hW hdg hcel kk

set_option maxHeartbeats 4000000 in
set_option maxRecDepth 100000 in
theorem c_X8_isTick (l : Launch) (D : va_G) (cI : ClassId) (k0 : Int32) (n0 : Int32) : CR l yX8_isTick (wm yX8_isTick cX8_isTick 2 (some .boolean)) 2 26 D cI [.int k0, .int n0] [] (some (.int (bz (inR n0 (nI 1) (nI 100) && inR k0 (nI 0) n0)))) := by
  refine CR.of (by decide) (Nat.le_of_ble_eq_true rfl) ?_
  intro p e s m below meth c hx hb hr hml hown hlocks hta hP hD hK ls hl
  have hl : lv_has ls 2 [(0, .int k0), (1, .int n0)] := hl
  have hP : va_P D vwCl [] s.heap := hP
  refine lv_iload_n hx hb dX8_isTick_0 rfl (lv_at hl 1 rfl) ?_
  refine k_X8_isTicks (Wd := 0) n0  ⟨hx, hb, hml, hown, hta⟩ mw361 ⟨Nat.le_of_ble_eq_true rfl, Nat.le_of_ble_eq_true rfl⟩ hK hl.1 (Nat.le_of_ble_eq_true rfl) dX8_isTick_1 ⟨Nat.le_of_ble_eq_true rfl, Nat.le_of_ble_eq_true rfl⟩ ?_
  refine ifB_eq (tgt := 20) hx hb dX8_isTick_4 (by decide) (fun c_4 => ?_) (fun c_4 => ?_)
  · refine lv_iconst (v := nI 0) hx hb dX8_isTick_20 (by decide) ?_
    exact rRz hx hb hr hlocks dX8_isTick_21 (by first | (simp only [bz, c_4, decide_true, decide_false, Bool.true_or, Bool.or_true, Bool.false_or, Bool.or_false, Bool.true_and, Bool.and_true, Bool.false_and, Bool.and_false, Bool.not_true, Bool.not_false, if_true, if_false, Bool.false_eq_true, and_true, true_and, and_false, false_and, or_true, true_or, or_false, false_or, not_true_eq_false, not_false_eq_true, bz]; done) | (simp only [bz, c_4, decide_true, decide_false, Bool.true_or, Bool.or_true, Bool.false_or, Bool.or_false, Bool.true_and, Bool.and_true, Bool.false_and, Bool.and_false, Bool.not_true, Bool.not_false, if_true, if_false, Bool.false_eq_true, and_true, true_and, and_false, false_and, or_true, true_or, or_false, false_or, not_true_eq_false, not_false_eq_true, bz]; rfl))
  · refine lv_iload_n hx hb dX8_isTick_7 rfl (lv_at hl 0 rfl) ?_
    refine lv_iconst (v := nI 0) hx hb dX8_isTick_8 (by decide) ?_
    refine lv_iload_n hx hb dX8_isTick_9 rfl (lv_at hl 1 rfl) ?_
    refine k_X8_isWithin (Wd := 0) k0 (nI 0) n0  ⟨hx, hb, hml, hown, hta⟩ mw328 ⟨Nat.le_of_ble_eq_true rfl, Nat.le_of_ble_eq_true rfl⟩ hK hl.1 (Nat.le_of_ble_eq_true rfl) dX8_isTick_10 ⟨Nat.le_of_ble_eq_true rfl, Nat.le_of_ble_eq_true rfl⟩ ?_
    refine ifB_eq (tgt := 20) hx hb dX8_isTick_13 (by decide) (fun c_13 => ?_) (fun c_13 => ?_)
    · refine lv_iconst (v := nI 0) hx hb dX8_isTick_20 (by decide) ?_
      exact rRz hx hb hr hlocks dX8_isTick_21 (by first | (simp only [bz, c_4, c_13, decide_true, decide_false, Bool.true_or, Bool.or_true, Bool.false_or, Bool.or_false, Bool.true_and, Bool.and_true, Bool.false_and, Bool.and_false, Bool.not_true, Bool.not_false, if_true, if_false, Bool.false_eq_true, and_true, true_and, and_false, false_and, or_true, true_or, or_false, false_or, not_true_eq_false, not_false_eq_true, bz]; done) | (simp only [bz, c_4, c_13, decide_true, decide_false, Bool.true_or, Bool.or_true, Bool.false_or, Bool.or_false, Bool.true_and, Bool.and_true, Bool.false_and, Bool.and_false, Bool.not_true, Bool.not_false, if_true, if_false, Bool.false_eq_true, and_true, true_and, and_false, false_and, or_true, true_or, or_false, false_or, not_true_eq_false, not_false_eq_true, bz]; rfl))
    · refine lv_iconst (v := nI 1) hx hb dX8_isTick_16 (by decide) ?_
      refine lv_goto (tgt := 21) hx hb dX8_isTick_17 (by decide) ?_
      exact rRz hx hb hr hlocks dX8_isTick_21 (by first | (simp only [bz, c_4, c_13, decide_true, decide_false, Bool.true_or, Bool.or_true, Bool.false_or, Bool.or_false, Bool.true_and, Bool.and_true, Bool.false_and, Bool.and_false, Bool.not_true, Bool.not_false, if_true, if_false, Bool.false_eq_true, and_true, true_and, and_false, false_and, or_true, true_or, or_false, false_or, not_true_eq_false, not_false_eq_true, bz]; done) | (simp only [bz, c_4, c_13, decide_true, decide_false, Bool.true_or, Bool.or_true, Bool.false_or, Bool.or_false, Bool.true_and, Bool.and_true, Bool.false_and, Bool.and_false, Bool.not_true, Bool.not_false, if_true, if_false, Bool.false_eq_true, and_true, true_and, and_false, false_and, or_true, true_or, or_false, false_or, not_true_eq_false, not_false_eq_true, bz]; rfl))
theorem k_X8_isTick {p : Program} {l : Launch} {e : Env} {R : Room} {s : State} {m : MethodId} {args : Array Value} {below : List Frame} {meth : Method} {c : Code} {H : Heap} {locs : List Loc} {cells slots : Nat} {Q : State → Prop} {pc : Nat} {ls : Array Slot} {rest : List Value} {cc : ByteArray} {nL index Wd : Nat} {own : String} {D : va_G} {cI : ClassId} (k0 : Int32) (n0 : Int32) (S : CallFix p m c cc nL s args WA own) (hl : Cond.methodLink own index yX8_isTick ∈ WA) (hR : 2 + 1 ≤ R.frames ∧ Wd + (2 + 11) + 26 ≤ R.locals) (hK : KB D cI s) (hsz : ls.size = nL) (hW : (rest.map fun v => v.category).sum ≤ Wd) (hdg : decode cc pc = .ok (.invokestatic index, 3)) (hcel : cells ≤ R.cells ∧ slots ≤ R.slots) (kk : W p l e R s m args below meth c H locs cells slots Q (F0 m (pc + 3) ls (.int (bz (inR n0 (nI 1) (nI 100) && inR k0 (nI 0) n0)) :: rest))) : W p l e R s m args below meth c H locs cells slots Q (F0 m pc ls (.int n0 :: .int k0 :: rest)) :=
  kRS (n := 2) (As := [.int k0, .int n0]) S (c_X8_isTick l D cI k0 n0 ) hl mw360 mw359 mw40 (by decide +kernel) hR rfl hK hsz hW hdg hcel kk

set_option maxHeartbeats 4000000 in
set_option maxRecDepth 100000 in
theorem c_X3_many (l : Launch) (D : va_G) (cI : ClassId) (mk : Nat) (mx : Nat) (my : Nat) (mn : Nat) (xs : Nat → Int32) (ys : Nat → Int32) : CR l yX3_many (wm yX3_many cX3_many 1 (some .int)) 0 0 D cI [.ref mk] [(mk, .inr (3, [.int (nI mn), .ref mx, .ref my])), (mx, .inl (cI, 32, .inl xs)), (my, .inl (cI, 32, .inl ys))] (some (.int (nI mn))) := by
  refine CR.of (by decide) (Nat.le_of_ble_eq_true rfl) ?_
  intro p e s m below meth c hx hb hr hml hown hlocks hta hP hD hK ls hl
  have hl : lv_has ls 1 [(0, .ref mk)] := hl
  have hP : va_P D vwCl [(mk, .inr (3, [.int (nI mn), .ref mx, .ref my])), (mx, .inl (cI, 32, .inl xs)), (my, .inl (cI, 32, .inl ys))] s.heap := hP
  refine lv_aload_n hx hb dX3_many_0 rfl (lv_at hl 0 rfl) ?_
  refine getX hx hb hta inA3 hown hK hP 0 rfl rfl 0 (by decide) mw83 rfl rfl dX3_many_1 ?_
  exact rRi hx hb hr hlocks dX3_many_4 rfl
theorem k_X3_many {p : Program} {l : Launch} {e : Env} {R : Room} {s : State} {m : MethodId} {args : Array Value} {below : List Frame} {meth : Method} {c : Code} {H : Heap} {locs : List Loc} {cells slots : Nat} {Q : State → Prop} {pc : Nat} {ls : Array Slot} {rest : List Value} {cc : ByteArray} {nL index Wd : Nat} {own : String} {D : va_G} {cI : ClassId} {A : Nat → Prop} {ws : va_W} (mk : Nat) (mx : Nat) (my : Nat) (mn : Nat) (xs : Nat → Int32) (ys : Nat → Int32) (S : CallFix p m c cc nL s args WA own) (hl : Cond.methodLink own index yX3_many ∈ WA) (hR : 0 + 1 ≤ R.frames ∧ Wd + (1 + 11) + 0 ≤ R.locals) (hK : KB D cI s) (hP : va_P D vwCl ws H) (hD : va_D A ws) (is : List Nat) (hs : is.map (fun i => ws[i]?) = ([(mk, .inr (3, [.int (nI mn), .ref mx, .ref my])), (mx, .inl (cI, 32, .inl xs)), (my, .inl (cI, 32, .inl ys))] : va_W).map some) (hnd : va_nd is = true) (hsz : ls.size = nL) (hW : (rest.map fun v => v.category).sum ≤ Wd) (hdg : decode cc pc = .ok (.invokevirtual index, 3)) (hcel : cells ≤ R.cells ∧ slots ≤ R.slots) (kk : W p l e R s m args below meth c H locs cells slots Q (F0 m (pc + 3) ls (.int (nI mn) :: rest))) : W p l e R s m args below meth c H locs cells slots Q (F0 m pc ls (.ref mk :: rest)) :=
  kRV (n := 0) (As := []) (ci := 3) S (c_X3_many l D cI mk mx my mn xs ys ) hl mw462 mw460 mw461 mw42 (by decide +kernel) hR rfl rfl rfl rfl hK hP hD is hs hnd hsz hW hdg hcel kk

set_option maxHeartbeats 4000000 in
set_option maxRecDepth 100000 in
theorem c_X3_isFull (l : Launch) (D : va_G) (cI : ClassId) (mk : Nat) (mx : Nat) (my : Nat) (mn : Nat) (xs : Nat → Int32) (ys : Nat → Int32) (hmn : mn ≤ 16) : CR l yX3_isFull (wm yX3_isFull cX3_isFull 1 (some .boolean)) 0 0 D cI [.ref mk] [(mk, .inr (3, [.int (nI mn), .ref mx, .ref my])), (mx, .inl (cI, 32, .inl xs)), (my, .inl (cI, 32, .inl ys))] (some (.int (bz (!decide (mn < 16))))) := by
  refine CR.of (by decide) (Nat.le_of_ble_eq_true rfl) ?_
  intro p e s m below meth c hx hb hr hml hown hlocks hta hP hD hK ls hl
  have hl : lv_has ls 1 [(0, .ref mk)] := hl
  have hP : va_P D vwCl [(mk, .inr (3, [.int (nI mn), .ref mx, .ref my])), (mx, .inl (cI, 32, .inl xs)), (my, .inl (cI, 32, .inl ys))] s.heap := hP
  refine lv_aload_n hx hb dX3_isFull_0 rfl (lv_at hl 0 rfl) ?_
  refine getX hx hb hta inA3 hown hK hP 0 rfl rfl 0 (by decide) mw83 rfl rfl dX3_isFull_1 ?_
  refine lv_bipush (v := nI 16) hx hb dX3_isFull_4 (by decide) ?_
  refine icmpN_lt (tgt := 13) hx hb dX3_isFull_6 (by decide) (by omega) (by omega) (fun c_6 => ?_) (fun c_6 => ?_)
  · refine lv_iconst (v := nI 0) hx hb dX3_isFull_13 (by decide) ?_
    exact rRz hx hb hr hlocks dX3_isFull_14 (by first | (simp only [bz, eq_true c_6, decide_true, decide_false, Bool.true_or, Bool.or_true, Bool.false_or, Bool.or_false, Bool.true_and, Bool.and_true, Bool.false_and, Bool.and_false, Bool.not_true, Bool.not_false, if_true, if_false, Bool.false_eq_true, and_true, true_and, and_false, false_and, or_true, true_or, or_false, false_or, not_true_eq_false, not_false_eq_true, bz]; done) | (simp only [bz, eq_true c_6, decide_true, decide_false, Bool.true_or, Bool.or_true, Bool.false_or, Bool.or_false, Bool.true_and, Bool.and_true, Bool.false_and, Bool.and_false, Bool.not_true, Bool.not_false, if_true, if_false, Bool.false_eq_true, and_true, true_and, and_false, false_and, or_true, true_or, or_false, false_or, not_true_eq_false, not_false_eq_true, bz]; rfl))
  · refine lv_iconst (v := nI 1) hx hb dX3_isFull_9 (by decide) ?_
    refine lv_goto (tgt := 14) hx hb dX3_isFull_10 (by decide) ?_
    exact rRz hx hb hr hlocks dX3_isFull_14 (by first | (simp only [bz, eq_false c_6, decide_true, decide_false, Bool.true_or, Bool.or_true, Bool.false_or, Bool.or_false, Bool.true_and, Bool.and_true, Bool.false_and, Bool.and_false, Bool.not_true, Bool.not_false, if_true, if_false, Bool.false_eq_true, and_true, true_and, and_false, false_and, or_true, true_or, or_false, false_or, not_true_eq_false, not_false_eq_true, bz]; done) | (simp only [bz, eq_false c_6, decide_true, decide_false, Bool.true_or, Bool.or_true, Bool.false_or, Bool.or_false, Bool.true_and, Bool.and_true, Bool.false_and, Bool.and_false, Bool.not_true, Bool.not_false, if_true, if_false, Bool.false_eq_true, and_true, true_and, and_false, false_and, or_true, true_or, or_false, false_or, not_true_eq_false, not_false_eq_true, bz]; rfl))
theorem k_X3_isFull {p : Program} {l : Launch} {e : Env} {R : Room} {s : State} {m : MethodId} {args : Array Value} {below : List Frame} {meth : Method} {c : Code} {H : Heap} {locs : List Loc} {cells slots : Nat} {Q : State → Prop} {pc : Nat} {ls : Array Slot} {rest : List Value} {cc : ByteArray} {nL index Wd : Nat} {own : String} {D : va_G} {cI : ClassId} {A : Nat → Prop} {ws : va_W} (mk : Nat) (mx : Nat) (my : Nat) (mn : Nat) (xs : Nat → Int32) (ys : Nat → Int32) (hmn : mn ≤ 16) (S : CallFix p m c cc nL s args WA own) (hl : Cond.methodLink own index yX3_isFull ∈ WA) (hR : 0 + 1 ≤ R.frames ∧ Wd + (1 + 11) + 0 ≤ R.locals) (hK : KB D cI s) (hP : va_P D vwCl ws H) (hD : va_D A ws) (is : List Nat) (hs : is.map (fun i => ws[i]?) = ([(mk, .inr (3, [.int (nI mn), .ref mx, .ref my])), (mx, .inl (cI, 32, .inl xs)), (my, .inl (cI, 32, .inl ys))] : va_W).map some) (hnd : va_nd is = true) (hsz : ls.size = nL) (hW : (rest.map fun v => v.category).sum ≤ Wd) (hdg : decode cc pc = .ok (.invokevirtual index, 3)) (hcel : cells ≤ R.cells ∧ slots ≤ R.slots) (kk : W p l e R s m args below meth c H locs cells slots Q (F0 m (pc + 3) ls (.int (bz (!decide (mn < 16))) :: rest))) : W p l e R s m args below meth c H locs cells slots Q (F0 m pc ls (.ref mk :: rest)) :=
  kRV (n := 0) (As := []) (ci := 3) S (c_X3_isFull l D cI mk mx my mn xs ys hmn) hl mw332 mw330 mw331 mw42 (by decide +kernel) hR rfl rfl rfl rfl hK hP hD is hs hnd hsz hW hdg hcel kk

set_option maxHeartbeats 4000000 in
set_option maxRecDepth 100000 in
theorem c_X3_isMark (l : Launch) (D : va_G) (cI : ClassId) (mk : Nat) (mx : Nat) (my : Nat) (a0 : Int32) (mn : Nat) (xs : Nat → Int32) (ys : Nat → Int32) : CR l yX3_isMark (wm yX3_isMark cX3_isMark 2 (some .boolean)) 0 0 D cI [.ref mk, .int a0] [(mk, .inr (3, [.int (nI mn), .ref mx, .ref my])), (mx, .inl (cI, 32, .inl xs)), (my, .inl (cI, 32, .inl ys))] (some (.int (bz (inM a0 mn)))) := by
  refine CR.of (by decide) (Nat.le_of_ble_eq_true rfl) ?_
  intro p e s m below meth c hx hb hr hml hown hlocks hta hP hD hK ls hl
  have hl : lv_has ls 2 [(0, .ref mk), (1, .int a0)] := hl
  have hP : va_P D vwCl [(mk, .inr (3, [.int (nI mn), .ref mx, .ref my])), (mx, .inl (cI, 32, .inl xs)), (my, .inl (cI, 32, .inl ys))] s.heap := hP
  refine lv_iload_n hx hb dX3_isMark_0 rfl (lv_at hl 1 rfl) ?_
  refine ifI_lt (tgt := 16) hx hb dX3_isMark_1 (by decide) (fun c_1 => ?_) (fun c_1 => ?_)
  · refine lv_iconst (v := nI 0) hx hb dX3_isMark_16 (by decide) ?_
    exact rRz hx hb hr hlocks dX3_isMark_17 (by first | (simp only [inM, eq_true c_1, decide_true, decide_false, Bool.true_or, Bool.or_true, Bool.false_or, Bool.or_false, Bool.true_and, Bool.and_true, Bool.false_and, Bool.and_false, Bool.not_true, Bool.not_false, if_true, if_false, Bool.false_eq_true, and_true, true_and, and_false, false_and, or_true, true_or, or_false, false_or, not_true_eq_false, not_false_eq_true, bz]; done) | (simp only [inM, eq_true c_1, decide_true, decide_false, Bool.true_or, Bool.or_true, Bool.false_or, Bool.or_false, Bool.true_and, Bool.and_true, Bool.false_and, Bool.and_false, Bool.not_true, Bool.not_false, if_true, if_false, Bool.false_eq_true, and_true, true_and, and_false, false_and, or_true, true_or, or_false, false_or, not_true_eq_false, not_false_eq_true, bz]; rfl))
  · refine lv_iload_n hx hb dX3_isMark_4 rfl (lv_at hl 1 rfl) ?_
    refine lv_aload_n hx hb dX3_isMark_5 rfl (lv_at hl 0 rfl) ?_
    refine getX hx hb hta inA3 hown hK hP 0 rfl rfl 0 (by decide) mw83 rfl rfl dX3_isMark_6 ?_
    refine icmpI_ge (tgt := 16) hx hb dX3_isMark_9 (by decide) (fun c_9 => ?_) (fun c_9 => ?_)
    · refine lv_iconst (v := nI 0) hx hb dX3_isMark_16 (by decide) ?_
      exact rRz hx hb hr hlocks dX3_isMark_17 (by first | (simp only [inM, eq_false c_1, eq_false c_9, decide_true, decide_false, Bool.true_or, Bool.or_true, Bool.false_or, Bool.or_false, Bool.true_and, Bool.and_true, Bool.false_and, Bool.and_false, Bool.not_true, Bool.not_false, if_true, if_false, Bool.false_eq_true, and_true, true_and, and_false, false_and, or_true, true_or, or_false, false_or, not_true_eq_false, not_false_eq_true, bz]; done) | (simp only [inM, eq_false c_1, eq_false c_9, decide_true, decide_false, Bool.true_or, Bool.or_true, Bool.false_or, Bool.or_false, Bool.true_and, Bool.and_true, Bool.false_and, Bool.and_false, Bool.not_true, Bool.not_false, if_true, if_false, Bool.false_eq_true, and_true, true_and, and_false, false_and, or_true, true_or, or_false, false_or, not_true_eq_false, not_false_eq_true, bz]; rfl))
    · refine lv_iconst (v := nI 1) hx hb dX3_isMark_12 (by decide) ?_
      refine lv_goto (tgt := 17) hx hb dX3_isMark_13 (by decide) ?_
      exact rRz hx hb hr hlocks dX3_isMark_17 (by first | (simp only [inM, eq_false c_1, eq_true c_9, decide_true, decide_false, Bool.true_or, Bool.or_true, Bool.false_or, Bool.or_false, Bool.true_and, Bool.and_true, Bool.false_and, Bool.and_false, Bool.not_true, Bool.not_false, if_true, if_false, Bool.false_eq_true, and_true, true_and, and_false, false_and, or_true, true_or, or_false, false_or, not_true_eq_false, not_false_eq_true, bz]; done) | (simp only [inM, eq_false c_1, eq_true c_9, decide_true, decide_false, Bool.true_or, Bool.or_true, Bool.false_or, Bool.or_false, Bool.true_and, Bool.and_true, Bool.false_and, Bool.and_false, Bool.not_true, Bool.not_false, if_true, if_false, Bool.false_eq_true, and_true, true_and, and_false, false_and, or_true, true_or, or_false, false_or, not_true_eq_false, not_false_eq_true, bz]; rfl))
theorem k_X3_isMark {p : Program} {l : Launch} {e : Env} {R : Room} {s : State} {m : MethodId} {args : Array Value} {below : List Frame} {meth : Method} {c : Code} {H : Heap} {locs : List Loc} {cells slots : Nat} {Q : State → Prop} {pc : Nat} {ls : Array Slot} {rest : List Value} {cc : ByteArray} {nL index Wd : Nat} {own : String} {D : va_G} {cI : ClassId} {A : Nat → Prop} {ws : va_W} (mk : Nat) (mx : Nat) (my : Nat) (a0 : Int32) (mn : Nat) (xs : Nat → Int32) (ys : Nat → Int32) (S : CallFix p m c cc nL s args WA own) (hl : Cond.methodLink own index yX3_isMark ∈ WA) (hR : 0 + 1 ≤ R.frames ∧ Wd + (2 + 11) + 0 ≤ R.locals) (hK : KB D cI s) (hP : va_P D vwCl ws H) (hD : va_D A ws) (is : List Nat) (hs : is.map (fun i => ws[i]?) = ([(mk, .inr (3, [.int (nI mn), .ref mx, .ref my])), (mx, .inl (cI, 32, .inl xs)), (my, .inl (cI, 32, .inl ys))] : va_W).map some) (hnd : va_nd is = true) (hsz : ls.size = nL) (hW : (rest.map fun v => v.category).sum ≤ Wd) (hdg : decode cc pc = .ok (.invokevirtual index, 3)) (hcel : cells ≤ R.cells ∧ slots ≤ R.slots) (kk : W p l e R s m args below meth c H locs cells slots Q (F0 m (pc + 3) ls (.int (bz (inM a0 mn)) :: rest))) : W p l e R s m args below meth c H locs cells slots Q (F0 m pc ls (.int a0 :: .ref mk :: rest)) :=
  kRV (n := 1) (As := [.int a0]) (ci := 3) S (c_X3_isMark l D cI mk mx my a0 mn xs ys ) hl mw349 mw347 mw348 mw42 (by decide +kernel) hR rfl rfl rfl rfl hK hP hD is hs hnd hsz hW hdg hcel kk

set_option maxHeartbeats 4000000 in
set_option maxRecDepth 100000 in
theorem c_X3_put (l : Launch) (D : va_G) (cI : ClassId) (mk : Nat) (mx : Nat) (my : Nat) (a0 : Nat) (q0 : Nat) (x0 : Int32) (y0 : Int32) (mn : Nat) (xs : Nat → Int32) (ys : Nat → Int32) (ha0 : a0 < 16) (hq0 : q0 < 2) : CW l yX3_put (wm yX3_put cX3_put 5 none) 0 0 D cI [.ref mk, .int (nI a0), .int (nI q0), .int x0, .int y0] [(mk, .inr (3, [.int (nI mn), .ref mx, .ref my])), (mx, .inl (cI, 32, .inl xs)), (my, .inl (cI, 32, .inl ys))] (fun v w' => v = none ∧ w' = [(mk, .inr (3, [.int (nI mn), .ref mx, .ref my])), (mx, .inl (cI, 32, .inl (upd xs (q0 * 16 + a0) x0))), (my, .inl (cI, 32, .inl (upd ys (q0 * 16 + a0) y0)))]) := by
  refine CW.of (by decide) (Nat.le_of_ble_eq_true rfl) ?_
  intro p e s m below meth c hx hb hr hml hown hlocks hta hP hD hK hS ls hl
  have hl : lv_has ls 5 [(0, .ref mk), (1, .int (nI a0)), (2, .int (nI q0)), (3, .int x0), (4, .int y0)] := hl
  have hP : va_P D vwCl [(mk, .inr (3, [.int (nI mn), .ref mx, .ref my])), (mx, .inl (cI, 32, .inl xs)), (my, .inl (cI, 32, .inl ys))] s.heap := hP
  refine lv_aload_n hx hb dX3_put_0 rfl (lv_at hl 0 rfl) ?_
  refine getX hx hb hta inA3 hown hK hP 0 rfl rfl 1 (by decide) mw84 rfl rfl dX3_put_1 ?_
  refine lv_iload_n hx hb dX3_put_4 rfl (lv_at hl 2 rfl) ?_
  refine lv_bipush (v := nI 16) hx hb dX3_put_5 (by decide) ?_
  refine imulN (a := q0) (b := 16) hx hb dX3_put_7 ?_
  refine lv_iload_n hx hb dX3_put_8 rfl (lv_at hl 1 rfl) ?_
  refine iaddN (a := q0 * 16) (b := a0) hx hb dX3_put_9 ?_
  refine lv_iload_n hx hb dX3_put_10 rfl (lv_at hl 3 rfl) ?_
  refine iastN hx hb hK hP hD hS 1 rfl (by omega) (by decide) dX3_put_11 (fun H locs hP hS => ?_)
  have hP : va_P D vwCl [(mk, .inr (3, [.int (nI mn), .ref mx, .ref my])), (mx, .inl (cI, 32, .inl (upd xs (q0 * 16 + a0) x0))), (my, .inl (cI, 32, .inl ys))] H := hP
  have hD : va_D (adrs [(mk, .inr (3, [.int (nI mn), .ref mx, .ref my])), (mx, .inl (cI, 32, .inl xs)), (my, .inl (cI, 32, .inl ys))]) [(mk, .inr (3, [.int (nI mn), .ref mx, .ref my])), (mx, .inl (cI, 32, .inl (upd xs (q0 * 16 + a0) x0))), (my, .inl (cI, 32, .inl ys))] := hD.same rfl
  refine lv_aload_n hx hb dX3_put_12 rfl (lv_at hl 0 rfl) ?_
  refine getX hx hb hta inA3 hown hK hP 0 rfl rfl 2 (by decide) mw85 rfl rfl dX3_put_13 ?_
  refine lv_iload_n hx hb dX3_put_16 rfl (lv_at hl 2 rfl) ?_
  refine lv_bipush (v := nI 16) hx hb dX3_put_17 (by decide) ?_
  refine imulN (a := q0) (b := 16) hx hb dX3_put_19 ?_
  refine lv_iload_n hx hb dX3_put_20 rfl (lv_at hl 1 rfl) ?_
  refine iaddN (a := q0 * 16) (b := a0) hx hb dX3_put_21 ?_
  refine lv_iload hx hb dX3_put_22 (lv_at hl 4 rfl) ?_
  refine iastN hx hb hK hP hD hS 2 rfl (by omega) (by decide) dX3_put_24 (fun H locs hP hS => ?_)
  have hP : va_P D vwCl [(mk, .inr (3, [.int (nI mn), .ref mx, .ref my])), (mx, .inl (cI, 32, .inl (upd xs (q0 * 16 + a0) x0))), (my, .inl (cI, 32, .inl (upd ys (q0 * 16 + a0) y0)))] H := hP
  have hD : va_D (adrs [(mk, .inr (3, [.int (nI mn), .ref mx, .ref my])), (mx, .inl (cI, 32, .inl xs)), (my, .inl (cI, 32, .inl ys))]) [(mk, .inr (3, [.int (nI mn), .ref mx, .ref my])), (mx, .inl (cI, 32, .inl (upd xs (q0 * 16 + a0) x0))), (my, .inl (cI, 32, .inl (upd ys (q0 * 16 + a0) y0)))] := hD.same rfl
  exact rWv hx hb hr hlocks dX3_put_25 hP hS rfl ⟨rfl, rfl⟩
theorem k_X3_put {p : Program} {l : Launch} {e : Env} {R : Room} {s : State} {m : MethodId} {args : Array Value} {below : List Frame} {meth : Method} {c : Code} {H : Heap} {locs : List Loc} {cells slots : Nat} {Q : State → Prop} {pc : Nat} {ls : Array Slot} {rest : List Value} {cc : ByteArray} {nL index Wd : Nat} {own : String} {D : va_G} {cI : ClassId} {A : Nat → Prop} {ws : va_W} {H0 : Heap} (mk : Nat) (mx : Nat) (my : Nat) (a0 : Nat) (q0 : Nat) (x0 : Int32) (y0 : Int32) (mn : Nat) (xs : Nat → Int32) (ys : Nat → Int32) (ha0 : a0 < 16) (hq0 : q0 < 2) (S : CallFix p m c cc nL s args WA own) (hl : Cond.methodLink own index yX3_put ∈ WA) (hR : 0 + 1 ≤ R.frames ∧ Wd + (5 + 11) + 0 ≤ R.locals) (hK : KB D cI s) (hP : va_P D vwCl ws H) (hD : va_D A ws) (hS : va_S A H0 H locs) (is : List Nat) (hs : is.map (fun i => ws[i]?) = ([(mk, .inr (3, [.int (nI mn), .ref mx, .ref my])), (mx, .inl (cI, 32, .inl xs)), (my, .inl (cI, 32, .inl ys))] : va_W).map some) (hnd : va_nd is = true) (hsz : ls.size = nL) (hW : (rest.map fun v => v.category).sum ≤ Wd) (hdg : decode cc pc = .ok (.invokevirtual index, 3)) (hcel : cells ≤ R.cells ∧ slots ≤ R.slots) (kk : ∀ (H1 : Heap) (locs1 : List Loc), va_P D vwCl (rp ws is [(mk, .inr (3, [.int (nI mn), .ref mx, .ref my])), (mx, .inl (cI, 32, .inl (upd xs (q0 * 16 + a0) x0))), (my, .inl (cI, 32, .inl (upd ys (q0 * 16 + a0) y0)))]) H1 → va_S A H0 H1 locs1 → W p l e R s m args below meth c H1 locs1 cells slots Q (F0 m (pc + 3) ls (rest))) : W p l e R s m args below meth c H locs cells slots Q (F0 m pc ls (.int y0 :: .int x0 :: .int (nI q0) :: .int (nI a0) :: .ref mk :: rest)) :=
  kWV (n := 4) (As := [.int (nI a0), .int (nI q0), .int x0, .int y0]) (ci := 3) S (c_X3_put l D cI mk mx my a0 q0 x0 y0 mn xs ys ha0 hq0) hl mw341 mw339 mw340 mw42 (by decide +kernel) hR rfl rfl rfl rfl hK hP hD hS is hs hnd hsz hW hdg hcel (fun v w' H1 locs1 hq h1 h2 => by obtain ⟨rfl, rfl⟩ := hq; exact kk  H1 locs1 h1 h2)

set_option maxHeartbeats 4000000 in
set_option maxRecDepth 100000 in
theorem c_X3_add (l : Launch) (D : va_G) (cI : ClassId) (mk : Nat) (mx : Nat) (my : Nat) (x0 : Int32) (y0 : Int32) (x1 : Int32) (y1 : Int32) (mn : Nat) (xs : Nat → Int32) (ys : Nat → Int32) (hmn : mn < 16) : CW l yX3_add (wm yX3_add cX3_add 6 (some .int)) 1 16 D cI [.ref mk, .int x0, .int y0, .int x1, .int y1] [(mk, .inr (3, [.int (nI mn), .ref mx, .ref my])), (mx, .inl (cI, 32, .inl xs)), (my, .inl (cI, 32, .inl ys))] (fun v w' => v = some (.int (nI mn)) ∧ w' = [(mk, .inr (3, [.int (nI (mn + 1)), .ref mx, .ref my])), (mx, .inl (cI, 32, .inl (upd (upd xs (0 * 16 + mn) x0) (1 * 16 + mn) x1))), (my, .inl (cI, 32, .inl (upd (upd ys (0 * 16 + mn) y0) (1 * 16 + mn) y1)))]) := by
  refine CW.of (by decide) (Nat.le_of_ble_eq_true rfl) ?_
  intro p e s m below meth c hx hb hr hml hown hlocks hta hP hD hK hS ls hl
  have hl : lv_has ls 6 [(0, .ref mk), (1, .int x0), (2, .int y0), (3, .int x1), (4, .int y1)] := hl
  have hP : va_P D vwCl [(mk, .inr (3, [.int (nI mn), .ref mx, .ref my])), (mx, .inl (cI, 32, .inl xs)), (my, .inl (cI, 32, .inl ys))] s.heap := hP
  refine lv_aload_n hx hb dX3_add_0 rfl (lv_at hl 0 rfl) ?_
  refine getX hx hb hta inA3 hown hK hP 0 rfl rfl 0 (by decide) mw83 rfl rfl dX3_add_1 ?_
  refine lv_istore (lv' := [(5, .int (nI mn)), (0, .ref mk), (1, .int x0), (2, .int y0), (3, .int x1), (4, .int y1)]) hx hb dX3_add_4 hl (by decide) rfl (fun ls hl => ?_)
  refine lv_aload_n hx hb dX3_add_6 rfl (lv_at hl 1 rfl) ?_
  refine lv_dup hx hb dX3_add_7 rfl ?_
  refine getX hx hb hta inA3 hown hK hP 0 rfl rfl 0 (by decide) mw83 rfl rfl dX3_add_8 ?_
  refine lv_iconst (v := nI 1) hx hb dX3_add_11 (by decide) ?_
  refine iaddN (a := mn) (b := 1) hx hb dX3_add_12 ?_
  refine putX hx hb hta inA3 tyX3 tyX3_ok nmX3 hown hK hP hD hS 0 rfl rfl 0 (by decide) mw83 rfl rfl (ty := .int) rfl rfl rfl (Nat.le_of_ble_eq_true rfl) dX3_add_13 (fun H locs hP hS => ?_)
  have hP : va_P D vwCl [(mk, .inr (3, [.int (nI (mn + 1)), .ref mx, .ref my])), (mx, .inl (cI, 32, .inl xs)), (my, .inl (cI, 32, .inl ys))] H := hP
  have hD : va_D (adrs [(mk, .inr (3, [.int (nI mn), .ref mx, .ref my])), (mx, .inl (cI, 32, .inl xs)), (my, .inl (cI, 32, .inl ys))]) [(mk, .inr (3, [.int (nI (mn + 1)), .ref mx, .ref my])), (mx, .inl (cI, 32, .inl xs)), (my, .inl (cI, 32, .inl ys))] := hD.same rfl
  refine lv_aload_n hx hb dX3_add_16 rfl (lv_at hl 1 rfl) ?_
  refine lv_iload hx hb dX3_add_17 (lv_at hl 0 rfl) ?_
  refine lv_iconst (v := nI 0) hx hb dX3_add_19 (by decide) ?_
  refine lv_iload_n hx hb dX3_add_20 rfl (lv_at hl 2 rfl) ?_
  refine lv_iload_n hx hb dX3_add_21 rfl (lv_at hl 3 rfl) ?_
  refine k_X3_put (Wd := 0) mk mx my mn 0 x0 y0 (mn + 1) xs ys (by omega) (by omega) ⟨hx, hb, hml, hown, hta⟩ mw338 ⟨Nat.le_of_ble_eq_true rfl, Nat.le_of_ble_eq_true rfl⟩ hK hP hD hS [0, 1, 2] rfl rfl hl.1 (Nat.le_of_ble_eq_true rfl) dX3_add_22 ⟨Nat.le_of_ble_eq_true rfl, Nat.le_of_ble_eq_true rfl⟩ (fun H locs hP hS => ?_)
  have hP : va_P D vwCl [(mk, .inr (3, [.int (nI (mn + 1)), .ref mx, .ref my])), (mx, .inl (cI, 32, .inl (upd xs (0 * 16 + mn) x0))), (my, .inl (cI, 32, .inl (upd ys (0 * 16 + mn) y0)))] H := hP
  have hD : va_D (adrs [(mk, .inr (3, [.int (nI mn), .ref mx, .ref my])), (mx, .inl (cI, 32, .inl xs)), (my, .inl (cI, 32, .inl ys))]) [(mk, .inr (3, [.int (nI (mn + 1)), .ref mx, .ref my])), (mx, .inl (cI, 32, .inl (upd xs (0 * 16 + mn) x0))), (my, .inl (cI, 32, .inl (upd ys (0 * 16 + mn) y0)))] := hD.same rfl
  refine lv_aload_n hx hb dX3_add_25 rfl (lv_at hl 1 rfl) ?_
  refine lv_iload hx hb dX3_add_26 (lv_at hl 0 rfl) ?_
  refine lv_iconst (v := nI 1) hx hb dX3_add_28 (by decide) ?_
  refine lv_iload_n hx hb dX3_add_29 rfl (lv_at hl 4 rfl) ?_
  refine lv_iload hx hb dX3_add_30 (lv_at hl 5 rfl) ?_
  refine k_X3_put (Wd := 0) mk mx my mn 1 x1 y1 (mn + 1) (upd xs (0 * 16 + mn) x0) (upd ys (0 * 16 + mn) y0) (by omega) (by omega) ⟨hx, hb, hml, hown, hta⟩ mw338 ⟨Nat.le_of_ble_eq_true rfl, Nat.le_of_ble_eq_true rfl⟩ hK hP hD hS [0, 1, 2] rfl rfl hl.1 (Nat.le_of_ble_eq_true rfl) dX3_add_32 ⟨Nat.le_of_ble_eq_true rfl, Nat.le_of_ble_eq_true rfl⟩ (fun H locs hP hS => ?_)
  have hP : va_P D vwCl [(mk, .inr (3, [.int (nI (mn + 1)), .ref mx, .ref my])), (mx, .inl (cI, 32, .inl (upd (upd xs (0 * 16 + mn) x0) (1 * 16 + mn) x1))), (my, .inl (cI, 32, .inl (upd (upd ys (0 * 16 + mn) y0) (1 * 16 + mn) y1)))] H := hP
  have hD : va_D (adrs [(mk, .inr (3, [.int (nI mn), .ref mx, .ref my])), (mx, .inl (cI, 32, .inl xs)), (my, .inl (cI, 32, .inl ys))]) [(mk, .inr (3, [.int (nI (mn + 1)), .ref mx, .ref my])), (mx, .inl (cI, 32, .inl (upd (upd xs (0 * 16 + mn) x0) (1 * 16 + mn) x1))), (my, .inl (cI, 32, .inl (upd (upd ys (0 * 16 + mn) y0) (1 * 16 + mn) y1)))] := hD.same rfl
  refine lv_iload hx hb dX3_add_35 (lv_at hl 0 rfl) ?_
  exact rWi hx hb hr hlocks dX3_add_37 hP hS rfl ⟨rfl, rfl⟩
theorem k_X3_add {p : Program} {l : Launch} {e : Env} {R : Room} {s : State} {m : MethodId} {args : Array Value} {below : List Frame} {meth : Method} {c : Code} {H : Heap} {locs : List Loc} {cells slots : Nat} {Q : State → Prop} {pc : Nat} {ls : Array Slot} {rest : List Value} {cc : ByteArray} {nL index Wd : Nat} {own : String} {D : va_G} {cI : ClassId} {A : Nat → Prop} {ws : va_W} {H0 : Heap} (mk : Nat) (mx : Nat) (my : Nat) (x0 : Int32) (y0 : Int32) (x1 : Int32) (y1 : Int32) (mn : Nat) (xs : Nat → Int32) (ys : Nat → Int32) (hmn : mn < 16) (S : CallFix p m c cc nL s args WA own) (hl : Cond.methodLink own index yX3_add ∈ WA) (hR : 1 + 1 ≤ R.frames ∧ Wd + (6 + 11) + 16 ≤ R.locals) (hK : KB D cI s) (hP : va_P D vwCl ws H) (hD : va_D A ws) (hS : va_S A H0 H locs) (is : List Nat) (hs : is.map (fun i => ws[i]?) = ([(mk, .inr (3, [.int (nI mn), .ref mx, .ref my])), (mx, .inl (cI, 32, .inl xs)), (my, .inl (cI, 32, .inl ys))] : va_W).map some) (hnd : va_nd is = true) (hsz : ls.size = nL) (hW : (rest.map fun v => v.category).sum ≤ Wd) (hdg : decode cc pc = .ok (.invokevirtual index, 3)) (hcel : cells ≤ R.cells ∧ slots ≤ R.slots) (kk : ∀ (H1 : Heap) (locs1 : List Loc), va_P D vwCl (rp ws is [(mk, .inr (3, [.int (nI (mn + 1)), .ref mx, .ref my])), (mx, .inl (cI, 32, .inl (upd (upd xs (0 * 16 + mn) x0) (1 * 16 + mn) x1))), (my, .inl (cI, 32, .inl (upd (upd ys (0 * 16 + mn) y0) (1 * 16 + mn) y1)))]) H1 → va_S A H0 H1 locs1 → W p l e R s m args below meth c H1 locs1 cells slots Q (F0 m (pc + 3) ls (.int (nI mn) :: rest))) : W p l e R s m args below meth c H locs cells slots Q (F0 m pc ls (.int y1 :: .int x1 :: .int y0 :: .int x0 :: .ref mk :: rest)) :=
  kWV (n := 4) (As := [.int x0, .int y0, .int x1, .int y1]) (ci := 3) S (c_X3_add l D cI mk mx my x0 y0 x1 y1 mn xs ys hmn) hl mw337 mw335 mw336 mw42 (by decide +kernel) hR rfl rfl rfl rfl hK hP hD hS is hs hnd hsz hW hdg hcel (fun v w' H1 locs1 hq h1 h2 => by obtain ⟨rfl, rfl⟩ := hq; exact kk  H1 locs1 h1 h2)

set_option maxHeartbeats 4000000 in
set_option maxRecDepth 100000 in
theorem c_X3_x (l : Launch) (D : va_G) (cI : ClassId) (mk : Nat) (mx : Nat) (my : Nat) (a0 : Nat) (q0 : Nat) (mn : Nat) (xs : Nat → Int32) (ys : Nat → Int32) (ha0 : a0 < 16) (hq0 : q0 < 2) : CR l yX3_x (wm yX3_x cX3_x 3 (some .int)) 0 0 D cI [.ref mk, .int (nI a0), .int (nI q0)] [(mk, .inr (3, [.int (nI mn), .ref mx, .ref my])), (mx, .inl (cI, 32, .inl xs)), (my, .inl (cI, 32, .inl ys))] (some (.int (xs (q0 * 16 + a0)))) := by
  refine CR.of (by decide) (Nat.le_of_ble_eq_true rfl) ?_
  intro p e s m below meth c hx hb hr hml hown hlocks hta hP hD hK ls hl
  have hl : lv_has ls 3 [(0, .ref mk), (1, .int (nI a0)), (2, .int (nI q0))] := hl
  have hP : va_P D vwCl [(mk, .inr (3, [.int (nI mn), .ref mx, .ref my])), (mx, .inl (cI, 32, .inl xs)), (my, .inl (cI, 32, .inl ys))] s.heap := hP
  refine lv_aload_n hx hb dX3_x_0 rfl (lv_at hl 0 rfl) ?_
  refine getX hx hb hta inA3 hown hK hP 0 rfl rfl 1 (by decide) mw84 rfl rfl dX3_x_1 ?_
  refine lv_iload_n hx hb dX3_x_4 rfl (lv_at hl 2 rfl) ?_
  refine lv_bipush (v := nI 16) hx hb dX3_x_5 (by decide) ?_
  refine imulN (a := q0) (b := 16) hx hb dX3_x_7 ?_
  refine lv_iload_n hx hb dX3_x_8 rfl (lv_at hl 1 rfl) ?_
  refine iaddN (a := q0 * 16) (b := a0) hx hb dX3_x_9 ?_
  refine ialdN hx hb hK hP 1 rfl (by omega) (by decide) dX3_x_10 ?_
  exact rRi hx hb hr hlocks dX3_x_11 rfl
theorem k_X3_x {p : Program} {l : Launch} {e : Env} {R : Room} {s : State} {m : MethodId} {args : Array Value} {below : List Frame} {meth : Method} {c : Code} {H : Heap} {locs : List Loc} {cells slots : Nat} {Q : State → Prop} {pc : Nat} {ls : Array Slot} {rest : List Value} {cc : ByteArray} {nL index Wd : Nat} {own : String} {D : va_G} {cI : ClassId} {A : Nat → Prop} {ws : va_W} (mk : Nat) (mx : Nat) (my : Nat) (a0 : Nat) (q0 : Nat) (mn : Nat) (xs : Nat → Int32) (ys : Nat → Int32) (ha0 : a0 < 16) (hq0 : q0 < 2) (S : CallFix p m c cc nL s args WA own) (hl : Cond.methodLink own index yX3_x ∈ WA) (hR : 0 + 1 ≤ R.frames ∧ Wd + (3 + 11) + 0 ≤ R.locals) (hK : KB D cI s) (hP : va_P D vwCl ws H) (hD : va_D A ws) (is : List Nat) (hs : is.map (fun i => ws[i]?) = ([(mk, .inr (3, [.int (nI mn), .ref mx, .ref my])), (mx, .inl (cI, 32, .inl xs)), (my, .inl (cI, 32, .inl ys))] : va_W).map some) (hnd : va_nd is = true) (hsz : ls.size = nL) (hW : (rest.map fun v => v.category).sum ≤ Wd) (hdg : decode cc pc = .ok (.invokevirtual index, 3)) (hcel : cells ≤ R.cells ∧ slots ≤ R.slots) (kk : W p l e R s m args below meth c H locs cells slots Q (F0 m (pc + 3) ls (.int (xs (q0 * 16 + a0)) :: rest))) : W p l e R s m args below meth c H locs cells slots Q (F0 m pc ls (.int (nI q0) :: .int (nI a0) :: .ref mk :: rest)) :=
  kRV (n := 2) (As := [.int (nI a0), .int (nI q0)]) (ci := 3) S (c_X3_x l D cI mk mx my a0 q0 mn xs ys ha0 hq0) hl mw371 mw369 mw370 mw42 (by decide +kernel) hR rfl rfl rfl rfl hK hP hD is hs hnd hsz hW hdg hcel kk

set_option maxHeartbeats 4000000 in
set_option maxRecDepth 100000 in
theorem c_X3_y (l : Launch) (D : va_G) (cI : ClassId) (mk : Nat) (mx : Nat) (my : Nat) (a0 : Nat) (q0 : Nat) (mn : Nat) (xs : Nat → Int32) (ys : Nat → Int32) (ha0 : a0 < 16) (hq0 : q0 < 2) : CR l yX3_y (wm yX3_y cX3_y 3 (some .int)) 0 0 D cI [.ref mk, .int (nI a0), .int (nI q0)] [(mk, .inr (3, [.int (nI mn), .ref mx, .ref my])), (mx, .inl (cI, 32, .inl xs)), (my, .inl (cI, 32, .inl ys))] (some (.int (ys (q0 * 16 + a0)))) := by
  refine CR.of (by decide) (Nat.le_of_ble_eq_true rfl) ?_
  intro p e s m below meth c hx hb hr hml hown hlocks hta hP hD hK ls hl
  have hl : lv_has ls 3 [(0, .ref mk), (1, .int (nI a0)), (2, .int (nI q0))] := hl
  have hP : va_P D vwCl [(mk, .inr (3, [.int (nI mn), .ref mx, .ref my])), (mx, .inl (cI, 32, .inl xs)), (my, .inl (cI, 32, .inl ys))] s.heap := hP
  refine lv_aload_n hx hb dX3_y_0 rfl (lv_at hl 0 rfl) ?_
  refine getX hx hb hta inA3 hown hK hP 0 rfl rfl 2 (by decide) mw85 rfl rfl dX3_y_1 ?_
  refine lv_iload_n hx hb dX3_y_4 rfl (lv_at hl 2 rfl) ?_
  refine lv_bipush (v := nI 16) hx hb dX3_y_5 (by decide) ?_
  refine imulN (a := q0) (b := 16) hx hb dX3_y_7 ?_
  refine lv_iload_n hx hb dX3_y_8 rfl (lv_at hl 1 rfl) ?_
  refine iaddN (a := q0 * 16) (b := a0) hx hb dX3_y_9 ?_
  refine ialdN hx hb hK hP 2 rfl (by omega) (by decide) dX3_y_10 ?_
  exact rRi hx hb hr hlocks dX3_y_11 rfl
theorem k_X3_y {p : Program} {l : Launch} {e : Env} {R : Room} {s : State} {m : MethodId} {args : Array Value} {below : List Frame} {meth : Method} {c : Code} {H : Heap} {locs : List Loc} {cells slots : Nat} {Q : State → Prop} {pc : Nat} {ls : Array Slot} {rest : List Value} {cc : ByteArray} {nL index Wd : Nat} {own : String} {D : va_G} {cI : ClassId} {A : Nat → Prop} {ws : va_W} (mk : Nat) (mx : Nat) (my : Nat) (a0 : Nat) (q0 : Nat) (mn : Nat) (xs : Nat → Int32) (ys : Nat → Int32) (ha0 : a0 < 16) (hq0 : q0 < 2) (S : CallFix p m c cc nL s args WA own) (hl : Cond.methodLink own index yX3_y ∈ WA) (hR : 0 + 1 ≤ R.frames ∧ Wd + (3 + 11) + 0 ≤ R.locals) (hK : KB D cI s) (hP : va_P D vwCl ws H) (hD : va_D A ws) (is : List Nat) (hs : is.map (fun i => ws[i]?) = ([(mk, .inr (3, [.int (nI mn), .ref mx, .ref my])), (mx, .inl (cI, 32, .inl xs)), (my, .inl (cI, 32, .inl ys))] : va_W).map some) (hnd : va_nd is = true) (hsz : ls.size = nL) (hW : (rest.map fun v => v.category).sum ≤ Wd) (hdg : decode cc pc = .ok (.invokevirtual index, 3)) (hcel : cells ≤ R.cells ∧ slots ≤ R.slots) (kk : W p l e R s m args below meth c H locs cells slots Q (F0 m (pc + 3) ls (.int (ys (q0 * 16 + a0)) :: rest))) : W p l e R s m args below meth c H locs cells slots Q (F0 m pc ls (.int (nI q0) :: .int (nI a0) :: .ref mk :: rest)) :=
  kRV (n := 2) (As := [.int (nI a0), .int (nI q0)]) (ci := 3) S (c_X3_y l D cI mk mx my a0 q0 mn xs ys ha0 hq0) hl mw379 mw377 mw378 mw42 (by decide +kernel) hR rfl rfl rfl rfl hK hP hD is hs hnd hsz hW hdg hcel kk

set_option maxHeartbeats 4000000 in
set_option maxRecDepth 100000 in
theorem c_X3_tickX (l : Launch) (D : va_G) (cI : ClassId) (mk : Nat) (mx : Nat) (my : Nat) (a0 : Nat) (k0 : Int32) (n0 : Int32) (mn : Nat) (xs : Nat → Int32) (ys : Nat → Int32) (ha0 : a0 < 16) : CR l yX3_tickX (wm yX3_tickX cX3_tickX 4 (some .int)) 1 16 D cI [.ref mk, .int (nI a0), .int k0, .int n0] [(mk, .inr (3, [.int (nI mn), .ref mx, .ref my])), (mx, .inl (cI, 32, .inl xs)), (my, .inl (cI, 32, .inl ys))] (some (.int (tk xs a0 k0 n0))) := by
  refine CR.of (by decide) (Nat.le_of_ble_eq_true rfl) ?_
  intro p e s m below meth c hx hb hr hml hown hlocks hta hP hD hK ls hl
  have hl : lv_has ls 4 [(0, .ref mk), (1, .int (nI a0)), (2, .int k0), (3, .int n0)] := hl
  have hP : va_P D vwCl [(mk, .inr (3, [.int (nI mn), .ref mx, .ref my])), (mx, .inl (cI, 32, .inl xs)), (my, .inl (cI, 32, .inl ys))] s.heap := hP
  refine lv_iload_n hx hb dX3_tickX_0 rfl (lv_at hl 3 rfl) ?_
  refine lv_iload_n hx hb dX3_tickX_1 rfl (lv_at hl 2 rfl) ?_
  refine lv_isub hx hb dX3_tickX_2 ?_
  refine lv_aload_n hx hb dX3_tickX_3 rfl (lv_at hl 0 rfl) ?_
  refine lv_iload_n hx hb dX3_tickX_4 rfl (lv_at hl 1 rfl) ?_
  refine lv_iconst (v := nI 0) hx hb dX3_tickX_5 (by decide) ?_
  refine k_X3_x (Wd := 1) mk mx my a0 0 mn xs ys ha0 (by omega) ⟨hx, hb, hml, hown, hta⟩ mw368 ⟨Nat.le_of_ble_eq_true rfl, Nat.le_of_ble_eq_true rfl⟩ hK hP hD [0, 1, 2] rfl rfl hl.1 (Nat.le_of_ble_eq_true rfl) dX3_tickX_6 ⟨Nat.le_of_ble_eq_true rfl, Nat.le_of_ble_eq_true rfl⟩ ?_
  refine lv_imul hx hb dX3_tickX_9 ?_
  refine lv_iload_n hx hb dX3_tickX_10 rfl (lv_at hl 2 rfl) ?_
  refine lv_aload_n hx hb dX3_tickX_11 rfl (lv_at hl 0 rfl) ?_
  refine lv_iload_n hx hb dX3_tickX_12 rfl (lv_at hl 1 rfl) ?_
  refine lv_iconst (v := nI 1) hx hb dX3_tickX_13 (by decide) ?_
  refine k_X3_x (Wd := 2) mk mx my a0 1 mn xs ys ha0 (by omega) ⟨hx, hb, hml, hown, hta⟩ mw368 ⟨Nat.le_of_ble_eq_true rfl, Nat.le_of_ble_eq_true rfl⟩ hK hP hD [0, 1, 2] rfl rfl hl.1 (Nat.le_of_ble_eq_true rfl) dX3_tickX_14 ⟨Nat.le_of_ble_eq_true rfl, Nat.le_of_ble_eq_true rfl⟩ ?_
  refine lv_imul hx hb dX3_tickX_17 ?_
  refine lv_iadd hx hb dX3_tickX_18 ?_
  exact rRi hx hb hr hlocks dX3_tickX_19 rfl
theorem k_X3_tickX {p : Program} {l : Launch} {e : Env} {R : Room} {s : State} {m : MethodId} {args : Array Value} {below : List Frame} {meth : Method} {c : Code} {H : Heap} {locs : List Loc} {cells slots : Nat} {Q : State → Prop} {pc : Nat} {ls : Array Slot} {rest : List Value} {cc : ByteArray} {nL index Wd : Nat} {own : String} {D : va_G} {cI : ClassId} {A : Nat → Prop} {ws : va_W} (mk : Nat) (mx : Nat) (my : Nat) (a0 : Nat) (k0 : Int32) (n0 : Int32) (mn : Nat) (xs : Nat → Int32) (ys : Nat → Int32) (ha0 : a0 < 16) (S : CallFix p m c cc nL s args WA own) (hl : Cond.methodLink own index yX3_tickX ∈ WA) (hR : 1 + 1 ≤ R.frames ∧ Wd + (4 + 11) + 16 ≤ R.locals) (hK : KB D cI s) (hP : va_P D vwCl ws H) (hD : va_D A ws) (is : List Nat) (hs : is.map (fun i => ws[i]?) = ([(mk, .inr (3, [.int (nI mn), .ref mx, .ref my])), (mx, .inl (cI, 32, .inl xs)), (my, .inl (cI, 32, .inl ys))] : va_W).map some) (hnd : va_nd is = true) (hsz : ls.size = nL) (hW : (rest.map fun v => v.category).sum ≤ Wd) (hdg : decode cc pc = .ok (.invokevirtual index, 3)) (hcel : cells ≤ R.cells ∧ slots ≤ R.slots) (kk : W p l e R s m args below meth c H locs cells slots Q (F0 m (pc + 3) ls (.int (tk xs a0 k0 n0) :: rest))) : W p l e R s m args below meth c H locs cells slots Q (F0 m pc ls (.int n0 :: .int k0 :: .int (nI a0) :: .ref mk :: rest)) :=
  kRV (n := 3) (As := [.int (nI a0), .int k0, .int n0]) (ci := 3) S (c_X3_tickX l D cI mk mx my a0 k0 n0 mn xs ys ha0) hl mw367 mw365 mw366 mw42 (by decide +kernel) hR rfl rfl rfl rfl hK hP hD is hs hnd hsz hW hdg hcel kk

set_option maxHeartbeats 4000000 in
set_option maxRecDepth 100000 in
theorem c_X3_tickY (l : Launch) (D : va_G) (cI : ClassId) (mk : Nat) (mx : Nat) (my : Nat) (a0 : Nat) (k0 : Int32) (n0 : Int32) (mn : Nat) (xs : Nat → Int32) (ys : Nat → Int32) (ha0 : a0 < 16) : CR l yX3_tickY (wm yX3_tickY cX3_tickY 4 (some .int)) 1 16 D cI [.ref mk, .int (nI a0), .int k0, .int n0] [(mk, .inr (3, [.int (nI mn), .ref mx, .ref my])), (mx, .inl (cI, 32, .inl xs)), (my, .inl (cI, 32, .inl ys))] (some (.int (tk ys a0 k0 n0))) := by
  refine CR.of (by decide) (Nat.le_of_ble_eq_true rfl) ?_
  intro p e s m below meth c hx hb hr hml hown hlocks hta hP hD hK ls hl
  have hl : lv_has ls 4 [(0, .ref mk), (1, .int (nI a0)), (2, .int k0), (3, .int n0)] := hl
  have hP : va_P D vwCl [(mk, .inr (3, [.int (nI mn), .ref mx, .ref my])), (mx, .inl (cI, 32, .inl xs)), (my, .inl (cI, 32, .inl ys))] s.heap := hP
  refine lv_iload_n hx hb dX3_tickY_0 rfl (lv_at hl 3 rfl) ?_
  refine lv_iload_n hx hb dX3_tickY_1 rfl (lv_at hl 2 rfl) ?_
  refine lv_isub hx hb dX3_tickY_2 ?_
  refine lv_aload_n hx hb dX3_tickY_3 rfl (lv_at hl 0 rfl) ?_
  refine lv_iload_n hx hb dX3_tickY_4 rfl (lv_at hl 1 rfl) ?_
  refine lv_iconst (v := nI 0) hx hb dX3_tickY_5 (by decide) ?_
  refine k_X3_y (Wd := 1) mk mx my a0 0 mn xs ys ha0 (by omega) ⟨hx, hb, hml, hown, hta⟩ mw376 ⟨Nat.le_of_ble_eq_true rfl, Nat.le_of_ble_eq_true rfl⟩ hK hP hD [0, 1, 2] rfl rfl hl.1 (Nat.le_of_ble_eq_true rfl) dX3_tickY_6 ⟨Nat.le_of_ble_eq_true rfl, Nat.le_of_ble_eq_true rfl⟩ ?_
  refine lv_imul hx hb dX3_tickY_9 ?_
  refine lv_iload_n hx hb dX3_tickY_10 rfl (lv_at hl 2 rfl) ?_
  refine lv_aload_n hx hb dX3_tickY_11 rfl (lv_at hl 0 rfl) ?_
  refine lv_iload_n hx hb dX3_tickY_12 rfl (lv_at hl 1 rfl) ?_
  refine lv_iconst (v := nI 1) hx hb dX3_tickY_13 (by decide) ?_
  refine k_X3_y (Wd := 2) mk mx my a0 1 mn xs ys ha0 (by omega) ⟨hx, hb, hml, hown, hta⟩ mw376 ⟨Nat.le_of_ble_eq_true rfl, Nat.le_of_ble_eq_true rfl⟩ hK hP hD [0, 1, 2] rfl rfl hl.1 (Nat.le_of_ble_eq_true rfl) dX3_tickY_14 ⟨Nat.le_of_ble_eq_true rfl, Nat.le_of_ble_eq_true rfl⟩ ?_
  refine lv_imul hx hb dX3_tickY_17 ?_
  refine lv_iadd hx hb dX3_tickY_18 ?_
  exact rRi hx hb hr hlocks dX3_tickY_19 rfl
theorem k_X3_tickY {p : Program} {l : Launch} {e : Env} {R : Room} {s : State} {m : MethodId} {args : Array Value} {below : List Frame} {meth : Method} {c : Code} {H : Heap} {locs : List Loc} {cells slots : Nat} {Q : State → Prop} {pc : Nat} {ls : Array Slot} {rest : List Value} {cc : ByteArray} {nL index Wd : Nat} {own : String} {D : va_G} {cI : ClassId} {A : Nat → Prop} {ws : va_W} (mk : Nat) (mx : Nat) (my : Nat) (a0 : Nat) (k0 : Int32) (n0 : Int32) (mn : Nat) (xs : Nat → Int32) (ys : Nat → Int32) (ha0 : a0 < 16) (S : CallFix p m c cc nL s args WA own) (hl : Cond.methodLink own index yX3_tickY ∈ WA) (hR : 1 + 1 ≤ R.frames ∧ Wd + (4 + 11) + 16 ≤ R.locals) (hK : KB D cI s) (hP : va_P D vwCl ws H) (hD : va_D A ws) (is : List Nat) (hs : is.map (fun i => ws[i]?) = ([(mk, .inr (3, [.int (nI mn), .ref mx, .ref my])), (mx, .inl (cI, 32, .inl xs)), (my, .inl (cI, 32, .inl ys))] : va_W).map some) (hnd : va_nd is = true) (hsz : ls.size = nL) (hW : (rest.map fun v => v.category).sum ≤ Wd) (hdg : decode cc pc = .ok (.invokevirtual index, 3)) (hcel : cells ≤ R.cells ∧ slots ≤ R.slots) (kk : W p l e R s m args below meth c H locs cells slots Q (F0 m (pc + 3) ls (.int (tk ys a0 k0 n0) :: rest))) : W p l e R s m args below meth c H locs cells slots Q (F0 m pc ls (.int n0 :: .int k0 :: .int (nI a0) :: .ref mk :: rest)) :=
  kRV (n := 3) (As := [.int (nI a0), .int k0, .int n0]) (ci := 3) S (c_X3_tickY l D cI mk mx my a0 k0 n0 mn xs ys ha0) hl mw375 mw373 mw374 mw42 (by decide +kernel) hR rfl rfl rfl rfl hK hP hD is hs hnd hsz hW hdg hcel kk

set_option maxHeartbeats 4000000 in
set_option maxRecDepth 100000 in
theorem c_X3_stays (l : Launch) (D : va_G) (cI : ClassId) (mk : Nat) (mx : Nat) (my : Nat) (a0 : Nat) (mn : Nat) (xs : Nat → Int32) (ys : Nat → Int32) (ha0 : a0 < 16) : CR l yX3_stays (wm yX3_stays cX3_stays 2 (some .boolean)) 1 15 D cI [.ref mk, .int (nI a0)] [(mk, .inr (3, [.int (nI mn), .ref mx, .ref my])), (mx, .inl (cI, 32, .inl xs)), (my, .inl (cI, 32, .inl ys))] (some (.int (bz (stM xs ys a0)))) := by
  refine CR.of (by decide) (Nat.le_of_ble_eq_true rfl) ?_
  intro p e s m below meth c hx hb hr hml hown hlocks hta hP hD hK ls hl
  have hl : lv_has ls 2 [(0, .ref mk), (1, .int (nI a0))] := hl
  have hP : va_P D vwCl [(mk, .inr (3, [.int (nI mn), .ref mx, .ref my])), (mx, .inl (cI, 32, .inl xs)), (my, .inl (cI, 32, .inl ys))] s.heap := hP
  refine lv_aload_n hx hb dX3_stays_0 rfl (lv_at hl 0 rfl) ?_
  refine lv_iload_n hx hb dX3_stays_1 rfl (lv_at hl 1 rfl) ?_
  refine lv_iconst (v := nI 0) hx hb dX3_stays_2 (by decide) ?_
  refine k_X3_x (Wd := 0) mk mx my a0 0 mn xs ys ha0 (by omega) ⟨hx, hb, hml, hown, hta⟩ mw368 ⟨Nat.le_of_ble_eq_true rfl, Nat.le_of_ble_eq_true rfl⟩ hK hP hD [0, 1, 2] rfl rfl hl.1 (Nat.le_of_ble_eq_true rfl) dX3_stays_3 ⟨Nat.le_of_ble_eq_true rfl, Nat.le_of_ble_eq_true rfl⟩ ?_
  refine lv_aload_n hx hb dX3_stays_6 rfl (lv_at hl 0 rfl) ?_
  refine lv_iload_n hx hb dX3_stays_7 rfl (lv_at hl 1 rfl) ?_
  refine lv_iconst (v := nI 1) hx hb dX3_stays_8 (by decide) ?_
  refine k_X3_x (Wd := 1) mk mx my a0 1 mn xs ys ha0 (by omega) ⟨hx, hb, hml, hown, hta⟩ mw368 ⟨Nat.le_of_ble_eq_true rfl, Nat.le_of_ble_eq_true rfl⟩ hK hP hD [0, 1, 2] rfl rfl hl.1 (Nat.le_of_ble_eq_true rfl) dX3_stays_9 ⟨Nat.le_of_ble_eq_true rfl, Nat.le_of_ble_eq_true rfl⟩ ?_
  refine icmpI_ne (tgt := 34) hx hb dX3_stays_12 (by decide) (fun c_12 => ?_) (fun c_12 => ?_)
  · refine lv_iconst (v := nI 0) hx hb dX3_stays_34 (by decide) ?_
    exact rRz hx hb hr hlocks dX3_stays_35 (by first | (simp only [stM, eq_false c_12, decide_true, decide_false, Bool.true_or, Bool.or_true, Bool.false_or, Bool.or_false, Bool.true_and, Bool.and_true, Bool.false_and, Bool.and_false, Bool.not_true, Bool.not_false, if_true, if_false, Bool.false_eq_true, and_true, true_and, and_false, false_and, or_true, true_or, or_false, false_or, not_true_eq_false, not_false_eq_true, bz]; done) | (simp only [stM, eq_false c_12, decide_true, decide_false, Bool.true_or, Bool.or_true, Bool.false_or, Bool.or_false, Bool.true_and, Bool.and_true, Bool.false_and, Bool.and_false, Bool.not_true, Bool.not_false, if_true, if_false, Bool.false_eq_true, and_true, true_and, and_false, false_and, or_true, true_or, or_false, false_or, not_true_eq_false, not_false_eq_true, bz]; rfl))
  · refine lv_aload_n hx hb dX3_stays_15 rfl (lv_at hl 0 rfl) ?_
    refine lv_iload_n hx hb dX3_stays_16 rfl (lv_at hl 1 rfl) ?_
    refine lv_iconst (v := nI 0) hx hb dX3_stays_17 (by decide) ?_
    refine k_X3_y (Wd := 0) mk mx my a0 0 mn xs ys ha0 (by omega) ⟨hx, hb, hml, hown, hta⟩ mw376 ⟨Nat.le_of_ble_eq_true rfl, Nat.le_of_ble_eq_true rfl⟩ hK hP hD [0, 1, 2] rfl rfl hl.1 (Nat.le_of_ble_eq_true rfl) dX3_stays_18 ⟨Nat.le_of_ble_eq_true rfl, Nat.le_of_ble_eq_true rfl⟩ ?_
    refine lv_aload_n hx hb dX3_stays_21 rfl (lv_at hl 0 rfl) ?_
    refine lv_iload_n hx hb dX3_stays_22 rfl (lv_at hl 1 rfl) ?_
    refine lv_iconst (v := nI 1) hx hb dX3_stays_23 (by decide) ?_
    refine k_X3_y (Wd := 1) mk mx my a0 1 mn xs ys ha0 (by omega) ⟨hx, hb, hml, hown, hta⟩ mw376 ⟨Nat.le_of_ble_eq_true rfl, Nat.le_of_ble_eq_true rfl⟩ hK hP hD [0, 1, 2] rfl rfl hl.1 (Nat.le_of_ble_eq_true rfl) dX3_stays_24 ⟨Nat.le_of_ble_eq_true rfl, Nat.le_of_ble_eq_true rfl⟩ ?_
    refine icmpI_ne (tgt := 34) hx hb dX3_stays_27 (by decide) (fun c_27 => ?_) (fun c_27 => ?_)
    · refine lv_iconst (v := nI 0) hx hb dX3_stays_34 (by decide) ?_
      exact rRz hx hb hr hlocks dX3_stays_35 (by first | (simp only [stM, eq_true c_12, eq_false c_27, decide_true, decide_false, Bool.true_or, Bool.or_true, Bool.false_or, Bool.or_false, Bool.true_and, Bool.and_true, Bool.false_and, Bool.and_false, Bool.not_true, Bool.not_false, if_true, if_false, Bool.false_eq_true, and_true, true_and, and_false, false_and, or_true, true_or, or_false, false_or, not_true_eq_false, not_false_eq_true, bz]; done) | (simp only [stM, eq_true c_12, eq_false c_27, decide_true, decide_false, Bool.true_or, Bool.or_true, Bool.false_or, Bool.or_false, Bool.true_and, Bool.and_true, Bool.false_and, Bool.and_false, Bool.not_true, Bool.not_false, if_true, if_false, Bool.false_eq_true, and_true, true_and, and_false, false_and, or_true, true_or, or_false, false_or, not_true_eq_false, not_false_eq_true, bz]; rfl))
    · refine lv_iconst (v := nI 1) hx hb dX3_stays_30 (by decide) ?_
      refine lv_goto (tgt := 35) hx hb dX3_stays_31 (by decide) ?_
      exact rRz hx hb hr hlocks dX3_stays_35 (by first | (simp only [stM, eq_true c_12, eq_true c_27, decide_true, decide_false, Bool.true_or, Bool.or_true, Bool.false_or, Bool.or_false, Bool.true_and, Bool.and_true, Bool.false_and, Bool.and_false, Bool.not_true, Bool.not_false, if_true, if_false, Bool.false_eq_true, and_true, true_and, and_false, false_and, or_true, true_or, or_false, false_or, not_true_eq_false, not_false_eq_true, bz]; done) | (simp only [stM, eq_true c_12, eq_true c_27, decide_true, decide_false, Bool.true_or, Bool.or_true, Bool.false_or, Bool.or_false, Bool.true_and, Bool.and_true, Bool.false_and, Bool.and_false, Bool.not_true, Bool.not_false, if_true, if_false, Bool.false_eq_true, and_true, true_and, and_false, false_and, or_true, true_or, or_false, false_or, not_true_eq_false, not_false_eq_true, bz]; rfl))
theorem k_X3_stays {p : Program} {l : Launch} {e : Env} {R : Room} {s : State} {m : MethodId} {args : Array Value} {below : List Frame} {meth : Method} {c : Code} {H : Heap} {locs : List Loc} {cells slots : Nat} {Q : State → Prop} {pc : Nat} {ls : Array Slot} {rest : List Value} {cc : ByteArray} {nL index Wd : Nat} {own : String} {D : va_G} {cI : ClassId} {A : Nat → Prop} {ws : va_W} (mk : Nat) (mx : Nat) (my : Nat) (a0 : Nat) (mn : Nat) (xs : Nat → Int32) (ys : Nat → Int32) (ha0 : a0 < 16) (S : CallFix p m c cc nL s args WA own) (hl : Cond.methodLink own index yX3_stays ∈ WA) (hR : 1 + 1 ≤ R.frames ∧ Wd + (2 + 11) + 15 ≤ R.locals) (hK : KB D cI s) (hP : va_P D vwCl ws H) (hD : va_D A ws) (is : List Nat) (hs : is.map (fun i => ws[i]?) = ([(mk, .inr (3, [.int (nI mn), .ref mx, .ref my])), (mx, .inl (cI, 32, .inl xs)), (my, .inl (cI, 32, .inl ys))] : va_W).map some) (hnd : va_nd is = true) (hsz : ls.size = nL) (hW : (rest.map fun v => v.category).sum ≤ Wd) (hdg : decode cc pc = .ok (.invokevirtual index, 3)) (hcel : cells ≤ R.cells ∧ slots ≤ R.slots) (kk : W p l e R s m args below meth c H locs cells slots Q (F0 m (pc + 3) ls (.int (bz (stM xs ys a0)) :: rest))) : W p l e R s m args below meth c H locs cells slots Q (F0 m pc ls (.int (nI a0) :: .ref mk :: rest)) :=
  kRV (n := 1) (As := [.int (nI a0)]) (ci := 3) S (c_X3_stays l D cI mk mx my a0 mn xs ys ha0) hl mw647 mw645 mw646 mw42 (by decide +kernel) hR rfl rfl rfl rfl hK hP hD is hs hnd hsz hW hdg hcel kk

set_option maxHeartbeats 4000000 in
set_option maxRecDepth 100000 in
theorem c_X3_area (l : Launch) (D : va_G) (cI : ClassId) (ax : Int64) (ay : Int64) (bx : Int64) (b_y : Int64) (cx : Int64) (cy : Int64) : CR l yX3_area (wm yX3_area cX3_area 12 (some .long)) 0 0 D cI [.long ax, .long ay, .long bx, .long b_y, .long cx, .long cy] [] (some (.long (arL ax ay bx b_y cx cy))) := by
  refine CR.of (by decide) (Nat.le_of_ble_eq_true rfl) ?_
  intro p e s m below meth c hx hb hr hml hown hlocks hta hP hD hK ls hl
  have hl : lv_has ls 12 [(0, .long ax), (2, .long ay), (4, .long bx), (6, .long b_y), (8, .long cx), (10, .long cy)] := hl
  have hP : va_P D vwCl [] s.heap := hP
  refine lv_lload hx hb dX3_area_0 (lv_at hl 2 rfl) ?_
  refine lv_lload_n hx hb dX3_area_2 rfl (lv_at hl 0 rfl) ?_
  refine lv_lsub hx hb dX3_area_3 ?_
  refine lv_lload hx hb dX3_area_4 (lv_at hl 5 rfl) ?_
  refine lv_lload_n hx hb dX3_area_6 rfl (lv_at hl 1 rfl) ?_
  refine lv_lsub hx hb dX3_area_7 ?_
  refine lv_lmul hx hb dX3_area_8 ?_
  refine lv_lload hx hb dX3_area_9 (lv_at hl 3 rfl) ?_
  refine lv_lload_n hx hb dX3_area_11 rfl (lv_at hl 1 rfl) ?_
  refine lv_lsub hx hb dX3_area_12 ?_
  refine lv_lload hx hb dX3_area_13 (lv_at hl 4 rfl) ?_
  refine lv_lload_n hx hb dX3_area_15 rfl (lv_at hl 0 rfl) ?_
  refine lv_lsub hx hb dX3_area_16 ?_
  refine lv_lmul hx hb dX3_area_17 ?_
  refine lv_lsub hx hb dX3_area_18 ?_
  exact rRl hx hb hr hlocks dX3_area_19 rfl
theorem k_X3_area {p : Program} {l : Launch} {e : Env} {R : Room} {s : State} {m : MethodId} {args : Array Value} {below : List Frame} {meth : Method} {c : Code} {H : Heap} {locs : List Loc} {cells slots : Nat} {Q : State → Prop} {pc : Nat} {ls : Array Slot} {rest : List Value} {cc : ByteArray} {nL index Wd : Nat} {own : String} {D : va_G} {cI : ClassId} (ax : Int64) (ay : Int64) (bx : Int64) (b_y : Int64) (cx : Int64) (cy : Int64) (S : CallFix p m c cc nL s args WA own) (hl : Cond.methodLink own index yX3_area ∈ WA) (hR : 0 + 1 ≤ R.frames ∧ Wd + (12 + 11) + 0 ≤ R.locals) (hK : KB D cI s) (hsz : ls.size = nL) (hW : (rest.map fun v => v.category).sum ≤ Wd) (hdg : decode cc pc = .ok (.invokestatic index, 3)) (hcel : cells ≤ R.cells ∧ slots ≤ R.slots) (kk : W p l e R s m args below meth c H locs cells slots Q (F0 m (pc + 3) ls (.long (arL ax ay bx b_y cx cy) :: rest))) : W p l e R s m args below meth c H locs cells slots Q (F0 m pc ls (.long cy :: .long cx :: .long b_y :: .long bx :: .long ay :: .long ax :: rest)) :=
  kRS (n := 6) (As := [.long ax, .long ay, .long bx, .long b_y, .long cx, .long cy]) S (c_X3_area l D cI ax ay bx b_y cx cy ) hl mw422 mw421 mw42 (by decide +kernel) hR rfl hK hsz hW hdg hcel kk

set_option maxHeartbeats 4000000 in
set_option maxRecDepth 100000 in
theorem c_X7_many (l : Launch) (D : va_G) (cI : ClassId) (th : Nat) (tc : Nat) (mk : Nat) (mx : Nat) (my : Nat) (tn : Nat) (cs : Nat → Int32) (mn : Nat) (xs : Nat → Int32) (ys : Nat → Int32) : CR l yX7_many (wm yX7_many cX7_many 1 (some .int)) 0 0 D cI [.ref th] [(th, .inr (7, [.ref mk, .int (nI tn), .ref tc])), (tc, .inl (cI, 72, .inl cs)), (mk, .inr (3, [.int (nI mn), .ref mx, .ref my])), (mx, .inl (cI, 32, .inl xs)), (my, .inl (cI, 32, .inl ys))] (some (.int (nI tn))) := by
  refine CR.of (by decide) (Nat.le_of_ble_eq_true rfl) ?_
  intro p e s m below meth c hx hb hr hml hown hlocks hta hP hD hK ls hl
  have hl : lv_has ls 1 [(0, .ref th)] := hl
  have hP : va_P D vwCl [(th, .inr (7, [.ref mk, .int (nI tn), .ref tc])), (tc, .inl (cI, 72, .inl cs)), (mk, .inr (3, [.int (nI mn), .ref mx, .ref my])), (mx, .inl (cI, 32, .inl xs)), (my, .inl (cI, 32, .inl ys))] s.heap := hP
  refine lv_aload_n hx hb dX7_many_0 rfl (lv_at hl 0 rfl) ?_
  refine getX hx hb hta inA7 hown hK hP 0 rfl rfl 1 (by decide) mw100 rfl rfl dX7_many_1 ?_
  exact rRi hx hb hr hlocks dX7_many_4 rfl
theorem k_X7_many {p : Program} {l : Launch} {e : Env} {R : Room} {s : State} {m : MethodId} {args : Array Value} {below : List Frame} {meth : Method} {c : Code} {H : Heap} {locs : List Loc} {cells slots : Nat} {Q : State → Prop} {pc : Nat} {ls : Array Slot} {rest : List Value} {cc : ByteArray} {nL index Wd : Nat} {own : String} {D : va_G} {cI : ClassId} {A : Nat → Prop} {ws : va_W} (th : Nat) (tc : Nat) (mk : Nat) (mx : Nat) (my : Nat) (tn : Nat) (cs : Nat → Int32) (mn : Nat) (xs : Nat → Int32) (ys : Nat → Int32) (S : CallFix p m c cc nL s args WA own) (hl : Cond.methodLink own index yX7_many ∈ WA) (hR : 0 + 1 ≤ R.frames ∧ Wd + (1 + 11) + 0 ≤ R.locals) (hK : KB D cI s) (hP : va_P D vwCl ws H) (hD : va_D A ws) (is : List Nat) (hs : is.map (fun i => ws[i]?) = ([(th, .inr (7, [.ref mk, .int (nI tn), .ref tc])), (tc, .inl (cI, 72, .inl cs)), (mk, .inr (3, [.int (nI mn), .ref mx, .ref my])), (mx, .inl (cI, 32, .inl xs)), (my, .inl (cI, 32, .inl ys))] : va_W).map some) (hnd : va_nd is = true) (hsz : ls.size = nL) (hW : (rest.map fun v => v.category).sum ≤ Wd) (hdg : decode cc pc = .ok (.invokevirtual index, 3)) (hcel : cells ≤ R.cells ∧ slots ≤ R.slots) (kk : W p l e R s m args below meth c H locs cells slots Q (F0 m (pc + 3) ls (.int (nI tn) :: rest))) : W p l e R s m args below meth c H locs cells slots Q (F0 m pc ls (.ref th :: rest)) :=
  kRV (n := 0) (As := []) (ci := 7) S (c_X7_many l D cI th tc mk mx my tn cs mn xs ys ) hl mw514 mw512 mw513 mw43 (by decide +kernel) hR rfl rfl rfl rfl hK hP hD is hs hnd hsz hW hdg hcel kk

set_option maxHeartbeats 4000000 in
set_option maxRecDepth 100000 in
theorem c_X7_isFull (l : Launch) (D : va_G) (cI : ClassId) (th : Nat) (tc : Nat) (mk : Nat) (mx : Nat) (my : Nat) (tn : Nat) (cs : Nat → Int32) (mn : Nat) (xs : Nat → Int32) (ys : Nat → Int32) (htn : tn ≤ 24) : CR l yX7_isFull (wm yX7_isFull cX7_isFull 1 (some .boolean)) 0 0 D cI [.ref th] [(th, .inr (7, [.ref mk, .int (nI tn), .ref tc])), (tc, .inl (cI, 72, .inl cs)), (mk, .inr (3, [.int (nI mn), .ref mx, .ref my])), (mx, .inl (cI, 32, .inl xs)), (my, .inl (cI, 32, .inl ys))] (some (.int (bz (!decide (tn < 24))))) := by
  refine CR.of (by decide) (Nat.le_of_ble_eq_true rfl) ?_
  intro p e s m below meth c hx hb hr hml hown hlocks hta hP hD hK ls hl
  have hl : lv_has ls 1 [(0, .ref th)] := hl
  have hP : va_P D vwCl [(th, .inr (7, [.ref mk, .int (nI tn), .ref tc])), (tc, .inl (cI, 72, .inl cs)), (mk, .inr (3, [.int (nI mn), .ref mx, .ref my])), (mx, .inl (cI, 32, .inl xs)), (my, .inl (cI, 32, .inl ys))] s.heap := hP
  refine lv_aload_n hx hb dX7_isFull_0 rfl (lv_at hl 0 rfl) ?_
  refine getX hx hb hta inA7 hown hK hP 0 rfl rfl 1 (by decide) mw100 rfl rfl dX7_isFull_1 ?_
  refine lv_bipush (v := nI 24) hx hb dX7_isFull_4 (by decide) ?_
  refine icmpN_lt (tgt := 13) hx hb dX7_isFull_6 (by decide) (by omega) (by omega) (fun c_6 => ?_) (fun c_6 => ?_)
  · refine lv_iconst (v := nI 0) hx hb dX7_isFull_13 (by decide) ?_
    exact rRz hx hb hr hlocks dX7_isFull_14 (by first | (simp only [bz, eq_true c_6, decide_true, decide_false, Bool.true_or, Bool.or_true, Bool.false_or, Bool.or_false, Bool.true_and, Bool.and_true, Bool.false_and, Bool.and_false, Bool.not_true, Bool.not_false, if_true, if_false, Bool.false_eq_true, and_true, true_and, and_false, false_and, or_true, true_or, or_false, false_or, not_true_eq_false, not_false_eq_true, bz]; done) | (simp only [bz, eq_true c_6, decide_true, decide_false, Bool.true_or, Bool.or_true, Bool.false_or, Bool.or_false, Bool.true_and, Bool.and_true, Bool.false_and, Bool.and_false, Bool.not_true, Bool.not_false, if_true, if_false, Bool.false_eq_true, and_true, true_and, and_false, false_and, or_true, true_or, or_false, false_or, not_true_eq_false, not_false_eq_true, bz]; rfl))
  · refine lv_iconst (v := nI 1) hx hb dX7_isFull_9 (by decide) ?_
    refine lv_goto (tgt := 14) hx hb dX7_isFull_10 (by decide) ?_
    exact rRz hx hb hr hlocks dX7_isFull_14 (by first | (simp only [bz, eq_false c_6, decide_true, decide_false, Bool.true_or, Bool.or_true, Bool.false_or, Bool.or_false, Bool.true_and, Bool.and_true, Bool.false_and, Bool.and_false, Bool.not_true, Bool.not_false, if_true, if_false, Bool.false_eq_true, and_true, true_and, and_false, false_and, or_true, true_or, or_false, false_or, not_true_eq_false, not_false_eq_true, bz]; done) | (simp only [bz, eq_false c_6, decide_true, decide_false, Bool.true_or, Bool.or_true, Bool.false_or, Bool.or_false, Bool.true_and, Bool.and_true, Bool.false_and, Bool.and_false, Bool.not_true, Bool.not_false, if_true, if_false, Bool.false_eq_true, and_true, true_and, and_false, false_and, or_true, true_or, or_false, false_or, not_true_eq_false, not_false_eq_true, bz]; rfl))
theorem k_X7_isFull {p : Program} {l : Launch} {e : Env} {R : Room} {s : State} {m : MethodId} {args : Array Value} {below : List Frame} {meth : Method} {c : Code} {H : Heap} {locs : List Loc} {cells slots : Nat} {Q : State → Prop} {pc : Nat} {ls : Array Slot} {rest : List Value} {cc : ByteArray} {nL index Wd : Nat} {own : String} {D : va_G} {cI : ClassId} {A : Nat → Prop} {ws : va_W} (th : Nat) (tc : Nat) (mk : Nat) (mx : Nat) (my : Nat) (tn : Nat) (cs : Nat → Int32) (mn : Nat) (xs : Nat → Int32) (ys : Nat → Int32) (htn : tn ≤ 24) (S : CallFix p m c cc nL s args WA own) (hl : Cond.methodLink own index yX7_isFull ∈ WA) (hR : 0 + 1 ≤ R.frames ∧ Wd + (1 + 11) + 0 ≤ R.locals) (hK : KB D cI s) (hP : va_P D vwCl ws H) (hD : va_D A ws) (is : List Nat) (hs : is.map (fun i => ws[i]?) = ([(th, .inr (7, [.ref mk, .int (nI tn), .ref tc])), (tc, .inl (cI, 72, .inl cs)), (mk, .inr (3, [.int (nI mn), .ref mx, .ref my])), (mx, .inl (cI, 32, .inl xs)), (my, .inl (cI, 32, .inl ys))] : va_W).map some) (hnd : va_nd is = true) (hsz : ls.size = nL) (hW : (rest.map fun v => v.category).sum ≤ Wd) (hdg : decode cc pc = .ok (.invokevirtual index, 3)) (hcel : cells ≤ R.cells ∧ slots ≤ R.slots) (kk : W p l e R s m args below meth c H locs cells slots Q (F0 m (pc + 3) ls (.int (bz (!decide (tn < 24))) :: rest))) : W p l e R s m args below meth c H locs cells slots Q (F0 m pc ls (.ref th :: rest)) :=
  kRV (n := 0) (As := []) (ci := 7) S (c_X7_isFull l D cI th tc mk mx my tn cs mn xs ys htn) hl mw400 mw398 mw399 mw43 (by decide +kernel) hR rfl rfl rfl rfl hK hP hD is hs hnd hsz hW hdg hcel kk

set_option maxHeartbeats 4000000 in
set_option maxRecDepth 100000 in
theorem c_X7_isThird (l : Launch) (D : va_G) (cI : ClassId) (th : Nat) (tc : Nat) (mk : Nat) (mx : Nat) (my : Nat) (t0 : Int32) (tn : Nat) (cs : Nat → Int32) (mn : Nat) (xs : Nat → Int32) (ys : Nat → Int32) : CR l yX7_isThird (wm yX7_isThird cX7_isThird 2 (some .boolean)) 0 0 D cI [.ref th, .int t0] [(th, .inr (7, [.ref mk, .int (nI tn), .ref tc])), (tc, .inl (cI, 72, .inl cs)), (mk, .inr (3, [.int (nI mn), .ref mx, .ref my])), (mx, .inl (cI, 32, .inl xs)), (my, .inl (cI, 32, .inl ys))] (some (.int (bz (inM t0 tn)))) := by
  refine CR.of (by decide) (Nat.le_of_ble_eq_true rfl) ?_
  intro p e s m below meth c hx hb hr hml hown hlocks hta hP hD hK ls hl
  have hl : lv_has ls 2 [(0, .ref th), (1, .int t0)] := hl
  have hP : va_P D vwCl [(th, .inr (7, [.ref mk, .int (nI tn), .ref tc])), (tc, .inl (cI, 72, .inl cs)), (mk, .inr (3, [.int (nI mn), .ref mx, .ref my])), (mx, .inl (cI, 32, .inl xs)), (my, .inl (cI, 32, .inl ys))] s.heap := hP
  refine lv_iload_n hx hb dX7_isThird_0 rfl (lv_at hl 1 rfl) ?_
  refine ifI_lt (tgt := 16) hx hb dX7_isThird_1 (by decide) (fun c_1 => ?_) (fun c_1 => ?_)
  · refine lv_iconst (v := nI 0) hx hb dX7_isThird_16 (by decide) ?_
    exact rRz hx hb hr hlocks dX7_isThird_17 (by first | (simp only [inM, eq_true c_1, decide_true, decide_false, Bool.true_or, Bool.or_true, Bool.false_or, Bool.or_false, Bool.true_and, Bool.and_true, Bool.false_and, Bool.and_false, Bool.not_true, Bool.not_false, if_true, if_false, Bool.false_eq_true, and_true, true_and, and_false, false_and, or_true, true_or, or_false, false_or, not_true_eq_false, not_false_eq_true, bz]; done) | (simp only [inM, eq_true c_1, decide_true, decide_false, Bool.true_or, Bool.or_true, Bool.false_or, Bool.or_false, Bool.true_and, Bool.and_true, Bool.false_and, Bool.and_false, Bool.not_true, Bool.not_false, if_true, if_false, Bool.false_eq_true, and_true, true_and, and_false, false_and, or_true, true_or, or_false, false_or, not_true_eq_false, not_false_eq_true, bz]; rfl))
  · refine lv_iload_n hx hb dX7_isThird_4 rfl (lv_at hl 1 rfl) ?_
    refine lv_aload_n hx hb dX7_isThird_5 rfl (lv_at hl 0 rfl) ?_
    refine getX hx hb hta inA7 hown hK hP 0 rfl rfl 1 (by decide) mw100 rfl rfl dX7_isThird_6 ?_
    refine icmpI_ge (tgt := 16) hx hb dX7_isThird_9 (by decide) (fun c_9 => ?_) (fun c_9 => ?_)
    · refine lv_iconst (v := nI 0) hx hb dX7_isThird_16 (by decide) ?_
      exact rRz hx hb hr hlocks dX7_isThird_17 (by first | (simp only [inM, eq_false c_1, eq_false c_9, decide_true, decide_false, Bool.true_or, Bool.or_true, Bool.false_or, Bool.or_false, Bool.true_and, Bool.and_true, Bool.false_and, Bool.and_false, Bool.not_true, Bool.not_false, if_true, if_false, Bool.false_eq_true, and_true, true_and, and_false, false_and, or_true, true_or, or_false, false_or, not_true_eq_false, not_false_eq_true, bz]; done) | (simp only [inM, eq_false c_1, eq_false c_9, decide_true, decide_false, Bool.true_or, Bool.or_true, Bool.false_or, Bool.or_false, Bool.true_and, Bool.and_true, Bool.false_and, Bool.and_false, Bool.not_true, Bool.not_false, if_true, if_false, Bool.false_eq_true, and_true, true_and, and_false, false_and, or_true, true_or, or_false, false_or, not_true_eq_false, not_false_eq_true, bz]; rfl))
    · refine lv_iconst (v := nI 1) hx hb dX7_isThird_12 (by decide) ?_
      refine lv_goto (tgt := 17) hx hb dX7_isThird_13 (by decide) ?_
      exact rRz hx hb hr hlocks dX7_isThird_17 (by first | (simp only [inM, eq_false c_1, eq_true c_9, decide_true, decide_false, Bool.true_or, Bool.or_true, Bool.false_or, Bool.or_false, Bool.true_and, Bool.and_true, Bool.false_and, Bool.and_false, Bool.not_true, Bool.not_false, if_true, if_false, Bool.false_eq_true, and_true, true_and, and_false, false_and, or_true, true_or, or_false, false_or, not_true_eq_false, not_false_eq_true, bz]; done) | (simp only [inM, eq_false c_1, eq_true c_9, decide_true, decide_false, Bool.true_or, Bool.or_true, Bool.false_or, Bool.or_false, Bool.true_and, Bool.and_true, Bool.false_and, Bool.and_false, Bool.not_true, Bool.not_false, if_true, if_false, Bool.false_eq_true, and_true, true_and, and_false, false_and, or_true, true_or, or_false, false_or, not_true_eq_false, not_false_eq_true, bz]; rfl))
theorem k_X7_isThird {p : Program} {l : Launch} {e : Env} {R : Room} {s : State} {m : MethodId} {args : Array Value} {below : List Frame} {meth : Method} {c : Code} {H : Heap} {locs : List Loc} {cells slots : Nat} {Q : State → Prop} {pc : Nat} {ls : Array Slot} {rest : List Value} {cc : ByteArray} {nL index Wd : Nat} {own : String} {D : va_G} {cI : ClassId} {A : Nat → Prop} {ws : va_W} (th : Nat) (tc : Nat) (mk : Nat) (mx : Nat) (my : Nat) (t0 : Int32) (tn : Nat) (cs : Nat → Int32) (mn : Nat) (xs : Nat → Int32) (ys : Nat → Int32) (S : CallFix p m c cc nL s args WA own) (hl : Cond.methodLink own index yX7_isThird ∈ WA) (hR : 0 + 1 ≤ R.frames ∧ Wd + (2 + 11) + 0 ≤ R.locals) (hK : KB D cI s) (hP : va_P D vwCl ws H) (hD : va_D A ws) (is : List Nat) (hs : is.map (fun i => ws[i]?) = ([(th, .inr (7, [.ref mk, .int (nI tn), .ref tc])), (tc, .inl (cI, 72, .inl cs)), (mk, .inr (3, [.int (nI mn), .ref mx, .ref my])), (mx, .inl (cI, 32, .inl xs)), (my, .inl (cI, 32, .inl ys))] : va_W).map some) (hnd : va_nd is = true) (hsz : ls.size = nL) (hW : (rest.map fun v => v.category).sum ≤ Wd) (hdg : decode cc pc = .ok (.invokevirtual index, 3)) (hcel : cells ≤ R.cells ∧ slots ≤ R.slots) (kk : W p l e R s m args below meth c H locs cells slots Q (F0 m (pc + 3) ls (.int (bz (inM t0 tn)) :: rest))) : W p l e R s m args below meth c H locs cells slots Q (F0 m pc ls (.int t0 :: .ref th :: rest)) :=
  kRV (n := 1) (As := [.int t0]) (ci := 7) S (c_X7_isThird l D cI th tc mk mx my t0 tn cs mn xs ys ) hl mw412 mw410 mw411 mw43 (by decide +kernel) hR rfl rfl rfl rfl hK hP hD is hs hnd hsz hW hdg hcel kk

set_option maxHeartbeats 4000000 in
set_option maxRecDepth 100000 in
theorem c_X7_add (l : Launch) (D : va_G) (cI : ClassId) (th : Nat) (tc : Nat) (mk : Nat) (mx : Nat) (my : Nat) (a0 : Int32) (b0 : Int32) (c0 : Int32) (tn : Nat) (cs : Nat → Int32) (mn : Nat) (xs : Nat → Int32) (ys : Nat → Int32) (htn : tn < 24) : CW l yX7_add (wm yX7_add cX7_add 5 (some .int)) 0 0 D cI [.ref th, .int a0, .int b0, .int c0] [(th, .inr (7, [.ref mk, .int (nI tn), .ref tc])), (tc, .inl (cI, 72, .inl cs)), (mk, .inr (3, [.int (nI mn), .ref mx, .ref my])), (mx, .inl (cI, 32, .inl xs)), (my, .inl (cI, 32, .inl ys))] (fun v w' => v = some (.int (nI tn)) ∧ w' = [(th, .inr (7, [.ref mk, .int (nI (tn + 1)), .ref tc])), (tc, .inl (cI, 72, .inl (upd (upd (upd cs (3 * tn) a0) (3 * tn + 1) b0) (3 * tn + 2) c0))), (mk, .inr (3, [.int (nI mn), .ref mx, .ref my])), (mx, .inl (cI, 32, .inl xs)), (my, .inl (cI, 32, .inl ys))]) := by
  refine CW.of (by decide) (Nat.le_of_ble_eq_true rfl) ?_
  intro p e s m below meth c hx hb hr hml hown hlocks hta hP hD hK hS ls hl
  have hl : lv_has ls 5 [(0, .ref th), (1, .int a0), (2, .int b0), (3, .int c0)] := hl
  have hP : va_P D vwCl [(th, .inr (7, [.ref mk, .int (nI tn), .ref tc])), (tc, .inl (cI, 72, .inl cs)), (mk, .inr (3, [.int (nI mn), .ref mx, .ref my])), (mx, .inl (cI, 32, .inl xs)), (my, .inl (cI, 32, .inl ys))] s.heap := hP
  refine lv_aload_n hx hb dX7_add_0 rfl (lv_at hl 0 rfl) ?_
  refine getX hx hb hta inA7 hown hK hP 0 rfl rfl 1 (by decide) mw100 rfl rfl dX7_add_1 ?_
  refine lv_istore (lv' := [(4, .int (nI tn)), (0, .ref th), (1, .int a0), (2, .int b0), (3, .int c0)]) hx hb dX7_add_4 hl (by decide) rfl (fun ls hl => ?_)
  refine lv_aload_n hx hb dX7_add_6 rfl (lv_at hl 1 rfl) ?_
  refine lv_dup hx hb dX7_add_7 rfl ?_
  refine getX hx hb hta inA7 hown hK hP 0 rfl rfl 1 (by decide) mw100 rfl rfl dX7_add_8 ?_
  refine lv_iconst (v := nI 1) hx hb dX7_add_11 (by decide) ?_
  refine iaddN (a := tn) (b := 1) hx hb dX7_add_12 ?_
  refine putX hx hb hta inA7 tyX7 tyX7_ok nmX7 hown hK hP hD hS 0 rfl rfl 1 (by decide) mw100 rfl rfl (ty := .int) rfl rfl rfl (Nat.le_of_ble_eq_true rfl) dX7_add_13 (fun H locs hP hS => ?_)
  have hP : va_P D vwCl [(th, .inr (7, [.ref mk, .int (nI (tn + 1)), .ref tc])), (tc, .inl (cI, 72, .inl cs)), (mk, .inr (3, [.int (nI mn), .ref mx, .ref my])), (mx, .inl (cI, 32, .inl xs)), (my, .inl (cI, 32, .inl ys))] H := hP
  have hD : va_D (adrs [(th, .inr (7, [.ref mk, .int (nI tn), .ref tc])), (tc, .inl (cI, 72, .inl cs)), (mk, .inr (3, [.int (nI mn), .ref mx, .ref my])), (mx, .inl (cI, 32, .inl xs)), (my, .inl (cI, 32, .inl ys))]) [(th, .inr (7, [.ref mk, .int (nI (tn + 1)), .ref tc])), (tc, .inl (cI, 72, .inl cs)), (mk, .inr (3, [.int (nI mn), .ref mx, .ref my])), (mx, .inl (cI, 32, .inl xs)), (my, .inl (cI, 32, .inl ys))] := hD.same rfl
  refine lv_aload_n hx hb dX7_add_16 rfl (lv_at hl 1 rfl) ?_
  refine getX hx hb hta inA7 hown hK hP 0 rfl rfl 2 (by decide) mw101 rfl rfl dX7_add_17 ?_
  refine lv_iconst (v := nI 3) hx hb dX7_add_20 (by decide) ?_
  refine lv_iload hx hb dX7_add_21 (lv_at hl 0 rfl) ?_
  refine imulN (a := 3) (b := tn) hx hb dX7_add_23 ?_
  refine lv_iload_n hx hb dX7_add_24 rfl (lv_at hl 2 rfl) ?_
  refine iastN hx hb hK hP hD hS 1 rfl (by omega) (by decide) dX7_add_25 (fun H locs hP hS => ?_)
  have hP : va_P D vwCl [(th, .inr (7, [.ref mk, .int (nI (tn + 1)), .ref tc])), (tc, .inl (cI, 72, .inl (upd cs (3 * tn) a0))), (mk, .inr (3, [.int (nI mn), .ref mx, .ref my])), (mx, .inl (cI, 32, .inl xs)), (my, .inl (cI, 32, .inl ys))] H := hP
  have hD : va_D (adrs [(th, .inr (7, [.ref mk, .int (nI tn), .ref tc])), (tc, .inl (cI, 72, .inl cs)), (mk, .inr (3, [.int (nI mn), .ref mx, .ref my])), (mx, .inl (cI, 32, .inl xs)), (my, .inl (cI, 32, .inl ys))]) [(th, .inr (7, [.ref mk, .int (nI (tn + 1)), .ref tc])), (tc, .inl (cI, 72, .inl (upd cs (3 * tn) a0))), (mk, .inr (3, [.int (nI mn), .ref mx, .ref my])), (mx, .inl (cI, 32, .inl xs)), (my, .inl (cI, 32, .inl ys))] := hD.same rfl
  refine lv_aload_n hx hb dX7_add_26 rfl (lv_at hl 1 rfl) ?_
  refine getX hx hb hta inA7 hown hK hP 0 rfl rfl 2 (by decide) mw101 rfl rfl dX7_add_27 ?_
  refine lv_iconst (v := nI 3) hx hb dX7_add_30 (by decide) ?_
  refine lv_iload hx hb dX7_add_31 (lv_at hl 0 rfl) ?_
  refine imulN (a := 3) (b := tn) hx hb dX7_add_33 ?_
  refine lv_iconst (v := nI 1) hx hb dX7_add_34 (by decide) ?_
  refine iaddN (a := 3 * tn) (b := 1) hx hb dX7_add_35 ?_
  refine lv_iload_n hx hb dX7_add_36 rfl (lv_at hl 3 rfl) ?_
  refine iastN hx hb hK hP hD hS 1 rfl (by omega) (by decide) dX7_add_37 (fun H locs hP hS => ?_)
  have hP : va_P D vwCl [(th, .inr (7, [.ref mk, .int (nI (tn + 1)), .ref tc])), (tc, .inl (cI, 72, .inl (upd (upd cs (3 * tn) a0) (3 * tn + 1) b0))), (mk, .inr (3, [.int (nI mn), .ref mx, .ref my])), (mx, .inl (cI, 32, .inl xs)), (my, .inl (cI, 32, .inl ys))] H := hP
  have hD : va_D (adrs [(th, .inr (7, [.ref mk, .int (nI tn), .ref tc])), (tc, .inl (cI, 72, .inl cs)), (mk, .inr (3, [.int (nI mn), .ref mx, .ref my])), (mx, .inl (cI, 32, .inl xs)), (my, .inl (cI, 32, .inl ys))]) [(th, .inr (7, [.ref mk, .int (nI (tn + 1)), .ref tc])), (tc, .inl (cI, 72, .inl (upd (upd cs (3 * tn) a0) (3 * tn + 1) b0))), (mk, .inr (3, [.int (nI mn), .ref mx, .ref my])), (mx, .inl (cI, 32, .inl xs)), (my, .inl (cI, 32, .inl ys))] := hD.same rfl
  refine lv_aload_n hx hb dX7_add_38 rfl (lv_at hl 1 rfl) ?_
  refine getX hx hb hta inA7 hown hK hP 0 rfl rfl 2 (by decide) mw101 rfl rfl dX7_add_39 ?_
  refine lv_iconst (v := nI 3) hx hb dX7_add_42 (by decide) ?_
  refine lv_iload hx hb dX7_add_43 (lv_at hl 0 rfl) ?_
  refine imulN (a := 3) (b := tn) hx hb dX7_add_45 ?_
  refine lv_iconst (v := nI 2) hx hb dX7_add_46 (by decide) ?_
  refine iaddN (a := 3 * tn) (b := 2) hx hb dX7_add_47 ?_
  refine lv_iload_n hx hb dX7_add_48 rfl (lv_at hl 4 rfl) ?_
  refine iastN hx hb hK hP hD hS 1 rfl (by omega) (by decide) dX7_add_49 (fun H locs hP hS => ?_)
  have hP : va_P D vwCl [(th, .inr (7, [.ref mk, .int (nI (tn + 1)), .ref tc])), (tc, .inl (cI, 72, .inl (upd (upd (upd cs (3 * tn) a0) (3 * tn + 1) b0) (3 * tn + 2) c0))), (mk, .inr (3, [.int (nI mn), .ref mx, .ref my])), (mx, .inl (cI, 32, .inl xs)), (my, .inl (cI, 32, .inl ys))] H := hP
  have hD : va_D (adrs [(th, .inr (7, [.ref mk, .int (nI tn), .ref tc])), (tc, .inl (cI, 72, .inl cs)), (mk, .inr (3, [.int (nI mn), .ref mx, .ref my])), (mx, .inl (cI, 32, .inl xs)), (my, .inl (cI, 32, .inl ys))]) [(th, .inr (7, [.ref mk, .int (nI (tn + 1)), .ref tc])), (tc, .inl (cI, 72, .inl (upd (upd (upd cs (3 * tn) a0) (3 * tn + 1) b0) (3 * tn + 2) c0))), (mk, .inr (3, [.int (nI mn), .ref mx, .ref my])), (mx, .inl (cI, 32, .inl xs)), (my, .inl (cI, 32, .inl ys))] := hD.same rfl
  refine lv_iload hx hb dX7_add_50 (lv_at hl 0 rfl) ?_
  exact rWi hx hb hr hlocks dX7_add_52 hP hS rfl ⟨rfl, rfl⟩
theorem k_X7_add {p : Program} {l : Launch} {e : Env} {R : Room} {s : State} {m : MethodId} {args : Array Value} {below : List Frame} {meth : Method} {c : Code} {H : Heap} {locs : List Loc} {cells slots : Nat} {Q : State → Prop} {pc : Nat} {ls : Array Slot} {rest : List Value} {cc : ByteArray} {nL index Wd : Nat} {own : String} {D : va_G} {cI : ClassId} {A : Nat → Prop} {ws : va_W} {H0 : Heap} (th : Nat) (tc : Nat) (mk : Nat) (mx : Nat) (my : Nat) (a0 : Int32) (b0 : Int32) (c0 : Int32) (tn : Nat) (cs : Nat → Int32) (mn : Nat) (xs : Nat → Int32) (ys : Nat → Int32) (htn : tn < 24) (S : CallFix p m c cc nL s args WA own) (hl : Cond.methodLink own index yX7_add ∈ WA) (hR : 0 + 1 ≤ R.frames ∧ Wd + (5 + 11) + 0 ≤ R.locals) (hK : KB D cI s) (hP : va_P D vwCl ws H) (hD : va_D A ws) (hS : va_S A H0 H locs) (is : List Nat) (hs : is.map (fun i => ws[i]?) = ([(th, .inr (7, [.ref mk, .int (nI tn), .ref tc])), (tc, .inl (cI, 72, .inl cs)), (mk, .inr (3, [.int (nI mn), .ref mx, .ref my])), (mx, .inl (cI, 32, .inl xs)), (my, .inl (cI, 32, .inl ys))] : va_W).map some) (hnd : va_nd is = true) (hsz : ls.size = nL) (hW : (rest.map fun v => v.category).sum ≤ Wd) (hdg : decode cc pc = .ok (.invokevirtual index, 3)) (hcel : cells ≤ R.cells ∧ slots ≤ R.slots) (kk : ∀ (H1 : Heap) (locs1 : List Loc), va_P D vwCl (rp ws is [(th, .inr (7, [.ref mk, .int (nI (tn + 1)), .ref tc])), (tc, .inl (cI, 72, .inl (upd (upd (upd cs (3 * tn) a0) (3 * tn + 1) b0) (3 * tn + 2) c0))), (mk, .inr (3, [.int (nI mn), .ref mx, .ref my])), (mx, .inl (cI, 32, .inl xs)), (my, .inl (cI, 32, .inl ys))]) H1 → va_S A H0 H1 locs1 → W p l e R s m args below meth c H1 locs1 cells slots Q (F0 m (pc + 3) ls (.int (nI tn) :: rest))) : W p l e R s m args below meth c H locs cells slots Q (F0 m pc ls (.int c0 :: .int b0 :: .int a0 :: .ref th :: rest)) :=
  kWV (n := 3) (As := [.int a0, .int b0, .int c0]) (ci := 7) S (c_X7_add l D cI th tc mk mx my a0 b0 c0 tn cs mn xs ys htn) hl mw404 mw402 mw403 mw43 (by decide +kernel) hR rfl rfl rfl rfl hK hP hD hS is hs hnd hsz hW hdg hcel (fun v w' H1 locs1 hq h1 h2 => by obtain ⟨rfl, rfl⟩ := hq; exact kk  H1 locs1 h1 h2)

set_option maxHeartbeats 4000000 in
set_option maxRecDepth 100000 in
theorem c_X7_corner (l : Launch) (D : va_G) (cI : ClassId) (th : Nat) (tc : Nat) (mk : Nat) (mx : Nat) (my : Nat) (t0 : Nat) (w0 : Nat) (tn : Nat) (cs : Nat → Int32) (mn : Nat) (xs : Nat → Int32) (ys : Nat → Int32) (hmn : mn ≤ 16) (htn : tn ≤ 24) (hcs : CSok cs tn mn) (ht0 : t0 < tn) (hw0 : w0 < 3) : CR l yX7_corner (wm yX7_corner cX7_corner 3 (some .int)) 0 0 D cI [.ref th, .int (nI t0), .int (nI w0)] [(th, .inr (7, [.ref mk, .int (nI tn), .ref tc])), (tc, .inl (cI, 72, .inl cs)), (mk, .inr (3, [.int (nI mn), .ref mx, .ref my])), (mx, .inl (cI, 32, .inl xs)), (my, .inl (cI, 32, .inl ys))] (some (.int (nI (cn cs (3 * t0 + w0))))) := by
  refine CR.of (by decide) (Nat.le_of_ble_eq_true rfl) ?_
  intro p e s m below meth c hx hb hr hml hown hlocks hta hP hD hK ls hl
  have hl : lv_has ls 3 [(0, .ref th), (1, .int (nI t0)), (2, .int (nI w0))] := hl
  have hP : va_P D vwCl [(th, .inr (7, [.ref mk, .int (nI tn), .ref tc])), (tc, .inl (cI, 72, .inl cs)), (mk, .inr (3, [.int (nI mn), .ref mx, .ref my])), (mx, .inl (cI, 32, .inl xs)), (my, .inl (cI, 32, .inl ys))] s.heap := hP
  refine lv_aload_n hx hb dX7_corner_0 rfl (lv_at hl 0 rfl) ?_
  refine getX hx hb hta inA7 hown hK hP 0 rfl rfl 2 (by decide) mw101 rfl rfl dX7_corner_1 ?_
  refine lv_iconst (v := nI 3) hx hb dX7_corner_4 (by decide) ?_
  refine lv_iload_n hx hb dX7_corner_5 rfl (lv_at hl 1 rfl) ?_
  refine imulN (a := 3) (b := t0) hx hb dX7_corner_6 ?_
  refine lv_iload_n hx hb dX7_corner_7 rfl (lv_at hl 2 rfl) ?_
  refine iaddN (a := 3 * t0) (b := w0) hx hb dX7_corner_8 ?_
  refine ialdN hx hb hK hP 1 rfl (by omega) (by decide) dX7_corner_9 ?_
  exact rRi hx hb hr hlocks dX7_corner_10 (hcs _ (by omega)).1
theorem k_X7_corner {p : Program} {l : Launch} {e : Env} {R : Room} {s : State} {m : MethodId} {args : Array Value} {below : List Frame} {meth : Method} {c : Code} {H : Heap} {locs : List Loc} {cells slots : Nat} {Q : State → Prop} {pc : Nat} {ls : Array Slot} {rest : List Value} {cc : ByteArray} {nL index Wd : Nat} {own : String} {D : va_G} {cI : ClassId} {A : Nat → Prop} {ws : va_W} (th : Nat) (tc : Nat) (mk : Nat) (mx : Nat) (my : Nat) (t0 : Nat) (w0 : Nat) (tn : Nat) (cs : Nat → Int32) (mn : Nat) (xs : Nat → Int32) (ys : Nat → Int32) (hmn : mn ≤ 16) (htn : tn ≤ 24) (hcs : CSok cs tn mn) (ht0 : t0 < tn) (hw0 : w0 < 3) (S : CallFix p m c cc nL s args WA own) (hl : Cond.methodLink own index yX7_corner ∈ WA) (hR : 0 + 1 ≤ R.frames ∧ Wd + (3 + 11) + 0 ≤ R.locals) (hK : KB D cI s) (hP : va_P D vwCl ws H) (hD : va_D A ws) (is : List Nat) (hs : is.map (fun i => ws[i]?) = ([(th, .inr (7, [.ref mk, .int (nI tn), .ref tc])), (tc, .inl (cI, 72, .inl cs)), (mk, .inr (3, [.int (nI mn), .ref mx, .ref my])), (mx, .inl (cI, 32, .inl xs)), (my, .inl (cI, 32, .inl ys))] : va_W).map some) (hnd : va_nd is = true) (hsz : ls.size = nL) (hW : (rest.map fun v => v.category).sum ≤ Wd) (hdg : decode cc pc = .ok (.invokevirtual index, 3)) (hcel : cells ≤ R.cells ∧ slots ≤ R.slots) (kk : W p l e R s m args below meth c H locs cells slots Q (F0 m (pc + 3) ls (.int (nI (cn cs (3 * t0 + w0))) :: rest))) : W p l e R s m args below meth c H locs cells slots Q (F0 m pc ls (.int (nI w0) :: .int (nI t0) :: .ref th :: rest)) :=
  kRV (n := 2) (As := [.int (nI t0), .int (nI w0)]) (ci := 7) S (c_X7_corner l D cI th tc mk mx my t0 w0 tn cs mn xs ys hmn htn hcs ht0 hw0) hl mw395 mw393 mw394 mw43 (by decide +kernel) hR rfl rfl rfl rfl hK hP hD is hs hnd hsz hW hdg hcel kk

set_option maxHeartbeats 4000000 in
set_option maxRecDepth 100000 in
theorem c_X7_touches (l : Launch) (D : va_G) (cI : ClassId) (th : Nat) (tc : Nat) (mk : Nat) (mx : Nat) (my : Nat) (t0 : Nat) (a0 : Nat) (tn : Nat) (cs : Nat → Int32) (mn : Nat) (xs : Nat → Int32) (ys : Nat → Int32) (hmn : mn ≤ 16) (htn : tn ≤ 24) (hcs : CSok cs tn mn) (ht0 : t0 < tn) (ha0 : a0 < 16) : CR l yX7_touches (wm yX7_touches cX7_touches 3 (some .boolean)) 1 14 D cI [.ref th, .int (nI t0), .int (nI a0)] [(th, .inr (7, [.ref mk, .int (nI tn), .ref tc])), (tc, .inl (cI, 72, .inl cs)), (mk, .inr (3, [.int (nI mn), .ref mx, .ref my])), (mx, .inl (cI, 32, .inl xs)), (my, .inl (cI, 32, .inl ys))] (some (.int (bz (tch cs t0 a0)))) := by
  refine CR.of (by decide) (Nat.le_of_ble_eq_true rfl) ?_
  intro p e s m below meth c hx hb hr hml hown hlocks hta hP hD hK ls hl
  have hl : lv_has ls 3 [(0, .ref th), (1, .int (nI t0)), (2, .int (nI a0))] := hl
  have hP : va_P D vwCl [(th, .inr (7, [.ref mk, .int (nI tn), .ref tc])), (tc, .inl (cI, 72, .inl cs)), (mk, .inr (3, [.int (nI mn), .ref mx, .ref my])), (mx, .inl (cI, 32, .inl xs)), (my, .inl (cI, 32, .inl ys))] s.heap := hP
  have hc0 := (hcs (3 * t0 + 0) (by omega)).2
  have hc1 := (hcs (3 * t0 + 1) (by omega)).2
  have hc2 := (hcs (3 * t0 + 2) (by omega)).2
  refine lv_aload_n hx hb dX7_touches_0 rfl (lv_at hl 0 rfl) ?_
  refine lv_iload_n hx hb dX7_touches_1 rfl (lv_at hl 1 rfl) ?_
  refine lv_iconst (v := nI 0) hx hb dX7_touches_2 (by decide) ?_
  refine k_X7_corner (Wd := 0) th tc mk mx my t0 0 tn cs mn xs ys hmn htn hcs ht0 (by omega) ⟨hx, hb, hml, hown, hta⟩ mw392 ⟨Nat.le_of_ble_eq_true rfl, Nat.le_of_ble_eq_true rfl⟩ hK hP hD [0, 1, 2, 3, 4] rfl rfl hl.1 (Nat.le_of_ble_eq_true rfl) dX7_touches_3 ⟨Nat.le_of_ble_eq_true rfl, Nat.le_of_ble_eq_true rfl⟩ ?_
  refine lv_iload_n hx hb dX7_touches_6 rfl (lv_at hl 2 rfl) ?_
  refine icmpN_eq (tgt := 30) hx hb dX7_touches_7 (by decide) (by omega) (by omega) (fun c_7 => ?_) (fun c_7 => ?_)
  · refine lv_iconst (v := nI 1) hx hb dX7_touches_30 (by decide) ?_
    refine lv_goto (tgt := 35) hx hb dX7_touches_31 (by decide) ?_
    exact rRz hx hb hr hlocks dX7_touches_35 (by first | (simp only [tch, eq_true c_7, decide_true, decide_false, Bool.true_or, Bool.or_true, Bool.false_or, Bool.or_false, Bool.true_and, Bool.and_true, Bool.false_and, Bool.and_false, Bool.not_true, Bool.not_false, if_true, if_false, Bool.false_eq_true, and_true, true_and, and_false, false_and, or_true, true_or, or_false, false_or, not_true_eq_false, not_false_eq_true, bz]; done) | (simp only [tch, eq_true c_7, decide_true, decide_false, Bool.true_or, Bool.or_true, Bool.false_or, Bool.or_false, Bool.true_and, Bool.and_true, Bool.false_and, Bool.and_false, Bool.not_true, Bool.not_false, if_true, if_false, Bool.false_eq_true, and_true, true_and, and_false, false_and, or_true, true_or, or_false, false_or, not_true_eq_false, not_false_eq_true, bz]; rfl))
  · refine lv_aload_n hx hb dX7_touches_10 rfl (lv_at hl 0 rfl) ?_
    refine lv_iload_n hx hb dX7_touches_11 rfl (lv_at hl 1 rfl) ?_
    refine lv_iconst (v := nI 1) hx hb dX7_touches_12 (by decide) ?_
    refine k_X7_corner (Wd := 0) th tc mk mx my t0 1 tn cs mn xs ys hmn htn hcs ht0 (by omega) ⟨hx, hb, hml, hown, hta⟩ mw392 ⟨Nat.le_of_ble_eq_true rfl, Nat.le_of_ble_eq_true rfl⟩ hK hP hD [0, 1, 2, 3, 4] rfl rfl hl.1 (Nat.le_of_ble_eq_true rfl) dX7_touches_13 ⟨Nat.le_of_ble_eq_true rfl, Nat.le_of_ble_eq_true rfl⟩ ?_
    refine lv_iload_n hx hb dX7_touches_16 rfl (lv_at hl 2 rfl) ?_
    refine icmpN_eq (tgt := 30) hx hb dX7_touches_17 (by decide) (by omega) (by omega) (fun c_17 => ?_) (fun c_17 => ?_)
    · refine lv_iconst (v := nI 1) hx hb dX7_touches_30 (by decide) ?_
      refine lv_goto (tgt := 35) hx hb dX7_touches_31 (by decide) ?_
      exact rRz hx hb hr hlocks dX7_touches_35 (by first | (simp only [tch, eq_false c_7, eq_true c_17, decide_true, decide_false, Bool.true_or, Bool.or_true, Bool.false_or, Bool.or_false, Bool.true_and, Bool.and_true, Bool.false_and, Bool.and_false, Bool.not_true, Bool.not_false, if_true, if_false, Bool.false_eq_true, and_true, true_and, and_false, false_and, or_true, true_or, or_false, false_or, not_true_eq_false, not_false_eq_true, bz]; done) | (simp only [tch, eq_false c_7, eq_true c_17, decide_true, decide_false, Bool.true_or, Bool.or_true, Bool.false_or, Bool.or_false, Bool.true_and, Bool.and_true, Bool.false_and, Bool.and_false, Bool.not_true, Bool.not_false, if_true, if_false, Bool.false_eq_true, and_true, true_and, and_false, false_and, or_true, true_or, or_false, false_or, not_true_eq_false, not_false_eq_true, bz]; rfl))
    · refine lv_aload_n hx hb dX7_touches_20 rfl (lv_at hl 0 rfl) ?_
      refine lv_iload_n hx hb dX7_touches_21 rfl (lv_at hl 1 rfl) ?_
      refine lv_iconst (v := nI 2) hx hb dX7_touches_22 (by decide) ?_
      refine k_X7_corner (Wd := 0) th tc mk mx my t0 2 tn cs mn xs ys hmn htn hcs ht0 (by omega) ⟨hx, hb, hml, hown, hta⟩ mw392 ⟨Nat.le_of_ble_eq_true rfl, Nat.le_of_ble_eq_true rfl⟩ hK hP hD [0, 1, 2, 3, 4] rfl rfl hl.1 (Nat.le_of_ble_eq_true rfl) dX7_touches_23 ⟨Nat.le_of_ble_eq_true rfl, Nat.le_of_ble_eq_true rfl⟩ ?_
      refine lv_iload_n hx hb dX7_touches_26 rfl (lv_at hl 2 rfl) ?_
      refine icmpN_ne (tgt := 34) hx hb dX7_touches_27 (by decide) (by omega) (by omega) (fun c_27 => ?_) (fun c_27 => ?_)
      · refine lv_iconst (v := nI 0) hx hb dX7_touches_34 (by decide) ?_
        exact rRz hx hb hr hlocks dX7_touches_35 (by first | (simp only [tch, eq_false c_7, eq_false c_17, eq_false c_27, decide_true, decide_false, Bool.true_or, Bool.or_true, Bool.false_or, Bool.or_false, Bool.true_and, Bool.and_true, Bool.false_and, Bool.and_false, Bool.not_true, Bool.not_false, if_true, if_false, Bool.false_eq_true, and_true, true_and, and_false, false_and, or_true, true_or, or_false, false_or, not_true_eq_false, not_false_eq_true, bz]; done) | (simp only [tch, eq_false c_7, eq_false c_17, eq_false c_27, decide_true, decide_false, Bool.true_or, Bool.or_true, Bool.false_or, Bool.or_false, Bool.true_and, Bool.and_true, Bool.false_and, Bool.and_false, Bool.not_true, Bool.not_false, if_true, if_false, Bool.false_eq_true, and_true, true_and, and_false, false_and, or_true, true_or, or_false, false_or, not_true_eq_false, not_false_eq_true, bz]; rfl))
      · refine lv_iconst (v := nI 1) hx hb dX7_touches_30 (by decide) ?_
        refine lv_goto (tgt := 35) hx hb dX7_touches_31 (by decide) ?_
        exact rRz hx hb hr hlocks dX7_touches_35 (by first | (simp only [tch, eq_false c_7, eq_false c_17, eq_true c_27, decide_true, decide_false, Bool.true_or, Bool.or_true, Bool.false_or, Bool.or_false, Bool.true_and, Bool.and_true, Bool.false_and, Bool.and_false, Bool.not_true, Bool.not_false, if_true, if_false, Bool.false_eq_true, and_true, true_and, and_false, false_and, or_true, true_or, or_false, false_or, not_true_eq_false, not_false_eq_true, bz]; done) | (simp only [tch, eq_false c_7, eq_false c_17, eq_true c_27, decide_true, decide_false, Bool.true_or, Bool.or_true, Bool.false_or, Bool.or_false, Bool.true_and, Bool.and_true, Bool.false_and, Bool.and_false, Bool.not_true, Bool.not_false, if_true, if_false, Bool.false_eq_true, and_true, true_and, and_false, false_and, or_true, true_or, or_false, false_or, not_true_eq_false, not_false_eq_true, bz]; rfl))
theorem k_X7_touches {p : Program} {l : Launch} {e : Env} {R : Room} {s : State} {m : MethodId} {args : Array Value} {below : List Frame} {meth : Method} {c : Code} {H : Heap} {locs : List Loc} {cells slots : Nat} {Q : State → Prop} {pc : Nat} {ls : Array Slot} {rest : List Value} {cc : ByteArray} {nL index Wd : Nat} {own : String} {D : va_G} {cI : ClassId} {A : Nat → Prop} {ws : va_W} (th : Nat) (tc : Nat) (mk : Nat) (mx : Nat) (my : Nat) (t0 : Nat) (a0 : Nat) (tn : Nat) (cs : Nat → Int32) (mn : Nat) (xs : Nat → Int32) (ys : Nat → Int32) (hmn : mn ≤ 16) (htn : tn ≤ 24) (hcs : CSok cs tn mn) (ht0 : t0 < tn) (ha0 : a0 < 16) (S : CallFix p m c cc nL s args WA own) (hl : Cond.methodLink own index yX7_touches ∈ WA) (hR : 1 + 1 ≤ R.frames ∧ Wd + (3 + 11) + 14 ≤ R.locals) (hK : KB D cI s) (hP : va_P D vwCl ws H) (hD : va_D A ws) (is : List Nat) (hs : is.map (fun i => ws[i]?) = ([(th, .inr (7, [.ref mk, .int (nI tn), .ref tc])), (tc, .inl (cI, 72, .inl cs)), (mk, .inr (3, [.int (nI mn), .ref mx, .ref my])), (mx, .inl (cI, 32, .inl xs)), (my, .inl (cI, 32, .inl ys))] : va_W).map some) (hnd : va_nd is = true) (hsz : ls.size = nL) (hW : (rest.map fun v => v.category).sum ≤ Wd) (hdg : decode cc pc = .ok (.invokevirtual index, 3)) (hcel : cells ≤ R.cells ∧ slots ≤ R.slots) (kk : W p l e R s m args below meth c H locs cells slots Q (F0 m (pc + 3) ls (.int (bz (tch cs t0 a0)) :: rest))) : W p l e R s m args below meth c H locs cells slots Q (F0 m pc ls (.int (nI a0) :: .int (nI t0) :: .ref th :: rest)) :=
  kRV (n := 2) (As := [.int (nI t0), .int (nI a0)]) (ci := 7) S (c_X7_touches l D cI th tc mk mx my t0 a0 tn cs mn xs ys hmn htn hcs ht0 ha0) hl mw391 mw389 mw390 mw43 (by decide +kernel) hR rfl rfl rfl rfl hK hP hD is hs hnd hsz hW hdg hcel kk

set_option maxHeartbeats 4000000 in
set_option maxRecDepth 100000 in
theorem c_X7_tickArea (l : Launch) (D : va_G) (cI : ClassId) (th : Nat) (tc : Nat) (mk : Nat) (mx : Nat) (my : Nat) (t0 : Nat) (k0 : Int32) (n0 : Int32) (tn : Nat) (cs : Nat → Int32) (mn : Nat) (xs : Nat → Int32) (ys : Nat → Int32) (hmn : mn ≤ 16) (htn : tn ≤ 24) (hcs : CSok cs tn mn) (ht0 : t0 < tn) : CR l yX7_tickArea (wm yX7_tickArea cX7_tickArea 7 (some .long)) 2 41 D cI [.ref th, .int (nI t0), .int k0, .int n0] [(th, .inr (7, [.ref mk, .int (nI tn), .ref tc])), (tc, .inl (cI, 72, .inl cs)), (mk, .inr (3, [.int (nI mn), .ref mx, .ref my])), (mx, .inl (cI, 32, .inl xs)), (my, .inl (cI, 32, .inl ys))] (some (.long (tAr cs xs ys t0 k0 n0))) := by
  refine CR.of (by decide) (Nat.le_of_ble_eq_true rfl) ?_
  intro p e s m below meth c hx hb hr hml hown hlocks hta hP hD hK ls hl
  have hl : lv_has ls 7 [(0, .ref th), (1, .int (nI t0)), (2, .int k0), (3, .int n0)] := hl
  have hP : va_P D vwCl [(th, .inr (7, [.ref mk, .int (nI tn), .ref tc])), (tc, .inl (cI, 72, .inl cs)), (mk, .inr (3, [.int (nI mn), .ref mx, .ref my])), (mx, .inl (cI, 32, .inl xs)), (my, .inl (cI, 32, .inl ys))] s.heap := hP
  have hc0 := (hcs (3 * t0 + 0) (by omega)).2
  have hc1 := (hcs (3 * t0 + 1) (by omega)).2
  have hc2 := (hcs (3 * t0 + 2) (by omega)).2
  refine lv_aload_n hx hb dX7_tickArea_0 rfl (lv_at hl 0 rfl) ?_
  refine lv_iload_n hx hb dX7_tickArea_1 rfl (lv_at hl 1 rfl) ?_
  refine lv_iconst (v := nI 0) hx hb dX7_tickArea_2 (by decide) ?_
  refine k_X7_corner (Wd := 0) th tc mk mx my t0 0 tn cs mn xs ys hmn htn hcs ht0 (by omega) ⟨hx, hb, hml, hown, hta⟩ mw392 ⟨Nat.le_of_ble_eq_true rfl, Nat.le_of_ble_eq_true rfl⟩ hK hP hD [0, 1, 2, 3, 4] rfl rfl hl.1 (Nat.le_of_ble_eq_true rfl) dX7_tickArea_3 ⟨Nat.le_of_ble_eq_true rfl, Nat.le_of_ble_eq_true rfl⟩ ?_
  refine lv_istore (lv' := [(4, .int (nI (cn cs (3 * t0 + 0)))), (0, .ref th), (1, .int (nI t0)), (2, .int k0), (3, .int n0)]) hx hb dX7_tickArea_6 hl (by decide) rfl (fun ls hl => ?_)
  refine lv_aload_n hx hb dX7_tickArea_8 rfl (lv_at hl 1 rfl) ?_
  refine lv_iload_n hx hb dX7_tickArea_9 rfl (lv_at hl 2 rfl) ?_
  refine lv_iconst (v := nI 1) hx hb dX7_tickArea_10 (by decide) ?_
  refine k_X7_corner (Wd := 0) th tc mk mx my t0 1 tn cs mn xs ys hmn htn hcs ht0 (by omega) ⟨hx, hb, hml, hown, hta⟩ mw392 ⟨Nat.le_of_ble_eq_true rfl, Nat.le_of_ble_eq_true rfl⟩ hK hP hD [0, 1, 2, 3, 4] rfl rfl hl.1 (Nat.le_of_ble_eq_true rfl) dX7_tickArea_11 ⟨Nat.le_of_ble_eq_true rfl, Nat.le_of_ble_eq_true rfl⟩ ?_
  refine lv_istore (lv' := [(5, .int (nI (cn cs (3 * t0 + 1)))), (4, .int (nI (cn cs (3 * t0 + 0)))), (0, .ref th), (1, .int (nI t0)), (2, .int k0), (3, .int n0)]) hx hb dX7_tickArea_14 hl (by decide) rfl (fun ls hl => ?_)
  refine lv_aload_n hx hb dX7_tickArea_16 rfl (lv_at hl 2 rfl) ?_
  refine lv_iload_n hx hb dX7_tickArea_17 rfl (lv_at hl 3 rfl) ?_
  refine lv_iconst (v := nI 2) hx hb dX7_tickArea_18 (by decide) ?_
  refine k_X7_corner (Wd := 0) th tc mk mx my t0 2 tn cs mn xs ys hmn htn hcs ht0 (by omega) ⟨hx, hb, hml, hown, hta⟩ mw392 ⟨Nat.le_of_ble_eq_true rfl, Nat.le_of_ble_eq_true rfl⟩ hK hP hD [0, 1, 2, 3, 4] rfl rfl hl.1 (Nat.le_of_ble_eq_true rfl) dX7_tickArea_19 ⟨Nat.le_of_ble_eq_true rfl, Nat.le_of_ble_eq_true rfl⟩ ?_
  refine lv_istore (lv' := [(6, .int (nI (cn cs (3 * t0 + 2)))), (5, .int (nI (cn cs (3 * t0 + 1)))), (4, .int (nI (cn cs (3 * t0 + 0)))), (0, .ref th), (1, .int (nI t0)), (2, .int k0), (3, .int n0)]) hx hb dX7_tickArea_22 hl (by decide) rfl (fun ls hl => ?_)
  refine lv_aload_n hx hb dX7_tickArea_24 rfl (lv_at hl 3 rfl) ?_
  refine getX hx hb hta inA7 hown hK hP 0 rfl rfl 0 (by decide) mw99 rfl rfl dX7_tickArea_25 ?_
  refine lv_iload hx hb dX7_tickArea_28 (lv_at hl 2 rfl) ?_
  refine lv_iload_n hx hb dX7_tickArea_30 rfl (lv_at hl 5 rfl) ?_
  refine lv_iload_n hx hb dX7_tickArea_31 rfl (lv_at hl 6 rfl) ?_
  refine k_X3_tickX (Wd := 0) mk mx my (cn cs (3 * t0 + 0)) k0 n0 mn xs ys (by omega) ⟨hx, hb, hml, hown, hta⟩ mw439 ⟨Nat.le_of_ble_eq_true rfl, Nat.le_of_ble_eq_true rfl⟩ hK hP hD [2, 3, 4] rfl rfl hl.1 (Nat.le_of_ble_eq_true rfl) dX7_tickArea_32 ⟨Nat.le_of_ble_eq_true rfl, Nat.le_of_ble_eq_true rfl⟩ ?_
  refine lv_i2l hx hb dX7_tickArea_35 rfl ?_
  refine lv_aload_n hx hb dX7_tickArea_36 rfl (lv_at hl 3 rfl) ?_
  refine getX hx hb hta inA7 hown hK hP 0 rfl rfl 0 (by decide) mw99 rfl rfl dX7_tickArea_37 ?_
  refine lv_iload hx hb dX7_tickArea_40 (lv_at hl 2 rfl) ?_
  refine lv_iload_n hx hb dX7_tickArea_42 rfl (lv_at hl 5 rfl) ?_
  refine lv_iload_n hx hb dX7_tickArea_43 rfl (lv_at hl 6 rfl) ?_
  refine k_X3_tickY (Wd := 2) mk mx my (cn cs (3 * t0 + 0)) k0 n0 mn xs ys (by omega) ⟨hx, hb, hml, hown, hta⟩ mw440 ⟨Nat.le_of_ble_eq_true rfl, Nat.le_of_ble_eq_true rfl⟩ hK hP hD [2, 3, 4] rfl rfl hl.1 (Nat.le_of_ble_eq_true rfl) dX7_tickArea_44 ⟨Nat.le_of_ble_eq_true rfl, Nat.le_of_ble_eq_true rfl⟩ ?_
  refine lv_i2l hx hb dX7_tickArea_47 rfl ?_
  refine lv_aload_n hx hb dX7_tickArea_48 rfl (lv_at hl 3 rfl) ?_
  refine getX hx hb hta inA7 hown hK hP 0 rfl rfl 0 (by decide) mw99 rfl rfl dX7_tickArea_49 ?_
  refine lv_iload hx hb dX7_tickArea_52 (lv_at hl 1 rfl) ?_
  refine lv_iload_n hx hb dX7_tickArea_54 rfl (lv_at hl 5 rfl) ?_
  refine lv_iload_n hx hb dX7_tickArea_55 rfl (lv_at hl 6 rfl) ?_
  refine k_X3_tickX (Wd := 4) mk mx my (cn cs (3 * t0 + 1)) k0 n0 mn xs ys (by omega) ⟨hx, hb, hml, hown, hta⟩ mw439 ⟨Nat.le_of_ble_eq_true rfl, Nat.le_of_ble_eq_true rfl⟩ hK hP hD [2, 3, 4] rfl rfl hl.1 (Nat.le_of_ble_eq_true rfl) dX7_tickArea_56 ⟨Nat.le_of_ble_eq_true rfl, Nat.le_of_ble_eq_true rfl⟩ ?_
  refine lv_i2l hx hb dX7_tickArea_59 rfl ?_
  refine lv_aload_n hx hb dX7_tickArea_60 rfl (lv_at hl 3 rfl) ?_
  refine getX hx hb hta inA7 hown hK hP 0 rfl rfl 0 (by decide) mw99 rfl rfl dX7_tickArea_61 ?_
  refine lv_iload hx hb dX7_tickArea_64 (lv_at hl 1 rfl) ?_
  refine lv_iload_n hx hb dX7_tickArea_66 rfl (lv_at hl 5 rfl) ?_
  refine lv_iload_n hx hb dX7_tickArea_67 rfl (lv_at hl 6 rfl) ?_
  refine k_X3_tickY (Wd := 6) mk mx my (cn cs (3 * t0 + 1)) k0 n0 mn xs ys (by omega) ⟨hx, hb, hml, hown, hta⟩ mw440 ⟨Nat.le_of_ble_eq_true rfl, Nat.le_of_ble_eq_true rfl⟩ hK hP hD [2, 3, 4] rfl rfl hl.1 (Nat.le_of_ble_eq_true rfl) dX7_tickArea_68 ⟨Nat.le_of_ble_eq_true rfl, Nat.le_of_ble_eq_true rfl⟩ ?_
  refine lv_i2l hx hb dX7_tickArea_71 rfl ?_
  refine lv_aload_n hx hb dX7_tickArea_72 rfl (lv_at hl 3 rfl) ?_
  refine getX hx hb hta inA7 hown hK hP 0 rfl rfl 0 (by decide) mw99 rfl rfl dX7_tickArea_73 ?_
  refine lv_iload hx hb dX7_tickArea_76 (lv_at hl 0 rfl) ?_
  refine lv_iload_n hx hb dX7_tickArea_78 rfl (lv_at hl 5 rfl) ?_
  refine lv_iload_n hx hb dX7_tickArea_79 rfl (lv_at hl 6 rfl) ?_
  refine k_X3_tickX (Wd := 8) mk mx my (cn cs (3 * t0 + 2)) k0 n0 mn xs ys (by omega) ⟨hx, hb, hml, hown, hta⟩ mw439 ⟨Nat.le_of_ble_eq_true rfl, Nat.le_of_ble_eq_true rfl⟩ hK hP hD [2, 3, 4] rfl rfl hl.1 (Nat.le_of_ble_eq_true rfl) dX7_tickArea_80 ⟨Nat.le_of_ble_eq_true rfl, Nat.le_of_ble_eq_true rfl⟩ ?_
  refine lv_i2l hx hb dX7_tickArea_83 rfl ?_
  refine lv_aload_n hx hb dX7_tickArea_84 rfl (lv_at hl 3 rfl) ?_
  refine getX hx hb hta inA7 hown hK hP 0 rfl rfl 0 (by decide) mw99 rfl rfl dX7_tickArea_85 ?_
  refine lv_iload hx hb dX7_tickArea_88 (lv_at hl 0 rfl) ?_
  refine lv_iload_n hx hb dX7_tickArea_90 rfl (lv_at hl 5 rfl) ?_
  refine lv_iload_n hx hb dX7_tickArea_91 rfl (lv_at hl 6 rfl) ?_
  refine k_X3_tickY (Wd := 10) mk mx my (cn cs (3 * t0 + 2)) k0 n0 mn xs ys (by omega) ⟨hx, hb, hml, hown, hta⟩ mw440 ⟨Nat.le_of_ble_eq_true rfl, Nat.le_of_ble_eq_true rfl⟩ hK hP hD [2, 3, 4] rfl rfl hl.1 (Nat.le_of_ble_eq_true rfl) dX7_tickArea_92 ⟨Nat.le_of_ble_eq_true rfl, Nat.le_of_ble_eq_true rfl⟩ ?_
  refine lv_i2l hx hb dX7_tickArea_95 rfl ?_
  refine k_X3_area (Wd := 0) ((tk xs (cn cs (3 * t0 + 0)) k0 n0).toInt64) ((tk ys (cn cs (3 * t0 + 0)) k0 n0).toInt64) ((tk xs (cn cs (3 * t0 + 1)) k0 n0).toInt64) ((tk ys (cn cs (3 * t0 + 1)) k0 n0).toInt64) ((tk xs (cn cs (3 * t0 + 2)) k0 n0).toInt64) ((tk ys (cn cs (3 * t0 + 2)) k0 n0).toInt64)  ⟨hx, hb, hml, hown, hta⟩ mw420 ⟨Nat.le_of_ble_eq_true rfl, Nat.le_of_ble_eq_true rfl⟩ hK hl.1 (Nat.le_of_ble_eq_true rfl) dX7_tickArea_96 ⟨Nat.le_of_ble_eq_true rfl, Nat.le_of_ble_eq_true rfl⟩ ?_
  exact rRl hx hb hr hlocks dX7_tickArea_99 rfl
theorem k_X7_tickArea {p : Program} {l : Launch} {e : Env} {R : Room} {s : State} {m : MethodId} {args : Array Value} {below : List Frame} {meth : Method} {c : Code} {H : Heap} {locs : List Loc} {cells slots : Nat} {Q : State → Prop} {pc : Nat} {ls : Array Slot} {rest : List Value} {cc : ByteArray} {nL index Wd : Nat} {own : String} {D : va_G} {cI : ClassId} {A : Nat → Prop} {ws : va_W} (th : Nat) (tc : Nat) (mk : Nat) (mx : Nat) (my : Nat) (t0 : Nat) (k0 : Int32) (n0 : Int32) (tn : Nat) (cs : Nat → Int32) (mn : Nat) (xs : Nat → Int32) (ys : Nat → Int32) (hmn : mn ≤ 16) (htn : tn ≤ 24) (hcs : CSok cs tn mn) (ht0 : t0 < tn) (S : CallFix p m c cc nL s args WA own) (hl : Cond.methodLink own index yX7_tickArea ∈ WA) (hR : 2 + 1 ≤ R.frames ∧ Wd + (7 + 11) + 41 ≤ R.locals) (hK : KB D cI s) (hP : va_P D vwCl ws H) (hD : va_D A ws) (is : List Nat) (hs : is.map (fun i => ws[i]?) = ([(th, .inr (7, [.ref mk, .int (nI tn), .ref tc])), (tc, .inl (cI, 72, .inl cs)), (mk, .inr (3, [.int (nI mn), .ref mx, .ref my])), (mx, .inl (cI, 32, .inl xs)), (my, .inl (cI, 32, .inl ys))] : va_W).map some) (hnd : va_nd is = true) (hsz : ls.size = nL) (hW : (rest.map fun v => v.category).sum ≤ Wd) (hdg : decode cc pc = .ok (.invokevirtual index, 3)) (hcel : cells ≤ R.cells ∧ slots ≤ R.slots) (kk : W p l e R s m args below meth c H locs cells slots Q (F0 m (pc + 3) ls (.long (tAr cs xs ys t0 k0 n0) :: rest))) : W p l e R s m args below meth c H locs cells slots Q (F0 m pc ls (.int n0 :: .int k0 :: .int (nI t0) :: .ref th :: rest)) :=
  kRV (n := 3) (As := [.int (nI t0), .int k0, .int n0]) (ci := 7) S (c_X7_tickArea l D cI th tc mk mx my t0 k0 n0 tn cs mn xs ys hmn htn hcs ht0) hl mw438 mw436 mw437 mw43 (by decide +kernel) hR rfl rfl rfl rfl hK hP hD is hs hnd hsz hW hdg hcel kk

set_option maxHeartbeats 4000000 in
set_option maxRecDepth 100000 in
theorem c_X7_areaIn (l : Launch) (D : va_G) (cI : ClassId) (th : Nat) (tc : Nat) (mk : Nat) (mx : Nat) (my : Nat) (t0 : Nat) (q0 : Nat) (tn : Nat) (cs : Nat → Int32) (mn : Nat) (xs : Nat → Int32) (ys : Nat → Int32) (hmn : mn ≤ 16) (htn : tn ≤ 24) (hcs : CSok cs tn mn) (ht0 : t0 < tn) (hq0 : q0 < 2) : CR l yX7_areaIn (wm yX7_areaIn cX7_areaIn 6 (some .int)) 1 24 D cI [.ref th, .int (nI t0), .int (nI q0)] [(th, .inr (7, [.ref mk, .int (nI tn), .ref tc])), (tc, .inl (cI, 72, .inl cs)), (mk, .inr (3, [.int (nI mn), .ref mx, .ref my])), (mx, .inl (cI, 32, .inl xs)), (my, .inl (cI, 32, .inl ys))] (some (.int (aIn cs xs ys t0 q0))) := by
  refine CR.of (by decide) (Nat.le_of_ble_eq_true rfl) ?_
  intro p e s m below meth c hx hb hr hml hown hlocks hta hP hD hK ls hl
  have hl : lv_has ls 6 [(0, .ref th), (1, .int (nI t0)), (2, .int (nI q0))] := hl
  have hP : va_P D vwCl [(th, .inr (7, [.ref mk, .int (nI tn), .ref tc])), (tc, .inl (cI, 72, .inl cs)), (mk, .inr (3, [.int (nI mn), .ref mx, .ref my])), (mx, .inl (cI, 32, .inl xs)), (my, .inl (cI, 32, .inl ys))] s.heap := hP
  have hc0 := (hcs (3 * t0 + 0) (by omega)).2
  have hc1 := (hcs (3 * t0 + 1) (by omega)).2
  have hc2 := (hcs (3 * t0 + 2) (by omega)).2
  refine lv_aload_n hx hb dX7_areaIn_0 rfl (lv_at hl 0 rfl) ?_
  refine lv_iload_n hx hb dX7_areaIn_1 rfl (lv_at hl 1 rfl) ?_
  refine lv_iconst (v := nI 0) hx hb dX7_areaIn_2 (by decide) ?_
  refine k_X7_corner (Wd := 0) th tc mk mx my t0 0 tn cs mn xs ys hmn htn hcs ht0 (by omega) ⟨hx, hb, hml, hown, hta⟩ mw392 ⟨Nat.le_of_ble_eq_true rfl, Nat.le_of_ble_eq_true rfl⟩ hK hP hD [0, 1, 2, 3, 4] rfl rfl hl.1 (Nat.le_of_ble_eq_true rfl) dX7_areaIn_3 ⟨Nat.le_of_ble_eq_true rfl, Nat.le_of_ble_eq_true rfl⟩ ?_
  refine lv_istore_n (lv' := [(3, .int (nI (cn cs (3 * t0 + 0)))), (0, .ref th), (1, .int (nI t0)), (2, .int (nI q0))]) hx hb dX7_areaIn_6 rfl hl (by decide) rfl (fun ls hl => ?_)
  refine lv_aload_n hx hb dX7_areaIn_7 rfl (lv_at hl 1 rfl) ?_
  refine lv_iload_n hx hb dX7_areaIn_8 rfl (lv_at hl 2 rfl) ?_
  refine lv_iconst (v := nI 1) hx hb dX7_areaIn_9 (by decide) ?_
  refine k_X7_corner (Wd := 0) th tc mk mx my t0 1 tn cs mn xs ys hmn htn hcs ht0 (by omega) ⟨hx, hb, hml, hown, hta⟩ mw392 ⟨Nat.le_of_ble_eq_true rfl, Nat.le_of_ble_eq_true rfl⟩ hK hP hD [0, 1, 2, 3, 4] rfl rfl hl.1 (Nat.le_of_ble_eq_true rfl) dX7_areaIn_10 ⟨Nat.le_of_ble_eq_true rfl, Nat.le_of_ble_eq_true rfl⟩ ?_
  refine lv_istore (lv' := [(4, .int (nI (cn cs (3 * t0 + 1)))), (3, .int (nI (cn cs (3 * t0 + 0)))), (0, .ref th), (1, .int (nI t0)), (2, .int (nI q0))]) hx hb dX7_areaIn_13 hl (by decide) rfl (fun ls hl => ?_)
  refine lv_aload_n hx hb dX7_areaIn_15 rfl (lv_at hl 2 rfl) ?_
  refine lv_iload_n hx hb dX7_areaIn_16 rfl (lv_at hl 3 rfl) ?_
  refine lv_iconst (v := nI 2) hx hb dX7_areaIn_17 (by decide) ?_
  refine k_X7_corner (Wd := 0) th tc mk mx my t0 2 tn cs mn xs ys hmn htn hcs ht0 (by omega) ⟨hx, hb, hml, hown, hta⟩ mw392 ⟨Nat.le_of_ble_eq_true rfl, Nat.le_of_ble_eq_true rfl⟩ hK hP hD [0, 1, 2, 3, 4] rfl rfl hl.1 (Nat.le_of_ble_eq_true rfl) dX7_areaIn_18 ⟨Nat.le_of_ble_eq_true rfl, Nat.le_of_ble_eq_true rfl⟩ ?_
  refine lv_istore (lv' := [(5, .int (nI (cn cs (3 * t0 + 2)))), (4, .int (nI (cn cs (3 * t0 + 1)))), (3, .int (nI (cn cs (3 * t0 + 0)))), (0, .ref th), (1, .int (nI t0)), (2, .int (nI q0))]) hx hb dX7_areaIn_21 hl (by decide) rfl (fun ls hl => ?_)
  refine lv_aload_n hx hb dX7_areaIn_23 rfl (lv_at hl 3 rfl) ?_
  refine getX hx hb hta inA7 hown hK hP 0 rfl rfl 0 (by decide) mw99 rfl rfl dX7_areaIn_24 ?_
  refine lv_iload_n hx hb dX7_areaIn_27 rfl (lv_at hl 2 rfl) ?_
  refine lv_iload_n hx hb dX7_areaIn_28 rfl (lv_at hl 5 rfl) ?_
  refine k_X3_x (Wd := 0) mk mx my (cn cs (3 * t0 + 0)) q0 mn xs ys (by omega) hq0 ⟨hx, hb, hml, hown, hta⟩ mw418 ⟨Nat.le_of_ble_eq_true rfl, Nat.le_of_ble_eq_true rfl⟩ hK hP hD [2, 3, 4] rfl rfl hl.1 (Nat.le_of_ble_eq_true rfl) dX7_areaIn_29 ⟨Nat.le_of_ble_eq_true rfl, Nat.le_of_ble_eq_true rfl⟩ ?_
  refine lv_i2l hx hb dX7_areaIn_32 rfl ?_
  refine lv_aload_n hx hb dX7_areaIn_33 rfl (lv_at hl 3 rfl) ?_
  refine getX hx hb hta inA7 hown hK hP 0 rfl rfl 0 (by decide) mw99 rfl rfl dX7_areaIn_34 ?_
  refine lv_iload_n hx hb dX7_areaIn_37 rfl (lv_at hl 2 rfl) ?_
  refine lv_iload_n hx hb dX7_areaIn_38 rfl (lv_at hl 5 rfl) ?_
  refine k_X3_y (Wd := 2) mk mx my (cn cs (3 * t0 + 0)) q0 mn xs ys (by omega) hq0 ⟨hx, hb, hml, hown, hta⟩ mw419 ⟨Nat.le_of_ble_eq_true rfl, Nat.le_of_ble_eq_true rfl⟩ hK hP hD [2, 3, 4] rfl rfl hl.1 (Nat.le_of_ble_eq_true rfl) dX7_areaIn_39 ⟨Nat.le_of_ble_eq_true rfl, Nat.le_of_ble_eq_true rfl⟩ ?_
  refine lv_i2l hx hb dX7_areaIn_42 rfl ?_
  refine lv_aload_n hx hb dX7_areaIn_43 rfl (lv_at hl 3 rfl) ?_
  refine getX hx hb hta inA7 hown hK hP 0 rfl rfl 0 (by decide) mw99 rfl rfl dX7_areaIn_44 ?_
  refine lv_iload hx hb dX7_areaIn_47 (lv_at hl 1 rfl) ?_
  refine lv_iload_n hx hb dX7_areaIn_49 rfl (lv_at hl 5 rfl) ?_
  refine k_X3_x (Wd := 4) mk mx my (cn cs (3 * t0 + 1)) q0 mn xs ys (by omega) hq0 ⟨hx, hb, hml, hown, hta⟩ mw418 ⟨Nat.le_of_ble_eq_true rfl, Nat.le_of_ble_eq_true rfl⟩ hK hP hD [2, 3, 4] rfl rfl hl.1 (Nat.le_of_ble_eq_true rfl) dX7_areaIn_50 ⟨Nat.le_of_ble_eq_true rfl, Nat.le_of_ble_eq_true rfl⟩ ?_
  refine lv_i2l hx hb dX7_areaIn_53 rfl ?_
  refine lv_aload_n hx hb dX7_areaIn_54 rfl (lv_at hl 3 rfl) ?_
  refine getX hx hb hta inA7 hown hK hP 0 rfl rfl 0 (by decide) mw99 rfl rfl dX7_areaIn_55 ?_
  refine lv_iload hx hb dX7_areaIn_58 (lv_at hl 1 rfl) ?_
  refine lv_iload_n hx hb dX7_areaIn_60 rfl (lv_at hl 5 rfl) ?_
  refine k_X3_y (Wd := 6) mk mx my (cn cs (3 * t0 + 1)) q0 mn xs ys (by omega) hq0 ⟨hx, hb, hml, hown, hta⟩ mw419 ⟨Nat.le_of_ble_eq_true rfl, Nat.le_of_ble_eq_true rfl⟩ hK hP hD [2, 3, 4] rfl rfl hl.1 (Nat.le_of_ble_eq_true rfl) dX7_areaIn_61 ⟨Nat.le_of_ble_eq_true rfl, Nat.le_of_ble_eq_true rfl⟩ ?_
  refine lv_i2l hx hb dX7_areaIn_64 rfl ?_
  refine lv_aload_n hx hb dX7_areaIn_65 rfl (lv_at hl 3 rfl) ?_
  refine getX hx hb hta inA7 hown hK hP 0 rfl rfl 0 (by decide) mw99 rfl rfl dX7_areaIn_66 ?_
  refine lv_iload hx hb dX7_areaIn_69 (lv_at hl 0 rfl) ?_
  refine lv_iload_n hx hb dX7_areaIn_71 rfl (lv_at hl 5 rfl) ?_
  refine k_X3_x (Wd := 8) mk mx my (cn cs (3 * t0 + 2)) q0 mn xs ys (by omega) hq0 ⟨hx, hb, hml, hown, hta⟩ mw418 ⟨Nat.le_of_ble_eq_true rfl, Nat.le_of_ble_eq_true rfl⟩ hK hP hD [2, 3, 4] rfl rfl hl.1 (Nat.le_of_ble_eq_true rfl) dX7_areaIn_72 ⟨Nat.le_of_ble_eq_true rfl, Nat.le_of_ble_eq_true rfl⟩ ?_
  refine lv_i2l hx hb dX7_areaIn_75 rfl ?_
  refine lv_aload_n hx hb dX7_areaIn_76 rfl (lv_at hl 3 rfl) ?_
  refine getX hx hb hta inA7 hown hK hP 0 rfl rfl 0 (by decide) mw99 rfl rfl dX7_areaIn_77 ?_
  refine lv_iload hx hb dX7_areaIn_80 (lv_at hl 0 rfl) ?_
  refine lv_iload_n hx hb dX7_areaIn_82 rfl (lv_at hl 5 rfl) ?_
  refine k_X3_y (Wd := 10) mk mx my (cn cs (3 * t0 + 2)) q0 mn xs ys (by omega) hq0 ⟨hx, hb, hml, hown, hta⟩ mw419 ⟨Nat.le_of_ble_eq_true rfl, Nat.le_of_ble_eq_true rfl⟩ hK hP hD [2, 3, 4] rfl rfl hl.1 (Nat.le_of_ble_eq_true rfl) dX7_areaIn_83 ⟨Nat.le_of_ble_eq_true rfl, Nat.le_of_ble_eq_true rfl⟩ ?_
  refine lv_i2l hx hb dX7_areaIn_86 rfl ?_
  refine k_X3_area (Wd := 0) ((xs (q0 * 16 + (cn cs (3 * t0 + 0)))).toInt64) ((ys (q0 * 16 + (cn cs (3 * t0 + 0)))).toInt64) ((xs (q0 * 16 + (cn cs (3 * t0 + 1)))).toInt64) ((ys (q0 * 16 + (cn cs (3 * t0 + 1)))).toInt64) ((xs (q0 * 16 + (cn cs (3 * t0 + 2)))).toInt64) ((ys (q0 * 16 + (cn cs (3 * t0 + 2)))).toInt64)  ⟨hx, hb, hml, hown, hta⟩ mw420 ⟨Nat.le_of_ble_eq_true rfl, Nat.le_of_ble_eq_true rfl⟩ hK hl.1 (Nat.le_of_ble_eq_true rfl) dX7_areaIn_87 ⟨Nat.le_of_ble_eq_true rfl, Nat.le_of_ble_eq_true rfl⟩ ?_
  refine lv_l2i hx hb dX7_areaIn_90 rfl ?_
  exact rRi hx hb hr hlocks dX7_areaIn_91 rfl
theorem k_X7_areaIn {p : Program} {l : Launch} {e : Env} {R : Room} {s : State} {m : MethodId} {args : Array Value} {below : List Frame} {meth : Method} {c : Code} {H : Heap} {locs : List Loc} {cells slots : Nat} {Q : State → Prop} {pc : Nat} {ls : Array Slot} {rest : List Value} {cc : ByteArray} {nL index Wd : Nat} {own : String} {D : va_G} {cI : ClassId} {A : Nat → Prop} {ws : va_W} (th : Nat) (tc : Nat) (mk : Nat) (mx : Nat) (my : Nat) (t0 : Nat) (q0 : Nat) (tn : Nat) (cs : Nat → Int32) (mn : Nat) (xs : Nat → Int32) (ys : Nat → Int32) (hmn : mn ≤ 16) (htn : tn ≤ 24) (hcs : CSok cs tn mn) (ht0 : t0 < tn) (hq0 : q0 < 2) (S : CallFix p m c cc nL s args WA own) (hl : Cond.methodLink own index yX7_areaIn ∈ WA) (hR : 1 + 1 ≤ R.frames ∧ Wd + (6 + 11) + 24 ≤ R.locals) (hK : KB D cI s) (hP : va_P D vwCl ws H) (hD : va_D A ws) (is : List Nat) (hs : is.map (fun i => ws[i]?) = ([(th, .inr (7, [.ref mk, .int (nI tn), .ref tc])), (tc, .inl (cI, 72, .inl cs)), (mk, .inr (3, [.int (nI mn), .ref mx, .ref my])), (mx, .inl (cI, 32, .inl xs)), (my, .inl (cI, 32, .inl ys))] : va_W).map some) (hnd : va_nd is = true) (hsz : ls.size = nL) (hW : (rest.map fun v => v.category).sum ≤ Wd) (hdg : decode cc pc = .ok (.invokevirtual index, 3)) (hcel : cells ≤ R.cells ∧ slots ≤ R.slots) (kk : W p l e R s m args below meth c H locs cells slots Q (F0 m (pc + 3) ls (.int (aIn cs xs ys t0 q0) :: rest))) : W p l e R s m args below meth c H locs cells slots Q (F0 m pc ls (.int (nI q0) :: .int (nI t0) :: .ref th :: rest)) :=
  kRV (n := 2) (As := [.int (nI t0), .int (nI q0)]) (ci := 7) S (c_X7_areaIn l D cI th tc mk mx my t0 q0 tn cs mn xs ys hmn htn hcs ht0 hq0) hl mw417 mw415 mw416 mw43 (by decide +kernel) hR rfl rfl rfl rfl hK hP hD is hs hnd hsz hW hdg hcel kk

set_option maxHeartbeats 4000000 in
set_option maxRecDepth 100000 in
theorem c_X7_isUpright (l : Launch) (D : va_G) (cI : ClassId) (th : Nat) (tc : Nat) (mk : Nat) (mx : Nat) (my : Nat) (t0 : Nat) (k0 : Int32) (n0 : Int32) (tn : Nat) (cs : Nat → Int32) (mn : Nat) (xs : Nat → Int32) (ys : Nat → Int32) (hmn : mn ≤ 16) (htn : tn ≤ 24) (hcs : CSok cs tn mn) (ht0 : t0 < tn) : CR l yX7_isUpright (wm yX7_isUpright cX7_isUpright 4 (some .boolean)) 3 59 D cI [.ref th, .int (nI t0), .int k0, .int n0] [(th, .inr (7, [.ref mk, .int (nI tn), .ref tc])), (tc, .inl (cI, 72, .inl cs)), (mk, .inr (3, [.int (nI mn), .ref mx, .ref my])), (mx, .inl (cI, 32, .inl xs)), (my, .inl (cI, 32, .inl ys))] (some (.int (bz (upR cs xs ys t0 k0 n0)))) := by
  refine CR.of (by decide) (Nat.le_of_ble_eq_true rfl) ?_
  intro p e s m below meth c hx hb hr hml hown hlocks hta hP hD hK ls hl
  have hl : lv_has ls 4 [(0, .ref th), (1, .int (nI t0)), (2, .int k0), (3, .int n0)] := hl
  have hP : va_P D vwCl [(th, .inr (7, [.ref mk, .int (nI tn), .ref tc])), (tc, .inl (cI, 72, .inl cs)), (mk, .inr (3, [.int (nI mn), .ref mx, .ref my])), (mx, .inl (cI, 32, .inl xs)), (my, .inl (cI, 32, .inl ys))] s.heap := hP
  refine lv_aload_n hx hb dX7_isUpright_0 rfl (lv_at hl 0 rfl) ?_
  refine lv_iload_n hx hb dX7_isUpright_1 rfl (lv_at hl 1 rfl) ?_
  refine lv_iload_n hx hb dX7_isUpright_2 rfl (lv_at hl 2 rfl) ?_
  refine lv_iload_n hx hb dX7_isUpright_3 rfl (lv_at hl 3 rfl) ?_
  refine k_X7_tickArea (Wd := 0) th tc mk mx my t0 k0 n0 tn cs mn xs ys hmn htn hcs ht0 ⟨hx, hb, hml, hown, hta⟩ mw435 ⟨Nat.le_of_ble_eq_true rfl, Nat.le_of_ble_eq_true rfl⟩ hK hP hD [0, 1, 2, 3, 4] rfl rfl hl.1 (Nat.le_of_ble_eq_true rfl) dX7_isUpright_4 ⟨Nat.le_of_ble_eq_true rfl, Nat.le_of_ble_eq_true rfl⟩ ?_
  refine lv_lconst (v := 0) hx hb dX7_isUpright_7 (by decide) ?_
  refine W.lcmp hx hb dX7_isUpright_8 ?_
  refine ifL_le (tgt := 16) hx hb dX7_isUpright_9 (by decide) (fun c_9 => ?_) (fun c_9 => ?_)
  · refine lv_iconst (v := nI 0) hx hb dX7_isUpright_16 (by decide) ?_
    exact rRz hx hb hr hlocks dX7_isUpright_17 (by first | (simp only [upR, eq_false c_9, decide_true, decide_false, Bool.true_or, Bool.or_true, Bool.false_or, Bool.or_false, Bool.true_and, Bool.and_true, Bool.false_and, Bool.and_false, Bool.not_true, Bool.not_false, if_true, if_false, Bool.false_eq_true, and_true, true_and, and_false, false_and, or_true, true_or, or_false, false_or, not_true_eq_false, not_false_eq_true, bz]; done) | (simp only [upR, eq_false c_9, decide_true, decide_false, Bool.true_or, Bool.or_true, Bool.false_or, Bool.or_false, Bool.true_and, Bool.and_true, Bool.false_and, Bool.and_false, Bool.not_true, Bool.not_false, if_true, if_false, Bool.false_eq_true, and_true, true_and, and_false, false_and, or_true, true_or, or_false, false_or, not_true_eq_false, not_false_eq_true, bz]; rfl))
  · refine lv_iconst (v := nI 1) hx hb dX7_isUpright_12 (by decide) ?_
    refine lv_goto (tgt := 17) hx hb dX7_isUpright_13 (by decide) ?_
    exact rRz hx hb hr hlocks dX7_isUpright_17 (by first | (simp only [upR, eq_true c_9, decide_true, decide_false, Bool.true_or, Bool.or_true, Bool.false_or, Bool.or_false, Bool.true_and, Bool.and_true, Bool.false_and, Bool.and_false, Bool.not_true, Bool.not_false, if_true, if_false, Bool.false_eq_true, and_true, true_and, and_false, false_and, or_true, true_or, or_false, false_or, not_true_eq_false, not_false_eq_true, bz]; done) | (simp only [upR, eq_true c_9, decide_true, decide_false, Bool.true_or, Bool.or_true, Bool.false_or, Bool.or_false, Bool.true_and, Bool.and_true, Bool.false_and, Bool.and_false, Bool.not_true, Bool.not_false, if_true, if_false, Bool.false_eq_true, and_true, true_and, and_false, false_and, or_true, true_or, or_false, false_or, not_true_eq_false, not_false_eq_true, bz]; rfl))
theorem k_X7_isUpright {p : Program} {l : Launch} {e : Env} {R : Room} {s : State} {m : MethodId} {args : Array Value} {below : List Frame} {meth : Method} {c : Code} {H : Heap} {locs : List Loc} {cells slots : Nat} {Q : State → Prop} {pc : Nat} {ls : Array Slot} {rest : List Value} {cc : ByteArray} {nL index Wd : Nat} {own : String} {D : va_G} {cI : ClassId} {A : Nat → Prop} {ws : va_W} (th : Nat) (tc : Nat) (mk : Nat) (mx : Nat) (my : Nat) (t0 : Nat) (k0 : Int32) (n0 : Int32) (tn : Nat) (cs : Nat → Int32) (mn : Nat) (xs : Nat → Int32) (ys : Nat → Int32) (hmn : mn ≤ 16) (htn : tn ≤ 24) (hcs : CSok cs tn mn) (ht0 : t0 < tn) (S : CallFix p m c cc nL s args WA own) (hl : Cond.methodLink own index yX7_isUpright ∈ WA) (hR : 3 + 1 ≤ R.frames ∧ Wd + (4 + 11) + 59 ≤ R.locals) (hK : KB D cI s) (hP : va_P D vwCl ws H) (hD : va_D A ws) (is : List Nat) (hs : is.map (fun i => ws[i]?) = ([(th, .inr (7, [.ref mk, .int (nI tn), .ref tc])), (tc, .inl (cI, 72, .inl cs)), (mk, .inr (3, [.int (nI mn), .ref mx, .ref my])), (mx, .inl (cI, 32, .inl xs)), (my, .inl (cI, 32, .inl ys))] : va_W).map some) (hnd : va_nd is = true) (hsz : ls.size = nL) (hW : (rest.map fun v => v.category).sum ≤ Wd) (hdg : decode cc pc = .ok (.invokevirtual index, 3)) (hcel : cells ≤ R.cells ∧ slots ≤ R.slots) (kk : W p l e R s m args below meth c H locs cells slots Q (F0 m (pc + 3) ls (.int (bz (upR cs xs ys t0 k0 n0)) :: rest))) : W p l e R s m args below meth c H locs cells slots Q (F0 m pc ls (.int n0 :: .int k0 :: .int (nI t0) :: .ref th :: rest)) :=
  kRV (n := 3) (As := [.int (nI t0), .int k0, .int n0]) (ci := 7) S (c_X7_isUpright l D cI th tc mk mx my t0 k0 n0 tn cs mn xs ys hmn htn hcs ht0) hl mw434 mw432 mw433 mw43 (by decide +kernel) hR rfl rfl rfl rfl hK hP hD is hs hnd hsz hW hdg hcel kk
