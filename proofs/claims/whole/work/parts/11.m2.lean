/-- the first third that isn't upright at the first tick at which there is one -/
def sdF (f : Nat → Nat → Bool) (mn : Nat) : Nat → Nat → Nat → Nat
  | s, _, 0 => s
  | s, a, r + 1 => sdF f mn (cntF (f a) s (a + 1) (mn - (a + 1))) (a + 1) r
theorem kd_le (cs xs ys : Nat → Int32) (t : Nat) : kd cs xs ys t ≤ 4 := by unfold kd; split <;> split <;> omega
theorem ffO_some {u : Nat → Nat → Bool} {tn k r t : Nat} (h : ffI (u k) 0 tn = some t) : ffO u tn k (r + 1) = nI t := by simp only [ffO, h]
theorem ffO_none {u : Nat → Nat → Bool} {tn k r : Nat} (h : ffI (u k) 0 tn = none) : ffO u tn k (r + 1) = ffO u tn (k + 1) r := by simp only [ffO, h]

set_option maxHeartbeats 4000000 in
set_option maxRecDepth 100000 in
theorem c_X7_areJoined (l : Launch) (D : va_G) (cI : ClassId) (th : Nat) (tc : Nat) (mk : Nat) (mx : Nat) (my : Nat) (a0 : Nat) (b0 : Nat) (c0 : Nat) (tn : Nat) (cs : Nat → Int32) (mn : Nat) (xs : Nat → Int32) (ys : Nat → Int32) (hmn : mn ≤ 16) (htn : tn ≤ 24) (hcs : CSok cs tn mn) (ha0 : a0 < 16) (hb0 : b0 < 16) (hc0 : c0 < 16) : CR l yX7_areJoined (wm yX7_areJoined cX7_areJoined 5 (some .boolean)) 2 28 D cI [.ref th, .int (nI a0), .int (nI b0), .int (nI c0)] [(th, .inr (7, [.ref mk, .int (nI tn), .ref tc])), (tc, .inl (cI, 72, .inl cs)), (mk, .inr (3, [.int (nI mn), .ref mx, .ref my])), (mx, .inl (cI, 32, .inl xs)), (my, .inl (cI, 32, .inl ys))] (some (.int (bz (anyF (fun t => tch cs t a0 && tch cs t b0 && tch cs t c0) 0 tn)))) := by
  refine CR.of (by decide) (Nat.le_of_ble_eq_true rfl) ?_
  intro p e s m below meth c hx hb hr hml hown hlocks hta hP hD hK ls hl
  have hl : lv_has ls 5 [(0, .ref th), (1, .int (nI a0)), (2, .int (nI b0)), (3, .int (nI c0))] := hl
  have hP : va_P D vwCl [(th, .inr (7, [.ref mk, .int (nI tn), .ref tc])), (tc, .inl (cI, 72, .inl cs)), (mk, .inr (3, [.int (nI mn), .ref mx, .ref my])), (mx, .inl (cI, 32, .inl xs)), (my, .inl (cI, 32, .inl ys))] s.heap := hP
  refine lv_iconst (v := nI 0) hx hb dX7_areJoined_0 (by decide) ?_
  refine lv_istore (lv' := [(4, .int (nI 0)), (0, .ref th), (1, .int (nI a0)), (2, .int (nI b0)), (3, .int (nI c0))]) hx hb dX7_areJoined_1 hl (by decide) rfl (fun ls hl => ?_)
  have loop_3 : ∀ (r : Nat) (k : Nat), (k + r = tn) → (anyF (fun t => tch cs t a0 && tch cs t b0 && tch cs t c0) 0 tn = anyF (fun t => tch cs t a0 && tch cs t b0 && tch cs t c0) k r) → ∀ ls : Array Slot, lv_has ls 5 [(4, .int (nI k)), (0, .ref th), (1, .int (nI a0)), (2, .int (nI b0)), (3, .int (nI c0))] → W p l e (rmZ 2 28) s m ([.ref th, .int (nI a0), .int (nI b0), .int (nI c0)] : List Value).toArray below meth c s.heap [] 0 0 (MQ below (QR (some (.int (bz (anyF (fun t => tch cs t a0 && tch cs t b0 && tch cs t c0) 0 tn))))) ([.ref th, .int (nI a0), .int (nI b0), .int (nI c0)] : List Value).toArray s 0 0 (fun _ => False)) (F0 m 3 ls []) := by
    intro r
    induction r with
    | zero =>
      intro k ix_k hA ls hl
      refine lv_iload hx hb dX7_areJoined_3 (lv_at hl 0 rfl) ?_
      refine lv_aload_n hx hb dX7_areJoined_5 rfl (lv_at hl 1 rfl) ?_
      refine getX hx hb hta inA7 hown hK hP 0 rfl rfl 1 (by decide) mw100 rfl rfl dX7_areJoined_6 ?_
      refine icmpN_ge (tgt := 50) hx hb dX7_areJoined_9 (by decide) (by omega) (by omega) (fun c_9 => ?_) (fun c_9 => ?_)
      · refine lv_iconst (v := nI 0) hx hb dX7_areJoined_50 (by decide) ?_
        exact rRz hx hb hr hlocks dX7_areJoined_51 (by first | (simp only [hA, anyF, eq_false c_9, decide_true, decide_false, Bool.true_or, Bool.or_true, Bool.false_or, Bool.or_false, Bool.true_and, Bool.and_true, Bool.false_and, Bool.and_false, Bool.not_true, Bool.not_false, if_true, if_false, Bool.false_eq_true, and_true, true_and, and_false, false_and, or_true, true_or, or_false, false_or, not_true_eq_false, not_false_eq_true, bz]; done) | (simp only [hA, anyF, eq_false c_9, decide_true, decide_false, Bool.true_or, Bool.or_true, Bool.false_or, Bool.or_false, Bool.true_and, Bool.and_true, Bool.false_and, Bool.and_false, Bool.not_true, Bool.not_false, if_true, if_false, Bool.false_eq_true, and_true, true_and, and_false, false_and, or_true, true_or, or_false, false_or, not_true_eq_false, not_false_eq_true, bz]; rfl))
      · exact (by omega : False).elim
    | succ r ih_3 =>
      intro k ix_k hA ls hl
      refine lv_iload hx hb dX7_areJoined_3 (lv_at hl 0 rfl) ?_
      refine lv_aload_n hx hb dX7_areJoined_5 rfl (lv_at hl 1 rfl) ?_
      refine getX hx hb hta inA7 hown hK hP 0 rfl rfl 1 (by decide) mw100 rfl rfl dX7_areJoined_6 ?_
      refine icmpN_ge (tgt := 50) hx hb dX7_areJoined_9 (by decide) (by omega) (by omega) (fun c_9 => ?_) (fun c_9 => ?_)
      · exact (by omega : False).elim
      · refine lv_aload_n hx hb dX7_areJoined_12 rfl (lv_at hl 1 rfl) ?_
        refine lv_iload hx hb dX7_areJoined_13 (lv_at hl 0 rfl) ?_
        refine lv_iload_n hx hb dX7_areJoined_15 rfl (lv_at hl 2 rfl) ?_
        refine k_X7_touches (Wd := 0) th tc mk mx my k a0 tn cs mn xs ys hmn htn hcs (by omega) ha0 ⟨hx, hb, hml, hown, hta⟩ mw388 ⟨Nat.le_of_ble_eq_true rfl, Nat.le_of_ble_eq_true rfl⟩ hK hP hD [0, 1, 2, 3, 4] rfl rfl hl.1 (Nat.le_of_ble_eq_true rfl) dX7_areJoined_16 ⟨Nat.le_of_ble_eq_true rfl, Nat.le_of_ble_eq_true rfl⟩ ?_
        refine ifB_eq (tgt := 44) hx hb dX7_areJoined_19 (by decide) (fun c_19 => ?_) (fun c_19 => ?_)
        · refine lv_iinc (v := nI (k + 1)) (lv' := [(4, .int (nI (k + 1))), (0, .ref th), (1, .int (nI a0)), (2, .int (nI b0)), (3, .int (nI c0))]) hx hb dX7_areJoined_44 hl (k := 0) rfl (nI_inc1 _) (by decide) rfl (fun ls hl => ?_)
          refine lv_goto (tgt := 3) hx hb dX7_areJoined_47 (by decide) ?_
          exact ih_3 (k + 1) (by omega) (hA.trans (by first | (simp only [anyF, eq_true c_9, c_19, decide_true, decide_false, Bool.true_or, Bool.or_true, Bool.false_or, Bool.or_false, Bool.true_and, Bool.and_true, Bool.false_and, Bool.and_false, Bool.not_true, Bool.not_false, if_true, if_false, Bool.false_eq_true, and_true, true_and, and_false, false_and, or_true, true_or, or_false, false_or, not_true_eq_false, not_false_eq_true, bz]; done) | (simp only [anyF, eq_true c_9, c_19, decide_true, decide_false, Bool.true_or, Bool.or_true, Bool.false_or, Bool.or_false, Bool.true_and, Bool.and_true, Bool.false_and, Bool.and_false, Bool.not_true, Bool.not_false, if_true, if_false, Bool.false_eq_true, and_true, true_and, and_false, false_and, or_true, true_or, or_false, false_or, not_true_eq_false, not_false_eq_true, bz]; rfl))) ls (lv_sub hl [0, 1, 2, 3, 4] rfl)
        · refine lv_aload_n hx hb dX7_areJoined_22 rfl (lv_at hl 1 rfl) ?_
          refine lv_iload hx hb dX7_areJoined_23 (lv_at hl 0 rfl) ?_
          refine lv_iload_n hx hb dX7_areJoined_25 rfl (lv_at hl 3 rfl) ?_
          refine k_X7_touches (Wd := 0) th tc mk mx my k b0 tn cs mn xs ys hmn htn hcs (by omega) hb0 ⟨hx, hb, hml, hown, hta⟩ mw388 ⟨Nat.le_of_ble_eq_true rfl, Nat.le_of_ble_eq_true rfl⟩ hK hP hD [0, 1, 2, 3, 4] rfl rfl hl.1 (Nat.le_of_ble_eq_true rfl) dX7_areJoined_26 ⟨Nat.le_of_ble_eq_true rfl, Nat.le_of_ble_eq_true rfl⟩ ?_
          refine ifB_eq (tgt := 44) hx hb dX7_areJoined_29 (by decide) (fun c_29 => ?_) (fun c_29 => ?_)
          · refine lv_iinc (v := nI (k + 1)) (lv' := [(4, .int (nI (k + 1))), (0, .ref th), (1, .int (nI a0)), (2, .int (nI b0)), (3, .int (nI c0))]) hx hb dX7_areJoined_44 hl (k := 0) rfl (nI_inc1 _) (by decide) rfl (fun ls hl => ?_)
            refine lv_goto (tgt := 3) hx hb dX7_areJoined_47 (by decide) ?_
            exact ih_3 (k + 1) (by omega) (hA.trans (by first | (simp only [anyF, eq_true c_9, c_19, c_29, decide_true, decide_false, Bool.true_or, Bool.or_true, Bool.false_or, Bool.or_false, Bool.true_and, Bool.and_true, Bool.false_and, Bool.and_false, Bool.not_true, Bool.not_false, if_true, if_false, Bool.false_eq_true, and_true, true_and, and_false, false_and, or_true, true_or, or_false, false_or, not_true_eq_false, not_false_eq_true, bz]; done) | (simp only [anyF, eq_true c_9, c_19, c_29, decide_true, decide_false, Bool.true_or, Bool.or_true, Bool.false_or, Bool.or_false, Bool.true_and, Bool.and_true, Bool.false_and, Bool.and_false, Bool.not_true, Bool.not_false, if_true, if_false, Bool.false_eq_true, and_true, true_and, and_false, false_and, or_true, true_or, or_false, false_or, not_true_eq_false, not_false_eq_true, bz]; rfl))) ls (lv_sub hl [0, 1, 2, 3, 4] rfl)
          · refine lv_aload_n hx hb dX7_areJoined_32 rfl (lv_at hl 1 rfl) ?_
            refine lv_iload hx hb dX7_areJoined_33 (lv_at hl 0 rfl) ?_
            refine lv_iload_n hx hb dX7_areJoined_35 rfl (lv_at hl 4 rfl) ?_
            refine k_X7_touches (Wd := 0) th tc mk mx my k c0 tn cs mn xs ys hmn htn hcs (by omega) hc0 ⟨hx, hb, hml, hown, hta⟩ mw388 ⟨Nat.le_of_ble_eq_true rfl, Nat.le_of_ble_eq_true rfl⟩ hK hP hD [0, 1, 2, 3, 4] rfl rfl hl.1 (Nat.le_of_ble_eq_true rfl) dX7_areJoined_36 ⟨Nat.le_of_ble_eq_true rfl, Nat.le_of_ble_eq_true rfl⟩ ?_
            refine ifB_eq (tgt := 44) hx hb dX7_areJoined_39 (by decide) (fun c_39 => ?_) (fun c_39 => ?_)
            · refine lv_iinc (v := nI (k + 1)) (lv' := [(4, .int (nI (k + 1))), (0, .ref th), (1, .int (nI a0)), (2, .int (nI b0)), (3, .int (nI c0))]) hx hb dX7_areJoined_44 hl (k := 0) rfl (nI_inc1 _) (by decide) rfl (fun ls hl => ?_)
              refine lv_goto (tgt := 3) hx hb dX7_areJoined_47 (by decide) ?_
              exact ih_3 (k + 1) (by omega) (hA.trans (by first | (simp only [anyF, eq_true c_9, c_19, c_29, c_39, decide_true, decide_false, Bool.true_or, Bool.or_true, Bool.false_or, Bool.or_false, Bool.true_and, Bool.and_true, Bool.false_and, Bool.and_false, Bool.not_true, Bool.not_false, if_true, if_false, Bool.false_eq_true, and_true, true_and, and_false, false_and, or_true, true_or, or_false, false_or, not_true_eq_false, not_false_eq_true, bz]; done) | (simp only [anyF, eq_true c_9, c_19, c_29, c_39, decide_true, decide_false, Bool.true_or, Bool.or_true, Bool.false_or, Bool.or_false, Bool.true_and, Bool.and_true, Bool.false_and, Bool.and_false, Bool.not_true, Bool.not_false, if_true, if_false, Bool.false_eq_true, and_true, true_and, and_false, false_and, or_true, true_or, or_false, false_or, not_true_eq_false, not_false_eq_true, bz]; rfl))) ls (lv_sub hl [0, 1, 2, 3, 4] rfl)
            · refine lv_iconst (v := nI 1) hx hb dX7_areJoined_42 (by decide) ?_
              exact rRz hx hb hr hlocks dX7_areJoined_43 (by first | (simp only [hA, anyF, eq_true c_9, c_19, c_29, c_39, decide_true, decide_false, Bool.true_or, Bool.or_true, Bool.false_or, Bool.or_false, Bool.true_and, Bool.and_true, Bool.false_and, Bool.and_false, Bool.not_true, Bool.not_false, if_true, if_false, Bool.false_eq_true, and_true, true_and, and_false, false_and, or_true, true_or, or_false, false_or, not_true_eq_false, not_false_eq_true, bz]; done) | (simp only [hA, anyF, eq_true c_9, c_19, c_29, c_39, decide_true, decide_false, Bool.true_or, Bool.or_true, Bool.false_or, Bool.or_false, Bool.true_and, Bool.and_true, Bool.false_and, Bool.and_false, Bool.not_true, Bool.not_false, if_true, if_false, Bool.false_eq_true, and_true, true_and, and_false, false_and, or_true, true_or, or_false, false_or, not_true_eq_false, not_false_eq_true, bz]; rfl))
  exact loop_3 tn 0 (by omega) rfl ls (lv_sub hl [0, 1, 2, 3, 4] rfl)
theorem k_X7_areJoined {p : Program} {l : Launch} {e : Env} {R : Room} {s : State} {m : MethodId} {args : Array Value} {below : List Frame} {meth : Method} {c : Code} {H : Heap} {locs : List Loc} {cells slots : Nat} {Q : State → Prop} {pc : Nat} {ls : Array Slot} {rest : List Value} {cc : ByteArray} {nL index Wd : Nat} {own : String} {D : va_G} {cI : ClassId} {A : Nat → Prop} {ws : va_W} (th : Nat) (tc : Nat) (mk : Nat) (mx : Nat) (my : Nat) (a0 : Nat) (b0 : Nat) (c0 : Nat) (tn : Nat) (cs : Nat → Int32) (mn : Nat) (xs : Nat → Int32) (ys : Nat → Int32) (hmn : mn ≤ 16) (htn : tn ≤ 24) (hcs : CSok cs tn mn) (ha0 : a0 < 16) (hb0 : b0 < 16) (hc0 : c0 < 16) (S : CallFix p m c cc nL s args WA own) (hl : Cond.methodLink own index yX7_areJoined ∈ WA) (hR : 2 + 1 ≤ R.frames ∧ Wd + (5 + 11) + 28 ≤ R.locals) (hK : KB D cI s) (hP : va_P D vwCl ws H) (hD : va_D A ws) (is : List Nat) (hs : is.map (fun i => ws[i]?) = ([(th, .inr (7, [.ref mk, .int (nI tn), .ref tc])), (tc, .inl (cI, 72, .inl cs)), (mk, .inr (3, [.int (nI mn), .ref mx, .ref my])), (mx, .inl (cI, 32, .inl xs)), (my, .inl (cI, 32, .inl ys))] : va_W).map some) (hnd : va_nd is = true) (hsz : ls.size = nL) (hW : (rest.map fun v => v.category).sum ≤ Wd) (hdg : decode cc pc = .ok (.invokevirtual index, 3)) (hcel : cells ≤ R.cells ∧ slots ≤ R.slots) (kk : W p l e R s m args below meth c H locs cells slots Q (F0 m (pc + 3) ls (.int (bz (anyF (fun t => tch cs t a0 && tch cs t b0 && tch cs t c0) 0 tn)) :: rest))) : W p l e R s m args below meth c H locs cells slots Q (F0 m pc ls (.int (nI c0) :: .int (nI b0) :: .int (nI a0) :: .ref th :: rest)) :=
  kRV (n := 3) (As := [.int (nI a0), .int (nI b0), .int (nI c0)]) (ci := 7) S (c_X7_areJoined l D cI th tc mk mx my a0 b0 c0 tn cs mn xs ys hmn htn hcs ha0 hb0 hc0) hl mw387 mw385 mw386 mw43 (by decide +kernel) hR rfl rfl rfl rfl hK hP hD is hs hnd hsz hW hdg hcel kk

set_option maxHeartbeats 4000000 in
set_option maxRecDepth 100000 in
theorem c_X7_foldTick (l : Launch) (D : va_G) (cI : ClassId) (th : Nat) (tc : Nat) (mk : Nat) (mx : Nat) (my : Nat) (t0 : Nat) (n0 : Nat) (tn : Nat) (cs : Nat → Int32) (mn : Nat) (xs : Nat → Int32) (ys : Nat → Int32) (hmn : mn ≤ 16) (htn : tn ≤ 24) (hcs : CSok cs tn mn) (ht0 : t0 < tn) (hn0 : n0 ≤ 100) : CR l yX7_foldTick (wm yX7_foldTick cX7_foldTick 4 (some .int)) 4 74 D cI [.ref th, .int (nI t0), .int (nI n0)] [(th, .inr (7, [.ref mk, .int (nI tn), .ref tc])), (tc, .inl (cI, 72, .inl cs)), (mk, .inr (3, [.int (nI mn), .ref mx, .ref my])), (mx, .inl (cI, 32, .inl xs)), (my, .inl (cI, 32, .inl ys))] (some (.int (fTk (fun k => upR cs xs ys t0 (nI k) (nI n0)) 0 (n0 + 1)))) := by
  refine CR.of (by decide) (Nat.le_of_ble_eq_true rfl) ?_
  intro p e s m below meth c hx hb hr hml hown hlocks hta hP hD hK ls hl
  have hl : lv_has ls 4 [(0, .ref th), (1, .int (nI t0)), (2, .int (nI n0))] := hl
  have hP : va_P D vwCl [(th, .inr (7, [.ref mk, .int (nI tn), .ref tc])), (tc, .inl (cI, 72, .inl cs)), (mk, .inr (3, [.int (nI mn), .ref mx, .ref my])), (mx, .inl (cI, 32, .inl xs)), (my, .inl (cI, 32, .inl ys))] s.heap := hP
  refine lv_iconst (v := nI 0) hx hb dX7_foldTick_0 (by decide) ?_
  refine lv_istore_n (lv' := [(3, .int (nI 0)), (0, .ref th), (1, .int (nI t0)), (2, .int (nI n0))]) hx hb dX7_foldTick_1 rfl hl (by decide) rfl (fun ls hl => ?_)
  have loop_2 : ∀ (r : Nat) (k : Nat), (k + r = n0 + 1) → (fTk (fun k => upR cs xs ys t0 (nI k) (nI n0)) 0 (n0 + 1) = fTk (fun k => upR cs xs ys t0 (nI k) (nI n0)) k r) → ∀ ls : Array Slot, lv_has ls 4 [(3, .int (nI k)), (0, .ref th), (1, .int (nI t0)), (2, .int (nI n0))] → W p l e (rmZ 4 74) s m ([.ref th, .int (nI t0), .int (nI n0)] : List Value).toArray below meth c s.heap [] 0 0 (MQ below (QR (some (.int (fTk (fun k => upR cs xs ys t0 (nI k) (nI n0)) 0 (n0 + 1))))) ([.ref th, .int (nI t0), .int (nI n0)] : List Value).toArray s 0 0 (fun _ => False)) (F0 m 2 ls []) := by
    intro r
    induction r with
    | zero =>
      intro k ix_k hA ls hl
      refine lv_iload_n hx hb dX7_foldTick_2 rfl (lv_at hl 0 rfl) ?_
      refine lv_iload_n hx hb dX7_foldTick_3 rfl (lv_at hl 3 rfl) ?_
      refine icmpN_gt (tgt := 25) hx hb dX7_foldTick_4 (by decide) (by omega) (by omega) (fun c_4 => ?_) (fun c_4 => ?_)
      · refine lv_ldc hx hb hown (hta _ mw441) dX7_foldTick_25 ?_
        exact rRi hx hb hr hlocks dX7_foldTick_27 ((hA.trans (by first | (simp only [fTk, eq_true c_4, decide_true, decide_false, Bool.true_or, Bool.or_true, Bool.false_or, Bool.or_false, Bool.true_and, Bool.and_true, Bool.false_and, Bool.and_false, Bool.not_true, Bool.not_false, if_true, if_false, Bool.false_eq_true, and_true, true_and, and_false, false_and, or_true, true_or, or_false, false_or, not_true_eq_false, not_false_eq_true, bz]; done) | (simp only [fTk, eq_true c_4, decide_true, decide_false, Bool.true_or, Bool.or_true, Bool.false_or, Bool.or_false, Bool.true_and, Bool.and_true, Bool.false_and, Bool.and_false, Bool.not_true, Bool.not_false, if_true, if_false, Bool.false_eq_true, and_true, true_and, and_false, false_and, or_true, true_or, or_false, false_or, not_true_eq_false, not_false_eq_true, bz]; rfl))).symm)
      · exact (by omega : False).elim
    | succ r ih_2 =>
      intro k ix_k hA ls hl
      refine lv_iload_n hx hb dX7_foldTick_2 rfl (lv_at hl 0 rfl) ?_
      refine lv_iload_n hx hb dX7_foldTick_3 rfl (lv_at hl 3 rfl) ?_
      refine icmpN_gt (tgt := 25) hx hb dX7_foldTick_4 (by decide) (by omega) (by omega) (fun c_4 => ?_) (fun c_4 => ?_)
      · exact (by omega : False).elim
      · refine lv_aload_n hx hb dX7_foldTick_7 rfl (lv_at hl 1 rfl) ?_
        refine lv_iload_n hx hb dX7_foldTick_8 rfl (lv_at hl 2 rfl) ?_
        refine lv_iload_n hx hb dX7_foldTick_9 rfl (lv_at hl 0 rfl) ?_
        refine lv_iload_n hx hb dX7_foldTick_10 rfl (lv_at hl 3 rfl) ?_
        refine k_X7_isUpright (Wd := 0) th tc mk mx my t0 (nI k) (nI n0) tn cs mn xs ys hmn htn hcs ht0 ⟨hx, hb, hml, hown, hta⟩ mw431 ⟨Nat.le_of_ble_eq_true rfl, Nat.le_of_ble_eq_true rfl⟩ hK hP hD [0, 1, 2, 3, 4] rfl rfl hl.1 (Nat.le_of_ble_eq_true rfl) dX7_foldTick_11 ⟨Nat.le_of_ble_eq_true rfl, Nat.le_of_ble_eq_true rfl⟩ ?_
        refine ifB_ne (tgt := 19) hx hb dX7_foldTick_14 (by decide) (fun c_14 => ?_) (fun c_14 => ?_)
        · refine lv_iinc (v := nI (k + 1)) (lv' := [(3, .int (nI (k + 1))), (0, .ref th), (1, .int (nI t0)), (2, .int (nI n0))]) hx hb dX7_foldTick_19 hl (k := 0) rfl (nI_inc1 _) (by decide) rfl (fun ls hl => ?_)
          refine lv_goto (tgt := 2) hx hb dX7_foldTick_22 (by decide) ?_
          exact ih_2 (k + 1) (by omega) (hA.trans (by first | (simp only [fTk, eq_false c_4, c_14, decide_true, decide_false, Bool.true_or, Bool.or_true, Bool.false_or, Bool.or_false, Bool.true_and, Bool.and_true, Bool.false_and, Bool.and_false, Bool.not_true, Bool.not_false, if_true, if_false, Bool.false_eq_true, and_true, true_and, and_false, false_and, or_true, true_or, or_false, false_or, not_true_eq_false, not_false_eq_true, bz]; done) | (simp only [fTk, eq_false c_4, c_14, decide_true, decide_false, Bool.true_or, Bool.or_true, Bool.false_or, Bool.or_false, Bool.true_and, Bool.and_true, Bool.false_and, Bool.and_false, Bool.not_true, Bool.not_false, if_true, if_false, Bool.false_eq_true, and_true, true_and, and_false, false_and, or_true, true_or, or_false, false_or, not_true_eq_false, not_false_eq_true, bz]; rfl))) ls (lv_sub hl [0, 1, 2, 3] rfl)
        · refine lv_iload_n hx hb dX7_foldTick_17 rfl (lv_at hl 0 rfl) ?_
          exact rRi hx hb hr hlocks dX7_foldTick_18 ((hA.trans (by first | (simp only [fTk, eq_false c_4, c_14, decide_true, decide_false, Bool.true_or, Bool.or_true, Bool.false_or, Bool.or_false, Bool.true_and, Bool.and_true, Bool.false_and, Bool.and_false, Bool.not_true, Bool.not_false, if_true, if_false, Bool.false_eq_true, and_true, true_and, and_false, false_and, or_true, true_or, or_false, false_or, not_true_eq_false, not_false_eq_true, bz]; done) | (simp only [fTk, eq_false c_4, c_14, decide_true, decide_false, Bool.true_or, Bool.or_true, Bool.false_or, Bool.or_false, Bool.true_and, Bool.and_true, Bool.false_and, Bool.and_false, Bool.not_true, Bool.not_false, if_true, if_false, Bool.false_eq_true, and_true, true_and, and_false, false_and, or_true, true_or, or_false, false_or, not_true_eq_false, not_false_eq_true, bz]; rfl))).symm)
  exact loop_2 (n0 + 1) 0 (by omega) rfl ls (lv_sub hl [0, 1, 2, 3] rfl)
theorem k_X7_foldTick {p : Program} {l : Launch} {e : Env} {R : Room} {s : State} {m : MethodId} {args : Array Value} {below : List Frame} {meth : Method} {c : Code} {H : Heap} {locs : List Loc} {cells slots : Nat} {Q : State → Prop} {pc : Nat} {ls : Array Slot} {rest : List Value} {cc : ByteArray} {nL index Wd : Nat} {own : String} {D : va_G} {cI : ClassId} {A : Nat → Prop} {ws : va_W} (th : Nat) (tc : Nat) (mk : Nat) (mx : Nat) (my : Nat) (t0 : Nat) (n0 : Nat) (tn : Nat) (cs : Nat → Int32) (mn : Nat) (xs : Nat → Int32) (ys : Nat → Int32) (hmn : mn ≤ 16) (htn : tn ≤ 24) (hcs : CSok cs tn mn) (ht0 : t0 < tn) (hn0 : n0 ≤ 100) (S : CallFix p m c cc nL s args WA own) (hl : Cond.methodLink own index yX7_foldTick ∈ WA) (hR : 4 + 1 ≤ R.frames ∧ Wd + (4 + 11) + 74 ≤ R.locals) (hK : KB D cI s) (hP : va_P D vwCl ws H) (hD : va_D A ws) (is : List Nat) (hs : is.map (fun i => ws[i]?) = ([(th, .inr (7, [.ref mk, .int (nI tn), .ref tc])), (tc, .inl (cI, 72, .inl cs)), (mk, .inr (3, [.int (nI mn), .ref mx, .ref my])), (mx, .inl (cI, 32, .inl xs)), (my, .inl (cI, 32, .inl ys))] : va_W).map some) (hnd : va_nd is = true) (hsz : ls.size = nL) (hW : (rest.map fun v => v.category).sum ≤ Wd) (hdg : decode cc pc = .ok (.invokevirtual index, 3)) (hcel : cells ≤ R.cells ∧ slots ≤ R.slots) (kk : W p l e R s m args below meth c H locs cells slots Q (F0 m (pc + 3) ls (.int (fTk (fun k => upR cs xs ys t0 (nI k) (nI n0)) 0 (n0 + 1)) :: rest))) : W p l e R s m args below meth c H locs cells slots Q (F0 m pc ls (.int (nI n0) :: .int (nI t0) :: .ref th :: rest)) :=
  kRV (n := 2) (As := [.int (nI t0), .int (nI n0)]) (ci := 7) S (c_X7_foldTick l D cI th tc mk mx my t0 n0 tn cs mn xs ys hmn htn hcs ht0 hn0) hl mw430 mw428 mw429 mw43 (by decide +kernel) hR rfl rfl rfl rfl hK hP hD is hs hnd hsz hW hdg hcel kk

set_option maxHeartbeats 4000000 in
set_option maxRecDepth 100000 in
theorem c_X7_firstFolded (l : Launch) (D : va_G) (cI : ClassId) (th : Nat) (tc : Nat) (mk : Nat) (mx : Nat) (my : Nat) (n0 : Nat) (tn : Nat) (cs : Nat → Int32) (mn : Nat) (xs : Nat → Int32) (ys : Nat → Int32) (hmn : mn ≤ 16) (htn : tn ≤ 24) (hcs : CSok cs tn mn) (hn0 : n0 ≤ 100) : CR l yX7_firstFolded (wm yX7_firstFolded cX7_firstFolded 4 (some .int)) 4 74 D cI [.ref th, .int (nI n0)] [(th, .inr (7, [.ref mk, .int (nI tn), .ref tc])), (tc, .inl (cI, 72, .inl cs)), (mk, .inr (3, [.int (nI mn), .ref mx, .ref my])), (mx, .inl (cI, 32, .inl xs)), (my, .inl (cI, 32, .inl ys))] (some (.int (ffO (fun k t => upR cs xs ys t (nI k) (nI n0)) tn 0 (n0 + 1)))) := by
  refine CR.of (by decide) (Nat.le_of_ble_eq_true rfl) ?_
  intro p e s m below meth c hx hb hr hml hown hlocks hta hP hD hK ls hl
  have hl : lv_has ls 4 [(0, .ref th), (1, .int (nI n0))] := hl
  have hP : va_P D vwCl [(th, .inr (7, [.ref mk, .int (nI tn), .ref tc])), (tc, .inl (cI, 72, .inl cs)), (mk, .inr (3, [.int (nI mn), .ref mx, .ref my])), (mx, .inl (cI, 32, .inl xs)), (my, .inl (cI, 32, .inl ys))] s.heap := hP
  refine lv_iconst (v := nI 0) hx hb dX7_firstFolded_0 (by decide) ?_
  refine lv_istore_n (lv' := [(2, .int (nI 0)), (0, .ref th), (1, .int (nI n0))]) hx hb dX7_firstFolded_1 rfl hl (by decide) rfl (fun ls hl => ?_)
  have loop_2 : ∀ (r : Nat) (k : Nat), (k + r = n0 + 1) → (ffO (fun k t => upR cs xs ys t (nI k) (nI n0)) tn 0 (n0 + 1) = ffO (fun k t => upR cs xs ys t (nI k) (nI n0)) tn k r) → ∀ ls : Array Slot, lv_has ls 4 [(2, .int (nI k)), (0, .ref th), (1, .int (nI n0))] → W p l e (rmZ 4 74) s m ([.ref th, .int (nI n0)] : List Value).toArray below meth c s.heap [] 0 0 (MQ below (QR (some (.int (ffO (fun k t => upR cs xs ys t (nI k) (nI n0)) tn 0 (n0 + 1))))) ([.ref th, .int (nI n0)] : List Value).toArray s 0 0 (fun _ => False)) (F0 m 2 ls []) := by
    intro r
    induction r with
    | zero =>
      intro k ix_k hA ls hl
      refine lv_iload_n hx hb dX7_firstFolded_2 rfl (lv_at hl 0 rfl) ?_
      refine lv_iload_n hx hb dX7_firstFolded_3 rfl (lv_at hl 2 rfl) ?_
      refine icmpN_gt (tgt := 41) hx hb dX7_firstFolded_4 (by decide) (by omega) (by omega) (fun c_4 => ?_) (fun c_4 => ?_)
      · refine lv_ldc hx hb hown (hta _ mw441) dX7_firstFolded_41 ?_
        exact rRi hx hb hr hlocks dX7_firstFolded_43 (hA.symm)
      · exact (by omega : False).elim
    | succ r ih_2 =>
      intro k ix_k hA ls hl
      refine lv_iload_n hx hb dX7_firstFolded_2 rfl (lv_at hl 0 rfl) ?_
      refine lv_iload_n hx hb dX7_firstFolded_3 rfl (lv_at hl 2 rfl) ?_
      refine icmpN_gt (tgt := 41) hx hb dX7_firstFolded_4 (by decide) (by omega) (by omega) (fun c_4 => ?_) (fun c_4 => ?_)
      · exact (by omega : False).elim
      · refine lv_iconst (v := nI 0) hx hb dX7_firstFolded_7 (by decide) ?_
        refine lv_istore_n (lv' := [(3, .int (nI 0)), (2, .int (nI k)), (0, .ref th), (1, .int (nI n0))]) hx hb dX7_firstFolded_8 rfl hl (by decide) rfl (fun ls hl => ?_)
        have loop_9 : ∀ (q : Nat) (t : Nat), (t + q = tn) → (ffI (fun t => upR cs xs ys t (nI k) (nI n0)) 0 tn = ffI (fun t => upR cs xs ys t (nI k) (nI n0)) t q) → ∀ ls : Array Slot, lv_has ls 4 [(3, .int (nI t)), (2, .int (nI k)), (0, .ref th), (1, .int (nI n0))] → W p l e (rmZ 4 74) s m ([.ref th, .int (nI n0)] : List Value).toArray below meth c s.heap [] 0 0 (MQ below (QR (some (.int (ffO (fun k t => upR cs xs ys t (nI k) (nI n0)) tn 0 (n0 + 1))))) ([.ref th, .int (nI n0)] : List Value).toArray s 0 0 (fun _ => False)) (F0 m 9 ls []) := by
          intro q
          induction q with
          | zero =>
            intro t ix_t hB ls hl
            refine lv_iload_n hx hb dX7_firstFolded_9 rfl (lv_at hl 0 rfl) ?_
            refine lv_aload_n hx hb dX7_firstFolded_10 rfl (lv_at hl 2 rfl) ?_
            refine getX hx hb hta inA7 hown hK hP 0 rfl rfl 1 (by decide) mw100 rfl rfl dX7_firstFolded_11 ?_
            refine icmpN_ge (tgt := 35) hx hb dX7_firstFolded_14 (by decide) (by omega) (by omega) (fun c_14 => ?_) (fun c_14 => ?_)
            · refine lv_iinc (v := nI (k + 1)) (lv' := [(2, .int (nI (k + 1))), (3, .int (nI t)), (0, .ref th), (1, .int (nI n0))]) hx hb dX7_firstFolded_35 hl (k := 1) rfl (nI_inc1 _) (by decide) rfl (fun ls hl => ?_)
              refine lv_goto (tgt := 2) hx hb dX7_firstFolded_38 (by decide) ?_
              exact ih_2 (k + 1) (by omega) (hA.trans (ffO_none hB)) ls (lv_sub hl [0, 2, 3] rfl)
            · exact (by omega : False).elim
          | succ q ih_9 =>
            intro t ix_t hB ls hl
            refine lv_iload_n hx hb dX7_firstFolded_9 rfl (lv_at hl 0 rfl) ?_
            refine lv_aload_n hx hb dX7_firstFolded_10 rfl (lv_at hl 2 rfl) ?_
            refine getX hx hb hta inA7 hown hK hP 0 rfl rfl 1 (by decide) mw100 rfl rfl dX7_firstFolded_11 ?_
            refine icmpN_ge (tgt := 35) hx hb dX7_firstFolded_14 (by decide) (by omega) (by omega) (fun c_14 => ?_) (fun c_14 => ?_)
            · exact (by omega : False).elim
            · refine lv_aload_n hx hb dX7_firstFolded_17 rfl (lv_at hl 2 rfl) ?_
              refine lv_iload_n hx hb dX7_firstFolded_18 rfl (lv_at hl 0 rfl) ?_
              refine lv_iload_n hx hb dX7_firstFolded_19 rfl (lv_at hl 1 rfl) ?_
              refine lv_iload_n hx hb dX7_firstFolded_20 rfl (lv_at hl 3 rfl) ?_
              refine k_X7_isUpright (Wd := 0) th tc mk mx my t (nI k) (nI n0) tn cs mn xs ys hmn htn hcs (by omega) ⟨hx, hb, hml, hown, hta⟩ mw431 ⟨Nat.le_of_ble_eq_true rfl, Nat.le_of_ble_eq_true rfl⟩ hK hP hD [0, 1, 2, 3, 4] rfl rfl hl.1 (Nat.le_of_ble_eq_true rfl) dX7_firstFolded_21 ⟨Nat.le_of_ble_eq_true rfl, Nat.le_of_ble_eq_true rfl⟩ ?_
              refine ifB_ne (tgt := 29) hx hb dX7_firstFolded_24 (by decide) (fun c_24 => ?_) (fun c_24 => ?_)
              · refine lv_iinc (v := nI (t + 1)) (lv' := [(3, .int (nI (t + 1))), (2, .int (nI k)), (0, .ref th), (1, .int (nI n0))]) hx hb dX7_firstFolded_29 hl (k := 0) rfl (nI_inc1 _) (by decide) rfl (fun ls hl => ?_)
                refine lv_goto (tgt := 9) hx hb dX7_firstFolded_32 (by decide) ?_
                exact ih_9 (t + 1) (by omega) (hB.trans (by first | (simp only [ffI, eq_false c_4, eq_true c_14, c_24, decide_true, decide_false, Bool.true_or, Bool.or_true, Bool.false_or, Bool.or_false, Bool.true_and, Bool.and_true, Bool.false_and, Bool.and_false, Bool.not_true, Bool.not_false, if_true, if_false, Bool.false_eq_true, and_true, true_and, and_false, false_and, or_true, true_or, or_false, false_or, not_true_eq_false, not_false_eq_true, bz]; done) | (simp only [ffI, eq_false c_4, eq_true c_14, c_24, decide_true, decide_false, Bool.true_or, Bool.or_true, Bool.false_or, Bool.or_false, Bool.true_and, Bool.and_true, Bool.false_and, Bool.and_false, Bool.not_true, Bool.not_false, if_true, if_false, Bool.false_eq_true, and_true, true_and, and_false, false_and, or_true, true_or, or_false, false_or, not_true_eq_false, not_false_eq_true, bz]; rfl))) ls (lv_sub hl [0, 1, 2, 3] rfl)
              · refine lv_iload_n hx hb dX7_firstFolded_27 rfl (lv_at hl 0 rfl) ?_
                exact rRi hx hb hr hlocks dX7_firstFolded_28 ((hA.trans (ffO_some (hB.trans (by first | (simp only [ffI, eq_false c_4, eq_true c_14, c_24, decide_true, decide_false, Bool.true_or, Bool.or_true, Bool.false_or, Bool.or_false, Bool.true_and, Bool.and_true, Bool.false_and, Bool.and_false, Bool.not_true, Bool.not_false, if_true, if_false, Bool.false_eq_true, and_true, true_and, and_false, false_and, or_true, true_or, or_false, false_or, not_true_eq_false, not_false_eq_true, bz]; done) | (simp only [ffI, eq_false c_4, eq_true c_14, c_24, decide_true, decide_false, Bool.true_or, Bool.or_true, Bool.false_or, Bool.or_false, Bool.true_and, Bool.and_true, Bool.false_and, Bool.and_false, Bool.not_true, Bool.not_false, if_true, if_false, Bool.false_eq_true, and_true, true_and, and_false, false_and, or_true, true_or, or_false, false_or, not_true_eq_false, not_false_eq_true, bz]; rfl))))).symm)
        exact loop_9 tn 0 (by omega) rfl ls (lv_sub hl [0, 1, 2, 3] rfl)
  exact loop_2 (n0 + 1) 0 (by omega) rfl ls (lv_sub hl [0, 1, 2] rfl)
theorem k_X7_firstFolded {p : Program} {l : Launch} {e : Env} {R : Room} {s : State} {m : MethodId} {args : Array Value} {below : List Frame} {meth : Method} {c : Code} {H : Heap} {locs : List Loc} {cells slots : Nat} {Q : State → Prop} {pc : Nat} {ls : Array Slot} {rest : List Value} {cc : ByteArray} {nL index Wd : Nat} {own : String} {D : va_G} {cI : ClassId} {A : Nat → Prop} {ws : va_W} (th : Nat) (tc : Nat) (mk : Nat) (mx : Nat) (my : Nat) (n0 : Nat) (tn : Nat) (cs : Nat → Int32) (mn : Nat) (xs : Nat → Int32) (ys : Nat → Int32) (hmn : mn ≤ 16) (htn : tn ≤ 24) (hcs : CSok cs tn mn) (hn0 : n0 ≤ 100) (S : CallFix p m c cc nL s args WA own) (hl : Cond.methodLink own index yX7_firstFolded ∈ WA) (hR : 4 + 1 ≤ R.frames ∧ Wd + (4 + 11) + 74 ≤ R.locals) (hK : KB D cI s) (hP : va_P D vwCl ws H) (hD : va_D A ws) (is : List Nat) (hs : is.map (fun i => ws[i]?) = ([(th, .inr (7, [.ref mk, .int (nI tn), .ref tc])), (tc, .inl (cI, 72, .inl cs)), (mk, .inr (3, [.int (nI mn), .ref mx, .ref my])), (mx, .inl (cI, 32, .inl xs)), (my, .inl (cI, 32, .inl ys))] : va_W).map some) (hnd : va_nd is = true) (hsz : ls.size = nL) (hW : (rest.map fun v => v.category).sum ≤ Wd) (hdg : decode cc pc = .ok (.invokevirtual index, 3)) (hcel : cells ≤ R.cells ∧ slots ≤ R.slots) (kk : W p l e R s m args below meth c H locs cells slots Q (F0 m (pc + 3) ls (.int (ffO (fun k t => upR cs xs ys t (nI k) (nI n0)) tn 0 (n0 + 1)) :: rest))) : W p l e R s m args below meth c H locs cells slots Q (F0 m pc ls (.int (nI n0) :: .ref th :: rest)) :=
  kRV (n := 1) (As := [.int (nI n0)]) (ci := 7) S (c_X7_firstFolded l D cI th tc mk mx my n0 tn cs mn xs ys hmn htn hcs hn0) hl mw449 mw447 mw448 mw43 (by decide +kernel) hR rfl rfl rfl rfl hK hP hD is hs hnd hsz hW hdg hcel kk

set_option maxHeartbeats 4000000 in
set_option maxRecDepth 100000 in
theorem c_X7_thirdsAtSide (l : Launch) (D : va_G) (cI : ClassId) (th : Nat) (tc : Nat) (mk : Nat) (mx : Nat) (my : Nat) (a0 : Nat) (b0 : Nat) (tn : Nat) (cs : Nat → Int32) (mn : Nat) (xs : Nat → Int32) (ys : Nat → Int32) (hmn : mn ≤ 16) (htn : tn ≤ 24) (hcs : CSok cs tn mn) (ha0 : a0 < 16) (hb0 : b0 < 16) : CR l yX7_thirdsAtSide (wm yX7_thirdsAtSide cX7_thirdsAtSide 5 (some .int)) 2 28 D cI [.ref th, .int (nI a0), .int (nI b0)] [(th, .inr (7, [.ref mk, .int (nI tn), .ref tc])), (tc, .inl (cI, 72, .inl cs)), (mk, .inr (3, [.int (nI mn), .ref mx, .ref my])), (mx, .inl (cI, 32, .inl xs)), (my, .inl (cI, 32, .inl ys))] (some (.int (nI (cntF (fun t => tch cs t a0 && tch cs t b0) 0 0 tn)))) := by
  refine CR.of (by decide) (Nat.le_of_ble_eq_true rfl) ?_
  intro p e s m below meth c hx hb hr hml hown hlocks hta hP hD hK ls hl
  have hl : lv_has ls 5 [(0, .ref th), (1, .int (nI a0)), (2, .int (nI b0))] := hl
  have hP : va_P D vwCl [(th, .inr (7, [.ref mk, .int (nI tn), .ref tc])), (tc, .inl (cI, 72, .inl cs)), (mk, .inr (3, [.int (nI mn), .ref mx, .ref my])), (mx, .inl (cI, 32, .inl xs)), (my, .inl (cI, 32, .inl ys))] s.heap := hP
  refine lv_iconst (v := nI 0) hx hb dX7_thirdsAtSide_0 (by decide) ?_
  refine lv_istore_n (lv' := [(3, .int (nI 0)), (0, .ref th), (1, .int (nI a0)), (2, .int (nI b0))]) hx hb dX7_thirdsAtSide_1 rfl hl (by decide) rfl (fun ls hl => ?_)
  refine lv_iconst (v := nI 0) hx hb dX7_thirdsAtSide_2 (by decide) ?_
  refine lv_istore (lv' := [(4, .int (nI 0)), (3, .int (nI 0)), (0, .ref th), (1, .int (nI a0)), (2, .int (nI b0))]) hx hb dX7_thirdsAtSide_3 hl (by decide) rfl (fun ls hl => ?_)
  have loop_5 : ∀ (r : Nat) (k : Nat) (y : Nat), (k + r = tn) → (cntF (fun t => tch cs t a0 && tch cs t b0) 0 0 tn = cntF (fun t => tch cs t a0 && tch cs t b0) y k r) → ∀ ls : Array Slot, lv_has ls 5 [(4, .int (nI k)), (3, .int (nI y)), (0, .ref th), (1, .int (nI a0)), (2, .int (nI b0))] → W p l e (rmZ 2 28) s m ([.ref th, .int (nI a0), .int (nI b0)] : List Value).toArray below meth c s.heap [] 0 0 (MQ below (QR (some (.int (nI (cntF (fun t => tch cs t a0 && tch cs t b0) 0 0 tn))))) ([.ref th, .int (nI a0), .int (nI b0)] : List Value).toArray s 0 0 (fun _ => False)) (F0 m 5 ls []) := by
    intro r
    induction r with
    | zero =>
      intro k y ix_k hA ls hl
      refine lv_iload hx hb dX7_thirdsAtSide_5 (lv_at hl 0 rfl) ?_
      refine lv_aload_n hx hb dX7_thirdsAtSide_7 rfl (lv_at hl 2 rfl) ?_
      refine getX hx hb hta inA7 hown hK hP 0 rfl rfl 1 (by decide) mw100 rfl rfl dX7_thirdsAtSide_8 ?_
      refine icmpN_ge (tgt := 43) hx hb dX7_thirdsAtSide_11 (by decide) (by omega) (by omega) (fun c_11 => ?_) (fun c_11 => ?_)
      · refine lv_iload_n hx hb dX7_thirdsAtSide_43 rfl (lv_at hl 1 rfl) ?_
        exact rRi hx hb hr hlocks dX7_thirdsAtSide_44 (by first | (simp only [hA, cntF, eq_false c_11, decide_true, decide_false, Bool.true_or, Bool.or_true, Bool.false_or, Bool.or_false, Bool.true_and, Bool.and_true, Bool.false_and, Bool.and_false, Bool.not_true, Bool.not_false, if_true, if_false, Bool.false_eq_true, and_true, true_and, and_false, false_and, or_true, true_or, or_false, false_or, not_true_eq_false, not_false_eq_true, bz]; done) | (simp only [hA, cntF, eq_false c_11, decide_true, decide_false, Bool.true_or, Bool.or_true, Bool.false_or, Bool.or_false, Bool.true_and, Bool.and_true, Bool.false_and, Bool.and_false, Bool.not_true, Bool.not_false, if_true, if_false, Bool.false_eq_true, and_true, true_and, and_false, false_and, or_true, true_or, or_false, false_or, not_true_eq_false, not_false_eq_true, bz]; rfl))
      · exact (by omega : False).elim
    | succ r ih_5 =>
      intro k y ix_k hA ls hl
      refine lv_iload hx hb dX7_thirdsAtSide_5 (lv_at hl 0 rfl) ?_
      refine lv_aload_n hx hb dX7_thirdsAtSide_7 rfl (lv_at hl 2 rfl) ?_
      refine getX hx hb hta inA7 hown hK hP 0 rfl rfl 1 (by decide) mw100 rfl rfl dX7_thirdsAtSide_8 ?_
      refine icmpN_ge (tgt := 43) hx hb dX7_thirdsAtSide_11 (by decide) (by omega) (by omega) (fun c_11 => ?_) (fun c_11 => ?_)
      · exact (by omega : False).elim
      · refine lv_aload_n hx hb dX7_thirdsAtSide_14 rfl (lv_at hl 2 rfl) ?_
        refine lv_iload hx hb dX7_thirdsAtSide_15 (lv_at hl 0 rfl) ?_
        refine lv_iload_n hx hb dX7_thirdsAtSide_17 rfl (lv_at hl 3 rfl) ?_
        refine k_X7_touches (Wd := 0) th tc mk mx my k a0 tn cs mn xs ys hmn htn hcs (by omega) ha0 ⟨hx, hb, hml, hown, hta⟩ mw388 ⟨Nat.le_of_ble_eq_true rfl, Nat.le_of_ble_eq_true rfl⟩ hK hP hD [0, 1, 2, 3, 4] rfl rfl hl.1 (Nat.le_of_ble_eq_true rfl) dX7_thirdsAtSide_18 ⟨Nat.le_of_ble_eq_true rfl, Nat.le_of_ble_eq_true rfl⟩ ?_
        refine ifB_eq (tgt := 37) hx hb dX7_thirdsAtSide_21 (by decide) (fun c_21 => ?_) (fun c_21 => ?_)
        · refine lv_iinc (v := nI (k + 1)) (lv' := [(4, .int (nI (k + 1))), (3, .int (nI y)), (0, .ref th), (1, .int (nI a0)), (2, .int (nI b0))]) hx hb dX7_thirdsAtSide_37 hl (k := 0) rfl (nI_inc1 _) (by decide) rfl (fun ls hl => ?_)
          refine lv_goto (tgt := 5) hx hb dX7_thirdsAtSide_40 (by decide) ?_
          exact ih_5 (k + 1) y (by omega) (hA.trans (by first | (simp only [cntF, eq_true c_11, c_21, decide_true, decide_false, Bool.true_or, Bool.or_true, Bool.false_or, Bool.or_false, Bool.true_and, Bool.and_true, Bool.false_and, Bool.and_false, Bool.not_true, Bool.not_false, if_true, if_false, Bool.false_eq_true, and_true, true_and, and_false, false_and, or_true, true_or, or_false, false_or, not_true_eq_false, not_false_eq_true, bz]; done) | (simp only [cntF, eq_true c_11, c_21, decide_true, decide_false, Bool.true_or, Bool.or_true, Bool.false_or, Bool.or_false, Bool.true_and, Bool.and_true, Bool.false_and, Bool.and_false, Bool.not_true, Bool.not_false, if_true, if_false, Bool.false_eq_true, and_true, true_and, and_false, false_and, or_true, true_or, or_false, false_or, not_true_eq_false, not_false_eq_true, bz]; rfl))) ls (lv_sub hl [0, 1, 2, 3, 4] rfl)
        · refine lv_aload_n hx hb dX7_thirdsAtSide_24 rfl (lv_at hl 2 rfl) ?_
          refine lv_iload hx hb dX7_thirdsAtSide_25 (lv_at hl 0 rfl) ?_
          refine lv_iload_n hx hb dX7_thirdsAtSide_27 rfl (lv_at hl 4 rfl) ?_
          refine k_X7_touches (Wd := 0) th tc mk mx my k b0 tn cs mn xs ys hmn htn hcs (by omega) hb0 ⟨hx, hb, hml, hown, hta⟩ mw388 ⟨Nat.le_of_ble_eq_true rfl, Nat.le_of_ble_eq_true rfl⟩ hK hP hD [0, 1, 2, 3, 4] rfl rfl hl.1 (Nat.le_of_ble_eq_true rfl) dX7_thirdsAtSide_28 ⟨Nat.le_of_ble_eq_true rfl, Nat.le_of_ble_eq_true rfl⟩ ?_
          refine ifB_eq (tgt := 37) hx hb dX7_thirdsAtSide_31 (by decide) (fun c_31 => ?_) (fun c_31 => ?_)
          · refine lv_iinc (v := nI (k + 1)) (lv' := [(4, .int (nI (k + 1))), (3, .int (nI y)), (0, .ref th), (1, .int (nI a0)), (2, .int (nI b0))]) hx hb dX7_thirdsAtSide_37 hl (k := 0) rfl (nI_inc1 _) (by decide) rfl (fun ls hl => ?_)
            refine lv_goto (tgt := 5) hx hb dX7_thirdsAtSide_40 (by decide) ?_
            exact ih_5 (k + 1) y (by omega) (hA.trans (by first | (simp only [cntF, eq_true c_11, c_21, c_31, decide_true, decide_false, Bool.true_or, Bool.or_true, Bool.false_or, Bool.or_false, Bool.true_and, Bool.and_true, Bool.false_and, Bool.and_false, Bool.not_true, Bool.not_false, if_true, if_false, Bool.false_eq_true, and_true, true_and, and_false, false_and, or_true, true_or, or_false, false_or, not_true_eq_false, not_false_eq_true, bz]; done) | (simp only [cntF, eq_true c_11, c_21, c_31, decide_true, decide_false, Bool.true_or, Bool.or_true, Bool.false_or, Bool.or_false, Bool.true_and, Bool.and_true, Bool.false_and, Bool.and_false, Bool.not_true, Bool.not_false, if_true, if_false, Bool.false_eq_true, and_true, true_and, and_false, false_and, or_true, true_or, or_false, false_or, not_true_eq_false, not_false_eq_true, bz]; rfl))) ls (lv_sub hl [0, 1, 2, 3, 4] rfl)
          · refine lv_iinc (v := nI (y + 1)) (lv' := [(3, .int (nI (y + 1))), (4, .int (nI k)), (0, .ref th), (1, .int (nI a0)), (2, .int (nI b0))]) hx hb dX7_thirdsAtSide_34 hl (k := 1) rfl (nI_inc1 _) (by decide) rfl (fun ls hl => ?_)
            refine lv_iinc (v := nI (k + 1)) (lv' := [(4, .int (nI (k + 1))), (3, .int (nI (y + 1))), (0, .ref th), (1, .int (nI a0)), (2, .int (nI b0))]) hx hb dX7_thirdsAtSide_37 hl (k := 1) rfl (nI_inc1 _) (by decide) rfl (fun ls hl => ?_)
            refine lv_goto (tgt := 5) hx hb dX7_thirdsAtSide_40 (by decide) ?_
            exact ih_5 (k + 1) (y + 1) (by omega) (hA.trans (by first | (simp only [cntF, eq_true c_11, c_21, c_31, decide_true, decide_false, Bool.true_or, Bool.or_true, Bool.false_or, Bool.or_false, Bool.true_and, Bool.and_true, Bool.false_and, Bool.and_false, Bool.not_true, Bool.not_false, if_true, if_false, Bool.false_eq_true, and_true, true_and, and_false, false_and, or_true, true_or, or_false, false_or, not_true_eq_false, not_false_eq_true, bz]; done) | (simp only [cntF, eq_true c_11, c_21, c_31, decide_true, decide_false, Bool.true_or, Bool.or_true, Bool.false_or, Bool.or_false, Bool.true_and, Bool.and_true, Bool.false_and, Bool.and_false, Bool.not_true, Bool.not_false, if_true, if_false, Bool.false_eq_true, and_true, true_and, and_false, false_and, or_true, true_or, or_false, false_or, not_true_eq_false, not_false_eq_true, bz]; rfl))) ls (lv_sub hl [0, 1, 2, 3, 4] rfl)
  exact loop_5 tn 0 0 (by omega) rfl ls (lv_sub hl [0, 1, 2, 3, 4] rfl)
theorem k_X7_thirdsAtSide {p : Program} {l : Launch} {e : Env} {R : Room} {s : State} {m : MethodId} {args : Array Value} {below : List Frame} {meth : Method} {c : Code} {H : Heap} {locs : List Loc} {cells slots : Nat} {Q : State → Prop} {pc : Nat} {ls : Array Slot} {rest : List Value} {cc : ByteArray} {nL index Wd : Nat} {own : String} {D : va_G} {cI : ClassId} {A : Nat → Prop} {ws : va_W} (th : Nat) (tc : Nat) (mk : Nat) (mx : Nat) (my : Nat) (a0 : Nat) (b0 : Nat) (tn : Nat) (cs : Nat → Int32) (mn : Nat) (xs : Nat → Int32) (ys : Nat → Int32) (hmn : mn ≤ 16) (htn : tn ≤ 24) (hcs : CSok cs tn mn) (ha0 : a0 < 16) (hb0 : b0 < 16) (S : CallFix p m c cc nL s args WA own) (hl : Cond.methodLink own index yX7_thirdsAtSide ∈ WA) (hR : 2 + 1 ≤ R.frames ∧ Wd + (5 + 11) + 28 ≤ R.locals) (hK : KB D cI s) (hP : va_P D vwCl ws H) (hD : va_D A ws) (is : List Nat) (hs : is.map (fun i => ws[i]?) = ([(th, .inr (7, [.ref mk, .int (nI tn), .ref tc])), (tc, .inl (cI, 72, .inl cs)), (mk, .inr (3, [.int (nI mn), .ref mx, .ref my])), (mx, .inl (cI, 32, .inl xs)), (my, .inl (cI, 32, .inl ys))] : va_W).map some) (hnd : va_nd is = true) (hsz : ls.size = nL) (hW : (rest.map fun v => v.category).sum ≤ Wd) (hdg : decode cc pc = .ok (.invokevirtual index, 3)) (hcel : cells ≤ R.cells ∧ slots ≤ R.slots) (kk : W p l e R s m args below meth c H locs cells slots Q (F0 m (pc + 3) ls (.int (nI (cntF (fun t => tch cs t a0 && tch cs t b0) 0 0 tn)) :: rest))) : W p l e R s m args below meth c H locs cells slots Q (F0 m pc ls (.int (nI b0) :: .int (nI a0) :: .ref th :: rest)) :=
  kRV (n := 2) (As := [.int (nI a0), .int (nI b0)]) (ci := 7) S (c_X7_thirdsAtSide l D cI th tc mk mx my a0 b0 tn cs mn xs ys hmn htn hcs ha0 hb0) hl mw466 mw465 mw2 mw43 (by decide +kernel) hR rfl rfl rfl rfl hK hP hD is hs hnd hsz hW hdg hcel kk

set_option maxHeartbeats 4000000 in
set_option maxRecDepth 100000 in
theorem c_X7_sidesOf (l : Launch) (D : va_G) (cI : ClassId) (th : Nat) (tc : Nat) (mk : Nat) (mx : Nat) (my : Nat) (w0 : Int32) (tn : Nat) (cs : Nat → Int32) (mn : Nat) (xs : Nat → Int32) (ys : Nat → Int32) (hmn : mn ≤ 16) (htn : tn ≤ 24) (hcs : CSok cs tn mn) : CR l yX7_sidesOf (wm yX7_sidesOf cX7_sidesOf 5 (some .int)) 3 44 D cI [.ref th, .int w0] [(th, .inr (7, [.ref mk, .int (nI tn), .ref tc])), (tc, .inl (cI, 72, .inl cs)), (mk, .inr (3, [.int (nI mn), .ref mx, .ref my])), (mx, .inl (cI, 32, .inl xs)), (my, .inl (cI, 32, .inl ys))] (some (.int (nI (sdF (fun a b => decide (nI (cntF (fun t => tch cs t a && tch cs t b) 0 0 tn) = w0)) mn 0 0 mn)))) := by
  refine CR.of (by decide) (Nat.le_of_ble_eq_true rfl) ?_
  intro p e s m below meth c hx hb hr hml hown hlocks hta hP hD hK ls hl
  have hl : lv_has ls 5 [(0, .ref th), (1, .int w0)] := hl
  have hP : va_P D vwCl [(th, .inr (7, [.ref mk, .int (nI tn), .ref tc])), (tc, .inl (cI, 72, .inl cs)), (mk, .inr (3, [.int (nI mn), .ref mx, .ref my])), (mx, .inl (cI, 32, .inl xs)), (my, .inl (cI, 32, .inl ys))] s.heap := hP
  refine lv_iconst (v := nI 0) hx hb dX7_sidesOf_0 (by decide) ?_
  refine lv_istore_n (lv' := [(2, .int (nI 0)), (0, .ref th), (1, .int w0)]) hx hb dX7_sidesOf_1 rfl hl (by decide) rfl (fun ls hl => ?_)
  refine lv_iconst (v := nI 0) hx hb dX7_sidesOf_2 (by decide) ?_
  refine lv_istore_n (lv' := [(3, .int (nI 0)), (2, .int (nI 0)), (0, .ref th), (1, .int w0)]) hx hb dX7_sidesOf_3 rfl hl (by decide) rfl (fun ls hl => ?_)
  have loop_4 : ∀ (r : Nat) (a : Nat) (y : Nat), (a + r = mn) → (sdF (fun a b => decide (nI (cntF (fun t => tch cs t a && tch cs t b) 0 0 tn) = w0)) mn 0 0 mn = sdF (fun a b => decide (nI (cntF (fun t => tch cs t a && tch cs t b) 0 0 tn) = w0)) mn y a r) → ∀ ls : Array Slot, lv_has ls 5 [(3, .int (nI a)), (2, .int (nI y)), (0, .ref th), (1, .int w0)] → W p l e (rmZ 3 44) s m ([.ref th, .int w0] : List Value).toArray below meth c s.heap [] 0 0 (MQ below (QR (some (.int (nI (sdF (fun a b => decide (nI (cntF (fun t => tch cs t a && tch cs t b) 0 0 tn) = w0)) mn 0 0 mn))))) ([.ref th, .int w0] : List Value).toArray s 0 0 (fun _ => False)) (F0 m 4 ls []) := by
    intro r
    induction r with
    | zero =>
      intro a y ix_a hA ls hl
      refine lv_iload_n hx hb dX7_sidesOf_4 rfl (lv_at hl 0 rfl) ?_
      refine lv_aload_n hx hb dX7_sidesOf_5 rfl (lv_at hl 2 rfl) ?_
      refine getX hx hb hta inA7 hown hK hP 0 rfl rfl 0 (by decide) mw99 rfl rfl dX7_sidesOf_6 ?_
      refine k_X3_many (Wd := 1) mk mx my mn xs ys  ⟨hx, hb, hml, hown, hta⟩ mw459 ⟨Nat.le_of_ble_eq_true rfl, Nat.le_of_ble_eq_true rfl⟩ hK hP hD [2, 3, 4] rfl rfl hl.1 (Nat.le_of_ble_eq_true rfl) dX7_sidesOf_9 ⟨Nat.le_of_ble_eq_true rfl, Nat.le_of_ble_eq_true rfl⟩ ?_
      refine icmpN_ge (tgt := 58) hx hb dX7_sidesOf_12 (by decide) (by omega) (by omega) (fun c_12 => ?_) (fun c_12 => ?_)
      · refine lv_iload_n hx hb dX7_sidesOf_58 rfl (lv_at hl 1 rfl) ?_
        exact rRi hx hb hr hlocks dX7_sidesOf_59 (by rw [hA, sdF])
      · exact (by omega : False).elim
    | succ r ih_4 =>
      intro a y ix_a hA ls hl
      refine lv_iload_n hx hb dX7_sidesOf_4 rfl (lv_at hl 0 rfl) ?_
      refine lv_aload_n hx hb dX7_sidesOf_5 rfl (lv_at hl 2 rfl) ?_
      refine getX hx hb hta inA7 hown hK hP 0 rfl rfl 0 (by decide) mw99 rfl rfl dX7_sidesOf_6 ?_
      refine k_X3_many (Wd := 1) mk mx my mn xs ys  ⟨hx, hb, hml, hown, hta⟩ mw459 ⟨Nat.le_of_ble_eq_true rfl, Nat.le_of_ble_eq_true rfl⟩ hK hP hD [2, 3, 4] rfl rfl hl.1 (Nat.le_of_ble_eq_true rfl) dX7_sidesOf_9 ⟨Nat.le_of_ble_eq_true rfl, Nat.le_of_ble_eq_true rfl⟩ ?_
      refine icmpN_ge (tgt := 58) hx hb dX7_sidesOf_12 (by decide) (by omega) (by omega) (fun c_12 => ?_) (fun c_12 => ?_)
      · exact (by omega : False).elim
      · refine lv_iload_n hx hb dX7_sidesOf_15 rfl (lv_at hl 0 rfl) ?_
        refine lv_iconst (v := nI 1) hx hb dX7_sidesOf_16 (by decide) ?_
        refine iaddN (a := a) (b := 1) hx hb dX7_sidesOf_17 ?_
        refine lv_istore (lv' := [(4, .int (nI (a + 1))), (3, .int (nI a)), (2, .int (nI y)), (0, .ref th), (1, .int w0)]) hx hb dX7_sidesOf_18 hl (by decide) rfl (fun ls hl => ?_)
        have loop_20 : ∀ (q : Nat) (b : Nat) (z : Nat), (b + q = mn) → (cntF (fun b => decide (nI (cntF (fun t => tch cs t a && tch cs t b) 0 0 tn) = w0)) y (a + 1) (mn - (a + 1)) = cntF (fun b => decide (nI (cntF (fun t => tch cs t a && tch cs t b) 0 0 tn) = w0)) z b q) → ∀ ls : Array Slot, lv_has ls 5 [(4, .int (nI b)), (3, .int (nI a)), (2, .int (nI z)), (0, .ref th), (1, .int w0)] → W p l e (rmZ 3 44) s m ([.ref th, .int w0] : List Value).toArray below meth c s.heap [] 0 0 (MQ below (QR (some (.int (nI (sdF (fun a b => decide (nI (cntF (fun t => tch cs t a && tch cs t b) 0 0 tn) = w0)) mn 0 0 mn))))) ([.ref th, .int w0] : List Value).toArray s 0 0 (fun _ => False)) (F0 m 20 ls []) := by
          intro q
          induction q with
          | zero =>
            intro b z ix_b hB ls hl
            refine lv_iload hx hb dX7_sidesOf_20 (lv_at hl 0 rfl) ?_
            refine lv_aload_n hx hb dX7_sidesOf_22 rfl (lv_at hl 3 rfl) ?_
            refine getX hx hb hta inA7 hown hK hP 0 rfl rfl 0 (by decide) mw99 rfl rfl dX7_sidesOf_23 ?_
            refine k_X3_many (Wd := 1) mk mx my mn xs ys  ⟨hx, hb, hml, hown, hta⟩ mw459 ⟨Nat.le_of_ble_eq_true rfl, Nat.le_of_ble_eq_true rfl⟩ hK hP hD [2, 3, 4] rfl rfl hl.1 (Nat.le_of_ble_eq_true rfl) dX7_sidesOf_26 ⟨Nat.le_of_ble_eq_true rfl, Nat.le_of_ble_eq_true rfl⟩ ?_
            refine icmpN_ge (tgt := 52) hx hb dX7_sidesOf_29 (by decide) (by omega) (by omega) (fun c_29 => ?_) (fun c_29 => ?_)
            · refine lv_iinc (v := nI (a + 1)) (lv' := [(3, .int (nI (a + 1))), (4, .int (nI b)), (2, .int (nI z)), (0, .ref th), (1, .int w0)]) hx hb dX7_sidesOf_52 hl (k := 1) rfl (nI_inc1 _) (by decide) rfl (fun ls hl => ?_)
              refine lv_goto (tgt := 4) hx hb dX7_sidesOf_55 (by decide) ?_
              exact ih_4 (a + 1) z (by omega) (hA.trans (by rw [sdF, hB, cntF])) ls (lv_sub hl [0, 2, 3, 4] rfl)
            · exact (by omega : False).elim
          | succ q ih_20 =>
            intro b z ix_b hB ls hl
            refine lv_iload hx hb dX7_sidesOf_20 (lv_at hl 0 rfl) ?_
            refine lv_aload_n hx hb dX7_sidesOf_22 rfl (lv_at hl 3 rfl) ?_
            refine getX hx hb hta inA7 hown hK hP 0 rfl rfl 0 (by decide) mw99 rfl rfl dX7_sidesOf_23 ?_
            refine k_X3_many (Wd := 1) mk mx my mn xs ys  ⟨hx, hb, hml, hown, hta⟩ mw459 ⟨Nat.le_of_ble_eq_true rfl, Nat.le_of_ble_eq_true rfl⟩ hK hP hD [2, 3, 4] rfl rfl hl.1 (Nat.le_of_ble_eq_true rfl) dX7_sidesOf_26 ⟨Nat.le_of_ble_eq_true rfl, Nat.le_of_ble_eq_true rfl⟩ ?_
            refine icmpN_ge (tgt := 52) hx hb dX7_sidesOf_29 (by decide) (by omega) (by omega) (fun c_29 => ?_) (fun c_29 => ?_)
            · exact (by omega : False).elim
            · refine lv_aload_n hx hb dX7_sidesOf_32 rfl (lv_at hl 3 rfl) ?_
              refine lv_iload_n hx hb dX7_sidesOf_33 rfl (lv_at hl 1 rfl) ?_
              refine lv_iload hx hb dX7_sidesOf_34 (lv_at hl 0 rfl) ?_
              refine k_X7_thirdsAtSide (Wd := 0) th tc mk mx my a b tn cs mn xs ys hmn htn hcs (by omega) (by omega) ⟨hx, hb, hml, hown, hta⟩ mw463 ⟨Nat.le_of_ble_eq_true rfl, Nat.le_of_ble_eq_true rfl⟩ hK hP hD [0, 1, 2, 3, 4] rfl rfl hl.1 (Nat.le_of_ble_eq_true rfl) dX7_sidesOf_36 ⟨Nat.le_of_ble_eq_true rfl, Nat.le_of_ble_eq_true rfl⟩ ?_
              refine lv_iload_n hx hb dX7_sidesOf_39 rfl (lv_at hl 4 rfl) ?_
              refine icmpI_ne (tgt := 46) hx hb dX7_sidesOf_40 (by decide) (fun c_40 => ?_) (fun c_40 => ?_)
              · refine lv_iinc (v := nI (b + 1)) (lv' := [(4, .int (nI (b + 1))), (3, .int (nI a)), (2, .int (nI z)), (0, .ref th), (1, .int w0)]) hx hb dX7_sidesOf_46 hl (k := 0) rfl (nI_inc1 _) (by decide) rfl (fun ls hl => ?_)
                refine lv_goto (tgt := 20) hx hb dX7_sidesOf_49 (by decide) ?_
                exact ih_20 (b + 1) z (by omega) (hB.trans (by first | (simp only [cntF, eq_true c_12, eq_true c_29, eq_false c_40, decide_true, decide_false, Bool.true_or, Bool.or_true, Bool.false_or, Bool.or_false, Bool.true_and, Bool.and_true, Bool.false_and, Bool.and_false, Bool.not_true, Bool.not_false, if_true, if_false, Bool.false_eq_true, and_true, true_and, and_false, false_and, or_true, true_or, or_false, false_or, not_true_eq_false, not_false_eq_true, bz]; done) | (simp only [cntF, eq_true c_12, eq_true c_29, eq_false c_40, decide_true, decide_false, Bool.true_or, Bool.or_true, Bool.false_or, Bool.or_false, Bool.true_and, Bool.and_true, Bool.false_and, Bool.and_false, Bool.not_true, Bool.not_false, if_true, if_false, Bool.false_eq_true, and_true, true_and, and_false, false_and, or_true, true_or, or_false, false_or, not_true_eq_false, not_false_eq_true, bz]; rfl))) ls (lv_sub hl [0, 1, 2, 3, 4] rfl)
              · refine lv_iinc (v := nI (z + 1)) (lv' := [(2, .int (nI (z + 1))), (4, .int (nI b)), (3, .int (nI a)), (0, .ref th), (1, .int w0)]) hx hb dX7_sidesOf_43 hl (k := 2) rfl (nI_inc1 _) (by decide) rfl (fun ls hl => ?_)
                refine lv_iinc (v := nI (b + 1)) (lv' := [(4, .int (nI (b + 1))), (2, .int (nI (z + 1))), (3, .int (nI a)), (0, .ref th), (1, .int w0)]) hx hb dX7_sidesOf_46 hl (k := 1) rfl (nI_inc1 _) (by decide) rfl (fun ls hl => ?_)
                refine lv_goto (tgt := 20) hx hb dX7_sidesOf_49 (by decide) ?_
                exact ih_20 (b + 1) (z + 1) (by omega) (hB.trans (by first | (simp only [cntF, eq_true c_12, eq_true c_29, eq_true c_40, decide_true, decide_false, Bool.true_or, Bool.or_true, Bool.false_or, Bool.or_false, Bool.true_and, Bool.and_true, Bool.false_and, Bool.and_false, Bool.not_true, Bool.not_false, if_true, if_false, Bool.false_eq_true, and_true, true_and, and_false, false_and, or_true, true_or, or_false, false_or, not_true_eq_false, not_false_eq_true, bz]; done) | (simp only [cntF, eq_true c_12, eq_true c_29, eq_true c_40, decide_true, decide_false, Bool.true_or, Bool.or_true, Bool.false_or, Bool.or_false, Bool.true_and, Bool.and_true, Bool.false_and, Bool.and_false, Bool.not_true, Bool.not_false, if_true, if_false, Bool.false_eq_true, and_true, true_and, and_false, false_and, or_true, true_or, or_false, false_or, not_true_eq_false, not_false_eq_true, bz]; rfl))) ls (lv_sub hl [0, 2, 1, 3, 4] rfl)
        exact loop_20 (mn - (a + 1)) (a + 1) y (by omega) rfl ls (lv_sub hl [0, 1, 2, 3, 4] rfl)
  exact loop_4 mn 0 0 (by omega) rfl ls (lv_sub hl [0, 1, 2, 3] rfl)
theorem k_X7_sidesOf {p : Program} {l : Launch} {e : Env} {R : Room} {s : State} {m : MethodId} {args : Array Value} {below : List Frame} {meth : Method} {c : Code} {H : Heap} {locs : List Loc} {cells slots : Nat} {Q : State → Prop} {pc : Nat} {ls : Array Slot} {rest : List Value} {cc : ByteArray} {nL index Wd : Nat} {own : String} {D : va_G} {cI : ClassId} {A : Nat → Prop} {ws : va_W} (th : Nat) (tc : Nat) (mk : Nat) (mx : Nat) (my : Nat) (w0 : Int32) (tn : Nat) (cs : Nat → Int32) (mn : Nat) (xs : Nat → Int32) (ys : Nat → Int32) (hmn : mn ≤ 16) (htn : tn ≤ 24) (hcs : CSok cs tn mn) (S : CallFix p m c cc nL s args WA own) (hl : Cond.methodLink own index yX7_sidesOf ∈ WA) (hR : 3 + 1 ≤ R.frames ∧ Wd + (5 + 11) + 44 ≤ R.locals) (hK : KB D cI s) (hP : va_P D vwCl ws H) (hD : va_D A ws) (is : List Nat) (hs : is.map (fun i => ws[i]?) = ([(th, .inr (7, [.ref mk, .int (nI tn), .ref tc])), (tc, .inl (cI, 72, .inl cs)), (mk, .inr (3, [.int (nI mn), .ref mx, .ref my])), (mx, .inl (cI, 32, .inl xs)), (my, .inl (cI, 32, .inl ys))] : va_W).map some) (hnd : va_nd is = true) (hsz : ls.size = nL) (hW : (rest.map fun v => v.category).sum ≤ Wd) (hdg : decode cc pc = .ok (.invokevirtual index, 3)) (hcel : cells ≤ R.cells ∧ slots ≤ R.slots) (kk : W p l e R s m args below meth c H locs cells slots Q (F0 m (pc + 3) ls (.int (nI (sdF (fun a b => decide (nI (cntF (fun t => tch cs t a && tch cs t b) 0 0 tn) = w0)) mn 0 0 mn)) :: rest))) : W p l e R s m args below meth c H locs cells slots Q (F0 m pc ls (.int w0 :: .ref th :: rest)) :=
  kRV (n := 1) (As := [.int w0]) (ci := 7) S (c_X7_sidesOf l D cI th tc mk mx my w0 tn cs mn xs ys hmn htn hcs) hl mw458 mw456 mw457 mw43 (by decide +kernel) hR rfl rfl rfl rfl hK hP hD is hs hnd hsz hW hdg hcel kk

set_option maxHeartbeats 4000000 in
set_option maxRecDepth 100000 in
theorem c_X7_staysWhole (l : Launch) (D : va_G) (cI : ClassId) (th : Nat) (tc : Nat) (mk : Nat) (mx : Nat) (my : Nat) (t0 : Nat) (tn : Nat) (cs : Nat → Int32) (mn : Nat) (xs : Nat → Int32) (ys : Nat → Int32) (hmn : mn ≤ 16) (htn : tn ≤ 24) (hcs : CSok cs tn mn) (ht0 : t0 < tn) : CR l yX7_staysWhole (wm yX7_staysWhole cX7_staysWhole 2 (some .boolean)) 2 28 D cI [.ref th, .int (nI t0)] [(th, .inr (7, [.ref mk, .int (nI tn), .ref tc])), (tc, .inl (cI, 72, .inl cs)), (mk, .inr (3, [.int (nI mn), .ref mx, .ref my])), (mx, .inl (cI, 32, .inl xs)), (my, .inl (cI, 32, .inl ys))] (some (.int (bz (stT cs xs ys t0)))) := by
  refine CR.of (by decide) (Nat.le_of_ble_eq_true rfl) ?_
  intro p e s m below meth c hx hb hr hml hown hlocks hta hP hD hK ls hl
  have hl : lv_has ls 2 [(0, .ref th), (1, .int (nI t0))] := hl
  have hP : va_P D vwCl [(th, .inr (7, [.ref mk, .int (nI tn), .ref tc])), (tc, .inl (cI, 72, .inl cs)), (mk, .inr (3, [.int (nI mn), .ref mx, .ref my])), (mx, .inl (cI, 32, .inl xs)), (my, .inl (cI, 32, .inl ys))] s.heap := hP
  have hc0 := (hcs (3 * t0 + 0) (by omega)).2
  have hc1 := (hcs (3 * t0 + 1) (by omega)).2
  have hc2 := (hcs (3 * t0 + 2) (by omega)).2
  refine lv_aload_n hx hb dX7_staysWhole_0 rfl (lv_at hl 0 rfl) ?_
  refine getX hx hb hta inA7 hown hK hP 0 rfl rfl 0 (by decide) mw99 rfl rfl dX7_staysWhole_1 ?_
  refine lv_aload_n hx hb dX7_staysWhole_4 rfl (lv_at hl 0 rfl) ?_
  refine lv_iload_n hx hb dX7_staysWhole_5 rfl (lv_at hl 1 rfl) ?_
  refine lv_iconst (v := nI 0) hx hb dX7_staysWhole_6 (by decide) ?_
  refine k_X7_corner (Wd := 1) th tc mk mx my t0 0 tn cs mn xs ys hmn htn hcs ht0 (by omega) ⟨hx, hb, hml, hown, hta⟩ mw392 ⟨Nat.le_of_ble_eq_true rfl, Nat.le_of_ble_eq_true rfl⟩ hK hP hD [0, 1, 2, 3, 4] rfl rfl hl.1 (Nat.le_of_ble_eq_true rfl) dX7_staysWhole_7 ⟨Nat.le_of_ble_eq_true rfl, Nat.le_of_ble_eq_true rfl⟩ ?_
  refine k_X3_stays (Wd := 0) mk mx my (cn cs (3 * t0 + 0)) mn xs ys (by omega) ⟨hx, hb, hml, hown, hta⟩ mw644 ⟨Nat.le_of_ble_eq_true rfl, Nat.le_of_ble_eq_true rfl⟩ hK hP hD [2, 3, 4] rfl rfl hl.1 (Nat.le_of_ble_eq_true rfl) dX7_staysWhole_10 ⟨Nat.le_of_ble_eq_true rfl, Nat.le_of_ble_eq_true rfl⟩ ?_
  refine ifB_eq (tgt := 52) hx hb dX7_staysWhole_13 (by decide) (fun c_13 => ?_) (fun c_13 => ?_)
  · refine lv_iconst (v := nI 0) hx hb dX7_staysWhole_52 (by decide) ?_
    exact rRz hx hb hr hlocks dX7_staysWhole_53 (by first | (simp only [stT, c_13, decide_true, decide_false, Bool.true_or, Bool.or_true, Bool.false_or, Bool.or_false, Bool.true_and, Bool.and_true, Bool.false_and, Bool.and_false, Bool.not_true, Bool.not_false, if_true, if_false, Bool.false_eq_true, and_true, true_and, and_false, false_and, or_true, true_or, or_false, false_or, not_true_eq_false, not_false_eq_true, bz]; done) | (simp only [stT, c_13, decide_true, decide_false, Bool.true_or, Bool.or_true, Bool.false_or, Bool.or_false, Bool.true_and, Bool.and_true, Bool.false_and, Bool.and_false, Bool.not_true, Bool.not_false, if_true, if_false, Bool.false_eq_true, and_true, true_and, and_false, false_and, or_true, true_or, or_false, false_or, not_true_eq_false, not_false_eq_true, bz]; rfl))
  · refine lv_aload_n hx hb dX7_staysWhole_16 rfl (lv_at hl 0 rfl) ?_
    refine getX hx hb hta inA7 hown hK hP 0 rfl rfl 0 (by decide) mw99 rfl rfl dX7_staysWhole_17 ?_
    refine lv_aload_n hx hb dX7_staysWhole_20 rfl (lv_at hl 0 rfl) ?_
    refine lv_iload_n hx hb dX7_staysWhole_21 rfl (lv_at hl 1 rfl) ?_
    refine lv_iconst (v := nI 1) hx hb dX7_staysWhole_22 (by decide) ?_
    refine k_X7_corner (Wd := 1) th tc mk mx my t0 1 tn cs mn xs ys hmn htn hcs ht0 (by omega) ⟨hx, hb, hml, hown, hta⟩ mw392 ⟨Nat.le_of_ble_eq_true rfl, Nat.le_of_ble_eq_true rfl⟩ hK hP hD [0, 1, 2, 3, 4] rfl rfl hl.1 (Nat.le_of_ble_eq_true rfl) dX7_staysWhole_23 ⟨Nat.le_of_ble_eq_true rfl, Nat.le_of_ble_eq_true rfl⟩ ?_
    refine k_X3_stays (Wd := 0) mk mx my (cn cs (3 * t0 + 1)) mn xs ys (by omega) ⟨hx, hb, hml, hown, hta⟩ mw644 ⟨Nat.le_of_ble_eq_true rfl, Nat.le_of_ble_eq_true rfl⟩ hK hP hD [2, 3, 4] rfl rfl hl.1 (Nat.le_of_ble_eq_true rfl) dX7_staysWhole_26 ⟨Nat.le_of_ble_eq_true rfl, Nat.le_of_ble_eq_true rfl⟩ ?_
    refine ifB_eq (tgt := 52) hx hb dX7_staysWhole_29 (by decide) (fun c_29 => ?_) (fun c_29 => ?_)
    · refine lv_iconst (v := nI 0) hx hb dX7_staysWhole_52 (by decide) ?_
      exact rRz hx hb hr hlocks dX7_staysWhole_53 (by first | (simp only [stT, c_13, c_29, decide_true, decide_false, Bool.true_or, Bool.or_true, Bool.false_or, Bool.or_false, Bool.true_and, Bool.and_true, Bool.false_and, Bool.and_false, Bool.not_true, Bool.not_false, if_true, if_false, Bool.false_eq_true, and_true, true_and, and_false, false_and, or_true, true_or, or_false, false_or, not_true_eq_false, not_false_eq_true, bz]; done) | (simp only [stT, c_13, c_29, decide_true, decide_false, Bool.true_or, Bool.or_true, Bool.false_or, Bool.or_false, Bool.true_and, Bool.and_true, Bool.false_and, Bool.and_false, Bool.not_true, Bool.not_false, if_true, if_false, Bool.false_eq_true, and_true, true_and, and_false, false_and, or_true, true_or, or_false, false_or, not_true_eq_false, not_false_eq_true, bz]; rfl))
    · refine lv_aload_n hx hb dX7_staysWhole_32 rfl (lv_at hl 0 rfl) ?_
      refine getX hx hb hta inA7 hown hK hP 0 rfl rfl 0 (by decide) mw99 rfl rfl dX7_staysWhole_33 ?_
      refine lv_aload_n hx hb dX7_staysWhole_36 rfl (lv_at hl 0 rfl) ?_
      refine lv_iload_n hx hb dX7_staysWhole_37 rfl (lv_at hl 1 rfl) ?_
      refine lv_iconst (v := nI 2) hx hb dX7_staysWhole_38 (by decide) ?_
      refine k_X7_corner (Wd := 1) th tc mk mx my t0 2 tn cs mn xs ys hmn htn hcs ht0 (by omega) ⟨hx, hb, hml, hown, hta⟩ mw392 ⟨Nat.le_of_ble_eq_true rfl, Nat.le_of_ble_eq_true rfl⟩ hK hP hD [0, 1, 2, 3, 4] rfl rfl hl.1 (Nat.le_of_ble_eq_true rfl) dX7_staysWhole_39 ⟨Nat.le_of_ble_eq_true rfl, Nat.le_of_ble_eq_true rfl⟩ ?_
      refine k_X3_stays (Wd := 0) mk mx my (cn cs (3 * t0 + 2)) mn xs ys (by omega) ⟨hx, hb, hml, hown, hta⟩ mw644 ⟨Nat.le_of_ble_eq_true rfl, Nat.le_of_ble_eq_true rfl⟩ hK hP hD [2, 3, 4] rfl rfl hl.1 (Nat.le_of_ble_eq_true rfl) dX7_staysWhole_42 ⟨Nat.le_of_ble_eq_true rfl, Nat.le_of_ble_eq_true rfl⟩ ?_
      refine ifB_eq (tgt := 52) hx hb dX7_staysWhole_45 (by decide) (fun c_45 => ?_) (fun c_45 => ?_)
      · refine lv_iconst (v := nI 0) hx hb dX7_staysWhole_52 (by decide) ?_
        exact rRz hx hb hr hlocks dX7_staysWhole_53 (by first | (simp only [stT, c_13, c_29, c_45, decide_true, decide_false, Bool.true_or, Bool.or_true, Bool.false_or, Bool.or_false, Bool.true_and, Bool.and_true, Bool.false_and, Bool.and_false, Bool.not_true, Bool.not_false, if_true, if_false, Bool.false_eq_true, and_true, true_and, and_false, false_and, or_true, true_or, or_false, false_or, not_true_eq_false, not_false_eq_true, bz]; done) | (simp only [stT, c_13, c_29, c_45, decide_true, decide_false, Bool.true_or, Bool.or_true, Bool.false_or, Bool.or_false, Bool.true_and, Bool.and_true, Bool.false_and, Bool.and_false, Bool.not_true, Bool.not_false, if_true, if_false, Bool.false_eq_true, and_true, true_and, and_false, false_and, or_true, true_or, or_false, false_or, not_true_eq_false, not_false_eq_true, bz]; rfl))
      · refine lv_iconst (v := nI 1) hx hb dX7_staysWhole_48 (by decide) ?_
        refine lv_goto (tgt := 53) hx hb dX7_staysWhole_49 (by decide) ?_
        exact rRz hx hb hr hlocks dX7_staysWhole_53 (by first | (simp only [stT, c_13, c_29, c_45, decide_true, decide_false, Bool.true_or, Bool.or_true, Bool.false_or, Bool.or_false, Bool.true_and, Bool.and_true, Bool.false_and, Bool.and_false, Bool.not_true, Bool.not_false, if_true, if_false, Bool.false_eq_true, and_true, true_and, and_false, false_and, or_true, true_or, or_false, false_or, not_true_eq_false, not_false_eq_true, bz]; done) | (simp only [stT, c_13, c_29, c_45, decide_true, decide_false, Bool.true_or, Bool.or_true, Bool.false_or, Bool.or_false, Bool.true_and, Bool.and_true, Bool.false_and, Bool.and_false, Bool.not_true, Bool.not_false, if_true, if_false, Bool.false_eq_true, and_true, true_and, and_false, false_and, or_true, true_or, or_false, false_or, not_true_eq_false, not_false_eq_true, bz]; rfl))
theorem k_X7_staysWhole {p : Program} {l : Launch} {e : Env} {R : Room} {s : State} {m : MethodId} {args : Array Value} {below : List Frame} {meth : Method} {c : Code} {H : Heap} {locs : List Loc} {cells slots : Nat} {Q : State → Prop} {pc : Nat} {ls : Array Slot} {rest : List Value} {cc : ByteArray} {nL index Wd : Nat} {own : String} {D : va_G} {cI : ClassId} {A : Nat → Prop} {ws : va_W} (th : Nat) (tc : Nat) (mk : Nat) (mx : Nat) (my : Nat) (t0 : Nat) (tn : Nat) (cs : Nat → Int32) (mn : Nat) (xs : Nat → Int32) (ys : Nat → Int32) (hmn : mn ≤ 16) (htn : tn ≤ 24) (hcs : CSok cs tn mn) (ht0 : t0 < tn) (S : CallFix p m c cc nL s args WA own) (hl : Cond.methodLink own index yX7_staysWhole ∈ WA) (hR : 2 + 1 ≤ R.frames ∧ Wd + (2 + 11) + 28 ≤ R.locals) (hK : KB D cI s) (hP : va_P D vwCl ws H) (hD : va_D A ws) (is : List Nat) (hs : is.map (fun i => ws[i]?) = ([(th, .inr (7, [.ref mk, .int (nI tn), .ref tc])), (tc, .inl (cI, 72, .inl cs)), (mk, .inr (3, [.int (nI mn), .ref mx, .ref my])), (mx, .inl (cI, 32, .inl xs)), (my, .inl (cI, 32, .inl ys))] : va_W).map some) (hnd : va_nd is = true) (hsz : ls.size = nL) (hW : (rest.map fun v => v.category).sum ≤ Wd) (hdg : decode cc pc = .ok (.invokevirtual index, 3)) (hcel : cells ≤ R.cells ∧ slots ≤ R.slots) (kk : W p l e R s m args below meth c H locs cells slots Q (F0 m (pc + 3) ls (.int (bz (stT cs xs ys t0)) :: rest))) : W p l e R s m args below meth c H locs cells slots Q (F0 m pc ls (.int (nI t0) :: .ref th :: rest)) :=
  kRV (n := 1) (As := [.int (nI t0)]) (ci := 7) S (c_X7_staysWhole l D cI th tc mk mx my t0 tn cs mn xs ys hmn htn hcs ht0) hl mw643 mw642 mw13 mw43 (by decide +kernel) hR rfl rfl rfl rfl hK hP hD is hs hnd hsz hW hdg hcel kk

set_option maxHeartbeats 4000000 in
set_option maxRecDepth 100000 in
theorem c_X7_kindOf (l : Launch) (D : va_G) (cI : ClassId) (th : Nat) (tc : Nat) (mk : Nat) (mx : Nat) (my : Nat) (t0 : Nat) (tn : Nat) (cs : Nat → Int32) (mn : Nat) (xs : Nat → Int32) (ys : Nat → Int32) (hmn : mn ≤ 16) (htn : tn ≤ 24) (hcs : CSok cs tn mn) (ht0 : t0 < tn) : CR l yX7_kindOf (wm yX7_kindOf cX7_kindOf 4 (some .int)) 3 41 D cI [.ref th, .int (nI t0)] [(th, .inr (7, [.ref mk, .int (nI tn), .ref tc])), (tc, .inl (cI, 72, .inl cs)), (mk, .inr (3, [.int (nI mn), .ref mx, .ref my])), (mx, .inl (cI, 32, .inl xs)), (my, .inl (cI, 32, .inl ys))] (some (.int (nI (kd cs xs ys t0)))) := by
  refine CR.of (by decide) (Nat.le_of_ble_eq_true rfl) ?_
  intro p e s m below meth c hx hb hr hml hown hlocks hta hP hD hK ls hl
  have hl : lv_has ls 4 [(0, .ref th), (1, .int (nI t0))] := hl
  have hP : va_P D vwCl [(th, .inr (7, [.ref mk, .int (nI tn), .ref tc])), (tc, .inl (cI, 72, .inl cs)), (mk, .inr (3, [.int (nI mn), .ref mx, .ref my])), (mx, .inl (cI, 32, .inl xs)), (my, .inl (cI, 32, .inl ys))] s.heap := hP
  refine lv_aload_n hx hb dX7_kindOf_0 rfl (lv_at hl 0 rfl) ?_
  refine lv_iload_n hx hb dX7_kindOf_1 rfl (lv_at hl 1 rfl) ?_
  refine lv_iconst (v := nI 0) hx hb dX7_kindOf_2 (by decide) ?_
  refine k_X7_areaIn (Wd := 0) th tc mk mx my t0 0 tn cs mn xs ys hmn htn hcs ht0 (by omega) ⟨hx, hb, hml, hown, hta⟩ mw639 ⟨Nat.le_of_ble_eq_true rfl, Nat.le_of_ble_eq_true rfl⟩ hK hP hD [0, 1, 2, 3, 4] rfl rfl hl.1 (Nat.le_of_ble_eq_true rfl) dX7_kindOf_3 ⟨Nat.le_of_ble_eq_true rfl, Nat.le_of_ble_eq_true rfl⟩ ?_
  refine lv_istore_n (lv' := [(2, .int (aIn cs xs ys t0 0)), (0, .ref th), (1, .int (nI t0))]) hx hb dX7_kindOf_6 rfl hl (by decide) rfl (fun ls hl => ?_)
  refine lv_aload_n hx hb dX7_kindOf_7 rfl (lv_at hl 1 rfl) ?_
  refine lv_iload_n hx hb dX7_kindOf_8 rfl (lv_at hl 2 rfl) ?_
  refine lv_iconst (v := nI 1) hx hb dX7_kindOf_9 (by decide) ?_
  refine k_X7_areaIn (Wd := 0) th tc mk mx my t0 1 tn cs mn xs ys hmn htn hcs ht0 (by omega) ⟨hx, hb, hml, hown, hta⟩ mw639 ⟨Nat.le_of_ble_eq_true rfl, Nat.le_of_ble_eq_true rfl⟩ hK hP hD [0, 1, 2, 3, 4] rfl rfl hl.1 (Nat.le_of_ble_eq_true rfl) dX7_kindOf_10 ⟨Nat.le_of_ble_eq_true rfl, Nat.le_of_ble_eq_true rfl⟩ ?_
  refine lv_istore_n (lv' := [(3, .int (aIn cs xs ys t0 1)), (2, .int (aIn cs xs ys t0 0)), (0, .ref th), (1, .int (nI t0))]) hx hb dX7_kindOf_13 rfl hl (by decide) rfl (fun ls hl => ?_)
  refine lv_iload_n hx hb dX7_kindOf_14 rfl (lv_at hl 1 rfl) ?_
  refine ifI_le (tgt := 36) hx hb dX7_kindOf_15 (by decide) (fun c_15 => ?_) (fun c_15 => ?_)
  · refine lv_iload_n hx hb dX7_kindOf_36 rfl (lv_at hl 1 rfl) ?_
    refine ifI_eq (tgt := 44) hx hb dX7_kindOf_37 (by decide) (fun c_37 => ?_) (fun c_37 => ?_)
    · refine lv_iconst (v := nI 3) hx hb dX7_kindOf_44 (by decide) ?_
      refine lv_goto (tgt := 49) hx hb dX7_kindOf_45 (by decide) ?_
      exact rRi hx hb hr hlocks dX7_kindOf_49 (by first | (simp only [kd, eq_false c_15, eq_true c_37, decide_true, decide_false, Bool.true_or, Bool.or_true, Bool.false_or, Bool.or_false, Bool.true_and, Bool.and_true, Bool.false_and, Bool.and_false, Bool.not_true, Bool.not_false, if_true, if_false, Bool.false_eq_true, and_true, true_and, and_false, false_and, or_true, true_or, or_false, false_or, not_true_eq_false, not_false_eq_true, bz]; done) | (simp only [kd, eq_false c_15, eq_true c_37, decide_true, decide_false, Bool.true_or, Bool.or_true, Bool.false_or, Bool.or_false, Bool.true_and, Bool.and_true, Bool.false_and, Bool.and_false, Bool.not_true, Bool.not_false, if_true, if_false, Bool.false_eq_true, and_true, true_and, and_false, false_and, or_true, true_or, or_false, false_or, not_true_eq_false, not_false_eq_true, bz]; rfl))
    · refine lv_iload_n hx hb dX7_kindOf_40 rfl (lv_at hl 0 rfl) ?_
      refine ifI_ne (tgt := 48) hx hb dX7_kindOf_41 (by decide) (fun c_41 => ?_) (fun c_41 => ?_)
      · refine lv_iconst (v := nI 4) hx hb dX7_kindOf_48 (by decide) ?_
        exact rRi hx hb hr hlocks dX7_kindOf_49 (by first | (simp only [kd, eq_false c_15, eq_false c_37, eq_false c_41, decide_true, decide_false, Bool.true_or, Bool.or_true, Bool.false_or, Bool.or_false, Bool.true_and, Bool.and_true, Bool.false_and, Bool.and_false, Bool.not_true, Bool.not_false, if_true, if_false, Bool.false_eq_true, and_true, true_and, and_false, false_and, or_true, true_or, or_false, false_or, not_true_eq_false, not_false_eq_true, bz]; done) | (simp only [kd, eq_false c_15, eq_false c_37, eq_false c_41, decide_true, decide_false, Bool.true_or, Bool.or_true, Bool.false_or, Bool.or_false, Bool.true_and, Bool.and_true, Bool.false_and, Bool.and_false, Bool.not_true, Bool.not_false, if_true, if_false, Bool.false_eq_true, and_true, true_and, and_false, false_and, or_true, true_or, or_false, false_or, not_true_eq_false, not_false_eq_true, bz]; rfl))
      · refine lv_iconst (v := nI 3) hx hb dX7_kindOf_44 (by decide) ?_
        refine lv_goto (tgt := 49) hx hb dX7_kindOf_45 (by decide) ?_
        exact rRi hx hb hr hlocks dX7_kindOf_49 (by first | (simp only [kd, eq_false c_15, eq_false c_37, eq_true c_41, decide_true, decide_false, Bool.true_or, Bool.or_true, Bool.false_or, Bool.or_false, Bool.true_and, Bool.and_true, Bool.false_and, Bool.and_false, Bool.not_true, Bool.not_false, if_true, if_false, Bool.false_eq_true, and_true, true_and, and_false, false_and, or_true, true_or, or_false, false_or, not_true_eq_false, not_false_eq_true, bz]; done) | (simp only [kd, eq_false c_15, eq_false c_37, eq_true c_41, decide_true, decide_false, Bool.true_or, Bool.or_true, Bool.false_or, Bool.or_false, Bool.true_and, Bool.and_true, Bool.false_and, Bool.and_false, Bool.not_true, Bool.not_false, if_true, if_false, Bool.false_eq_true, and_true, true_and, and_false, false_and, or_true, true_or, or_false, false_or, not_true_eq_false, not_false_eq_true, bz]; rfl))
  · refine lv_iload_n hx hb dX7_kindOf_18 rfl (lv_at hl 0 rfl) ?_
    refine ifI_le (tgt := 36) hx hb dX7_kindOf_19 (by decide) (fun c_19 => ?_) (fun c_19 => ?_)
    · refine lv_iload_n hx hb dX7_kindOf_36 rfl (lv_at hl 1 rfl) ?_
      refine ifI_eq (tgt := 44) hx hb dX7_kindOf_37 (by decide) (fun c_37 => ?_) (fun c_37 => ?_)
      · refine lv_iconst (v := nI 3) hx hb dX7_kindOf_44 (by decide) ?_
        refine lv_goto (tgt := 49) hx hb dX7_kindOf_45 (by decide) ?_
        exact rRi hx hb hr hlocks dX7_kindOf_49 (by first | (simp only [kd, eq_true c_15, eq_false c_19, eq_true c_37, decide_true, decide_false, Bool.true_or, Bool.or_true, Bool.false_or, Bool.or_false, Bool.true_and, Bool.and_true, Bool.false_and, Bool.and_false, Bool.not_true, Bool.not_false, if_true, if_false, Bool.false_eq_true, and_true, true_and, and_false, false_and, or_true, true_or, or_false, false_or, not_true_eq_false, not_false_eq_true, bz]; done) | (simp only [kd, eq_true c_15, eq_false c_19, eq_true c_37, decide_true, decide_false, Bool.true_or, Bool.or_true, Bool.false_or, Bool.or_false, Bool.true_and, Bool.and_true, Bool.false_and, Bool.and_false, Bool.not_true, Bool.not_false, if_true, if_false, Bool.false_eq_true, and_true, true_and, and_false, false_and, or_true, true_or, or_false, false_or, not_true_eq_false, not_false_eq_true, bz]; rfl))
      · refine lv_iload_n hx hb dX7_kindOf_40 rfl (lv_at hl 0 rfl) ?_
        refine ifI_ne (tgt := 48) hx hb dX7_kindOf_41 (by decide) (fun c_41 => ?_) (fun c_41 => ?_)
        · refine lv_iconst (v := nI 4) hx hb dX7_kindOf_48 (by decide) ?_
          exact rRi hx hb hr hlocks dX7_kindOf_49 (by first | (simp only [kd, eq_true c_15, eq_false c_19, eq_false c_37, eq_false c_41, decide_true, decide_false, Bool.true_or, Bool.or_true, Bool.false_or, Bool.or_false, Bool.true_and, Bool.and_true, Bool.false_and, Bool.and_false, Bool.not_true, Bool.not_false, if_true, if_false, Bool.false_eq_true, and_true, true_and, and_false, false_and, or_true, true_or, or_false, false_or, not_true_eq_false, not_false_eq_true, bz]; done) | (simp only [kd, eq_true c_15, eq_false c_19, eq_false c_37, eq_false c_41, decide_true, decide_false, Bool.true_or, Bool.or_true, Bool.false_or, Bool.or_false, Bool.true_and, Bool.and_true, Bool.false_and, Bool.and_false, Bool.not_true, Bool.not_false, if_true, if_false, Bool.false_eq_true, and_true, true_and, and_false, false_and, or_true, true_or, or_false, false_or, not_true_eq_false, not_false_eq_true, bz]; rfl))
        · refine lv_iconst (v := nI 3) hx hb dX7_kindOf_44 (by decide) ?_
          refine lv_goto (tgt := 49) hx hb dX7_kindOf_45 (by decide) ?_
          exact rRi hx hb hr hlocks dX7_kindOf_49 (by first | (simp only [kd, eq_true c_15, eq_false c_19, eq_false c_37, eq_true c_41, decide_true, decide_false, Bool.true_or, Bool.or_true, Bool.false_or, Bool.or_false, Bool.true_and, Bool.and_true, Bool.false_and, Bool.and_false, Bool.not_true, Bool.not_false, if_true, if_false, Bool.false_eq_true, and_true, true_and, and_false, false_and, or_true, true_or, or_false, false_or, not_true_eq_false, not_false_eq_true, bz]; done) | (simp only [kd, eq_true c_15, eq_false c_19, eq_false c_37, eq_true c_41, decide_true, decide_false, Bool.true_or, Bool.or_true, Bool.false_or, Bool.or_false, Bool.true_and, Bool.and_true, Bool.false_and, Bool.and_false, Bool.not_true, Bool.not_false, if_true, if_false, Bool.false_eq_true, and_true, true_and, and_false, false_and, or_true, true_or, or_false, false_or, not_true_eq_false, not_false_eq_true, bz]; rfl))
    · refine lv_aload_n hx hb dX7_kindOf_22 rfl (lv_at hl 2 rfl) ?_
      refine lv_iload_n hx hb dX7_kindOf_23 rfl (lv_at hl 3 rfl) ?_
      refine k_X7_staysWhole (Wd := 0) th tc mk mx my t0 tn cs mn xs ys hmn htn hcs ht0 ⟨hx, hb, hml, hown, hta⟩ mw640 ⟨Nat.le_of_ble_eq_true rfl, Nat.le_of_ble_eq_true rfl⟩ hK hP hD [0, 1, 2, 3, 4] rfl rfl hl.1 (Nat.le_of_ble_eq_true rfl) dX7_kindOf_24 ⟨Nat.le_of_ble_eq_true rfl, Nat.le_of_ble_eq_true rfl⟩ ?_
      refine ifB_eq (tgt := 34) hx hb dX7_kindOf_27 (by decide) (fun c_27 => ?_) (fun c_27 => ?_)
      · refine lv_iconst (v := nI 1) hx hb dX7_kindOf_34 (by decide) ?_
        exact rRi hx hb hr hlocks dX7_kindOf_35 (by first | (simp only [kd, eq_true c_15, eq_true c_19, c_27, decide_true, decide_false, Bool.true_or, Bool.or_true, Bool.false_or, Bool.or_false, Bool.true_and, Bool.and_true, Bool.false_and, Bool.and_false, Bool.not_true, Bool.not_false, if_true, if_false, Bool.false_eq_true, and_true, true_and, and_false, false_and, or_true, true_or, or_false, false_or, not_true_eq_false, not_false_eq_true, bz]; done) | (simp only [kd, eq_true c_15, eq_true c_19, c_27, decide_true, decide_false, Bool.true_or, Bool.or_true, Bool.false_or, Bool.or_false, Bool.true_and, Bool.and_true, Bool.false_and, Bool.and_false, Bool.not_true, Bool.not_false, if_true, if_false, Bool.false_eq_true, and_true, true_and, and_false, false_and, or_true, true_or, or_false, false_or, not_true_eq_false, not_false_eq_true, bz]; rfl))
      · refine lv_iconst (v := nI 2) hx hb dX7_kindOf_30 (by decide) ?_
        refine lv_goto (tgt := 35) hx hb dX7_kindOf_31 (by decide) ?_
        exact rRi hx hb hr hlocks dX7_kindOf_35 (by first | (simp only [kd, eq_true c_15, eq_true c_19, c_27, decide_true, decide_false, Bool.true_or, Bool.or_true, Bool.false_or, Bool.or_false, Bool.true_and, Bool.and_true, Bool.false_and, Bool.and_false, Bool.not_true, Bool.not_false, if_true, if_false, Bool.false_eq_true, and_true, true_and, and_false, false_and, or_true, true_or, or_false, false_or, not_true_eq_false, not_false_eq_true, bz]; done) | (simp only [kd, eq_true c_15, eq_true c_19, c_27, decide_true, decide_false, Bool.true_or, Bool.or_true, Bool.false_or, Bool.or_false, Bool.true_and, Bool.and_true, Bool.false_and, Bool.and_false, Bool.not_true, Bool.not_false, if_true, if_false, Bool.false_eq_true, and_true, true_and, and_false, false_and, or_true, true_or, or_false, false_or, not_true_eq_false, not_false_eq_true, bz]; rfl))
theorem k_X7_kindOf {p : Program} {l : Launch} {e : Env} {R : Room} {s : State} {m : MethodId} {args : Array Value} {below : List Frame} {meth : Method} {c : Code} {H : Heap} {locs : List Loc} {cells slots : Nat} {Q : State → Prop} {pc : Nat} {ls : Array Slot} {rest : List Value} {cc : ByteArray} {nL index Wd : Nat} {own : String} {D : va_G} {cI : ClassId} {A : Nat → Prop} {ws : va_W} (th : Nat) (tc : Nat) (mk : Nat) (mx : Nat) (my : Nat) (t0 : Nat) (tn : Nat) (cs : Nat → Int32) (mn : Nat) (xs : Nat → Int32) (ys : Nat → Int32) (hmn : mn ≤ 16) (htn : tn ≤ 24) (hcs : CSok cs tn mn) (ht0 : t0 < tn) (S : CallFix p m c cc nL s args WA own) (hl : Cond.methodLink own index yX7_kindOf ∈ WA) (hR : 3 + 1 ≤ R.frames ∧ Wd + (4 + 11) + 41 ≤ R.locals) (hK : KB D cI s) (hP : va_P D vwCl ws H) (hD : va_D A ws) (is : List Nat) (hs : is.map (fun i => ws[i]?) = ([(th, .inr (7, [.ref mk, .int (nI tn), .ref tc])), (tc, .inl (cI, 72, .inl cs)), (mk, .inr (3, [.int (nI mn), .ref mx, .ref my])), (mx, .inl (cI, 32, .inl xs)), (my, .inl (cI, 32, .inl ys))] : va_W).map some) (hnd : va_nd is = true) (hsz : ls.size = nL) (hW : (rest.map fun v => v.category).sum ≤ Wd) (hdg : decode cc pc = .ok (.invokevirtual index, 3)) (hcel : cells ≤ R.cells ∧ slots ≤ R.slots) (kk : W p l e R s m args below meth c H locs cells slots Q (F0 m (pc + 3) ls (.int (nI (kd cs xs ys t0)) :: rest))) : W p l e R s m args below meth c H locs cells slots Q (F0 m pc ls (.int (nI t0) :: .ref th :: rest)) :=
  kRV (n := 1) (As := [.int (nI t0)]) (ci := 7) S (c_X7_kindOf l D cI th tc mk mx my t0 tn cs mn xs ys hmn htn hcs ht0) hl mw638 mw636 mw637 mw43 (by decide +kernel) hR rfl rfl rfl rfl hK hP hD is hs hnd hsz hW hdg hcel kk

set_option maxHeartbeats 4000000 in
set_option maxRecDepth 100000 in
theorem c_X7_isOf (l : Launch) (D : va_G) (cI : ClassId) (th : Nat) (tc : Nat) (mk : Nat) (mx : Nat) (my : Nat) (t0 : Nat) (k0 : Nat) (tn : Nat) (cs : Nat → Int32) (mn : Nat) (xs : Nat → Int32) (ys : Nat → Int32) (hmn : mn ≤ 16) (htn : tn ≤ 24) (hcs : CSok cs tn mn) (ht0 : t0 < tn) (hk0 : k0 ≤ 4) : CR l yX7_isOf (wm yX7_isOf cX7_isOf 4 (some .boolean)) 4 56 D cI [.ref th, .int (nI t0), .int (nI k0)] [(th, .inr (7, [.ref mk, .int (nI tn), .ref tc])), (tc, .inl (cI, 72, .inl cs)), (mk, .inr (3, [.int (nI mn), .ref mx, .ref my])), (mx, .inl (cI, 32, .inl xs)), (my, .inl (cI, 32, .inl ys))] (some (.int (bz (ofK (kd cs xs ys t0) k0)))) := by
  refine CR.of (by decide) (Nat.le_of_ble_eq_true rfl) ?_
  intro p e s m below meth c hx hb hr hml hown hlocks hta hP hD hK ls hl
  have hl : lv_has ls 4 [(0, .ref th), (1, .int (nI t0)), (2, .int (nI k0))] := hl
  have hP : va_P D vwCl [(th, .inr (7, [.ref mk, .int (nI tn), .ref tc])), (tc, .inl (cI, 72, .inl cs)), (mk, .inr (3, [.int (nI mn), .ref mx, .ref my])), (mx, .inl (cI, 32, .inl xs)), (my, .inl (cI, 32, .inl ys))] s.heap := hP
  have hkd := kd_le cs xs ys t0
  refine lv_aload_n hx hb dX7_isOf_0 rfl (lv_at hl 0 rfl) ?_
  refine lv_iload_n hx hb dX7_isOf_1 rfl (lv_at hl 1 rfl) ?_
  refine k_X7_kindOf (Wd := 0) th tc mk mx my t0 tn cs mn xs ys hmn htn hcs ht0 ⟨hx, hb, hml, hown, hta⟩ mw656 ⟨Nat.le_of_ble_eq_true rfl, Nat.le_of_ble_eq_true rfl⟩ hK hP hD [0, 1, 2, 3, 4] rfl rfl hl.1 (Nat.le_of_ble_eq_true rfl) dX7_isOf_2 ⟨Nat.le_of_ble_eq_true rfl, Nat.le_of_ble_eq_true rfl⟩ ?_
  refine lv_istore_n (lv' := [(3, .int (nI (kd cs xs ys t0))), (0, .ref th), (1, .int (nI t0)), (2, .int (nI k0))]) hx hb dX7_isOf_5 rfl hl (by decide) rfl (fun ls hl => ?_)
  refine lv_iload_n hx hb dX7_isOf_6 rfl (lv_at hl 3 rfl) ?_
  refine ifN_eq (tgt := 25) hx hb dX7_isOf_7 (by decide) (by omega) (fun c_7 => ?_) (fun c_7 => ?_)
  · refine lv_iconst (v := nI 1) hx hb dX7_isOf_25 (by decide) ?_
    refine lv_goto (tgt := 30) hx hb dX7_isOf_26 (by decide) ?_
    exact rRz hx hb hr hlocks dX7_isOf_30 (by first | (simp only [ofK, eq_true c_7, decide_true, decide_false, Bool.true_or, Bool.or_true, Bool.false_or, Bool.or_false, Bool.true_and, Bool.and_true, Bool.false_and, Bool.and_false, Bool.not_true, Bool.not_false, if_true, if_false, Bool.false_eq_true, and_true, true_and, and_false, false_and, or_true, true_or, or_false, false_or, not_true_eq_false, not_false_eq_true, bz]; done) | (simp only [ofK, eq_true c_7, decide_true, decide_false, Bool.true_or, Bool.or_true, Bool.false_or, Bool.or_false, Bool.true_and, Bool.and_true, Bool.false_and, Bool.and_false, Bool.not_true, Bool.not_false, if_true, if_false, Bool.false_eq_true, and_true, true_and, and_false, false_and, or_true, true_or, or_false, false_or, not_true_eq_false, not_false_eq_true, bz]; rfl))
  · refine lv_iload_n hx hb dX7_isOf_10 rfl (lv_at hl 3 rfl) ?_
    refine lv_iload_n hx hb dX7_isOf_11 rfl (lv_at hl 0 rfl) ?_
    refine icmpN_eq (tgt := 25) hx hb dX7_isOf_12 (by decide) (by omega) (by omega) (fun c_12 => ?_) (fun c_12 => ?_)
    · refine lv_iconst (v := nI 1) hx hb dX7_isOf_25 (by decide) ?_
      refine lv_goto (tgt := 30) hx hb dX7_isOf_26 (by decide) ?_
      exact rRz hx hb hr hlocks dX7_isOf_30 (by first | (simp only [ofK, eq_false c_7, eq_true c_12, decide_true, decide_false, Bool.true_or, Bool.or_true, Bool.false_or, Bool.or_false, Bool.true_and, Bool.and_true, Bool.false_and, Bool.and_false, Bool.not_true, Bool.not_false, if_true, if_false, Bool.false_eq_true, and_true, true_and, and_false, false_and, or_true, true_or, or_false, false_or, not_true_eq_false, not_false_eq_true, bz]; done) | (simp only [ofK, eq_false c_7, eq_true c_12, decide_true, decide_false, Bool.true_or, Bool.or_true, Bool.false_or, Bool.or_false, Bool.true_and, Bool.and_true, Bool.false_and, Bool.and_false, Bool.not_true, Bool.not_false, if_true, if_false, Bool.false_eq_true, and_true, true_and, and_false, false_and, or_true, true_or, or_false, false_or, not_true_eq_false, not_false_eq_true, bz]; rfl))
    · refine lv_iload_n hx hb dX7_isOf_15 rfl (lv_at hl 3 rfl) ?_
      refine lv_iconst (v := nI 1) hx hb dX7_isOf_16 (by decide) ?_
      refine icmpN_ne (tgt := 29) hx hb dX7_isOf_17 (by decide) (by omega) (by omega) (fun c_17 => ?_) (fun c_17 => ?_)
      · refine lv_iconst (v := nI 0) hx hb dX7_isOf_29 (by decide) ?_
        exact rRz hx hb hr hlocks dX7_isOf_30 (by first | (simp only [ofK, eq_false c_7, eq_false c_12, eq_false c_17, decide_true, decide_false, Bool.true_or, Bool.or_true, Bool.false_or, Bool.or_false, Bool.true_and, Bool.and_true, Bool.false_and, Bool.and_false, Bool.not_true, Bool.not_false, if_true, if_false, Bool.false_eq_true, and_true, true_and, and_false, false_and, or_true, true_or, or_false, false_or, not_true_eq_false, not_false_eq_true, bz]; done) | (simp only [ofK, eq_false c_7, eq_false c_12, eq_false c_17, decide_true, decide_false, Bool.true_or, Bool.or_true, Bool.false_or, Bool.or_false, Bool.true_and, Bool.and_true, Bool.false_and, Bool.and_false, Bool.not_true, Bool.not_false, if_true, if_false, Bool.false_eq_true, and_true, true_and, and_false, false_and, or_true, true_or, or_false, false_or, not_true_eq_false, not_false_eq_true, bz]; rfl))
      · refine lv_iload_n hx hb dX7_isOf_20 rfl (lv_at hl 0 rfl) ?_
        refine lv_iconst (v := nI 2) hx hb dX7_isOf_21 (by decide) ?_
        refine icmpN_ne (tgt := 29) hx hb dX7_isOf_22 (by decide) (by omega) (by omega) (fun c_22 => ?_) (fun c_22 => ?_)
        · refine lv_iconst (v := nI 0) hx hb dX7_isOf_29 (by decide) ?_
          exact rRz hx hb hr hlocks dX7_isOf_30 (by first | (simp only [ofK, eq_false c_7, eq_false c_12, eq_true c_17, eq_false c_22, decide_true, decide_false, Bool.true_or, Bool.or_true, Bool.false_or, Bool.or_false, Bool.true_and, Bool.and_true, Bool.false_and, Bool.and_false, Bool.not_true, Bool.not_false, if_true, if_false, Bool.false_eq_true, and_true, true_and, and_false, false_and, or_true, true_or, or_false, false_or, not_true_eq_false, not_false_eq_true, bz]; done) | (simp only [ofK, eq_false c_7, eq_false c_12, eq_true c_17, eq_false c_22, decide_true, decide_false, Bool.true_or, Bool.or_true, Bool.false_or, Bool.or_false, Bool.true_and, Bool.and_true, Bool.false_and, Bool.and_false, Bool.not_true, Bool.not_false, if_true, if_false, Bool.false_eq_true, and_true, true_and, and_false, false_and, or_true, true_or, or_false, false_or, not_true_eq_false, not_false_eq_true, bz]; rfl))
        · refine lv_iconst (v := nI 1) hx hb dX7_isOf_25 (by decide) ?_
          refine lv_goto (tgt := 30) hx hb dX7_isOf_26 (by decide) ?_
          exact rRz hx hb hr hlocks dX7_isOf_30 (by first | (simp only [ofK, eq_false c_7, eq_false c_12, eq_true c_17, eq_true c_22, decide_true, decide_false, Bool.true_or, Bool.or_true, Bool.false_or, Bool.or_false, Bool.true_and, Bool.and_true, Bool.false_and, Bool.and_false, Bool.not_true, Bool.not_false, if_true, if_false, Bool.false_eq_true, and_true, true_and, and_false, false_and, or_true, true_or, or_false, false_or, not_true_eq_false, not_false_eq_true, bz]; done) | (simp only [ofK, eq_false c_7, eq_false c_12, eq_true c_17, eq_true c_22, decide_true, decide_false, Bool.true_or, Bool.or_true, Bool.false_or, Bool.or_false, Bool.true_and, Bool.and_true, Bool.false_and, Bool.and_false, Bool.not_true, Bool.not_false, if_true, if_false, Bool.false_eq_true, and_true, true_and, and_false, false_and, or_true, true_or, or_false, false_or, not_true_eq_false, not_false_eq_true, bz]; rfl))
theorem k_X7_isOf {p : Program} {l : Launch} {e : Env} {R : Room} {s : State} {m : MethodId} {args : Array Value} {below : List Frame} {meth : Method} {c : Code} {H : Heap} {locs : List Loc} {cells slots : Nat} {Q : State → Prop} {pc : Nat} {ls : Array Slot} {rest : List Value} {cc : ByteArray} {nL index Wd : Nat} {own : String} {D : va_G} {cI : ClassId} {A : Nat → Prop} {ws : va_W} (th : Nat) (tc : Nat) (mk : Nat) (mx : Nat) (my : Nat) (t0 : Nat) (k0 : Nat) (tn : Nat) (cs : Nat → Int32) (mn : Nat) (xs : Nat → Int32) (ys : Nat → Int32) (hmn : mn ≤ 16) (htn : tn ≤ 24) (hcs : CSok cs tn mn) (ht0 : t0 < tn) (hk0 : k0 ≤ 4) (S : CallFix p m c cc nL s args WA own) (hl : Cond.methodLink own index yX7_isOf ∈ WA) (hR : 4 + 1 ≤ R.frames ∧ Wd + (4 + 11) + 56 ≤ R.locals) (hK : KB D cI s) (hP : va_P D vwCl ws H) (hD : va_D A ws) (is : List Nat) (hs : is.map (fun i => ws[i]?) = ([(th, .inr (7, [.ref mk, .int (nI tn), .ref tc])), (tc, .inl (cI, 72, .inl cs)), (mk, .inr (3, [.int (nI mn), .ref mx, .ref my])), (mx, .inl (cI, 32, .inl xs)), (my, .inl (cI, 32, .inl ys))] : va_W).map some) (hnd : va_nd is = true) (hsz : ls.size = nL) (hW : (rest.map fun v => v.category).sum ≤ Wd) (hdg : decode cc pc = .ok (.invokevirtual index, 3)) (hcel : cells ≤ R.cells ∧ slots ≤ R.slots) (kk : W p l e R s m args below meth c H locs cells slots Q (F0 m (pc + 3) ls (.int (bz (ofK (kd cs xs ys t0) k0)) :: rest))) : W p l e R s m args below meth c H locs cells slots Q (F0 m pc ls (.int (nI k0) :: .int (nI t0) :: .ref th :: rest)) :=
  kRV (n := 2) (As := [.int (nI t0), .int (nI k0)]) (ci := 7) S (c_X7_isOf l D cI th tc mk mx my t0 k0 tn cs mn xs ys hmn htn hcs ht0 hk0) hl mw655 mw653 mw654 mw43 (by decide +kernel) hR rfl rfl rfl rfl hK hP hD is hs hnd hsz hW hdg hcel kk

set_option maxHeartbeats 4000000 in
set_option maxRecDepth 100000 in
theorem c_X7_manyOf (l : Launch) (D : va_G) (cI : ClassId) (th : Nat) (tc : Nat) (mk : Nat) (mx : Nat) (my : Nat) (k0 : Nat) (tn : Nat) (cs : Nat → Int32) (mn : Nat) (xs : Nat → Int32) (ys : Nat → Int32) (hmn : mn ≤ 16) (htn : tn ≤ 24) (hcs : CSok cs tn mn) (hk0 : k0 ≤ 4) : CR l yX7_manyOf (wm yX7_manyOf cX7_manyOf 4 (some .int)) 5 71 D cI [.ref th, .int (nI k0)] [(th, .inr (7, [.ref mk, .int (nI tn), .ref tc])), (tc, .inl (cI, 72, .inl cs)), (mk, .inr (3, [.int (nI mn), .ref mx, .ref my])), (mx, .inl (cI, 32, .inl xs)), (my, .inl (cI, 32, .inl ys))] (some (.int (nI (cntF (fun t => ofK (kd cs xs ys t) k0) 0 0 tn)))) := by
  refine CR.of (by decide) (Nat.le_of_ble_eq_true rfl) ?_
  intro p e s m below meth c hx hb hr hml hown hlocks hta hP hD hK ls hl
  have hl : lv_has ls 4 [(0, .ref th), (1, .int (nI k0))] := hl
  have hP : va_P D vwCl [(th, .inr (7, [.ref mk, .int (nI tn), .ref tc])), (tc, .inl (cI, 72, .inl cs)), (mk, .inr (3, [.int (nI mn), .ref mx, .ref my])), (mx, .inl (cI, 32, .inl xs)), (my, .inl (cI, 32, .inl ys))] s.heap := hP
  refine lv_iconst (v := nI 0) hx hb dX7_manyOf_0 (by decide) ?_
  refine lv_istore_n (lv' := [(2, .int (nI 0)), (0, .ref th), (1, .int (nI k0))]) hx hb dX7_manyOf_1 rfl hl (by decide) rfl (fun ls hl => ?_)
  refine lv_iconst (v := nI 0) hx hb dX7_manyOf_2 (by decide) ?_
  refine lv_istore_n (lv' := [(3, .int (nI 0)), (2, .int (nI 0)), (0, .ref th), (1, .int (nI k0))]) hx hb dX7_manyOf_3 rfl hl (by decide) rfl (fun ls hl => ?_)
  have loop_4 : ∀ (r : Nat) (k : Nat) (y : Nat), (k + r = tn) → (cntF (fun t => ofK (kd cs xs ys t) k0) 0 0 tn = cntF (fun t => ofK (kd cs xs ys t) k0) y k r) → ∀ ls : Array Slot, lv_has ls 4 [(3, .int (nI k)), (2, .int (nI y)), (0, .ref th), (1, .int (nI k0))] → W p l e (rmZ 5 71) s m ([.ref th, .int (nI k0)] : List Value).toArray below meth c s.heap [] 0 0 (MQ below (QR (some (.int (nI (cntF (fun t => ofK (kd cs xs ys t) k0) 0 0 tn))))) ([.ref th, .int (nI k0)] : List Value).toArray s 0 0 (fun _ => False)) (F0 m 4 ls []) := by
    intro r
    induction r with
    | zero =>
      intro k y ix_k hA ls hl
      refine lv_iload_n hx hb dX7_manyOf_4 rfl (lv_at hl 0 rfl) ?_
      refine lv_aload_n hx hb dX7_manyOf_5 rfl (lv_at hl 2 rfl) ?_
      refine getX hx hb hta inA7 hown hK hP 0 rfl rfl 1 (by decide) mw100 rfl rfl dX7_manyOf_6 ?_
      refine icmpN_ge (tgt := 30) hx hb dX7_manyOf_9 (by decide) (by omega) (by omega) (fun c_9 => ?_) (fun c_9 => ?_)
      · refine lv_iload_n hx hb dX7_manyOf_30 rfl (lv_at hl 1 rfl) ?_
        exact rRi hx hb hr hlocks dX7_manyOf_31 (by first | (simp only [hA, cntF, eq_false c_9, decide_true, decide_false, Bool.true_or, Bool.or_true, Bool.false_or, Bool.or_false, Bool.true_and, Bool.and_true, Bool.false_and, Bool.and_false, Bool.not_true, Bool.not_false, if_true, if_false, Bool.false_eq_true, and_true, true_and, and_false, false_and, or_true, true_or, or_false, false_or, not_true_eq_false, not_false_eq_true, bz]; done) | (simp only [hA, cntF, eq_false c_9, decide_true, decide_false, Bool.true_or, Bool.or_true, Bool.false_or, Bool.or_false, Bool.true_and, Bool.and_true, Bool.false_and, Bool.and_false, Bool.not_true, Bool.not_false, if_true, if_false, Bool.false_eq_true, and_true, true_and, and_false, false_and, or_true, true_or, or_false, false_or, not_true_eq_false, not_false_eq_true, bz]; rfl))
      · exact (by omega : False).elim
    | succ r ih_4 =>
      intro k y ix_k hA ls hl
      refine lv_iload_n hx hb dX7_manyOf_4 rfl (lv_at hl 0 rfl) ?_
      refine lv_aload_n hx hb dX7_manyOf_5 rfl (lv_at hl 2 rfl) ?_
      refine getX hx hb hta inA7 hown hK hP 0 rfl rfl 1 (by decide) mw100 rfl rfl dX7_manyOf_6 ?_
      refine icmpN_ge (tgt := 30) hx hb dX7_manyOf_9 (by decide) (by omega) (by omega) (fun c_9 => ?_) (fun c_9 => ?_)
      · exact (by omega : False).elim
      · refine lv_aload_n hx hb dX7_manyOf_12 rfl (lv_at hl 2 rfl) ?_
        refine lv_iload_n hx hb dX7_manyOf_13 rfl (lv_at hl 0 rfl) ?_
        refine lv_iload_n hx hb dX7_manyOf_14 rfl (lv_at hl 3 rfl) ?_
        refine k_X7_isOf (Wd := 0) th tc mk mx my k k0 tn cs mn xs ys hmn htn hcs (by omega) hk0 ⟨hx, hb, hml, hown, hta⟩ mw732 ⟨Nat.le_of_ble_eq_true rfl, Nat.le_of_ble_eq_true rfl⟩ hK hP hD [0, 1, 2, 3, 4] rfl rfl hl.1 (Nat.le_of_ble_eq_true rfl) dX7_manyOf_15 ⟨Nat.le_of_ble_eq_true rfl, Nat.le_of_ble_eq_true rfl⟩ ?_
        refine ifB_eq (tgt := 24) hx hb dX7_manyOf_18 (by decide) (fun c_18 => ?_) (fun c_18 => ?_)
        · refine lv_iinc (v := nI (k + 1)) (lv' := [(3, .int (nI (k + 1))), (2, .int (nI y)), (0, .ref th), (1, .int (nI k0))]) hx hb dX7_manyOf_24 hl (k := 0) rfl (nI_inc1 _) (by decide) rfl (fun ls hl => ?_)
          refine lv_goto (tgt := 4) hx hb dX7_manyOf_27 (by decide) ?_
          exact ih_4 (k + 1) y (by omega) (hA.trans (by first | (simp only [cntF, eq_true c_9, c_18, decide_true, decide_false, Bool.true_or, Bool.or_true, Bool.false_or, Bool.or_false, Bool.true_and, Bool.and_true, Bool.false_and, Bool.and_false, Bool.not_true, Bool.not_false, if_true, if_false, Bool.false_eq_true, and_true, true_and, and_false, false_and, or_true, true_or, or_false, false_or, not_true_eq_false, not_false_eq_true, bz]; done) | (simp only [cntF, eq_true c_9, c_18, decide_true, decide_false, Bool.true_or, Bool.or_true, Bool.false_or, Bool.or_false, Bool.true_and, Bool.and_true, Bool.false_and, Bool.and_false, Bool.not_true, Bool.not_false, if_true, if_false, Bool.false_eq_true, and_true, true_and, and_false, false_and, or_true, true_or, or_false, false_or, not_true_eq_false, not_false_eq_true, bz]; rfl))) ls (lv_sub hl [0, 1, 2, 3] rfl)
        · refine lv_iinc (v := nI (y + 1)) (lv' := [(2, .int (nI (y + 1))), (3, .int (nI k)), (0, .ref th), (1, .int (nI k0))]) hx hb dX7_manyOf_21 hl (k := 1) rfl (nI_inc1 _) (by decide) rfl (fun ls hl => ?_)
          refine lv_iinc (v := nI (k + 1)) (lv' := [(3, .int (nI (k + 1))), (2, .int (nI (y + 1))), (0, .ref th), (1, .int (nI k0))]) hx hb dX7_manyOf_24 hl (k := 1) rfl (nI_inc1 _) (by decide) rfl (fun ls hl => ?_)
          refine lv_goto (tgt := 4) hx hb dX7_manyOf_27 (by decide) ?_
          exact ih_4 (k + 1) (y + 1) (by omega) (hA.trans (by first | (simp only [cntF, eq_true c_9, c_18, decide_true, decide_false, Bool.true_or, Bool.or_true, Bool.false_or, Bool.or_false, Bool.true_and, Bool.and_true, Bool.false_and, Bool.and_false, Bool.not_true, Bool.not_false, if_true, if_false, Bool.false_eq_true, and_true, true_and, and_false, false_and, or_true, true_or, or_false, false_or, not_true_eq_false, not_false_eq_true, bz]; done) | (simp only [cntF, eq_true c_9, c_18, decide_true, decide_false, Bool.true_or, Bool.or_true, Bool.false_or, Bool.or_false, Bool.true_and, Bool.and_true, Bool.false_and, Bool.and_false, Bool.not_true, Bool.not_false, if_true, if_false, Bool.false_eq_true, and_true, true_and, and_false, false_and, or_true, true_or, or_false, false_or, not_true_eq_false, not_false_eq_true, bz]; rfl))) ls (lv_sub hl [0, 1, 2, 3] rfl)
  exact loop_4 tn 0 0 (by omega) rfl ls (lv_sub hl [0, 1, 2, 3] rfl)
theorem k_X7_manyOf {p : Program} {l : Launch} {e : Env} {R : Room} {s : State} {m : MethodId} {args : Array Value} {below : List Frame} {meth : Method} {c : Code} {H : Heap} {locs : List Loc} {cells slots : Nat} {Q : State → Prop} {pc : Nat} {ls : Array Slot} {rest : List Value} {cc : ByteArray} {nL index Wd : Nat} {own : String} {D : va_G} {cI : ClassId} {A : Nat → Prop} {ws : va_W} (th : Nat) (tc : Nat) (mk : Nat) (mx : Nat) (my : Nat) (k0 : Nat) (tn : Nat) (cs : Nat → Int32) (mn : Nat) (xs : Nat → Int32) (ys : Nat → Int32) (hmn : mn ≤ 16) (htn : tn ≤ 24) (hcs : CSok cs tn mn) (hk0 : k0 ≤ 4) (S : CallFix p m c cc nL s args WA own) (hl : Cond.methodLink own index yX7_manyOf ∈ WA) (hR : 5 + 1 ≤ R.frames ∧ Wd + (4 + 11) + 71 ≤ R.locals) (hK : KB D cI s) (hP : va_P D vwCl ws H) (hD : va_D A ws) (is : List Nat) (hs : is.map (fun i => ws[i]?) = ([(th, .inr (7, [.ref mk, .int (nI tn), .ref tc])), (tc, .inl (cI, 72, .inl cs)), (mk, .inr (3, [.int (nI mn), .ref mx, .ref my])), (mx, .inl (cI, 32, .inl xs)), (my, .inl (cI, 32, .inl ys))] : va_W).map some) (hnd : va_nd is = true) (hsz : ls.size = nL) (hW : (rest.map fun v => v.category).sum ≤ Wd) (hdg : decode cc pc = .ok (.invokevirtual index, 3)) (hcel : cells ≤ R.cells ∧ slots ≤ R.slots) (kk : W p l e R s m args below meth c H locs cells slots Q (F0 m (pc + 3) ls (.int (nI (cntF (fun t => ofK (kd cs xs ys t) k0) 0 0 tn)) :: rest))) : W p l e R s m args below meth c H locs cells slots Q (F0 m pc ls (.int (nI k0) :: .ref th :: rest)) :=
  kRV (n := 1) (As := [.int (nI k0)]) (ci := 7) S (c_X7_manyOf l D cI th tc mk mx my k0 tn cs mn xs ys hmn htn hcs hk0) hl mw731 mw729 mw730 mw43 (by decide +kernel) hR rfl rfl rfl rfl hK hP hD is hs hnd hsz hW hdg hcel kk
