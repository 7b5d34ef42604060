/-! rows paired -/
def abI (x : Int32) : Int32 := if 0 ≤ x then x else 0 - x
def mnI (x y : Int32) : Int32 := if y < x then y else x
def apF (it : Nat → Int32) (ra rb i j : Nat) : Int32 := abI (it (ra * 144 + 2 * i) - it (rb * 144 + 2 * j)) + abI (it (ra * 144 + (2 * i + 1)) - it (rb * 144 + (2 * j + 1)))
def cAh (c : Nat → Int32) (i j : Nat) : Int32 := if i = 0 then (if j = 0 then nI 0 else c (j - 1)) else if j = 0 then c ((i - 1) * 30) else mnI (mnI (c ((i - 1) * 30 + j)) (c (i * 30 + j - 1))) (c ((i - 1) * 30 + j - 1))
def dpJ (ap : Nat → Nat → Int32) (i : Nat) : (Nat → Int32) → Nat → Nat → (Nat → Int32)
  | g, _, 0 => g
  | g, j, r + 1 => dpJ ap i (upd g (i * 30 + j) (ap i j + cAh g i j)) (j + 1) r
def dpI (ap : Nat → Nat → Int32) (nb : Nat) : (Nat → Int32) → Nat → Nat → (Nat → Int32)
  | g, _, 0 => g
  | g, i, r + 1 => dpI ap nb (dpJ ap i g 0 nb) (i + 1) r
def stB (c : Nat → Int32) (i j : Nat) : Bool := !decide (i = 0) && !decide (j = 0) && decide (c ((i - 1) * 30 + j - 1) = cAh c i j)
def stO (c : Nat → Int32) (i j : Nat) : Bool := !stB c i j && !decide (i = 0) && decide (c ((i - 1) * 30 + j) = cAh c i j)
def stI (c : Nat → Int32) (i j : Nat) : Nat := if stB c i j || stO c i j then i - 1 else i
def stJ (c : Nat → Int32) (i j : Nat) : Nat := if stO c i j then j else j - 1
def wbC (c : Nat → Int32) : Nat → Nat → Nat → Nat → (Nat → Int32) → (Nat → Int32) → (Nat × (Nat → Int32) × (Nat → Int32))
  | 0, _, _, m, a, b => (m, a, b)
  | f + 1, i, j, m, a, b => if i = 0 ∧ j = 0 then (m, a, b) else wbC c f (stI c i j) (stJ c i j) (m + 1) (upd a m (nI (stI c i j))) (upd b m (nI (stJ c i j)))
theorem wbC_end {c : Nat → Int32} {f i j m : Nat} {a b : Nat → Int32} (hi : i = 0) (hj : j = 0) : wbC c f i j m a b = (m, a, b) := by
  cases f with
  | zero => rfl
  | succ f => rw [wbC, if_pos ⟨hi, hj⟩]
theorem wbC_step {c : Nat → Int32} {f i j m i2 j2 : Nat} {a b : Nat → Int32} (h : ¬ (i = 0 ∧ j = 0)) (hi : stI c i j = i2) (hj : stJ c i j = j2) : wbC c (f + 1) i j m a b = wbC c f i2 j2 (m + 1) (upd a m (nI i2)) (upd b m (nI j2)) := by rw [wbC, if_neg h, hi, hj]
theorem posJ {c : Nat → Int32} {i j : Nat} (hi : ¬ i = 0) (h : ¬ c ((i - 1) * 30 + j) = cAh c i j) : 0 < j := by
  rcases Nat.eq_zero_or_pos j with q | q
  · subst q
    exact absurd (by rw [cAh, if_neg hi, if_pos rfl]; rfl) h
  · exact q
def tmF (me : Nat → Int32) (pm q : Nat) : Nat := cntF (fun b => decide (me b = nI q)) 0 0 pm
def ofF (me : Nat → Int32) (pm n : Nat) : Nat := cntF (fun q => !decide (tmF me pm q < 2)) 0 0 n
def tlF (cst mA mB : Nat → Int32) (pa pb pm w : Nat) : Int32 := if w = 0 then cst ((pa - 1) * 30 + pb - 1) else if w = 1 then nI pm else if w = 2 then nI (ofF mB pm pb) else nI (ofF mA pm pa)
def mtF (mA mB : Nat → Int32) (pm : Nat) (i : Int32) : Int32 := if inM i pm then mA (pm - 1 - i.toNatClampNeg) * nI 100 + mB (pm - 1 - i.toNatClampNeg) else (-1000000)

set_option maxHeartbeats 4000000 in
set_option maxRecDepth 100000 in
theorem c_X4_isRow (l : Launch) (D : va_G) (cI : ClassId) (n0 : Int32) : CR l yX4_isRow (wm yX4_isRow cX4_isRow 1 (some .boolean)) 1 22 D cI [.int n0] [] (some (.int (bz (inR n0 (nI 1) (nI 30))))) := by
  refine CR.of (by decide) (Nat.le_of_ble_eq_true rfl) ?_
  intro p e s m below meth c hx hb hr hml hown hlocks hta hP hD hK ls hl
  have hl : lv_has ls 1 [(0, .int n0)] := hl
  have hP : va_P D vwCl [] s.heap := hP
  refine lv_iload_n hx hb dX4_isRow_0 rfl (lv_at hl 0 rfl) ?_
  refine lv_iconst (v := nI 1) hx hb dX4_isRow_1 (by decide) ?_
  refine lv_bipush (v := nI 30) hx hb dX4_isRow_2 (by decide) ?_
  refine kn_X8_isWithin n0 (nI 1) (nI 30)  ⟨hx, hb, hml, hown, hta⟩ hK.2.2.2.2.2.2 ⟨Nat.le_of_ble_eq_true rfl, Nat.le_of_ble_eq_true rfl⟩ hK hl.1 (Nat.le_of_ble_eq_true rfl) dX4_isRow_4 ⟨Nat.le_of_ble_eq_true rfl, Nat.le_of_ble_eq_true rfl⟩ ?_
  exact rRz hx hb hr hlocks dX4_isRow_7 rfl
theorem k_X4_isRow {p : Program} {l : Launch} {e : Env} {R : Room} {s : State} {m : MethodId} {args : Array Value} {below : List Frame} {meth : Method} {c : Code} {H : Heap} {locs : List Loc} {cells slots : Nat} {Q : State → Prop} {pc : Nat} {ls : Array Slot} {rest : List Value} {cc : ByteArray} {nL index Wd : Nat} {own : String} {D : va_G} {cI : ClassId} (n0 : Int32) (S : CallFix p m c cc nL s args WA own) (hl : Cond.methodLink own index yX4_isRow ∈ WA) (hR : 1 + 1 ≤ R.frames ∧ Wd + (1 + 11) + 22 ≤ R.locals) (hK : KB D cI s) (hsz : ls.size = nL) (hW : (rest.map fun v => v.category).sum ≤ Wd) (hdg : decode cc pc = .ok (.invokestatic index, 3)) (hcel : cells ≤ R.cells ∧ slots ≤ R.slots) (kk : W p l e R s m args below meth c H locs cells slots Q (F0 m (pc + 3) ls (.int (bz (inR n0 (nI 1) (nI 30))) :: rest))) : W p l e R s m args below meth c H locs cells slots Q (F0 m pc ls (.int n0 :: rest)) :=
  kRS (n := 1) (As := [.int n0]) S (c_X4_isRow l D cI n0 ) hl mw581 mw580 mw47 (by decide +kernel) hR rfl hK hsz hW hdg hcel kk

set_option maxHeartbeats 4000000 in
set_option maxRecDepth 100000 in
theorem c_X4_apart (l : Launch) (D : va_G) (cI : ClassId) (po : Nat) (poc : Nat) (poa : Nat) (pob : Nat) (sh : Nat) (shl : Nat) (shn : Nat) (shi : Nat) (i0 : Nat) (j0 : Nat) (ra : Nat) (rb : Nat) (pa : Nat) (pb : Nat) (pm : Nat) (cst : Nat → Int32) (mA : Nat → Int32) (mB : Nat → Int32) (la : Nat → Int32) (le : Nat → Int32) (it : Nat → Int32) (hra : ra < 8) (hrb : rb < 8) (hi0 : i0 < 30) (hj0 : j0 < 30) : CR l yX4_apart (wm yX4_apart cX4_apart 3 (some .int)) 1 21 D cI [.ref po, .int (nI i0), .int (nI j0)] [(po, .inr (4, [.ref sh, .int (nI ra), .int (nI rb), .int (nI pa), .int (nI pb), .ref poc, .ref poa, .ref pob, .int (nI pm)])), (poc, .inl (cI, 900, .inl cst)), (poa, .inl (cI, 59, .inl mA)), (pob, .inl (cI, 59, .inl mB)), (sh, .inr (6, [.ref shl, .ref shn, .ref shi])), (shl, .inl (cI, 8, .inl la)), (shn, .inl (cI, 8, .inl le)), (shi, .inl (cI, 1152, .inl it))] (some (.int (apF it ra rb i0 j0))) := by
  refine CR.of (by decide) (Nat.le_of_ble_eq_true rfl) ?_
  intro p e s m below meth c hx hb hr hml hown hlocks hta hP hD hK ls hl
  have hl : lv_has ls 3 [(0, .ref po), (1, .int (nI i0)), (2, .int (nI j0))] := hl
  have hP : va_P D vwCl [(po, .inr (4, [.ref sh, .int (nI ra), .int (nI rb), .int (nI pa), .int (nI pb), .ref poc, .ref poa, .ref pob, .int (nI pm)])), (poc, .inl (cI, 900, .inl cst)), (poa, .inl (cI, 59, .inl mA)), (pob, .inl (cI, 59, .inl mB)), (sh, .inr (6, [.ref shl, .ref shn, .ref shi])), (shl, .inl (cI, 8, .inl la)), (shn, .inl (cI, 8, .inl le)), (shi, .inl (cI, 1152, .inl it))] s.heap := hP
  refine lv_aload_n hx hb dX4_apart_0 rfl (lv_at hl 0 rfl) ?_
  refine getX hx hb hta inA4 hown hK hP 0 rfl rfl 0 (by decide) mw176 rfl rfl dX4_apart_1 ?_
  refine lv_aload_n hx hb dX4_apart_4 rfl (lv_at hl 0 rfl) ?_
  refine getX hx hb hta inA4 hown hK hP 0 rfl rfl 1 (by decide) mw177 rfl rfl dX4_apart_5 ?_
  refine lv_iconst (v := nI 2) hx hb dX4_apart_8 (by decide) ?_
  refine lv_iload_n hx hb dX4_apart_9 rfl (lv_at hl 1 rfl) ?_
  refine imulN (a := 2) (b := i0) hx hb dX4_apart_10 ?_
  refine k_X6_item (Wd := 0) sh shl shn shi ra (2 * i0) la le it (by omega) (by omega) ⟨hx, hb, hml, hown, hta⟩ mw591 ⟨Nat.le_of_ble_eq_true rfl, Nat.le_of_ble_eq_true rfl⟩ hK hP hD [4, 5, 6, 7] rfl rfl hl.1 (Nat.le_of_ble_eq_true rfl) dX4_apart_11 ⟨Nat.le_of_ble_eq_true rfl, Nat.le_of_ble_eq_true rfl⟩ ?_
  refine lv_aload_n hx hb dX4_apart_14 rfl (lv_at hl 0 rfl) ?_
  refine getX hx hb hta inA4 hown hK hP 0 rfl rfl 0 (by decide) mw176 rfl rfl dX4_apart_15 ?_
  refine lv_aload_n hx hb dX4_apart_18 rfl (lv_at hl 0 rfl) ?_
  refine getX hx hb hta inA4 hown hK hP 0 rfl rfl 2 (by decide) mw178 rfl rfl dX4_apart_19 ?_
  refine lv_iconst (v := nI 2) hx hb dX4_apart_22 (by decide) ?_
  refine lv_iload_n hx hb dX4_apart_23 rfl (lv_at hl 2 rfl) ?_
  refine imulN (a := 2) (b := j0) hx hb dX4_apart_24 ?_
  refine k_X6_item (Wd := 1) sh shl shn shi rb (2 * j0) la le it (by omega) (by omega) ⟨hx, hb, hml, hown, hta⟩ mw591 ⟨Nat.le_of_ble_eq_true rfl, Nat.le_of_ble_eq_true rfl⟩ hK hP hD [4, 5, 6, 7] rfl rfl hl.1 (Nat.le_of_ble_eq_true rfl) dX4_apart_25 ⟨Nat.le_of_ble_eq_true rfl, Nat.le_of_ble_eq_true rfl⟩ ?_
  refine lv_isub hx hb dX4_apart_28 ?_
  refine va_mabs hx hb (hml.trans hl.1.symm) hown (hta _ mw592) (hta _ mw593) (hta _ mw51) (hta _ mw594) (Nat.le_of_ble_eq_true rfl) (Nat.le_of_ble_eq_true rfl) (Nat.zero_le _) (Nat.zero_le _) dX4_apart_29 ?_
  refine lv_aload_n hx hb dX4_apart_32 rfl (lv_at hl 0 rfl) ?_
  refine getX hx hb hta inA4 hown hK hP 0 rfl rfl 0 (by decide) mw176 rfl rfl dX4_apart_33 ?_
  refine lv_aload_n hx hb dX4_apart_36 rfl (lv_at hl 0 rfl) ?_
  refine getX hx hb hta inA4 hown hK hP 0 rfl rfl 1 (by decide) mw177 rfl rfl dX4_apart_37 ?_
  refine lv_iconst (v := nI 2) hx hb dX4_apart_40 (by decide) ?_
  refine lv_iload_n hx hb dX4_apart_41 rfl (lv_at hl 1 rfl) ?_
  refine imulN (a := 2) (b := i0) hx hb dX4_apart_42 ?_
  refine lv_iconst (v := nI 1) hx hb dX4_apart_43 (by decide) ?_
  refine iaddN (a := 2 * i0) (b := 1) hx hb dX4_apart_44 ?_
  refine k_X6_item (Wd := 1) sh shl shn shi ra (2 * i0 + 1) la le it (by omega) (by omega) ⟨hx, hb, hml, hown, hta⟩ mw591 ⟨Nat.le_of_ble_eq_true rfl, Nat.le_of_ble_eq_true rfl⟩ hK hP hD [4, 5, 6, 7] rfl rfl hl.1 (Nat.le_of_ble_eq_true rfl) dX4_apart_45 ⟨Nat.le_of_ble_eq_true rfl, Nat.le_of_ble_eq_true rfl⟩ ?_
  refine lv_aload_n hx hb dX4_apart_48 rfl (lv_at hl 0 rfl) ?_
  refine getX hx hb hta inA4 hown hK hP 0 rfl rfl 0 (by decide) mw176 rfl rfl dX4_apart_49 ?_
  refine lv_aload_n hx hb dX4_apart_52 rfl (lv_at hl 0 rfl) ?_
  refine getX hx hb hta inA4 hown hK hP 0 rfl rfl 2 (by decide) mw178 rfl rfl dX4_apart_53 ?_
  refine lv_iconst (v := nI 2) hx hb dX4_apart_56 (by decide) ?_
  refine lv_iload_n hx hb dX4_apart_57 rfl (lv_at hl 2 rfl) ?_
  refine imulN (a := 2) (b := j0) hx hb dX4_apart_58 ?_
  refine lv_iconst (v := nI 1) hx hb dX4_apart_59 (by decide) ?_
  refine iaddN (a := 2 * j0) (b := 1) hx hb dX4_apart_60 ?_
  refine k_X6_item (Wd := 2) sh shl shn shi rb (2 * j0 + 1) la le it (by omega) (by omega) ⟨hx, hb, hml, hown, hta⟩ mw591 ⟨Nat.le_of_ble_eq_true rfl, Nat.le_of_ble_eq_true rfl⟩ hK hP hD [4, 5, 6, 7] rfl rfl hl.1 (Nat.le_of_ble_eq_true rfl) dX4_apart_61 ⟨Nat.le_of_ble_eq_true rfl, Nat.le_of_ble_eq_true rfl⟩ ?_
  refine lv_isub hx hb dX4_apart_64 ?_
  refine va_mabs hx hb (hml.trans hl.1.symm) hown (hta _ mw592) (hta _ mw593) (hta _ mw51) (hta _ mw594) (Nat.le_of_ble_eq_true rfl) (Nat.le_of_ble_eq_true rfl) (Nat.zero_le _) (Nat.zero_le _) dX4_apart_65 ?_
  refine lv_iadd hx hb dX4_apart_68 ?_
  exact rRi hx hb hr hlocks dX4_apart_69 rfl
theorem k_X4_apart {p : Program} {l : Launch} {e : Env} {R : Room} {s : State} {m : MethodId} {args : Array Value} {below : List Frame} {meth : Method} {c : Code} {H : Heap} {locs : List Loc} {cells slots : Nat} {Q : State → Prop} {pc : Nat} {ls : Array Slot} {rest : List Value} {cc : ByteArray} {nL index Wd : Nat} {own : String} {D : va_G} {cI : ClassId} {A : Nat → Prop} {ws : va_W} (po : Nat) (poc : Nat) (poa : Nat) (pob : Nat) (sh : Nat) (shl : Nat) (shn : Nat) (shi : Nat) (i0 : Nat) (j0 : Nat) (ra : Nat) (rb : Nat) (pa : Nat) (pb : Nat) (pm : Nat) (cst : Nat → Int32) (mA : Nat → Int32) (mB : Nat → Int32) (la : Nat → Int32) (le : Nat → Int32) (it : Nat → Int32) (hra : ra < 8) (hrb : rb < 8) (hi0 : i0 < 30) (hj0 : j0 < 30) (S : CallFix p m c cc nL s args WA own) (hl : Cond.methodLink own index yX4_apart ∈ WA) (hR : 1 + 1 ≤ R.frames ∧ Wd + (3 + 11) + 21 ≤ R.locals) (hK : KB D cI s) (hP : va_P D vwCl ws H) (hD : va_D A ws) (is : List Nat) (hs : is.map (fun i => ws[i]?) = ([(po, .inr (4, [.ref sh, .int (nI ra), .int (nI rb), .int (nI pa), .int (nI pb), .ref poc, .ref poa, .ref pob, .int (nI pm)])), (poc, .inl (cI, 900, .inl cst)), (poa, .inl (cI, 59, .inl mA)), (pob, .inl (cI, 59, .inl mB)), (sh, .inr (6, [.ref shl, .ref shn, .ref shi])), (shl, .inl (cI, 8, .inl la)), (shn, .inl (cI, 8, .inl le)), (shi, .inl (cI, 1152, .inl it))] : va_W).map some) (hnd : va_nd is = true) (hsz : ls.size = nL) (hW : (rest.map fun v => v.category).sum ≤ Wd) (hdg : decode cc pc = .ok (.invokevirtual index, 3)) (hcel : cells ≤ R.cells ∧ slots ≤ R.slots) (kk : W p l e R s m args below meth c H locs cells slots Q (F0 m (pc + 3) ls (.int (apF it ra rb i0 j0) :: rest))) : W p l e R s m args below meth c H locs cells slots Q (F0 m pc ls (.int (nI j0) :: .int (nI i0) :: .ref po :: rest)) :=
  kRV (n := 2) (As := [.int (nI i0), .int (nI j0)]) (ci := 4) S (c_X4_apart l D cI po poc poa pob sh shl shn shi i0 j0 ra rb pa pb pm cst mA mB la le it hra hrb hi0 hj0) hl mw590 mw589 mw7 mw47 (by decide +kernel) hR rfl rfl rfl rfl hK hP hD is hs hnd hsz hW hdg hcel kk

set_option maxHeartbeats 4000000 in
set_option maxRecDepth 100000 in
theorem c_X4_costAhead (l : Launch) (D : va_G) (cI : ClassId) (po : Nat) (poc : Nat) (poa : Nat) (pob : Nat) (sh : Nat) (i0 : Nat) (j0 : Nat) (ra : Nat) (rb : Nat) (pa : Nat) (pb : Nat) (pm : Nat) (cst : Nat → Int32) (mA : Nat → Int32) (mB : Nat → Int32) (hi0 : i0 < 30) (hj0 : j0 < 30) : CR l yX4_costAhead (wm yX4_costAhead cX4_costAhead 4 (some .int)) 1 21 D cI [.ref po, .int (nI i0), .int (nI j0)] [(po, .inr (4, [.ref sh, .int (nI ra), .int (nI rb), .int (nI pa), .int (nI pb), .ref poc, .ref poa, .ref pob, .int (nI pm)])), (poc, .inl (cI, 900, .inl cst)), (poa, .inl (cI, 59, .inl mA)), (pob, .inl (cI, 59, .inl mB))] (some (.int (cAh cst i0 j0))) := by
  refine CR.of (by decide) (Nat.le_of_ble_eq_true rfl) ?_
  intro p e s m below meth c hx hb hr hml hown hlocks hta hP hD hK ls hl
  have hl : lv_has ls 4 [(0, .ref po), (1, .int (nI i0)), (2, .int (nI j0))] := hl
  have hP : va_P D vwCl [(po, .inr (4, [.ref sh, .int (nI ra), .int (nI rb), .int (nI pa), .int (nI pb), .ref poc, .ref poa, .ref pob, .int (nI pm)])), (poc, .inl (cI, 900, .inl cst)), (poa, .inl (cI, 59, .inl mA)), (pob, .inl (cI, 59, .inl mB))] s.heap := hP
  refine lv_iload_n hx hb dX4_costAhead_0 rfl (lv_at hl 1 rfl) ?_
  refine ifN_ne (tgt := 10) hx hb dX4_costAhead_1 (by decide) (by omega) (fun c_1 => ?_) (fun c_1 => ?_)
  · refine lv_iload_n hx hb dX4_costAhead_10 rfl (lv_at hl 1 rfl) ?_
    refine ifN_ne (tgt := 23) hx hb dX4_costAhead_11 (by decide) (by omega) (fun c_11 => ?_) (fun c_11 => ?_)
    · refine lv_iload_n hx hb dX4_costAhead_23 rfl (lv_at hl 2 rfl) ?_
      refine ifN_ne (tgt := 39) hx hb dX4_costAhead_24 (by decide) (by omega) (fun c_24 => ?_) (fun c_24 => ?_)
      · refine lv_aload_n hx hb dX4_costAhead_39 rfl (lv_at hl 0 rfl) ?_
        refine getX hx hb hta inA4 hown hK hP 0 rfl rfl 5 (by decide) mw181 rfl rfl dX4_costAhead_40 ?_
        refine lv_iload_n hx hb dX4_costAhead_43 rfl (lv_at hl 1 rfl) ?_
        refine lv_iconst (v := nI 1) hx hb dX4_costAhead_44 (by decide) ?_
        refine isubN (a := i0) (b := 1) hx hb dX4_costAhead_45 (by omega) ?_
        refine lv_bipush (v := nI 30) hx hb dX4_costAhead_46 (by decide) ?_
        refine imulN (a := i0 - 1) (b := 30) hx hb dX4_costAhead_48 ?_
        refine lv_iload_n hx hb dX4_costAhead_49 rfl (lv_at hl 2 rfl) ?_
        refine iaddN (a := (i0 - 1) * 30) (b := j0) hx hb dX4_costAhead_50 ?_
        refine ialdN hx hb hK hP 1 rfl (by omega) (by decide) dX4_costAhead_51 ?_
        refine lv_aload_n hx hb dX4_costAhead_52 rfl (lv_at hl 0 rfl) ?_
        refine getX hx hb hta inA4 hown hK hP 0 rfl rfl 5 (by decide) mw181 rfl rfl dX4_costAhead_53 ?_
        refine lv_iload_n hx hb dX4_costAhead_56 rfl (lv_at hl 1 rfl) ?_
        refine lv_bipush (v := nI 30) hx hb dX4_costAhead_57 (by decide) ?_
        refine imulN (a := i0) (b := 30) hx hb dX4_costAhead_59 ?_
        refine lv_iload_n hx hb dX4_costAhead_60 rfl (lv_at hl 2 rfl) ?_
        refine iaddN (a := i0 * 30) (b := j0) hx hb dX4_costAhead_61 ?_
        refine lv_iconst (v := nI 1) hx hb dX4_costAhead_62 (by decide) ?_
        refine isubN (a := i0 * 30 + j0) (b := 1) hx hb dX4_costAhead_63 (by omega) ?_
        refine ialdN hx hb hK hP 1 rfl (by omega) (by decide) dX4_costAhead_64 ?_
        refine va_mmin hx hb (hml.trans hl.1.symm) hown (hta _ mw599) (hta _ mw600) (hta _ mw51) (hta _ mw601) (Nat.le_of_ble_eq_true rfl) (Nat.le_of_ble_eq_true rfl) (Nat.zero_le _) (Nat.zero_le _) dX4_costAhead_65 ?_
        refine lv_istore_n (lv' := [(3, .int (if cst ((i0 * 30 + j0) - 1) < cst ((i0 - 1) * 30 + j0) then cst ((i0 * 30 + j0) - 1) else cst ((i0 - 1) * 30 + j0))), (0, .ref po), (1, .int (nI i0)), (2, .int (nI j0))]) hx hb dX4_costAhead_68 rfl hl (by decide) rfl (fun ls hl => ?_)
        refine lv_iload_n hx hb dX4_costAhead_69 rfl (lv_at hl 0 rfl) ?_
        refine lv_aload_n hx hb dX4_costAhead_70 rfl (lv_at hl 1 rfl) ?_
        refine getX hx hb hta inA4 hown hK hP 0 rfl rfl 5 (by decide) mw181 rfl rfl dX4_costAhead_71 ?_
        refine lv_iload_n hx hb dX4_costAhead_74 rfl (lv_at hl 2 rfl) ?_
        refine lv_iconst (v := nI 1) hx hb dX4_costAhead_75 (by decide) ?_
        refine isubN (a := i0) (b := 1) hx hb dX4_costAhead_76 (by omega) ?_
        refine lv_bipush (v := nI 30) hx hb dX4_costAhead_77 (by decide) ?_
        refine imulN (a := i0 - 1) (b := 30) hx hb dX4_costAhead_79 ?_
        refine lv_iload_n hx hb dX4_costAhead_80 rfl (lv_at hl 3 rfl) ?_
        refine iaddN (a := (i0 - 1) * 30) (b := j0) hx hb dX4_costAhead_81 ?_
        refine lv_iconst (v := nI 1) hx hb dX4_costAhead_82 (by decide) ?_
        refine isubN (a := (i0 - 1) * 30 + j0) (b := 1) hx hb dX4_costAhead_83 (by omega) ?_
        refine ialdN hx hb hK hP 1 rfl (by omega) (by decide) dX4_costAhead_84 ?_
        refine va_mmin hx hb (hml.trans hl.1.symm) hown (hta _ mw599) (hta _ mw600) (hta _ mw51) (hta _ mw601) (Nat.le_of_ble_eq_true rfl) (Nat.le_of_ble_eq_true rfl) (Nat.zero_le _) (Nat.zero_le _) dX4_costAhead_85 ?_
        exact rRi hx hb hr hlocks dX4_costAhead_88 (by first | (simp only [cAh, mnI, eq_false c_1, eq_false c_11, eq_false c_24, decide_true, decide_false, Bool.true_or, Bool.or_true, Bool.false_or, Bool.or_false, Bool.true_and, Bool.and_true, Bool.false_and, Bool.and_false, Bool.not_true, Bool.not_false, if_true, if_false, Bool.false_eq_true, and_true, true_and, and_false, false_and, or_true, true_or, or_false, false_or, not_true_eq_false, not_false_eq_true, bz]; done) | (simp only [cAh, mnI, eq_false c_1, eq_false c_11, eq_false c_24, decide_true, decide_false, Bool.true_or, Bool.or_true, Bool.false_or, Bool.or_false, Bool.true_and, Bool.and_true, Bool.false_and, Bool.and_false, Bool.not_true, Bool.not_false, if_true, if_false, Bool.false_eq_true, and_true, true_and, and_false, false_and, or_true, true_or, or_false, false_or, not_true_eq_false, not_false_eq_true, bz]; rfl))
      · refine lv_aload_n hx hb dX4_costAhead_27 rfl (lv_at hl 0 rfl) ?_
        refine getX hx hb hta inA4 hown hK hP 0 rfl rfl 5 (by decide) mw181 rfl rfl dX4_costAhead_28 ?_
        refine lv_iload_n hx hb dX4_costAhead_31 rfl (lv_at hl 1 rfl) ?_
        refine lv_iconst (v := nI 1) hx hb dX4_costAhead_32 (by decide) ?_
        refine isubN (a := i0) (b := 1) hx hb dX4_costAhead_33 (by omega) ?_
        refine lv_bipush (v := nI 30) hx hb dX4_costAhead_34 (by decide) ?_
        refine imulN (a := i0 - 1) (b := 30) hx hb dX4_costAhead_36 ?_
        refine ialdN hx hb hK hP 1 rfl (by omega) (by decide) dX4_costAhead_37 ?_
        exact rRi hx hb hr hlocks dX4_costAhead_38 (by first | (simp only [cAh, mnI, eq_false c_1, eq_false c_11, eq_true c_24, decide_true, decide_false, Bool.true_or, Bool.or_true, Bool.false_or, Bool.or_false, Bool.true_and, Bool.and_true, Bool.false_and, Bool.and_false, Bool.not_true, Bool.not_false, if_true, if_false, Bool.false_eq_true, and_true, true_and, and_false, false_and, or_true, true_or, or_false, false_or, not_true_eq_false, not_false_eq_true, bz]; done) | (simp only [cAh, mnI, eq_false c_1, eq_false c_11, eq_true c_24, decide_true, decide_false, Bool.true_or, Bool.or_true, Bool.false_or, Bool.or_false, Bool.true_and, Bool.and_true, Bool.false_and, Bool.and_false, Bool.not_true, Bool.not_false, if_true, if_false, Bool.false_eq_true, and_true, true_and, and_false, false_and, or_true, true_or, or_false, false_or, not_true_eq_false, not_false_eq_true, bz]; rfl))
    · exact (by omega : False).elim
  · refine lv_iload_n hx hb dX4_costAhead_4 rfl (lv_at hl 2 rfl) ?_
    refine ifN_ne (tgt := 10) hx hb dX4_costAhead_5 (by decide) (by omega) (fun c_5 => ?_) (fun c_5 => ?_)
    · refine lv_iload_n hx hb dX4_costAhead_10 rfl (lv_at hl 1 rfl) ?_
      refine ifN_ne (tgt := 23) hx hb dX4_costAhead_11 (by decide) (by omega) (fun c_11 => ?_) (fun c_11 => ?_)
      · exact (by omega : False).elim
      · refine lv_aload_n hx hb dX4_costAhead_14 rfl (lv_at hl 0 rfl) ?_
        refine getX hx hb hta inA4 hown hK hP 0 rfl rfl 5 (by decide) mw181 rfl rfl dX4_costAhead_15 ?_
        refine lv_iload_n hx hb dX4_costAhead_18 rfl (lv_at hl 2 rfl) ?_
        refine lv_iconst (v := nI 1) hx hb dX4_costAhead_19 (by decide) ?_
        refine isubN (a := j0) (b := 1) hx hb dX4_costAhead_20 (by omega) ?_
        refine ialdN hx hb hK hP 1 rfl (by omega) (by decide) dX4_costAhead_21 ?_
        exact rRi hx hb hr hlocks dX4_costAhead_22 (by first | (simp only [cAh, mnI, eq_true c_1, eq_false c_5, eq_true c_11, decide_true, decide_false, Bool.true_or, Bool.or_true, Bool.false_or, Bool.or_false, Bool.true_and, Bool.and_true, Bool.false_and, Bool.and_false, Bool.not_true, Bool.not_false, if_true, if_false, Bool.false_eq_true, and_true, true_and, and_false, false_and, or_true, true_or, or_false, false_or, not_true_eq_false, not_false_eq_true, bz]; done) | (simp only [cAh, mnI, eq_true c_1, eq_false c_5, eq_true c_11, decide_true, decide_false, Bool.true_or, Bool.or_true, Bool.false_or, Bool.or_false, Bool.true_and, Bool.and_true, Bool.false_and, Bool.and_false, Bool.not_true, Bool.not_false, if_true, if_false, Bool.false_eq_true, and_true, true_and, and_false, false_and, or_true, true_or, or_false, false_or, not_true_eq_false, not_false_eq_true, bz]; rfl))
    · refine lv_iconst (v := nI 0) hx hb dX4_costAhead_8 (by decide) ?_
      exact rRi hx hb hr hlocks dX4_costAhead_9 (by first | (simp only [cAh, mnI, eq_true c_1, eq_true c_5, decide_true, decide_false, Bool.true_or, Bool.or_true, Bool.false_or, Bool.or_false, Bool.true_and, Bool.and_true, Bool.false_and, Bool.and_false, Bool.not_true, Bool.not_false, if_true, if_false, Bool.false_eq_true, and_true, true_and, and_false, false_and, or_true, true_or, or_false, false_or, not_true_eq_false, not_false_eq_true, bz]; done) | (simp only [cAh, mnI, eq_true c_1, eq_true c_5, decide_true, decide_false, Bool.true_or, Bool.or_true, Bool.false_or, Bool.or_false, Bool.true_and, Bool.and_true, Bool.false_and, Bool.and_false, Bool.not_true, Bool.not_false, if_true, if_false, Bool.false_eq_true, and_true, true_and, and_false, false_and, or_true, true_or, or_false, false_or, not_true_eq_false, not_false_eq_true, bz]; rfl))
theorem k_X4_costAhead {p : Program} {l : Launch} {e : Env} {R : Room} {s : State} {m : MethodId} {args : Array Value} {below : List Frame} {meth : Method} {c : Code} {H : Heap} {locs : List Loc} {cells slots : Nat} {Q : State → Prop} {pc : Nat} {ls : Array Slot} {rest : List Value} {cc : ByteArray} {nL index Wd : Nat} {own : String} {D : va_G} {cI : ClassId} {A : Nat → Prop} {ws : va_W} (po : Nat) (poc : Nat) (poa : Nat) (pob : Nat) (sh : Nat) (i0 : Nat) (j0 : Nat) (ra : Nat) (rb : Nat) (pa : Nat) (pb : Nat) (pm : Nat) (cst : Nat → Int32) (mA : Nat → Int32) (mB : Nat → Int32) (hi0 : i0 < 30) (hj0 : j0 < 30) (S : CallFix p m c cc nL s args WA own) (hl : Cond.methodLink own index yX4_costAhead ∈ WA) (hR : 1 + 1 ≤ R.frames ∧ Wd + (4 + 11) + 21 ≤ R.locals) (hK : KB D cI s) (hP : va_P D vwCl ws H) (hD : va_D A ws) (is : List Nat) (hs : is.map (fun i => ws[i]?) = ([(po, .inr (4, [.ref sh, .int (nI ra), .int (nI rb), .int (nI pa), .int (nI pb), .ref poc, .ref poa, .ref pob, .int (nI pm)])), (poc, .inl (cI, 900, .inl cst)), (poa, .inl (cI, 59, .inl mA)), (pob, .inl (cI, 59, .inl mB))] : va_W).map some) (hnd : va_nd is = true) (hsz : ls.size = nL) (hW : (rest.map fun v => v.category).sum ≤ Wd) (hdg : decode cc pc = .ok (.invokevirtual index, 3)) (hcel : cells ≤ R.cells ∧ slots ≤ R.slots) (kk : W p l e R s m args below meth c H locs cells slots Q (F0 m (pc + 3) ls (.int (cAh cst i0 j0) :: rest))) : W p l e R s m args below meth c H locs cells slots Q (F0 m pc ls (.int (nI j0) :: .int (nI i0) :: .ref po :: rest)) :=
  kRV (n := 2) (As := [.int (nI i0), .int (nI j0)]) (ci := 4) S (c_X4_costAhead l D cI po poc poa pob sh i0 j0 ra rb pa pb pm cst mA mB hi0 hj0) hl mw598 mw597 mw8 mw47 (by decide +kernel) hR rfl rfl rfl rfl hK hP hD is hs hnd hsz hW hdg hcel kk

set_option maxHeartbeats 4000000 in
set_option maxRecDepth 100000 in
theorem c_X4_meet (l : Launch) (D : va_G) (cI : ClassId) (po : Nat) (poc : Nat) (poa : Nat) (pob : Nat) (sh : Nat) (b0 : Nat) (i0 : Nat) (j0 : Nat) (ra : Nat) (rb : Nat) (pa : Nat) (pb : Nat) (pm : Nat) (cst : Nat → Int32) (mA : Nat → Int32) (mB : Nat → Int32) (hb0 : b0 < 59) : CW l yX4_meet (wm yX4_meet cX4_meet 4 none) 0 0 D cI [.ref po, .int (nI b0), .int (nI i0), .int (nI j0)] [(po, .inr (4, [.ref sh, .int (nI ra), .int (nI rb), .int (nI pa), .int (nI pb), .ref poc, .ref poa, .ref pob, .int (nI pm)])), (poc, .inl (cI, 900, .inl cst)), (poa, .inl (cI, 59, .inl mA)), (pob, .inl (cI, 59, .inl mB))] (fun v w' => v = none ∧ w' = [(po, .inr (4, [.ref sh, .int (nI ra), .int (nI rb), .int (nI pa), .int (nI pb), .ref poc, .ref poa, .ref pob, .int (nI pm)])), (poc, .inl (cI, 900, .inl cst)), (poa, .inl (cI, 59, .inl (upd mA b0 (nI i0)))), (pob, .inl (cI, 59, .inl (upd mB b0 (nI j0))))]) := by
  refine CW.of (by decide) (Nat.le_of_ble_eq_true rfl) ?_
  intro p e s m below meth c hx hb hr hml hown hlocks hta hP hD hK hS ls hl
  have hl : lv_has ls 4 [(0, .ref po), (1, .int (nI b0)), (2, .int (nI i0)), (3, .int (nI j0))] := hl
  have hP : va_P D vwCl [(po, .inr (4, [.ref sh, .int (nI ra), .int (nI rb), .int (nI pa), .int (nI pb), .ref poc, .ref poa, .ref pob, .int (nI pm)])), (poc, .inl (cI, 900, .inl cst)), (poa, .inl (cI, 59, .inl mA)), (pob, .inl (cI, 59, .inl mB))] s.heap := hP
  refine lv_aload_n hx hb dX4_meet_0 rfl (lv_at hl 0 rfl) ?_
  refine getX hx hb hta inA4 hown hK hP 0 rfl rfl 6 (by decide) mw182 rfl rfl dX4_meet_1 ?_
  refine lv_iload_n hx hb dX4_meet_4 rfl (lv_at hl 1 rfl) ?_
  refine lv_iload_n hx hb dX4_meet_5 rfl (lv_at hl 2 rfl) ?_
  refine iastN hx hb hK hP hD hS 2 rfl (by omega) (by decide) dX4_meet_6 (fun H locs hP hS => ?_)
  have hP : va_P D vwCl [(po, .inr (4, [.ref sh, .int (nI ra), .int (nI rb), .int (nI pa), .int (nI pb), .ref poc, .ref poa, .ref pob, .int (nI pm)])), (poc, .inl (cI, 900, .inl cst)), (poa, .inl (cI, 59, .inl (upd mA b0 (nI i0)))), (pob, .inl (cI, 59, .inl mB))] H := hP
  have hD : va_D (adrs [(po, .inr (4, [.ref sh, .int (nI ra), .int (nI rb), .int (nI pa), .int (nI pb), .ref poc, .ref poa, .ref pob, .int (nI pm)])), (poc, .inl (cI, 900, .inl cst)), (poa, .inl (cI, 59, .inl mA)), (pob, .inl (cI, 59, .inl mB))]) [(po, .inr (4, [.ref sh, .int (nI ra), .int (nI rb), .int (nI pa), .int (nI pb), .ref poc, .ref poa, .ref pob, .int (nI pm)])), (poc, .inl (cI, 900, .inl cst)), (poa, .inl (cI, 59, .inl (upd mA b0 (nI i0)))), (pob, .inl (cI, 59, .inl mB))] := hD.same rfl
  refine lv_aload_n hx hb dX4_meet_7 rfl (lv_at hl 0 rfl) ?_
  refine getX hx hb hta inA4 hown hK hP 0 rfl rfl 7 (by decide) mw183 rfl rfl dX4_meet_8 ?_
  refine lv_iload_n hx hb dX4_meet_11 rfl (lv_at hl 1 rfl) ?_
  refine lv_iload_n hx hb dX4_meet_12 rfl (lv_at hl 3 rfl) ?_
  refine iastN hx hb hK hP hD hS 3 rfl (by omega) (by decide) dX4_meet_13 (fun H locs hP hS => ?_)
  have hP : va_P D vwCl [(po, .inr (4, [.ref sh, .int (nI ra), .int (nI rb), .int (nI pa), .int (nI pb), .ref poc, .ref poa, .ref pob, .int (nI pm)])), (poc, .inl (cI, 900, .inl cst)), (poa, .inl (cI, 59, .inl (upd mA b0 (nI i0)))), (pob, .inl (cI, 59, .inl (upd mB b0 (nI j0))))] H := hP
  have hD : va_D (adrs [(po, .inr (4, [.ref sh, .int (nI ra), .int (nI rb), .int (nI pa), .int (nI pb), .ref poc, .ref poa, .ref pob, .int (nI pm)])), (poc, .inl (cI, 900, .inl cst)), (poa, .inl (cI, 59, .inl mA)), (pob, .inl (cI, 59, .inl mB))]) [(po, .inr (4, [.ref sh, .int (nI ra), .int (nI rb), .int (nI pa), .int (nI pb), .ref poc, .ref poa, .ref pob, .int (nI pm)])), (poc, .inl (cI, 900, .inl cst)), (poa, .inl (cI, 59, .inl (upd mA b0 (nI i0)))), (pob, .inl (cI, 59, .inl (upd mB b0 (nI j0))))] := hD.same rfl
  exact rWv hx hb hr hlocks dX4_meet_14 hP hS rfl ⟨rfl, rfl⟩
theorem k_X4_meet {p : Program} {l : Launch} {e : Env} {R : Room} {s : State} {m : MethodId} {args : Array Value} {below : List Frame} {meth : Method} {c : Code} {H : Heap} {locs : List Loc} {cells slots : Nat} {Q : State → Prop} {pc : Nat} {ls : Array Slot} {rest : List Value} {cc : ByteArray} {nL index Wd : Nat} {own : String} {D : va_G} {cI : ClassId} {A : Nat → Prop} {ws : va_W} {H0 : Heap} (po : Nat) (poc : Nat) (poa : Nat) (pob : Nat) (sh : Nat) (b0 : Nat) (i0 : Nat) (j0 : Nat) (ra : Nat) (rb : Nat) (pa : Nat) (pb : Nat) (pm : Nat) (cst : Nat → Int32) (mA : Nat → Int32) (mB : Nat → Int32) (hb0 : b0 < 59) (S : CallFix p m c cc nL s args WA own) (hl : Cond.methodLink own index yX4_meet ∈ WA) (hR : 0 + 1 ≤ R.frames ∧ Wd + (4 + 11) + 0 ≤ R.locals) (hK : KB D cI s) (hP : va_P D vwCl ws H) (hD : va_D A ws) (hS : va_S A H0 H locs) (is : List Nat) (hs : is.map (fun i => ws[i]?) = ([(po, .inr (4, [.ref sh, .int (nI ra), .int (nI rb), .int (nI pa), .int (nI pb), .ref poc, .ref poa, .ref pob, .int (nI pm)])), (poc, .inl (cI, 900, .inl cst)), (poa, .inl (cI, 59, .inl mA)), (pob, .inl (cI, 59, .inl mB))] : va_W).map some) (hnd : va_nd is = true) (hsz : ls.size = nL) (hW : (rest.map fun v => v.category).sum ≤ Wd) (hdg : decode cc pc = .ok (.invokevirtual index, 3)) (hcel : cells ≤ R.cells ∧ slots ≤ R.slots) (kk : ∀ (H1 : Heap) (locs1 : List Loc), va_P D vwCl (rp ws is [(po, .inr (4, [.ref sh, .int (nI ra), .int (nI rb), .int (nI pa), .int (nI pb), .ref poc, .ref poa, .ref pob, .int (nI pm)])), (poc, .inl (cI, 900, .inl cst)), (poa, .inl (cI, 59, .inl (upd mA b0 (nI i0)))), (pob, .inl (cI, 59, .inl (upd mB b0 (nI j0))))]) H1 → va_S A H0 H1 locs1 → W p l e R s m args below meth c H1 locs1 cells slots Q (F0 m (pc + 3) ls (rest))) : W p l e R s m args below meth c H locs cells slots Q (F0 m pc ls (.int (nI j0) :: .int (nI i0) :: .int (nI b0) :: .ref po :: rest)) :=
  kWV (n := 3) (As := [.int (nI b0), .int (nI i0), .int (nI j0)]) (ci := 4) S (c_X4_meet l D cI po poc poa pob sh b0 i0 j0 ra rb pa pb pm cst mA mB hb0) hl mw609 mw608 mw10 mw47 (by decide +kernel) hR rfl rfl rfl rfl hK hP hD hS is hs hnd hsz hW hdg hcel (fun v w' H1 locs1 hq h1 h2 => by obtain ⟨rfl, rfl⟩ := hq; exact kk  H1 locs1 h1 h2)

set_option maxHeartbeats 4000000 in
set_option maxRecDepth 100000 in
theorem c_X4_walkBack (l : Launch) (D : va_G) (cI : ClassId) (po : Nat) (poc : Nat) (poa : Nat) (pob : Nat) (sh : Nat) (ra : Nat) (rb : Nat) (pa : Nat) (pb : Nat) (pm : Nat) (cst : Nat → Int32) (mA : Nat → Int32) (mB : Nat → Int32) (hpa : 1 ≤ pa ∧ pa ≤ 30) (hpb : 1 ≤ pb ∧ pb ≤ 30) : CW l yX4_walkBack (wm yX4_walkBack cX4_walkBack 6 none) 2 36 D cI [.ref po] [(po, .inr (4, [.ref sh, .int (nI ra), .int (nI rb), .int (nI pa), .int (nI pb), .ref poc, .ref poa, .ref pob, .int (nI pm)])), (poc, .inl (cI, 900, .inl cst)), (poa, .inl (cI, 59, .inl mA)), (pob, .inl (cI, 59, .inl mB))] (fun v w' => ∃ (m' : Nat), ∃ (a' : Nat → Int32), ∃ (b' : Nat → Int32), ((m', a', b') = wbC cst 58 (pa - 1) (pb - 1) 1 (upd mA 0 (nI (pa - 1))) (upd mB 0 (nI (pb - 1)))) ∧ (m' ≤ 59) ∧ v = none ∧ w' = [(po, .inr (4, [.ref sh, .int (nI ra), .int (nI rb), .int (nI pa), .int (nI pb), .ref poc, .ref poa, .ref pob, .int (nI m')])), (poc, .inl (cI, 900, .inl cst)), (poa, .inl (cI, 59, .inl a')), (pob, .inl (cI, 59, .inl b'))]) := by
  refine CW.of (by decide) (Nat.le_of_ble_eq_true rfl) ?_
  intro p e s m below meth c hx hb hr hml hown hlocks hta hP hD hK hS ls hl
  have hl : lv_has ls 6 [(0, .ref po)] := hl
  have hP : va_P D vwCl [(po, .inr (4, [.ref sh, .int (nI ra), .int (nI rb), .int (nI pa), .int (nI pb), .ref poc, .ref poa, .ref pob, .int (nI pm)])), (poc, .inl (cI, 900, .inl cst)), (poa, .inl (cI, 59, .inl mA)), (pob, .inl (cI, 59, .inl mB))] s.heap := hP
  refine lv_aload_n hx hb dX4_walkBack_0 rfl (lv_at hl 0 rfl) ?_
  refine getX hx hb hta inA4 hown hK hP 0 rfl rfl 3 (by decide) mw179 rfl rfl dX4_walkBack_1 ?_
  refine lv_iconst (v := nI 1) hx hb dX4_walkBack_4 (by decide) ?_
  refine isubN (a := pa) (b := 1) hx hb dX4_walkBack_5 (by omega) ?_
  refine lv_istore_n (lv' := [(1, .int (nI (pa - 1))), (0, .ref po)]) hx hb dX4_walkBack_6 rfl hl (by decide) rfl (fun ls hl => ?_)
  refine lv_aload_n hx hb dX4_walkBack_7 rfl (lv_at hl 1 rfl) ?_
  refine getX hx hb hta inA4 hown hK hP 0 rfl rfl 4 (by decide) mw180 rfl rfl dX4_walkBack_8 ?_
  refine lv_iconst (v := nI 1) hx hb dX4_walkBack_11 (by decide) ?_
  refine isubN (a := pb) (b := 1) hx hb dX4_walkBack_12 (by omega) ?_
  refine lv_istore_n (lv' := [(2, .int (nI (pb - 1))), (1, .int (nI (pa - 1))), (0, .ref po)]) hx hb dX4_walkBack_13 rfl hl (by decide) rfl (fun ls hl => ?_)
  refine lv_aload_n hx hb dX4_walkBack_14 rfl (lv_at hl 2 rfl) ?_
  refine lv_iconst (v := nI 0) hx hb dX4_walkBack_15 (by decide) ?_
  refine lv_iload_n hx hb dX4_walkBack_16 rfl (lv_at hl 1 rfl) ?_
  refine lv_iload_n hx hb dX4_walkBack_17 rfl (lv_at hl 0 rfl) ?_
  refine k_X4_meet (Wd := 0) po poc poa pob sh 0 (pa - 1) (pb - 1) ra rb pa pb pm cst mA mB (by omega) ⟨hx, hb, hml, hown, hta⟩ mw606 ⟨Nat.le_of_ble_eq_true rfl, Nat.le_of_ble_eq_true rfl⟩ hK hP hD hS [0, 1, 2, 3] rfl rfl hl.1 (Nat.le_of_ble_eq_true rfl) dX4_walkBack_18 ⟨Nat.le_of_ble_eq_true rfl, Nat.le_of_ble_eq_true rfl⟩ (fun H locs hP hS => ?_)
  have hP : va_P D vwCl [(po, .inr (4, [.ref sh, .int (nI ra), .int (nI rb), .int (nI pa), .int (nI pb), .ref poc, .ref poa, .ref pob, .int (nI pm)])), (poc, .inl (cI, 900, .inl cst)), (poa, .inl (cI, 59, .inl (upd mA 0 (nI (pa - 1))))), (pob, .inl (cI, 59, .inl (upd mB 0 (nI (pb - 1)))))] H := hP
  have hD : va_D (adrs [(po, .inr (4, [.ref sh, .int (nI ra), .int (nI rb), .int (nI pa), .int (nI pb), .ref poc, .ref poa, .ref pob, .int (nI pm)])), (poc, .inl (cI, 900, .inl cst)), (poa, .inl (cI, 59, .inl mA)), (pob, .inl (cI, 59, .inl mB))]) [(po, .inr (4, [.ref sh, .int (nI ra), .int (nI rb), .int (nI pa), .int (nI pb), .ref poc, .ref poa, .ref pob, .int (nI pm)])), (poc, .inl (cI, 900, .inl cst)), (poa, .inl (cI, 59, .inl (upd mA 0 (nI (pa - 1))))), (pob, .inl (cI, 59, .inl (upd mB 0 (nI (pb - 1)))))] := hD.same rfl
  refine lv_aload_n hx hb dX4_walkBack_21 rfl (lv_at hl 2 rfl) ?_
  refine lv_iconst (v := nI 1) hx hb dX4_walkBack_22 (by decide) ?_
  refine putX hx hb hta inA4 tyX4 tyX4_ok nmX4 hown hK hP hD hS 0 rfl rfl 8 (by decide) mw184 rfl rfl (ty := .int) rfl rfl rfl (Nat.le_of_ble_eq_true rfl) dX4_walkBack_23 (fun H locs hP hS => ?_)
  have hP : va_P D vwCl [(po, .inr (4, [.ref sh, .int (nI ra), .int (nI rb), .int (nI pa), .int (nI pb), .ref poc, .ref poa, .ref pob, .int (nI 1)])), (poc, .inl (cI, 900, .inl cst)), (poa, .inl (cI, 59, .inl (upd mA 0 (nI (pa - 1))))), (pob, .inl (cI, 59, .inl (upd mB 0 (nI (pb - 1)))))] H := hP
  have hD : va_D (adrs [(po, .inr (4, [.ref sh, .int (nI ra), .int (nI rb), .int (nI pa), .int (nI pb), .ref poc, .ref poa, .ref pob, .int (nI pm)])), (poc, .inl (cI, 900, .inl cst)), (poa, .inl (cI, 59, .inl mA)), (pob, .inl (cI, 59, .inl mB))]) [(po, .inr (4, [.ref sh, .int (nI ra), .int (nI rb), .int (nI pa), .int (nI pb), .ref poc, .ref poa, .ref pob, .int (nI 1)])), (poc, .inl (cI, 900, .inl cst)), (poa, .inl (cI, 59, .inl (upd mA 0 (nI (pa - 1))))), (pob, .inl (cI, 59, .inl (upd mB 0 (nI (pb - 1)))))] := hD.same rfl
  have loop_26 : ∀ (r : Nat) (i : Nat) (j : Nat) (z : Nat) (ga : Nat → Int32) (gb : Nat → Int32), (i + j ≤ r) → (z + (i + j) ≤ 59) → (i < 30 ∧ j < 30) → (wbC cst 58 (pa - 1) (pb - 1) 1 (upd mA 0 (nI (pa - 1))) (upd mB 0 (nI (pb - 1))) = wbC cst r i j z ga gb) → ∀ (H : Heap) (locs : List Loc), va_P D vwCl [(po, .inr (4, [.ref sh, .int (nI ra), .int (nI rb), .int (nI pa), .int (nI pb), .ref poc, .ref poa, .ref pob, .int (nI z)])), (poc, .inl (cI, 900, .inl cst)), (poa, .inl (cI, 59, .inl ga)), (pob, .inl (cI, 59, .inl gb))] H → va_S (adrs [(po, .inr (4, [.ref sh, .int (nI ra), .int (nI rb), .int (nI pa), .int (nI pb), .ref poc, .ref poa, .ref pob, .int (nI pm)])), (poc, .inl (cI, 900, .inl cst)), (poa, .inl (cI, 59, .inl mA)), (pob, .inl (cI, 59, .inl mB))]) s.heap H locs → ∀ ls : Array Slot, lv_has ls 6 [(2, .int (nI j)), (1, .int (nI i)), (0, .ref po)] → W p l e (rmZ 2 36) s m ([.ref po] : List Value).toArray below meth c H locs 0 0 (MQ below (QW D [(po, .inr (4, [.ref sh, .int (nI ra), .int (nI rb), .int (nI pa), .int (nI pb), .ref poc, .ref poa, .ref pob, .int (nI pm)])), (poc, .inl (cI, 900, .inl cst)), (poa, .inl (cI, 59, .inl mA)), (pob, .inl (cI, 59, .inl mB))] (fun v w' => ∃ (m' : Nat), ∃ (a' : Nat → Int32), ∃ (b' : Nat → Int32), ((m', a', b') = wbC cst 58 (pa - 1) (pb - 1) 1 (upd mA 0 (nI (pa - 1))) (upd mB 0 (nI (pb - 1)))) ∧ (m' ≤ 59) ∧ v = none ∧ w' = [(po, .inr (4, [.ref sh, .int (nI ra), .int (nI rb), .int (nI pa), .int (nI pb), .ref poc, .ref poa, .ref pob, .int (nI m')])), (poc, .inl (cI, 900, .inl cst)), (poa, .inl (cI, 59, .inl a')), (pob, .inl (cI, 59, .inl b'))])) ([.ref po] : List Value).toArray s 0 0 (adrs [(po, .inr (4, [.ref sh, .int (nI ra), .int (nI rb), .int (nI pa), .int (nI pb), .ref poc, .ref poa, .ref pob, .int (nI pm)])), (poc, .inl (cI, 900, .inl cst)), (poa, .inl (cI, 59, .inl mA)), (pob, .inl (cI, 59, .inl mB))])) (F0 m 26 ls []) := by
    intro r
    induction r with
    | zero =>
      intro i j z ga gb h1 h2 h3 hA H locs hP hS ls hl
      have hD : va_D (adrs [(po, .inr (4, [.ref sh, .int (nI ra), .int (nI rb), .int (nI pa), .int (nI pb), .ref poc, .ref poa, .ref pob, .int (nI pm)])), (poc, .inl (cI, 900, .inl cst)), (poa, .inl (cI, 59, .inl mA)), (pob, .inl (cI, 59, .inl mB))]) [(po, .inr (4, [.ref sh, .int (nI ra), .int (nI rb), .int (nI pa), .int (nI pb), .ref poc, .ref poa, .ref pob, .int (nI z)])), (poc, .inl (cI, 900, .inl cst)), (poa, .inl (cI, 59, .inl ga)), (pob, .inl (cI, 59, .inl gb))] := hD.same rfl
      refine lv_aload_n hx hb dX4_walkBack_26 rfl (lv_at hl 2 rfl) ?_
      refine getX hx hb hta inA4 hown hK hP 0 rfl rfl 8 (by decide) mw184 rfl rfl dX4_walkBack_27 ?_
      refine lv_bipush (v := nI 59) hx hb dX4_walkBack_30 (by decide) ?_
      refine icmpN_ge (tgt := 161) hx hb dX4_walkBack_32 (by decide) (by omega) (by omega) (fun c_32 => ?_) (fun c_32 => ?_)
      · exact rWv hx hb hr hlocks dX4_walkBack_161 hP hS rfl ⟨_, _, _, (hA.trans (wbC_end (by omega) (by omega))).symm, by omega, rfl, rfl⟩
      · refine lv_iload_n hx hb dX4_walkBack_35 rfl (lv_at hl 1 rfl) ?_
        refine ifN_gt (tgt := 43) hx hb dX4_walkBack_36 (by decide) (by omega) (fun c_36 => ?_) (fun c_36 => ?_)
        · exact (by omega : False).elim
        · refine lv_iload_n hx hb dX4_walkBack_39 rfl (lv_at hl 0 rfl) ?_
          refine ifN_le (tgt := 161) hx hb dX4_walkBack_40 (by decide) (by omega) (fun c_40 => ?_) (fun c_40 => ?_)
          · exact rWv hx hb hr hlocks dX4_walkBack_161 hP hS rfl ⟨_, _, _, (hA.trans (wbC_end (by omega) (by omega))).symm, by omega, rfl, rfl⟩
          · exact (by omega : False).elim
    | succ r ih_26 =>
      intro i j z ga gb h1 h2 h3 hA H locs hP hS ls hl
      have hD : va_D (adrs [(po, .inr (4, [.ref sh, .int (nI ra), .int (nI rb), .int (nI pa), .int (nI pb), .ref poc, .ref poa, .ref pob, .int (nI pm)])), (poc, .inl (cI, 900, .inl cst)), (poa, .inl (cI, 59, .inl mA)), (pob, .inl (cI, 59, .inl mB))]) [(po, .inr (4, [.ref sh, .int (nI ra), .int (nI rb), .int (nI pa), .int (nI pb), .ref poc, .ref poa, .ref pob, .int (nI z)])), (poc, .inl (cI, 900, .inl cst)), (poa, .inl (cI, 59, .inl ga)), (pob, .inl (cI, 59, .inl gb))] := hD.same rfl
      refine lv_aload_n hx hb dX4_walkBack_26 rfl (lv_at hl 2 rfl) ?_
      refine getX hx hb hta inA4 hown hK hP 0 rfl rfl 8 (by decide) mw184 rfl rfl dX4_walkBack_27 ?_
      refine lv_bipush (v := nI 59) hx hb dX4_walkBack_30 (by decide) ?_
      refine icmpN_ge (tgt := 161) hx hb dX4_walkBack_32 (by decide) (by omega) (by omega) (fun c_32 => ?_) (fun c_32 => ?_)
      · exact rWv hx hb hr hlocks dX4_walkBack_161 hP hS rfl ⟨_, _, _, (hA.trans (wbC_end (by omega) (by omega))).symm, by omega, rfl, rfl⟩
      · refine lv_iload_n hx hb dX4_walkBack_35 rfl (lv_at hl 1 rfl) ?_
        refine ifN_gt (tgt := 43) hx hb dX4_walkBack_36 (by decide) (by omega) (fun c_36 => ?_) (fun c_36 => ?_)
        · refine lv_aload_n hx hb dX4_walkBack_43 rfl (lv_at hl 2 rfl) ?_
          refine lv_iload_n hx hb dX4_walkBack_44 rfl (lv_at hl 1 rfl) ?_
          refine lv_iload_n hx hb dX4_walkBack_45 rfl (lv_at hl 0 rfl) ?_
          refine k_X4_costAhead (Wd := 0) po poc poa pob sh i j ra rb pa pb z cst ga gb (by omega) (by omega) ⟨hx, hb, hml, hown, hta⟩ mw595 ⟨Nat.le_of_ble_eq_true rfl, Nat.le_of_ble_eq_true rfl⟩ hK hP hD [0, 1, 2, 3] rfl rfl hl.1 (Nat.le_of_ble_eq_true rfl) dX4_walkBack_46 ⟨Nat.le_of_ble_eq_true rfl, Nat.le_of_ble_eq_true rfl⟩ ?_
          refine lv_istore_n (lv' := [(3, .int (cAh cst i j)), (2, .int (nI j)), (1, .int (nI i)), (0, .ref po)]) hx hb dX4_walkBack_49 rfl hl (by decide) rfl (fun ls hl => ?_)
          refine lv_iload_n hx hb dX4_walkBack_50 rfl (lv_at hl 2 rfl) ?_
          refine ifN_le (tgt := 81) hx hb dX4_walkBack_51 (by decide) (by omega) (fun c_51 => ?_) (fun c_51 => ?_)
          · exact (by omega : False).elim
          · refine lv_iload_n hx hb dX4_walkBack_54 rfl (lv_at hl 1 rfl) ?_
            refine ifN_le (tgt := 81) hx hb dX4_walkBack_55 (by decide) (by omega) (fun c_55 => ?_) (fun c_55 => ?_)
            · refine lv_iconst (v := nI 0) hx hb dX4_walkBack_81 (by decide) ?_
              refine lv_istore (lv' := [(4, .int (nI 0)), (3, .int (cAh cst i j)), (2, .int (nI j)), (1, .int (nI i)), (0, .ref po)]) hx hb dX4_walkBack_82 hl (by decide) rfl (fun ls hl => ?_)
              refine lv_iload hx hb dX4_walkBack_84 (lv_at hl 0 rfl) ?_
              refine ifN_ne (tgt := 114) hx hb dX4_walkBack_86 (by decide) (by omega) (fun c_86 => ?_) (fun c_86 => ?_)
              · exact (by omega : False).elim
              · refine lv_iload_n hx hb dX4_walkBack_89 rfl (lv_at hl 3 rfl) ?_
                refine ifN_le (tgt := 114) hx hb dX4_walkBack_90 (by decide) (by omega) (fun c_90 => ?_) (fun c_90 => ?_)
                · exact (by omega : False).elim
                · refine lv_aload_n hx hb dX4_walkBack_93 rfl (lv_at hl 4 rfl) ?_
                  refine getX hx hb hta inA4 hown hK hP 0 rfl rfl 5 (by decide) mw181 rfl rfl dX4_walkBack_94 ?_
                  refine lv_iload_n hx hb dX4_walkBack_97 rfl (lv_at hl 3 rfl) ?_
                  refine lv_iconst (v := nI 1) hx hb dX4_walkBack_98 (by decide) ?_
                  refine isubN (a := i) (b := 1) hx hb dX4_walkBack_99 (by omega) ?_
                  refine lv_bipush (v := nI 30) hx hb dX4_walkBack_100 (by decide) ?_
                  refine imulN (a := i - 1) (b := 30) hx hb dX4_walkBack_102 ?_
                  refine lv_iload_n hx hb dX4_walkBack_103 rfl (lv_at hl 2 rfl) ?_
                  refine iaddN (a := (i - 1) * 30) (b := j) hx hb dX4_walkBack_104 ?_
                  refine ialdN hx hb hK hP 1 rfl (by omega) (by decide) dX4_walkBack_105 ?_
                  refine lv_iload_n hx hb dX4_walkBack_106 rfl (lv_at hl 1 rfl) ?_
                  refine icmpI_ne (tgt := 114) hx hb dX4_walkBack_107 (by decide) (fun c_107 => ?_) (fun c_107 => ?_)
                  · refine lv_iconst (v := nI 0) hx hb dX4_walkBack_114 (by decide) ?_
                    refine lv_istore (lv' := [(5, .int (nI 0)), (4, .int (nI 0)), (3, .int (cAh cst i j)), (2, .int (nI j)), (1, .int (nI i)), (0, .ref po)]) hx hb dX4_walkBack_115 hl (by decide) rfl (fun ls hl => ?_)
                    refine lv_iload hx hb dX4_walkBack_117 (lv_at hl 1 rfl) ?_
                    refine ifN_ne (tgt := 127) hx hb dX4_walkBack_119 (by decide) (by omega) (fun c_119 => ?_) (fun c_119 => ?_)
                    · exact (by omega : False).elim
                    · refine lv_iload hx hb dX4_walkBack_122 (lv_at hl 0 rfl) ?_
                      refine ifN_eq (tgt := 130) hx hb dX4_walkBack_124 (by decide) (by omega) (fun c_124 => ?_) (fun c_124 => ?_)
                      · refine lv_iload hx hb dX4_walkBack_130 (lv_at hl 0 rfl) ?_
                        refine ifN_ne (tgt := 138) hx hb dX4_walkBack_132 (by decide) (by omega) (fun c_132 => ?_) (fun c_132 => ?_)
                        · exact (by omega : False).elim
                        · have hj0 : 0 < j := by first | omega | exact posJ (by omega) c_107
                          refine lv_iinc (v := nI (j - 1)) (lv' := [(2, .int (nI (j - 1))), (5, .int (nI 0)), (4, .int (nI 0)), (3, .int (cAh cst i j)), (1, .int (nI i)), (0, .ref po)]) hx hb dX4_walkBack_135 hl (k := 3) rfl (nI_dec hj0) (by decide) rfl (fun ls hl => ?_)
                          refine lv_aload_n hx hb dX4_walkBack_138 rfl (lv_at hl 5 rfl) ?_
                          refine lv_aload_n hx hb dX4_walkBack_139 rfl (lv_at hl 5 rfl) ?_
                          refine getX hx hb hta inA4 hown hK hP 0 rfl rfl 8 (by decide) mw184 rfl rfl dX4_walkBack_140 ?_
                          refine lv_iload_n hx hb dX4_walkBack_143 rfl (lv_at hl 4 rfl) ?_
                          refine lv_iload_n hx hb dX4_walkBack_144 rfl (lv_at hl 0 rfl) ?_
                          refine k_X4_meet (Wd := 0) po poc poa pob sh z i (j - 1) ra rb pa pb z cst ga gb (by omega) ⟨hx, hb, hml, hown, hta⟩ mw606 ⟨Nat.le_of_ble_eq_true rfl, Nat.le_of_ble_eq_true rfl⟩ hK hP hD hS [0, 1, 2, 3] rfl rfl hl.1 (Nat.le_of_ble_eq_true rfl) dX4_walkBack_145 ⟨Nat.le_of_ble_eq_true rfl, Nat.le_of_ble_eq_true rfl⟩ (fun H locs hP hS => ?_)
                          have hP : va_P D vwCl [(po, .inr (4, [.ref sh, .int (nI ra), .int (nI rb), .int (nI pa), .int (nI pb), .ref poc, .ref poa, .ref pob, .int (nI z)])), (poc, .inl (cI, 900, .inl cst)), (poa, .inl (cI, 59, .inl (upd ga z (nI i)))), (pob, .inl (cI, 59, .inl (upd gb z (nI (j - 1)))))] H := hP
                          have hD : va_D (adrs [(po, .inr (4, [.ref sh, .int (nI ra), .int (nI rb), .int (nI pa), .int (nI pb), .ref poc, .ref poa, .ref pob, .int (nI pm)])), (poc, .inl (cI, 900, .inl cst)), (poa, .inl (cI, 59, .inl mA)), (pob, .inl (cI, 59, .inl mB))]) [(po, .inr (4, [.ref sh, .int (nI ra), .int (nI rb), .int (nI pa), .int (nI pb), .ref poc, .ref poa, .ref pob, .int (nI z)])), (poc, .inl (cI, 900, .inl cst)), (poa, .inl (cI, 59, .inl (upd ga z (nI i)))), (pob, .inl (cI, 59, .inl (upd gb z (nI (j - 1)))))] := hD.same rfl
                          refine lv_aload_n hx hb dX4_walkBack_148 rfl (lv_at hl 5 rfl) ?_
                          refine lv_dup hx hb dX4_walkBack_149 rfl ?_
                          refine getX hx hb hta inA4 hown hK hP 0 rfl rfl 8 (by decide) mw184 rfl rfl dX4_walkBack_150 ?_
                          refine lv_iconst (v := nI 1) hx hb dX4_walkBack_153 (by decide) ?_
                          refine iaddN (a := z) (b := 1) hx hb dX4_walkBack_154 ?_
                          refine putX hx hb hta inA4 tyX4 tyX4_ok nmX4 hown hK hP hD hS 0 rfl rfl 8 (by decide) mw184 rfl rfl (ty := .int) rfl rfl rfl (Nat.le_of_ble_eq_true rfl) dX4_walkBack_155 (fun H locs hP hS => ?_)
                          have hP : va_P D vwCl [(po, .inr (4, [.ref sh, .int (nI ra), .int (nI rb), .int (nI pa), .int (nI pb), .ref poc, .ref poa, .ref pob, .int (nI (z + 1))])), (poc, .inl (cI, 900, .inl cst)), (poa, .inl (cI, 59, .inl (upd ga z (nI i)))), (pob, .inl (cI, 59, .inl (upd gb z (nI (j - 1)))))] H := hP
                          have hD : va_D (adrs [(po, .inr (4, [.ref sh, .int (nI ra), .int (nI rb), .int (nI pa), .int (nI pb), .ref poc, .ref poa, .ref pob, .int (nI pm)])), (poc, .inl (cI, 900, .inl cst)), (poa, .inl (cI, 59, .inl mA)), (pob, .inl (cI, 59, .inl mB))]) [(po, .inr (4, [.ref sh, .int (nI ra), .int (nI rb), .int (nI pa), .int (nI pb), .ref poc, .ref poa, .ref pob, .int (nI (z + 1))])), (poc, .inl (cI, 900, .inl cst)), (poa, .inl (cI, 59, .inl (upd ga z (nI i)))), (pob, .inl (cI, 59, .inl (upd gb z (nI (j - 1)))))] := hD.same rfl
                          refine lv_goto (tgt := 26) hx hb dX4_walkBack_158 (by decide) ?_
                          exact ih_26 i (j - 1) (z + 1) (upd ga z (nI i)) (upd gb z (nI (j - 1))) (by omega) (by omega) (by omega) (hA.trans (wbC_step (by omega) (by first | (simp only [stI, stO, stB, eq_true c_32, eq_false c_36, eq_false c_51, eq_true c_55, eq_true c_86, eq_false c_90, eq_false c_107, eq_true c_119, eq_true c_124, eq_true c_132, decide_true, decide_false, Bool.true_or, Bool.or_true, Bool.false_or, Bool.or_false, Bool.true_and, Bool.and_true, Bool.false_and, Bool.and_false, Bool.not_true, Bool.not_false, if_true, if_false, Bool.false_eq_true, and_true, true_and, and_false, false_and, or_true, true_or, or_false, false_or, not_true_eq_false, not_false_eq_true, bz]; done) | (simp only [stI, stO, stB, eq_true c_32, eq_false c_36, eq_false c_51, eq_true c_55, eq_true c_86, eq_false c_90, eq_false c_107, eq_true c_119, eq_true c_124, eq_true c_132, decide_true, decide_false, Bool.true_or, Bool.or_true, Bool.false_or, Bool.or_false, Bool.true_and, Bool.and_true, Bool.false_and, Bool.and_false, Bool.not_true, Bool.not_false, if_true, if_false, Bool.false_eq_true, and_true, true_and, and_false, false_and, or_true, true_or, or_false, false_or, not_true_eq_false, not_false_eq_true, bz]; rfl)) (by first | (simp only [stJ, stO, stB, eq_true c_32, eq_false c_36, eq_false c_51, eq_true c_55, eq_true c_86, eq_false c_90, eq_false c_107, eq_true c_119, eq_true c_124, eq_true c_132, decide_true, decide_false, Bool.true_or, Bool.or_true, Bool.false_or, Bool.or_false, Bool.true_and, Bool.and_true, Bool.false_and, Bool.and_false, Bool.not_true, Bool.not_false, if_true, if_false, Bool.false_eq_true, and_true, true_and, and_false, false_and, or_true, true_or, or_false, false_or, not_true_eq_false, not_false_eq_true, bz]; done) | (simp only [stJ, stO, stB, eq_true c_32, eq_false c_36, eq_false c_51, eq_true c_55, eq_true c_86, eq_false c_90, eq_false c_107, eq_true c_119, eq_true c_124, eq_true c_132, decide_true, decide_false, Bool.true_or, Bool.or_true, Bool.false_or, Bool.or_false, Bool.true_and, Bool.and_true, Bool.false_and, Bool.and_false, Bool.not_true, Bool.not_false, if_true, if_false, Bool.false_eq_true, and_true, true_and, and_false, false_and, or_true, true_or, or_false, false_or, not_true_eq_false, not_false_eq_true, bz]; rfl)))) _ _ hP hS ls (lv_sub hl [0, 4, 5] rfl)
                      · exact (by omega : False).elim
                  · refine lv_iconst (v := nI 1) hx hb dX4_walkBack_110 (by decide) ?_
                    refine lv_goto (tgt := 115) hx hb dX4_walkBack_111 (by decide) ?_
                    refine lv_istore (lv' := [(5, .int (nI 1)), (4, .int (nI 0)), (3, .int (cAh cst i j)), (2, .int (nI j)), (1, .int (nI i)), (0, .ref po)]) hx hb dX4_walkBack_115 hl (by decide) rfl (fun ls hl => ?_)
                    refine lv_iload hx hb dX4_walkBack_117 (lv_at hl 1 rfl) ?_
                    refine ifN_ne (tgt := 127) hx hb dX4_walkBack_119 (by decide) (by omega) (fun c_119 => ?_) (fun c_119 => ?_)
                    · exact (by omega : False).elim
                    · refine lv_iload hx hb dX4_walkBack_122 (lv_at hl 0 rfl) ?_
                      refine ifN_eq (tgt := 130) hx hb dX4_walkBack_124 (by decide) (by omega) (fun c_124 => ?_) (fun c_124 => ?_)
                      · exact (by omega : False).elim
                      · refine lv_iinc (v := nI (i - 1)) (lv' := [(1, .int (nI (i - 1))), (5, .int (nI 1)), (4, .int (nI 0)), (3, .int (cAh cst i j)), (2, .int (nI j)), (0, .ref po)]) hx hb dX4_walkBack_127 hl (k := 4) rfl (nI_dec (by omega)) (by decide) rfl (fun ls hl => ?_)
                        refine lv_iload hx hb dX4_walkBack_130 (lv_at hl 1 rfl) ?_
                        refine ifN_ne (tgt := 138) hx hb dX4_walkBack_132 (by decide) (by omega) (fun c_132 => ?_) (fun c_132 => ?_)
                        · refine lv_aload_n hx hb dX4_walkBack_138 rfl (lv_at hl 5 rfl) ?_
                          refine lv_aload_n hx hb dX4_walkBack_139 rfl (lv_at hl 5 rfl) ?_
                          refine getX hx hb hta inA4 hown hK hP 0 rfl rfl 8 (by decide) mw184 rfl rfl dX4_walkBack_140 ?_
                          refine lv_iload_n hx hb dX4_walkBack_143 rfl (lv_at hl 0 rfl) ?_
                          refine lv_iload_n hx hb dX4_walkBack_144 rfl (lv_at hl 4 rfl) ?_
                          refine k_X4_meet (Wd := 0) po poc poa pob sh z (i - 1) j ra rb pa pb z cst ga gb (by omega) ⟨hx, hb, hml, hown, hta⟩ mw606 ⟨Nat.le_of_ble_eq_true rfl, Nat.le_of_ble_eq_true rfl⟩ hK hP hD hS [0, 1, 2, 3] rfl rfl hl.1 (Nat.le_of_ble_eq_true rfl) dX4_walkBack_145 ⟨Nat.le_of_ble_eq_true rfl, Nat.le_of_ble_eq_true rfl⟩ (fun H locs hP hS => ?_)
                          have hP : va_P D vwCl [(po, .inr (4, [.ref sh, .int (nI ra), .int (nI rb), .int (nI pa), .int (nI pb), .ref poc, .ref poa, .ref pob, .int (nI z)])), (poc, .inl (cI, 900, .inl cst)), (poa, .inl (cI, 59, .inl (upd ga z (nI (i - 1))))), (pob, .inl (cI, 59, .inl (upd gb z (nI j))))] H := hP
                          have hD : va_D (adrs [(po, .inr (4, [.ref sh, .int (nI ra), .int (nI rb), .int (nI pa), .int (nI pb), .ref poc, .ref poa, .ref pob, .int (nI pm)])), (poc, .inl (cI, 900, .inl cst)), (poa, .inl (cI, 59, .inl mA)), (pob, .inl (cI, 59, .inl mB))]) [(po, .inr (4, [.ref sh, .int (nI ra), .int (nI rb), .int (nI pa), .int (nI pb), .ref poc, .ref poa, .ref pob, .int (nI z)])), (poc, .inl (cI, 900, .inl cst)), (poa, .inl (cI, 59, .inl (upd ga z (nI (i - 1))))), (pob, .inl (cI, 59, .inl (upd gb z (nI j))))] := hD.same rfl
                          refine lv_aload_n hx hb dX4_walkBack_148 rfl (lv_at hl 5 rfl) ?_
                          refine lv_dup hx hb dX4_walkBack_149 rfl ?_
                          refine getX hx hb hta inA4 hown hK hP 0 rfl rfl 8 (by decide) mw184 rfl rfl dX4_walkBack_150 ?_
                          refine lv_iconst (v := nI 1) hx hb dX4_walkBack_153 (by decide) ?_
                          refine iaddN (a := z) (b := 1) hx hb dX4_walkBack_154 ?_
                          refine putX hx hb hta inA4 tyX4 tyX4_ok nmX4 hown hK hP hD hS 0 rfl rfl 8 (by decide) mw184 rfl rfl (ty := .int) rfl rfl rfl (Nat.le_of_ble_eq_true rfl) dX4_walkBack_155 (fun H locs hP hS => ?_)
                          have hP : va_P D vwCl [(po, .inr (4, [.ref sh, .int (nI ra), .int (nI rb), .int (nI pa), .int (nI pb), .ref poc, .ref poa, .ref pob, .int (nI (z + 1))])), (poc, .inl (cI, 900, .inl cst)), (poa, .inl (cI, 59, .inl (upd ga z (nI (i - 1))))), (pob, .inl (cI, 59, .inl (upd gb z (nI j))))] H := hP
                          have hD : va_D (adrs [(po, .inr (4, [.ref sh, .int (nI ra), .int (nI rb), .int (nI pa), .int (nI pb), .ref poc, .ref poa, .ref pob, .int (nI pm)])), (poc, .inl (cI, 900, .inl cst)), (poa, .inl (cI, 59, .inl mA)), (pob, .inl (cI, 59, .inl mB))]) [(po, .inr (4, [.ref sh, .int (nI ra), .int (nI rb), .int (nI pa), .int (nI pb), .ref poc, .ref poa, .ref pob, .int (nI (z + 1))])), (poc, .inl (cI, 900, .inl cst)), (poa, .inl (cI, 59, .inl (upd ga z (nI (i - 1))))), (pob, .inl (cI, 59, .inl (upd gb z (nI j))))] := hD.same rfl
                          refine lv_goto (tgt := 26) hx hb dX4_walkBack_158 (by decide) ?_
                          exact ih_26 (i - 1) j (z + 1) (upd ga z (nI (i - 1))) (upd gb z (nI j)) (by omega) (by omega) (by omega) (hA.trans (wbC_step (by omega) (by first | (simp only [stI, stO, stB, eq_true c_32, eq_false c_36, eq_false c_51, eq_true c_55, eq_true c_86, eq_false c_90, eq_true c_107, eq_true c_119, eq_false c_124, eq_false c_132, decide_true, decide_false, Bool.true_or, Bool.or_true, Bool.false_or, Bool.or_false, Bool.true_and, Bool.and_true, Bool.false_and, Bool.and_false, Bool.not_true, Bool.not_false, if_true, if_false, Bool.false_eq_true, and_true, true_and, and_false, false_and, or_true, true_or, or_false, false_or, not_true_eq_false, not_false_eq_true, bz]; done) | (simp only [stI, stO, stB, eq_true c_32, eq_false c_36, eq_false c_51, eq_true c_55, eq_true c_86, eq_false c_90, eq_true c_107, eq_true c_119, eq_false c_124, eq_false c_132, decide_true, decide_false, Bool.true_or, Bool.or_true, Bool.false_or, Bool.or_false, Bool.true_and, Bool.and_true, Bool.false_and, Bool.and_false, Bool.not_true, Bool.not_false, if_true, if_false, Bool.false_eq_true, and_true, true_and, and_false, false_and, or_true, true_or, or_false, false_or, not_true_eq_false, not_false_eq_true, bz]; rfl)) (by first | (simp only [stJ, stO, stB, eq_true c_32, eq_false c_36, eq_false c_51, eq_true c_55, eq_true c_86, eq_false c_90, eq_true c_107, eq_true c_119, eq_false c_124, eq_false c_132, decide_true, decide_false, Bool.true_or, Bool.or_true, Bool.false_or, Bool.or_false, Bool.true_and, Bool.and_true, Bool.false_and, Bool.and_false, Bool.not_true, Bool.not_false, if_true, if_false, Bool.false_eq_true, and_true, true_and, and_false, false_and, or_true, true_or, or_false, false_or, not_true_eq_false, not_false_eq_true, bz]; done) | (simp only [stJ, stO, stB, eq_true c_32, eq_false c_36, eq_false c_51, eq_true c_55, eq_true c_86, eq_false c_90, eq_true c_107, eq_true c_119, eq_false c_124, eq_false c_132, decide_true, decide_false, Bool.true_or, Bool.or_true, Bool.false_or, Bool.or_false, Bool.true_and, Bool.and_true, Bool.false_and, Bool.and_false, Bool.not_true, Bool.not_false, if_true, if_false, Bool.false_eq_true, and_true, true_and, and_false, false_and, or_true, true_or, or_false, false_or, not_true_eq_false, not_false_eq_true, bz]; rfl)))) _ _ hP hS ls (lv_sub hl [4, 0, 5] rfl)
                        · exact (by omega : False).elim
            · refine lv_aload_n hx hb dX4_walkBack_58 rfl (lv_at hl 3 rfl) ?_
              refine getX hx hb hta inA4 hown hK hP 0 rfl rfl 5 (by decide) mw181 rfl rfl dX4_walkBack_59 ?_
              refine lv_iload_n hx hb dX4_walkBack_62 rfl (lv_at hl 2 rfl) ?_
              refine lv_iconst (v := nI 1) hx hb dX4_walkBack_63 (by decide) ?_
              refine isubN (a := i) (b := 1) hx hb dX4_walkBack_64 (by omega) ?_
              refine lv_bipush (v := nI 30) hx hb dX4_walkBack_65 (by decide) ?_
              refine imulN (a := i - 1) (b := 30) hx hb dX4_walkBack_67 ?_
              refine lv_iload_n hx hb dX4_walkBack_68 rfl (lv_at hl 1 rfl) ?_
              refine iaddN (a := (i - 1) * 30) (b := j) hx hb dX4_walkBack_69 ?_
              refine lv_iconst (v := nI 1) hx hb dX4_walkBack_70 (by decide) ?_
              refine isubN (a := (i - 1) * 30 + j) (b := 1) hx hb dX4_walkBack_71 (by omega) ?_
              refine ialdN hx hb hK hP 1 rfl (by omega) (by decide) dX4_walkBack_72 ?_
              refine lv_iload_n hx hb dX4_walkBack_73 rfl (lv_at hl 0 rfl) ?_
              refine icmpI_ne (tgt := 81) hx hb dX4_walkBack_74 (by decide) (fun c_74 => ?_) (fun c_74 => ?_)
              · refine lv_iconst (v := nI 0) hx hb dX4_walkBack_81 (by decide) ?_
                refine lv_istore (lv' := [(4, .int (nI 0)), (3, .int (cAh cst i j)), (2, .int (nI j)), (1, .int (nI i)), (0, .ref po)]) hx hb dX4_walkBack_82 hl (by decide) rfl (fun ls hl => ?_)
                refine lv_iload hx hb dX4_walkBack_84 (lv_at hl 0 rfl) ?_
                refine ifN_ne (tgt := 114) hx hb dX4_walkBack_86 (by decide) (by omega) (fun c_86 => ?_) (fun c_86 => ?_)
                · exact (by omega : False).elim
                · refine lv_iload_n hx hb dX4_walkBack_89 rfl (lv_at hl 3 rfl) ?_
                  refine ifN_le (tgt := 114) hx hb dX4_walkBack_90 (by decide) (by omega) (fun c_90 => ?_) (fun c_90 => ?_)
                  · exact (by omega : False).elim
                  · refine lv_aload_n hx hb dX4_walkBack_93 rfl (lv_at hl 4 rfl) ?_
                    refine getX hx hb hta inA4 hown hK hP 0 rfl rfl 5 (by decide) mw181 rfl rfl dX4_walkBack_94 ?_
                    refine lv_iload_n hx hb dX4_walkBack_97 rfl (lv_at hl 3 rfl) ?_
                    refine lv_iconst (v := nI 1) hx hb dX4_walkBack_98 (by decide) ?_
                    refine isubN (a := i) (b := 1) hx hb dX4_walkBack_99 (by omega) ?_
                    refine lv_bipush (v := nI 30) hx hb dX4_walkBack_100 (by decide) ?_
                    refine imulN (a := i - 1) (b := 30) hx hb dX4_walkBack_102 ?_
                    refine lv_iload_n hx hb dX4_walkBack_103 rfl (lv_at hl 2 rfl) ?_
                    refine iaddN (a := (i - 1) * 30) (b := j) hx hb dX4_walkBack_104 ?_
                    refine ialdN hx hb hK hP 1 rfl (by omega) (by decide) dX4_walkBack_105 ?_
                    refine lv_iload_n hx hb dX4_walkBack_106 rfl (lv_at hl 1 rfl) ?_
                    refine icmpI_ne (tgt := 114) hx hb dX4_walkBack_107 (by decide) (fun c_107 => ?_) (fun c_107 => ?_)
                    · refine lv_iconst (v := nI 0) hx hb dX4_walkBack_114 (by decide) ?_
                      refine lv_istore (lv' := [(5, .int (nI 0)), (4, .int (nI 0)), (3, .int (cAh cst i j)), (2, .int (nI j)), (1, .int (nI i)), (0, .ref po)]) hx hb dX4_walkBack_115 hl (by decide) rfl (fun ls hl => ?_)
                      refine lv_iload hx hb dX4_walkBack_117 (lv_at hl 1 rfl) ?_
                      refine ifN_ne (tgt := 127) hx hb dX4_walkBack_119 (by decide) (by omega) (fun c_119 => ?_) (fun c_119 => ?_)
                      · exact (by omega : False).elim
                      · refine lv_iload hx hb dX4_walkBack_122 (lv_at hl 0 rfl) ?_
                        refine ifN_eq (tgt := 130) hx hb dX4_walkBack_124 (by decide) (by omega) (fun c_124 => ?_) (fun c_124 => ?_)
                        · refine lv_iload hx hb dX4_walkBack_130 (lv_at hl 0 rfl) ?_
                          refine ifN_ne (tgt := 138) hx hb dX4_walkBack_132 (by decide) (by omega) (fun c_132 => ?_) (fun c_132 => ?_)
                          · exact (by omega : False).elim
                          · have hj0 : 0 < j := by first | omega | exact posJ (by omega) c_107
                            refine lv_iinc (v := nI (j - 1)) (lv' := [(2, .int (nI (j - 1))), (5, .int (nI 0)), (4, .int (nI 0)), (3, .int (cAh cst i j)), (1, .int (nI i)), (0, .ref po)]) hx hb dX4_walkBack_135 hl (k := 3) rfl (nI_dec hj0) (by decide) rfl (fun ls hl => ?_)
                            refine lv_aload_n hx hb dX4_walkBack_138 rfl (lv_at hl 5 rfl) ?_
                            refine lv_aload_n hx hb dX4_walkBack_139 rfl (lv_at hl 5 rfl) ?_
                            refine getX hx hb hta inA4 hown hK hP 0 rfl rfl 8 (by decide) mw184 rfl rfl dX4_walkBack_140 ?_
                            refine lv_iload_n hx hb dX4_walkBack_143 rfl (lv_at hl 4 rfl) ?_
                            refine lv_iload_n hx hb dX4_walkBack_144 rfl (lv_at hl 0 rfl) ?_
                            refine k_X4_meet (Wd := 0) po poc poa pob sh z i (j - 1) ra rb pa pb z cst ga gb (by omega) ⟨hx, hb, hml, hown, hta⟩ mw606 ⟨Nat.le_of_ble_eq_true rfl, Nat.le_of_ble_eq_true rfl⟩ hK hP hD hS [0, 1, 2, 3] rfl rfl hl.1 (Nat.le_of_ble_eq_true rfl) dX4_walkBack_145 ⟨Nat.le_of_ble_eq_true rfl, Nat.le_of_ble_eq_true rfl⟩ (fun H locs hP hS => ?_)
                            have hP : va_P D vwCl [(po, .inr (4, [.ref sh, .int (nI ra), .int (nI rb), .int (nI pa), .int (nI pb), .ref poc, .ref poa, .ref pob, .int (nI z)])), (poc, .inl (cI, 900, .inl cst)), (poa, .inl (cI, 59, .inl (upd ga z (nI i)))), (pob, .inl (cI, 59, .inl (upd gb z (nI (j - 1)))))] H := hP
                            have hD : va_D (adrs [(po, .inr (4, [.ref sh, .int (nI ra), .int (nI rb), .int (nI pa), .int (nI pb), .ref poc, .ref poa, .ref pob, .int (nI pm)])), (poc, .inl (cI, 900, .inl cst)), (poa, .inl (cI, 59, .inl mA)), (pob, .inl (cI, 59, .inl mB))]) [(po, .inr (4, [.ref sh, .int (nI ra), .int (nI rb), .int (nI pa), .int (nI pb), .ref poc, .ref poa, .ref pob, .int (nI z)])), (poc, .inl (cI, 900, .inl cst)), (poa, .inl (cI, 59, .inl (upd ga z (nI i)))), (pob, .inl (cI, 59, .inl (upd gb z (nI (j - 1)))))] := hD.same rfl
                            refine lv_aload_n hx hb dX4_walkBack_148 rfl (lv_at hl 5 rfl) ?_
                            refine lv_dup hx hb dX4_walkBack_149 rfl ?_
                            refine getX hx hb hta inA4 hown hK hP 0 rfl rfl 8 (by decide) mw184 rfl rfl dX4_walkBack_150 ?_
                            refine lv_iconst (v := nI 1) hx hb dX4_walkBack_153 (by decide) ?_
                            refine iaddN (a := z) (b := 1) hx hb dX4_walkBack_154 ?_
                            refine putX hx hb hta inA4 tyX4 tyX4_ok nmX4 hown hK hP hD hS 0 rfl rfl 8 (by decide) mw184 rfl rfl (ty := .int) rfl rfl rfl (Nat.le_of_ble_eq_true rfl) dX4_walkBack_155 (fun H locs hP hS => ?_)
                            have hP : va_P D vwCl [(po, .inr (4, [.ref sh, .int (nI ra), .int (nI rb), .int (nI pa), .int (nI pb), .ref poc, .ref poa, .ref pob, .int (nI (z + 1))])), (poc, .inl (cI, 900, .inl cst)), (poa, .inl (cI, 59, .inl (upd ga z (nI i)))), (pob, .inl (cI, 59, .inl (upd gb z (nI (j - 1)))))] H := hP
                            have hD : va_D (adrs [(po, .inr (4, [.ref sh, .int (nI ra), .int (nI rb), .int (nI pa), .int (nI pb), .ref poc, .ref poa, .ref pob, .int (nI pm)])), (poc, .inl (cI, 900, .inl cst)), (poa, .inl (cI, 59, .inl mA)), (pob, .inl (cI, 59, .inl mB))]) [(po, .inr (4, [.ref sh, .int (nI ra), .int (nI rb), .int (nI pa), .int (nI pb), .ref poc, .ref poa, .ref pob, .int (nI (z + 1))])), (poc, .inl (cI, 900, .inl cst)), (poa, .inl (cI, 59, .inl (upd ga z (nI i)))), (pob, .inl (cI, 59, .inl (upd gb z (nI (j - 1)))))] := hD.same rfl
                            refine lv_goto (tgt := 26) hx hb dX4_walkBack_158 (by decide) ?_
                            exact ih_26 i (j - 1) (z + 1) (upd ga z (nI i)) (upd gb z (nI (j - 1))) (by omega) (by omega) (by omega) (hA.trans (wbC_step (by omega) (by first | (simp only [stI, stO, stB, eq_true c_32, eq_false c_36, eq_false c_51, eq_false c_55, eq_false c_74, eq_true c_86, eq_false c_90, eq_false c_107, eq_true c_119, eq_true c_124, eq_true c_132, decide_true, decide_false, Bool.true_or, Bool.or_true, Bool.false_or, Bool.or_false, Bool.true_and, Bool.and_true, Bool.false_and, Bool.and_false, Bool.not_true, Bool.not_false, if_true, if_false, Bool.false_eq_true, and_true, true_and, and_false, false_and, or_true, true_or, or_false, false_or, not_true_eq_false, not_false_eq_true, bz]; done) | (simp only [stI, stO, stB, eq_true c_32, eq_false c_36, eq_false c_51, eq_false c_55, eq_false c_74, eq_true c_86, eq_false c_90, eq_false c_107, eq_true c_119, eq_true c_124, eq_true c_132, decide_true, decide_false, Bool.true_or, Bool.or_true, Bool.false_or, Bool.or_false, Bool.true_and, Bool.and_true, Bool.false_and, Bool.and_false, Bool.not_true, Bool.not_false, if_true, if_false, Bool.false_eq_true, and_true, true_and, and_false, false_and, or_true, true_or, or_false, false_or, not_true_eq_false, not_false_eq_true, bz]; rfl)) (by first | (simp only [stJ, stO, stB, eq_true c_32, eq_false c_36, eq_false c_51, eq_false c_55, eq_false c_74, eq_true c_86, eq_false c_90, eq_false c_107, eq_true c_119, eq_true c_124, eq_true c_132, decide_true, decide_false, Bool.true_or, Bool.or_true, Bool.false_or, Bool.or_false, Bool.true_and, Bool.and_true, Bool.false_and, Bool.and_false, Bool.not_true, Bool.not_false, if_true, if_false, Bool.false_eq_true, and_true, true_and, and_false, false_and, or_true, true_or, or_false, false_or, not_true_eq_false, not_false_eq_true, bz]; done) | (simp only [stJ, stO, stB, eq_true c_32, eq_false c_36, eq_false c_51, eq_false c_55, eq_false c_74, eq_true c_86, eq_false c_90, eq_false c_107, eq_true c_119, eq_true c_124, eq_true c_132, decide_true, decide_false, Bool.true_or, Bool.or_true, Bool.false_or, Bool.or_false, Bool.true_and, Bool.and_true, Bool.false_and, Bool.and_false, Bool.not_true, Bool.not_false, if_true, if_false, Bool.false_eq_true, and_true, true_and, and_false, false_and, or_true, true_or, or_false, false_or, not_true_eq_false, not_false_eq_true, bz]; rfl)))) _ _ hP hS ls (lv_sub hl [0, 4, 5] rfl)
                        · exact (by omega : False).elim
                    · refine lv_iconst (v := nI 1) hx hb dX4_walkBack_110 (by decide) ?_
                      refine lv_goto (tgt := 115) hx hb dX4_walkBack_111 (by decide) ?_
                      refine lv_istore (lv' := [(5, .int (nI 1)), (4, .int (nI 0)), (3, .int (cAh cst i j)), (2, .int (nI j)), (1, .int (nI i)), (0, .ref po)]) hx hb dX4_walkBack_115 hl (by decide) rfl (fun ls hl => ?_)
                      refine lv_iload hx hb dX4_walkBack_117 (lv_at hl 1 rfl) ?_
                      refine ifN_ne (tgt := 127) hx hb dX4_walkBack_119 (by decide) (by omega) (fun c_119 => ?_) (fun c_119 => ?_)
                      · exact (by omega : False).elim
                      · refine lv_iload hx hb dX4_walkBack_122 (lv_at hl 0 rfl) ?_
                        refine ifN_eq (tgt := 130) hx hb dX4_walkBack_124 (by decide) (by omega) (fun c_124 => ?_) (fun c_124 => ?_)
                        · exact (by omega : False).elim
                        · refine lv_iinc (v := nI (i - 1)) (lv' := [(1, .int (nI (i - 1))), (5, .int (nI 1)), (4, .int (nI 0)), (3, .int (cAh cst i j)), (2, .int (nI j)), (0, .ref po)]) hx hb dX4_walkBack_127 hl (k := 4) rfl (nI_dec (by omega)) (by decide) rfl (fun ls hl => ?_)
                          refine lv_iload hx hb dX4_walkBack_130 (lv_at hl 1 rfl) ?_
                          refine ifN_ne (tgt := 138) hx hb dX4_walkBack_132 (by decide) (by omega) (fun c_132 => ?_) (fun c_132 => ?_)
                          · refine lv_aload_n hx hb dX4_walkBack_138 rfl (lv_at hl 5 rfl) ?_
                            refine lv_aload_n hx hb dX4_walkBack_139 rfl (lv_at hl 5 rfl) ?_
                            refine getX hx hb hta inA4 hown hK hP 0 rfl rfl 8 (by decide) mw184 rfl rfl dX4_walkBack_140 ?_
                            refine lv_iload_n hx hb dX4_walkBack_143 rfl (lv_at hl 0 rfl) ?_
                            refine lv_iload_n hx hb dX4_walkBack_144 rfl (lv_at hl 4 rfl) ?_
                            refine k_X4_meet (Wd := 0) po poc poa pob sh z (i - 1) j ra rb pa pb z cst ga gb (by omega) ⟨hx, hb, hml, hown, hta⟩ mw606 ⟨Nat.le_of_ble_eq_true rfl, Nat.le_of_ble_eq_true rfl⟩ hK hP hD hS [0, 1, 2, 3] rfl rfl hl.1 (Nat.le_of_ble_eq_true rfl) dX4_walkBack_145 ⟨Nat.le_of_ble_eq_true rfl, Nat.le_of_ble_eq_true rfl⟩ (fun H locs hP hS => ?_)
                            have hP : va_P D vwCl [(po, .inr (4, [.ref sh, .int (nI ra), .int (nI rb), .int (nI pa), .int (nI pb), .ref poc, .ref poa, .ref pob, .int (nI z)])), (poc, .inl (cI, 900, .inl cst)), (poa, .inl (cI, 59, .inl (upd ga z (nI (i - 1))))), (pob, .inl (cI, 59, .inl (upd gb z (nI j))))] H := hP
                            have hD : va_D (adrs [(po, .inr (4, [.ref sh, .int (nI ra), .int (nI rb), .int (nI pa), .int (nI pb), .ref poc, .ref poa, .ref pob, .int (nI pm)])), (poc, .inl (cI, 900, .inl cst)), (poa, .inl (cI, 59, .inl mA)), (pob, .inl (cI, 59, .inl mB))]) [(po, .inr (4, [.ref sh, .int (nI ra), .int (nI rb), .int (nI pa), .int (nI pb), .ref poc, .ref poa, .ref pob, .int (nI z)])), (poc, .inl (cI, 900, .inl cst)), (poa, .inl (cI, 59, .inl (upd ga z (nI (i - 1))))), (pob, .inl (cI, 59, .inl (upd gb z (nI j))))] := hD.same rfl
                            refine lv_aload_n hx hb dX4_walkBack_148 rfl (lv_at hl 5 rfl) ?_
                            refine lv_dup hx hb dX4_walkBack_149 rfl ?_
                            refine getX hx hb hta inA4 hown hK hP 0 rfl rfl 8 (by decide) mw184 rfl rfl dX4_walkBack_150 ?_
                            refine lv_iconst (v := nI 1) hx hb dX4_walkBack_153 (by decide) ?_
                            refine iaddN (a := z) (b := 1) hx hb dX4_walkBack_154 ?_
                            refine putX hx hb hta inA4 tyX4 tyX4_ok nmX4 hown hK hP hD hS 0 rfl rfl 8 (by decide) mw184 rfl rfl (ty := .int) rfl rfl rfl (Nat.le_of_ble_eq_true rfl) dX4_walkBack_155 (fun H locs hP hS => ?_)
                            have hP : va_P D vwCl [(po, .inr (4, [.ref sh, .int (nI ra), .int (nI rb), .int (nI pa), .int (nI pb), .ref poc, .ref poa, .ref pob, .int (nI (z + 1))])), (poc, .inl (cI, 900, .inl cst)), (poa, .inl (cI, 59, .inl (upd ga z (nI (i - 1))))), (pob, .inl (cI, 59, .inl (upd gb z (nI j))))] H := hP
                            have hD : va_D (adrs [(po, .inr (4, [.ref sh, .int (nI ra), .int (nI rb), .int (nI pa), .int (nI pb), .ref poc, .ref poa, .ref pob, .int (nI pm)])), (poc, .inl (cI, 900, .inl cst)), (poa, .inl (cI, 59, .inl mA)), (pob, .inl (cI, 59, .inl mB))]) [(po, .inr (4, [.ref sh, .int (nI ra), .int (nI rb), .int (nI pa), .int (nI pb), .ref poc, .ref poa, .ref pob, .int (nI (z + 1))])), (poc, .inl (cI, 900, .inl cst)), (poa, .inl (cI, 59, .inl (upd ga z (nI (i - 1))))), (pob, .inl (cI, 59, .inl (upd gb z (nI j))))] := hD.same rfl
                            refine lv_goto (tgt := 26) hx hb dX4_walkBack_158 (by decide) ?_
                            exact ih_26 (i - 1) j (z + 1) (upd ga z (nI (i - 1))) (upd gb z (nI j)) (by omega) (by omega) (by omega) (hA.trans (wbC_step (by omega) (by first | (simp only [stI, stO, stB, eq_true c_32, eq_false c_36, eq_false c_51, eq_false c_55, eq_false c_74, eq_true c_86, eq_false c_90, eq_true c_107, eq_true c_119, eq_false c_124, eq_false c_132, decide_true, decide_false, Bool.true_or, Bool.or_true, Bool.false_or, Bool.or_false, Bool.true_and, Bool.and_true, Bool.false_and, Bool.and_false, Bool.not_true, Bool.not_false, if_true, if_false, Bool.false_eq_true, and_true, true_and, and_false, false_and, or_true, true_or, or_false, false_or, not_true_eq_false, not_false_eq_true, bz]; done) | (simp only [stI, stO, stB, eq_true c_32, eq_false c_36, eq_false c_51, eq_false c_55, eq_false c_74, eq_true c_86, eq_false c_90, eq_true c_107, eq_true c_119, eq_false c_124, eq_false c_132, decide_true, decide_false, Bool.true_or, Bool.or_true, Bool.false_or, Bool.or_false, Bool.true_and, Bool.and_true, Bool.false_and, Bool.and_false, Bool.not_true, Bool.not_false, if_true, if_false, Bool.false_eq_true, and_true, true_and, and_false, false_and, or_true, true_or, or_false, false_or, not_true_eq_false, not_false_eq_true, bz]; rfl)) (by first | (simp only [stJ, stO, stB, eq_true c_32, eq_false c_36, eq_false c_51, eq_false c_55, eq_false c_74, eq_true c_86, eq_false c_90, eq_true c_107, eq_true c_119, eq_false c_124, eq_false c_132, decide_true, decide_false, Bool.true_or, Bool.or_true, Bool.false_or, Bool.or_false, Bool.true_and, Bool.and_true, Bool.false_and, Bool.and_false, Bool.not_true, Bool.not_false, if_true, if_false, Bool.false_eq_true, and_true, true_and, and_false, false_and, or_true, true_or, or_false, false_or, not_true_eq_false, not_false_eq_true, bz]; done) | (simp only [stJ, stO, stB, eq_true c_32, eq_false c_36, eq_false c_51, eq_false c_55, eq_false c_74, eq_true c_86, eq_false c_90, eq_true c_107, eq_true c_119, eq_false c_124, eq_false c_132, decide_true, decide_false, Bool.true_or, Bool.or_true, Bool.false_or, Bool.or_false, Bool.true_and, Bool.and_true, Bool.false_and, Bool.and_false, Bool.not_true, Bool.not_false, if_true, if_false, Bool.false_eq_true, and_true, true_and, and_false, false_and, or_true, true_or, or_false, false_or, not_true_eq_false, not_false_eq_true, bz]; rfl)))) _ _ hP hS ls (lv_sub hl [4, 0, 5] rfl)
                          · exact (by omega : False).elim
              · refine lv_iconst (v := nI 1) hx hb dX4_walkBack_77 (by decide) ?_
                refine lv_goto (tgt := 82) hx hb dX4_walkBack_78 (by decide) ?_
                refine lv_istore (lv' := [(4, .int (nI 1)), (3, .int (cAh cst i j)), (2, .int (nI j)), (1, .int (nI i)), (0, .ref po)]) hx hb dX4_walkBack_82 hl (by decide) rfl (fun ls hl => ?_)
                refine lv_iload hx hb dX4_walkBack_84 (lv_at hl 0 rfl) ?_
                refine ifN_ne (tgt := 114) hx hb dX4_walkBack_86 (by decide) (by omega) (fun c_86 => ?_) (fun c_86 => ?_)
                · refine lv_iconst (v := nI 0) hx hb dX4_walkBack_114 (by decide) ?_
                  refine lv_istore (lv' := [(5, .int (nI 0)), (4, .int (nI 1)), (3, .int (cAh cst i j)), (2, .int (nI j)), (1, .int (nI i)), (0, .ref po)]) hx hb dX4_walkBack_115 hl (by decide) rfl (fun ls hl => ?_)
                  refine lv_iload hx hb dX4_walkBack_117 (lv_at hl 1 rfl) ?_
                  refine ifN_ne (tgt := 127) hx hb dX4_walkBack_119 (by decide) (by omega) (fun c_119 => ?_) (fun c_119 => ?_)
                  · refine lv_iinc (v := nI (i - 1)) (lv' := [(1, .int (nI (i - 1))), (5, .int (nI 0)), (4, .int (nI 1)), (3, .int (cAh cst i j)), (2, .int (nI j)), (0, .ref po)]) hx hb dX4_walkBack_127 hl (k := 4) rfl (nI_dec (by omega)) (by decide) rfl (fun ls hl => ?_)
                    refine lv_iload hx hb dX4_walkBack_130 (lv_at hl 1 rfl) ?_
                    refine ifN_ne (tgt := 138) hx hb dX4_walkBack_132 (by decide) (by omega) (fun c_132 => ?_) (fun c_132 => ?_)
                    · exact (by omega : False).elim
                    · have hj0 : 0 < j := by first | omega | exact posJ (by omega) c_107
                      refine lv_iinc (v := nI (j - 1)) (lv' := [(2, .int (nI (j - 1))), (1, .int (nI (i - 1))), (5, .int (nI 0)), (4, .int (nI 1)), (3, .int (cAh cst i j)), (0, .ref po)]) hx hb dX4_walkBack_135 hl (k := 4) rfl (nI_dec hj0) (by decide) rfl (fun ls hl => ?_)
                      refine lv_aload_n hx hb dX4_walkBack_138 rfl (lv_at hl 5 rfl) ?_
                      refine lv_aload_n hx hb dX4_walkBack_139 rfl (lv_at hl 5 rfl) ?_
                      refine getX hx hb hta inA4 hown hK hP 0 rfl rfl 8 (by decide) mw184 rfl rfl dX4_walkBack_140 ?_
                      refine lv_iload_n hx hb dX4_walkBack_143 rfl (lv_at hl 1 rfl) ?_
                      refine lv_iload_n hx hb dX4_walkBack_144 rfl (lv_at hl 0 rfl) ?_
                      refine k_X4_meet (Wd := 0) po poc poa pob sh z (i - 1) (j - 1) ra rb pa pb z cst ga gb (by omega) ⟨hx, hb, hml, hown, hta⟩ mw606 ⟨Nat.le_of_ble_eq_true rfl, Nat.le_of_ble_eq_true rfl⟩ hK hP hD hS [0, 1, 2, 3] rfl rfl hl.1 (Nat.le_of_ble_eq_true rfl) dX4_walkBack_145 ⟨Nat.le_of_ble_eq_true rfl, Nat.le_of_ble_eq_true rfl⟩ (fun H locs hP hS => ?_)
                      have hP : va_P D vwCl [(po, .inr (4, [.ref sh, .int (nI ra), .int (nI rb), .int (nI pa), .int (nI pb), .ref poc, .ref poa, .ref pob, .int (nI z)])), (poc, .inl (cI, 900, .inl cst)), (poa, .inl (cI, 59, .inl (upd ga z (nI (i - 1))))), (pob, .inl (cI, 59, .inl (upd gb z (nI (j - 1)))))] H := hP
                      have hD : va_D (adrs [(po, .inr (4, [.ref sh, .int (nI ra), .int (nI rb), .int (nI pa), .int (nI pb), .ref poc, .ref poa, .ref pob, .int (nI pm)])), (poc, .inl (cI, 900, .inl cst)), (poa, .inl (cI, 59, .inl mA)), (pob, .inl (cI, 59, .inl mB))]) [(po, .inr (4, [.ref sh, .int (nI ra), .int (nI rb), .int (nI pa), .int (nI pb), .ref poc, .ref poa, .ref pob, .int (nI z)])), (poc, .inl (cI, 900, .inl cst)), (poa, .inl (cI, 59, .inl (upd ga z (nI (i - 1))))), (pob, .inl (cI, 59, .inl (upd gb z (nI (j - 1)))))] := hD.same rfl
                      refine lv_aload_n hx hb dX4_walkBack_148 rfl (lv_at hl 5 rfl) ?_
                      refine lv_dup hx hb dX4_walkBack_149 rfl ?_
                      refine getX hx hb hta inA4 hown hK hP 0 rfl rfl 8 (by decide) mw184 rfl rfl dX4_walkBack_150 ?_
                      refine lv_iconst (v := nI 1) hx hb dX4_walkBack_153 (by decide) ?_
                      refine iaddN (a := z) (b := 1) hx hb dX4_walkBack_154 ?_
                      refine putX hx hb hta inA4 tyX4 tyX4_ok nmX4 hown hK hP hD hS 0 rfl rfl 8 (by decide) mw184 rfl rfl (ty := .int) rfl rfl rfl (Nat.le_of_ble_eq_true rfl) dX4_walkBack_155 (fun H locs hP hS => ?_)
                      have hP : va_P D vwCl [(po, .inr (4, [.ref sh, .int (nI ra), .int (nI rb), .int (nI pa), .int (nI pb), .ref poc, .ref poa, .ref pob, .int (nI (z + 1))])), (poc, .inl (cI, 900, .inl cst)), (poa, .inl (cI, 59, .inl (upd ga z (nI (i - 1))))), (pob, .inl (cI, 59, .inl (upd gb z (nI (j - 1)))))] H := hP
                      have hD : va_D (adrs [(po, .inr (4, [.ref sh, .int (nI ra), .int (nI rb), .int (nI pa), .int (nI pb), .ref poc, .ref poa, .ref pob, .int (nI pm)])), (poc, .inl (cI, 900, .inl cst)), (poa, .inl (cI, 59, .inl mA)), (pob, .inl (cI, 59, .inl mB))]) [(po, .inr (4, [.ref sh, .int (nI ra), .int (nI rb), .int (nI pa), .int (nI pb), .ref poc, .ref poa, .ref pob, .int (nI (z + 1))])), (poc, .inl (cI, 900, .inl cst)), (poa, .inl (cI, 59, .inl (upd ga z (nI (i - 1))))), (pob, .inl (cI, 59, .inl (upd gb z (nI (j - 1)))))] := hD.same rfl
                      refine lv_goto (tgt := 26) hx hb dX4_walkBack_158 (by decide) ?_
                      exact ih_26 (i - 1) (j - 1) (z + 1) (upd ga z (nI (i - 1))) (upd gb z (nI (j - 1))) (by omega) (by omega) (by omega) (hA.trans (wbC_step (by omega) (by first | (simp only [stI, stO, stB, eq_true c_32, eq_false c_36, eq_false c_51, eq_false c_55, eq_true c_74, eq_false c_86, eq_false c_119, eq_true c_132, decide_true, decide_false, Bool.true_or, Bool.or_true, Bool.false_or, Bool.or_false, Bool.true_and, Bool.and_true, Bool.false_and, Bool.and_false, Bool.not_true, Bool.not_false, if_true, if_false, Bool.false_eq_true, and_true, true_and, and_false, false_and, or_true, true_or, or_false, false_or, not_true_eq_false, not_false_eq_true, bz]; done) | (simp only [stI, stO, stB, eq_true c_32, eq_false c_36, eq_false c_51, eq_false c_55, eq_true c_74, eq_false c_86, eq_false c_119, eq_true c_132, decide_true, decide_false, Bool.true_or, Bool.or_true, Bool.false_or, Bool.or_false, Bool.true_and, Bool.and_true, Bool.false_and, Bool.and_false, Bool.not_true, Bool.not_false, if_true, if_false, Bool.false_eq_true, and_true, true_and, and_false, false_and, or_true, true_or, or_false, false_or, not_true_eq_false, not_false_eq_true, bz]; rfl)) (by first | (simp only [stJ, stO, stB, eq_true c_32, eq_false c_36, eq_false c_51, eq_false c_55, eq_true c_74, eq_false c_86, eq_false c_119, eq_true c_132, decide_true, decide_false, Bool.true_or, Bool.or_true, Bool.false_or, Bool.or_false, Bool.true_and, Bool.and_true, Bool.false_and, Bool.and_false, Bool.not_true, Bool.not_false, if_true, if_false, Bool.false_eq_true, and_true, true_and, and_false, false_and, or_true, true_or, or_false, false_or, not_true_eq_false, not_false_eq_true, bz]; done) | (simp only [stJ, stO, stB, eq_true c_32, eq_false c_36, eq_false c_51, eq_false c_55, eq_true c_74, eq_false c_86, eq_false c_119, eq_true c_132, decide_true, decide_false, Bool.true_or, Bool.or_true, Bool.false_or, Bool.or_false, Bool.true_and, Bool.and_true, Bool.false_and, Bool.and_false, Bool.not_true, Bool.not_false, if_true, if_false, Bool.false_eq_true, and_true, true_and, and_false, false_and, or_true, true_or, or_false, false_or, not_true_eq_false, not_false_eq_true, bz]; rfl)))) _ _ hP hS ls (lv_sub hl [0, 1, 5] rfl)
                  · exact (by omega : False).elim
                · exact (by omega : False).elim
        · refine lv_iload_n hx hb dX4_walkBack_39 rfl (lv_at hl 0 rfl) ?_
          refine ifN_le (tgt := 161) hx hb dX4_walkBack_40 (by decide) (by omega) (fun c_40 => ?_) (fun c_40 => ?_)
          · exact rWv hx hb hr hlocks dX4_walkBack_161 hP hS rfl ⟨_, _, _, (hA.trans (wbC_end (by omega) (by omega))).symm, by omega, rfl, rfl⟩
          · refine lv_aload_n hx hb dX4_walkBack_43 rfl (lv_at hl 2 rfl) ?_
            refine lv_iload_n hx hb dX4_walkBack_44 rfl (lv_at hl 1 rfl) ?_
            refine lv_iload_n hx hb dX4_walkBack_45 rfl (lv_at hl 0 rfl) ?_
            refine k_X4_costAhead (Wd := 0) po poc poa pob sh i j ra rb pa pb z cst ga gb (by omega) (by omega) ⟨hx, hb, hml, hown, hta⟩ mw595 ⟨Nat.le_of_ble_eq_true rfl, Nat.le_of_ble_eq_true rfl⟩ hK hP hD [0, 1, 2, 3] rfl rfl hl.1 (Nat.le_of_ble_eq_true rfl) dX4_walkBack_46 ⟨Nat.le_of_ble_eq_true rfl, Nat.le_of_ble_eq_true rfl⟩ ?_
            refine lv_istore_n (lv' := [(3, .int (cAh cst i j)), (2, .int (nI j)), (1, .int (nI i)), (0, .ref po)]) hx hb dX4_walkBack_49 rfl hl (by decide) rfl (fun ls hl => ?_)
            refine lv_iload_n hx hb dX4_walkBack_50 rfl (lv_at hl 2 rfl) ?_
            refine ifN_le (tgt := 81) hx hb dX4_walkBack_51 (by decide) (by omega) (fun c_51 => ?_) (fun c_51 => ?_)
            · refine lv_iconst (v := nI 0) hx hb dX4_walkBack_81 (by decide) ?_
              refine lv_istore (lv' := [(4, .int (nI 0)), (3, .int (cAh cst i j)), (2, .int (nI j)), (1, .int (nI i)), (0, .ref po)]) hx hb dX4_walkBack_82 hl (by decide) rfl (fun ls hl => ?_)
              refine lv_iload hx hb dX4_walkBack_84 (lv_at hl 0 rfl) ?_
              refine ifN_ne (tgt := 114) hx hb dX4_walkBack_86 (by decide) (by omega) (fun c_86 => ?_) (fun c_86 => ?_)
              · exact (by omega : False).elim
              · refine lv_iload_n hx hb dX4_walkBack_89 rfl (lv_at hl 3 rfl) ?_
                refine ifN_le (tgt := 114) hx hb dX4_walkBack_90 (by decide) (by omega) (fun c_90 => ?_) (fun c_90 => ?_)
                · refine lv_iconst (v := nI 0) hx hb dX4_walkBack_114 (by decide) ?_
                  refine lv_istore (lv' := [(5, .int (nI 0)), (4, .int (nI 0)), (3, .int (cAh cst i j)), (2, .int (nI j)), (1, .int (nI i)), (0, .ref po)]) hx hb dX4_walkBack_115 hl (by decide) rfl (fun ls hl => ?_)
                  refine lv_iload hx hb dX4_walkBack_117 (lv_at hl 1 rfl) ?_
                  refine ifN_ne (tgt := 127) hx hb dX4_walkBack_119 (by decide) (by omega) (fun c_119 => ?_) (fun c_119 => ?_)
                  · exact (by omega : False).elim
                  · refine lv_iload hx hb dX4_walkBack_122 (lv_at hl 0 rfl) ?_
                    refine ifN_eq (tgt := 130) hx hb dX4_walkBack_124 (by decide) (by omega) (fun c_124 => ?_) (fun c_124 => ?_)
                    · refine lv_iload hx hb dX4_walkBack_130 (lv_at hl 0 rfl) ?_
                      refine ifN_ne (tgt := 138) hx hb dX4_walkBack_132 (by decide) (by omega) (fun c_132 => ?_) (fun c_132 => ?_)
                      · exact (by omega : False).elim
                      · have hj0 : 0 < j := by first | omega | exact posJ (by omega) c_107
                        refine lv_iinc (v := nI (j - 1)) (lv' := [(2, .int (nI (j - 1))), (5, .int (nI 0)), (4, .int (nI 0)), (3, .int (cAh cst i j)), (1, .int (nI i)), (0, .ref po)]) hx hb dX4_walkBack_135 hl (k := 3) rfl (nI_dec hj0) (by decide) rfl (fun ls hl => ?_)
                        refine lv_aload_n hx hb dX4_walkBack_138 rfl (lv_at hl 5 rfl) ?_
                        refine lv_aload_n hx hb dX4_walkBack_139 rfl (lv_at hl 5 rfl) ?_
                        refine getX hx hb hta inA4 hown hK hP 0 rfl rfl 8 (by decide) mw184 rfl rfl dX4_walkBack_140 ?_
                        refine lv_iload_n hx hb dX4_walkBack_143 rfl (lv_at hl 4 rfl) ?_
                        refine lv_iload_n hx hb dX4_walkBack_144 rfl (lv_at hl 0 rfl) ?_
                        refine k_X4_meet (Wd := 0) po poc poa pob sh z i (j - 1) ra rb pa pb z cst ga gb (by omega) ⟨hx, hb, hml, hown, hta⟩ mw606 ⟨Nat.le_of_ble_eq_true rfl, Nat.le_of_ble_eq_true rfl⟩ hK hP hD hS [0, 1, 2, 3] rfl rfl hl.1 (Nat.le_of_ble_eq_true rfl) dX4_walkBack_145 ⟨Nat.le_of_ble_eq_true rfl, Nat.le_of_ble_eq_true rfl⟩ (fun H locs hP hS => ?_)
                        have hP : va_P D vwCl [(po, .inr (4, [.ref sh, .int (nI ra), .int (nI rb), .int (nI pa), .int (nI pb), .ref poc, .ref poa, .ref pob, .int (nI z)])), (poc, .inl (cI, 900, .inl cst)), (poa, .inl (cI, 59, .inl (upd ga z (nI i)))), (pob, .inl (cI, 59, .inl (upd gb z (nI (j - 1)))))] H := hP
                        have hD : va_D (adrs [(po, .inr (4, [.ref sh, .int (nI ra), .int (nI rb), .int (nI pa), .int (nI pb), .ref poc, .ref poa, .ref pob, .int (nI pm)])), (poc, .inl (cI, 900, .inl cst)), (poa, .inl (cI, 59, .inl mA)), (pob, .inl (cI, 59, .inl mB))]) [(po, .inr (4, [.ref sh, .int (nI ra), .int (nI rb), .int (nI pa), .int (nI pb), .ref poc, .ref poa, .ref pob, .int (nI z)])), (poc, .inl (cI, 900, .inl cst)), (poa, .inl (cI, 59, .inl (upd ga z (nI i)))), (pob, .inl (cI, 59, .inl (upd gb z (nI (j - 1)))))] := hD.same rfl
                        refine lv_aload_n hx hb dX4_walkBack_148 rfl (lv_at hl 5 rfl) ?_
                        refine lv_dup hx hb dX4_walkBack_149 rfl ?_
                        refine getX hx hb hta inA4 hown hK hP 0 rfl rfl 8 (by decide) mw184 rfl rfl dX4_walkBack_150 ?_
                        refine lv_iconst (v := nI 1) hx hb dX4_walkBack_153 (by decide) ?_
                        refine iaddN (a := z) (b := 1) hx hb dX4_walkBack_154 ?_
                        refine putX hx hb hta inA4 tyX4 tyX4_ok nmX4 hown hK hP hD hS 0 rfl rfl 8 (by decide) mw184 rfl rfl (ty := .int) rfl rfl rfl (Nat.le_of_ble_eq_true rfl) dX4_walkBack_155 (fun H locs hP hS => ?_)
                        have hP : va_P D vwCl [(po, .inr (4, [.ref sh, .int (nI ra), .int (nI rb), .int (nI pa), .int (nI pb), .ref poc, .ref poa, .ref pob, .int (nI (z + 1))])), (poc, .inl (cI, 900, .inl cst)), (poa, .inl (cI, 59, .inl (upd ga z (nI i)))), (pob, .inl (cI, 59, .inl (upd gb z (nI (j - 1)))))] H := hP
                        have hD : va_D (adrs [(po, .inr (4, [.ref sh, .int (nI ra), .int (nI rb), .int (nI pa), .int (nI pb), .ref poc, .ref poa, .ref pob, .int (nI pm)])), (poc, .inl (cI, 900, .inl cst)), (poa, .inl (cI, 59, .inl mA)), (pob, .inl (cI, 59, .inl mB))]) [(po, .inr (4, [.ref sh, .int (nI ra), .int (nI rb), .int (nI pa), .int (nI pb), .ref poc, .ref poa, .ref pob, .int (nI (z + 1))])), (poc, .inl (cI, 900, .inl cst)), (poa, .inl (cI, 59, .inl (upd ga z (nI i)))), (pob, .inl (cI, 59, .inl (upd gb z (nI (j - 1)))))] := hD.same rfl
                        refine lv_goto (tgt := 26) hx hb dX4_walkBack_158 (by decide) ?_
                        exact ih_26 i (j - 1) (z + 1) (upd ga z (nI i)) (upd gb z (nI (j - 1))) (by omega) (by omega) (by omega) (hA.trans (wbC_step (by omega) (by first | (simp only [stI, stO, stB, eq_true c_32, eq_true c_36, eq_false c_40, eq_true c_51, eq_true c_86, eq_true c_90, eq_true c_119, eq_true c_124, eq_true c_132, decide_true, decide_false, Bool.true_or, Bool.or_true, Bool.false_or, Bool.or_false, Bool.true_and, Bool.and_true, Bool.false_and, Bool.and_false, Bool.not_true, Bool.not_false, if_true, if_false, Bool.false_eq_true, and_true, true_and, and_false, false_and, or_true, true_or, or_false, false_or, not_true_eq_false, not_false_eq_true, bz]; done) | (simp only [stI, stO, stB, eq_true c_32, eq_true c_36, eq_false c_40, eq_true c_51, eq_true c_86, eq_true c_90, eq_true c_119, eq_true c_124, eq_true c_132, decide_true, decide_false, Bool.true_or, Bool.or_true, Bool.false_or, Bool.or_false, Bool.true_and, Bool.and_true, Bool.false_and, Bool.and_false, Bool.not_true, Bool.not_false, if_true, if_false, Bool.false_eq_true, and_true, true_and, and_false, false_and, or_true, true_or, or_false, false_or, not_true_eq_false, not_false_eq_true, bz]; rfl)) (by first | (simp only [stJ, stO, stB, eq_true c_32, eq_true c_36, eq_false c_40, eq_true c_51, eq_true c_86, eq_true c_90, eq_true c_119, eq_true c_124, eq_true c_132, decide_true, decide_false, Bool.true_or, Bool.or_true, Bool.false_or, Bool.or_false, Bool.true_and, Bool.and_true, Bool.false_and, Bool.and_false, Bool.not_true, Bool.not_false, if_true, if_false, Bool.false_eq_true, and_true, true_and, and_false, false_and, or_true, true_or, or_false, false_or, not_true_eq_false, not_false_eq_true, bz]; done) | (simp only [stJ, stO, stB, eq_true c_32, eq_true c_36, eq_false c_40, eq_true c_51, eq_true c_86, eq_true c_90, eq_true c_119, eq_true c_124, eq_true c_132, decide_true, decide_false, Bool.true_or, Bool.or_true, Bool.false_or, Bool.or_false, Bool.true_and, Bool.and_true, Bool.false_and, Bool.and_false, Bool.not_true, Bool.not_false, if_true, if_false, Bool.false_eq_true, and_true, true_and, and_false, false_and, or_true, true_or, or_false, false_or, not_true_eq_false, not_false_eq_true, bz]; rfl)))) _ _ hP hS ls (lv_sub hl [0, 4, 5] rfl)
                    · exact (by omega : False).elim
                · exact (by omega : False).elim
            · exact (by omega : False).elim
  exact loop_26 58 (pa - 1) (pb - 1) 1 (upd mA 0 (nI (pa - 1))) (upd mB 0 (nI (pb - 1))) (by omega) (by omega) (by omega) rfl H locs hP hS ls (lv_sub hl [0, 1, 2] rfl)
theorem k_X4_walkBack {p : Program} {l : Launch} {e : Env} {R : Room} {s : State} {m : MethodId} {args : Array Value} {below : List Frame} {meth : Method} {c : Code} {H : Heap} {locs : List Loc} {cells slots : Nat} {Q : State → Prop} {pc : Nat} {ls : Array Slot} {rest : List Value} {cc : ByteArray} {nL index Wd : Nat} {own : String} {D : va_G} {cI : ClassId} {A : Nat → Prop} {ws : va_W} {H0 : Heap} (po : Nat) (poc : Nat) (poa : Nat) (pob : Nat) (sh : Nat) (ra : Nat) (rb : Nat) (pa : Nat) (pb : Nat) (pm : Nat) (cst : Nat → Int32) (mA : Nat → Int32) (mB : Nat → Int32) (hpa : 1 ≤ pa ∧ pa ≤ 30) (hpb : 1 ≤ pb ∧ pb ≤ 30) (S : CallFix p m c cc nL s args WA own) (hl : Cond.methodLink own index yX4_walkBack ∈ WA) (hR : 2 + 1 ≤ R.frames ∧ Wd + (6 + 11) + 36 ≤ R.locals) (hK : KB D cI s) (hP : va_P D vwCl ws H) (hD : va_D A ws) (hS : va_S A H0 H locs) (is : List Nat) (hs : is.map (fun i => ws[i]?) = ([(po, .inr (4, [.ref sh, .int (nI ra), .int (nI rb), .int (nI pa), .int (nI pb), .ref poc, .ref poa, .ref pob, .int (nI pm)])), (poc, .inl (cI, 900, .inl cst)), (poa, .inl (cI, 59, .inl mA)), (pob, .inl (cI, 59, .inl mB))] : va_W).map some) (hnd : va_nd is = true) (hsz : ls.size = nL) (hW : (rest.map fun v => v.category).sum ≤ Wd) (hdg : decode cc pc = .ok (.invokevirtual index, 3)) (hcel : cells ≤ R.cells ∧ slots ≤ R.slots) (kk : ∀ (m' : Nat) (a' : Nat → Int32) (b' : Nat → Int32) (hwb : (m', a', b') = wbC cst 58 (pa - 1) (pb - 1) 1 (upd mA 0 (nI (pa - 1))) (upd mB 0 (nI (pb - 1)))) (hm59 : m' ≤ 59) (H1 : Heap) (locs1 : List Loc), va_P D vwCl (rp ws is [(po, .inr (4, [.ref sh, .int (nI ra), .int (nI rb), .int (nI pa), .int (nI pb), .ref poc, .ref poa, .ref pob, .int (nI m')])), (poc, .inl (cI, 900, .inl cst)), (poa, .inl (cI, 59, .inl a')), (pob, .inl (cI, 59, .inl b'))]) H1 → va_S A H0 H1 locs1 → W p l e R s m args below meth c H1 locs1 cells slots Q (F0 m (pc + 3) ls (rest))) : W p l e R s m args below meth c H locs cells slots Q (F0 m pc ls (.ref po :: rest)) :=
  kWV (n := 0) (As := []) (ci := 4) S (c_X4_walkBack l D cI po poc poa pob sh ra rb pa pb pm cst mA mB hpa hpb) hl mw605 mw604 mw9 mw47 (by decide +kernel) hR rfl rfl rfl rfl hK hP hD hS is hs hnd hsz hW hdg hcel (fun v w' H1 locs1 hq h1 h2 => by obtain ⟨m', a', b', hwb, hm59, rfl, rfl⟩ := hq; exact kk m' a' b' hwb hm59 H1 locs1 h1 h2)

set_option maxHeartbeats 4000000 in
set_option maxRecDepth 100000 in
theorem c_X4_join (l : Launch) (D : va_G) (cI : ClassId) (po : Nat) (poc : Nat) (poa : Nat) (pob : Nat) (sh : Nat) (shl : Nat) (shn : Nat) (shi : Nat) (a0 : Nat) (na : Nat) (b0 : Nat) (nb : Nat) (ra : Nat) (rb : Nat) (pa : Nat) (pb : Nat) (pm : Nat) (cst : Nat → Int32) (mA : Nat → Int32) (mB : Nat → Int32) (la : Nat → Int32) (le : Nat → Int32) (it : Nat → Int32) (ha0 : a0 < 8) (hb0 : b0 < 8) (hna : 1 ≤ na ∧ na ≤ 30) (hnb : 1 ≤ nb ∧ nb ≤ 30) : CW l yX4_join (wm yX4_join cX4_join 7 none) 3 53 D cI [.ref po, .int (nI a0), .int (nI na), .int (nI b0), .int (nI nb)] [(po, .inr (4, [.ref sh, .int (nI ra), .int (nI rb), .int (nI pa), .int (nI pb), .ref poc, .ref poa, .ref pob, .int (nI pm)])), (poc, .inl (cI, 900, .inl cst)), (poa, .inl (cI, 59, .inl mA)), (pob, .inl (cI, 59, .inl mB)), (sh, .inr (6, [.ref shl, .ref shn, .ref shi])), (shl, .inl (cI, 8, .inl la)), (shn, .inl (cI, 8, .inl le)), (shi, .inl (cI, 1152, .inl it))] (fun v w' => ∃ (m' : Nat), ∃ (a' : Nat → Int32), ∃ (b' : Nat → Int32), ((m', a', b') = wbC (dpI (apF it a0 b0) nb cst 0 na) 58 (na - 1) (nb - 1) 1 (upd mA 0 (nI (na - 1))) (upd mB 0 (nI (nb - 1)))) ∧ (m' ≤ 59) ∧ v = none ∧ w' = [(po, .inr (4, [.ref sh, .int (nI a0), .int (nI b0), .int (nI na), .int (nI nb), .ref poc, .ref poa, .ref pob, .int (nI m')])), (poc, .inl (cI, 900, .inl (dpI (apF it a0 b0) nb cst 0 na))), (poa, .inl (cI, 59, .inl a')), (pob, .inl (cI, 59, .inl b')), (sh, .inr (6, [.ref shl, .ref shn, .ref shi])), (shl, .inl (cI, 8, .inl la)), (shn, .inl (cI, 8, .inl le)), (shi, .inl (cI, 1152, .inl it))]) := by
  refine CW.of (by decide) (Nat.le_of_ble_eq_true rfl) ?_
  intro p e s m below meth c hx hb hr hml hown hlocks hta hP hD hK hS ls hl
  have hl : lv_has ls 7 [(0, .ref po), (1, .int (nI a0)), (2, .int (nI na)), (3, .int (nI b0)), (4, .int (nI nb))] := hl
  have hP : va_P D vwCl [(po, .inr (4, [.ref sh, .int (nI ra), .int (nI rb), .int (nI pa), .int (nI pb), .ref poc, .ref poa, .ref pob, .int (nI pm)])), (poc, .inl (cI, 900, .inl cst)), (poa, .inl (cI, 59, .inl mA)), (pob, .inl (cI, 59, .inl mB)), (sh, .inr (6, [.ref shl, .ref shn, .ref shi])), (shl, .inl (cI, 8, .inl la)), (shn, .inl (cI, 8, .inl le)), (shi, .inl (cI, 1152, .inl it))] s.heap := hP
  refine lv_aload_n hx hb dX4_join_0 rfl (lv_at hl 0 rfl) ?_
  refine lv_iload_n hx hb dX4_join_1 rfl (lv_at hl 1 rfl) ?_
  refine putX hx hb hta inA4 tyX4 tyX4_ok nmX4 hown hK hP hD hS 0 rfl rfl 1 (by decide) mw177 rfl rfl (ty := .int) rfl rfl rfl (Nat.le_of_ble_eq_true rfl) dX4_join_2 (fun H locs hP hS => ?_)
  have hP : va_P D vwCl [(po, .inr (4, [.ref sh, .int (nI a0), .int (nI rb), .int (nI pa), .int (nI pb), .ref poc, .ref poa, .ref pob, .int (nI pm)])), (poc, .inl (cI, 900, .inl cst)), (poa, .inl (cI, 59, .inl mA)), (pob, .inl (cI, 59, .inl mB)), (sh, .inr (6, [.ref shl, .ref shn, .ref shi])), (shl, .inl (cI, 8, .inl la)), (shn, .inl (cI, 8, .inl le)), (shi, .inl (cI, 1152, .inl it))] H := hP
  have hD : va_D (adrs [(po, .inr (4, [.ref sh, .int (nI ra), .int (nI rb), .int (nI pa), .int (nI pb), .ref poc, .ref poa, .ref pob, .int (nI pm)])), (poc, .inl (cI, 900, .inl cst)), (poa, .inl (cI, 59, .inl mA)), (pob, .inl (cI, 59, .inl mB)), (sh, .inr (6, [.ref shl, .ref shn, .ref shi])), (shl, .inl (cI, 8, .inl la)), (shn, .inl (cI, 8, .inl le)), (shi, .inl (cI, 1152, .inl it))]) [(po, .inr (4, [.ref sh, .int (nI a0), .int (nI rb), .int (nI pa), .int (nI pb), .ref poc, .ref poa, .ref pob, .int (nI pm)])), (poc, .inl (cI, 900, .inl cst)), (poa, .inl (cI, 59, .inl mA)), (pob, .inl (cI, 59, .inl mB)), (sh, .inr (6, [.ref shl, .ref shn, .ref shi])), (shl, .inl (cI, 8, .inl la)), (shn, .inl (cI, 8, .inl le)), (shi, .inl (cI, 1152, .inl it))] := hD.same rfl
  refine lv_aload_n hx hb dX4_join_5 rfl (lv_at hl 0 rfl) ?_
  refine lv_iload_n hx hb dX4_join_6 rfl (lv_at hl 3 rfl) ?_
  refine putX hx hb hta inA4 tyX4 tyX4_ok nmX4 hown hK hP hD hS 0 rfl rfl 2 (by decide) mw178 rfl rfl (ty := .int) rfl rfl rfl (Nat.le_of_ble_eq_true rfl) dX4_join_7 (fun H locs hP hS => ?_)
  have hP : va_P D vwCl [(po, .inr (4, [.ref sh, .int (nI a0), .int (nI b0), .int (nI pa), .int (nI pb), .ref poc, .ref poa, .ref pob, .int (nI pm)])), (poc, .inl (cI, 900, .inl cst)), (poa, .inl (cI, 59, .inl mA)), (pob, .inl (cI, 59, .inl mB)), (sh, .inr (6, [.ref shl, .ref shn, .ref shi])), (shl, .inl (cI, 8, .inl la)), (shn, .inl (cI, 8, .inl le)), (shi, .inl (cI, 1152, .inl it))] H := hP
  have hD : va_D (adrs [(po, .inr (4, [.ref sh, .int (nI ra), .int (nI rb), .int (nI pa), .int (nI pb), .ref poc, .ref poa, .ref pob, .int (nI pm)])), (poc, .inl (cI, 900, .inl cst)), (poa, .inl (cI, 59, .inl mA)), (pob, .inl (cI, 59, .inl mB)), (sh, .inr (6, [.ref shl, .ref shn, .ref shi])), (shl, .inl (cI, 8, .inl la)), (shn, .inl (cI, 8, .inl le)), (shi, .inl (cI, 1152, .inl it))]) [(po, .inr (4, [.ref sh, .int (nI a0), .int (nI b0), .int (nI pa), .int (nI pb), .ref poc, .ref poa, .ref pob, .int (nI pm)])), (poc, .inl (cI, 900, .inl cst)), (poa, .inl (cI, 59, .inl mA)), (pob, .inl (cI, 59, .inl mB)), (sh, .inr (6, [.ref shl, .ref shn, .ref shi])), (shl, .inl (cI, 8, .inl la)), (shn, .inl (cI, 8, .inl le)), (shi, .inl (cI, 1152, .inl it))] := hD.same rfl
  refine lv_aload_n hx hb dX4_join_10 rfl (lv_at hl 0 rfl) ?_
  refine lv_iload_n hx hb dX4_join_11 rfl (lv_at hl 2 rfl) ?_
  refine putX hx hb hta inA4 tyX4 tyX4_ok nmX4 hown hK hP hD hS 0 rfl rfl 3 (by decide) mw179 rfl rfl (ty := .int) rfl rfl rfl (Nat.le_of_ble_eq_true rfl) dX4_join_12 (fun H locs hP hS => ?_)
  have hP : va_P D vwCl [(po, .inr (4, [.ref sh, .int (nI a0), .int (nI b0), .int (nI na), .int (nI pb), .ref poc, .ref poa, .ref pob, .int (nI pm)])), (poc, .inl (cI, 900, .inl cst)), (poa, .inl (cI, 59, .inl mA)), (pob, .inl (cI, 59, .inl mB)), (sh, .inr (6, [.ref shl, .ref shn, .ref shi])), (shl, .inl (cI, 8, .inl la)), (shn, .inl (cI, 8, .inl le)), (shi, .inl (cI, 1152, .inl it))] H := hP
  have hD : va_D (adrs [(po, .inr (4, [.ref sh, .int (nI ra), .int (nI rb), .int (nI pa), .int (nI pb), .ref poc, .ref poa, .ref pob, .int (nI pm)])), (poc, .inl (cI, 900, .inl cst)), (poa, .inl (cI, 59, .inl mA)), (pob, .inl (cI, 59, .inl mB)), (sh, .inr (6, [.ref shl, .ref shn, .ref shi])), (shl, .inl (cI, 8, .inl la)), (shn, .inl (cI, 8, .inl le)), (shi, .inl (cI, 1152, .inl it))]) [(po, .inr (4, [.ref sh, .int (nI a0), .int (nI b0), .int (nI na), .int (nI pb), .ref poc, .ref poa, .ref pob, .int (nI pm)])), (poc, .inl (cI, 900, .inl cst)), (poa, .inl (cI, 59, .inl mA)), (pob, .inl (cI, 59, .inl mB)), (sh, .inr (6, [.ref shl, .ref shn, .ref shi])), (shl, .inl (cI, 8, .inl la)), (shn, .inl (cI, 8, .inl le)), (shi, .inl (cI, 1152, .inl it))] := hD.same rfl
  refine lv_aload_n hx hb dX4_join_15 rfl (lv_at hl 0 rfl) ?_
  refine lv_iload hx hb dX4_join_16 (lv_at hl 4 rfl) ?_
  refine putX hx hb hta inA4 tyX4 tyX4_ok nmX4 hown hK hP hD hS 0 rfl rfl 4 (by decide) mw180 rfl rfl (ty := .int) rfl rfl rfl (Nat.le_of_ble_eq_true rfl) dX4_join_18 (fun H locs hP hS => ?_)
  have hP : va_P D vwCl [(po, .inr (4, [.ref sh, .int (nI a0), .int (nI b0), .int (nI na), .int (nI nb), .ref poc, .ref poa, .ref pob, .int (nI pm)])), (poc, .inl (cI, 900, .inl cst)), (poa, .inl (cI, 59, .inl mA)), (pob, .inl (cI, 59, .inl mB)), (sh, .inr (6, [.ref shl, .ref shn, .ref shi])), (shl, .inl (cI, 8, .inl la)), (shn, .inl (cI, 8, .inl le)), (shi, .inl (cI, 1152, .inl it))] H := hP
  have hD : va_D (adrs [(po, .inr (4, [.ref sh, .int (nI ra), .int (nI rb), .int (nI pa), .int (nI pb), .ref poc, .ref poa, .ref pob, .int (nI pm)])), (poc, .inl (cI, 900, .inl cst)), (poa, .inl (cI, 59, .inl mA)), (pob, .inl (cI, 59, .inl mB)), (sh, .inr (6, [.ref shl, .ref shn, .ref shi])), (shl, .inl (cI, 8, .inl la)), (shn, .inl (cI, 8, .inl le)), (shi, .inl (cI, 1152, .inl it))]) [(po, .inr (4, [.ref sh, .int (nI a0), .int (nI b0), .int (nI na), .int (nI nb), .ref poc, .ref poa, .ref pob, .int (nI pm)])), (poc, .inl (cI, 900, .inl cst)), (poa, .inl (cI, 59, .inl mA)), (pob, .inl (cI, 59, .inl mB)), (sh, .inr (6, [.ref shl, .ref shn, .ref shi])), (shl, .inl (cI, 8, .inl la)), (shn, .inl (cI, 8, .inl le)), (shi, .inl (cI, 1152, .inl it))] := hD.same rfl
  refine lv_iconst (v := nI 0) hx hb dX4_join_21 (by decide) ?_
  refine lv_istore (lv' := [(5, .int (nI 0)), (0, .ref po), (1, .int (nI a0)), (2, .int (nI na)), (3, .int (nI b0)), (4, .int (nI nb))]) hx hb dX4_join_22 hl (by decide) rfl (fun ls hl => ?_)
  have loop_24 : ∀ (r : Nat) (i : Nat) (g : Nat → Int32), (i + r = na) → (dpI (apF it a0 b0) nb cst 0 na = dpI (apF it a0 b0) nb g i r) → ∀ (H : Heap) (locs : List Loc), va_P D vwCl [(po, .inr (4, [.ref sh, .int (nI a0), .int (nI b0), .int (nI na), .int (nI nb), .ref poc, .ref poa, .ref pob, .int (nI pm)])), (poc, .inl (cI, 900, .inl g)), (poa, .inl (cI, 59, .inl mA)), (pob, .inl (cI, 59, .inl mB)), (sh, .inr (6, [.ref shl, .ref shn, .ref shi])), (shl, .inl (cI, 8, .inl la)), (shn, .inl (cI, 8, .inl le)), (shi, .inl (cI, 1152, .inl it))] H → va_S (adrs [(po, .inr (4, [.ref sh, .int (nI ra), .int (nI rb), .int (nI pa), .int (nI pb), .ref poc, .ref poa, .ref pob, .int (nI pm)])), (poc, .inl (cI, 900, .inl cst)), (poa, .inl (cI, 59, .inl mA)), (pob, .inl (cI, 59, .inl mB)), (sh, .inr (6, [.ref shl, .ref shn, .ref shi])), (shl, .inl (cI, 8, .inl la)), (shn, .inl (cI, 8, .inl le)), (shi, .inl (cI, 1152, .inl it))]) s.heap H locs → ∀ ls : Array Slot, lv_has ls 7 [(5, .int (nI i)), (0, .ref po), (1, .int (nI a0)), (2, .int (nI na)), (3, .int (nI b0)), (4, .int (nI nb))] → W p l e (rmZ 3 53) s m ([.ref po, .int (nI a0), .int (nI na), .int (nI b0), .int (nI nb)] : List Value).toArray below meth c H locs 0 0 (MQ below (QW D [(po, .inr (4, [.ref sh, .int (nI ra), .int (nI rb), .int (nI pa), .int (nI pb), .ref poc, .ref poa, .ref pob, .int (nI pm)])), (poc, .inl (cI, 900, .inl cst)), (poa, .inl (cI, 59, .inl mA)), (pob, .inl (cI, 59, .inl mB)), (sh, .inr (6, [.ref shl, .ref shn, .ref shi])), (shl, .inl (cI, 8, .inl la)), (shn, .inl (cI, 8, .inl le)), (shi, .inl (cI, 1152, .inl it))] (fun v w' => ∃ (m' : Nat), ∃ (a' : Nat → Int32), ∃ (b' : Nat → Int32), ((m', a', b') = wbC (dpI (apF it a0 b0) nb cst 0 na) 58 (na - 1) (nb - 1) 1 (upd mA 0 (nI (na - 1))) (upd mB 0 (nI (nb - 1)))) ∧ (m' ≤ 59) ∧ v = none ∧ w' = [(po, .inr (4, [.ref sh, .int (nI a0), .int (nI b0), .int (nI na), .int (nI nb), .ref poc, .ref poa, .ref pob, .int (nI m')])), (poc, .inl (cI, 900, .inl (dpI (apF it a0 b0) nb cst 0 na))), (poa, .inl (cI, 59, .inl a')), (pob, .inl (cI, 59, .inl b')), (sh, .inr (6, [.ref shl, .ref shn, .ref shi])), (shl, .inl (cI, 8, .inl la)), (shn, .inl (cI, 8, .inl le)), (shi, .inl (cI, 1152, .inl it))])) ([.ref po, .int (nI a0), .int (nI na), .int (nI b0), .int (nI nb)] : List Value).toArray s 0 0 (adrs [(po, .inr (4, [.ref sh, .int (nI ra), .int (nI rb), .int (nI pa), .int (nI pb), .ref poc, .ref poa, .ref pob, .int (nI pm)])), (poc, .inl (cI, 900, .inl cst)), (poa, .inl (cI, 59, .inl mA)), (pob, .inl (cI, 59, .inl mB)), (sh, .inr (6, [.ref shl, .ref shn, .ref shi])), (shl, .inl (cI, 8, .inl la)), (shn, .inl (cI, 8, .inl le)), (shi, .inl (cI, 1152, .inl it))])) (F0 m 24 ls []) := by
    intro r
    induction r with
    | zero =>
      intro i g ix_i hA H locs hP hS ls hl
      have hD : va_D (adrs [(po, .inr (4, [.ref sh, .int (nI ra), .int (nI rb), .int (nI pa), .int (nI pb), .ref poc, .ref poa, .ref pob, .int (nI pm)])), (poc, .inl (cI, 900, .inl cst)), (poa, .inl (cI, 59, .inl mA)), (pob, .inl (cI, 59, .inl mB)), (sh, .inr (6, [.ref shl, .ref shn, .ref shi])), (shl, .inl (cI, 8, .inl la)), (shn, .inl (cI, 8, .inl le)), (shi, .inl (cI, 1152, .inl it))]) [(po, .inr (4, [.ref sh, .int (nI a0), .int (nI b0), .int (nI na), .int (nI nb), .ref poc, .ref poa, .ref pob, .int (nI pm)])), (poc, .inl (cI, 900, .inl g)), (poa, .inl (cI, 59, .inl mA)), (pob, .inl (cI, 59, .inl mB)), (sh, .inr (6, [.ref shl, .ref shn, .ref shi])), (shl, .inl (cI, 8, .inl la)), (shn, .inl (cI, 8, .inl le)), (shi, .inl (cI, 1152, .inl it))] := hD.same rfl
      refine lv_iload hx hb dX4_join_24 (lv_at hl 0 rfl) ?_
      refine lv_iload_n hx hb dX4_join_26 rfl (lv_at hl 3 rfl) ?_
      refine icmpN_ge (tgt := 82) hx hb dX4_join_27 (by decide) (by omega) (by omega) (fun c_27 => ?_) (fun c_27 => ?_)
      · refine lv_aload_n hx hb dX4_join_82 rfl (lv_at hl 1 rfl) ?_
        refine k_X4_walkBack (Wd := 0) po poc poa pob sh a0 b0 na nb pm g mA mB (by omega) (by omega) ⟨hx, hb, hml, hown, hta⟩ mw602 ⟨Nat.le_of_ble_eq_true rfl, Nat.le_of_ble_eq_true rfl⟩ hK hP hD hS [0, 1, 2, 3] rfl rfl hl.1 (Nat.le_of_ble_eq_true rfl) dX4_join_83 ⟨Nat.le_of_ble_eq_true rfl, Nat.le_of_ble_eq_true rfl⟩ (fun m' a' b' hwb hm59 H locs hP hS => ?_)
        have hP : va_P D vwCl [(po, .inr (4, [.ref sh, .int (nI a0), .int (nI b0), .int (nI na), .int (nI nb), .ref poc, .ref poa, .ref pob, .int (nI m')])), (poc, .inl (cI, 900, .inl g)), (poa, .inl (cI, 59, .inl a')), (pob, .inl (cI, 59, .inl b')), (sh, .inr (6, [.ref shl, .ref shn, .ref shi])), (shl, .inl (cI, 8, .inl la)), (shn, .inl (cI, 8, .inl le)), (shi, .inl (cI, 1152, .inl it))] H := hP
        have hD : va_D (adrs [(po, .inr (4, [.ref sh, .int (nI ra), .int (nI rb), .int (nI pa), .int (nI pb), .ref poc, .ref poa, .ref pob, .int (nI pm)])), (poc, .inl (cI, 900, .inl cst)), (poa, .inl (cI, 59, .inl mA)), (pob, .inl (cI, 59, .inl mB)), (sh, .inr (6, [.ref shl, .ref shn, .ref shi])), (shl, .inl (cI, 8, .inl la)), (shn, .inl (cI, 8, .inl le)), (shi, .inl (cI, 1152, .inl it))]) [(po, .inr (4, [.ref sh, .int (nI a0), .int (nI b0), .int (nI na), .int (nI nb), .ref poc, .ref poa, .ref pob, .int (nI m')])), (poc, .inl (cI, 900, .inl g)), (poa, .inl (cI, 59, .inl a')), (pob, .inl (cI, 59, .inl b')), (sh, .inr (6, [.ref shl, .ref shn, .ref shi])), (shl, .inl (cI, 8, .inl la)), (shn, .inl (cI, 8, .inl le)), (shi, .inl (cI, 1152, .inl it))] := hD.same rfl
        exact rWv hx hb hr hlocks dX4_join_86 hP hS rfl ⟨_, _, _, (by rw [hA]; exact hwb), hm59, rfl, by rw [hA]; rfl⟩
      · exact (by omega : False).elim
    | succ r ih_24 =>
      intro i g ix_i hA H locs hP hS ls hl
      have hD : va_D (adrs [(po, .inr (4, [.ref sh, .int (nI ra), .int (nI rb), .int (nI pa), .int (nI pb), .ref poc, .ref poa, .ref pob, .int (nI pm)])), (poc, .inl (cI, 900, .inl cst)), (poa, .inl (cI, 59, .inl mA)), (pob, .inl (cI, 59, .inl mB)), (sh, .inr (6, [.ref shl, .ref shn, .ref shi])), (shl, .inl (cI, 8, .inl la)), (shn, .inl (cI, 8, .inl le)), (shi, .inl (cI, 1152, .inl it))]) [(po, .inr (4, [.ref sh, .int (nI a0), .int (nI b0), .int (nI na), .int (nI nb), .ref poc, .ref poa, .ref pob, .int (nI pm)])), (poc, .inl (cI, 900, .inl g)), (poa, .inl (cI, 59, .inl mA)), (pob, .inl (cI, 59, .inl mB)), (sh, .inr (6, [.ref shl, .ref shn, .ref shi])), (shl, .inl (cI, 8, .inl la)), (shn, .inl (cI, 8, .inl le)), (shi, .inl (cI, 1152, .inl it))] := hD.same rfl
      refine lv_iload hx hb dX4_join_24 (lv_at hl 0 rfl) ?_
      refine lv_iload_n hx hb dX4_join_26 rfl (lv_at hl 3 rfl) ?_
      refine icmpN_ge (tgt := 82) hx hb dX4_join_27 (by decide) (by omega) (by omega) (fun c_27 => ?_) (fun c_27 => ?_)
      · exact (by omega : False).elim
      · refine lv_iconst (v := nI 0) hx hb dX4_join_30 (by decide) ?_
        refine lv_istore (lv' := [(6, .int (nI 0)), (5, .int (nI i)), (0, .ref po), (1, .int (nI a0)), (2, .int (nI na)), (3, .int (nI b0)), (4, .int (nI nb))]) hx hb dX4_join_31 hl (by decide) rfl (fun ls hl => ?_)
        have loop_33 : ∀ (q : Nat) (j : Nat) (h : Nat → Int32), (j + q = nb) → (dpJ (apF it a0 b0) i g 0 nb = dpJ (apF it a0 b0) i h j q) → ∀ (H : Heap) (locs : List Loc), va_P D vwCl [(po, .inr (4, [.ref sh, .int (nI a0), .int (nI b0), .int (nI na), .int (nI nb), .ref poc, .ref poa, .ref pob, .int (nI pm)])), (poc, .inl (cI, 900, .inl h)), (poa, .inl (cI, 59, .inl mA)), (pob, .inl (cI, 59, .inl mB)), (sh, .inr (6, [.ref shl, .ref shn, .ref shi])), (shl, .inl (cI, 8, .inl la)), (shn, .inl (cI, 8, .inl le)), (shi, .inl (cI, 1152, .inl it))] H → va_S (adrs [(po, .inr (4, [.ref sh, .int (nI ra), .int (nI rb), .int (nI pa), .int (nI pb), .ref poc, .ref poa, .ref pob, .int (nI pm)])), (poc, .inl (cI, 900, .inl cst)), (poa, .inl (cI, 59, .inl mA)), (pob, .inl (cI, 59, .inl mB)), (sh, .inr (6, [.ref shl, .ref shn, .ref shi])), (shl, .inl (cI, 8, .inl la)), (shn, .inl (cI, 8, .inl le)), (shi, .inl (cI, 1152, .inl it))]) s.heap H locs → ∀ ls : Array Slot, lv_has ls 7 [(6, .int (nI j)), (5, .int (nI i)), (0, .ref po), (1, .int (nI a0)), (2, .int (nI na)), (3, .int (nI b0)), (4, .int (nI nb))] → W p l e (rmZ 3 53) s m ([.ref po, .int (nI a0), .int (nI na), .int (nI b0), .int (nI nb)] : List Value).toArray below meth c H locs 0 0 (MQ below (QW D [(po, .inr (4, [.ref sh, .int (nI ra), .int (nI rb), .int (nI pa), .int (nI pb), .ref poc, .ref poa, .ref pob, .int (nI pm)])), (poc, .inl (cI, 900, .inl cst)), (poa, .inl (cI, 59, .inl mA)), (pob, .inl (cI, 59, .inl mB)), (sh, .inr (6, [.ref shl, .ref shn, .ref shi])), (shl, .inl (cI, 8, .inl la)), (shn, .inl (cI, 8, .inl le)), (shi, .inl (cI, 1152, .inl it))] (fun v w' => ∃ (m' : Nat), ∃ (a' : Nat → Int32), ∃ (b' : Nat → Int32), ((m', a', b') = wbC (dpI (apF it a0 b0) nb cst 0 na) 58 (na - 1) (nb - 1) 1 (upd mA 0 (nI (na - 1))) (upd mB 0 (nI (nb - 1)))) ∧ (m' ≤ 59) ∧ v = none ∧ w' = [(po, .inr (4, [.ref sh, .int (nI a0), .int (nI b0), .int (nI na), .int (nI nb), .ref poc, .ref poa, .ref pob, .int (nI m')])), (poc, .inl (cI, 900, .inl (dpI (apF it a0 b0) nb cst 0 na))), (poa, .inl (cI, 59, .inl a')), (pob, .inl (cI, 59, .inl b')), (sh, .inr (6, [.ref shl, .ref shn, .ref shi])), (shl, .inl (cI, 8, .inl la)), (shn, .inl (cI, 8, .inl le)), (shi, .inl (cI, 1152, .inl it))])) ([.ref po, .int (nI a0), .int (nI na), .int (nI b0), .int (nI nb)] : List Value).toArray s 0 0 (adrs [(po, .inr (4, [.ref sh, .int (nI ra), .int (nI rb), .int (nI pa), .int (nI pb), .ref poc, .ref poa, .ref pob, .int (nI pm)])), (poc, .inl (cI, 900, .inl cst)), (poa, .inl (cI, 59, .inl mA)), (pob, .inl (cI, 59, .inl mB)), (sh, .inr (6, [.ref shl, .ref shn, .ref shi])), (shl, .inl (cI, 8, .inl la)), (shn, .inl (cI, 8, .inl le)), (shi, .inl (cI, 1152, .inl it))])) (F0 m 33 ls []) := by
          intro q
          induction q with
          | zero =>
            intro j h ix_j hB H locs hP hS ls hl
            have hD : va_D (adrs [(po, .inr (4, [.ref sh, .int (nI ra), .int (nI rb), .int (nI pa), .int (nI pb), .ref poc, .ref poa, .ref pob, .int (nI pm)])), (poc, .inl (cI, 900, .inl cst)), (poa, .inl (cI, 59, .inl mA)), (pob, .inl (cI, 59, .inl mB)), (sh, .inr (6, [.ref shl, .ref shn, .ref shi])), (shl, .inl (cI, 8, .inl la)), (shn, .inl (cI, 8, .inl le)), (shi, .inl (cI, 1152, .inl it))]) [(po, .inr (4, [.ref sh, .int (nI a0), .int (nI b0), .int (nI na), .int (nI nb), .ref poc, .ref poa, .ref pob, .int (nI pm)])), (poc, .inl (cI, 900, .inl h)), (poa, .inl (cI, 59, .inl mA)), (pob, .inl (cI, 59, .inl mB)), (sh, .inr (6, [.ref shl, .ref shn, .ref shi])), (shl, .inl (cI, 8, .inl la)), (shn, .inl (cI, 8, .inl le)), (shi, .inl (cI, 1152, .inl it))] := hD.same rfl
            refine lv_iload hx hb dX4_join_33 (lv_at hl 0 rfl) ?_
            refine lv_iload hx hb dX4_join_35 (lv_at hl 6 rfl) ?_
            refine icmpN_ge (tgt := 76) hx hb dX4_join_37 (by decide) (by omega) (by omega) (fun c_37 => ?_) (fun c_37 => ?_)
            · refine lv_iinc (v := nI (i + 1)) (lv' := [(5, .int (nI (i + 1))), (6, .int (nI j)), (0, .ref po), (1, .int (nI a0)), (2, .int (nI na)), (3, .int (nI b0)), (4, .int (nI nb))]) hx hb dX4_join_76 hl (k := 1) rfl (nI_inc1 _) (by decide) rfl (fun ls hl => ?_)
              refine lv_goto (tgt := 24) hx hb dX4_join_79 (by decide) ?_
              exact ih_24 (i + 1) h (by omega) (hA.trans (by rw [dpI, hB, dpJ])) _ _ hP hS ls (lv_sub hl [0, 2, 3, 4, 5, 6] rfl)
            · exact (by omega : False).elim
          | succ q ih_33 =>
            intro j h ix_j hB H locs hP hS ls hl
            have hD : va_D (adrs [(po, .inr (4, [.ref sh, .int (nI ra), .int (nI rb), .int (nI pa), .int (nI pb), .ref poc, .ref poa, .ref pob, .int (nI pm)])), (poc, .inl (cI, 900, .inl cst)), (poa, .inl (cI, 59, .inl mA)), (pob, .inl (cI, 59, .inl mB)), (sh, .inr (6, [.ref shl, .ref shn, .ref shi])), (shl, .inl (cI, 8, .inl la)), (shn, .inl (cI, 8, .inl le)), (shi, .inl (cI, 1152, .inl it))]) [(po, .inr (4, [.ref sh, .int (nI a0), .int (nI b0), .int (nI na), .int (nI nb), .ref poc, .ref poa, .ref pob, .int (nI pm)])), (poc, .inl (cI, 900, .inl h)), (poa, .inl (cI, 59, .inl mA)), (pob, .inl (cI, 59, .inl mB)), (sh, .inr (6, [.ref shl, .ref shn, .ref shi])), (shl, .inl (cI, 8, .inl la)), (shn, .inl (cI, 8, .inl le)), (shi, .inl (cI, 1152, .inl it))] := hD.same rfl
            refine lv_iload hx hb dX4_join_33 (lv_at hl 0 rfl) ?_
            refine lv_iload hx hb dX4_join_35 (lv_at hl 6 rfl) ?_
            refine icmpN_ge (tgt := 76) hx hb dX4_join_37 (by decide) (by omega) (by omega) (fun c_37 => ?_) (fun c_37 => ?_)
            · exact (by omega : False).elim
            · refine lv_aload_n hx hb dX4_join_40 rfl (lv_at hl 2 rfl) ?_
              refine getX hx hb hta inA4 hown hK hP 0 rfl rfl 5 (by decide) mw181 rfl rfl dX4_join_41 ?_
              refine lv_iload hx hb dX4_join_44 (lv_at hl 1 rfl) ?_
              refine lv_bipush (v := nI 30) hx hb dX4_join_46 (by decide) ?_
              refine imulN (a := i) (b := 30) hx hb dX4_join_48 ?_
              refine lv_iload hx hb dX4_join_49 (lv_at hl 0 rfl) ?_
              refine iaddN (a := i * 30) (b := j) hx hb dX4_join_51 ?_
              refine lv_aload_n hx hb dX4_join_52 rfl (lv_at hl 2 rfl) ?_
              refine lv_iload hx hb dX4_join_53 (lv_at hl 1 rfl) ?_
              refine lv_iload hx hb dX4_join_55 (lv_at hl 0 rfl) ?_
              refine k_X4_apart (Wd := 2) po poc poa pob sh shl shn shi i j a0 b0 na nb pm h mA mB la le it (by omega) (by omega) (by omega) (by omega) ⟨hx, hb, hml, hown, hta⟩ mw587 ⟨Nat.le_of_ble_eq_true rfl, Nat.le_of_ble_eq_true rfl⟩ hK hP hD [0, 1, 2, 3, 4, 5, 6, 7] rfl rfl hl.1 (Nat.le_of_ble_eq_true rfl) dX4_join_57 ⟨Nat.le_of_ble_eq_true rfl, Nat.le_of_ble_eq_true rfl⟩ ?_
              refine lv_aload_n hx hb dX4_join_60 rfl (lv_at hl 2 rfl) ?_
              refine lv_iload hx hb dX4_join_61 (lv_at hl 1 rfl) ?_
              refine lv_iload hx hb dX4_join_63 (lv_at hl 0 rfl) ?_
              refine k_X4_costAhead (Wd := 3) po poc poa pob sh i j a0 b0 na nb pm h mA mB (by omega) (by omega) ⟨hx, hb, hml, hown, hta⟩ mw595 ⟨Nat.le_of_ble_eq_true rfl, Nat.le_of_ble_eq_true rfl⟩ hK hP hD [0, 1, 2, 3] rfl rfl hl.1 (Nat.le_of_ble_eq_true rfl) dX4_join_65 ⟨Nat.le_of_ble_eq_true rfl, Nat.le_of_ble_eq_true rfl⟩ ?_
              refine lv_iadd hx hb dX4_join_68 ?_
              refine iastN hx hb hK hP hD hS 1 rfl (by omega) (by decide) dX4_join_69 (fun H locs hP hS => ?_)
              have hP : va_P D vwCl [(po, .inr (4, [.ref sh, .int (nI a0), .int (nI b0), .int (nI na), .int (nI nb), .ref poc, .ref poa, .ref pob, .int (nI pm)])), (poc, .inl (cI, 900, .inl (upd h (i * 30 + j) ((apF it a0 b0 i j) + (cAh h i j))))), (poa, .inl (cI, 59, .inl mA)), (pob, .inl (cI, 59, .inl mB)), (sh, .inr (6, [.ref shl, .ref shn, .ref shi])), (shl, .inl (cI, 8, .inl la)), (shn, .inl (cI, 8, .inl le)), (shi, .inl (cI, 1152, .inl it))] H := hP
              have hD : va_D (adrs [(po, .inr (4, [.ref sh, .int (nI ra), .int (nI rb), .int (nI pa), .int (nI pb), .ref poc, .ref poa, .ref pob, .int (nI pm)])), (poc, .inl (cI, 900, .inl cst)), (poa, .inl (cI, 59, .inl mA)), (pob, .inl (cI, 59, .inl mB)), (sh, .inr (6, [.ref shl, .ref shn, .ref shi])), (shl, .inl (cI, 8, .inl la)), (shn, .inl (cI, 8, .inl le)), (shi, .inl (cI, 1152, .inl it))]) [(po, .inr (4, [.ref sh, .int (nI a0), .int (nI b0), .int (nI na), .int (nI nb), .ref poc, .ref poa, .ref pob, .int (nI pm)])), (poc, .inl (cI, 900, .inl (upd h (i * 30 + j) ((apF it a0 b0 i j) + (cAh h i j))))), (poa, .inl (cI, 59, .inl mA)), (pob, .inl (cI, 59, .inl mB)), (sh, .inr (6, [.ref shl, .ref shn, .ref shi])), (shl, .inl (cI, 8, .inl la)), (shn, .inl (cI, 8, .inl le)), (shi, .inl (cI, 1152, .inl it))] := hD.same rfl
              refine lv_iinc (v := nI (j + 1)) (lv' := [(6, .int (nI (j + 1))), (5, .int (nI i)), (0, .ref po), (1, .int (nI a0)), (2, .int (nI na)), (3, .int (nI b0)), (4, .int (nI nb))]) hx hb dX4_join_70 hl (k := 0) rfl (nI_inc1 _) (by decide) rfl (fun ls hl => ?_)
              refine lv_goto (tgt := 33) hx hb dX4_join_73 (by decide) ?_
              exact ih_33 (j + 1) (upd h (i * 30 + j) ((apF it a0 b0 i j) + (cAh h i j))) (by omega) (hB.trans (by rw [dpJ])) _ _ hP hS ls (lv_sub hl [0, 1, 2, 3, 4, 5, 6] rfl)
        exact loop_33 nb 0 g (by omega) rfl H locs hP hS ls (lv_sub hl [0, 1, 2, 3, 4, 5, 6] rfl)
  exact loop_24 na 0 cst (by omega) rfl H locs hP hS ls (lv_sub hl [0, 1, 2, 3, 4, 5] rfl)
theorem k_X4_join {p : Program} {l : Launch} {e : Env} {R : Room} {s : State} {m : MethodId} {args : Array Value} {below : List Frame} {meth : Method} {c : Code} {H : Heap} {locs : List Loc} {cells slots : Nat} {Q : State → Prop} {pc : Nat} {ls : Array Slot} {rest : List Value} {cc : ByteArray} {nL index Wd : Nat} {own : String} {D : va_G} {cI : ClassId} {A : Nat → Prop} {ws : va_W} {H0 : Heap} (po : Nat) (poc : Nat) (poa : Nat) (pob : Nat) (sh : Nat) (shl : Nat) (shn : Nat) (shi : Nat) (a0 : Nat) (na : Nat) (b0 : Nat) (nb : Nat) (ra : Nat) (rb : Nat) (pa : Nat) (pb : Nat) (pm : Nat) (cst : Nat → Int32) (mA : Nat → Int32) (mB : Nat → Int32) (la : Nat → Int32) (le : Nat → Int32) (it : Nat → Int32) (ha0 : a0 < 8) (hb0 : b0 < 8) (hna : 1 ≤ na ∧ na ≤ 30) (hnb : 1 ≤ nb ∧ nb ≤ 30) (S : CallFix p m c cc nL s args WA own) (hl : Cond.methodLink own index yX4_join ∈ WA) (hR : 3 + 1 ≤ R.frames ∧ Wd + (7 + 11) + 53 ≤ R.locals) (hK : KB D cI s) (hP : va_P D vwCl ws H) (hD : va_D A ws) (hS : va_S A H0 H locs) (is : List Nat) (hs : is.map (fun i => ws[i]?) = ([(po, .inr (4, [.ref sh, .int (nI ra), .int (nI rb), .int (nI pa), .int (nI pb), .ref poc, .ref poa, .ref pob, .int (nI pm)])), (poc, .inl (cI, 900, .inl cst)), (poa, .inl (cI, 59, .inl mA)), (pob, .inl (cI, 59, .inl mB)), (sh, .inr (6, [.ref shl, .ref shn, .ref shi])), (shl, .inl (cI, 8, .inl la)), (shn, .inl (cI, 8, .inl le)), (shi, .inl (cI, 1152, .inl it))] : va_W).map some) (hnd : va_nd is = true) (hsz : ls.size = nL) (hW : (rest.map fun v => v.category).sum ≤ Wd) (hdg : decode cc pc = .ok (.invokevirtual index, 3)) (hcel : cells ≤ R.cells ∧ slots ≤ R.slots) (kk : ∀ (m' : Nat) (a' : Nat → Int32) (b' : Nat → Int32) (hwb : (m', a', b') = wbC (dpI (apF it a0 b0) nb cst 0 na) 58 (na - 1) (nb - 1) 1 (upd mA 0 (nI (na - 1))) (upd mB 0 (nI (nb - 1)))) (hm59 : m' ≤ 59) (H1 : Heap) (locs1 : List Loc), va_P D vwCl (rp ws is [(po, .inr (4, [.ref sh, .int (nI a0), .int (nI b0), .int (nI na), .int (nI nb), .ref poc, .ref poa, .ref pob, .int (nI m')])), (poc, .inl (cI, 900, .inl (dpI (apF it a0 b0) nb cst 0 na))), (poa, .inl (cI, 59, .inl a')), (pob, .inl (cI, 59, .inl b')), (sh, .inr (6, [.ref shl, .ref shn, .ref shi])), (shl, .inl (cI, 8, .inl la)), (shn, .inl (cI, 8, .inl le)), (shi, .inl (cI, 1152, .inl it))]) H1 → va_S A H0 H1 locs1 → W p l e R s m args below meth c H1 locs1 cells slots Q (F0 m (pc + 3) ls (rest))) : W p l e R s m args below meth c H locs cells slots Q (F0 m pc ls (.int (nI nb) :: .int (nI b0) :: .int (nI na) :: .int (nI a0) :: .ref po :: rest)) :=
  kWV (n := 4) (As := [.int (nI a0), .int (nI na), .int (nI b0), .int (nI nb)]) (ci := 4) S (c_X4_join l D cI po poc poa pob sh shl shn shi a0 na b0 nb ra rb pa pb pm cst mA mB la le it ha0 hb0 hna hnb) hl mw586 mw584 mw585 mw47 (by decide +kernel) hR rfl rfl rfl rfl hK hP hD hS is hs hnd hsz hW hdg hcel (fun v w' H1 locs1 hq h1 h2 => by obtain ⟨m', a', b', hwb, hm59, rfl, rfl⟩ := hq; exact kk m' a' b' hwb hm59 H1 locs1 h1 h2)

set_option maxHeartbeats 4000000 in
set_option maxRecDepth 100000 in
theorem c_X4_timesMet (l : Launch) (D : va_G) (cI : ClassId) (po : Nat) (pq : Nat) (sh : Nat) (poc : Nat) (poa : Nat) (pob : Nat) (q0 : Nat) (ra : Nat) (rb : Nat) (pa : Nat) (pb : Nat) (pm : Nat) (me : Nat → Int32) (hpm : pm ≤ 59) : CR l yX4_timesMet (wm yX4_timesMet cX4_timesMet 5 (some .int)) 0 0 D cI [.ref po, .ref pq, .int (nI q0)] [(po, .inr (4, [.ref sh, .int (nI ra), .int (nI rb), .int (nI pa), .int (nI pb), .ref poc, .ref poa, .ref pob, .int (nI pm)])), (pq, .inl (cI, 59, .inl me))] (some (.int (nI (tmF me pm q0)))) := by
  refine CR.of (by decide) (Nat.le_of_ble_eq_true rfl) ?_
  intro p e s m below meth c hx hb hr hml hown hlocks hta hP hD hK ls hl
  have hl : lv_has ls 5 [(0, .ref po), (1, .ref pq), (2, .int (nI q0))] := hl
  have hP : va_P D vwCl [(po, .inr (4, [.ref sh, .int (nI ra), .int (nI rb), .int (nI pa), .int (nI pb), .ref poc, .ref poa, .ref pob, .int (nI pm)])), (pq, .inl (cI, 59, .inl me))] s.heap := hP
  refine lv_iconst (v := nI 0) hx hb dX4_timesMet_0 (by decide) ?_
  refine lv_istore_n (lv' := [(3, .int (nI 0)), (0, .ref po), (1, .ref pq), (2, .int (nI q0))]) hx hb dX4_timesMet_1 rfl hl (by decide) rfl (fun ls hl => ?_)
  refine lv_iconst (v := nI 0) hx hb dX4_timesMet_2 (by decide) ?_
  refine lv_istore (lv' := [(4, .int (nI 0)), (3, .int (nI 0)), (0, .ref po), (1, .ref pq), (2, .int (nI q0))]) hx hb dX4_timesMet_3 hl (by decide) rfl (fun ls hl => ?_)
  have loop_5 : ∀ (r : Nat) (k : Nat) (y : Nat), (k + r = pm) → (cntF (fun b => decide (me b = nI q0)) 0 0 pm = cntF (fun b => decide (me b = nI q0)) y k r) → ∀ ls : Array Slot, lv_has ls 5 [(4, .int (nI k)), (3, .int (nI y)), (0, .ref po), (1, .ref pq), (2, .int (nI q0))] → W p l e (rmZ 0 0) s m ([.ref po, .ref pq, .int (nI q0)] : List Value).toArray below meth c s.heap [] 0 0 (MQ below (QR (some (.int (nI (tmF me pm q0))))) ([.ref po, .ref pq, .int (nI q0)] : List Value).toArray s 0 0 (fun _ => False)) (F0 m 5 ls []) := by
    intro r
    induction r with
    | zero =>
      intro k y ix_k hA ls hl
      refine lv_iload hx hb dX4_timesMet_5 (lv_at hl 0 rfl) ?_
      refine lv_aload_n hx hb dX4_timesMet_7 rfl (lv_at hl 2 rfl) ?_
      refine getX hx hb hta inA4 hown hK hP 0 rfl rfl 8 (by decide) mw184 rfl rfl dX4_timesMet_8 ?_
      refine icmpN_ge (tgt := 31) hx hb dX4_timesMet_11 (by decide) (by omega) (by omega) (fun c_11 => ?_) (fun c_11 => ?_)
      · refine lv_iload_n hx hb dX4_timesMet_31 rfl (lv_at hl 1 rfl) ?_
        exact rRi hx hb hr hlocks dX4_timesMet_32 (by rw [tmF, hA]; rfl)
      · exact (by omega : False).elim
    | succ r ih_5 =>
      intro k y ix_k hA ls hl
      refine lv_iload hx hb dX4_timesMet_5 (lv_at hl 0 rfl) ?_
      refine lv_aload_n hx hb dX4_timesMet_7 rfl (lv_at hl 2 rfl) ?_
      refine getX hx hb hta inA4 hown hK hP 0 rfl rfl 8 (by decide) mw184 rfl rfl dX4_timesMet_8 ?_
      refine icmpN_ge (tgt := 31) hx hb dX4_timesMet_11 (by decide) (by omega) (by omega) (fun c_11 => ?_) (fun c_11 => ?_)
      · exact (by omega : False).elim
      · refine lv_aload_n hx hb dX4_timesMet_14 rfl (lv_at hl 3 rfl) ?_
        refine lv_iload hx hb dX4_timesMet_15 (lv_at hl 0 rfl) ?_
        refine ialdN hx hb hK hP 1 rfl (by omega) (by decide) dX4_timesMet_17 ?_
        refine lv_iload_n hx hb dX4_timesMet_18 rfl (lv_at hl 4 rfl) ?_
        refine icmpI_ne (tgt := 25) hx hb dX4_timesMet_19 (by decide) (fun c_19 => ?_) (fun c_19 => ?_)
        · refine lv_iinc (v := nI (k + 1)) (lv' := [(4, .int (nI (k + 1))), (3, .int (nI y)), (0, .ref po), (1, .ref pq), (2, .int (nI q0))]) hx hb dX4_timesMet_25 hl (k := 0) rfl (nI_inc1 _) (by decide) rfl (fun ls hl => ?_)
          refine lv_goto (tgt := 5) hx hb dX4_timesMet_28 (by decide) ?_
          exact ih_5 (k + 1) y (by omega) (hA.trans (by first | (simp only [cntF, eq_true c_11, eq_false c_19, decide_true, decide_false, Bool.true_or, Bool.or_true, Bool.false_or, Bool.or_false, Bool.true_and, Bool.and_true, Bool.false_and, Bool.and_false, Bool.not_true, Bool.not_false, if_true, if_false, Bool.false_eq_true, and_true, true_and, and_false, false_and, or_true, true_or, or_false, false_or, not_true_eq_false, not_false_eq_true, bz]; done) | (simp only [cntF, eq_true c_11, eq_false c_19, decide_true, decide_false, Bool.true_or, Bool.or_true, Bool.false_or, Bool.or_false, Bool.true_and, Bool.and_true, Bool.false_and, Bool.and_false, Bool.not_true, Bool.not_false, if_true, if_false, Bool.false_eq_true, and_true, true_and, and_false, false_and, or_true, true_or, or_false, false_or, not_true_eq_false, not_false_eq_true, bz]; rfl))) ls (lv_sub hl [0, 1, 2, 3, 4] rfl)
        · refine lv_iinc (v := nI (y + 1)) (lv' := [(3, .int (nI (y + 1))), (4, .int (nI k)), (0, .ref po), (1, .ref pq), (2, .int (nI q0))]) hx hb dX4_timesMet_22 hl (k := 1) rfl (nI_inc1 _) (by decide) rfl (fun ls hl => ?_)
          refine lv_iinc (v := nI (k + 1)) (lv' := [(4, .int (nI (k + 1))), (3, .int (nI (y + 1))), (0, .ref po), (1, .ref pq), (2, .int (nI q0))]) hx hb dX4_timesMet_25 hl (k := 1) rfl (nI_inc1 _) (by decide) rfl (fun ls hl => ?_)
          refine lv_goto (tgt := 5) hx hb dX4_timesMet_28 (by decide) ?_
          exact ih_5 (k + 1) (y + 1) (by omega) (hA.trans (by first | (simp only [cntF, eq_true c_11, eq_true c_19, decide_true, decide_false, Bool.true_or, Bool.or_true, Bool.false_or, Bool.or_false, Bool.true_and, Bool.and_true, Bool.false_and, Bool.and_false, Bool.not_true, Bool.not_false, if_true, if_false, Bool.false_eq_true, and_true, true_and, and_false, false_and, or_true, true_or, or_false, false_or, not_true_eq_false, not_false_eq_true, bz]; done) | (simp only [cntF, eq_true c_11, eq_true c_19, decide_true, decide_false, Bool.true_or, Bool.or_true, Bool.false_or, Bool.or_false, Bool.true_and, Bool.and_true, Bool.false_and, Bool.and_false, Bool.not_true, Bool.not_false, if_true, if_false, Bool.false_eq_true, and_true, true_and, and_false, false_and, or_true, true_or, or_false, false_or, not_true_eq_false, not_false_eq_true, bz]; rfl))) ls (lv_sub hl [0, 1, 2, 3, 4] rfl)
  exact loop_5 pm 0 0 (by omega) rfl ls (lv_sub hl [0, 1, 2, 3, 4] rfl)
theorem k_X4_timesMet {p : Program} {l : Launch} {e : Env} {R : Room} {s : State} {m : MethodId} {args : Array Value} {below : List Frame} {meth : Method} {c : Code} {H : Heap} {locs : List Loc} {cells slots : Nat} {Q : State → Prop} {pc : Nat} {ls : Array Slot} {rest : List Value} {cc : ByteArray} {nL index Wd : Nat} {own : String} {D : va_G} {cI : ClassId} {A : Nat → Prop} {ws : va_W} (po : Nat) (pq : Nat) (sh : Nat) (poc : Nat) (poa : Nat) (pob : Nat) (q0 : Nat) (ra : Nat) (rb : Nat) (pa : Nat) (pb : Nat) (pm : Nat) (me : Nat → Int32) (hpm : pm ≤ 59) (S : CallFix p m c cc nL s args WA own) (hl : Cond.methodLink own index yX4_timesMet ∈ WA) (hR : 0 + 1 ≤ R.frames ∧ Wd + (5 + 11) + 0 ≤ R.locals) (hK : KB D cI s) (hP : va_P D vwCl ws H) (hD : va_D A ws) (is : List Nat) (hs : is.map (fun i => ws[i]?) = ([(po, .inr (4, [.ref sh, .int (nI ra), .int (nI rb), .int (nI pa), .int (nI pb), .ref poc, .ref poa, .ref pob, .int (nI pm)])), (pq, .inl (cI, 59, .inl me))] : va_W).map some) (hnd : va_nd is = true) (hsz : ls.size = nL) (hW : (rest.map fun v => v.category).sum ≤ Wd) (hdg : decode cc pc = .ok (.invokevirtual index, 3)) (hcel : cells ≤ R.cells ∧ slots ≤ R.slots) (kk : W p l e R s m args below meth c H locs cells slots Q (F0 m (pc + 3) ls (.int (nI (tmF me pm q0)) :: rest))) : W p l e R s m args below meth c H locs cells slots Q (F0 m pc ls (.int (nI q0) :: .ref pq :: .ref po :: rest)) :=
  kRV (n := 2) (As := [.ref pq, .int (nI q0)]) (ci := 4) S (c_X4_timesMet l D cI po pq sh poc poa pob q0 ra rb pa pb pm me hpm) hl mw621 mw620 mw12 mw47 (by decide +kernel) hR rfl rfl rfl rfl hK hP hD is hs hnd hsz hW hdg hcel kk

set_option maxHeartbeats 4000000 in
set_option maxRecDepth 100000 in
theorem c_X4_oftenMet (l : Launch) (D : va_G) (cI : ClassId) (po : Nat) (pq : Nat) (sh : Nat) (poc : Nat) (poa : Nat) (pob : Nat) (n0 : Nat) (ra : Nat) (rb : Nat) (pa : Nat) (pb : Nat) (pm : Nat) (me : Nat → Int32) (hpm : pm ≤ 59) (hn0 : n0 ≤ 30) : CR l yX4_oftenMet (wm yX4_oftenMet cX4_oftenMet 5 (some .int)) 1 16 D cI [.ref po, .ref pq, .int (nI n0)] [(po, .inr (4, [.ref sh, .int (nI ra), .int (nI rb), .int (nI pa), .int (nI pb), .ref poc, .ref poa, .ref pob, .int (nI pm)])), (pq, .inl (cI, 59, .inl me))] (some (.int (nI (ofF me pm n0)))) := by
  refine CR.of (by decide) (Nat.le_of_ble_eq_true rfl) ?_
  intro p e s m below meth c hx hb hr hml hown hlocks hta hP hD hK ls hl
  have hl : lv_has ls 5 [(0, .ref po), (1, .ref pq), (2, .int (nI n0))] := hl
  have hP : va_P D vwCl [(po, .inr (4, [.ref sh, .int (nI ra), .int (nI rb), .int (nI pa), .int (nI pb), .ref poc, .ref poa, .ref pob, .int (nI pm)])), (pq, .inl (cI, 59, .inl me))] s.heap := hP
  refine lv_iconst (v := nI 0) hx hb dX4_oftenMet_0 (by decide) ?_
  refine lv_istore_n (lv' := [(3, .int (nI 0)), (0, .ref po), (1, .ref pq), (2, .int (nI n0))]) hx hb dX4_oftenMet_1 rfl hl (by decide) rfl (fun ls hl => ?_)
  refine lv_iconst (v := nI 0) hx hb dX4_oftenMet_2 (by decide) ?_
  refine lv_istore (lv' := [(4, .int (nI 0)), (3, .int (nI 0)), (0, .ref po), (1, .ref pq), (2, .int (nI n0))]) hx hb dX4_oftenMet_3 hl (by decide) rfl (fun ls hl => ?_)
  have loop_5 : ∀ (r : Nat) (k : Nat) (y : Nat), (k + r = n0) → (cntF (fun q => !decide (tmF me pm q < 2)) 0 0 n0 = cntF (fun q => !decide (tmF me pm q < 2)) y k r) → ∀ ls : Array Slot, lv_has ls 5 [(4, .int (nI k)), (3, .int (nI y)), (0, .ref po), (1, .ref pq), (2, .int (nI n0))] → W p l e (rmZ 1 16) s m ([.ref po, .ref pq, .int (nI n0)] : List Value).toArray below meth c s.heap [] 0 0 (MQ below (QR (some (.int (nI (ofF me pm n0))))) ([.ref po, .ref pq, .int (nI n0)] : List Value).toArray s 0 0 (fun _ => False)) (F0 m 5 ls []) := by
    intro r
    induction r with
    | zero =>
      intro k y ix_k hA ls hl
      refine lv_iload hx hb dX4_oftenMet_5 (lv_at hl 0 rfl) ?_
      refine lv_iload_n hx hb dX4_oftenMet_7 rfl (lv_at hl 4 rfl) ?_
      refine icmpN_ge (tgt := 31) hx hb dX4_oftenMet_8 (by decide) (by omega) (by omega) (fun c_8 => ?_) (fun c_8 => ?_)
      · refine lv_iload_n hx hb dX4_oftenMet_31 rfl (lv_at hl 1 rfl) ?_
        exact rRi hx hb hr hlocks dX4_oftenMet_32 (by rw [ofF, hA]; rfl)
      · exact (by omega : False).elim
    | succ r ih_5 =>
      intro k y ix_k hA ls hl
      refine lv_iload hx hb dX4_oftenMet_5 (lv_at hl 0 rfl) ?_
      refine lv_iload_n hx hb dX4_oftenMet_7 rfl (lv_at hl 4 rfl) ?_
      refine icmpN_ge (tgt := 31) hx hb dX4_oftenMet_8 (by decide) (by omega) (by omega) (fun c_8 => ?_) (fun c_8 => ?_)
      · exact (by omega : False).elim
      · refine lv_aload_n hx hb dX4_oftenMet_11 rfl (lv_at hl 2 rfl) ?_
        refine lv_aload_n hx hb dX4_oftenMet_12 rfl (lv_at hl 3 rfl) ?_
        refine lv_iload hx hb dX4_oftenMet_13 (lv_at hl 0 rfl) ?_
        refine k_X4_timesMet (Wd := 0) po pq sh poc poa pob k ra rb pa pb pm me hpm ⟨hx, hb, hml, hown, hta⟩ mw618 ⟨Nat.le_of_ble_eq_true rfl, Nat.le_of_ble_eq_true rfl⟩ hK hP hD [0, 1] rfl rfl hl.1 (Nat.le_of_ble_eq_true rfl) dX4_oftenMet_15 ⟨Nat.le_of_ble_eq_true rfl, Nat.le_of_ble_eq_true rfl⟩ ?_
        refine lv_iconst (v := nI 2) hx hb dX4_oftenMet_18 (by decide) ?_
        refine icmpN_lt (tgt := 25) hx hb dX4_oftenMet_19 (by decide) (Nat.lt_of_le_of_lt (cntF_le _ _ _ _) (by omega)) (by omega) (fun c_19 => ?_) (fun c_19 => ?_)
        · refine lv_iinc (v := nI (k + 1)) (lv' := [(4, .int (nI (k + 1))), (3, .int (nI y)), (0, .ref po), (1, .ref pq), (2, .int (nI n0))]) hx hb dX4_oftenMet_25 hl (k := 0) rfl (nI_inc1 _) (by decide) rfl (fun ls hl => ?_)
          refine lv_goto (tgt := 5) hx hb dX4_oftenMet_28 (by decide) ?_
          exact ih_5 (k + 1) y (by omega) (hA.trans (by first | (simp only [cntF, eq_true c_8, eq_true c_19, decide_true, decide_false, Bool.true_or, Bool.or_true, Bool.false_or, Bool.or_false, Bool.true_and, Bool.and_true, Bool.false_and, Bool.and_false, Bool.not_true, Bool.not_false, if_true, if_false, Bool.false_eq_true, and_true, true_and, and_false, false_and, or_true, true_or, or_false, false_or, not_true_eq_false, not_false_eq_true, bz]; done) | (simp only [cntF, eq_true c_8, eq_true c_19, decide_true, decide_false, Bool.true_or, Bool.or_true, Bool.false_or, Bool.or_false, Bool.true_and, Bool.and_true, Bool.false_and, Bool.and_false, Bool.not_true, Bool.not_false, if_true, if_false, Bool.false_eq_true, and_true, true_and, and_false, false_and, or_true, true_or, or_false, false_or, not_true_eq_false, not_false_eq_true, bz]; rfl))) ls (lv_sub hl [0, 1, 2, 3, 4] rfl)
        · refine lv_iinc (v := nI (y + 1)) (lv' := [(3, .int (nI (y + 1))), (4, .int (nI k)), (0, .ref po), (1, .ref pq), (2, .int (nI n0))]) hx hb dX4_oftenMet_22 hl (k := 1) rfl (nI_inc1 _) (by decide) rfl (fun ls hl => ?_)
          refine lv_iinc (v := nI (k + 1)) (lv' := [(4, .int (nI (k + 1))), (3, .int (nI (y + 1))), (0, .ref po), (1, .ref pq), (2, .int (nI n0))]) hx hb dX4_oftenMet_25 hl (k := 1) rfl (nI_inc1 _) (by decide) rfl (fun ls hl => ?_)
          refine lv_goto (tgt := 5) hx hb dX4_oftenMet_28 (by decide) ?_
          exact ih_5 (k + 1) (y + 1) (by omega) (hA.trans (by first | (simp only [cntF, eq_true c_8, eq_false c_19, decide_true, decide_false, Bool.true_or, Bool.or_true, Bool.false_or, Bool.or_false, Bool.true_and, Bool.and_true, Bool.false_and, Bool.and_false, Bool.not_true, Bool.not_false, if_true, if_false, Bool.false_eq_true, and_true, true_and, and_false, false_and, or_true, true_or, or_false, false_or, not_true_eq_false, not_false_eq_true, bz]; done) | (simp only [cntF, eq_true c_8, eq_false c_19, decide_true, decide_false, Bool.true_or, Bool.or_true, Bool.false_or, Bool.or_false, Bool.true_and, Bool.and_true, Bool.false_and, Bool.and_false, Bool.not_true, Bool.not_false, if_true, if_false, Bool.false_eq_true, and_true, true_and, and_false, false_and, or_true, true_or, or_false, false_or, not_true_eq_false, not_false_eq_true, bz]; rfl))) ls (lv_sub hl [0, 1, 2, 3, 4] rfl)
  exact loop_5 n0 0 0 (by omega) rfl ls (lv_sub hl [0, 1, 2, 3, 4] rfl)
theorem k_X4_oftenMet {p : Program} {l : Launch} {e : Env} {R : Room} {s : State} {m : MethodId} {args : Array Value} {below : List Frame} {meth : Method} {c : Code} {H : Heap} {locs : List Loc} {cells slots : Nat} {Q : State → Prop} {pc : Nat} {ls : Array Slot} {rest : List Value} {cc : ByteArray} {nL index Wd : Nat} {own : String} {D : va_G} {cI : ClassId} {A : Nat → Prop} {ws : va_W} (po : Nat) (pq : Nat) (sh : Nat) (poc : Nat) (poa : Nat) (pob : Nat) (n0 : Nat) (ra : Nat) (rb : Nat) (pa : Nat) (pb : Nat) (pm : Nat) (me : Nat → Int32) (hpm : pm ≤ 59) (hn0 : n0 ≤ 30) (S : CallFix p m c cc nL s args WA own) (hl : Cond.methodLink own index yX4_oftenMet ∈ WA) (hR : 1 + 1 ≤ R.frames ∧ Wd + (5 + 11) + 16 ≤ R.locals) (hK : KB D cI s) (hP : va_P D vwCl ws H) (hD : va_D A ws) (is : List Nat) (hs : is.map (fun i => ws[i]?) = ([(po, .inr (4, [.ref sh, .int (nI ra), .int (nI rb), .int (nI pa), .int (nI pb), .ref poc, .ref poa, .ref pob, .int (nI pm)])), (pq, .inl (cI, 59, .inl me))] : va_W).map some) (hnd : va_nd is = true) (hsz : ls.size = nL) (hW : (rest.map fun v => v.category).sum ≤ Wd) (hdg : decode cc pc = .ok (.invokevirtual index, 3)) (hcel : cells ≤ R.cells ∧ slots ≤ R.slots) (kk : W p l e R s m args below meth c H locs cells slots Q (F0 m (pc + 3) ls (.int (nI (ofF me pm n0)) :: rest))) : W p l e R s m args below meth c H locs cells slots Q (F0 m pc ls (.int (nI n0) :: .ref pq :: .ref po :: rest)) :=
  kRV (n := 2) (As := [.ref pq, .int (nI n0)]) (ci := 4) S (c_X4_oftenMet l D cI po pq sh poc poa pob n0 ra rb pa pb pm me hpm hn0) hl mw617 mw616 mw11 mw47 (by decide +kernel) hR rfl rfl rfl rfl hK hP hD is hs hnd hsz hW hdg hcel kk

set_option maxHeartbeats 4000000 in
set_option maxRecDepth 100000 in
theorem c_X4_tell (l : Launch) (D : va_G) (cI : ClassId) (po : Nat) (poc : Nat) (poa : Nat) (pob : Nat) (sh : Nat) (w0 : Nat) (ra : Nat) (rb : Nat) (pa : Nat) (pb : Nat) (pm : Nat) (cst : Nat → Int32) (mA : Nat → Int32) (mB : Nat → Int32) (hw0 : w0 ≤ 3) (hpa : 1 ≤ pa ∧ pa ≤ 30) (hpb : 1 ≤ pb ∧ pb ≤ 30) (hpm : pm ≤ 59) : CR l yX4_tell (wm yX4_tell cX4_tell 2 (some .int)) 2 32 D cI [.ref po, .int (nI w0)] [(po, .inr (4, [.ref sh, .int (nI ra), .int (nI rb), .int (nI pa), .int (nI pb), .ref poc, .ref poa, .ref pob, .int (nI pm)])), (poc, .inl (cI, 900, .inl cst)), (poa, .inl (cI, 59, .inl mA)), (pob, .inl (cI, 59, .inl mB))] (some (.int (tlF cst mA mB pa pb pm w0))) := by
  refine CR.of (by decide) (Nat.le_of_ble_eq_true rfl) ?_
  intro p e s m below meth c hx hb hr hml hown hlocks hta hP hD hK ls hl
  have hl : lv_has ls 2 [(0, .ref po), (1, .int (nI w0))] := hl
  have hP : va_P D vwCl [(po, .inr (4, [.ref sh, .int (nI ra), .int (nI rb), .int (nI pa), .int (nI pb), .ref poc, .ref poa, .ref pob, .int (nI pm)])), (poc, .inl (cI, 900, .inl cst)), (poa, .inl (cI, 59, .inl mA)), (pob, .inl (cI, 59, .inl mB))] s.heap := hP
  refine lv_iload_n hx hb dX4_tell_0 rfl (lv_at hl 1 rfl) ?_
  have hsw_1 : w0 = 0 ∨ w0 = 1 ∨ w0 = 2 ∨ w0 = 3 := (by omega)
  rcases hsw_1 with c_1 | c_1 | c_1 | c_1
  · refine tabIn (tgt := 28) (off := 27) 0 hx hb dX4_tell_1 c_1 (by decide) (by decide) (by decide) (by decide) (by decide) ?_
    refine lv_aload_n hx hb dX4_tell_28 rfl (lv_at hl 0 rfl) ?_
    refine getX hx hb hta inA4 hown hK hP 0 rfl rfl 5 (by decide) mw181 rfl rfl dX4_tell_29 ?_
    refine lv_aload_n hx hb dX4_tell_32 rfl (lv_at hl 0 rfl) ?_
    refine getX hx hb hta inA4 hown hK hP 0 rfl rfl 3 (by decide) mw179 rfl rfl dX4_tell_33 ?_
    refine lv_iconst (v := nI 1) hx hb dX4_tell_36 (by decide) ?_
    refine isubN (a := pa) (b := 1) hx hb dX4_tell_37 (by omega) ?_
    refine lv_bipush (v := nI 30) hx hb dX4_tell_38 (by decide) ?_
    refine imulN (a := pa - 1) (b := 30) hx hb dX4_tell_40 ?_
    refine lv_aload_n hx hb dX4_tell_41 rfl (lv_at hl 0 rfl) ?_
    refine getX hx hb hta inA4 hown hK hP 0 rfl rfl 4 (by decide) mw180 rfl rfl dX4_tell_42 ?_
    refine iaddN (a := (pa - 1) * 30) (b := pb) hx hb dX4_tell_45 ?_
    refine lv_iconst (v := nI 1) hx hb dX4_tell_46 (by decide) ?_
    refine isubN (a := (pa - 1) * 30 + pb) (b := 1) hx hb dX4_tell_47 (by omega) ?_
    refine ialdN hx hb hK hP 1 rfl (by omega) (by decide) dX4_tell_48 ?_
    exact rRi hx hb hr hlocks dX4_tell_49 (by rw [tlF, c_1]; rfl)
  · refine tabIn (tgt := 50) (off := 49) 1 hx hb dX4_tell_1 c_1 (by decide) (by decide) (by decide) (by decide) (by decide) ?_
    refine lv_aload_n hx hb dX4_tell_50 rfl (lv_at hl 0 rfl) ?_
    refine getX hx hb hta inA4 hown hK hP 0 rfl rfl 8 (by decide) mw184 rfl rfl dX4_tell_51 ?_
    exact rRi hx hb hr hlocks dX4_tell_54 (by rw [tlF, c_1]; rfl)
  · refine tabIn (tgt := 55) (off := 54) 2 hx hb dX4_tell_1 c_1 (by decide) (by decide) (by decide) (by decide) (by decide) ?_
    refine lv_aload_n hx hb dX4_tell_55 rfl (lv_at hl 0 rfl) ?_
    refine lv_aload_n hx hb dX4_tell_56 rfl (lv_at hl 0 rfl) ?_
    refine getX hx hb hta inA4 hown hK hP 0 rfl rfl 7 (by decide) mw183 rfl rfl dX4_tell_57 ?_
    refine lv_aload_n hx hb dX4_tell_60 rfl (lv_at hl 0 rfl) ?_
    refine getX hx hb hta inA4 hown hK hP 0 rfl rfl 4 (by decide) mw180 rfl rfl dX4_tell_61 ?_
    refine k_X4_oftenMet (Wd := 0) po pob sh poc poa pob pb ra rb pa pb pm mB hpm (by omega) ⟨hx, hb, hml, hown, hta⟩ mw614 ⟨Nat.le_of_ble_eq_true rfl, Nat.le_of_ble_eq_true rfl⟩ hK hP hD [0, 3] rfl rfl hl.1 (Nat.le_of_ble_eq_true rfl) dX4_tell_64 ⟨Nat.le_of_ble_eq_true rfl, Nat.le_of_ble_eq_true rfl⟩ ?_
    exact rRi hx hb hr hlocks dX4_tell_67 (by rw [tlF, c_1]; rfl)
  · refine tabOut (tgt := 68) 3 hx hb dX4_tell_1 c_1 (by decide) (by decide) (by decide) ?_
    refine lv_aload_n hx hb dX4_tell_68 rfl (lv_at hl 0 rfl) ?_
    refine lv_aload_n hx hb dX4_tell_69 rfl (lv_at hl 0 rfl) ?_
    refine getX hx hb hta inA4 hown hK hP 0 rfl rfl 6 (by decide) mw182 rfl rfl dX4_tell_70 ?_
    refine lv_aload_n hx hb dX4_tell_73 rfl (lv_at hl 0 rfl) ?_
    refine getX hx hb hta inA4 hown hK hP 0 rfl rfl 3 (by decide) mw179 rfl rfl dX4_tell_74 ?_
    refine k_X4_oftenMet (Wd := 0) po poa sh poc poa pob pa ra rb pa pb pm mA hpm (by omega) ⟨hx, hb, hml, hown, hta⟩ mw614 ⟨Nat.le_of_ble_eq_true rfl, Nat.le_of_ble_eq_true rfl⟩ hK hP hD [0, 2] rfl rfl hl.1 (Nat.le_of_ble_eq_true rfl) dX4_tell_77 ⟨Nat.le_of_ble_eq_true rfl, Nat.le_of_ble_eq_true rfl⟩ ?_
    exact rRi hx hb hr hlocks dX4_tell_80 (by rw [tlF, c_1]; rfl)
theorem k_X4_tell {p : Program} {l : Launch} {e : Env} {R : Room} {s : State} {m : MethodId} {args : Array Value} {below : List Frame} {meth : Method} {c : Code} {H : Heap} {locs : List Loc} {cells slots : Nat} {Q : State → Prop} {pc : Nat} {ls : Array Slot} {rest : List Value} {cc : ByteArray} {nL index Wd : Nat} {own : String} {D : va_G} {cI : ClassId} {A : Nat → Prop} {ws : va_W} (po : Nat) (poc : Nat) (poa : Nat) (pob : Nat) (sh : Nat) (w0 : Nat) (ra : Nat) (rb : Nat) (pa : Nat) (pb : Nat) (pm : Nat) (cst : Nat → Int32) (mA : Nat → Int32) (mB : Nat → Int32) (hw0 : w0 ≤ 3) (hpa : 1 ≤ pa ∧ pa ≤ 30) (hpb : 1 ≤ pb ∧ pb ≤ 30) (hpm : pm ≤ 59) (S : CallFix p m c cc nL s args WA own) (hl : Cond.methodLink own index yX4_tell ∈ WA) (hR : 2 + 1 ≤ R.frames ∧ Wd + (2 + 11) + 32 ≤ R.locals) (hK : KB D cI s) (hP : va_P D vwCl ws H) (hD : va_D A ws) (is : List Nat) (hs : is.map (fun i => ws[i]?) = ([(po, .inr (4, [.ref sh, .int (nI ra), .int (nI rb), .int (nI pa), .int (nI pb), .ref poc, .ref poa, .ref pob, .int (nI pm)])), (poc, .inl (cI, 900, .inl cst)), (poa, .inl (cI, 59, .inl mA)), (pob, .inl (cI, 59, .inl mB))] : va_W).map some) (hnd : va_nd is = true) (hsz : ls.size = nL) (hW : (rest.map fun v => v.category).sum ≤ Wd) (hdg : decode cc pc = .ok (.invokevirtual index, 3)) (hcel : cells ≤ R.cells ∧ slots ≤ R.slots) (kk : W p l e R s m args below meth c H locs cells slots Q (F0 m (pc + 3) ls (.int (tlF cst mA mB pa pb pm w0) :: rest))) : W p l e R s m args below meth c H locs cells slots Q (F0 m pc ls (.int (nI w0) :: .ref po :: rest)) :=
  kRV (n := 1) (As := [.int (nI w0)]) (ci := 4) S (c_X4_tell l D cI po poc poa pob sh w0 ra rb pa pb pm cst mA mB hw0 hpa hpb hpm) hl mw613 mw611 mw612 mw47 (by decide +kernel) hR rfl rfl rfl rfl hK hP hD is hs hnd hsz hW hdg hcel kk

set_option maxHeartbeats 4000000 in
set_option maxRecDepth 100000 in
theorem c_X4_met (l : Launch) (D : va_G) (cI : ClassId) (po : Nat) (poc : Nat) (poa : Nat) (pob : Nat) (sh : Nat) (i0 : Int32) (ra : Nat) (rb : Nat) (pa : Nat) (pb : Nat) (pm : Nat) (cst : Nat → Int32) (mA : Nat → Int32) (mB : Nat → Int32) (hpm : pm ≤ 59) : CR l yX4_met (wm yX4_met cX4_met 3 (some .int)) 0 0 D cI [.ref po, .int i0] [(po, .inr (4, [.ref sh, .int (nI ra), .int (nI rb), .int (nI pa), .int (nI pb), .ref poc, .ref poa, .ref pob, .int (nI pm)])), (poc, .inl (cI, 900, .inl cst)), (poa, .inl (cI, 59, .inl mA)), (pob, .inl (cI, 59, .inl mB))] (some (.int (mtF mA mB pm i0))) := by
  refine CR.of (by decide) (Nat.le_of_ble_eq_true rfl) ?_
  intro p e s m below meth c hx hb hr hml hown hlocks hta hP hD hK ls hl
  have hl : lv_has ls 3 [(0, .ref po), (1, .int i0)] := hl
  have hP : va_P D vwCl [(po, .inr (4, [.ref sh, .int (nI ra), .int (nI rb), .int (nI pa), .int (nI pb), .ref poc, .ref poa, .ref pob, .int (nI pm)])), (poc, .inl (cI, 900, .inl cst)), (poa, .inl (cI, 59, .inl mA)), (pob, .inl (cI, 59, .inl mB))] s.heap := hP
  refine lv_iload_n hx hb dX4_met_0 rfl (lv_at hl 1 rfl) ?_
  refine ifI_lt (tgt := 12) hx hb dX4_met_1 (by decide) (fun c_1 => ?_) (fun c_1 => ?_)
  · refine lv_ldc hx hb hown (hta _ mw630) dX4_met_12 ?_
    exact rRi hx hb hr hlocks dX4_met_14 (by first | (simp only [mtF, inM, eq_true c_1, decide_true, decide_false, Bool.true_or, Bool.or_true, Bool.false_or, Bool.or_false, Bool.true_and, Bool.and_true, Bool.false_and, Bool.and_false, Bool.not_true, Bool.not_false, if_true, if_false, Bool.false_eq_true, and_true, true_and, and_false, false_and, or_true, true_or, or_false, false_or, not_true_eq_false, not_false_eq_true, bz]; done) | (simp only [mtF, inM, eq_true c_1, decide_true, decide_false, Bool.true_or, Bool.or_true, Bool.false_or, Bool.or_false, Bool.true_and, Bool.and_true, Bool.false_and, Bool.and_false, Bool.not_true, Bool.not_false, if_true, if_false, Bool.false_eq_true, and_true, true_and, and_false, false_and, or_true, true_or, or_false, false_or, not_true_eq_false, not_false_eq_true, bz]; rfl))
  · refine lv_iload_n hx hb dX4_met_4 rfl (lv_at hl 1 rfl) ?_
    refine lv_aload_n hx hb dX4_met_5 rfl (lv_at hl 0 rfl) ?_
    refine getX hx hb hta inA4 hown hK hP 0 rfl rfl 8 (by decide) mw184 rfl rfl dX4_met_6 ?_
    refine icmpI_lt (tgt := 15) hx hb dX4_met_9 (by decide) (fun c_9 => ?_) (fun c_9 => ?_)
    · obtain ⟨j, hj, rfl⟩ := inM_of c_1 c_9 (by omega)
      have hcl : (nI j).toNatClampNeg = j := nI_clamp (by omega)
      refine lv_aload_n hx hb dX4_met_15 rfl (lv_at hl 0 rfl) ?_
      refine getX hx hb hta inA4 hown hK hP 0 rfl rfl 8 (by decide) mw184 rfl rfl dX4_met_16 ?_
      refine lv_iconst (v := nI 1) hx hb dX4_met_19 (by decide) ?_
      refine isubN (a := pm) (b := 1) hx hb dX4_met_20 (by omega) ?_
      refine lv_iload_n hx hb dX4_met_21 rfl (lv_at hl 1 rfl) ?_
      refine isubN (a := pm - 1) (b := j) hx hb dX4_met_22 (by omega) ?_
      refine lv_istore_n (lv' := [(2, .int (nI ((pm - 1) - j))), (0, .ref po), (1, .int (nI j))]) hx hb dX4_met_23 rfl hl (by decide) rfl (fun ls hl => ?_)
      refine lv_aload_n hx hb dX4_met_24 rfl (lv_at hl 1 rfl) ?_
      refine getX hx hb hta inA4 hown hK hP 0 rfl rfl 6 (by decide) mw182 rfl rfl dX4_met_25 ?_
      refine lv_iload_n hx hb dX4_met_28 rfl (lv_at hl 0 rfl) ?_
      refine ialdN hx hb hK hP 2 rfl (by omega) (by decide) dX4_met_29 ?_
      refine lv_bipush (v := nI 100) hx hb dX4_met_30 (by decide) ?_
      refine lv_imul hx hb dX4_met_32 ?_
      refine lv_aload_n hx hb dX4_met_33 rfl (lv_at hl 1 rfl) ?_
      refine getX hx hb hta inA4 hown hK hP 0 rfl rfl 7 (by decide) mw183 rfl rfl dX4_met_34 ?_
      refine lv_iload_n hx hb dX4_met_37 rfl (lv_at hl 0 rfl) ?_
      refine ialdN hx hb hK hP 3 rfl (by omega) (by decide) dX4_met_38 ?_
      refine lv_iadd hx hb dX4_met_39 ?_
      exact rRi hx hb hr hlocks dX4_met_40 (by first | (simp only [mtF, inM, eq_false c_1, eq_true c_9, hcl, decide_true, decide_false, Bool.true_or, Bool.or_true, Bool.false_or, Bool.or_false, Bool.true_and, Bool.and_true, Bool.false_and, Bool.and_false, Bool.not_true, Bool.not_false, if_true, if_false, Bool.false_eq_true, and_true, true_and, and_false, false_and, or_true, true_or, or_false, false_or, not_true_eq_false, not_false_eq_true, bz]; done) | (simp only [mtF, inM, eq_false c_1, eq_true c_9, hcl, decide_true, decide_false, Bool.true_or, Bool.or_true, Bool.false_or, Bool.or_false, Bool.true_and, Bool.and_true, Bool.false_and, Bool.and_false, Bool.not_true, Bool.not_false, if_true, if_false, Bool.false_eq_true, and_true, true_and, and_false, false_and, or_true, true_or, or_false, false_or, not_true_eq_false, not_false_eq_true, bz]; rfl))
    · refine lv_ldc hx hb hown (hta _ mw630) dX4_met_12 ?_
      exact rRi hx hb hr hlocks dX4_met_14 (by first | (simp only [mtF, inM, eq_false c_1, eq_false c_9, decide_true, decide_false, Bool.true_or, Bool.or_true, Bool.false_or, Bool.or_false, Bool.true_and, Bool.and_true, Bool.false_and, Bool.and_false, Bool.not_true, Bool.not_false, if_true, if_false, Bool.false_eq_true, and_true, true_and, and_false, false_and, or_true, true_or, or_false, false_or, not_true_eq_false, not_false_eq_true, bz]; done) | (simp only [mtF, inM, eq_false c_1, eq_false c_9, decide_true, decide_false, Bool.true_or, Bool.or_true, Bool.false_or, Bool.or_false, Bool.true_and, Bool.and_true, Bool.false_and, Bool.and_false, Bool.not_true, Bool.not_false, if_true, if_false, Bool.false_eq_true, and_true, true_and, and_false, false_and, or_true, true_or, or_false, false_or, not_true_eq_false, not_false_eq_true, bz]; rfl))
theorem k_X4_met {p : Program} {l : Launch} {e : Env} {R : Room} {s : State} {m : MethodId} {args : Array Value} {below : List Frame} {meth : Method} {c : Code} {H : Heap} {locs : List Loc} {cells slots : Nat} {Q : State → Prop} {pc : Nat} {ls : Array Slot} {rest : List Value} {cc : ByteArray} {nL index Wd : Nat} {own : String} {D : va_G} {cI : ClassId} {A : Nat → Prop} {ws : va_W} (po : Nat) (poc : Nat) (poa : Nat) (pob : Nat) (sh : Nat) (i0 : Int32) (ra : Nat) (rb : Nat) (pa : Nat) (pb : Nat) (pm : Nat) (cst : Nat → Int32) (mA : Nat → Int32) (mB : Nat → Int32) (hpm : pm ≤ 59) (S : CallFix p m c cc nL s args WA own) (hl : Cond.methodLink own index yX4_met ∈ WA) (hR : 0 + 1 ≤ R.frames ∧ Wd + (3 + 11) + 0 ≤ R.locals) (hK : KB D cI s) (hP : va_P D vwCl ws H) (hD : va_D A ws) (is : List Nat) (hs : is.map (fun i => ws[i]?) = ([(po, .inr (4, [.ref sh, .int (nI ra), .int (nI rb), .int (nI pa), .int (nI pb), .ref poc, .ref poa, .ref pob, .int (nI pm)])), (poc, .inl (cI, 900, .inl cst)), (poa, .inl (cI, 59, .inl mA)), (pob, .inl (cI, 59, .inl mB))] : va_W).map some) (hnd : va_nd is = true) (hsz : ls.size = nL) (hW : (rest.map fun v => v.category).sum ≤ Wd) (hdg : decode cc pc = .ok (.invokevirtual index, 3)) (hcel : cells ≤ R.cells ∧ slots ≤ R.slots) (kk : W p l e R s m args below meth c H locs cells slots Q (F0 m (pc + 3) ls (.int (mtF mA mB pm i0) :: rest))) : W p l e R s m args below meth c H locs cells slots Q (F0 m pc ls (.int i0 :: .ref po :: rest)) :=
  kRV (n := 1) (As := [.int i0]) (ci := 4) S (c_X4_met l D cI po poc poa pob sh i0 ra rb pa pb pm cst mA mB hpm) hl mw629 mw627 mw628 mw47 (by decide +kernel) hR rfl rfl rfl rfl hK hP hD is hs hnd hsz hW hdg hcel kk
