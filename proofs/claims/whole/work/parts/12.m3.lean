/-! sheets -/
def hasI (len i n : Int32) : Bool := !decide (i < 0) && !decide (n < 0) && !decide (len - n < i)
def allF (f : Nat → Bool) : Nat → Nat → Bool
  | _, 0 => true
  | k, r + 1 => if f k then allF f (k + 1) r else false
def cutL (l v : Int32) : Int32 := if l = 0 then v.toInt8.toInt32 else if l = nI 1 then v.toInt16.toInt32 else v
def zrF (b : Nat) : (Nat → Int32) → Nat → Nat → (Nat → Int32)
  | f, _, 0 => f
  | f, k, r + 1 => zrF b (upd f (b + k) (nI 0)) (k + 1) r
def pcF (it : Nat → Int32) (b s i : Nat) : (Nat → Int32) → Nat → Nat → (Nat → Int32)
  | f, _, 0 => f
  | f, k, r + 1 => pcF it b s i (upd f (b + k) (it (s * 144 + (i + k)))) (k + 1) r
/-! easing -/
def rsF (kn : Nat) (kt ks : Nat → Int32) (t u : Int32) : Bool := decide (kn = 0) || (decide (kt (kn - 1) < t) && !decide (u < ks (kn - 1)))
def shB (kt ks : Nat → Int32) (f g : Nat) (t : Int32) : Int32 := ks f + (ks g - ks f) * (t - kt f) / (kt g - kt f)
def shF (kn : Nat) (kt ks : Nat → Int32) (t : Int32) : Nat → Nat → Int32
  | _, 0 => ks (kn - 1)
  | k, r + 1 => if t < kt k then shB kt ks (k - 1) k t else shF kn kt ks t (k + 1) r
def shA (kn : Nat) (kt ks : Nat → Int32) (t : Int32) : Int32 := if kn = 0 then t else if t < kt 0 then ks 0 else shF kn kt ks t 1 (kn - 1)
/-! pictures -/
theorem cell_in {x y w h : Nat} (hx : x ≤ 1000) (hy : y ≤ 1000) (hw : w ≤ 12) (hh : h ≤ 12) (hw0 : 0 < w) (hh0 : 0 < h) : x * w ≤ 12000 ∧ y * h ≤ 12000 ∧ y * h / 1001 * w + x * w / 1001 < 144 := by
  have h1 : x * w ≤ 1000 * 12 := Nat.mul_le_mul hx hw
  have h2 : y * h ≤ 1000 * 12 := Nat.mul_le_mul hy hh
  have h3 : x * w ≤ 1000 * w := Nat.mul_le_mul_right w hx
  have h4 : y * h ≤ 1000 * h := Nat.mul_le_mul_right h hy
  have h5 : x * w / 1001 < w := Nat.div_lt_of_lt_mul (by omega)
  have h6 : y * h / 1001 < h := Nat.div_lt_of_lt_mul (by omega)
  have h7 : y * h / 1001 * w ≤ 11 * w := Nat.mul_le_mul_right w (by omega)
  omega

set_option maxHeartbeats 4000000 in
set_option maxRecDepth 100000 in
theorem c_X6_isSheet (l : Launch) (D : va_G) (cI : ClassId) (s0 : Int32) : CR l yX6_isSheet (wm yX6_isSheet cX6_isSheet 1 (some .boolean)) 1 22 D cI [.int s0] [] (some (.int (bz (inR s0 (nI 0) (nI 7))))) := by
  refine CR.of (by decide) (Nat.le_of_ble_eq_true rfl) ?_
  intro p e s m below meth c hx hb hr hml hown hlocks hta hP hD hK ls hl
  have hl : lv_has ls 1 [(0, .int s0)] := hl
  have hP : va_P D vwCl [] s.heap := hP
  refine lv_iload_n hx hb dX6_isSheet_0 rfl (lv_at hl 0 rfl) ?_
  refine lv_iconst (v := nI 0) hx hb dX6_isSheet_1 (by decide) ?_
  refine lv_bipush (v := nI 7) hx hb dX6_isSheet_2 (by decide) ?_
  refine kn_X8_isWithin s0 (nI 0) (nI 7)  ⟨hx, hb, hml, hown, hta⟩ hK.2.2.2.2.1 ⟨Nat.le_of_ble_eq_true rfl, Nat.le_of_ble_eq_true rfl⟩ hK hl.1 (Nat.le_of_ble_eq_true rfl) dX6_isSheet_4 ⟨Nat.le_of_ble_eq_true rfl, Nat.le_of_ble_eq_true rfl⟩ ?_
  exact rRz hx hb hr hlocks dX6_isSheet_7 rfl
theorem k_X6_isSheet {p : Program} {l : Launch} {e : Env} {R : Room} {s : State} {m : MethodId} {args : Array Value} {below : List Frame} {meth : Method} {c : Code} {H : Heap} {locs : List Loc} {cells slots : Nat} {Q : State → Prop} {pc : Nat} {ls : Array Slot} {rest : List Value} {cc : ByteArray} {nL index Wd : Nat} {own : String} {D : va_G} {cI : ClassId} (s0 : Int32) (S : CallFix p m c cc nL s args WA own) (hl : Cond.methodLink own index yX6_isSheet ∈ WA) (hR : 1 + 1 ≤ R.frames ∧ Wd + (1 + 11) + 22 ≤ R.locals) (hK : KB D cI s) (hsz : ls.size = nL) (hW : (rest.map fun v => v.category).sum ≤ Wd) (hdg : decode cc pc = .ok (.invokestatic index, 3)) (hcel : cells ≤ R.cells ∧ slots ≤ R.slots) (kk : W p l e R s m args below meth c H locs cells slots Q (F0 m (pc + 3) ls (.int (bz (inR s0 (nI 0) (nI 7))) :: rest))) : W p l e R s m args below meth c H locs cells slots Q (F0 m pc ls (.int s0 :: rest)) :=
  kRS (n := 1) (As := [.int s0]) S (c_X6_isSheet l D cI s0 ) hl mw254 mw253 mw41 (by decide +kernel) hR rfl hK hsz hW hdg hcel kk

set_option maxHeartbeats 4000000 in
set_option maxRecDepth 100000 in
theorem c_X6_isLane (l : Launch) (D : va_G) (cI : ClassId) (l0 : Int32) : CR l yX6_isLane (wm yX6_isLane cX6_isLane 1 (some .boolean)) 1 22 D cI [.int l0] [] (some (.int (bz (inR l0 (nI 0) (nI 2))))) := by
  refine CR.of (by decide) (Nat.le_of_ble_eq_true rfl) ?_
  intro p e s m below meth c hx hb hr hml hown hlocks hta hP hD hK ls hl
  have hl : lv_has ls 1 [(0, .int l0)] := hl
  have hP : va_P D vwCl [] s.heap := hP
  refine lv_iload_n hx hb dX6_isLane_0 rfl (lv_at hl 0 rfl) ?_
  refine lv_iconst (v := nI 0) hx hb dX6_isLane_1 (by decide) ?_
  refine lv_iconst (v := nI 2) hx hb dX6_isLane_2 (by decide) ?_
  refine kn_X8_isWithin l0 (nI 0) (nI 2)  ⟨hx, hb, hml, hown, hta⟩ hK.2.2.2.2.1 ⟨Nat.le_of_ble_eq_true rfl, Nat.le_of_ble_eq_true rfl⟩ hK hl.1 (Nat.le_of_ble_eq_true rfl) dX6_isLane_3 ⟨Nat.le_of_ble_eq_true rfl, Nat.le_of_ble_eq_true rfl⟩ ?_
  exact rRz hx hb hr hlocks dX6_isLane_6 rfl
theorem k_X6_isLane {p : Program} {l : Launch} {e : Env} {R : Room} {s : State} {m : MethodId} {args : Array Value} {below : List Frame} {meth : Method} {c : Code} {H : Heap} {locs : List Loc} {cells slots : Nat} {Q : State → Prop} {pc : Nat} {ls : Array Slot} {rest : List Value} {cc : ByteArray} {nL index Wd : Nat} {own : String} {D : va_G} {cI : ClassId} (l0 : Int32) (S : CallFix p m c cc nL s args WA own) (hl : Cond.methodLink own index yX6_isLane ∈ WA) (hR : 1 + 1 ≤ R.frames ∧ Wd + (1 + 11) + 22 ≤ R.locals) (hK : KB D cI s) (hsz : ls.size = nL) (hW : (rest.map fun v => v.category).sum ≤ Wd) (hdg : decode cc pc = .ok (.invokestatic index, 3)) (hcel : cells ≤ R.cells ∧ slots ≤ R.slots) (kk : W p l e R s m args below meth c H locs cells slots Q (F0 m (pc + 3) ls (.int (bz (inR l0 (nI 0) (nI 2))) :: rest))) : W p l e R s m args below meth c H locs cells slots Q (F0 m pc ls (.int l0 :: rest)) :=
  kRS (n := 1) (As := [.int l0]) S (c_X6_isLane l D cI l0 ) hl mw260 mw259 mw41 (by decide +kernel) hR rfl hK hsz hW hdg hcel kk

set_option maxHeartbeats 4000000 in
set_option maxRecDepth 100000 in
theorem c_X6_isMissing (l : Launch) (D : va_G) (cI : ClassId) (sh : Nat) (shl : Nat) (shn : Nat) (shi : Nat) (s0 : Nat) (la : Nat → Int32) (le : Nat → Int32) (it : Nat → Int32) (hs0 : s0 < 8) : CR l yX6_isMissing (wm yX6_isMissing cX6_isMissing 2 (some .boolean)) 0 0 D cI [.ref sh, .int (nI s0)] [(sh, .inr (6, [.ref shl, .ref shn, .ref shi])), (shl, .inl (cI, 8, .inl la)), (shn, .inl (cI, 8, .inl le)), (shi, .inl (cI, 1152, .inl it))] (some (.int (bz (decide (le s0 = (-1)))))) := by
  refine CR.of (by decide) (Nat.le_of_ble_eq_true rfl) ?_
  intro p e s m below meth c hx hb hr hml hown hlocks hta hP hD hK ls hl
  have hl : lv_has ls 2 [(0, .ref sh), (1, .int (nI s0))] := hl
  have hP : va_P D vwCl [(sh, .inr (6, [.ref shl, .ref shn, .ref shi])), (shl, .inl (cI, 8, .inl la)), (shn, .inl (cI, 8, .inl le)), (shi, .inl (cI, 1152, .inl it))] s.heap := hP
  refine lv_aload_n hx hb dX6_isMissing_0 rfl (lv_at hl 0 rfl) ?_
  refine getX hx hb hta inA6 hown hK hP 0 rfl rfl 1 (by decide) mw67 rfl rfl dX6_isMissing_1 ?_
  refine lv_iload_n hx hb dX6_isMissing_4 rfl (lv_at hl 1 rfl) ?_
  refine ialdN hx hb hK hP 2 rfl (by omega) (by decide) dX6_isMissing_5 ?_
  refine lv_iconst (v := (-1)) hx hb dX6_isMissing_6 (by decide) ?_
  refine icmpI_ne (tgt := 14) hx hb dX6_isMissing_7 (by decide) (fun c_7 => ?_) (fun c_7 => ?_)
  · refine lv_iconst (v := nI 0) hx hb dX6_isMissing_14 (by decide) ?_
    exact rRz hx hb hr hlocks dX6_isMissing_15 (by first | (simp only [bz, eq_false c_7, decide_true, decide_false, Bool.true_or, Bool.or_true, Bool.false_or, Bool.or_false, Bool.true_and, Bool.and_true, Bool.false_and, Bool.and_false, Bool.not_true, Bool.not_false, if_true, if_false, Bool.false_eq_true, and_true, true_and, and_false, false_and, or_true, true_or, or_false, false_or, not_true_eq_false, not_false_eq_true, bz]; done) | (simp only [bz, eq_false c_7, decide_true, decide_false, Bool.true_or, Bool.or_true, Bool.false_or, Bool.or_false, Bool.true_and, Bool.and_true, Bool.false_and, Bool.and_false, Bool.not_true, Bool.not_false, if_true, if_false, Bool.false_eq_true, and_true, true_and, and_false, false_and, or_true, true_or, or_false, false_or, not_true_eq_false, not_false_eq_true, bz]; rfl))
  · refine lv_iconst (v := nI 1) hx hb dX6_isMissing_10 (by decide) ?_
    refine lv_goto (tgt := 15) hx hb dX6_isMissing_11 (by decide) ?_
    exact rRz hx hb hr hlocks dX6_isMissing_15 (by first | (simp only [bz, eq_true c_7, decide_true, decide_false, Bool.true_or, Bool.or_true, Bool.false_or, Bool.or_false, Bool.true_and, Bool.and_true, Bool.false_and, Bool.and_false, Bool.not_true, Bool.not_false, if_true, if_false, Bool.false_eq_true, and_true, true_and, and_false, false_and, or_true, true_or, or_false, false_or, not_true_eq_false, not_false_eq_true, bz]; done) | (simp only [bz, eq_true c_7, decide_true, decide_false, Bool.true_or, Bool.or_true, Bool.false_or, Bool.or_false, Bool.true_and, Bool.and_true, Bool.false_and, Bool.and_false, Bool.not_true, Bool.not_false, if_true, if_false, Bool.false_eq_true, and_true, true_and, and_false, false_and, or_true, true_or, or_false, false_or, not_true_eq_false, not_false_eq_true, bz]; rfl))
theorem k_X6_isMissing {p : Program} {l : Launch} {e : Env} {R : Room} {s : State} {m : MethodId} {args : Array Value} {below : List Frame} {meth : Method} {c : Code} {H : Heap} {locs : List Loc} {cells slots : Nat} {Q : State → Prop} {pc : Nat} {ls : Array Slot} {rest : List Value} {cc : ByteArray} {nL index Wd : Nat} {own : String} {D : va_G} {cI : ClassId} {A : Nat → Prop} {ws : va_W} (sh : Nat) (shl : Nat) (shn : Nat) (shi : Nat) (s0 : Nat) (la : Nat → Int32) (le : Nat → Int32) (it : Nat → Int32) (hs0 : s0 < 8) (S : CallFix p m c cc nL s args WA own) (hl : Cond.methodLink own index yX6_isMissing ∈ WA) (hR : 0 + 1 ≤ R.frames ∧ Wd + (2 + 11) + 0 ≤ R.locals) (hK : KB D cI s) (hP : va_P D vwCl ws H) (hD : va_D A ws) (is : List Nat) (hs : is.map (fun i => ws[i]?) = ([(sh, .inr (6, [.ref shl, .ref shn, .ref shi])), (shl, .inl (cI, 8, .inl la)), (shn, .inl (cI, 8, .inl le)), (shi, .inl (cI, 1152, .inl it))] : va_W).map some) (hnd : va_nd is = true) (hsz : ls.size = nL) (hW : (rest.map fun v => v.category).sum ≤ Wd) (hdg : decode cc pc = .ok (.invokevirtual index, 3)) (hcel : cells ≤ R.cells ∧ slots ≤ R.slots) (kk : W p l e R s m args below meth c H locs cells slots Q (F0 m (pc + 3) ls (.int (bz (decide (le s0 = (-1)))) :: rest))) : W p l e R s m args below meth c H locs cells slots Q (F0 m pc ls (.int (nI s0) :: .ref sh :: rest)) :=
  kRV (n := 1) (As := [.int (nI s0)]) (ci := 6) S (c_X6_isMissing l D cI sh shl shn shi s0 la le it hs0) hl mw282 mw280 mw281 mw41 (by decide +kernel) hR rfl rfl rfl rfl hK hP hD is hs hnd hsz hW hdg hcel kk

set_option maxHeartbeats 4000000 in
set_option maxRecDepth 100000 in
theorem c_X6_hasItems (l : Launch) (D : va_G) (cI : ClassId) (sh : Nat) (shl : Nat) (shn : Nat) (shi : Nat) (s0 : Nat) (i0 : Int32) (n0 : Int32) (la : Nat → Int32) (le : Nat → Int32) (it : Nat → Int32) (hs0 : s0 < 8) : CR l yX6_hasItems (wm yX6_hasItems cX6_hasItems 4 (some .boolean)) 0 0 D cI [.ref sh, .int (nI s0), .int i0, .int n0] [(sh, .inr (6, [.ref shl, .ref shn, .ref shi])), (shl, .inl (cI, 8, .inl la)), (shn, .inl (cI, 8, .inl le)), (shi, .inl (cI, 1152, .inl it))] (some (.int (bz (hasI (le s0) i0 n0)))) := by
  refine CR.of (by decide) (Nat.le_of_ble_eq_true rfl) ?_
  intro p e s m below meth c hx hb hr hml hown hlocks hta hP hD hK ls hl
  have hl : lv_has ls 4 [(0, .ref sh), (1, .int (nI s0)), (2, .int i0), (3, .int n0)] := hl
  have hP : va_P D vwCl [(sh, .inr (6, [.ref shl, .ref shn, .ref shi])), (shl, .inl (cI, 8, .inl la)), (shn, .inl (cI, 8, .inl le)), (shi, .inl (cI, 1152, .inl it))] s.heap := hP
  refine lv_iload_n hx hb dX6_hasItems_0 rfl (lv_at hl 2 rfl) ?_
  refine ifI_lt (tgt := 24) hx hb dX6_hasItems_1 (by decide) (fun c_1 => ?_) (fun c_1 => ?_)
  · refine lv_iconst (v := nI 0) hx hb dX6_hasItems_24 (by decide) ?_
    exact rRz hx hb hr hlocks dX6_hasItems_25 (by first | (simp only [hasI, eq_true c_1, decide_true, decide_false, Bool.true_or, Bool.or_true, Bool.false_or, Bool.or_false, Bool.true_and, Bool.and_true, Bool.false_and, Bool.and_false, Bool.not_true, Bool.not_false, if_true, if_false, Bool.false_eq_true, and_true, true_and, and_false, false_and, or_true, true_or, or_false, false_or, not_true_eq_false, not_false_eq_true, bz]; done) | (simp only [hasI, eq_true c_1, decide_true, decide_false, Bool.true_or, Bool.or_true, Bool.false_or, Bool.or_false, Bool.true_and, Bool.and_true, Bool.false_and, Bool.and_false, Bool.not_true, Bool.not_false, if_true, if_false, Bool.false_eq_true, and_true, true_and, and_false, false_and, or_true, true_or, or_false, false_or, not_true_eq_false, not_false_eq_true, bz]; rfl))
  · refine lv_iload_n hx hb dX6_hasItems_4 rfl (lv_at hl 3 rfl) ?_
    refine ifI_lt (tgt := 24) hx hb dX6_hasItems_5 (by decide) (fun c_5 => ?_) (fun c_5 => ?_)
    · refine lv_iconst (v := nI 0) hx hb dX6_hasItems_24 (by decide) ?_
      exact rRz hx hb hr hlocks dX6_hasItems_25 (by first | (simp only [hasI, eq_false c_1, eq_true c_5, decide_true, decide_false, Bool.true_or, Bool.or_true, Bool.false_or, Bool.or_false, Bool.true_and, Bool.and_true, Bool.false_and, Bool.and_false, Bool.not_true, Bool.not_false, if_true, if_false, Bool.false_eq_true, and_true, true_and, and_false, false_and, or_true, true_or, or_false, false_or, not_true_eq_false, not_false_eq_true, bz]; done) | (simp only [hasI, eq_false c_1, eq_true c_5, decide_true, decide_false, Bool.true_or, Bool.or_true, Bool.false_or, Bool.or_false, Bool.true_and, Bool.and_true, Bool.false_and, Bool.and_false, Bool.not_true, Bool.not_false, if_true, if_false, Bool.false_eq_true, and_true, true_and, and_false, false_and, or_true, true_or, or_false, false_or, not_true_eq_false, not_false_eq_true, bz]; rfl))
    · refine lv_iload_n hx hb dX6_hasItems_8 rfl (lv_at hl 2 rfl) ?_
      refine lv_aload_n hx hb dX6_hasItems_9 rfl (lv_at hl 0 rfl) ?_
      refine getX hx hb hta inA6 hown hK hP 0 rfl rfl 1 (by decide) mw67 rfl rfl dX6_hasItems_10 ?_
      refine lv_iload_n hx hb dX6_hasItems_13 rfl (lv_at hl 1 rfl) ?_
      refine ialdN hx hb hK hP 2 rfl (by omega) (by decide) dX6_hasItems_14 ?_
      refine lv_iload_n hx hb dX6_hasItems_15 rfl (lv_at hl 3 rfl) ?_
      refine lv_isub hx hb dX6_hasItems_16 ?_
      refine icmpI_gt (tgt := 24) hx hb dX6_hasItems_17 (by decide) (fun c_17 => ?_) (fun c_17 => ?_)
      · refine lv_iconst (v := nI 0) hx hb dX6_hasItems_24 (by decide) ?_
        exact rRz hx hb hr hlocks dX6_hasItems_25 (by first | (simp only [hasI, eq_false c_1, eq_false c_5, eq_true c_17, decide_true, decide_false, Bool.true_or, Bool.or_true, Bool.false_or, Bool.or_false, Bool.true_and, Bool.and_true, Bool.false_and, Bool.and_false, Bool.not_true, Bool.not_false, if_true, if_false, Bool.false_eq_true, and_true, true_and, and_false, false_and, or_true, true_or, or_false, false_or, not_true_eq_false, not_false_eq_true, bz]; done) | (simp only [hasI, eq_false c_1, eq_false c_5, eq_true c_17, decide_true, decide_false, Bool.true_or, Bool.or_true, Bool.false_or, Bool.or_false, Bool.true_and, Bool.and_true, Bool.false_and, Bool.and_false, Bool.not_true, Bool.not_false, if_true, if_false, Bool.false_eq_true, and_true, true_and, and_false, false_and, or_true, true_or, or_false, false_or, not_true_eq_false, not_false_eq_true, bz]; rfl))
      · refine lv_iconst (v := nI 1) hx hb dX6_hasItems_20 (by decide) ?_
        refine lv_goto (tgt := 25) hx hb dX6_hasItems_21 (by decide) ?_
        exact rRz hx hb hr hlocks dX6_hasItems_25 (by first | (simp only [hasI, eq_false c_1, eq_false c_5, eq_false c_17, decide_true, decide_false, Bool.true_or, Bool.or_true, Bool.false_or, Bool.or_false, Bool.true_and, Bool.and_true, Bool.false_and, Bool.and_false, Bool.not_true, Bool.not_false, if_true, if_false, Bool.false_eq_true, and_true, true_and, and_false, false_and, or_true, true_or, or_false, false_or, not_true_eq_false, not_false_eq_true, bz]; done) | (simp only [hasI, eq_false c_1, eq_false c_5, eq_false c_17, decide_true, decide_false, Bool.true_or, Bool.or_true, Bool.false_or, Bool.or_false, Bool.true_and, Bool.and_true, Bool.false_and, Bool.and_false, Bool.not_true, Bool.not_false, if_true, if_false, Bool.false_eq_true, and_true, true_and, and_false, false_and, or_true, true_or, or_false, false_or, not_true_eq_false, not_false_eq_true, bz]; rfl))
theorem k_X6_hasItems {p : Program} {l : Launch} {e : Env} {R : Room} {s : State} {m : MethodId} {args : Array Value} {below : List Frame} {meth : Method} {c : Code} {H : Heap} {locs : List Loc} {cells slots : Nat} {Q : State → Prop} {pc : Nat} {ls : Array Slot} {rest : List Value} {cc : ByteArray} {nL index Wd : Nat} {own : String} {D : va_G} {cI : ClassId} {A : Nat → Prop} {ws : va_W} (sh : Nat) (shl : Nat) (shn : Nat) (shi : Nat) (s0 : Nat) (i0 : Int32) (n0 : Int32) (la : Nat → Int32) (le : Nat → Int32) (it : Nat → Int32) (hs0 : s0 < 8) (S : CallFix p m c cc nL s args WA own) (hl : Cond.methodLink own index yX6_hasItems ∈ WA) (hR : 0 + 1 ≤ R.frames ∧ Wd + (4 + 11) + 0 ≤ R.locals) (hK : KB D cI s) (hP : va_P D vwCl ws H) (hD : va_D A ws) (is : List Nat) (hs : is.map (fun i => ws[i]?) = ([(sh, .inr (6, [.ref shl, .ref shn, .ref shi])), (shl, .inl (cI, 8, .inl la)), (shn, .inl (cI, 8, .inl le)), (shi, .inl (cI, 1152, .inl it))] : va_W).map some) (hnd : va_nd is = true) (hsz : ls.size = nL) (hW : (rest.map fun v => v.category).sum ≤ Wd) (hdg : decode cc pc = .ok (.invokevirtual index, 3)) (hcel : cells ≤ R.cells ∧ slots ≤ R.slots) (kk : W p l e R s m args below meth c H locs cells slots Q (F0 m (pc + 3) ls (.int (bz (hasI (le s0) i0 n0)) :: rest))) : W p l e R s m args below meth c H locs cells slots Q (F0 m pc ls (.int n0 :: .int i0 :: .int (nI s0) :: .ref sh :: rest)) :=
  kRV (n := 3) (As := [.int (nI s0), .int i0, .int n0]) (ci := 6) S (c_X6_hasItems l D cI sh shl shn shi s0 i0 n0 la le it hs0) hl mw286 mw284 mw285 mw41 (by decide +kernel) hR rfl rfl rfl rfl hK hP hD is hs hnd hsz hW hdg hcel kk

set_option maxHeartbeats 4000000 in
set_option maxRecDepth 100000 in
theorem c_X6_laneOf (l : Launch) (D : va_G) (cI : ClassId) (sh : Nat) (shl : Nat) (shn : Nat) (shi : Nat) (s0 : Nat) (la : Nat → Int32) (le : Nat → Int32) (it : Nat → Int32) (hs0 : s0 < 8) : CR l yX6_laneOf (wm yX6_laneOf cX6_laneOf 2 (some .int)) 0 0 D cI [.ref sh, .int (nI s0)] [(sh, .inr (6, [.ref shl, .ref shn, .ref shi])), (shl, .inl (cI, 8, .inl la)), (shn, .inl (cI, 8, .inl le)), (shi, .inl (cI, 1152, .inl it))] (some (.int (la s0))) := by
  refine CR.of (by decide) (Nat.le_of_ble_eq_true rfl) ?_
  intro p e s m below meth c hx hb hr hml hown hlocks hta hP hD hK ls hl
  have hl : lv_has ls 2 [(0, .ref sh), (1, .int (nI s0))] := hl
  have hP : va_P D vwCl [(sh, .inr (6, [.ref shl, .ref shn, .ref shi])), (shl, .inl (cI, 8, .inl la)), (shn, .inl (cI, 8, .inl le)), (shi, .inl (cI, 1152, .inl it))] s.heap := hP
  refine lv_aload_n hx hb dX6_laneOf_0 rfl (lv_at hl 0 rfl) ?_
  refine getX hx hb hta inA6 hown hK hP 0 rfl rfl 0 (by decide) mw66 rfl rfl dX6_laneOf_1 ?_
  refine lv_iload_n hx hb dX6_laneOf_4 rfl (lv_at hl 1 rfl) ?_
  refine ialdN hx hb hK hP 1 rfl (by omega) (by decide) dX6_laneOf_5 ?_
  exact rRi hx hb hr hlocks dX6_laneOf_6 rfl
theorem k_X6_laneOf {p : Program} {l : Launch} {e : Env} {R : Room} {s : State} {m : MethodId} {args : Array Value} {below : List Frame} {meth : Method} {c : Code} {H : Heap} {locs : List Loc} {cells slots : Nat} {Q : State → Prop} {pc : Nat} {ls : Array Slot} {rest : List Value} {cc : ByteArray} {nL index Wd : Nat} {own : String} {D : va_G} {cI : ClassId} {A : Nat → Prop} {ws : va_W} (sh : Nat) (shl : Nat) (shn : Nat) (shi : Nat) (s0 : Nat) (la : Nat → Int32) (le : Nat → Int32) (it : Nat → Int32) (hs0 : s0 < 8) (S : CallFix p m c cc nL s args WA own) (hl : Cond.methodLink own index yX6_laneOf ∈ WA) (hR : 0 + 1 ≤ R.frames ∧ Wd + (2 + 11) + 0 ≤ R.locals) (hK : KB D cI s) (hP : va_P D vwCl ws H) (hD : va_D A ws) (is : List Nat) (hs : is.map (fun i => ws[i]?) = ([(sh, .inr (6, [.ref shl, .ref shn, .ref shi])), (shl, .inl (cI, 8, .inl la)), (shn, .inl (cI, 8, .inl le)), (shi, .inl (cI, 1152, .inl it))] : va_W).map some) (hnd : va_nd is = true) (hsz : ls.size = nL) (hW : (rest.map fun v => v.category).sum ≤ Wd) (hdg : decode cc pc = .ok (.invokevirtual index, 3)) (hcel : cells ≤ R.cells ∧ slots ≤ R.slots) (kk : W p l e R s m args below meth c H locs cells slots Q (F0 m (pc + 3) ls (.int (la s0) :: rest))) : W p l e R s m args below meth c H locs cells slots Q (F0 m pc ls (.int (nI s0) :: .ref sh :: rest)) :=
  kRV (n := 1) (As := [.int (nI s0)]) (ci := 6) S (c_X6_laneOf l D cI sh shl shn shi s0 la le it hs0) hl mw305 mw303 mw304 mw41 (by decide +kernel) hR rfl rfl rfl rfl hK hP hD is hs hnd hsz hW hdg hcel kk

set_option maxHeartbeats 4000000 in
set_option maxRecDepth 100000 in
theorem c_X6_item (l : Launch) (D : va_G) (cI : ClassId) (sh : Nat) (shl : Nat) (shn : Nat) (shi : Nat) (s0 : Nat) (i0 : Nat) (la : Nat → Int32) (le : Nat → Int32) (it : Nat → Int32) (hs0 : s0 < 8) (hi0 : i0 < 144) : CR l yX6_item (wm yX6_item cX6_item 3 (some .int)) 0 0 D cI [.ref sh, .int (nI s0), .int (nI i0)] [(sh, .inr (6, [.ref shl, .ref shn, .ref shi])), (shl, .inl (cI, 8, .inl la)), (shn, .inl (cI, 8, .inl le)), (shi, .inl (cI, 1152, .inl it))] (some (.int (it (s0 * 144 + i0)))) := by
  refine CR.of (by decide) (Nat.le_of_ble_eq_true rfl) ?_
  intro p e s m below meth c hx hb hr hml hown hlocks hta hP hD hK ls hl
  have hl : lv_has ls 3 [(0, .ref sh), (1, .int (nI s0)), (2, .int (nI i0))] := hl
  have hP : va_P D vwCl [(sh, .inr (6, [.ref shl, .ref shn, .ref shi])), (shl, .inl (cI, 8, .inl la)), (shn, .inl (cI, 8, .inl le)), (shi, .inl (cI, 1152, .inl it))] s.heap := hP
  refine lv_aload_n hx hb dX6_item_0 rfl (lv_at hl 0 rfl) ?_
  refine getX hx hb hta inA6 hown hK hP 0 rfl rfl 2 (by decide) mw68 rfl rfl dX6_item_1 ?_
  refine lv_iload_n hx hb dX6_item_4 rfl (lv_at hl 1 rfl) ?_
  refine lv_sipush (v := nI 144) hx hb dX6_item_5 (by decide) ?_
  refine imulN (a := s0) (b := 144) hx hb dX6_item_8 ?_
  refine lv_iload_n hx hb dX6_item_9 rfl (lv_at hl 2 rfl) ?_
  refine iaddN (a := s0 * 144) (b := i0) hx hb dX6_item_10 ?_
  refine ialdN hx hb hK hP 3 rfl (by omega) (by decide) dX6_item_11 ?_
  exact rRi hx hb hr hlocks dX6_item_12 rfl
theorem k_X6_item {p : Program} {l : Launch} {e : Env} {R : Room} {s : State} {m : MethodId} {args : Array Value} {below : List Frame} {meth : Method} {c : Code} {H : Heap} {locs : List Loc} {cells slots : Nat} {Q : State → Prop} {pc : Nat} {ls : Array Slot} {rest : List Value} {cc : ByteArray} {nL index Wd : Nat} {own : String} {D : va_G} {cI : ClassId} {A : Nat → Prop} {ws : va_W} (sh : Nat) (shl : Nat) (shn : Nat) (shi : Nat) (s0 : Nat) (i0 : Nat) (la : Nat → Int32) (le : Nat → Int32) (it : Nat → Int32) (hs0 : s0 < 8) (hi0 : i0 < 144) (S : CallFix p m c cc nL s args WA own) (hl : Cond.methodLink own index yX6_item ∈ WA) (hR : 0 + 1 ≤ R.frames ∧ Wd + (3 + 11) + 0 ≤ R.locals) (hK : KB D cI s) (hP : va_P D vwCl ws H) (hD : va_D A ws) (is : List Nat) (hs : is.map (fun i => ws[i]?) = ([(sh, .inr (6, [.ref shl, .ref shn, .ref shi])), (shl, .inl (cI, 8, .inl la)), (shn, .inl (cI, 8, .inl le)), (shi, .inl (cI, 1152, .inl it))] : va_W).map some) (hnd : va_nd is = true) (hsz : ls.size = nL) (hW : (rest.map fun v => v.category).sum ≤ Wd) (hdg : decode cc pc = .ok (.invokevirtual index, 3)) (hcel : cells ≤ R.cells ∧ slots ≤ R.slots) (kk : W p l e R s m args below meth c H locs cells slots Q (F0 m (pc + 3) ls (.int (it (s0 * 144 + i0)) :: rest))) : W p l e R s m args below meth c H locs cells slots Q (F0 m pc ls (.int (nI i0) :: .int (nI s0) :: .ref sh :: rest)) :=
  kRV (n := 2) (As := [.int (nI s0), .int (nI i0)]) (ci := 6) S (c_X6_item l D cI sh shl shn shi s0 i0 la le it hs0 hi0) hl mw297 mw295 mw296 mw41 (by decide +kernel) hR rfl rfl rfl rfl hK hP hD is hs hnd hsz hW hdg hcel kk

set_option maxHeartbeats 4000000 in
set_option maxRecDepth 100000 in
theorem c_X6_allWithin (l : Launch) (D : va_G) (cI : ClassId) (sh : Nat) (shl : Nat) (shn : Nat) (shi : Nat) (s0 : Nat) (i0 : Nat) (n0 : Nat) (m0 : Int32) (la : Nat → Int32) (le : Nat → Int32) (it : Nat → Int32) (hs0 : s0 < 8) (hin : i0 + n0 ≤ 144) : CR l yX6_allWithin (wm yX6_allWithin cX6_allWithin 6 (some .boolean)) 1 22 D cI [.ref sh, .int (nI s0), .int (nI i0), .int (nI n0), .int m0] [(sh, .inr (6, [.ref shl, .ref shn, .ref shi])), (shl, .inl (cI, 8, .inl la)), (shn, .inl (cI, 8, .inl le)), (shi, .inl (cI, 1152, .inl it))] (some (.int (bz (allF (fun j => inR (it (s0 * 144 + j)) (nI 0) m0) i0 n0)))) := by
  refine CR.of (by decide) (Nat.le_of_ble_eq_true rfl) ?_
  intro p e s m below meth c hx hb hr hml hown hlocks hta hP hD hK ls hl
  have hl : lv_has ls 6 [(0, .ref sh), (1, .int (nI s0)), (2, .int (nI i0)), (3, .int (nI n0)), (4, .int m0)] := hl
  have hP : va_P D vwCl [(sh, .inr (6, [.ref shl, .ref shn, .ref shi])), (shl, .inl (cI, 8, .inl la)), (shn, .inl (cI, 8, .inl le)), (shi, .inl (cI, 1152, .inl it))] s.heap := hP
  refine lv_iload_n hx hb dX6_allWithin_0 rfl (lv_at hl 2 rfl) ?_
  refine lv_istore (lv' := [(5, .int (nI i0)), (0, .ref sh), (1, .int (nI s0)), (2, .int (nI i0)), (3, .int (nI n0)), (4, .int m0)]) hx hb dX6_allWithin_1 hl (by decide) rfl (fun ls hl => ?_)
  have loop_3 : ∀ (r : Nat) (k : Nat), (k + r = i0 + n0) → (allF (fun j => inR (it (s0 * 144 + j)) (nI 0) m0) i0 n0 = allF (fun j => inR (it (s0 * 144 + j)) (nI 0) m0) k r) → ∀ ls : Array Slot, lv_has ls 6 [(5, .int (nI k)), (0, .ref sh), (1, .int (nI s0)), (2, .int (nI i0)), (3, .int (nI n0)), (4, .int m0)] → W p l e (rmZ 1 22) s m ([.ref sh, .int (nI s0), .int (nI i0), .int (nI n0), .int m0] : List Value).toArray below meth c s.heap [] 0 0 (MQ below (QR (some (.int (bz (allF (fun j => inR (it (s0 * 144 + j)) (nI 0) m0) i0 n0))))) ([.ref sh, .int (nI s0), .int (nI i0), .int (nI n0), .int m0] : List Value).toArray s 0 0 (fun _ => False)) (F0 m 3 ls []) := by
    intro r
    induction r with
    | zero =>
      intro k ix_k hA ls hl
      refine lv_iload hx hb dX6_allWithin_3 (lv_at hl 0 rfl) ?_
      refine lv_iload_n hx hb dX6_allWithin_5 rfl (lv_at hl 3 rfl) ?_
      refine lv_iload_n hx hb dX6_allWithin_6 rfl (lv_at hl 4 rfl) ?_
      refine iaddN (a := i0) (b := n0) hx hb dX6_allWithin_7 ?_
      refine icmpN_ge (tgt := 35) hx hb dX6_allWithin_8 (by decide) (by omega) (by omega) (fun c_8 => ?_) (fun c_8 => ?_)
      · refine lv_iconst (v := nI 1) hx hb dX6_allWithin_35 (by decide) ?_
        exact rRz hx hb hr hlocks dX6_allWithin_36 (by first | (simp only [hA, allF, eq_false c_8, decide_true, decide_false, Bool.true_or, Bool.or_true, Bool.false_or, Bool.or_false, Bool.true_and, Bool.and_true, Bool.false_and, Bool.and_false, Bool.not_true, Bool.not_false, if_true, if_false, Bool.false_eq_true, and_true, true_and, and_false, false_and, or_true, true_or, or_false, false_or, not_true_eq_false, not_false_eq_true, bz]; done) | (simp only [hA, allF, eq_false c_8, decide_true, decide_false, Bool.true_or, Bool.or_true, Bool.false_or, Bool.or_false, Bool.true_and, Bool.and_true, Bool.false_and, Bool.and_false, Bool.not_true, Bool.not_false, if_true, if_false, Bool.false_eq_true, and_true, true_and, and_false, false_and, or_true, true_or, or_false, false_or, not_true_eq_false, not_false_eq_true, bz]; rfl))
      · exact (by omega : False).elim
    | succ r ih_3 =>
      intro k ix_k hA ls hl
      refine lv_iload hx hb dX6_allWithin_3 (lv_at hl 0 rfl) ?_
      refine lv_iload_n hx hb dX6_allWithin_5 rfl (lv_at hl 3 rfl) ?_
      refine lv_iload_n hx hb dX6_allWithin_6 rfl (lv_at hl 4 rfl) ?_
      refine iaddN (a := i0) (b := n0) hx hb dX6_allWithin_7 ?_
      refine icmpN_ge (tgt := 35) hx hb dX6_allWithin_8 (by decide) (by omega) (by omega) (fun c_8 => ?_) (fun c_8 => ?_)
      · exact (by omega : False).elim
      · refine lv_aload_n hx hb dX6_allWithin_11 rfl (lv_at hl 1 rfl) ?_
        refine lv_iload_n hx hb dX6_allWithin_12 rfl (lv_at hl 2 rfl) ?_
        refine lv_iload hx hb dX6_allWithin_13 (lv_at hl 0 rfl) ?_
        refine k_X6_item (Wd := 0) sh shl shn shi s0 k la le it hs0 (by omega) ⟨hx, hb, hml, hown, hta⟩ mw549 ⟨Nat.le_of_ble_eq_true rfl, Nat.le_of_ble_eq_true rfl⟩ hK hP hD [0, 1, 2, 3] rfl rfl hl.1 (Nat.le_of_ble_eq_true rfl) dX6_allWithin_15 ⟨Nat.le_of_ble_eq_true rfl, Nat.le_of_ble_eq_true rfl⟩ ?_
        refine lv_iconst (v := nI 0) hx hb dX6_allWithin_18 (by decide) ?_
        refine lv_iload hx hb dX6_allWithin_19 (lv_at hl 5 rfl) ?_
        refine kn_X8_isWithin (it (s0 * 144 + k)) (nI 0) m0  ⟨hx, hb, hml, hown, hta⟩ hK.2.2.2.2.1 ⟨Nat.le_of_ble_eq_true rfl, Nat.le_of_ble_eq_true rfl⟩ hK hl.1 (Nat.le_of_ble_eq_true rfl) dX6_allWithin_21 ⟨Nat.le_of_ble_eq_true rfl, Nat.le_of_ble_eq_true rfl⟩ ?_
        refine ifB_ne (tgt := 29) hx hb dX6_allWithin_24 (by decide) (fun c_24 => ?_) (fun c_24 => ?_)
        · refine lv_iinc (v := nI (k + 1)) (lv' := [(5, .int (nI (k + 1))), (0, .ref sh), (1, .int (nI s0)), (2, .int (nI i0)), (3, .int (nI n0)), (4, .int m0)]) hx hb dX6_allWithin_29 hl (k := 0) rfl (nI_inc1 _) (by decide) rfl (fun ls hl => ?_)
          refine lv_goto (tgt := 3) hx hb dX6_allWithin_32 (by decide) ?_
          exact ih_3 (k + 1) (by omega) (hA.trans (by first | (simp only [allF, eq_true c_8, c_24, decide_true, decide_false, Bool.true_or, Bool.or_true, Bool.false_or, Bool.or_false, Bool.true_and, Bool.and_true, Bool.false_and, Bool.and_false, Bool.not_true, Bool.not_false, if_true, if_false, Bool.false_eq_true, and_true, true_and, and_false, false_and, or_true, true_or, or_false, false_or, not_true_eq_false, not_false_eq_true, bz]; done) | (simp only [allF, eq_true c_8, c_24, decide_true, decide_false, Bool.true_or, Bool.or_true, Bool.false_or, Bool.or_false, Bool.true_and, Bool.and_true, Bool.false_and, Bool.and_false, Bool.not_true, Bool.not_false, if_true, if_false, Bool.false_eq_true, and_true, true_and, and_false, false_and, or_true, true_or, or_false, false_or, not_true_eq_false, not_false_eq_true, bz]; rfl))) ls (lv_sub hl [0, 1, 2, 3, 4, 5] rfl)
        · refine lv_iconst (v := nI 0) hx hb dX6_allWithin_27 (by decide) ?_
          exact rRz hx hb hr hlocks dX6_allWithin_28 (by first | (simp only [hA, allF, eq_true c_8, c_24, decide_true, decide_false, Bool.true_or, Bool.or_true, Bool.false_or, Bool.or_false, Bool.true_and, Bool.and_true, Bool.false_and, Bool.and_false, Bool.not_true, Bool.not_false, if_true, if_false, Bool.false_eq_true, and_true, true_and, and_false, false_and, or_true, true_or, or_false, false_or, not_true_eq_false, not_false_eq_true, bz]; done) | (simp only [hA, allF, eq_true c_8, c_24, decide_true, decide_false, Bool.true_or, Bool.or_true, Bool.false_or, Bool.or_false, Bool.true_and, Bool.and_true, Bool.false_and, Bool.and_false, Bool.not_true, Bool.not_false, if_true, if_false, Bool.false_eq_true, and_true, true_and, and_false, false_and, or_true, true_or, or_false, false_or, not_true_eq_false, not_false_eq_true, bz]; rfl))
  exact loop_3 n0 i0 (by omega) rfl ls (lv_sub hl [0, 1, 2, 3, 4, 5] rfl)
theorem k_X6_allWithin {p : Program} {l : Launch} {e : Env} {R : Room} {s : State} {m : MethodId} {args : Array Value} {below : List Frame} {meth : Method} {c : Code} {H : Heap} {locs : List Loc} {cells slots : Nat} {Q : State → Prop} {pc : Nat} {ls : Array Slot} {rest : List Value} {cc : ByteArray} {nL index Wd : Nat} {own : String} {D : va_G} {cI : ClassId} {A : Nat → Prop} {ws : va_W} (sh : Nat) (shl : Nat) (shn : Nat) (shi : Nat) (s0 : Nat) (i0 : Nat) (n0 : Nat) (m0 : Int32) (la : Nat → Int32) (le : Nat → Int32) (it : Nat → Int32) (hs0 : s0 < 8) (hin : i0 + n0 ≤ 144) (S : CallFix p m c cc nL s args WA own) (hl : Cond.methodLink own index yX6_allWithin ∈ WA) (hR : 1 + 1 ≤ R.frames ∧ Wd + (6 + 11) + 22 ≤ R.locals) (hK : KB D cI s) (hP : va_P D vwCl ws H) (hD : va_D A ws) (is : List Nat) (hs : is.map (fun i => ws[i]?) = ([(sh, .inr (6, [.ref shl, .ref shn, .ref shi])), (shl, .inl (cI, 8, .inl la)), (shn, .inl (cI, 8, .inl le)), (shi, .inl (cI, 1152, .inl it))] : va_W).map some) (hnd : va_nd is = true) (hsz : ls.size = nL) (hW : (rest.map fun v => v.category).sum ≤ Wd) (hdg : decode cc pc = .ok (.invokevirtual index, 3)) (hcel : cells ≤ R.cells ∧ slots ≤ R.slots) (kk : W p l e R s m args below meth c H locs cells slots Q (F0 m (pc + 3) ls (.int (bz (allF (fun j => inR (it (s0 * 144 + j)) (nI 0) m0) i0 n0)) :: rest))) : W p l e R s m args below meth c H locs cells slots Q (F0 m pc ls (.int m0 :: .int (nI n0) :: .int (nI i0) :: .int (nI s0) :: .ref sh :: rest)) :=
  kRV (n := 4) (As := [.int (nI s0), .int (nI i0), .int (nI n0), .int m0]) (ci := 6) S (c_X6_allWithin l D cI sh shl shn shi s0 i0 n0 m0 la le it hs0 hin) hl mw548 mw546 mw547 mw41 (by decide +kernel) hR rfl rfl rfl rfl hK hP hD is hs hnd hsz hW hdg hcel kk

set_option maxHeartbeats 4000000 in
set_option maxRecDepth 100000 in
theorem c_X6_cutToLane (l : Launch) (D : va_G) (cI : ClassId) (l0 : Int32) (v0 : Int32) : CR l yX6_cutToLane (wm yX6_cutToLane cX6_cutToLane 2 (some .int)) 0 0 D cI [.int l0, .int v0] [] (some (.int (cutL l0 v0))) := by
  refine CR.of (by decide) (Nat.le_of_ble_eq_true rfl) ?_
  intro p e s m below meth c hx hb hr hml hown hlocks hta hP hD hK ls hl
  have hl : lv_has ls 2 [(0, .int l0), (1, .int v0)] := hl
  have hP : va_P D vwCl [] s.heap := hP
  refine lv_iload_n hx hb dX6_cutToLane_0 rfl (lv_at hl 0 rfl) ?_
  refine ifI_ne (tgt := 7) hx hb dX6_cutToLane_1 (by decide) (fun c_1 => ?_) (fun c_1 => ?_)
  · refine lv_iload_n hx hb dX6_cutToLane_7 rfl (lv_at hl 0 rfl) ?_
    refine lv_iconst (v := nI 1) hx hb dX6_cutToLane_8 (by decide) ?_
    refine icmpI_ne (tgt := 17) hx hb dX6_cutToLane_9 (by decide) (fun c_9 => ?_) (fun c_9 => ?_)
    · refine lv_iload_n hx hb dX6_cutToLane_17 rfl (lv_at hl 1 rfl) ?_
      exact rRi hx hb hr hlocks dX6_cutToLane_18 (by first | (simp only [cutL, eq_false c_1, eq_false c_9, decide_true, decide_false, Bool.true_or, Bool.or_true, Bool.false_or, Bool.or_false, Bool.true_and, Bool.and_true, Bool.false_and, Bool.and_false, Bool.not_true, Bool.not_false, if_true, if_false, Bool.false_eq_true, and_true, true_and, and_false, false_and, or_true, true_or, or_false, false_or, not_true_eq_false, not_false_eq_true, bz]; done) | (simp only [cutL, eq_false c_1, eq_false c_9, decide_true, decide_false, Bool.true_or, Bool.or_true, Bool.false_or, Bool.or_false, Bool.true_and, Bool.and_true, Bool.false_and, Bool.and_false, Bool.not_true, Bool.not_false, if_true, if_false, Bool.false_eq_true, and_true, true_and, and_false, false_and, or_true, true_or, or_false, false_or, not_true_eq_false, not_false_eq_true, bz]; rfl))
    · refine lv_iload_n hx hb dX6_cutToLane_12 rfl (lv_at hl 1 rfl) ?_
      refine lv_i2s hx hb dX6_cutToLane_13 rfl ?_
      refine lv_goto (tgt := 18) hx hb dX6_cutToLane_14 (by decide) ?_
      exact rRi hx hb hr hlocks dX6_cutToLane_18 (by first | (simp only [cutL, eq_false c_1, eq_true c_9, decide_true, decide_false, Bool.true_or, Bool.or_true, Bool.false_or, Bool.or_false, Bool.true_and, Bool.and_true, Bool.false_and, Bool.and_false, Bool.not_true, Bool.not_false, if_true, if_false, Bool.false_eq_true, and_true, true_and, and_false, false_and, or_true, true_or, or_false, false_or, not_true_eq_false, not_false_eq_true, bz]; done) | (simp only [cutL, eq_false c_1, eq_true c_9, decide_true, decide_false, Bool.true_or, Bool.or_true, Bool.false_or, Bool.or_false, Bool.true_and, Bool.and_true, Bool.false_and, Bool.and_false, Bool.not_true, Bool.not_false, if_true, if_false, Bool.false_eq_true, and_true, true_and, and_false, false_and, or_true, true_or, or_false, false_or, not_true_eq_false, not_false_eq_true, bz]; rfl))
  · refine lv_iload_n hx hb dX6_cutToLane_4 rfl (lv_at hl 1 rfl) ?_
    refine lv_i2b hx hb dX6_cutToLane_5 rfl ?_
    exact rRi hx hb hr hlocks dX6_cutToLane_6 (by first | (simp only [cutL, eq_true c_1, decide_true, decide_false, Bool.true_or, Bool.or_true, Bool.false_or, Bool.or_false, Bool.true_and, Bool.and_true, Bool.false_and, Bool.and_false, Bool.not_true, Bool.not_false, if_true, if_false, Bool.false_eq_true, and_true, true_and, and_false, false_and, or_true, true_or, or_false, false_or, not_true_eq_false, not_false_eq_true, bz]; done) | (simp only [cutL, eq_true c_1, decide_true, decide_false, Bool.true_or, Bool.or_true, Bool.false_or, Bool.or_false, Bool.true_and, Bool.and_true, Bool.false_and, Bool.and_false, Bool.not_true, Bool.not_false, if_true, if_false, Bool.false_eq_true, and_true, true_and, and_false, false_and, or_true, true_or, or_false, false_or, not_true_eq_false, not_false_eq_true, bz]; rfl))
theorem k_X6_cutToLane {p : Program} {l : Launch} {e : Env} {R : Room} {s : State} {m : MethodId} {args : Array Value} {below : List Frame} {meth : Method} {c : Code} {H : Heap} {locs : List Loc} {cells slots : Nat} {Q : State → Prop} {pc : Nat} {ls : Array Slot} {rest : List Value} {cc : ByteArray} {nL index Wd : Nat} {own : String} {D : va_G} {cI : ClassId} (l0 : Int32) (v0 : Int32) (S : CallFix p m c cc nL s args WA own) (hl : Cond.methodLink own index yX6_cutToLane ∈ WA) (hR : 0 + 1 ≤ R.frames ∧ Wd + (2 + 11) + 0 ≤ R.locals) (hK : KB D cI s) (hsz : ls.size = nL) (hW : (rest.map fun v => v.category).sum ≤ Wd) (hdg : decode cc pc = .ok (.invokestatic index, 3)) (hcel : cells ≤ R.cells ∧ slots ≤ R.slots) (kk : W p l e R s m args below meth c H locs cells slots Q (F0 m (pc + 3) ls (.int (cutL l0 v0) :: rest))) : W p l e R s m args below meth c H locs cells slots Q (F0 m pc ls (.int v0 :: .int l0 :: rest)) :=
  kRS (n := 2) (As := [.int l0, .int v0]) S (c_X6_cutToLane l D cI l0 v0 ) hl mw293 mw292 mw41 (by decide +kernel) hR rfl hK hsz hW hdg hcel kk

set_option maxHeartbeats 4000000 in
set_option maxRecDepth 100000 in
theorem c_X6_lay (l : Launch) (D : va_G) (cI : ClassId) (sh : Nat) (shl : Nat) (shn : Nat) (shi : Nat) (s0 : Nat) (l0 : Int32) (n0 : Nat) (la : Nat → Int32) (le : Nat → Int32) (it : Nat → Int32) (hs0 : s0 < 8) (hn0 : n0 ≤ 144) : CW l yX6_lay (wm yX6_lay cX6_lay 5 none) 0 0 D cI [.ref sh, .int (nI s0), .int l0, .int (nI n0)] [(sh, .inr (6, [.ref shl, .ref shn, .ref shi])), (shl, .inl (cI, 8, .inl la)), (shn, .inl (cI, 8, .inl le)), (shi, .inl (cI, 1152, .inl it))] (fun v w' => v = none ∧ w' = [(sh, .inr (6, [.ref shl, .ref shn, .ref shi])), (shl, .inl (cI, 8, .inl (upd la s0 l0))), (shn, .inl (cI, 8, .inl (upd le s0 (nI n0)))), (shi, .inl (cI, 1152, .inl (zrF (s0 * 144) it 0 n0)))]) := by
  refine CW.of (by decide) (Nat.le_of_ble_eq_true rfl) ?_
  intro p e s m below meth c hx hb hr hml hown hlocks hta hP hD hK hS ls hl
  have hl : lv_has ls 5 [(0, .ref sh), (1, .int (nI s0)), (2, .int l0), (3, .int (nI n0))] := hl
  have hP : va_P D vwCl [(sh, .inr (6, [.ref shl, .ref shn, .ref shi])), (shl, .inl (cI, 8, .inl la)), (shn, .inl (cI, 8, .inl le)), (shi, .inl (cI, 1152, .inl it))] s.heap := hP
  refine lv_aload_n hx hb dX6_lay_0 rfl (lv_at hl 0 rfl) ?_
  refine getX hx hb hta inA6 hown hK hP 0 rfl rfl 0 (by decide) mw66 rfl rfl dX6_lay_1 ?_
  refine lv_iload_n hx hb dX6_lay_4 rfl (lv_at hl 1 rfl) ?_
  refine lv_iload_n hx hb dX6_lay_5 rfl (lv_at hl 2 rfl) ?_
  refine iastN hx hb hK hP hD hS 1 rfl (by omega) (by decide) dX6_lay_6 (fun H locs hP hS => ?_)
  have hP : va_P D vwCl [(sh, .inr (6, [.ref shl, .ref shn, .ref shi])), (shl, .inl (cI, 8, .inl (upd la s0 l0))), (shn, .inl (cI, 8, .inl le)), (shi, .inl (cI, 1152, .inl it))] H := hP
  have hD : va_D (adrs [(sh, .inr (6, [.ref shl, .ref shn, .ref shi])), (shl, .inl (cI, 8, .inl la)), (shn, .inl (cI, 8, .inl le)), (shi, .inl (cI, 1152, .inl it))]) [(sh, .inr (6, [.ref shl, .ref shn, .ref shi])), (shl, .inl (cI, 8, .inl (upd la s0 l0))), (shn, .inl (cI, 8, .inl le)), (shi, .inl (cI, 1152, .inl it))] := hD.same rfl
  refine lv_aload_n hx hb dX6_lay_7 rfl (lv_at hl 0 rfl) ?_
  refine getX hx hb hta inA6 hown hK hP 0 rfl rfl 1 (by decide) mw67 rfl rfl dX6_lay_8 ?_
  refine lv_iload_n hx hb dX6_lay_11 rfl (lv_at hl 1 rfl) ?_
  refine lv_iload_n hx hb dX6_lay_12 rfl (lv_at hl 3 rfl) ?_
  refine iastN hx hb hK hP hD hS 2 rfl (by omega) (by decide) dX6_lay_13 (fun H locs hP hS => ?_)
  have hP : va_P D vwCl [(sh, .inr (6, [.ref shl, .ref shn, .ref shi])), (shl, .inl (cI, 8, .inl (upd la s0 l0))), (shn, .inl (cI, 8, .inl (upd le s0 (nI n0)))), (shi, .inl (cI, 1152, .inl it))] H := hP
  have hD : va_D (adrs [(sh, .inr (6, [.ref shl, .ref shn, .ref shi])), (shl, .inl (cI, 8, .inl la)), (shn, .inl (cI, 8, .inl le)), (shi, .inl (cI, 1152, .inl it))]) [(sh, .inr (6, [.ref shl, .ref shn, .ref shi])), (shl, .inl (cI, 8, .inl (upd la s0 l0))), (shn, .inl (cI, 8, .inl (upd le s0 (nI n0)))), (shi, .inl (cI, 1152, .inl it))] := hD.same rfl
  refine lv_iconst (v := nI 0) hx hb dX6_lay_14 (by decide) ?_
  refine lv_istore (lv' := [(4, .int (nI 0)), (0, .ref sh), (1, .int (nI s0)), (2, .int l0), (3, .int (nI n0))]) hx hb dX6_lay_15 hl (by decide) rfl (fun ls hl => ?_)
  have loop_17 : ∀ (r : Nat) (k : Nat) (g : Nat → Int32), (k + r = n0) → (zrF (s0 * 144) it 0 n0 = zrF (s0 * 144) g k r) → ∀ (H : Heap) (locs : List Loc), va_P D vwCl [(sh, .inr (6, [.ref shl, .ref shn, .ref shi])), (shl, .inl (cI, 8, .inl (upd la s0 l0))), (shn, .inl (cI, 8, .inl (upd le s0 (nI n0)))), (shi, .inl (cI, 1152, .inl g))] H → va_S (adrs [(sh, .inr (6, [.ref shl, .ref shn, .ref shi])), (shl, .inl (cI, 8, .inl la)), (shn, .inl (cI, 8, .inl le)), (shi, .inl (cI, 1152, .inl it))]) s.heap H locs → ∀ ls : Array Slot, lv_has ls 5 [(4, .int (nI k)), (0, .ref sh), (1, .int (nI s0)), (2, .int l0), (3, .int (nI n0))] → W p l e (rmZ 0 0) s m ([.ref sh, .int (nI s0), .int l0, .int (nI n0)] : List Value).toArray below meth c H locs 0 0 (MQ below (QW D [(sh, .inr (6, [.ref shl, .ref shn, .ref shi])), (shl, .inl (cI, 8, .inl la)), (shn, .inl (cI, 8, .inl le)), (shi, .inl (cI, 1152, .inl it))] (fun v w' => v = none ∧ w' = [(sh, .inr (6, [.ref shl, .ref shn, .ref shi])), (shl, .inl (cI, 8, .inl (upd la s0 l0))), (shn, .inl (cI, 8, .inl (upd le s0 (nI n0)))), (shi, .inl (cI, 1152, .inl (zrF (s0 * 144) it 0 n0)))])) ([.ref sh, .int (nI s0), .int l0, .int (nI n0)] : List Value).toArray s 0 0 (adrs [(sh, .inr (6, [.ref shl, .ref shn, .ref shi])), (shl, .inl (cI, 8, .inl la)), (shn, .inl (cI, 8, .inl le)), (shi, .inl (cI, 1152, .inl it))])) (F0 m 17 ls []) := by
    intro r
    induction r with
    | zero =>
      intro k g ix_k hA H locs hP hS ls hl
      have hD : va_D (adrs [(sh, .inr (6, [.ref shl, .ref shn, .ref shi])), (shl, .inl (cI, 8, .inl la)), (shn, .inl (cI, 8, .inl le)), (shi, .inl (cI, 1152, .inl it))]) [(sh, .inr (6, [.ref shl, .ref shn, .ref shi])), (shl, .inl (cI, 8, .inl (upd la s0 l0))), (shn, .inl (cI, 8, .inl (upd le s0 (nI n0)))), (shi, .inl (cI, 1152, .inl g))] := hD.same rfl
      refine lv_iload hx hb dX6_lay_17 (lv_at hl 0 rfl) ?_
      refine lv_iload_n hx hb dX6_lay_19 rfl (lv_at hl 4 rfl) ?_
      refine icmpN_ge (tgt := 43) hx hb dX6_lay_20 (by decide) (by omega) (by omega) (fun c_20 => ?_) (fun c_20 => ?_)
      · exact rWv hx hb hr hlocks dX6_lay_43 hP hS rfl ⟨rfl, by rw [hA]; rfl⟩
      · exact (by omega : False).elim
    | succ r ih_17 =>
      intro k g ix_k hA H locs hP hS ls hl
      have hD : va_D (adrs [(sh, .inr (6, [.ref shl, .ref shn, .ref shi])), (shl, .inl (cI, 8, .inl la)), (shn, .inl (cI, 8, .inl le)), (shi, .inl (cI, 1152, .inl it))]) [(sh, .inr (6, [.ref shl, .ref shn, .ref shi])), (shl, .inl (cI, 8, .inl (upd la s0 l0))), (shn, .inl (cI, 8, .inl (upd le s0 (nI n0)))), (shi, .inl (cI, 1152, .inl g))] := hD.same rfl
      refine lv_iload hx hb dX6_lay_17 (lv_at hl 0 rfl) ?_
      refine lv_iload_n hx hb dX6_lay_19 rfl (lv_at hl 4 rfl) ?_
      refine icmpN_ge (tgt := 43) hx hb dX6_lay_20 (by decide) (by omega) (by omega) (fun c_20 => ?_) (fun c_20 => ?_)
      · exact (by omega : False).elim
      · refine lv_aload_n hx hb dX6_lay_23 rfl (lv_at hl 1 rfl) ?_
        refine getX hx hb hta inA6 hown hK hP 0 rfl rfl 2 (by decide) mw68 rfl rfl dX6_lay_24 ?_
        refine lv_iload_n hx hb dX6_lay_27 rfl (lv_at hl 2 rfl) ?_
        refine lv_sipush (v := nI 144) hx hb dX6_lay_28 (by decide) ?_
        refine imulN (a := s0) (b := 144) hx hb dX6_lay_31 ?_
        refine lv_iload hx hb dX6_lay_32 (lv_at hl 0 rfl) ?_
        refine iaddN (a := s0 * 144) (b := k) hx hb dX6_lay_34 ?_
        refine lv_iconst (v := nI 0) hx hb dX6_lay_35 (by decide) ?_
        refine iastN hx hb hK hP hD hS 3 rfl (by omega) (by decide) dX6_lay_36 (fun H locs hP hS => ?_)
        have hP : va_P D vwCl [(sh, .inr (6, [.ref shl, .ref shn, .ref shi])), (shl, .inl (cI, 8, .inl (upd la s0 l0))), (shn, .inl (cI, 8, .inl (upd le s0 (nI n0)))), (shi, .inl (cI, 1152, .inl (upd g (s0 * 144 + k) (nI 0))))] H := hP
        have hD : va_D (adrs [(sh, .inr (6, [.ref shl, .ref shn, .ref shi])), (shl, .inl (cI, 8, .inl la)), (shn, .inl (cI, 8, .inl le)), (shi, .inl (cI, 1152, .inl it))]) [(sh, .inr (6, [.ref shl, .ref shn, .ref shi])), (shl, .inl (cI, 8, .inl (upd la s0 l0))), (shn, .inl (cI, 8, .inl (upd le s0 (nI n0)))), (shi, .inl (cI, 1152, .inl (upd g (s0 * 144 + k) (nI 0))))] := hD.same rfl
        refine lv_iinc (v := nI (k + 1)) (lv' := [(4, .int (nI (k + 1))), (0, .ref sh), (1, .int (nI s0)), (2, .int l0), (3, .int (nI n0))]) hx hb dX6_lay_37 hl (k := 0) rfl (nI_inc1 _) (by decide) rfl (fun ls hl => ?_)
        refine lv_goto (tgt := 17) hx hb dX6_lay_40 (by decide) ?_
        exact ih_17 (k + 1) (upd g (s0 * 144 + k) (nI 0)) (by omega) hA _ _ hP hS ls (lv_sub hl [0, 1, 2, 3, 4] rfl)
  exact loop_17 n0 0 it (by omega) rfl H locs hP hS ls (lv_sub hl [0, 1, 2, 3, 4] rfl)
theorem k_X6_lay {p : Program} {l : Launch} {e : Env} {R : Room} {s : State} {m : MethodId} {args : Array Value} {below : List Frame} {meth : Method} {c : Code} {H : Heap} {locs : List Loc} {cells slots : Nat} {Q : State → Prop} {pc : Nat} {ls : Array Slot} {rest : List Value} {cc : ByteArray} {nL index Wd : Nat} {own : String} {D : va_G} {cI : ClassId} {A : Nat → Prop} {ws : va_W} {H0 : Heap} (sh : Nat) (shl : Nat) (shn : Nat) (shi : Nat) (s0 : Nat) (l0 : Int32) (n0 : Nat) (la : Nat → Int32) (le : Nat → Int32) (it : Nat → Int32) (hs0 : s0 < 8) (hn0 : n0 ≤ 144) (S : CallFix p m c cc nL s args WA own) (hl : Cond.methodLink own index yX6_lay ∈ WA) (hR : 0 + 1 ≤ R.frames ∧ Wd + (5 + 11) + 0 ≤ R.locals) (hK : KB D cI s) (hP : va_P D vwCl ws H) (hD : va_D A ws) (hS : va_S A H0 H locs) (is : List Nat) (hs : is.map (fun i => ws[i]?) = ([(sh, .inr (6, [.ref shl, .ref shn, .ref shi])), (shl, .inl (cI, 8, .inl la)), (shn, .inl (cI, 8, .inl le)), (shi, .inl (cI, 1152, .inl it))] : va_W).map some) (hnd : va_nd is = true) (hsz : ls.size = nL) (hW : (rest.map fun v => v.category).sum ≤ Wd) (hdg : decode cc pc = .ok (.invokevirtual index, 3)) (hcel : cells ≤ R.cells ∧ slots ≤ R.slots) (kk : ∀ (H1 : Heap) (locs1 : List Loc), va_P D vwCl (rp ws is [(sh, .inr (6, [.ref shl, .ref shn, .ref shi])), (shl, .inl (cI, 8, .inl (upd la s0 l0))), (shn, .inl (cI, 8, .inl (upd le s0 (nI n0)))), (shi, .inl (cI, 1152, .inl (zrF (s0 * 144) it 0 n0)))]) H1 → va_S A H0 H1 locs1 → W p l e R s m args below meth c H1 locs1 cells slots Q (F0 m (pc + 3) ls (rest))) : W p l e R s m args below meth c H locs cells slots Q (F0 m pc ls (.int (nI n0) :: .int l0 :: .int (nI s0) :: .ref sh :: rest)) :=
  kWV (n := 3) (As := [.int (nI s0), .int l0, .int (nI n0)]) (ci := 6) S (c_X6_lay l D cI sh shl shn shi s0 l0 n0 la le it hs0 hn0) hl mw270 mw268 mw269 mw41 (by decide +kernel) hR rfl rfl rfl rfl hK hP hD hS is hs hnd hsz hW hdg hcel (fun v w' H1 locs1 hq h1 h2 => by obtain ⟨rfl, rfl⟩ := hq; exact kk  H1 locs1 h1 h2)

set_option maxHeartbeats 4000000 in
set_option maxRecDepth 100000 in
theorem c_X6_put (l : Launch) (D : va_G) (cI : ClassId) (sh : Nat) (shl : Nat) (shn : Nat) (shi : Nat) (s0 : Nat) (i0 : Nat) (v0 : Int32) (la : Nat → Int32) (le : Nat → Int32) (it : Nat → Int32) (hs0 : s0 < 8) (hi0 : i0 < 144) : CW l yX6_put (wm yX6_put cX6_put 4 none) 1 15 D cI [.ref sh, .int (nI s0), .int (nI i0), .int v0] [(sh, .inr (6, [.ref shl, .ref shn, .ref shi])), (shl, .inl (cI, 8, .inl la)), (shn, .inl (cI, 8, .inl le)), (shi, .inl (cI, 1152, .inl it))] (fun v w' => v = none ∧ w' = [(sh, .inr (6, [.ref shl, .ref shn, .ref shi])), (shl, .inl (cI, 8, .inl la)), (shn, .inl (cI, 8, .inl le)), (shi, .inl (cI, 1152, .inl (upd it (s0 * 144 + i0) (cutL (la s0) v0))))]) := by
  refine CW.of (by decide) (Nat.le_of_ble_eq_true rfl) ?_
  intro p e s m below meth c hx hb hr hml hown hlocks hta hP hD hK hS ls hl
  have hl : lv_has ls 4 [(0, .ref sh), (1, .int (nI s0)), (2, .int (nI i0)), (3, .int v0)] := hl
  have hP : va_P D vwCl [(sh, .inr (6, [.ref shl, .ref shn, .ref shi])), (shl, .inl (cI, 8, .inl la)), (shn, .inl (cI, 8, .inl le)), (shi, .inl (cI, 1152, .inl it))] s.heap := hP
  refine lv_aload_n hx hb dX6_put_0 rfl (lv_at hl 0 rfl) ?_
  refine getX hx hb hta inA6 hown hK hP 0 rfl rfl 2 (by decide) mw68 rfl rfl dX6_put_1 ?_
  refine lv_iload_n hx hb dX6_put_4 rfl (lv_at hl 1 rfl) ?_
  refine lv_sipush (v := nI 144) hx hb dX6_put_5 (by decide) ?_
  refine imulN (a := s0) (b := 144) hx hb dX6_put_8 ?_
  refine lv_iload_n hx hb dX6_put_9 rfl (lv_at hl 2 rfl) ?_
  refine iaddN (a := s0 * 144) (b := i0) hx hb dX6_put_10 ?_
  refine lv_aload_n hx hb dX6_put_11 rfl (lv_at hl 0 rfl) ?_
  refine getX hx hb hta inA6 hown hK hP 0 rfl rfl 0 (by decide) mw66 rfl rfl dX6_put_12 ?_
  refine lv_iload_n hx hb dX6_put_15 rfl (lv_at hl 1 rfl) ?_
  refine ialdN hx hb hK hP 1 rfl (by omega) (by decide) dX6_put_16 ?_
  refine lv_iload_n hx hb dX6_put_17 rfl (lv_at hl 3 rfl) ?_
  refine k_X6_cutToLane (Wd := 2) (la s0) v0  ⟨hx, hb, hml, hown, hta⟩ mw291 ⟨Nat.le_of_ble_eq_true rfl, Nat.le_of_ble_eq_true rfl⟩ hK hl.1 (Nat.le_of_ble_eq_true rfl) dX6_put_18 ⟨Nat.le_of_ble_eq_true rfl, Nat.le_of_ble_eq_true rfl⟩ ?_
  refine iastN hx hb hK hP hD hS 3 rfl (by omega) (by decide) dX6_put_21 (fun H locs hP hS => ?_)
  have hP : va_P D vwCl [(sh, .inr (6, [.ref shl, .ref shn, .ref shi])), (shl, .inl (cI, 8, .inl la)), (shn, .inl (cI, 8, .inl le)), (shi, .inl (cI, 1152, .inl (upd it (s0 * 144 + i0) (cutL (la s0) v0))))] H := hP
  have hD : va_D (adrs [(sh, .inr (6, [.ref shl, .ref shn, .ref shi])), (shl, .inl (cI, 8, .inl la)), (shn, .inl (cI, 8, .inl le)), (shi, .inl (cI, 1152, .inl it))]) [(sh, .inr (6, [.ref shl, .ref shn, .ref shi])), (shl, .inl (cI, 8, .inl la)), (shn, .inl (cI, 8, .inl le)), (shi, .inl (cI, 1152, .inl (upd it (s0 * 144 + i0) (cutL (la s0) v0))))] := hD.same rfl
  exact rWv hx hb hr hlocks dX6_put_22 hP hS rfl ⟨rfl, rfl⟩
theorem k_X6_put {p : Program} {l : Launch} {e : Env} {R : Room} {s : State} {m : MethodId} {args : Array Value} {below : List Frame} {meth : Method} {c : Code} {H : Heap} {locs : List Loc} {cells slots : Nat} {Q : State → Prop} {pc : Nat} {ls : Array Slot} {rest : List Value} {cc : ByteArray} {nL index Wd : Nat} {own : String} {D : va_G} {cI : ClassId} {A : Nat → Prop} {ws : va_W} {H0 : Heap} (sh : Nat) (shl : Nat) (shn : Nat) (shi : Nat) (s0 : Nat) (i0 : Nat) (v0 : Int32) (la : Nat → Int32) (le : Nat → Int32) (it : Nat → Int32) (hs0 : s0 < 8) (hi0 : i0 < 144) (S : CallFix p m c cc nL s args WA own) (hl : Cond.methodLink own index yX6_put ∈ WA) (hR : 1 + 1 ≤ R.frames ∧ Wd + (4 + 11) + 15 ≤ R.locals) (hK : KB D cI s) (hP : va_P D vwCl ws H) (hD : va_D A ws) (hS : va_S A H0 H locs) (is : List Nat) (hs : is.map (fun i => ws[i]?) = ([(sh, .inr (6, [.ref shl, .ref shn, .ref shi])), (shl, .inl (cI, 8, .inl la)), (shn, .inl (cI, 8, .inl le)), (shi, .inl (cI, 1152, .inl it))] : va_W).map some) (hnd : va_nd is = true) (hsz : ls.size = nL) (hW : (rest.map fun v => v.category).sum ≤ Wd) (hdg : decode cc pc = .ok (.invokevirtual index, 3)) (hcel : cells ≤ R.cells ∧ slots ≤ R.slots) (kk : ∀ (H1 : Heap) (locs1 : List Loc), va_P D vwCl (rp ws is [(sh, .inr (6, [.ref shl, .ref shn, .ref shi])), (shl, .inl (cI, 8, .inl la)), (shn, .inl (cI, 8, .inl le)), (shi, .inl (cI, 1152, .inl (upd it (s0 * 144 + i0) (cutL (la s0) v0))))]) H1 → va_S A H0 H1 locs1 → W p l e R s m args below meth c H1 locs1 cells slots Q (F0 m (pc + 3) ls (rest))) : W p l e R s m args below meth c H locs cells slots Q (F0 m pc ls (.int v0 :: .int (nI i0) :: .int (nI s0) :: .ref sh :: rest)) :=
  kWV (n := 3) (As := [.int (nI s0), .int (nI i0), .int v0]) (ci := 6) S (c_X6_put l D cI sh shl shn shi s0 i0 v0 la le it hs0 hi0) hl mw290 mw288 mw289 mw41 (by decide +kernel) hR rfl rfl rfl rfl hK hP hD hS is hs hnd hsz hW hdg hcel (fun v w' H1 locs1 hq h1 h2 => by obtain ⟨rfl, rfl⟩ := hq; exact kk  H1 locs1 h1 h2)

set_option maxHeartbeats 4000000 in
set_option maxRecDepth 100000 in
theorem c_X6_carry (l : Launch) (D : va_G) (cI : ClassId) (sh : Nat) (shl : Nat) (shn : Nat) (shi : Nat) (a0 : Nat) (i0 : Nat) (b0 : Nat) (j0 : Nat) (n0 : Nat) (la : Nat → Int32) (le : Nat → Int32) (it : Nat → Int32) (ha0 : a0 < 8) (hb0 : b0 < 8) (hin : i0 + n0 ≤ 144) (hjn : j0 + n0 ≤ 144) : CW l yX6_carry (wm yX6_carry cX6_carry 6 none) 1 18 D cI [.ref sh, .int (nI a0), .int (nI i0), .int (nI b0), .int (nI j0), .int (nI n0)] [(sh, .inr (6, [.ref shl, .ref shn, .ref shi])), (shl, .inl (cI, 8, .inl la)), (shn, .inl (cI, 8, .inl le)), (shi, .inl (cI, 1152, .inl it))] (fun v w' => v = none ∧ w' = [(sh, .inr (6, [.ref shl, .ref shn, .ref shi])), (shl, .inl (cI, 8, .inl la)), (shn, .inl (cI, 8, .inl le)), (shi, .inl (cI, 1152, .inl (va_cpy it it (a0 * 144 + i0) (b0 * 144 + j0) n0)))]) := by
  refine CW.of (by decide) (Nat.le_of_ble_eq_true rfl) ?_
  intro p e s m below meth c hx hb hr hml hown hlocks hta hP hD hK hS ls hl
  have hl : lv_has ls 6 [(0, .ref sh), (1, .int (nI a0)), (2, .int (nI i0)), (3, .int (nI b0)), (4, .int (nI j0)), (5, .int (nI n0))] := hl
  have hP : va_P D vwCl [(sh, .inr (6, [.ref shl, .ref shn, .ref shi])), (shl, .inl (cI, 8, .inl la)), (shn, .inl (cI, 8, .inl le)), (shi, .inl (cI, 1152, .inl it))] s.heap := hP
  refine lv_aload_n hx hb dX6_carry_0 rfl (lv_at hl 0 rfl) ?_
  refine getX hx hb hta inA6 hown hK hP 0 rfl rfl 2 (by decide) mw68 rfl rfl dX6_carry_1 ?_
  refine lv_iload_n hx hb dX6_carry_4 rfl (lv_at hl 1 rfl) ?_
  refine lv_sipush (v := nI 144) hx hb dX6_carry_5 (by decide) ?_
  refine imulN (a := a0) (b := 144) hx hb dX6_carry_8 ?_
  refine lv_iload_n hx hb dX6_carry_9 rfl (lv_at hl 2 rfl) ?_
  refine iaddN (a := a0 * 144) (b := i0) hx hb dX6_carry_10 ?_
  refine lv_aload_n hx hb dX6_carry_11 rfl (lv_at hl 0 rfl) ?_
  refine getX hx hb hta inA6 hown hK hP 0 rfl rfl 2 (by decide) mw68 rfl rfl dX6_carry_12 ?_
  refine lv_iload_n hx hb dX6_carry_15 rfl (lv_at hl 3 rfl) ?_
  refine lv_sipush (v := nI 144) hx hb dX6_carry_16 (by decide) ?_
  refine imulN (a := b0) (b := 144) hx hb dX6_carry_19 ?_
  refine lv_iload hx hb dX6_carry_20 (lv_at hl 4 rfl) ?_
  refine iaddN (a := b0 * 144) (b := j0) hx hb dX6_carry_22 ?_
  refine lv_iload hx hb dX6_carry_23 (lv_at hl 5 rfl) ?_
  refine copyN (n := n0) (sp := a0 * 144 + i0) (dp := b0 * 144 + j0) hx hb (hml.trans hl.1.symm) hown hta mw310 mw312 mw311 mw50 hK hP hD hS 3 rfl (by omega) (by omega) (by decide) (Nat.le_of_ble_eq_true rfl) (Nat.le_of_ble_eq_true rfl) dX6_carry_25 (fun H locs hP hS => ?_)
  have hP : va_P D vwCl [(sh, .inr (6, [.ref shl, .ref shn, .ref shi])), (shl, .inl (cI, 8, .inl la)), (shn, .inl (cI, 8, .inl le)), (shi, .inl (cI, 1152, .inl (va_cpy it it (a0 * 144 + i0) (b0 * 144 + j0) n0)))] H := hP
  have hD : va_D (adrs [(sh, .inr (6, [.ref shl, .ref shn, .ref shi])), (shl, .inl (cI, 8, .inl la)), (shn, .inl (cI, 8, .inl le)), (shi, .inl (cI, 1152, .inl it))]) [(sh, .inr (6, [.ref shl, .ref shn, .ref shi])), (shl, .inl (cI, 8, .inl la)), (shn, .inl (cI, 8, .inl le)), (shi, .inl (cI, 1152, .inl (va_cpy it it (a0 * 144 + i0) (b0 * 144 + j0) n0)))] := hD.same rfl
  exact rWv hx hb hr hlocks dX6_carry_28 hP hS rfl ⟨rfl, rfl⟩
theorem k_X6_carry {p : Program} {l : Launch} {e : Env} {R : Room} {s : State} {m : MethodId} {args : Array Value} {below : List Frame} {meth : Method} {c : Code} {H : Heap} {locs : List Loc} {cells slots : Nat} {Q : State → Prop} {pc : Nat} {ls : Array Slot} {rest : List Value} {cc : ByteArray} {nL index Wd : Nat} {own : String} {D : va_G} {cI : ClassId} {A : Nat → Prop} {ws : va_W} {H0 : Heap} (sh : Nat) (shl : Nat) (shn : Nat) (shi : Nat) (a0 : Nat) (i0 : Nat) (b0 : Nat) (j0 : Nat) (n0 : Nat) (la : Nat → Int32) (le : Nat → Int32) (it : Nat → Int32) (ha0 : a0 < 8) (hb0 : b0 < 8) (hin : i0 + n0 ≤ 144) (hjn : j0 + n0 ≤ 144) (S : CallFix p m c cc nL s args WA own) (hl : Cond.methodLink own index yX6_carry ∈ WA) (hR : 1 + 1 ≤ R.frames ∧ Wd + (6 + 11) + 18 ≤ R.locals) (hK : KB D cI s) (hP : va_P D vwCl ws H) (hD : va_D A ws) (hS : va_S A H0 H locs) (is : List Nat) (hs : is.map (fun i => ws[i]?) = ([(sh, .inr (6, [.ref shl, .ref shn, .ref shi])), (shl, .inl (cI, 8, .inl la)), (shn, .inl (cI, 8, .inl le)), (shi, .inl (cI, 1152, .inl it))] : va_W).map some) (hnd : va_nd is = true) (hsz : ls.size = nL) (hW : (rest.map fun v => v.category).sum ≤ Wd) (hdg : decode cc pc = .ok (.invokevirtual index, 3)) (hcel : cells ≤ R.cells ∧ slots ≤ R.slots) (kk : ∀ (H1 : Heap) (locs1 : List Loc), va_P D vwCl (rp ws is [(sh, .inr (6, [.ref shl, .ref shn, .ref shi])), (shl, .inl (cI, 8, .inl la)), (shn, .inl (cI, 8, .inl le)), (shi, .inl (cI, 1152, .inl (va_cpy it it (a0 * 144 + i0) (b0 * 144 + j0) n0)))]) H1 → va_S A H0 H1 locs1 → W p l e R s m args below meth c H1 locs1 cells slots Q (F0 m (pc + 3) ls (rest))) : W p l e R s m args below meth c H locs cells slots Q (F0 m pc ls (.int (nI n0) :: .int (nI j0) :: .int (nI b0) :: .int (nI i0) :: .int (nI a0) :: .ref sh :: rest)) :=
  kWV (n := 5) (As := [.int (nI a0), .int (nI i0), .int (nI b0), .int (nI j0), .int (nI n0)]) (ci := 6) S (c_X6_carry l D cI sh shl shn shi a0 i0 b0 j0 n0 la le it ha0 hb0 hin hjn) hl mw309 mw307 mw308 mw41 (by decide +kernel) hR rfl rfl rfl rfl hK hP hD hS is hs hnd hsz hW hdg hcel (fun v w' H1 locs1 hq h1 h2 => by obtain ⟨rfl, rfl⟩ := hq; exact kk  H1 locs1 h1 h2)

set_option maxHeartbeats 4000000 in
set_option maxRecDepth 100000 in
theorem c_X6_takeAway (l : Launch) (D : va_G) (cI : ClassId) (sh : Nat) (shl : Nat) (shn : Nat) (shi : Nat) (s0 : Nat) (la : Nat → Int32) (le : Nat → Int32) (it : Nat → Int32) (hs0 : s0 < 8) : CW l yX6_takeAway (wm yX6_takeAway cX6_takeAway 3 (some .int)) 0 0 D cI [.ref sh, .int (nI s0)] [(sh, .inr (6, [.ref shl, .ref shn, .ref shi])), (shl, .inl (cI, 8, .inl la)), (shn, .inl (cI, 8, .inl le)), (shi, .inl (cI, 1152, .inl it))] (fun v w' => v = some (.int (le s0)) ∧ w' = [(sh, .inr (6, [.ref shl, .ref shn, .ref shi])), (shl, .inl (cI, 8, .inl la)), (shn, .inl (cI, 8, .inl (upd le s0 (-1)))), (shi, .inl (cI, 1152, .inl it))]) := by
  refine CW.of (by decide) (Nat.le_of_ble_eq_true rfl) ?_
  intro p e s m below meth c hx hb hr hml hown hlocks hta hP hD hK hS ls hl
  have hl : lv_has ls 3 [(0, .ref sh), (1, .int (nI s0))] := hl
  have hP : va_P D vwCl [(sh, .inr (6, [.ref shl, .ref shn, .ref shi])), (shl, .inl (cI, 8, .inl la)), (shn, .inl (cI, 8, .inl le)), (shi, .inl (cI, 1152, .inl it))] s.heap := hP
  refine lv_aload_n hx hb dX6_takeAway_0 rfl (lv_at hl 0 rfl) ?_
  refine getX hx hb hta inA6 hown hK hP 0 rfl rfl 1 (by decide) mw67 rfl rfl dX6_takeAway_1 ?_
  refine lv_iload_n hx hb dX6_takeAway_4 rfl (lv_at hl 1 rfl) ?_
  refine ialdN hx hb hK hP 2 rfl (by omega) (by decide) dX6_takeAway_5 ?_
  refine lv_istore_n (lv' := [(2, .int (le s0)), (0, .ref sh), (1, .int (nI s0))]) hx hb dX6_takeAway_6 rfl hl (by decide) rfl (fun ls hl => ?_)
  refine lv_aload_n hx hb dX6_takeAway_7 rfl (lv_at hl 1 rfl) ?_
  refine getX hx hb hta inA6 hown hK hP 0 rfl rfl 1 (by decide) mw67 rfl rfl dX6_takeAway_8 ?_
  refine lv_iload_n hx hb dX6_takeAway_11 rfl (lv_at hl 2 rfl) ?_
  refine lv_iconst (v := (-1)) hx hb dX6_takeAway_12 (by decide) ?_
  refine iastN hx hb hK hP hD hS 2 rfl (by omega) (by decide) dX6_takeAway_13 (fun H locs hP hS => ?_)
  have hP : va_P D vwCl [(sh, .inr (6, [.ref shl, .ref shn, .ref shi])), (shl, .inl (cI, 8, .inl la)), (shn, .inl (cI, 8, .inl (upd le s0 (-1)))), (shi, .inl (cI, 1152, .inl it))] H := hP
  have hD : va_D (adrs [(sh, .inr (6, [.ref shl, .ref shn, .ref shi])), (shl, .inl (cI, 8, .inl la)), (shn, .inl (cI, 8, .inl le)), (shi, .inl (cI, 1152, .inl it))]) [(sh, .inr (6, [.ref shl, .ref shn, .ref shi])), (shl, .inl (cI, 8, .inl la)), (shn, .inl (cI, 8, .inl (upd le s0 (-1)))), (shi, .inl (cI, 1152, .inl it))] := hD.same rfl
  refine lv_iload_n hx hb dX6_takeAway_14 rfl (lv_at hl 0 rfl) ?_
  exact rWi hx hb hr hlocks dX6_takeAway_15 hP hS rfl ⟨rfl, rfl⟩
theorem k_X6_takeAway {p : Program} {l : Launch} {e : Env} {R : Room} {s : State} {m : MethodId} {args : Array Value} {below : List Frame} {meth : Method} {c : Code} {H : Heap} {locs : List Loc} {cells slots : Nat} {Q : State → Prop} {pc : Nat} {ls : Array Slot} {rest : List Value} {cc : ByteArray} {nL index Wd : Nat} {own : String} {D : va_G} {cI : ClassId} {A : Nat → Prop} {ws : va_W} {H0 : Heap} (sh : Nat) (shl : Nat) (shn : Nat) (shi : Nat) (s0 : Nat) (la : Nat → Int32) (le : Nat → Int32) (it : Nat → Int32) (hs0 : s0 < 8) (S : CallFix p m c cc nL s args WA own) (hl : Cond.methodLink own index yX6_takeAway ∈ WA) (hR : 0 + 1 ≤ R.frames ∧ Wd + (3 + 11) + 0 ≤ R.locals) (hK : KB D cI s) (hP : va_P D vwCl ws H) (hD : va_D A ws) (hS : va_S A H0 H locs) (is : List Nat) (hs : is.map (fun i => ws[i]?) = ([(sh, .inr (6, [.ref shl, .ref shn, .ref shi])), (shl, .inl (cI, 8, .inl la)), (shn, .inl (cI, 8, .inl le)), (shi, .inl (cI, 1152, .inl it))] : va_W).map some) (hnd : va_nd is = true) (hsz : ls.size = nL) (hW : (rest.map fun v => v.category).sum ≤ Wd) (hdg : decode cc pc = .ok (.invokevirtual index, 3)) (hcel : cells ≤ R.cells ∧ slots ≤ R.slots) (kk : ∀ (H1 : Heap) (locs1 : List Loc), va_P D vwCl (rp ws is [(sh, .inr (6, [.ref shl, .ref shn, .ref shi])), (shl, .inl (cI, 8, .inl la)), (shn, .inl (cI, 8, .inl (upd le s0 (-1)))), (shi, .inl (cI, 1152, .inl it))]) H1 → va_S A H0 H1 locs1 → W p l e R s m args below meth c H1 locs1 cells slots Q (F0 m (pc + 3) ls (.int (le s0) :: rest))) : W p l e R s m args below meth c H locs cells slots Q (F0 m pc ls (.int (nI s0) :: .ref sh :: rest)) :=
  kWV (n := 1) (As := [.int (nI s0)]) (ci := 6) S (c_X6_takeAway l D cI sh shl shn shi s0 la le it hs0) hl mw320 mw318 mw319 mw41 (by decide +kernel) hR rfl rfl rfl rfl hK hP hD hS is hs hnd hsz hW hdg hcel (fun v w' H1 locs1 hq h1 h2 => by obtain ⟨rfl, rfl⟩ := hq; exact kk  H1 locs1 h1 h2)

set_option maxHeartbeats 4000000 in
set_option maxRecDepth 100000 in
theorem c_X6_many (l : Launch) (D : va_G) (cI : ClassId) (sh : Nat) (shl : Nat) (shn : Nat) (shi : Nat) (la : Nat → Int32) (le : Nat → Int32) (it : Nat → Int32) : CR l yX6_many (wm yX6_many cX6_many 3 (some .int)) 1 13 D cI [.ref sh] [(sh, .inr (6, [.ref shl, .ref shn, .ref shi])), (shl, .inl (cI, 8, .inl la)), (shn, .inl (cI, 8, .inl le)), (shi, .inl (cI, 1152, .inl it))] (some (.int (nI (cntF (fun j => !decide (le j = (-1))) 0 0 8)))) := by
  refine CR.of (by decide) (Nat.le_of_ble_eq_true rfl) ?_
  intro p e s m below meth c hx hb hr hml hown hlocks hta hP hD hK ls hl
  have hl : lv_has ls 3 [(0, .ref sh)] := hl
  have hP : va_P D vwCl [(sh, .inr (6, [.ref shl, .ref shn, .ref shi])), (shl, .inl (cI, 8, .inl la)), (shn, .inl (cI, 8, .inl le)), (shi, .inl (cI, 1152, .inl it))] s.heap := hP
  refine lv_iconst (v := nI 0) hx hb dX6_many_0 (by decide) ?_
  refine lv_istore_n (lv' := [(1, .int (nI 0)), (0, .ref sh)]) hx hb dX6_many_1 rfl hl (by decide) rfl (fun ls hl => ?_)
  refine lv_iconst (v := nI 0) hx hb dX6_many_2 (by decide) ?_
  refine lv_istore_n (lv' := [(2, .int (nI 0)), (1, .int (nI 0)), (0, .ref sh)]) hx hb dX6_many_3 rfl hl (by decide) rfl (fun ls hl => ?_)
  have loop_4 : ∀ (r : Nat) (k : Nat) (y : Nat), (k + r = 8) → (cntF (fun j => !decide (le j = (-1))) 0 0 8 = cntF (fun j => !decide (le j = (-1))) y k r) → ∀ ls : Array Slot, lv_has ls 3 [(2, .int (nI k)), (1, .int (nI y)), (0, .ref sh)] → W p l e (rmZ 1 13) s m ([.ref sh] : List Value).toArray below meth c s.heap [] 0 0 (MQ below (QR (some (.int (nI (cntF (fun j => !decide (le j = (-1))) 0 0 8))))) ([.ref sh] : List Value).toArray s 0 0 (fun _ => False)) (F0 m 4 ls []) := by
    intro r
    induction r with
    | zero =>
      intro k y ix_k hA ls hl
      refine lv_iload_n hx hb dX6_many_4 rfl (lv_at hl 0 rfl) ?_
      refine lv_bipush (v := nI 8) hx hb dX6_many_5 (by decide) ?_
      refine icmpN_ge (tgt := 27) hx hb dX6_many_7 (by decide) (by omega) (by omega) (fun c_7 => ?_) (fun c_7 => ?_)
      · refine lv_iload_n hx hb dX6_many_27 rfl (lv_at hl 1 rfl) ?_
        exact rRi hx hb hr hlocks dX6_many_28 (by rw [hA]; rfl)
      · exact (by omega : False).elim
    | succ r ih_4 =>
      intro k y ix_k hA ls hl
      refine lv_iload_n hx hb dX6_many_4 rfl (lv_at hl 0 rfl) ?_
      refine lv_bipush (v := nI 8) hx hb dX6_many_5 (by decide) ?_
      refine icmpN_ge (tgt := 27) hx hb dX6_many_7 (by decide) (by omega) (by omega) (fun c_7 => ?_) (fun c_7 => ?_)
      · exact (by omega : False).elim
      · refine lv_aload_n hx hb dX6_many_10 rfl (lv_at hl 2 rfl) ?_
        refine lv_iload_n hx hb dX6_many_11 rfl (lv_at hl 0 rfl) ?_
        refine k_X6_isMissing (Wd := 0) sh shl shn shi k la le it (by omega) ⟨hx, hb, hml, hown, hta⟩ mw725 ⟨Nat.le_of_ble_eq_true rfl, Nat.le_of_ble_eq_true rfl⟩ hK hP hD [0, 1, 2, 3] rfl rfl hl.1 (Nat.le_of_ble_eq_true rfl) dX6_many_12 ⟨Nat.le_of_ble_eq_true rfl, Nat.le_of_ble_eq_true rfl⟩ ?_
        refine ifB_ne (tgt := 21) hx hb dX6_many_15 (by decide) (fun c_15 => ?_) (fun c_15 => ?_)
        · refine lv_iinc (v := nI (k + 1)) (lv' := [(2, .int (nI (k + 1))), (1, .int (nI y)), (0, .ref sh)]) hx hb dX6_many_21 hl (k := 0) rfl (nI_inc1 _) (by decide) rfl (fun ls hl => ?_)
          refine lv_goto (tgt := 4) hx hb dX6_many_24 (by decide) ?_
          exact ih_4 (k + 1) y (by omega) (hA.trans (by first | (simp only [cntF, eq_true c_7, c_15, decide_true, decide_false, Bool.true_or, Bool.or_true, Bool.false_or, Bool.or_false, Bool.true_and, Bool.and_true, Bool.false_and, Bool.and_false, Bool.not_true, Bool.not_false, if_true, if_false, Bool.false_eq_true, and_true, true_and, and_false, false_and, or_true, true_or, or_false, false_or, not_true_eq_false, not_false_eq_true, bz]; done) | (simp only [cntF, eq_true c_7, c_15, decide_true, decide_false, Bool.true_or, Bool.or_true, Bool.false_or, Bool.or_false, Bool.true_and, Bool.and_true, Bool.false_and, Bool.and_false, Bool.not_true, Bool.not_false, if_true, if_false, Bool.false_eq_true, and_true, true_and, and_false, false_and, or_true, true_or, or_false, false_or, not_true_eq_false, not_false_eq_true, bz]; rfl))) ls (lv_sub hl [0, 1, 2] rfl)
        · refine lv_iinc (v := nI (y + 1)) (lv' := [(1, .int (nI (y + 1))), (2, .int (nI k)), (0, .ref sh)]) hx hb dX6_many_18 hl (k := 1) rfl (nI_inc1 _) (by decide) rfl (fun ls hl => ?_)
          refine lv_iinc (v := nI (k + 1)) (lv' := [(2, .int (nI (k + 1))), (1, .int (nI (y + 1))), (0, .ref sh)]) hx hb dX6_many_21 hl (k := 1) rfl (nI_inc1 _) (by decide) rfl (fun ls hl => ?_)
          refine lv_goto (tgt := 4) hx hb dX6_many_24 (by decide) ?_
          exact ih_4 (k + 1) (y + 1) (by omega) (hA.trans (by first | (simp only [cntF, eq_true c_7, c_15, decide_true, decide_false, Bool.true_or, Bool.or_true, Bool.false_or, Bool.or_false, Bool.true_and, Bool.and_true, Bool.false_and, Bool.and_false, Bool.not_true, Bool.not_false, if_true, if_false, Bool.false_eq_true, and_true, true_and, and_false, false_and, or_true, true_or, or_false, false_or, not_true_eq_false, not_false_eq_true, bz]; done) | (simp only [cntF, eq_true c_7, c_15, decide_true, decide_false, Bool.true_or, Bool.or_true, Bool.false_or, Bool.or_false, Bool.true_and, Bool.and_true, Bool.false_and, Bool.and_false, Bool.not_true, Bool.not_false, if_true, if_false, Bool.false_eq_true, and_true, true_and, and_false, false_and, or_true, true_or, or_false, false_or, not_true_eq_false, not_false_eq_true, bz]; rfl))) ls (lv_sub hl [0, 1, 2] rfl)
  exact loop_4 8 0 0 (by omega) rfl ls (lv_sub hl [0, 1, 2] rfl)
theorem k_X6_many {p : Program} {l : Launch} {e : Env} {R : Room} {s : State} {m : MethodId} {args : Array Value} {below : List Frame} {meth : Method} {c : Code} {H : Heap} {locs : List Loc} {cells slots : Nat} {Q : State → Prop} {pc : Nat} {ls : Array Slot} {rest : List Value} {cc : ByteArray} {nL index Wd : Nat} {own : String} {D : va_G} {cI : ClassId} {A : Nat → Prop} {ws : va_W} (sh : Nat) (shl : Nat) (shn : Nat) (shi : Nat) (la : Nat → Int32) (le : Nat → Int32) (it : Nat → Int32) (S : CallFix p m c cc nL s args WA own) (hl : Cond.methodLink own index yX6_many ∈ WA) (hR : 1 + 1 ≤ R.frames ∧ Wd + (3 + 11) + 13 ≤ R.locals) (hK : KB D cI s) (hP : va_P D vwCl ws H) (hD : va_D A ws) (is : List Nat) (hs : is.map (fun i => ws[i]?) = ([(sh, .inr (6, [.ref shl, .ref shn, .ref shi])), (shl, .inl (cI, 8, .inl la)), (shn, .inl (cI, 8, .inl le)), (shi, .inl (cI, 1152, .inl it))] : va_W).map some) (hnd : va_nd is = true) (hsz : ls.size = nL) (hW : (rest.map fun v => v.category).sum ≤ Wd) (hdg : decode cc pc = .ok (.invokevirtual index, 3)) (hcel : cells ≤ R.cells ∧ slots ≤ R.slots) (kk : W p l e R s m args below meth c H locs cells slots Q (F0 m (pc + 3) ls (.int (nI (cntF (fun j => !decide (le j = (-1))) 0 0 8)) :: rest))) : W p l e R s m args below meth c H locs cells slots Q (F0 m pc ls (.ref sh :: rest)) :=
  kRV (n := 0) (As := []) (ci := 6) S (c_X6_many l D cI sh shl shn shi la le it ) hl mw724 mw722 mw723 mw41 (by decide +kernel) hR rfl rfl rfl rfl hK hP hD is hs hnd hsz hW hdg hcel kk

set_option maxHeartbeats 4000000 in
set_option maxRecDepth 100000 in
theorem c_X2_many (l : Launch) (D : va_G) (cI : ClassId) (ea : Nat) (et : Nat) (es : Nat) (kn : Nat) (kt : Nat → Int32) (ks : Nat → Int32) : CR l yX2_many (wm yX2_many cX2_many 1 (some .int)) 0 0 D cI [.ref ea] [(ea, .inr (2, [.int (nI kn), .ref et, .ref es])), (et, .inl (cI, 6, .inl kt)), (es, .inl (cI, 6, .inl ks))] (some (.int (nI kn))) := by
  refine CR.of (by decide) (Nat.le_of_ble_eq_true rfl) ?_
  intro p e s m below meth c hx hb hr hml hown hlocks hta hP hD hK ls hl
  have hl : lv_has ls 1 [(0, .ref ea)] := hl
  have hP : va_P D vwCl [(ea, .inr (2, [.int (nI kn), .ref et, .ref es])), (et, .inl (cI, 6, .inl kt)), (es, .inl (cI, 6, .inl ks))] s.heap := hP
  refine lv_aload_n hx hb dX2_many_0 rfl (lv_at hl 0 rfl) ?_
  refine getX hx hb hta inA2 hown hK hP 0 rfl rfl 0 (by decide) mw115 rfl rfl dX2_many_1 ?_
  exact rRi hx hb hr hlocks dX2_many_4 rfl
theorem k_X2_many {p : Program} {l : Launch} {e : Env} {R : Room} {s : State} {m : MethodId} {args : Array Value} {below : List Frame} {meth : Method} {c : Code} {H : Heap} {locs : List Loc} {cells slots : Nat} {Q : State → Prop} {pc : Nat} {ls : Array Slot} {rest : List Value} {cc : ByteArray} {nL index Wd : Nat} {own : String} {D : va_G} {cI : ClassId} {A : Nat → Prop} {ws : va_W} (ea : Nat) (et : Nat) (es : Nat) (kn : Nat) (kt : Nat → Int32) (ks : Nat → Int32) (S : CallFix p m c cc nL s args WA own) (hl : Cond.methodLink own index yX2_many ∈ WA) (hR : 0 + 1 ≤ R.frames ∧ Wd + (1 + 11) + 0 ≤ R.locals) (hK : KB D cI s) (hP : va_P D vwCl ws H) (hD : va_D A ws) (is : List Nat) (hs : is.map (fun i => ws[i]?) = ([(ea, .inr (2, [.int (nI kn), .ref et, .ref es])), (et, .inl (cI, 6, .inl kt)), (es, .inl (cI, 6, .inl ks))] : va_W).map some) (hnd : va_nd is = true) (hsz : ls.size = nL) (hW : (rest.map fun v => v.category).sum ≤ Wd) (hdg : decode cc pc = .ok (.invokevirtual index, 3)) (hcel : cells ≤ R.cells ∧ slots ≤ R.slots) (kk : W p l e R s m args below meth c H locs cells slots Q (F0 m (pc + 3) ls (.int (nI kn) :: rest))) : W p l e R s m args below meth c H locs cells slots Q (F0 m pc ls (.ref ea :: rest)) :=
  kRV (n := 0) (As := []) (ci := 2) S (c_X2_many l D cI ea et es kn kt ks ) hl mw736 mw734 mw735 mw44 (by decide +kernel) hR rfl rfl rfl rfl hK hP hD is hs hnd hsz hW hdg hcel kk

set_option maxHeartbeats 4000000 in
set_option maxRecDepth 100000 in
theorem c_X2_isFull (l : Launch) (D : va_G) (cI : ClassId) (ea : Nat) (et : Nat) (es : Nat) (kn : Nat) (kt : Nat → Int32) (ks : Nat → Int32) (hkn : kn ≤ 6) : CR l yX2_isFull (wm yX2_isFull cX2_isFull 1 (some .boolean)) 0 0 D cI [.ref ea] [(ea, .inr (2, [.int (nI kn), .ref et, .ref es])), (et, .inl (cI, 6, .inl kt)), (es, .inl (cI, 6, .inl ks))] (some (.int (bz (!decide (kn < 6))))) := by
  refine CR.of (by decide) (Nat.le_of_ble_eq_true rfl) ?_
  intro p e s m below meth c hx hb hr hml hown hlocks hta hP hD hK ls hl
  have hl : lv_has ls 1 [(0, .ref ea)] := hl
  have hP : va_P D vwCl [(ea, .inr (2, [.int (nI kn), .ref et, .ref es])), (et, .inl (cI, 6, .inl kt)), (es, .inl (cI, 6, .inl ks))] s.heap := hP
  refine lv_aload_n hx hb dX2_isFull_0 rfl (lv_at hl 0 rfl) ?_
  refine getX hx hb hta inA2 hown hK hP 0 rfl rfl 0 (by decide) mw115 rfl rfl dX2_isFull_1 ?_
  refine lv_bipush (v := nI 6) hx hb dX2_isFull_4 (by decide) ?_
  refine icmpN_lt (tgt := 13) hx hb dX2_isFull_6 (by decide) (by omega) (by omega) (fun c_6 => ?_) (fun c_6 => ?_)
  · refine lv_iconst (v := nI 0) hx hb dX2_isFull_13 (by decide) ?_
    exact rRz hx hb hr hlocks dX2_isFull_14 (by first | (simp only [bz, eq_true c_6, decide_true, decide_false, Bool.true_or, Bool.or_true, Bool.false_or, Bool.or_false, Bool.true_and, Bool.and_true, Bool.false_and, Bool.and_false, Bool.not_true, Bool.not_false, if_true, if_false, Bool.false_eq_true, and_true, true_and, and_false, false_and, or_true, true_or, or_false, false_or, not_true_eq_false, not_false_eq_true, bz]; done) | (simp only [bz, eq_true c_6, decide_true, decide_false, Bool.true_or, Bool.or_true, Bool.false_or, Bool.or_false, Bool.true_and, Bool.and_true, Bool.false_and, Bool.and_false, Bool.not_true, Bool.not_false, if_true, if_false, Bool.false_eq_true, and_true, true_and, and_false, false_and, or_true, true_or, or_false, false_or, not_true_eq_false, not_false_eq_true, bz]; rfl))
  · refine lv_iconst (v := nI 1) hx hb dX2_isFull_9 (by decide) ?_
    refine lv_goto (tgt := 14) hx hb dX2_isFull_10 (by decide) ?_
    exact rRz hx hb hr hlocks dX2_isFull_14 (by first | (simp only [bz, eq_false c_6, decide_true, decide_false, Bool.true_or, Bool.or_true, Bool.false_or, Bool.or_false, Bool.true_and, Bool.and_true, Bool.false_and, Bool.and_false, Bool.not_true, Bool.not_false, if_true, if_false, Bool.false_eq_true, and_true, true_and, and_false, false_and, or_true, true_or, or_false, false_or, not_true_eq_false, not_false_eq_true, bz]; done) | (simp only [bz, eq_false c_6, decide_true, decide_false, Bool.true_or, Bool.or_true, Bool.false_or, Bool.or_false, Bool.true_and, Bool.and_true, Bool.false_and, Bool.and_false, Bool.not_true, Bool.not_false, if_true, if_false, Bool.false_eq_true, and_true, true_and, and_false, false_and, or_true, true_or, or_false, false_or, not_true_eq_false, not_false_eq_true, bz]; rfl))
theorem k_X2_isFull {p : Program} {l : Launch} {e : Env} {R : Room} {s : State} {m : MethodId} {args : Array Value} {below : List Frame} {meth : Method} {c : Code} {H : Heap} {locs : List Loc} {cells slots : Nat} {Q : State → Prop} {pc : Nat} {ls : Array Slot} {rest : List Value} {cc : ByteArray} {nL index Wd : Nat} {own : String} {D : va_G} {cI : ClassId} {A : Nat → Prop} {ws : va_W} (ea : Nat) (et : Nat) (es : Nat) (kn : Nat) (kt : Nat → Int32) (ks : Nat → Int32) (hkn : kn ≤ 6) (S : CallFix p m c cc nL s args WA own) (hl : Cond.methodLink own index yX2_isFull ∈ WA) (hR : 0 + 1 ≤ R.frames ∧ Wd + (1 + 11) + 0 ≤ R.locals) (hK : KB D cI s) (hP : va_P D vwCl ws H) (hD : va_D A ws) (is : List Nat) (hs : is.map (fun i => ws[i]?) = ([(ea, .inr (2, [.int (nI kn), .ref et, .ref es])), (et, .inl (cI, 6, .inl kt)), (es, .inl (cI, 6, .inl ks))] : va_W).map some) (hnd : va_nd is = true) (hsz : ls.size = nL) (hW : (rest.map fun v => v.category).sum ≤ Wd) (hdg : decode cc pc = .ok (.invokevirtual index, 3)) (hcel : cells ≤ R.cells ∧ slots ≤ R.slots) (kk : W p l e R s m args below meth c H locs cells slots Q (F0 m (pc + 3) ls (.int (bz (!decide (kn < 6))) :: rest))) : W p l e R s m args below meth c H locs cells slots Q (F0 m pc ls (.ref ea :: rest)) :=
  kRV (n := 0) (As := []) (ci := 2) S (c_X2_isFull l D cI ea et es kn kt ks hkn) hl mw478 mw476 mw477 mw44 (by decide +kernel) hR rfl rfl rfl rfl hK hP hD is hs hnd hsz hW hdg hcel kk

set_option maxHeartbeats 4000000 in
set_option maxRecDepth 100000 in
theorem c_X2_rises (l : Launch) (D : va_G) (cI : ClassId) (ea : Nat) (et : Nat) (es : Nat) (t0 : Int32) (u0 : Int32) (kn : Nat) (kt : Nat → Int32) (ks : Nat → Int32) (hkn : kn ≤ 6) : CR l yX2_rises (wm yX2_rises cX2_rises 3 (some .boolean)) 0 0 D cI [.ref ea, .int t0, .int u0] [(ea, .inr (2, [.int (nI kn), .ref et, .ref es])), (et, .inl (cI, 6, .inl kt)), (es, .inl (cI, 6, .inl ks))] (some (.int (bz (rsF kn kt ks t0 u0)))) := by
  refine CR.of (by decide) (Nat.le_of_ble_eq_true rfl) ?_
  intro p e s m below meth c hx hb hr hml hown hlocks hta hP hD hK ls hl
  have hl : lv_has ls 3 [(0, .ref ea), (1, .int t0), (2, .int u0)] := hl
  have hP : va_P D vwCl [(ea, .inr (2, [.int (nI kn), .ref et, .ref es])), (et, .inl (cI, 6, .inl kt)), (es, .inl (cI, 6, .inl ks))] s.heap := hP
  refine lv_aload_n hx hb dX2_rises_0 rfl (lv_at hl 0 rfl) ?_
  refine getX hx hb hta inA2 hown hK hP 0 rfl rfl 0 (by decide) mw115 rfl rfl dX2_rises_1 ?_
  refine ifN_eq (tgt := 37) hx hb dX2_rises_4 (by decide) (by omega) (fun c_4 => ?_) (fun c_4 => ?_)
  · refine lv_iconst (v := nI 1) hx hb dX2_rises_37 (by decide) ?_
    refine lv_goto (tgt := 42) hx hb dX2_rises_38 (by decide) ?_
    exact rRz hx hb hr hlocks dX2_rises_42 (by first | (simp only [rsF, eq_true c_4, decide_true, decide_false, Bool.true_or, Bool.or_true, Bool.false_or, Bool.or_false, Bool.true_and, Bool.and_true, Bool.false_and, Bool.and_false, Bool.not_true, Bool.not_false, if_true, if_false, Bool.false_eq_true, and_true, true_and, and_false, false_and, or_true, true_or, or_false, false_or, not_true_eq_false, not_false_eq_true, bz]; done) | (simp only [rsF, eq_true c_4, decide_true, decide_false, Bool.true_or, Bool.or_true, Bool.false_or, Bool.or_false, Bool.true_and, Bool.and_true, Bool.false_and, Bool.and_false, Bool.not_true, Bool.not_false, if_true, if_false, Bool.false_eq_true, and_true, true_and, and_false, false_and, or_true, true_or, or_false, false_or, not_true_eq_false, not_false_eq_true, bz]; rfl))
  · refine lv_iload_n hx hb dX2_rises_7 rfl (lv_at hl 1 rfl) ?_
    refine lv_aload_n hx hb dX2_rises_8 rfl (lv_at hl 0 rfl) ?_
    refine getX hx hb hta inA2 hown hK hP 0 rfl rfl 1 (by decide) mw116 rfl rfl dX2_rises_9 ?_
    refine lv_aload_n hx hb dX2_rises_12 rfl (lv_at hl 0 rfl) ?_
    refine getX hx hb hta inA2 hown hK hP 0 rfl rfl 0 (by decide) mw115 rfl rfl dX2_rises_13 ?_
    refine lv_iconst (v := nI 1) hx hb dX2_rises_16 (by decide) ?_
    refine isubN (a := kn) (b := 1) hx hb dX2_rises_17 (by omega) ?_
    refine ialdN hx hb hK hP 1 rfl (by omega) (by decide) dX2_rises_18 ?_
    refine icmpI_le (tgt := 41) hx hb dX2_rises_19 (by decide) (fun c_19 => ?_) (fun c_19 => ?_)
    · refine lv_iconst (v := nI 0) hx hb dX2_rises_41 (by decide) ?_
      exact rRz hx hb hr hlocks dX2_rises_42 (by first | (simp only [rsF, eq_false c_4, eq_false c_19, decide_true, decide_false, Bool.true_or, Bool.or_true, Bool.false_or, Bool.or_false, Bool.true_and, Bool.and_true, Bool.false_and, Bool.and_false, Bool.not_true, Bool.not_false, if_true, if_false, Bool.false_eq_true, and_true, true_and, and_false, false_and, or_true, true_or, or_false, false_or, not_true_eq_false, not_false_eq_true, bz]; done) | (simp only [rsF, eq_false c_4, eq_false c_19, decide_true, decide_false, Bool.true_or, Bool.or_true, Bool.false_or, Bool.or_false, Bool.true_and, Bool.and_true, Bool.false_and, Bool.and_false, Bool.not_true, Bool.not_false, if_true, if_false, Bool.false_eq_true, and_true, true_and, and_false, false_and, or_true, true_or, or_false, false_or, not_true_eq_false, not_false_eq_true, bz]; rfl))
    · refine lv_iload_n hx hb dX2_rises_22 rfl (lv_at hl 2 rfl) ?_
      refine lv_aload_n hx hb dX2_rises_23 rfl (lv_at hl 0 rfl) ?_
      refine getX hx hb hta inA2 hown hK hP 0 rfl rfl 2 (by decide) mw117 rfl rfl dX2_rises_24 ?_
      refine lv_aload_n hx hb dX2_rises_27 rfl (lv_at hl 0 rfl) ?_
      refine getX hx hb hta inA2 hown hK hP 0 rfl rfl 0 (by decide) mw115 rfl rfl dX2_rises_28 ?_
      refine lv_iconst (v := nI 1) hx hb dX2_rises_31 (by decide) ?_
      refine isubN (a := kn) (b := 1) hx hb dX2_rises_32 (by omega) ?_
      refine ialdN hx hb hK hP 2 rfl (by omega) (by decide) dX2_rises_33 ?_
      refine icmpI_lt (tgt := 41) hx hb dX2_rises_34 (by decide) (fun c_34 => ?_) (fun c_34 => ?_)
      · refine lv_iconst (v := nI 0) hx hb dX2_rises_41 (by decide) ?_
        exact rRz hx hb hr hlocks dX2_rises_42 (by first | (simp only [rsF, eq_false c_4, eq_true c_19, eq_true c_34, decide_true, decide_false, Bool.true_or, Bool.or_true, Bool.false_or, Bool.or_false, Bool.true_and, Bool.and_true, Bool.false_and, Bool.and_false, Bool.not_true, Bool.not_false, if_true, if_false, Bool.false_eq_true, and_true, true_and, and_false, false_and, or_true, true_or, or_false, false_or, not_true_eq_false, not_false_eq_true, bz]; done) | (simp only [rsF, eq_false c_4, eq_true c_19, eq_true c_34, decide_true, decide_false, Bool.true_or, Bool.or_true, Bool.false_or, Bool.or_false, Bool.true_and, Bool.and_true, Bool.false_and, Bool.and_false, Bool.not_true, Bool.not_false, if_true, if_false, Bool.false_eq_true, and_true, true_and, and_false, false_and, or_true, true_or, or_false, false_or, not_true_eq_false, not_false_eq_true, bz]; rfl))
      · refine lv_iconst (v := nI 1) hx hb dX2_rises_37 (by decide) ?_
        refine lv_goto (tgt := 42) hx hb dX2_rises_38 (by decide) ?_
        exact rRz hx hb hr hlocks dX2_rises_42 (by first | (simp only [rsF, eq_false c_4, eq_true c_19, eq_false c_34, decide_true, decide_false, Bool.true_or, Bool.or_true, Bool.false_or, Bool.or_false, Bool.true_and, Bool.and_true, Bool.false_and, Bool.and_false, Bool.not_true, Bool.not_false, if_true, if_false, Bool.false_eq_true, and_true, true_and, and_false, false_and, or_true, true_or, or_false, false_or, not_true_eq_false, not_false_eq_true, bz]; done) | (simp only [rsF, eq_false c_4, eq_true c_19, eq_false c_34, decide_true, decide_false, Bool.true_or, Bool.or_true, Bool.false_or, Bool.or_false, Bool.true_and, Bool.and_true, Bool.false_and, Bool.and_false, Bool.not_true, Bool.not_false, if_true, if_false, Bool.false_eq_true, and_true, true_and, and_false, false_and, or_true, true_or, or_false, false_or, not_true_eq_false, not_false_eq_true, bz]; rfl))
theorem k_X2_rises {p : Program} {l : Launch} {e : Env} {R : Room} {s : State} {m : MethodId} {args : Array Value} {below : List Frame} {meth : Method} {c : Code} {H : Heap} {locs : List Loc} {cells slots : Nat} {Q : State → Prop} {pc : Nat} {ls : Array Slot} {rest : List Value} {cc : ByteArray} {nL index Wd : Nat} {own : String} {D : va_G} {cI : ClassId} {A : Nat → Prop} {ws : va_W} (ea : Nat) (et : Nat) (es : Nat) (t0 : Int32) (u0 : Int32) (kn : Nat) (kt : Nat → Int32) (ks : Nat → Int32) (hkn : kn ≤ 6) (S : CallFix p m c cc nL s args WA own) (hl : Cond.methodLink own index yX2_rises ∈ WA) (hR : 0 + 1 ≤ R.frames ∧ Wd + (3 + 11) + 0 ≤ R.locals) (hK : KB D cI s) (hP : va_P D vwCl ws H) (hD : va_D A ws) (is : List Nat) (hs : is.map (fun i => ws[i]?) = ([(ea, .inr (2, [.int (nI kn), .ref et, .ref es])), (et, .inl (cI, 6, .inl kt)), (es, .inl (cI, 6, .inl ks))] : va_W).map some) (hnd : va_nd is = true) (hsz : ls.size = nL) (hW : (rest.map fun v => v.category).sum ≤ Wd) (hdg : decode cc pc = .ok (.invokevirtual index, 3)) (hcel : cells ≤ R.cells ∧ slots ≤ R.slots) (kk : W p l e R s m args below meth c H locs cells slots Q (F0 m (pc + 3) ls (.int (bz (rsF kn kt ks t0 u0)) :: rest))) : W p l e R s m args below meth c H locs cells slots Q (F0 m pc ls (.int u0 :: .int t0 :: .ref ea :: rest)) :=
  kRV (n := 2) (As := [.int t0, .int u0]) (ci := 2) S (c_X2_rises l D cI ea et es t0 u0 kn kt ks hkn) hl mw474 mw472 mw473 mw44 (by decide +kernel) hR rfl rfl rfl rfl hK hP hD is hs hnd hsz hW hdg hcel kk

set_option maxHeartbeats 4000000 in
set_option maxRecDepth 100000 in
theorem c_X2_add (l : Launch) (D : va_G) (cI : ClassId) (ea : Nat) (et : Nat) (es : Nat) (t0 : Int32) (u0 : Int32) (kn : Nat) (kt : Nat → Int32) (ks : Nat → Int32) (hkn : kn < 6) : CW l yX2_add (wm yX2_add cX2_add 3 (some .int)) 0 0 D cI [.ref ea, .int t0, .int u0] [(ea, .inr (2, [.int (nI kn), .ref et, .ref es])), (et, .inl (cI, 6, .inl kt)), (es, .inl (cI, 6, .inl ks))] (fun v w' => v = some (.int (nI (kn + 1))) ∧ w' = [(ea, .inr (2, [.int (nI (kn + 1)), .ref et, .ref es])), (et, .inl (cI, 6, .inl (upd kt kn t0))), (es, .inl (cI, 6, .inl (upd ks kn u0)))]) := by
  refine CW.of (by decide) (Nat.le_of_ble_eq_true rfl) ?_
  intro p e s m below meth c hx hb hr hml hown hlocks hta hP hD hK hS ls hl
  have hl : lv_has ls 3 [(0, .ref ea), (1, .int t0), (2, .int u0)] := hl
  have hP : va_P D vwCl [(ea, .inr (2, [.int (nI kn), .ref et, .ref es])), (et, .inl (cI, 6, .inl kt)), (es, .inl (cI, 6, .inl ks))] s.heap := hP
  refine lv_aload_n hx hb dX2_add_0 rfl (lv_at hl 0 rfl) ?_
  refine getX hx hb hta inA2 hown hK hP 0 rfl rfl 1 (by decide) mw116 rfl rfl dX2_add_1 ?_
  refine lv_aload_n hx hb dX2_add_4 rfl (lv_at hl 0 rfl) ?_
  refine getX hx hb hta inA2 hown hK hP 0 rfl rfl 0 (by decide) mw115 rfl rfl dX2_add_5 ?_
  refine lv_iload_n hx hb dX2_add_8 rfl (lv_at hl 1 rfl) ?_
  refine iastN hx hb hK hP hD hS 1 rfl (by omega) (by decide) dX2_add_9 (fun H locs hP hS => ?_)
  have hP : va_P D vwCl [(ea, .inr (2, [.int (nI kn), .ref et, .ref es])), (et, .inl (cI, 6, .inl (upd kt kn t0))), (es, .inl (cI, 6, .inl ks))] H := hP
  have hD : va_D (adrs [(ea, .inr (2, [.int (nI kn), .ref et, .ref es])), (et, .inl (cI, 6, .inl kt)), (es, .inl (cI, 6, .inl ks))]) [(ea, .inr (2, [.int (nI kn), .ref et, .ref es])), (et, .inl (cI, 6, .inl (upd kt kn t0))), (es, .inl (cI, 6, .inl ks))] := hD.same rfl
  refine lv_aload_n hx hb dX2_add_10 rfl (lv_at hl 0 rfl) ?_
  refine getX hx hb hta inA2 hown hK hP 0 rfl rfl 2 (by decide) mw117 rfl rfl dX2_add_11 ?_
  refine lv_aload_n hx hb dX2_add_14 rfl (lv_at hl 0 rfl) ?_
  refine getX hx hb hta inA2 hown hK hP 0 rfl rfl 0 (by decide) mw115 rfl rfl dX2_add_15 ?_
  refine lv_iload_n hx hb dX2_add_18 rfl (lv_at hl 2 rfl) ?_
  refine iastN hx hb hK hP hD hS 2 rfl (by omega) (by decide) dX2_add_19 (fun H locs hP hS => ?_)
  have hP : va_P D vwCl [(ea, .inr (2, [.int (nI kn), .ref et, .ref es])), (et, .inl (cI, 6, .inl (upd kt kn t0))), (es, .inl (cI, 6, .inl (upd ks kn u0)))] H := hP
  have hD : va_D (adrs [(ea, .inr (2, [.int (nI kn), .ref et, .ref es])), (et, .inl (cI, 6, .inl kt)), (es, .inl (cI, 6, .inl ks))]) [(ea, .inr (2, [.int (nI kn), .ref et, .ref es])), (et, .inl (cI, 6, .inl (upd kt kn t0))), (es, .inl (cI, 6, .inl (upd ks kn u0)))] := hD.same rfl
  refine lv_aload_n hx hb dX2_add_20 rfl (lv_at hl 0 rfl) ?_
  refine lv_dup hx hb dX2_add_21 rfl ?_
  refine getX hx hb hta inA2 hown hK hP 0 rfl rfl 0 (by decide) mw115 rfl rfl dX2_add_22 ?_
  refine lv_iconst (v := nI 1) hx hb dX2_add_25 (by decide) ?_
  refine iaddN (a := kn) (b := 1) hx hb dX2_add_26 ?_
  refine putX hx hb hta inA2 tyX2 tyX2_ok nmX2 hown hK hP hD hS 0 rfl rfl 0 (by decide) mw115 rfl rfl (ty := .int) rfl rfl rfl (Nat.le_of_ble_eq_true rfl) dX2_add_27 (fun H locs hP hS => ?_)
  have hP : va_P D vwCl [(ea, .inr (2, [.int (nI (kn + 1)), .ref et, .ref es])), (et, .inl (cI, 6, .inl (upd kt kn t0))), (es, .inl (cI, 6, .inl (upd ks kn u0)))] H := hP
  have hD : va_D (adrs [(ea, .inr (2, [.int (nI kn), .ref et, .ref es])), (et, .inl (cI, 6, .inl kt)), (es, .inl (cI, 6, .inl ks))]) [(ea, .inr (2, [.int (nI (kn + 1)), .ref et, .ref es])), (et, .inl (cI, 6, .inl (upd kt kn t0))), (es, .inl (cI, 6, .inl (upd ks kn u0)))] := hD.same rfl
  refine lv_aload_n hx hb dX2_add_30 rfl (lv_at hl 0 rfl) ?_
  refine getX hx hb hta inA2 hown hK hP 0 rfl rfl 0 (by decide) mw115 rfl rfl dX2_add_31 ?_
  exact rWi hx hb hr hlocks dX2_add_34 hP hS rfl ⟨rfl, rfl⟩
theorem k_X2_add {p : Program} {l : Launch} {e : Env} {R : Room} {s : State} {m : MethodId} {args : Array Value} {below : List Frame} {meth : Method} {c : Code} {H : Heap} {locs : List Loc} {cells slots : Nat} {Q : State → Prop} {pc : Nat} {ls : Array Slot} {rest : List Value} {cc : ByteArray} {nL index Wd : Nat} {own : String} {D : va_G} {cI : ClassId} {A : Nat → Prop} {ws : va_W} {H0 : Heap} (ea : Nat) (et : Nat) (es : Nat) (t0 : Int32) (u0 : Int32) (kn : Nat) (kt : Nat → Int32) (ks : Nat → Int32) (hkn : kn < 6) (S : CallFix p m c cc nL s args WA own) (hl : Cond.methodLink own index yX2_add ∈ WA) (hR : 0 + 1 ≤ R.frames ∧ Wd + (3 + 11) + 0 ≤ R.locals) (hK : KB D cI s) (hP : va_P D vwCl ws H) (hD : va_D A ws) (hS : va_S A H0 H locs) (is : List Nat) (hs : is.map (fun i => ws[i]?) = ([(ea, .inr (2, [.int (nI kn), .ref et, .ref es])), (et, .inl (cI, 6, .inl kt)), (es, .inl (cI, 6, .inl ks))] : va_W).map some) (hnd : va_nd is = true) (hsz : ls.size = nL) (hW : (rest.map fun v => v.category).sum ≤ Wd) (hdg : decode cc pc = .ok (.invokevirtual index, 3)) (hcel : cells ≤ R.cells ∧ slots ≤ R.slots) (kk : ∀ (H1 : Heap) (locs1 : List Loc), va_P D vwCl (rp ws is [(ea, .inr (2, [.int (nI (kn + 1)), .ref et, .ref es])), (et, .inl (cI, 6, .inl (upd kt kn t0))), (es, .inl (cI, 6, .inl (upd ks kn u0)))]) H1 → va_S A H0 H1 locs1 → W p l e R s m args below meth c H1 locs1 cells slots Q (F0 m (pc + 3) ls (.int (nI (kn + 1)) :: rest))) : W p l e R s m args below meth c H locs cells slots Q (F0 m pc ls (.int u0 :: .int t0 :: .ref ea :: rest)) :=
  kWV (n := 2) (As := [.int t0, .int u0]) (ci := 2) S (c_X2_add l D cI ea et es t0 u0 kn kt ks hkn) hl mw482 mw480 mw481 mw44 (by decide +kernel) hR rfl rfl rfl rfl hK hP hD hS is hs hnd hsz hW hdg hcel (fun v w' H1 locs1 hq h1 h2 => by obtain ⟨rfl, rfl⟩ := hq; exact kk  H1 locs1 h1 h2)

set_option maxHeartbeats 4000000 in
set_option maxRecDepth 100000 in
theorem c_X2_takeAway (l : Launch) (D : va_G) (cI : ClassId) (ea : Nat) (et : Nat) (es : Nat) (kn : Nat) (kt : Nat → Int32) (ks : Nat → Int32) : CW l yX2_takeAway (wm yX2_takeAway cX2_takeAway 2 (some .int)) 0 0 D cI [.ref ea] [(ea, .inr (2, [.int (nI kn), .ref et, .ref es])), (et, .inl (cI, 6, .inl kt)), (es, .inl (cI, 6, .inl ks))] (fun v w' => v = some (.int (nI kn)) ∧ w' = [(ea, .inr (2, [.int (nI 0), .ref et, .ref es])), (et, .inl (cI, 6, .inl kt)), (es, .inl (cI, 6, .inl ks))]) := by
  refine CW.of (by decide) (Nat.le_of_ble_eq_true rfl) ?_
  intro p e s m below meth c hx hb hr hml hown hlocks hta hP hD hK hS ls hl
  have hl : lv_has ls 2 [(0, .ref ea)] := hl
  have hP : va_P D vwCl [(ea, .inr (2, [.int (nI kn), .ref et, .ref es])), (et, .inl (cI, 6, .inl kt)), (es, .inl (cI, 6, .inl ks))] s.heap := hP
  refine lv_aload_n hx hb dX2_takeAway_0 rfl (lv_at hl 0 rfl) ?_
  refine getX hx hb hta inA2 hown hK hP 0 rfl rfl 0 (by decide) mw115 rfl rfl dX2_takeAway_1 ?_
  refine lv_istore_n (lv' := [(1, .int (nI kn)), (0, .ref ea)]) hx hb dX2_takeAway_4 rfl hl (by decide) rfl (fun ls hl => ?_)
  refine lv_aload_n hx hb dX2_takeAway_5 rfl (lv_at hl 1 rfl) ?_
  refine lv_iconst (v := nI 0) hx hb dX2_takeAway_6 (by decide) ?_
  refine putX hx hb hta inA2 tyX2 tyX2_ok nmX2 hown hK hP hD hS 0 rfl rfl 0 (by decide) mw115 rfl rfl (ty := .int) rfl rfl rfl (Nat.le_of_ble_eq_true rfl) dX2_takeAway_7 (fun H locs hP hS => ?_)
  have hP : va_P D vwCl [(ea, .inr (2, [.int (nI 0), .ref et, .ref es])), (et, .inl (cI, 6, .inl kt)), (es, .inl (cI, 6, .inl ks))] H := hP
  have hD : va_D (adrs [(ea, .inr (2, [.int (nI kn), .ref et, .ref es])), (et, .inl (cI, 6, .inl kt)), (es, .inl (cI, 6, .inl ks))]) [(ea, .inr (2, [.int (nI 0), .ref et, .ref es])), (et, .inl (cI, 6, .inl kt)), (es, .inl (cI, 6, .inl ks))] := hD.same rfl
  refine lv_iload_n hx hb dX2_takeAway_10 rfl (lv_at hl 0 rfl) ?_
  exact rWi hx hb hr hlocks dX2_takeAway_11 hP hS rfl ⟨rfl, rfl⟩
theorem k_X2_takeAway {p : Program} {l : Launch} {e : Env} {R : Room} {s : State} {m : MethodId} {args : Array Value} {below : List Frame} {meth : Method} {c : Code} {H : Heap} {locs : List Loc} {cells slots : Nat} {Q : State → Prop} {pc : Nat} {ls : Array Slot} {rest : List Value} {cc : ByteArray} {nL index Wd : Nat} {own : String} {D : va_G} {cI : ClassId} {A : Nat → Prop} {ws : va_W} {H0 : Heap} (ea : Nat) (et : Nat) (es : Nat) (kn : Nat) (kt : Nat → Int32) (ks : Nat → Int32) (S : CallFix p m c cc nL s args WA own) (hl : Cond.methodLink own index yX2_takeAway ∈ WA) (hR : 0 + 1 ≤ R.frames ∧ Wd + (2 + 11) + 0 ≤ R.locals) (hK : KB D cI s) (hP : va_P D vwCl ws H) (hD : va_D A ws) (hS : va_S A H0 H locs) (is : List Nat) (hs : is.map (fun i => ws[i]?) = ([(ea, .inr (2, [.int (nI kn), .ref et, .ref es])), (et, .inl (cI, 6, .inl kt)), (es, .inl (cI, 6, .inl ks))] : va_W).map some) (hnd : va_nd is = true) (hsz : ls.size = nL) (hW : (rest.map fun v => v.category).sum ≤ Wd) (hdg : decode cc pc = .ok (.invokevirtual index, 3)) (hcel : cells ≤ R.cells ∧ slots ≤ R.slots) (kk : ∀ (H1 : Heap) (locs1 : List Loc), va_P D vwCl (rp ws is [(ea, .inr (2, [.int (nI 0), .ref et, .ref es])), (et, .inl (cI, 6, .inl kt)), (es, .inl (cI, 6, .inl ks))]) H1 → va_S A H0 H1 locs1 → W p l e R s m args below meth c H1 locs1 cells slots Q (F0 m (pc + 3) ls (.int (nI kn) :: rest))) : W p l e R s m args below meth c H locs cells slots Q (F0 m pc ls (.ref ea :: rest)) :=
  kWV (n := 0) (As := []) (ci := 2) S (c_X2_takeAway l D cI ea et es kn kt ks ) hl mw502 mw500 mw501 mw44 (by decide +kernel) hR rfl rfl rfl rfl hK hP hD hS is hs hnd hsz hW hdg hcel (fun v w' H1 locs1 hq h1 h2 => by obtain ⟨rfl, rfl⟩ := hq; exact kk  H1 locs1 h1 h2)

set_option maxHeartbeats 4000000 in
set_option maxRecDepth 100000 in
theorem c_X2_shareBetween (l : Launch) (D : va_G) (cI : ClassId) (ea : Nat) (et : Nat) (es : Nat) (f0 : Nat) (g0 : Nat) (t0 : Int32) (kn : Nat) (kt : Nat → Int32) (ks : Nat → Int32) (hf0 : f0 < 6) (hg0 : g0 < 6) (hne : ¬ kt g0 - kt f0 = 0) : CR l yX2_shareBetween (wm yX2_shareBetween cX2_shareBetween 5 (some .int)) 0 0 D cI [.ref ea, .int (nI f0), .int (nI g0), .int t0] [(ea, .inr (2, [.int (nI kn), .ref et, .ref es])), (et, .inl (cI, 6, .inl kt)), (es, .inl (cI, 6, .inl ks))] (some (.int (shB kt ks f0 g0 t0))) := by
  refine CR.of (by decide) (Nat.le_of_ble_eq_true rfl) ?_
  intro p e s m below meth c hx hb hr hml hown hlocks hta hP hD hK ls hl
  have hl : lv_has ls 5 [(0, .ref ea), (1, .int (nI f0)), (2, .int (nI g0)), (3, .int t0)] := hl
  have hP : va_P D vwCl [(ea, .inr (2, [.int (nI kn), .ref et, .ref es])), (et, .inl (cI, 6, .inl kt)), (es, .inl (cI, 6, .inl ks))] s.heap := hP
  refine lv_aload_n hx hb dX2_shareBetween_0 rfl (lv_at hl 0 rfl) ?_
  refine getX hx hb hta inA2 hown hK hP 0 rfl rfl 2 (by decide) mw117 rfl rfl dX2_shareBetween_1 ?_
  refine lv_iload_n hx hb dX2_shareBetween_4 rfl (lv_at hl 2 rfl) ?_
  refine ialdN hx hb hK hP 2 rfl (by omega) (by decide) dX2_shareBetween_5 ?_
  refine lv_aload_n hx hb dX2_shareBetween_6 rfl (lv_at hl 0 rfl) ?_
  refine getX hx hb hta inA2 hown hK hP 0 rfl rfl 2 (by decide) mw117 rfl rfl dX2_shareBetween_7 ?_
  refine lv_iload_n hx hb dX2_shareBetween_10 rfl (lv_at hl 1 rfl) ?_
  refine ialdN hx hb hK hP 2 rfl (by omega) (by decide) dX2_shareBetween_11 ?_
  refine lv_isub hx hb dX2_shareBetween_12 ?_
  refine lv_istore (lv' := [(4, .int ((ks g0) - (ks f0))), (0, .ref ea), (1, .int (nI f0)), (2, .int (nI g0)), (3, .int t0)]) hx hb dX2_shareBetween_13 hl (by decide) rfl (fun ls hl => ?_)
  refine lv_aload_n hx hb dX2_shareBetween_15 rfl (lv_at hl 1 rfl) ?_
  refine getX hx hb hta inA2 hown hK hP 0 rfl rfl 2 (by decide) mw117 rfl rfl dX2_shareBetween_16 ?_
  refine lv_iload_n hx hb dX2_shareBetween_19 rfl (lv_at hl 2 rfl) ?_
  refine ialdN hx hb hK hP 2 rfl (by omega) (by decide) dX2_shareBetween_20 ?_
  refine lv_iload hx hb dX2_shareBetween_21 (lv_at hl 0 rfl) ?_
  refine lv_iload_n hx hb dX2_shareBetween_23 rfl (lv_at hl 4 rfl) ?_
  refine lv_aload_n hx hb dX2_shareBetween_24 rfl (lv_at hl 1 rfl) ?_
  refine getX hx hb hta inA2 hown hK hP 0 rfl rfl 1 (by decide) mw116 rfl rfl dX2_shareBetween_25 ?_
  refine lv_iload_n hx hb dX2_shareBetween_28 rfl (lv_at hl 2 rfl) ?_
  refine ialdN hx hb hK hP 1 rfl (by omega) (by decide) dX2_shareBetween_29 ?_
  refine lv_isub hx hb dX2_shareBetween_30 ?_
  refine lv_imul hx hb dX2_shareBetween_31 ?_
  refine lv_aload_n hx hb dX2_shareBetween_32 rfl (lv_at hl 1 rfl) ?_
  refine getX hx hb hta inA2 hown hK hP 0 rfl rfl 1 (by decide) mw116 rfl rfl dX2_shareBetween_33 ?_
  refine lv_iload_n hx hb dX2_shareBetween_36 rfl (lv_at hl 3 rfl) ?_
  refine ialdN hx hb hK hP 1 rfl (by omega) (by decide) dX2_shareBetween_37 ?_
  refine lv_aload_n hx hb dX2_shareBetween_38 rfl (lv_at hl 1 rfl) ?_
  refine getX hx hb hta inA2 hown hK hP 0 rfl rfl 1 (by decide) mw116 rfl rfl dX2_shareBetween_39 ?_
  refine lv_iload_n hx hb dX2_shareBetween_42 rfl (lv_at hl 2 rfl) ?_
  refine ialdN hx hb hK hP 1 rfl (by omega) (by decide) dX2_shareBetween_43 ?_
  refine lv_isub hx hb dX2_shareBetween_44 ?_
  refine lv_idiv hx hb dX2_shareBetween_45 hne ?_
  refine lv_iadd hx hb dX2_shareBetween_46 ?_
  exact rRi hx hb hr hlocks dX2_shareBetween_47 rfl
theorem k_X2_shareBetween {p : Program} {l : Launch} {e : Env} {R : Room} {s : State} {m : MethodId} {args : Array Value} {below : List Frame} {meth : Method} {c : Code} {H : Heap} {locs : List Loc} {cells slots : Nat} {Q : State → Prop} {pc : Nat} {ls : Array Slot} {rest : List Value} {cc : ByteArray} {nL index Wd : Nat} {own : String} {D : va_G} {cI : ClassId} {A : Nat → Prop} {ws : va_W} (ea : Nat) (et : Nat) (es : Nat) (f0 : Nat) (g0 : Nat) (t0 : Int32) (kn : Nat) (kt : Nat → Int32) (ks : Nat → Int32) (hf0 : f0 < 6) (hg0 : g0 < 6) (hne : ¬ kt g0 - kt f0 = 0) (S : CallFix p m c cc nL s args WA own) (hl : Cond.methodLink own index yX2_shareBetween ∈ WA) (hR : 0 + 1 ≤ R.frames ∧ Wd + (5 + 11) + 0 ≤ R.locals) (hK : KB D cI s) (hP : va_P D vwCl ws H) (hD : va_D A ws) (is : List Nat) (hs : is.map (fun i => ws[i]?) = ([(ea, .inr (2, [.int (nI kn), .ref et, .ref es])), (et, .inl (cI, 6, .inl kt)), (es, .inl (cI, 6, .inl ks))] : va_W).map some) (hnd : va_nd is = true) (hsz : ls.size = nL) (hW : (rest.map fun v => v.category).sum ≤ Wd) (hdg : decode cc pc = .ok (.invokevirtual index, 3)) (hcel : cells ≤ R.cells ∧ slots ≤ R.slots) (kk : W p l e R s m args below meth c H locs cells slots Q (F0 m (pc + 3) ls (.int (shB kt ks f0 g0 t0) :: rest))) : W p l e R s m args below meth c H locs cells slots Q (F0 m pc ls (.int t0 :: .int (nI g0) :: .int (nI f0) :: .ref ea :: rest)) :=
  kRV (n := 3) (As := [.int (nI f0), .int (nI g0), .int t0]) (ci := 2) S (c_X2_shareBetween l D cI ea et es f0 g0 t0 kn kt ks hf0 hg0 hne) hl mw494 mw493 mw3 mw44 (by decide +kernel) hR rfl rfl rfl rfl hK hP hD is hs hnd hsz hW hdg hcel kk

set_option maxHeartbeats 4000000 in
set_option maxRecDepth 100000 in
theorem c_X2_shareAt (l : Launch) (D : va_G) (cI : ClassId) (ea : Nat) (et : Nat) (es : Nat) (t0 : Int32) (kn : Nat) (kt : Nat → Int32) (ks : Nat → Int32) (hkn : kn ≤ 6) (hkt : ∀ i, 0 < i → i < kn → ¬ kt i - kt (i - 1) = 0) : CR l yX2_shareAt (wm yX2_shareAt cX2_shareAt 3 (some .int)) 1 16 D cI [.ref ea, .int t0] [(ea, .inr (2, [.int (nI kn), .ref et, .ref es])), (et, .inl (cI, 6, .inl kt)), (es, .inl (cI, 6, .inl ks))] (some (.int (shA kn kt ks t0))) := by
  refine CR.of (by decide) (Nat.le_of_ble_eq_true rfl) ?_
  intro p e s m below meth c hx hb hr hml hown hlocks hta hP hD hK ls hl
  have hl : lv_has ls 3 [(0, .ref ea), (1, .int t0)] := hl
  have hP : va_P D vwCl [(ea, .inr (2, [.int (nI kn), .ref et, .ref es])), (et, .inl (cI, 6, .inl kt)), (es, .inl (cI, 6, .inl ks))] s.heap := hP
  refine lv_aload_n hx hb dX2_shareAt_0 rfl (lv_at hl 0 rfl) ?_
  refine getX hx hb hta inA2 hown hK hP 0 rfl rfl 0 (by decide) mw115 rfl rfl dX2_shareAt_1 ?_
  refine ifN_ne (tgt := 9) hx hb dX2_shareAt_4 (by decide) (by omega) (fun c_4 => ?_) (fun c_4 => ?_)
  · refine lv_iload_n hx hb dX2_shareAt_9 rfl (lv_at hl 1 rfl) ?_
    refine lv_aload_n hx hb dX2_shareAt_10 rfl (lv_at hl 0 rfl) ?_
    refine getX hx hb hta inA2 hown hK hP 0 rfl rfl 1 (by decide) mw116 rfl rfl dX2_shareAt_11 ?_
    refine lv_iconst (v := nI 0) hx hb dX2_shareAt_14 (by decide) ?_
    refine ialdN hx hb hK hP 1 rfl (by omega) (by decide) dX2_shareAt_15 ?_
    refine icmpI_ge (tgt := 26) hx hb dX2_shareAt_16 (by decide) (fun c_16 => ?_) (fun c_16 => ?_)
    · refine lv_iconst (v := nI 1) hx hb dX2_shareAt_26 (by decide) ?_
      refine lv_istore_n (lv' := [(2, .int (nI 1)), (0, .ref ea), (1, .int t0)]) hx hb dX2_shareAt_27 rfl hl (by decide) rfl (fun ls hl => ?_)
      have loop_28 : ∀ (r : Nat) (k : Nat), (k + r = kn) → (1 ≤ k) → (shF kn kt ks t0 1 (kn - 1) = shF kn kt ks t0 k r) → ∀ ls : Array Slot, lv_has ls 3 [(2, .int (nI k)), (0, .ref ea), (1, .int t0)] → W p l e (rmZ 1 16) s m ([.ref ea, .int t0] : List Value).toArray below meth c s.heap [] 0 0 (MQ below (QR (some (.int (shA kn kt ks t0)))) ([.ref ea, .int t0] : List Value).toArray s 0 0 (fun _ => False)) (F0 m 28 ls []) := by
        intro r
        induction r with
        | zero =>
          intro k ix_k hk1 hA ls hl
          refine lv_iload_n hx hb dX2_shareAt_28 rfl (lv_at hl 0 rfl) ?_
          refine lv_aload_n hx hb dX2_shareAt_29 rfl (lv_at hl 1 rfl) ?_
          refine getX hx hb hta inA2 hown hK hP 0 rfl rfl 0 (by decide) mw115 rfl rfl dX2_shareAt_30 ?_
          refine icmpN_ge (tgt := 62) hx hb dX2_shareAt_33 (by decide) (by omega) (by omega) (fun c_33 => ?_) (fun c_33 => ?_)
          · refine lv_aload_n hx hb dX2_shareAt_62 rfl (lv_at hl 1 rfl) ?_
            refine getX hx hb hta inA2 hown hK hP 0 rfl rfl 2 (by decide) mw117 rfl rfl dX2_shareAt_63 ?_
            refine lv_aload_n hx hb dX2_shareAt_66 rfl (lv_at hl 1 rfl) ?_
            refine getX hx hb hta inA2 hown hK hP 0 rfl rfl 0 (by decide) mw115 rfl rfl dX2_shareAt_67 ?_
            refine lv_iconst (v := nI 1) hx hb dX2_shareAt_70 (by decide) ?_
            refine isubN (a := kn) (b := 1) hx hb dX2_shareAt_71 (by omega) ?_
            refine ialdN hx hb hK hP 2 rfl (by omega) (by decide) dX2_shareAt_72 ?_
            exact rRi hx hb hr hlocks dX2_shareAt_73 ((show shA kn kt ks t0 = _ by simp only [shA, eq_false c_4, eq_false c_16, eq_false c_33, if_false]; exact hA.trans (by first | (simp only [shF, eq_false c_4, eq_false c_16, eq_false c_33, decide_true, decide_false, Bool.true_or, Bool.or_true, Bool.false_or, Bool.or_false, Bool.true_and, Bool.and_true, Bool.false_and, Bool.and_false, Bool.not_true, Bool.not_false, if_true, if_false, Bool.false_eq_true, and_true, true_and, and_false, false_and, or_true, true_or, or_false, false_or, not_true_eq_false, not_false_eq_true, bz]; done) | (simp only [shF, eq_false c_4, eq_false c_16, eq_false c_33, decide_true, decide_false, Bool.true_or, Bool.or_true, Bool.false_or, Bool.or_false, Bool.true_and, Bool.and_true, Bool.false_and, Bool.and_false, Bool.not_true, Bool.not_false, if_true, if_false, Bool.false_eq_true, and_true, true_and, and_false, false_and, or_true, true_or, or_false, false_or, not_true_eq_false, not_false_eq_true, bz]; rfl))).symm)
          · exact (by omega : False).elim
        | succ r ih_28 =>
          intro k ix_k hk1 hA ls hl
          refine lv_iload_n hx hb dX2_shareAt_28 rfl (lv_at hl 0 rfl) ?_
          refine lv_aload_n hx hb dX2_shareAt_29 rfl (lv_at hl 1 rfl) ?_
          refine getX hx hb hta inA2 hown hK hP 0 rfl rfl 0 (by decide) mw115 rfl rfl dX2_shareAt_30 ?_
          refine icmpN_ge (tgt := 62) hx hb dX2_shareAt_33 (by decide) (by omega) (by omega) (fun c_33 => ?_) (fun c_33 => ?_)
          · exact (by omega : False).elim
          · refine lv_iload_n hx hb dX2_shareAt_36 rfl (lv_at hl 2 rfl) ?_
            refine lv_aload_n hx hb dX2_shareAt_37 rfl (lv_at hl 1 rfl) ?_
            refine getX hx hb hta inA2 hown hK hP 0 rfl rfl 1 (by decide) mw116 rfl rfl dX2_shareAt_38 ?_
            refine lv_iload_n hx hb dX2_shareAt_41 rfl (lv_at hl 0 rfl) ?_
            refine ialdN hx hb hK hP 1 rfl (by omega) (by decide) dX2_shareAt_42 ?_
            refine icmpI_ge (tgt := 56) hx hb dX2_shareAt_43 (by decide) (fun c_43 => ?_) (fun c_43 => ?_)
            · refine lv_iinc (v := nI (k + 1)) (lv' := [(2, .int (nI (k + 1))), (0, .ref ea), (1, .int t0)]) hx hb dX2_shareAt_56 hl (k := 0) rfl (nI_inc1 _) (by decide) rfl (fun ls hl => ?_)
              refine lv_goto (tgt := 28) hx hb dX2_shareAt_59 (by decide) ?_
              exact ih_28 (k + 1) (by omega) (by omega) (hA.trans (by first | (simp only [shF, eq_false c_4, eq_false c_16, eq_true c_33, eq_false c_43, decide_true, decide_false, Bool.true_or, Bool.or_true, Bool.false_or, Bool.or_false, Bool.true_and, Bool.and_true, Bool.false_and, Bool.and_false, Bool.not_true, Bool.not_false, if_true, if_false, Bool.false_eq_true, and_true, true_and, and_false, false_and, or_true, true_or, or_false, false_or, not_true_eq_false, not_false_eq_true, bz]; done) | (simp only [shF, eq_false c_4, eq_false c_16, eq_true c_33, eq_false c_43, decide_true, decide_false, Bool.true_or, Bool.or_true, Bool.false_or, Bool.or_false, Bool.true_and, Bool.and_true, Bool.false_and, Bool.and_false, Bool.not_true, Bool.not_false, if_true, if_false, Bool.false_eq_true, and_true, true_and, and_false, false_and, or_true, true_or, or_false, false_or, not_true_eq_false, not_false_eq_true, bz]; rfl))) ls (lv_sub hl [0, 1, 2] rfl)
            · refine lv_aload_n hx hb dX2_shareAt_46 rfl (lv_at hl 1 rfl) ?_
              refine lv_iload_n hx hb dX2_shareAt_47 rfl (lv_at hl 0 rfl) ?_
              refine lv_iconst (v := nI 1) hx hb dX2_shareAt_48 (by decide) ?_
              refine isubN (a := k) (b := 1) hx hb dX2_shareAt_49 (by omega) ?_
              refine lv_iload_n hx hb dX2_shareAt_50 rfl (lv_at hl 0 rfl) ?_
              refine lv_iload_n hx hb dX2_shareAt_51 rfl (lv_at hl 2 rfl) ?_
              refine k_X2_shareBetween (Wd := 0) ea et es (k - 1) k t0 kn kt ks (by omega) (by omega) (hkt _ (by omega) (by omega)) ⟨hx, hb, hml, hown, hta⟩ mw491 ⟨Nat.le_of_ble_eq_true rfl, Nat.le_of_ble_eq_true rfl⟩ hK hP hD [0, 1, 2] rfl rfl hl.1 (Nat.le_of_ble_eq_true rfl) dX2_shareAt_52 ⟨Nat.le_of_ble_eq_true rfl, Nat.le_of_ble_eq_true rfl⟩ ?_
              exact rRi hx hb hr hlocks dX2_shareAt_55 ((show shA kn kt ks t0 = _ by simp only [shA, eq_false c_4, eq_false c_16, eq_true c_33, eq_true c_43, if_false]; exact hA.trans (by first | (simp only [shF, eq_false c_4, eq_false c_16, eq_true c_33, eq_true c_43, decide_true, decide_false, Bool.true_or, Bool.or_true, Bool.false_or, Bool.or_false, Bool.true_and, Bool.and_true, Bool.false_and, Bool.and_false, Bool.not_true, Bool.not_false, if_true, if_false, Bool.false_eq_true, and_true, true_and, and_false, false_and, or_true, true_or, or_false, false_or, not_true_eq_false, not_false_eq_true, bz]; done) | (simp only [shF, eq_false c_4, eq_false c_16, eq_true c_33, eq_true c_43, decide_true, decide_false, Bool.true_or, Bool.or_true, Bool.false_or, Bool.or_false, Bool.true_and, Bool.and_true, Bool.false_and, Bool.and_false, Bool.not_true, Bool.not_false, if_true, if_false, Bool.false_eq_true, and_true, true_and, and_false, false_and, or_true, true_or, or_false, false_or, not_true_eq_false, not_false_eq_true, bz]; rfl))).symm)
      exact loop_28 (kn - 1) 1 (by omega) (by omega) rfl ls (lv_sub hl [0, 1, 2] rfl)
    · refine lv_aload_n hx hb dX2_shareAt_19 rfl (lv_at hl 0 rfl) ?_
      refine getX hx hb hta inA2 hown hK hP 0 rfl rfl 2 (by decide) mw117 rfl rfl dX2_shareAt_20 ?_
      refine lv_iconst (v := nI 0) hx hb dX2_shareAt_23 (by decide) ?_
      refine ialdN hx hb hK hP 2 rfl (by omega) (by decide) dX2_shareAt_24 ?_
      exact rRi hx hb hr hlocks dX2_shareAt_25 (by first | (simp only [shA, eq_false c_4, eq_true c_16, decide_true, decide_false, Bool.true_or, Bool.or_true, Bool.false_or, Bool.or_false, Bool.true_and, Bool.and_true, Bool.false_and, Bool.and_false, Bool.not_true, Bool.not_false, if_true, if_false, Bool.false_eq_true, and_true, true_and, and_false, false_and, or_true, true_or, or_false, false_or, not_true_eq_false, not_false_eq_true, bz]; done) | (simp only [shA, eq_false c_4, eq_true c_16, decide_true, decide_false, Bool.true_or, Bool.or_true, Bool.false_or, Bool.or_false, Bool.true_and, Bool.and_true, Bool.false_and, Bool.and_false, Bool.not_true, Bool.not_false, if_true, if_false, Bool.false_eq_true, and_true, true_and, and_false, false_and, or_true, true_or, or_false, false_or, not_true_eq_false, not_false_eq_true, bz]; rfl))
  · refine lv_iload_n hx hb dX2_shareAt_7 rfl (lv_at hl 1 rfl) ?_
    exact rRi hx hb hr hlocks dX2_shareAt_8 (by first | (simp only [shA, eq_true c_4, decide_true, decide_false, Bool.true_or, Bool.or_true, Bool.false_or, Bool.or_false, Bool.true_and, Bool.and_true, Bool.false_and, Bool.and_false, Bool.not_true, Bool.not_false, if_true, if_false, Bool.false_eq_true, and_true, true_and, and_false, false_and, or_true, true_or, or_false, false_or, not_true_eq_false, not_false_eq_true, bz]; done) | (simp only [shA, eq_true c_4, decide_true, decide_false, Bool.true_or, Bool.or_true, Bool.false_or, Bool.or_false, Bool.true_and, Bool.and_true, Bool.false_and, Bool.and_false, Bool.not_true, Bool.not_false, if_true, if_false, Bool.false_eq_true, and_true, true_and, and_false, false_and, or_true, true_or, or_false, false_or, not_true_eq_false, not_false_eq_true, bz]; rfl))
theorem k_X2_shareAt {p : Program} {l : Launch} {e : Env} {R : Room} {s : State} {m : MethodId} {args : Array Value} {below : List Frame} {meth : Method} {c : Code} {H : Heap} {locs : List Loc} {cells slots : Nat} {Q : State → Prop} {pc : Nat} {ls : Array Slot} {rest : List Value} {cc : ByteArray} {nL index Wd : Nat} {own : String} {D : va_G} {cI : ClassId} {A : Nat → Prop} {ws : va_W} (ea : Nat) (et : Nat) (es : Nat) (t0 : Int32) (kn : Nat) (kt : Nat → Int32) (ks : Nat → Int32) (hkn : kn ≤ 6) (hkt : ∀ i, 0 < i → i < kn → ¬ kt i - kt (i - 1) = 0) (S : CallFix p m c cc nL s args WA own) (hl : Cond.methodLink own index yX2_shareAt ∈ WA) (hR : 1 + 1 ≤ R.frames ∧ Wd + (3 + 11) + 16 ≤ R.locals) (hK : KB D cI s) (hP : va_P D vwCl ws H) (hD : va_D A ws) (is : List Nat) (hs : is.map (fun i => ws[i]?) = ([(ea, .inr (2, [.int (nI kn), .ref et, .ref es])), (et, .inl (cI, 6, .inl kt)), (es, .inl (cI, 6, .inl ks))] : va_W).map some) (hnd : va_nd is = true) (hsz : ls.size = nL) (hW : (rest.map fun v => v.category).sum ≤ Wd) (hdg : decode cc pc = .ok (.invokevirtual index, 3)) (hcel : cells ≤ R.cells ∧ slots ≤ R.slots) (kk : W p l e R s m args below meth c H locs cells slots Q (F0 m (pc + 3) ls (.int (shA kn kt ks t0) :: rest))) : W p l e R s m args below meth c H locs cells slots Q (F0 m pc ls (.int t0 :: .ref ea :: rest)) :=
  kRV (n := 1) (As := [.int t0]) (ci := 2) S (c_X2_shareAt l D cI ea et es t0 kn kt ks hkn hkt) hl mw490 mw488 mw489 mw44 (by decide +kernel) hR rfl rfl rfl rfl hK hP hD is hs hnd hsz hW hdg hcel kk

set_option maxHeartbeats 4000000 in
set_option maxRecDepth 100000 in
theorem c_X5_isSize (l : Launch) (D : va_G) (cI : ClassId) (w0 : Int32) (h0 : Int32) : CR l yX5_isSize (wm yX5_isSize cX5_isSize 2 (some .boolean)) 1 22 D cI [.int w0, .int h0] [] (some (.int (bz (inR w0 (nI 1) (nI 12) && inR h0 (nI 1) (nI 12))))) := by
  refine CR.of (by decide) (Nat.le_of_ble_eq_true rfl) ?_
  intro p e s m below meth c hx hb hr hml hown hlocks hta hP hD hK ls hl
  have hl : lv_has ls 2 [(0, .int w0), (1, .int h0)] := hl
  have hP : va_P D vwCl [] s.heap := hP
  refine lv_iload_n hx hb dX5_isSize_0 rfl (lv_at hl 0 rfl) ?_
  refine lv_iconst (v := nI 1) hx hb dX5_isSize_1 (by decide) ?_
  refine lv_bipush (v := nI 12) hx hb dX5_isSize_2 (by decide) ?_
  refine kn_X8_isWithin w0 (nI 1) (nI 12)  ⟨hx, hb, hml, hown, hta⟩ hK.2.2.2.2.2.1 ⟨Nat.le_of_ble_eq_true rfl, Nat.le_of_ble_eq_true rfl⟩ hK hl.1 (Nat.le_of_ble_eq_true rfl) dX5_isSize_4 ⟨Nat.le_of_ble_eq_true rfl, Nat.le_of_ble_eq_true rfl⟩ ?_
  refine ifB_eq (tgt := 24) hx hb dX5_isSize_7 (by decide) (fun c_7 => ?_) (fun c_7 => ?_)
  · refine lv_iconst (v := nI 0) hx hb dX5_isSize_24 (by decide) ?_
    exact rRz hx hb hr hlocks dX5_isSize_25 (by first | (simp only [bz, c_7, decide_true, decide_false, Bool.true_or, Bool.or_true, Bool.false_or, Bool.or_false, Bool.true_and, Bool.and_true, Bool.false_and, Bool.and_false, Bool.not_true, Bool.not_false, if_true, if_false, Bool.false_eq_true, and_true, true_and, and_false, false_and, or_true, true_or, or_false, false_or, not_true_eq_false, not_false_eq_true, bz]; done) | (simp only [bz, c_7, decide_true, decide_false, Bool.true_or, Bool.or_true, Bool.false_or, Bool.or_false, Bool.true_and, Bool.and_true, Bool.false_and, Bool.and_false, Bool.not_true, Bool.not_false, if_true, if_false, Bool.false_eq_true, and_true, true_and, and_false, false_and, or_true, true_or, or_false, false_or, not_true_eq_false, not_false_eq_true, bz]; rfl))
  · refine lv_iload_n hx hb dX5_isSize_10 rfl (lv_at hl 1 rfl) ?_
    refine lv_iconst (v := nI 1) hx hb dX5_isSize_11 (by decide) ?_
    refine lv_bipush (v := nI 12) hx hb dX5_isSize_12 (by decide) ?_
    refine kn_X8_isWithin h0 (nI 1) (nI 12)  ⟨hx, hb, hml, hown, hta⟩ hK.2.2.2.2.2.1 ⟨Nat.le_of_ble_eq_true rfl, Nat.le_of_ble_eq_true rfl⟩ hK hl.1 (Nat.le_of_ble_eq_true rfl) dX5_isSize_14 ⟨Nat.le_of_ble_eq_true rfl, Nat.le_of_ble_eq_true rfl⟩ ?_
    refine ifB_eq (tgt := 24) hx hb dX5_isSize_17 (by decide) (fun c_17 => ?_) (fun c_17 => ?_)
    · refine lv_iconst (v := nI 0) hx hb dX5_isSize_24 (by decide) ?_
      exact rRz hx hb hr hlocks dX5_isSize_25 (by first | (simp only [bz, c_7, c_17, decide_true, decide_false, Bool.true_or, Bool.or_true, Bool.false_or, Bool.or_false, Bool.true_and, Bool.and_true, Bool.false_and, Bool.and_false, Bool.not_true, Bool.not_false, if_true, if_false, Bool.false_eq_true, and_true, true_and, and_false, false_and, or_true, true_or, or_false, false_or, not_true_eq_false, not_false_eq_true, bz]; done) | (simp only [bz, c_7, c_17, decide_true, decide_false, Bool.true_or, Bool.or_true, Bool.false_or, Bool.or_false, Bool.true_and, Bool.and_true, Bool.false_and, Bool.and_false, Bool.not_true, Bool.not_false, if_true, if_false, Bool.false_eq_true, and_true, true_and, and_false, false_and, or_true, true_or, or_false, false_or, not_true_eq_false, not_false_eq_true, bz]; rfl))
    · refine lv_iconst (v := nI 1) hx hb dX5_isSize_20 (by decide) ?_
      refine lv_goto (tgt := 25) hx hb dX5_isSize_21 (by decide) ?_
      exact rRz hx hb hr hlocks dX5_isSize_25 (by first | (simp only [bz, c_7, c_17, decide_true, decide_false, Bool.true_or, Bool.or_true, Bool.false_or, Bool.or_false, Bool.true_and, Bool.and_true, Bool.false_and, Bool.and_false, Bool.not_true, Bool.not_false, if_true, if_false, Bool.false_eq_true, and_true, true_and, and_false, false_and, or_true, true_or, or_false, false_or, not_true_eq_false, not_false_eq_true, bz]; done) | (simp only [bz, c_7, c_17, decide_true, decide_false, Bool.true_or, Bool.or_true, Bool.false_or, Bool.or_false, Bool.true_and, Bool.and_true, Bool.false_and, Bool.and_false, Bool.not_true, Bool.not_false, if_true, if_false, Bool.false_eq_true, and_true, true_and, and_false, false_and, or_true, true_or, or_false, false_or, not_true_eq_false, not_false_eq_true, bz]; rfl))
theorem k_X5_isSize {p : Program} {l : Launch} {e : Env} {R : Room} {s : State} {m : MethodId} {args : Array Value} {below : List Frame} {meth : Method} {c : Code} {H : Heap} {locs : List Loc} {cells slots : Nat} {Q : State → Prop} {pc : Nat} {ls : Array Slot} {rest : List Value} {cc : ByteArray} {nL index Wd : Nat} {own : String} {D : va_G} {cI : ClassId} (w0 : Int32) (h0 : Int32) (S : CallFix p m c cc nL s args WA own) (hl : Cond.methodLink own index yX5_isSize ∈ WA) (hR : 1 + 1 ≤ R.frames ∧ Wd + (2 + 11) + 22 ≤ R.locals) (hK : KB D cI s) (hsz : ls.size = nL) (hW : (rest.map fun v => v.category).sum ≤ Wd) (hdg : decode cc pc = .ok (.invokestatic index, 3)) (hcel : cells ≤ R.cells ∧ slots ≤ R.slots) (kk : W p l e R s m args below meth c H locs cells slots Q (F0 m (pc + 3) ls (.int (bz (inR w0 (nI 1) (nI 12) && inR h0 (nI 1) (nI 12))) :: rest))) : W p l e R s m args below meth c H locs cells slots Q (F0 m pc ls (.int h0 :: .int w0 :: rest)) :=
  kRS (n := 2) (As := [.int w0, .int h0]) S (c_X5_isSize l D cI w0 h0 ) hl mw543 mw542 mw46 (by decide +kernel) hR rfl hK hsz hW hdg hcel kk

set_option maxHeartbeats 4000000 in
set_option maxRecDepth 100000 in
theorem c_X5_isTold (l : Launch) (D : va_G) (cI : ClassId) (pi : Nat) (piw : Nat) (pih : Nat) (pin : Nat) (q0 : Nat) (wd : Nat → Int32) (hg : Nat → Int32) (nb : Nat → Int32) (hq0 : q0 < 2) : CR l yX5_isTold (wm yX5_isTold cX5_isTold 2 (some .boolean)) 0 0 D cI [.ref pi, .int (nI q0)] [(pi, .inr (5, [.ref piw, .ref pih, .ref pin])), (piw, .inl (cI, 2, .inl wd)), (pih, .inl (cI, 2, .inl hg)), (pin, .inl (cI, 288, .inl nb))] (some (.int (bz (decide (0 < wd q0))))) := by
  refine CR.of (by decide) (Nat.le_of_ble_eq_true rfl) ?_
  intro p e s m below meth c hx hb hr hml hown hlocks hta hP hD hK ls hl
  have hl : lv_has ls 2 [(0, .ref pi), (1, .int (nI q0))] := hl
  have hP : va_P D vwCl [(pi, .inr (5, [.ref piw, .ref pih, .ref pin])), (piw, .inl (cI, 2, .inl wd)), (pih, .inl (cI, 2, .inl hg)), (pin, .inl (cI, 288, .inl nb))] s.heap := hP
  refine lv_aload_n hx hb dX5_isTold_0 rfl (lv_at hl 0 rfl) ?_
  refine getX hx hb hta inA5 hown hK hP 0 rfl rfl 0 (by decide) mw160 rfl rfl dX5_isTold_1 ?_
  refine lv_iload_n hx hb dX5_isTold_4 rfl (lv_at hl 1 rfl) ?_
  refine ialdN hx hb hK hP 1 rfl (by omega) (by decide) dX5_isTold_5 ?_
  refine ifI_le (tgt := 13) hx hb dX5_isTold_6 (by decide) (fun c_6 => ?_) (fun c_6 => ?_)
  · refine lv_iconst (v := nI 0) hx hb dX5_isTold_13 (by decide) ?_
    exact rRz hx hb hr hlocks dX5_isTold_14 (by first | (simp only [bz, eq_false c_6, decide_true, decide_false, Bool.true_or, Bool.or_true, Bool.false_or, Bool.or_false, Bool.true_and, Bool.and_true, Bool.false_and, Bool.and_false, Bool.not_true, Bool.not_false, if_true, if_false, Bool.false_eq_true, and_true, true_and, and_false, false_and, or_true, true_or, or_false, false_or, not_true_eq_false, not_false_eq_true, bz]; done) | (simp only [bz, eq_false c_6, decide_true, decide_false, Bool.true_or, Bool.or_true, Bool.false_or, Bool.or_false, Bool.true_and, Bool.and_true, Bool.false_and, Bool.and_false, Bool.not_true, Bool.not_false, if_true, if_false, Bool.false_eq_true, and_true, true_and, and_false, false_and, or_true, true_or, or_false, false_or, not_true_eq_false, not_false_eq_true, bz]; rfl))
  · refine lv_iconst (v := nI 1) hx hb dX5_isTold_9 (by decide) ?_
    refine lv_goto (tgt := 14) hx hb dX5_isTold_10 (by decide) ?_
    exact rRz hx hb hr hlocks dX5_isTold_14 (by first | (simp only [bz, eq_true c_6, decide_true, decide_false, Bool.true_or, Bool.or_true, Bool.false_or, Bool.or_false, Bool.true_and, Bool.and_true, Bool.false_and, Bool.and_false, Bool.not_true, Bool.not_false, if_true, if_false, Bool.false_eq_true, and_true, true_and, and_false, false_and, or_true, true_or, or_false, false_or, not_true_eq_false, not_false_eq_true, bz]; done) | (simp only [bz, eq_true c_6, decide_true, decide_false, Bool.true_or, Bool.or_true, Bool.false_or, Bool.or_false, Bool.true_and, Bool.and_true, Bool.false_and, Bool.and_false, Bool.not_true, Bool.not_false, if_true, if_false, Bool.false_eq_true, and_true, true_and, and_false, false_and, or_true, true_or, or_false, false_or, not_true_eq_false, not_false_eq_true, bz]; rfl))
theorem k_X5_isTold {p : Program} {l : Launch} {e : Env} {R : Room} {s : State} {m : MethodId} {args : Array Value} {below : List Frame} {meth : Method} {c : Code} {H : Heap} {locs : List Loc} {cells slots : Nat} {Q : State → Prop} {pc : Nat} {ls : Array Slot} {rest : List Value} {cc : ByteArray} {nL index Wd : Nat} {own : String} {D : va_G} {cI : ClassId} {A : Nat → Prop} {ws : va_W} (pi : Nat) (piw : Nat) (pih : Nat) (pin : Nat) (q0 : Nat) (wd : Nat → Int32) (hg : Nat → Int32) (nb : Nat → Int32) (hq0 : q0 < 2) (S : CallFix p m c cc nL s args WA own) (hl : Cond.methodLink own index yX5_isTold ∈ WA) (hR : 0 + 1 ≤ R.frames ∧ Wd + (2 + 11) + 0 ≤ R.locals) (hK : KB D cI s) (hP : va_P D vwCl ws H) (hD : va_D A ws) (is : List Nat) (hs : is.map (fun i => ws[i]?) = ([(pi, .inr (5, [.ref piw, .ref pih, .ref pin])), (piw, .inl (cI, 2, .inl wd)), (pih, .inl (cI, 2, .inl hg)), (pin, .inl (cI, 288, .inl nb))] : va_W).map some) (hnd : va_nd is = true) (hsz : ls.size = nL) (hW : (rest.map fun v => v.category).sum ≤ Wd) (hdg : decode cc pc = .ok (.invokevirtual index, 3)) (hcel : cells ≤ R.cells ∧ slots ≤ R.slots) (kk : W p l e R s m args below meth c H locs cells slots Q (F0 m (pc + 3) ls (.int (bz (decide (0 < wd q0))) :: rest))) : W p l e R s m args below meth c H locs cells slots Q (F0 m pc ls (.int (nI q0) :: .ref pi :: rest)) :=
  kRV (n := 1) (As := [.int (nI q0)]) (ci := 5) S (c_X5_isTold l D cI pi piw pih pin q0 wd hg nb hq0) hl mw562 mw560 mw561 mw46 (by decide +kernel) hR rfl rfl rfl rfl hK hP hD is hs hnd hsz hW hdg hcel kk

set_option maxHeartbeats 4000000 in
set_option maxRecDepth 100000 in
theorem c_X5_take (l : Launch) (D : va_G) (cI : ClassId) (pi : Nat) (piw : Nat) (pih : Nat) (pin : Nat) (sh : Nat) (shl : Nat) (shn : Nat) (shi : Nat) (q0 : Nat) (s0 : Nat) (i0 : Nat) (w0 : Nat) (h0 : Nat) (wd : Nat → Int32) (hg : Nat → Int32) (nb : Nat → Int32) (la : Nat → Int32) (le : Nat → Int32) (it : Nat → Int32) (hq0 : q0 < 2) (hs0 : s0 < 8) (hwh : w0 * h0 ≤ 144) (hiw : i0 + w0 * h0 ≤ 144) : CW l yX5_take (wm yX5_take cX5_take 8 none) 1 16 D cI [.ref pi, .int (nI q0), .ref sh, .int (nI s0), .int (nI i0), .int (nI w0), .int (nI h0)] [(pi, .inr (5, [.ref piw, .ref pih, .ref pin])), (piw, .inl (cI, 2, .inl wd)), (pih, .inl (cI, 2, .inl hg)), (pin, .inl (cI, 288, .inl nb)), (sh, .inr (6, [.ref shl, .ref shn, .ref shi])), (shl, .inl (cI, 8, .inl la)), (shn, .inl (cI, 8, .inl le)), (shi, .inl (cI, 1152, .inl it))] (fun v w' => v = none ∧ w' = [(pi, .inr (5, [.ref piw, .ref pih, .ref pin])), (piw, .inl (cI, 2, .inl (upd wd q0 (nI w0)))), (pih, .inl (cI, 2, .inl (upd hg q0 (nI h0)))), (pin, .inl (cI, 288, .inl (pcF it (q0 * 144) s0 i0 nb 0 (w0 * h0)))), (sh, .inr (6, [.ref shl, .ref shn, .ref shi])), (shl, .inl (cI, 8, .inl la)), (shn, .inl (cI, 8, .inl le)), (shi, .inl (cI, 1152, .inl it))]) := by
  refine CW.of (by decide) (Nat.le_of_ble_eq_true rfl) ?_
  intro p e s m below meth c hx hb hr hml hown hlocks hta hP hD hK hS ls hl
  have hl : lv_has ls 8 [(0, .ref pi), (1, .int (nI q0)), (2, .ref sh), (3, .int (nI s0)), (4, .int (nI i0)), (5, .int (nI w0)), (6, .int (nI h0))] := hl
  have hP : va_P D vwCl [(pi, .inr (5, [.ref piw, .ref pih, .ref pin])), (piw, .inl (cI, 2, .inl wd)), (pih, .inl (cI, 2, .inl hg)), (pin, .inl (cI, 288, .inl nb)), (sh, .inr (6, [.ref shl, .ref shn, .ref shi])), (shl, .inl (cI, 8, .inl la)), (shn, .inl (cI, 8, .inl le)), (shi, .inl (cI, 1152, .inl it))] s.heap := hP
  refine lv_aload_n hx hb dX5_take_0 rfl (lv_at hl 0 rfl) ?_
  refine getX hx hb hta inA5 hown hK hP 0 rfl rfl 0 (by decide) mw160 rfl rfl dX5_take_1 ?_
  refine lv_iload_n hx hb dX5_take_4 rfl (lv_at hl 1 rfl) ?_
  refine lv_iload hx hb dX5_take_5 (lv_at hl 5 rfl) ?_
  refine iastN hx hb hK hP hD hS 1 rfl (by omega) (by decide) dX5_take_7 (fun H locs hP hS => ?_)
  have hP : va_P D vwCl [(pi, .inr (5, [.ref piw, .ref pih, .ref pin])), (piw, .inl (cI, 2, .inl (upd wd q0 (nI w0)))), (pih, .inl (cI, 2, .inl hg)), (pin, .inl (cI, 288, .inl nb)), (sh, .inr (6, [.ref shl, .ref shn, .ref shi])), (shl, .inl (cI, 8, .inl la)), (shn, .inl (cI, 8, .inl le)), (shi, .inl (cI, 1152, .inl it))] H := hP
  have hD : va_D (adrs [(pi, .inr (5, [.ref piw, .ref pih, .ref pin])), (piw, .inl (cI, 2, .inl wd)), (pih, .inl (cI, 2, .inl hg)), (pin, .inl (cI, 288, .inl nb)), (sh, .inr (6, [.ref shl, .ref shn, .ref shi])), (shl, .inl (cI, 8, .inl la)), (shn, .inl (cI, 8, .inl le)), (shi, .inl (cI, 1152, .inl it))]) [(pi, .inr (5, [.ref piw, .ref pih, .ref pin])), (piw, .inl (cI, 2, .inl (upd wd q0 (nI w0)))), (pih, .inl (cI, 2, .inl hg)), (pin, .inl (cI, 288, .inl nb)), (sh, .inr (6, [.ref shl, .ref shn, .ref shi])), (shl, .inl (cI, 8, .inl la)), (shn, .inl (cI, 8, .inl le)), (shi, .inl (cI, 1152, .inl it))] := hD.same rfl
  refine lv_aload_n hx hb dX5_take_8 rfl (lv_at hl 0 rfl) ?_
  refine getX hx hb hta inA5 hown hK hP 0 rfl rfl 1 (by decide) mw161 rfl rfl dX5_take_9 ?_
  refine lv_iload_n hx hb dX5_take_12 rfl (lv_at hl 1 rfl) ?_
  refine lv_iload hx hb dX5_take_13 (lv_at hl 6 rfl) ?_
  refine iastN hx hb hK hP hD hS 2 rfl (by omega) (by decide) dX5_take_15 (fun H locs hP hS => ?_)
  have hP : va_P D vwCl [(pi, .inr (5, [.ref piw, .ref pih, .ref pin])), (piw, .inl (cI, 2, .inl (upd wd q0 (nI w0)))), (pih, .inl (cI, 2, .inl (upd hg q0 (nI h0)))), (pin, .inl (cI, 288, .inl nb)), (sh, .inr (6, [.ref shl, .ref shn, .ref shi])), (shl, .inl (cI, 8, .inl la)), (shn, .inl (cI, 8, .inl le)), (shi, .inl (cI, 1152, .inl it))] H := hP
  have hD : va_D (adrs [(pi, .inr (5, [.ref piw, .ref pih, .ref pin])), (piw, .inl (cI, 2, .inl wd)), (pih, .inl (cI, 2, .inl hg)), (pin, .inl (cI, 288, .inl nb)), (sh, .inr (6, [.ref shl, .ref shn, .ref shi])), (shl, .inl (cI, 8, .inl la)), (shn, .inl (cI, 8, .inl le)), (shi, .inl (cI, 1152, .inl it))]) [(pi, .inr (5, [.ref piw, .ref pih, .ref pin])), (piw, .inl (cI, 2, .inl (upd wd q0 (nI w0)))), (pih, .inl (cI, 2, .inl (upd hg q0 (nI h0)))), (pin, .inl (cI, 288, .inl nb)), (sh, .inr (6, [.ref shl, .ref shn, .ref shi])), (shl, .inl (cI, 8, .inl la)), (shn, .inl (cI, 8, .inl le)), (shi, .inl (cI, 1152, .inl it))] := hD.same rfl
  refine lv_iconst (v := nI 0) hx hb dX5_take_16 (by decide) ?_
  refine lv_istore (lv' := [(7, .int (nI 0)), (0, .ref pi), (1, .int (nI q0)), (2, .ref sh), (3, .int (nI s0)), (4, .int (nI i0)), (5, .int (nI w0)), (6, .int (nI h0))]) hx hb dX5_take_17 hl (by decide) rfl (fun ls hl => ?_)
  have loop_19 : ∀ (r : Nat) (k : Nat) (g : Nat → Int32), (k + r = w0 * h0) → (pcF it (q0 * 144) s0 i0 nb 0 (w0 * h0) = pcF it (q0 * 144) s0 i0 g k r) → ∀ (H : Heap) (locs : List Loc), va_P D vwCl [(pi, .inr (5, [.ref piw, .ref pih, .ref pin])), (piw, .inl (cI, 2, .inl (upd wd q0 (nI w0)))), (pih, .inl (cI, 2, .inl (upd hg q0 (nI h0)))), (pin, .inl (cI, 288, .inl g)), (sh, .inr (6, [.ref shl, .ref shn, .ref shi])), (shl, .inl (cI, 8, .inl la)), (shn, .inl (cI, 8, .inl le)), (shi, .inl (cI, 1152, .inl it))] H → va_S (adrs [(pi, .inr (5, [.ref piw, .ref pih, .ref pin])), (piw, .inl (cI, 2, .inl wd)), (pih, .inl (cI, 2, .inl hg)), (pin, .inl (cI, 288, .inl nb)), (sh, .inr (6, [.ref shl, .ref shn, .ref shi])), (shl, .inl (cI, 8, .inl la)), (shn, .inl (cI, 8, .inl le)), (shi, .inl (cI, 1152, .inl it))]) s.heap H locs → ∀ ls : Array Slot, lv_has ls 8 [(7, .int (nI k)), (0, .ref pi), (1, .int (nI q0)), (2, .ref sh), (3, .int (nI s0)), (4, .int (nI i0)), (5, .int (nI w0)), (6, .int (nI h0))] → W p l e (rmZ 1 16) s m ([.ref pi, .int (nI q0), .ref sh, .int (nI s0), .int (nI i0), .int (nI w0), .int (nI h0)] : List Value).toArray below meth c H locs 0 0 (MQ below (QW D [(pi, .inr (5, [.ref piw, .ref pih, .ref pin])), (piw, .inl (cI, 2, .inl wd)), (pih, .inl (cI, 2, .inl hg)), (pin, .inl (cI, 288, .inl nb)), (sh, .inr (6, [.ref shl, .ref shn, .ref shi])), (shl, .inl (cI, 8, .inl la)), (shn, .inl (cI, 8, .inl le)), (shi, .inl (cI, 1152, .inl it))] (fun v w' => v = none ∧ w' = [(pi, .inr (5, [.ref piw, .ref pih, .ref pin])), (piw, .inl (cI, 2, .inl (upd wd q0 (nI w0)))), (pih, .inl (cI, 2, .inl (upd hg q0 (nI h0)))), (pin, .inl (cI, 288, .inl (pcF it (q0 * 144) s0 i0 nb 0 (w0 * h0)))), (sh, .inr (6, [.ref shl, .ref shn, .ref shi])), (shl, .inl (cI, 8, .inl la)), (shn, .inl (cI, 8, .inl le)), (shi, .inl (cI, 1152, .inl it))])) ([.ref pi, .int (nI q0), .ref sh, .int (nI s0), .int (nI i0), .int (nI w0), .int (nI h0)] : List Value).toArray s 0 0 (adrs [(pi, .inr (5, [.ref piw, .ref pih, .ref pin])), (piw, .inl (cI, 2, .inl wd)), (pih, .inl (cI, 2, .inl hg)), (pin, .inl (cI, 288, .inl nb)), (sh, .inr (6, [.ref shl, .ref shn, .ref shi])), (shl, .inl (cI, 8, .inl la)), (shn, .inl (cI, 8, .inl le)), (shi, .inl (cI, 1152, .inl it))])) (F0 m 19 ls []) := by
    intro r
    induction r with
    | zero =>
      intro k g ix_k hA H locs hP hS ls hl
      have hD : va_D (adrs [(pi, .inr (5, [.ref piw, .ref pih, .ref pin])), (piw, .inl (cI, 2, .inl wd)), (pih, .inl (cI, 2, .inl hg)), (pin, .inl (cI, 288, .inl nb)), (sh, .inr (6, [.ref shl, .ref shn, .ref shi])), (shl, .inl (cI, 8, .inl la)), (shn, .inl (cI, 8, .inl le)), (shi, .inl (cI, 1152, .inl it))]) [(pi, .inr (5, [.ref piw, .ref pih, .ref pin])), (piw, .inl (cI, 2, .inl (upd wd q0 (nI w0)))), (pih, .inl (cI, 2, .inl (upd hg q0 (nI h0)))), (pin, .inl (cI, 288, .inl g)), (sh, .inr (6, [.ref shl, .ref shn, .ref shi])), (shl, .inl (cI, 8, .inl la)), (shn, .inl (cI, 8, .inl le)), (shi, .inl (cI, 1152, .inl it))] := hD.same rfl
      refine lv_iload hx hb dX5_take_19 (lv_at hl 0 rfl) ?_
      refine lv_iload hx hb dX5_take_21 (lv_at hl 6 rfl) ?_
      refine lv_iload hx hb dX5_take_23 (lv_at hl 7 rfl) ?_
      refine imulN (a := w0) (b := h0) hx hb dX5_take_25 ?_
      refine icmpN_ge (tgt := 58) hx hb dX5_take_26 (by decide) (by omega) (by omega) (fun c_26 => ?_) (fun c_26 => ?_)
      · exact rWv hx hb hr hlocks dX5_take_58 hP hS rfl ⟨rfl, by rw [hA]; rfl⟩
      · exact (by omega : False).elim
    | succ r ih_19 =>
      intro k g ix_k hA H locs hP hS ls hl
      have hD : va_D (adrs [(pi, .inr (5, [.ref piw, .ref pih, .ref pin])), (piw, .inl (cI, 2, .inl wd)), (pih, .inl (cI, 2, .inl hg)), (pin, .inl (cI, 288, .inl nb)), (sh, .inr (6, [.ref shl, .ref shn, .ref shi])), (shl, .inl (cI, 8, .inl la)), (shn, .inl (cI, 8, .inl le)), (shi, .inl (cI, 1152, .inl it))]) [(pi, .inr (5, [.ref piw, .ref pih, .ref pin])), (piw, .inl (cI, 2, .inl (upd wd q0 (nI w0)))), (pih, .inl (cI, 2, .inl (upd hg q0 (nI h0)))), (pin, .inl (cI, 288, .inl g)), (sh, .inr (6, [.ref shl, .ref shn, .ref shi])), (shl, .inl (cI, 8, .inl la)), (shn, .inl (cI, 8, .inl le)), (shi, .inl (cI, 1152, .inl it))] := hD.same rfl
      refine lv_iload hx hb dX5_take_19 (lv_at hl 0 rfl) ?_
      refine lv_iload hx hb dX5_take_21 (lv_at hl 6 rfl) ?_
      refine lv_iload hx hb dX5_take_23 (lv_at hl 7 rfl) ?_
      refine imulN (a := w0) (b := h0) hx hb dX5_take_25 ?_
      refine icmpN_ge (tgt := 58) hx hb dX5_take_26 (by decide) (by omega) (by omega) (fun c_26 => ?_) (fun c_26 => ?_)
      · exact (by omega : False).elim
      · refine lv_aload_n hx hb dX5_take_29 rfl (lv_at hl 1 rfl) ?_
        refine getX hx hb hta inA5 hown hK hP 0 rfl rfl 2 (by decide) mw162 rfl rfl dX5_take_30 ?_
        refine lv_iload_n hx hb dX5_take_33 rfl (lv_at hl 2 rfl) ?_
        refine lv_sipush (v := nI 144) hx hb dX5_take_34 (by decide) ?_
        refine imulN (a := q0) (b := 144) hx hb dX5_take_37 ?_
        refine lv_iload hx hb dX5_take_38 (lv_at hl 0 rfl) ?_
        refine iaddN (a := q0 * 144) (b := k) hx hb dX5_take_40 ?_
        refine lv_aload_n hx hb dX5_take_41 rfl (lv_at hl 3 rfl) ?_
        refine lv_iload_n hx hb dX5_take_42 rfl (lv_at hl 4 rfl) ?_
        refine lv_iload hx hb dX5_take_43 (lv_at hl 5 rfl) ?_
        refine lv_iload hx hb dX5_take_45 (lv_at hl 0 rfl) ?_
        refine iaddN (a := i0) (b := k) hx hb dX5_take_47 ?_
        refine k_X6_item (Wd := 2) sh shl shn shi s0 (i0 + k) la le it hs0 (by omega) ⟨hx, hb, hml, hown, hta⟩ mw554 ⟨Nat.le_of_ble_eq_true rfl, Nat.le_of_ble_eq_true rfl⟩ hK hP hD [4, 5, 6, 7] rfl rfl hl.1 (Nat.le_of_ble_eq_true rfl) dX5_take_48 ⟨Nat.le_of_ble_eq_true rfl, Nat.le_of_ble_eq_true rfl⟩ ?_
        refine iastN hx hb hK hP hD hS 3 rfl (by omega) (by decide) dX5_take_51 (fun H locs hP hS => ?_)
        have hP : va_P D vwCl [(pi, .inr (5, [.ref piw, .ref pih, .ref pin])), (piw, .inl (cI, 2, .inl (upd wd q0 (nI w0)))), (pih, .inl (cI, 2, .inl (upd hg q0 (nI h0)))), (pin, .inl (cI, 288, .inl (upd g (q0 * 144 + k) (it (s0 * 144 + (i0 + k)))))), (sh, .inr (6, [.ref shl, .ref shn, .ref shi])), (shl, .inl (cI, 8, .inl la)), (shn, .inl (cI, 8, .inl le)), (shi, .inl (cI, 1152, .inl it))] H := hP
        have hD : va_D (adrs [(pi, .inr (5, [.ref piw, .ref pih, .ref pin])), (piw, .inl (cI, 2, .inl wd)), (pih, .inl (cI, 2, .inl hg)), (pin, .inl (cI, 288, .inl nb)), (sh, .inr (6, [.ref shl, .ref shn, .ref shi])), (shl, .inl (cI, 8, .inl la)), (shn, .inl (cI, 8, .inl le)), (shi, .inl (cI, 1152, .inl it))]) [(pi, .inr (5, [.ref piw, .ref pih, .ref pin])), (piw, .inl (cI, 2, .inl (upd wd q0 (nI w0)))), (pih, .inl (cI, 2, .inl (upd hg q0 (nI h0)))), (pin, .inl (cI, 288, .inl (upd g (q0 * 144 + k) (it (s0 * 144 + (i0 + k)))))), (sh, .inr (6, [.ref shl, .ref shn, .ref shi])), (shl, .inl (cI, 8, .inl la)), (shn, .inl (cI, 8, .inl le)), (shi, .inl (cI, 1152, .inl it))] := hD.same rfl
        refine lv_iinc (v := nI (k + 1)) (lv' := [(7, .int (nI (k + 1))), (0, .ref pi), (1, .int (nI q0)), (2, .ref sh), (3, .int (nI s0)), (4, .int (nI i0)), (5, .int (nI w0)), (6, .int (nI h0))]) hx hb dX5_take_52 hl (k := 0) rfl (nI_inc1 _) (by decide) rfl (fun ls hl => ?_)
        refine lv_goto (tgt := 19) hx hb dX5_take_55 (by decide) ?_
        exact ih_19 (k + 1) (upd g (q0 * 144 + k) (it (s0 * 144 + (i0 + k)))) (by omega) hA _ _ hP hS ls (lv_sub hl [0, 1, 2, 3, 4, 5, 6, 7] rfl)
  exact loop_19 (w0 * h0) 0 nb (by omega) rfl H locs hP hS ls (lv_sub hl [0, 1, 2, 3, 4, 5, 6, 7] rfl)
theorem k_X5_take {p : Program} {l : Launch} {e : Env} {R : Room} {s : State} {m : MethodId} {args : Array Value} {below : List Frame} {meth : Method} {c : Code} {H : Heap} {locs : List Loc} {cells slots : Nat} {Q : State → Prop} {pc : Nat} {ls : Array Slot} {rest : List Value} {cc : ByteArray} {nL index Wd : Nat} {own : String} {D : va_G} {cI : ClassId} {A : Nat → Prop} {ws : va_W} {H0 : Heap} (pi : Nat) (piw : Nat) (pih : Nat) (pin : Nat) (sh : Nat) (shl : Nat) (shn : Nat) (shi : Nat) (q0 : Nat) (s0 : Nat) (i0 : Nat) (w0 : Nat) (h0 : Nat) (wd : Nat → Int32) (hg : Nat → Int32) (nb : Nat → Int32) (la : Nat → Int32) (le : Nat → Int32) (it : Nat → Int32) (hq0 : q0 < 2) (hs0 : s0 < 8) (hwh : w0 * h0 ≤ 144) (hiw : i0 + w0 * h0 ≤ 144) (S : CallFix p m c cc nL s args WA own) (hl : Cond.methodLink own index yX5_take ∈ WA) (hR : 1 + 1 ≤ R.frames ∧ Wd + (8 + 11) + 16 ≤ R.locals) (hK : KB D cI s) (hP : va_P D vwCl ws H) (hD : va_D A ws) (hS : va_S A H0 H locs) (is : List Nat) (hs : is.map (fun i => ws[i]?) = ([(pi, .inr (5, [.ref piw, .ref pih, .ref pin])), (piw, .inl (cI, 2, .inl wd)), (pih, .inl (cI, 2, .inl hg)), (pin, .inl (cI, 288, .inl nb)), (sh, .inr (6, [.ref shl, .ref shn, .ref shi])), (shl, .inl (cI, 8, .inl la)), (shn, .inl (cI, 8, .inl le)), (shi, .inl (cI, 1152, .inl it))] : va_W).map some) (hnd : va_nd is = true) (hsz : ls.size = nL) (hW : (rest.map fun v => v.category).sum ≤ Wd) (hdg : decode cc pc = .ok (.invokevirtual index, 3)) (hcel : cells ≤ R.cells ∧ slots ≤ R.slots) (kk : ∀ (H1 : Heap) (locs1 : List Loc), va_P D vwCl (rp ws is [(pi, .inr (5, [.ref piw, .ref pih, .ref pin])), (piw, .inl (cI, 2, .inl (upd wd q0 (nI w0)))), (pih, .inl (cI, 2, .inl (upd hg q0 (nI h0)))), (pin, .inl (cI, 288, .inl (pcF it (q0 * 144) s0 i0 nb 0 (w0 * h0)))), (sh, .inr (6, [.ref shl, .ref shn, .ref shi])), (shl, .inl (cI, 8, .inl la)), (shn, .inl (cI, 8, .inl le)), (shi, .inl (cI, 1152, .inl it))]) H1 → va_S A H0 H1 locs1 → W p l e R s m args below meth c H1 locs1 cells slots Q (F0 m (pc + 3) ls (rest))) : W p l e R s m args below meth c H locs cells slots Q (F0 m pc ls (.int (nI h0) :: .int (nI w0) :: .int (nI i0) :: .int (nI s0) :: .ref sh :: .int (nI q0) :: .ref pi :: rest)) :=
  kWV (n := 6) (As := [.int (nI q0), .ref sh, .int (nI s0), .int (nI i0), .int (nI w0), .int (nI h0)]) (ci := 5) S (c_X5_take l D cI pi piw pih pin sh shl shn shi q0 s0 i0 w0 h0 wd hg nb la le it hq0 hs0 hwh hiw) hl mw553 mw551 mw552 mw46 (by decide +kernel) hR rfl rfl rfl rfl hK hP hD hS is hs hnd hsz hW hdg hcel (fun v w' H1 locs1 hq h1 h2 => by obtain ⟨rfl, rfl⟩ := hq; exact kk  H1 locs1 h1 h2)

set_option maxHeartbeats 4000000 in
set_option maxRecDepth 100000 in
theorem c_X5_numberAt (l : Launch) (D : va_G) (cI : ClassId) (pi : Nat) (piw : Nat) (pih : Nat) (pin : Nat) (q0 : Nat) (x0 : Nat) (y0 : Nat) (wd : Nat → Int32) (hg : Nat → Int32) (nb : Nat → Int32) (ww : Nat) (hh : Nat) (hq0 : q0 < 2) (hx0 : x0 ≤ 1000) (hy0 : y0 ≤ 1000) (hww : wd q0 = nI ww) (hhh : hg q0 = nI hh) (hw1 : 0 < ww ∧ ww ≤ 12) (hh1 : 0 < hh ∧ hh ≤ 12) : CR l yX5_numberAt (wm yX5_numberAt cX5_numberAt 6 (some .int)) 0 0 D cI [.ref pi, .int (nI q0), .int (nI x0), .int (nI y0)] [(pi, .inr (5, [.ref piw, .ref pih, .ref pin])), (piw, .inl (cI, 2, .inl wd)), (pih, .inl (cI, 2, .inl hg)), (pin, .inl (cI, 288, .inl nb))] (some (.int (nb (q0 * 144 + y0 * hh / 1001 * ww + x0 * ww / 1001)))) := by
  refine CR.of (by decide) (Nat.le_of_ble_eq_true rfl) ?_
  intro p e s m below meth c hx hb hr hml hown hlocks hta hP hD hK ls hl
  have hl : lv_has ls 6 [(0, .ref pi), (1, .int (nI q0)), (2, .int (nI x0)), (3, .int (nI y0))] := hl
  have hP : va_P D vwCl [(pi, .inr (5, [.ref piw, .ref pih, .ref pin])), (piw, .inl (cI, 2, .inl wd)), (pih, .inl (cI, 2, .inl hg)), (pin, .inl (cI, 288, .inl nb))] s.heap := hP
  obtain ⟨hm1, hm2, hm3⟩ := cell_in hx0 hy0 hw1.2 hh1.2 hw1.1 hh1.1
  refine lv_iload_n hx hb dX5_numberAt_0 rfl (lv_at hl 2 rfl) ?_
  refine lv_aload_n hx hb dX5_numberAt_1 rfl (lv_at hl 0 rfl) ?_
  refine getX hx hb hta inA5 hown hK hP 0 rfl rfl 0 (by decide) mw160 rfl rfl dX5_numberAt_2 ?_
  refine lv_iload_n hx hb dX5_numberAt_5 rfl (lv_at hl 1 rfl) ?_
  refine ialdN hx hb hK hP 1 rfl (by omega) (by decide) dX5_numberAt_6 ?_
  refine topN (ww) hww ?_
  refine imulN (a := x0) (b := ww) hx hb dX5_numberAt_7 ?_
  refine lv_sipush (v := nI 1001) hx hb dX5_numberAt_8 (by decide) ?_
  refine idivN (a := x0 * ww) (b := 1001) hx hb dX5_numberAt_11 (by omega) (by omega) (by omega) ?_
  refine lv_istore (lv' := [(4, .int (nI ((x0 * ww) / 1001))), (0, .ref pi), (1, .int (nI q0)), (2, .int (nI x0)), (3, .int (nI y0))]) hx hb dX5_numberAt_12 hl (by decide) rfl (fun ls hl => ?_)
  refine lv_iload_n hx hb dX5_numberAt_14 rfl (lv_at hl 4 rfl) ?_
  refine lv_aload_n hx hb dX5_numberAt_15 rfl (lv_at hl 1 rfl) ?_
  refine getX hx hb hta inA5 hown hK hP 0 rfl rfl 1 (by decide) mw161 rfl rfl dX5_numberAt_16 ?_
  refine lv_iload_n hx hb dX5_numberAt_19 rfl (lv_at hl 2 rfl) ?_
  refine ialdN hx hb hK hP 2 rfl (by omega) (by decide) dX5_numberAt_20 ?_
  refine topN (hh) hhh ?_
  refine imulN (a := y0) (b := hh) hx hb dX5_numberAt_21 ?_
  refine lv_sipush (v := nI 1001) hx hb dX5_numberAt_22 (by decide) ?_
  refine idivN (a := y0 * hh) (b := 1001) hx hb dX5_numberAt_25 (by omega) (by omega) (by omega) ?_
  refine lv_istore (lv' := [(5, .int (nI ((y0 * hh) / 1001))), (4, .int (nI ((x0 * ww) / 1001))), (0, .ref pi), (1, .int (nI q0)), (2, .int (nI x0)), (3, .int (nI y0))]) hx hb dX5_numberAt_26 hl (by decide) rfl (fun ls hl => ?_)
  refine lv_aload_n hx hb dX5_numberAt_28 rfl (lv_at hl 2 rfl) ?_
  refine getX hx hb hta inA5 hown hK hP 0 rfl rfl 2 (by decide) mw162 rfl rfl dX5_numberAt_29 ?_
  refine lv_iload_n hx hb dX5_numberAt_32 rfl (lv_at hl 3 rfl) ?_
  refine lv_sipush (v := nI 144) hx hb dX5_numberAt_33 (by decide) ?_
  refine imulN (a := q0) (b := 144) hx hb dX5_numberAt_36 ?_
  refine lv_iload hx hb dX5_numberAt_37 (lv_at hl 0 rfl) ?_
  refine lv_aload_n hx hb dX5_numberAt_39 rfl (lv_at hl 2 rfl) ?_
  refine getX hx hb hta inA5 hown hK hP 0 rfl rfl 0 (by decide) mw160 rfl rfl dX5_numberAt_40 ?_
  refine lv_iload_n hx hb dX5_numberAt_43 rfl (lv_at hl 3 rfl) ?_
  refine ialdN hx hb hK hP 1 rfl (by omega) (by decide) dX5_numberAt_44 ?_
  refine topN (ww) hww ?_
  refine imulN (a := (y0 * hh) / 1001) (b := ww) hx hb dX5_numberAt_45 ?_
  refine iaddN (a := q0 * 144) (b := ((y0 * hh) / 1001) * ww) hx hb dX5_numberAt_46 ?_
  refine lv_iload hx hb dX5_numberAt_47 (lv_at hl 1 rfl) ?_
  refine iaddN (a := q0 * 144 + (((y0 * hh) / 1001) * ww)) (b := (x0 * ww) / 1001) hx hb dX5_numberAt_49 ?_
  refine ialdN hx hb hK hP 3 rfl (by omega) (by decide) dX5_numberAt_50 ?_
  exact rRi hx hb hr hlocks dX5_numberAt_51 rfl
theorem k_X5_numberAt {p : Program} {l : Launch} {e : Env} {R : Room} {s : State} {m : MethodId} {args : Array Value} {below : List Frame} {meth : Method} {c : Code} {H : Heap} {locs : List Loc} {cells slots : Nat} {Q : State → Prop} {pc : Nat} {ls : Array Slot} {rest : List Value} {cc : ByteArray} {nL index Wd : Nat} {own : String} {D : va_G} {cI : ClassId} {A : Nat → Prop} {ws : va_W} (pi : Nat) (piw : Nat) (pih : Nat) (pin : Nat) (q0 : Nat) (x0 : Nat) (y0 : Nat) (wd : Nat → Int32) (hg : Nat → Int32) (nb : Nat → Int32) (ww : Nat) (hh : Nat) (hq0 : q0 < 2) (hx0 : x0 ≤ 1000) (hy0 : y0 ≤ 1000) (hww : wd q0 = nI ww) (hhh : hg q0 = nI hh) (hw1 : 0 < ww ∧ ww ≤ 12) (hh1 : 0 < hh ∧ hh ≤ 12) (S : CallFix p m c cc nL s args WA own) (hl : Cond.methodLink own index yX5_numberAt ∈ WA) (hR : 0 + 1 ≤ R.frames ∧ Wd + (6 + 11) + 0 ≤ R.locals) (hK : KB D cI s) (hP : va_P D vwCl ws H) (hD : va_D A ws) (is : List Nat) (hs : is.map (fun i => ws[i]?) = ([(pi, .inr (5, [.ref piw, .ref pih, .ref pin])), (piw, .inl (cI, 2, .inl wd)), (pih, .inl (cI, 2, .inl hg)), (pin, .inl (cI, 288, .inl nb))] : va_W).map some) (hnd : va_nd is = true) (hsz : ls.size = nL) (hW : (rest.map fun v => v.category).sum ≤ Wd) (hdg : decode cc pc = .ok (.invokevirtual index, 3)) (hcel : cells ≤ R.cells ∧ slots ≤ R.slots) (kk : W p l e R s m args below meth c H locs cells slots Q (F0 m (pc + 3) ls (.int (nb (q0 * 144 + y0 * hh / 1001 * ww + x0 * ww / 1001)) :: rest))) : W p l e R s m args below meth c H locs cells slots Q (F0 m pc ls (.int (nI y0) :: .int (nI x0) :: .int (nI q0) :: .ref pi :: rest)) :=
  kRV (n := 3) (As := [.int (nI q0), .int (nI x0), .int (nI y0)]) (ci := 5) S (c_X5_numberAt l D cI pi piw pih pin q0 x0 y0 wd hg nb ww hh hq0 hx0 hy0 hww hhh hw1 hh1) hl mw570 mw568 mw569 mw46 (by decide +kernel) hR rfl rfl rfl rfl hK hP hD is hs hnd hsz hW hdg hcel kk
