/-! ===== the base layer: contracts of one shape, calls, array rows by Nat indices ===== -/
def bz (b : Bool) : Int32 := if b then 1 else 0
def NB (U : State) : Prop := va_Nw (.methodLinkNest RX8 18 yX3_init RX8) U ∧ va_Nw (.methodLinkNest RX8 34 yX2_init RX8) U ∧ va_Nw (.methodLinkNest RX8 50 yX5_init RX8) U ∧ va_Nw (.methodLinkNest RX6 19 yX8_isWithin RX8) U ∧ va_Nw (.methodLinkNest RX5 21 yX8_isWithin RX8) U ∧ va_Nw (.methodLinkNest RX4 41 yX8_isWithin RX8) U
theorem NB.warm {s U : State} (h : NB s) (hW : s.WarmedH U.vm) : NB U := ⟨va_Nw.warmM hW h.1, va_Nw.warmM hW h.2.1, va_Nw.warmM hW h.2.2.1, va_Nw.warmM hW h.2.2.2.1, va_Nw.warmM hW h.2.2.2.2.1, va_Nw.warmM hW h.2.2.2.2.2⟩
theorem NB.same {u U : State} (h : NB u) (hv : u.vm = U.vm) : NB U := ⟨va_Nw.same rfl hv h.1, va_Nw.same rfl hv h.2.1, va_Nw.same rfl hv h.2.2.1, va_Nw.same rfl hv h.2.2.2.1, va_Nw.same rfl hv h.2.2.2.2.1, va_Nw.same rfl hv h.2.2.2.2.2⟩
def KB (D : va_G) (cI : ClassId) (U : State) : Prop := va_K D vwCl [(cI, .int)] U ∧ NB U
theorem KB.warm {D : va_G} {cI : ClassId} {s U : State} (h : KB D cI s) (hW : s.WarmedH U.vm) : KB D cI U := ⟨va_K.moved hW.alike h.1, h.2.warm hW⟩
theorem KB.same {D : va_G} {cI : ClassId} {u U : State} (h : KB D cI u) (hv : u.vm = U.vm) : KB D cI U := ⟨va_K.moved (by rw [hv]; exact Vm.Alike.refl _) h.1, h.2.same hv⟩
/-- where a world's cells lie -/
def adrs (w : va_W) : Nat → Prop := fun q => q ∈ w.map (fun c => c.1)
theorem adrs_in {w : va_W} {k : Nat} {q : Nat × va_E} (h : w[k]? = some q) : adrs w q.1 := List.mem_map.mpr ⟨q, List.mem_of_getElem? h, rfl⟩
theorem va_D.same {A : Nat → Prop} {w w2 : va_W} (h : va_D A w) (e : w2.map (fun c => c.1) = w.map (fun c => c.1)) : va_D A w2 := by
  have key : ∀ (k : Nat) (q : Nat × va_E), w2[k]? = some q → ∃ q2, w[k]? = some q2 ∧ q2.1 = q.1 := by
    intro k q hk
    have h1 : (w.map (fun c => c.1))[k]? = some q.1 := by rw [← e, List.getElem?_map, hk]; rfl
    rw [List.getElem?_map] at h1
    cases hw : w[k]? with
    | none => rw [hw] at h1; cases h1
    | some q2 => rw [hw] at h1; exact ⟨q2, rfl, Option.some.inj h1⟩
  refine ⟨fun i j x y hi hj hxy => ?_, fun k q hk => ?_⟩
  · obtain ⟨x2, h1, e1⟩ := key i x hi
    obtain ⟨y2, h2, e2⟩ := key j y hj
    exact h.1 i j x2 y2 h1 h2 (by rw [e1, e2]; exact hxy)
  · obtain ⟨q2, h1, e1⟩ := key k q hk
    rw [← e1]; exact h.2 k q2 h1
theorem va_D.own {A : Nat → Prop} {w : va_W} (h : va_D A w) : va_D (adrs w) w := ⟨h.1, fun _ _ hk => adrs_in hk⟩
theorem va_D.any {A : Nat → Prop} {w : va_W} (h : va_D A w) : va_D (fun _ => True) w := ⟨h.1, fun _ _ _ => trivial⟩
/-- a method's start -/
def PR (D : va_G) (cI : ClassId) (av : List Value) (w : va_W) : Array Value → State → Prop := va_Pc av (fun U => va_P D vwCl w U.heap ∧ va_D (fun _ => True) w ∧ KB D cI U)
theorem PR.blind {D : va_G} {cI : ClassId} {av : List Value} {w : va_W} : FrameBlind (PR D cI av w) := fun _ _ _ _ q => ⟨q.1, q.2.1, q.2.2.1, q.2.2.2.same rfl⟩
/-- a reading method's end: the answer, and the heap as it was -/
def QR (v : Option Value) : Array Value → State → Outcome → State → Prop := fun _ st oc t => oc = .returned v ∧ t.heap = st.heap
/-- a writing method's end: answer and new world by 'Post', the same addresses, nothing else changed -/
def QW (D : va_G) (w : va_W) (Post : Option Value → va_W → Prop) : Array Value → State → Outcome → State → Prop := fun _ st oc t =>
  ∃ (v : Option Value) (w' : va_W), oc = .returned v ∧ Post v w' ∧ w'.map (fun c => c.1) = w.map (fun c => c.1) ∧ va_P D vwCl w' t.heap ∧ va_F (adrs w) st t
def rmZ (fr lo : Nat) : Room := { frames := fr, cells := 0, slots := 0, locals := lo }
def CR (l : Launch) (y : MethodName) (ws : List Cond) (fr lo : Nat) (D : va_G) (cI : ClassId) (av : List Value) (w : va_W) (v : Option Value) : Prop := Met l y ws (rmZ fr lo) (PR D cI av w) (QR v) 0 0 (fun _ => False)
def CW (l : Launch) (y : MethodName) (ws : List Cond) (fr lo : Nat) (D : va_G) (cI : ClassId) (av : List Value) (w : va_W) (Post : Option Value → va_W → Prop) : Prop := Met l y ws (rmZ fr lo) (PR D cI av w) (QW D w Post) 0 0 (adrs w)
theorem CR.of {l : Launch} {y : MethodName} {cc : ByteArray} {maxL fr lo : Nat} {ret : Option FieldType} {D : va_G} {cI : ClassId} {av : List Value} {w : va_W} {v : Option Value} (hy : plainName y.cls = true) (hn : (lg_sl av).length ≤ maxL)
    (body : ∀ (p : Program) (e : Env) (s : State) (m : MethodId) (below : List Frame) (meth : Method) (c : Code), p.tables.exec = Jvm.exec → c.code = cc → meth.sig.returnType = ret → c.maxLocals = maxL → s.vm.findClass y.cls = some m.cls → meth.locks = false → (∀ q ∈ WA, q.before av.toArray s = true) → va_P D vwCl w s.heap → va_D (fun _ => True) w → KB D cI s → ∀ ls : Array Slot, lv_has ls maxL (lv_args 0 av) →
      W p l e (rmZ fr lo) s m av.toArray below meth c s.heap [] 0 0 (MQ below (QR v) av.toArray s 0 0 (fun _ => False)) (F0 m 0 ls [])) : CR l y (wm y cc maxL ret) fr lo D cI av w v := by
  refine Met.ofW (cc := cc) (maxL := maxL) (ret := ret) hy rfl ?_
  intro p e s m args below meth c s₁ B hml hv
  obtain ⟨rfl, hP, hD, hK⟩ := hv
  have hts := atoms_spec (ws := wm y cc maxL ret) B.pre
  rw [lg_entry_eq]
  exact body p e s m below meth c B.exec B.bytes B.returns hml (findClass_of_methodNamed B.named) B.notSynchronized (fun q h => hts q (List.mem_cons_of_mem _ h)) hP hD hK _ (lv_entry av hn)
theorem CW.of {l : Launch} {y : MethodName} {cc : ByteArray} {maxL fr lo : Nat} {ret : Option FieldType} {D : va_G} {cI : ClassId} {av : List Value} {w : va_W} {Post : Option Value → va_W → Prop} (hy : plainName y.cls = true) (hn : (lg_sl av).length ≤ maxL)
    (body : ∀ (p : Program) (e : Env) (s : State) (m : MethodId) (below : List Frame) (meth : Method) (c : Code), p.tables.exec = Jvm.exec → c.code = cc → meth.sig.returnType = ret → c.maxLocals = maxL → s.vm.findClass y.cls = some m.cls → meth.locks = false → (∀ q ∈ WA, q.before av.toArray s = true) → va_P D vwCl w s.heap → va_D (adrs w) w → KB D cI s → va_S (adrs w) s.heap s.heap [] → ∀ ls : Array Slot, lv_has ls maxL (lv_args 0 av) →
      W p l e (rmZ fr lo) s m av.toArray below meth c s.heap [] 0 0 (MQ below (QW D w Post) av.toArray s 0 0 (adrs w)) (F0 m 0 ls [])) : CW l y (wm y cc maxL ret) fr lo D cI av w Post := by
  refine Met.ofW (cc := cc) (maxL := maxL) (ret := ret) hy rfl ?_
  intro p e s m args below meth c s₁ B hml hv
  obtain ⟨rfl, hP, hD, hK⟩ := hv
  have hts := atoms_spec (ws := wm y cc maxL ret) B.pre
  rw [lg_entry_eq]
  exact body p e s m below meth c B.exec B.bytes B.returns hml (findClass_of_methodNamed B.named) B.notSynchronized (fun q h => hts q (List.mem_cons_of_mem _ h)) hP hD.own hK va_S.rf _ (lv_entry av hn)
/-- a world with some cells put anew, each at its place -/
def rp : va_W → List Nat → va_W → va_W
  | ws, i :: is, q :: w => rp (ws.set i q) is w
  | ws, _, _ => ws
theorem rp_at : ∀ (is : List Nat) (w ws : va_W) (k : Nat) (q : Nat × va_E), (rp ws is w)[k]? = some q → ws[k]? = some q ∧ (k ∉ is ∨ w.length < is.length) ∨ q ∈ w
  | [], w, ws, k, q, h => by cases w <;> exact Or.inl ⟨h, Or.inl List.not_mem_nil⟩
  | i :: is, [], ws, k, q, h => Or.inl ⟨h, Or.inr (Nat.succ_pos _)⟩
  | i :: is, x :: w, ws, k, q, h => by
    rcases rp_at is w (ws.set i x) k q h with ⟨h1, h2⟩ | h1
    · by_cases hk : i = k
      · subst hk
        rw [List.getElem?_set] at h1
        by_cases hl : i < ws.length
        · rw [if_pos rfl, if_pos hl] at h1
          cases h1
          exact Or.inr List.mem_cons_self
        · rw [if_pos rfl, if_neg hl] at h1
          cases h1
      · rw [List.getElem?_set, if_neg hk] at h1
        refine Or.inl ⟨h1, ?_⟩
        rcases h2 with h2 | h2
        · exact Or.inl (fun hm => (List.mem_cons.mp hm).elim (fun e => hk e.symm) h2)
        · exact Or.inr (Nat.succ_lt_succ h2)
    · exact Or.inr (List.mem_cons_of_mem _ h1)
theorem fm_of_map {α : Type} {is : List Nat} {f : Nat → Option α} {w : List α} (h : is.map f = w.map some) : is.filterMap f = w := by
  have : is.filterMap f = (is.map f).filterMap id := by rw [List.filterMap_map]; rfl
  rw [this, h, List.filterMap_map]
  simp
section BASE
variable {p : Program} {l : Launch} {e : Env} {R : Room} {s : State} {m : MethodId} {args : Array Value} {below : List Frame} {meth : Method} {c : Code} {H : Heap} {locs : List Loc} {cells slots : Nat} {Q : State → Prop} {pc : Nat} {ls : Array Slot} {rest : List Value} {cc : ByteArray}
theorem rRi {r r' : Int32} (hx : p.tables.exec = Jvm.exec) (hb : c.code = cc) (hr : meth.sig.returnType = some .int) (hlocks : meth.locks = false) (hdg : decode cc pc = .ok (.ireturn, 1)) (hv : r = r') :
    W p l e R s m args below meth c s.heap [] 0 0 (MQ below (QR (some (.int r'))) args s 0 0 (fun _ => False)) (F0 m pc ls [.int r]) := by
  subst hv
  exact W.iret hx hb hr (fun t ht _ => ⟨rfl, ht⟩) (fun q h => absurd h List.not_mem_nil) hdg hlocks
theorem narrow_bz (b : Bool) : narrow .boolean (.int (bz b)) = .int (bz b) := by cases b <;> rfl
theorem rRz {r : Int32} {b : Bool} (hx : p.tables.exec = Jvm.exec) (hb : c.code = cc) (hr : meth.sig.returnType = some .boolean) (hlocks : meth.locks = false) (hdg : decode cc pc = .ok (.ireturn, 1)) (hv : r = bz b) :
    W p l e R s m args below meth c s.heap [] 0 0 (MQ below (QR (some (.int (bz b)))) args s 0 0 (fun _ => False)) (F0 m pc ls [.int r]) := by
  subst hv
  exact W.zret hx hb hr (narrow_bz b) (fun t ht _ => ⟨rfl, ht⟩) (fun q h => absurd h List.not_mem_nil) hdg hlocks
theorem rRl {r r' : Int64} (hx : p.tables.exec = Jvm.exec) (hb : c.code = cc) (hr : meth.sig.returnType = some .long) (hlocks : meth.locks = false) (hdg : decode cc pc = .ok (.lreturn, 1)) (hv : r = r') :
    W p l e R s m args below meth c s.heap [] 0 0 (MQ below (QR (some (.long r'))) args s 0 0 (fun _ => False)) (F0 m pc ls [.long r]) := by
  subst hv
  exact W.lret hx hb hr (fun t ht _ => ⟨rfl, ht⟩) (fun q h => absurd h List.not_mem_nil) hdg hlocks
variable {D : va_G} {cI : ClassId} {w w' ws : va_W} {Post : Option Value → va_W → Prop} {A : Nat → Prop} {H0 : Heap}
theorem rWi {r : Int32} (hx : p.tables.exec = Jvm.exec) (hb : c.code = cc) (hr : meth.sig.returnType = some .int) (hlocks : meth.locks = false) (hdg : decode cc pc = .ok (.ireturn, 1)) (hP : va_P D vwCl w' H) (hS : va_S (adrs w) s.heap H locs) (hm : w'.map (fun c => c.1) = w.map (fun c => c.1)) (hq : Post (some (.int r)) w') :
    W p l e R s m args below meth c H locs 0 0 (MQ below (QW D w Post) args s 0 0 (adrs w)) (F0 m pc ls [.int r]) :=
  W.iret hx hb hr (fun t ht _ => ⟨_, w', rfl, hq, hm, by rw [ht]; exact hP, hS.F ht⟩) hS.2.2 hdg hlocks
theorem rWv (hx : p.tables.exec = Jvm.exec) (hb : c.code = cc) (hr : meth.sig.returnType = none) (hlocks : meth.locks = false) (hdg : decode cc pc = .ok (.return_, 1)) (hP : va_P D vwCl w' H) (hS : va_S (adrs w) s.heap H locs) (hm : w'.map (fun c => c.1) = w.map (fun c => c.1)) (hq : Post none w') :
    W p l e R s m args below meth c H locs 0 0 (MQ below (QW D w Post) args s 0 0 (adrs w)) (F0 m pc ls []) :=
  W.vret hx hb hr (fun t ht _ => ⟨_, w', rfl, hq, hm, by rw [ht]; exact hP, hS.F ht⟩) hS.2.2 hdg hlocks
/-- behind a reading call -/
theorem goR {v : Option Value} {a : Array Value} {st0 : List Value} (hr : va_Run p l e R s m args below meth c H locs cells slots 0 0 (F0 m pc ls st0) rest (QR v a) (fun _ => False)) (kk : W p l e R s m args below meth c H locs cells slots Q (F0 m (pc + 3) ls (v.toList ++ rest))) : W p l e R s m args below meth c H locs cells slots Q (F0 m pc ls st0) := by
  intro T hT X
  obtain ⟨v', st₀, t, T', L, h0, X', hL, e1, e2, ⟨hv, hh⟩, st⟩ := hr T hT X
  cases hv
  obtain ⟨t2, a1, b1⟩ := kk T' (by rw [e1, hh, h0]) (Stand.forget X' (fun q h => (hL q h).elim))
  exact ⟨t2, st t2 a1, b1⟩
theorem sub_adrs {is : List Nat} (hs : is.map (fun i => ws[i]?) = w.map some) {q : Nat} (h : adrs w q) : ∃ i x, i ∈ is ∧ ws[i]? = some x ∧ x.1 = q := by
  obtain ⟨x, hx, rfl⟩ := List.mem_map.mp h
  obtain ⟨k, hk⟩ := List.getElem?_of_mem hx
  have h1 : (is.map (fun i => ws[i]?))[k]? = some (some x) := by rw [hs, List.getElem?_map, hk]; rfl
  rw [List.getElem?_map] at h1
  cases hi : is[k]? with
  | none => rw [hi] at h1; cases h1
  | some i => rw [hi] at h1; exact ⟨i, x, List.mem_of_getElem? hi, Option.some.inj h1, rfl⟩
/-- behind a writing call: the world with the callee's cells put anew -/
theorem goW {a : Array Value} {st0 : List Value} (hr : va_Run p l e R s m args below meth c H locs cells slots 0 0 (F0 m pc ls st0) rest (QW D w Post a) (adrs w)) (hP : va_P D vwCl ws H) (hD : va_D A ws) (hS : va_S A H0 H locs) (is : List Nat) (hs : is.map (fun i => ws[i]?) = w.map some)
    (kk : ∀ (v : Option Value) (w' : va_W) (H1 : Heap) (locs1 : List Loc), Post v w' → va_P D vwCl (rp ws is w') H1 → va_S A H0 H1 locs1 → W p l e R s m args below meth c H1 locs1 cells slots Q (F0 m (pc + 3) ls (v.toList ++ rest))) : W p l e R s m args below meth c H locs cells slots Q (F0 m pc ls st0) := by
  intro T hT X
  obtain ⟨v', st₀, t, T', L, h0, X', hL, e1, e2, ⟨v, w', hv, hq, hm, hPw, hz, hk⟩, st⟩ := hr T hT X
  cases hv
  rw [h0] at hz hk
  have hlen : w'.length = is.length := by
    have h1 := congrArg List.length hm
    have h2 := congrArg List.length hs
    simp only [List.length_map] at h1 h2
    omega
  have hA : ∀ q, adrs w q → A q := fun q hq => by
    obtain ⟨i, x, -, hx, rfl⟩ := sub_adrs hs hq
    exact hD.2 i x hx
  have hP1 : va_P D vwCl (rp ws is w') t.heap := by
    intro k q hkq
    rcases rp_at is w' ws k q hkq with ⟨h1, h2⟩ | h1
    · have hni : k ∉ is := h2.elim id (fun h => absurd h (by omega))
      refine (hP k q h1).kept (hk q.1 (hP k q h1).lt ?_)
      intro hin
      obtain ⟨i, x, hi, hx, he⟩ := sub_adrs hs hin
      have := hD.1 k i q x h1 hx he.symm
      subst this
      exact hni hi
    · obtain ⟨j, hj⟩ := List.getElem?_of_mem h1
      exact hPw j q hj
  obtain ⟨t2, a1, b1⟩ := kk v' w' T'.heap (locs ++ L) hq (by rw [e1]; exact hP1)
    ⟨Nat.le_trans hS.1 (by rw [e1]; exact hz), fun q h1 h2 => by rw [e1, hk q (Nat.lt_of_lt_of_le h1 hS.1) (fun z => h2 (hA q z))]; exact hS.2.1 q h1 h2, fun q hq => by
      rcases List.mem_append.mp hq with h | h
      · exact hS.2.2 q h
      · exact hA _ (hL q h)⟩ T' rfl X'
  exact ⟨t2, st t2 a1, b1⟩
variable {y : MethodName} {bytes : ByteArray} {maxL nL n index fr lo : Nat} {ret : Option FieldType} {own C : String} {b : Addr} {As : List Value}
theorem preV {cl : vw_C} {ci : Nat} {fs : List Value} (hK : KB D cI s) (hP : va_P D vwCl ws H) (hD : va_D A ws) (is : List Nat) (hs : is.map (fun i => ws[i]?) = w.map some) (hnd : va_nd is = true) (hw : w[0]? = some (b, .inr (ci, fs))) (hc : vwCl[ci]? = some cl) (hC : cl.1 = C) : PreV s H C b (PR D cI (.ref b :: As) w) As := by
  have hPw : va_P D vwCl w H := hP.sub is (fm_of_map hs)
  subst hC
  exact ⟨PR.blind, va_recv hK.1 hPw hc hw, fun U hU hW => ⟨rfl, by rw [hU]; exact hPw, (hD.sub is hnd hs).any, hK.warm hW⟩⟩
theorem preS0 (hK : KB D cI s) : PreS s H (PR D cI As []) As := ⟨PR.blind, fun U _ hW => ⟨rfl, fun _ _ h => absurd h (by simp), ⟨fun _ _ _ _ h => absurd h (by simp), fun _ _ h => absurd h (by simp)⟩, hK.warm hW⟩⟩
variable {Wd : Nat} {Pc : Array Value → State → Prop} {Qc : Array Value → State → Outcome → State → Prop} {free : Addr → Prop}
/-- a callee's way back, with room for a stack of Wd words under the call -/
theorem backW (hta : ∀ q ∈ WA, q.before args s = true) (hM : Met l y (wm y bytes maxL ret) (rmZ fr lo) Pc Qc 0 0 free) (hbl : FrameBlind Pc) (hc : Cond.code y bytes maxL ret ∈ WA) (hini : Cond.initialized y.cls ∈ WA) (hR : fr + 1 ≤ R.frames ∧ Wd + (maxL + 11) + lo ≤ R.locals) : Back l R p e below s args y 3 Wd (PreOf R 0 0 Pc) (PostOf Qc 0 0 free) :=
  back_of (bytes := bytes) (maxL := maxL) (ret := ret) hM hbl rfl rfl hR.1 hR.2 (pay_in hta (wm_good hc)) List.mem_cons_self (fun a' U hW => word_at hW (Or.inl (by first | rfl | simp [Cond.onTables, Cond.keeps, Cond.steady])) (hta _ hini))
theorem roomW0 {st st2 : List Value} (h : (st.map fun v => v.category).sum ≤ Wd) : 2 * (F0 m pc ls st2).monitorRoom + (st.map fun v => v.category).sum ≤ Wd := by
  show 2 * 0 + _ ≤ Wd
  omega
theorem runVW (S : CallFix p m c cc nL s args WA own) (hM : Met l y (wm y bytes maxL ret) (rmZ fr lo) Pc Qc 0 0 free) (hl : Cond.methodLink own index y ∈ WA) (hc : Cond.code y bytes maxL ret ∈ WA) (hi : Cond.instanceMethod y ∈ WA) (hse : Cond.selects C y y ∈ WA) (hini : Cond.initialized C ∈ WA)
    (hd : y.cls = C ∧ y.cls ≠ "java/lang/invoke/MethodHandle" ∧ y.cls ≠ "java/lang/invoke/VarHandle" ∧ (parseMethodDescriptor y.desc).map (fun d => d.parameters.length) = some n) (hR : fr + 1 ≤ R.frames ∧ Wd + (maxL + 11) + lo ≤ R.locals) (hp : PreV s H C b Pc As)
    (hn : As.length = n) (hsz : ls.size = nL) (hW : (rest.map fun v => v.category).sum ≤ Wd) (hdg : decode cc pc = .ok (.invokevirtual index, 3)) (hf : cells ≤ R.cells ∧ slots ≤ R.slots) :
    va_Run p l e R s m args below meth c H locs cells slots 0 0 (F0 m pc ls (As.reverse ++ .ref b :: rest)) rest (Qc (Value.ref b :: As).toArray) free := by
  obtain ⟨hx, hb, hml, ho, hta⟩ := S
  obtain ⟨hC, hd1, hd2, hd3⟩ := hd
  have hB : Back l R p e below s args y 3 Wd (PreOf R 0 0 Pc) (PostOf Qc 0 0 free) := backW hta hM hp.1 hc (by rw [hC]; exact hini) hR
  obtain ⟨-, ⟨cellB, hcB, hoB, hclB⟩, hPc⟩ := hp
  intro T hT X
  obtain ⟨v, vm₁, ⟨U', l2, c2, s2⟩, hW₁, X', ⟨g', mk, t, L, e1, e2, hq, h1, hL, h2, h3⟩, st⟩ := callV X hx (C := C) (bytes := bytes) (maxL := maxL) (ret := ret) ho (hta _ hl) (hta _ hi) (hta _ hse) (hta _ hc) ⟨hd1, hd2⟩ hB (by rw [hT]; exact hcB) hoB hclB (g := F0 m pc ls (As.reverse ++ .ref b :: rest)) rfl (hsz.trans hml.symm) (argsL := As) (rest := rest) (fun sig h => by rw [h] at hd3; exact hn.trans (Option.some.inj hd3).symm) rfl (roomW0 hW) (by rw [hb]; exact hdg) (fun vm₁ hW₁ => ⟨hf.1, hf.2, hPc (T.setVm vm₁) hT hW₁⟩)
  dsimp only [Pt.U, Pt.locs, Pt.cells, Pt.slots] at X' e1 e2 h1 h2 h3 st
  subst h1; subst h2; subst h3
  exact ⟨v, (T.setVm vm₁).calling g' mk (Value.ref b :: As).toArray, t, U', L, hT, X', hL, e1, e2, hq, st⟩
theorem runSW (S : CallFix p m c cc nL s args WA own) (hM : Met l y (wm y bytes maxL ret) (rmZ fr lo) Pc Qc 0 0 free) (hl : Cond.methodLink own index y ∈ WA) (hc : Cond.code y bytes maxL ret ∈ WA) (hi : Cond.static y ∈ WA) (hini : Cond.initialized y.cls ∈ WA)
    (hd : y.cls ≠ "java/lang/invoke/MethodHandle" ∧ y.cls ≠ "java/lang/invoke/VarHandle" ∧ (parseMethodDescriptor y.desc).map (fun d => d.parameters.length) = some n) (hR : fr + 1 ≤ R.frames ∧ Wd + (maxL + 11) + lo ≤ R.locals) (hp : PreS s H Pc As)
    (hn : As.length = n) (hsz : ls.size = nL) (hW : (rest.map fun v => v.category).sum ≤ Wd) (hdg : decode cc pc = .ok (.invokestatic index, 3)) (hf : cells ≤ R.cells ∧ slots ≤ R.slots) :
    va_Run p l e R s m args below meth c H locs cells slots 0 0 (F0 m pc ls (As.reverse ++ rest)) rest (Qc As.toArray) free := by
  obtain ⟨hx, hb, hml, ho, hta⟩ := S
  obtain ⟨hd1, hd2, hd3⟩ := hd
  have hB : Back l R p e below s args y 3 Wd (PreOf R 0 0 Pc) (PostOf Qc 0 0 free) := backW hta hM hp.1 hc hini hR
  intro T hT X
  obtain ⟨v, vm₁, ⟨U', l2, c2, s2⟩, hW₁, X', ⟨g', mk, t, L, e1, e2, hq, h1, hL, h2, h3⟩, st⟩ := callS X hx (bytes := bytes) (maxL := maxL) (ret := ret) ho (hta _ hl) (hta _ hi) (hta _ hini) (hta _ hc) ⟨hd1, hd2⟩ hB (g := F0 m pc ls (As.reverse ++ rest)) rfl (hsz.trans hml.symm) (argsL := As) (rest := rest) (fun sig h => by rw [h] at hd3; exact hn.trans (Option.some.inj hd3).symm) rfl (roomW0 hW) (by rw [hb]; exact hdg) (fun vm₁ hW₁ => ⟨hf.1, hf.2, hp.2 (T.setVm vm₁) hT hW₁⟩)
  dsimp only [Pt.U, Pt.locs, Pt.cells, Pt.slots] at X' e1 e2 h1 h2 h3 st
  subst h1; subst h2; subst h3
  exact ⟨v, (T.setVm vm₁).calling g' mk As.toArray, t, U', L, hT, X', hL, e1, e2, hq, st⟩
/-- a reading instance method is called -/
theorem kRV {v : Option Value} {cl : vw_C} {ci : Nat} {fs : List Value} (S : CallFix p m c cc nL s args WA own) (hM : CR l y (wm y bytes maxL ret) fr lo D cI (.ref b :: As) w v)
    (hl : Cond.methodLink own index y ∈ WA) (hc : Cond.code y bytes maxL ret ∈ WA) (hi : Cond.instanceMethod y ∈ WA) (hse : Cond.selects C y y ∈ WA) (hini : Cond.initialized C ∈ WA)
    (hd : y.cls = C ∧ y.cls ≠ "java/lang/invoke/MethodHandle" ∧ y.cls ≠ "java/lang/invoke/VarHandle" ∧ (parseMethodDescriptor y.desc).map (fun d => d.parameters.length) = some n) (hR : fr + 1 ≤ R.frames ∧ Wd + (maxL + 11) + lo ≤ R.locals)
    (hw : w[0]? = some (b, .inr (ci, fs))) (hcl : vwCl[ci]? = some cl) (hC : cl.1 = C) (hn : As.length = n)
    (hK : KB D cI s) (hP : va_P D vwCl ws H) (hD : va_D A ws) (is : List Nat) (hs : is.map (fun i => ws[i]?) = w.map some) (hnd : va_nd is = true)
    (hsz : ls.size = nL) (hW : (rest.map fun v => v.category).sum ≤ Wd) (hdg : decode cc pc = .ok (.invokevirtual index, 3)) (hcs : cells ≤ R.cells ∧ slots ≤ R.slots)
    (kk : W p l e R s m args below meth c H locs cells slots Q (F0 m (pc + 3) ls (v.toList ++ rest))) : W p l e R s m args below meth c H locs cells slots Q (F0 m pc ls (As.reverse ++ .ref b :: rest)) :=
  goR (runVW S hM hl hc hi hse hini hd hR (preV hK hP hD is hs hnd hw hcl hC) hn hsz hW hdg hcs) kk
/-- a reading static method without cells is called -/
theorem kRS {v : Option Value} (S : CallFix p m c cc nL s args WA own) (hM : CR l y (wm y bytes maxL ret) fr lo D cI As [] v)
    (hl : Cond.methodLink own index y ∈ WA) (hc : Cond.code y bytes maxL ret ∈ WA) (hi : Cond.static y ∈ WA) (hini : Cond.initialized y.cls ∈ WA)
    (hd : y.cls ≠ "java/lang/invoke/MethodHandle" ∧ y.cls ≠ "java/lang/invoke/VarHandle" ∧ (parseMethodDescriptor y.desc).map (fun d => d.parameters.length) = some n) (hR : fr + 1 ≤ R.frames ∧ Wd + (maxL + 11) + lo ≤ R.locals) (hn : As.length = n)
    (hK : KB D cI s) (hsz : ls.size = nL) (hW : (rest.map fun v => v.category).sum ≤ Wd) (hdg : decode cc pc = .ok (.invokestatic index, 3)) (hcs : cells ≤ R.cells ∧ slots ≤ R.slots)
    (kk : W p l e R s m args below meth c H locs cells slots Q (F0 m (pc + 3) ls (v.toList ++ rest))) : W p l e R s m args below meth c H locs cells slots Q (F0 m pc ls (As.reverse ++ rest)) :=
  goR (runSW S hM hl hc hi hini hd hR (preS0 hK) hn hsz hW hdg hcs) kk
/-- the same, private, of a nest mate -/
theorem kRSN {v : Option Value} {host : String} (S : CallFix p m c cc nL s args WA own) (hM : CR l y (wm y bytes maxL ret) fr lo D cI As [] v)
    (hl : va_Nw (.methodLinkNest own index y host) s) (hc : Cond.code y bytes maxL ret ∈ WA) (hi : Cond.static y ∈ WA) (hini : Cond.initialized y.cls ∈ WA)
    (hd : y.cls ≠ "java/lang/invoke/MethodHandle" ∧ y.cls ≠ "java/lang/invoke/VarHandle" ∧ (parseMethodDescriptor y.desc).map (fun d => d.parameters.length) = some n) (hR : fr + 1 ≤ R.frames ∧ 8 + (maxL + 11) + lo ≤ R.locals) (hn : As.length = n)
    (hK : KB D cI s) (hsz : ls.size = nL) (hW : (rest.map fun v => v.category).sum ≤ 8) (hdg : decode cc pc = .ok (.invokestatic index, 3)) (hcs : cells ≤ R.cells ∧ slots ≤ R.slots)
    (kk : W p l e R s m args below meth c H locs cells slots Q (F0 m (pc + 3) ls (v.toList ++ rest))) : W p l e R s m args below meth c H locs cells slots Q (F0 m pc ls (As.reverse ++ rest)) :=
  goR (va_runSN S hM ⟨va_cnB n S.2.2.2.2 (wm_good hc) rfl rfl rfl hl (S.2.2.2.2 _ hini) hd hR, S.2.2.2.2 _ hi, trivial⟩ (preS0 hK) rfl hn hsz rfl (lv_room hW) hdg ⟨hcs.1, hcs.2⟩) kk
/-- a writing instance method is called -/
theorem kWV {cl : vw_C} {ci : Nat} {fs : List Value} (S : CallFix p m c cc nL s args WA own) (hM : CW l y (wm y bytes maxL ret) fr lo D cI (.ref b :: As) w Post)
    (hl : Cond.methodLink own index y ∈ WA) (hc : Cond.code y bytes maxL ret ∈ WA) (hi : Cond.instanceMethod y ∈ WA) (hse : Cond.selects C y y ∈ WA) (hini : Cond.initialized C ∈ WA)
    (hd : y.cls = C ∧ y.cls ≠ "java/lang/invoke/MethodHandle" ∧ y.cls ≠ "java/lang/invoke/VarHandle" ∧ (parseMethodDescriptor y.desc).map (fun d => d.parameters.length) = some n) (hR : fr + 1 ≤ R.frames ∧ Wd + (maxL + 11) + lo ≤ R.locals)
    (hw : w[0]? = some (b, .inr (ci, fs))) (hcl : vwCl[ci]? = some cl) (hC : cl.1 = C) (hn : As.length = n)
    (hK : KB D cI s) (hP : va_P D vwCl ws H) (hD : va_D A ws) (hS : va_S A H0 H locs) (is : List Nat) (hs : is.map (fun i => ws[i]?) = w.map some) (hnd : va_nd is = true)
    (hsz : ls.size = nL) (hW : (rest.map fun v => v.category).sum ≤ Wd) (hdg : decode cc pc = .ok (.invokevirtual index, 3)) (hcs : cells ≤ R.cells ∧ slots ≤ R.slots)
    (kk : ∀ (v : Option Value) (w' : va_W) (H1 : Heap) (locs1 : List Loc), Post v w' → va_P D vwCl (rp ws is w') H1 → va_S A H0 H1 locs1 → W p l e R s m args below meth c H1 locs1 cells slots Q (F0 m (pc + 3) ls (v.toList ++ rest))) : W p l e R s m args below meth c H locs cells slots Q (F0 m pc ls (As.reverse ++ .ref b :: rest)) :=
  goW (runVW S hM hl hc hi hse hini hd hR (preV hK hP hD is hs hnd hw hcl hC) hn hsz hW hdg hcs) hP hD hS is hs kk
/-! numbers that are counts -/
theorem iaddN {a b : Nat} (hx : p.tables.exec = Jvm.exec) (hb : c.code = cc) (hdg : decode cc pc = .ok (.iadd, 1)) (k : W p l e R s m args below meth c H locs cells slots Q (F0 m (pc + 1) ls (.int (nI (a + b)) :: rest))) : W p l e R s m args below meth c H locs cells slots Q (F0 m pc ls (.int (nI b) :: .int (nI a) :: rest)) := lv_iadd hx hb hdg (by rw [nI_add]; exact k)
theorem isubN {a b : Nat} (hx : p.tables.exec = Jvm.exec) (hb : c.code = cc) (hdg : decode cc pc = .ok (.isub, 1)) (h : b ≤ a) (k : W p l e R s m args below meth c H locs cells slots Q (F0 m (pc + 1) ls (.int (nI (a - b)) :: rest))) : W p l e R s m args below meth c H locs cells slots Q (F0 m pc ls (.int (nI b) :: .int (nI a) :: rest)) := lv_isub hx hb hdg (by rw [pk_sub h]; exact k)
theorem imulN {a b : Nat} (hx : p.tables.exec = Jvm.exec) (hb : c.code = cc) (hdg : decode cc pc = .ok (.imul, 1)) (k : W p l e R s m args below meth c H locs cells slots Q (F0 m (pc + 1) ls (.int (nI (a * b)) :: rest))) : W p l e R s m args below meth c H locs cells slots Q (F0 m pc ls (.int (nI b) :: .int (nI a) :: rest)) := lv_imul hx hb hdg (by rw [pk_mul]; exact k)
theorem idivN {a b : Nat} (hx : p.tables.exec = Jvm.exec) (hb : c.code = cc) (hdg : decode cc pc = .ok (.idiv, 1)) (h1 : a < 2 ^ 31) (h2 : 0 < b) (h3 : b < 2 ^ 31) (k : W p l e R s m args below meth c H locs cells slots Q (F0 m (pc + 1) ls (.int (nI (a / b)) :: rest))) : W p l e R s m args below meth c H locs cells slots Q (F0 m pc ls (.int (nI b) :: .int (nI a) :: rest)) := lv_idiv hx hb hdg (nI_ne0 h2 h3) (by rw [pk_div h1 h2 h3]; exact k)
theorem iremN {a b : Nat} (hx : p.tables.exec = Jvm.exec) (hb : c.code = cc) (hdg : decode cc pc = .ok (.irem, 1)) (h1 : a < 2 ^ 31) (h2 : 0 < b) (h3 : b < 2 ^ 31) (k : W p l e R s m args below meth c H locs cells slots Q (F0 m (pc + 1) ls (.int (nI (a % b)) :: rest))) : W p l e R s m args below meth c H locs cells slots Q (F0 m pc ls (.int (nI b) :: .int (nI a) :: rest)) := lv_irem hx hb hdg (nI_ne0 h2 h3) (by rw [pk_rem h1 h2 h3]; exact k)
variable {off : Int} {tgt : Nat}
theorem icmpN_lt {a b : Nat} (hx : p.tables.exec = Jvm.exec) (hb : c.code = cc) (hdg : decode cc pc = .ok (.if_icmp .lt off, 3)) (ht : (pc : Int) + off = (tgt : Int)) (ha : a < 2 ^ 31) (hb2 : b < 2 ^ 31)
    (kt : a < b → W p l e R s m args below meth c H locs cells slots Q (F0 m tgt ls rest)) (kf : ¬ a < b → W p l e R s m args below meth c H locs cells slots Q (F0 m (pc + 3) ls rest)) : W p l e R s m args below meth c H locs cells slots Q (F0 m pc ls (.int (nI b) :: .int (nI a) :: rest)) := lv_icmp_lt hx hb hdg ht (fun h => kt ((nI_ltI ha hb2).mp h)) (fun h => kf (fun q => h ((nI_ltI ha hb2).mpr q)))
theorem icmpN_ge {a b : Nat} (hx : p.tables.exec = Jvm.exec) (hb : c.code = cc) (hdg : decode cc pc = .ok (.if_icmp .ge off, 3)) (ht : (pc : Int) + off = (tgt : Int)) (ha : a < 2 ^ 31) (hb2 : b < 2 ^ 31)
    (kt : ¬ a < b → W p l e R s m args below meth c H locs cells slots Q (F0 m tgt ls rest)) (kf : a < b → W p l e R s m args below meth c H locs cells slots Q (F0 m (pc + 3) ls rest)) : W p l e R s m args below meth c H locs cells slots Q (F0 m pc ls (.int (nI b) :: .int (nI a) :: rest)) := lv_icmp_ge hx hb hdg ht (fun h => kt (Nat.not_lt.mpr ((nI_leI hb2 ha).mp h))) (fun h => kf (Nat.not_le.mp (fun q => h ((nI_leI hb2 ha).mpr q))))
theorem icmpN_gt {a b : Nat} (hx : p.tables.exec = Jvm.exec) (hb : c.code = cc) (hdg : decode cc pc = .ok (.if_icmp .gt off, 3)) (ht : (pc : Int) + off = (tgt : Int)) (ha : a < 2 ^ 31) (hb2 : b < 2 ^ 31)
    (kt : b < a → W p l e R s m args below meth c H locs cells slots Q (F0 m tgt ls rest)) (kf : ¬ b < a → W p l e R s m args below meth c H locs cells slots Q (F0 m (pc + 3) ls rest)) : W p l e R s m args below meth c H locs cells slots Q (F0 m pc ls (.int (nI b) :: .int (nI a) :: rest)) := lv_icmp_gt hx hb hdg ht (fun h => kt ((nI_ltI hb2 ha).mp h)) (fun h => kf (fun q => h ((nI_ltI hb2 ha).mpr q)))
theorem icmpN_le {a b : Nat} (hx : p.tables.exec = Jvm.exec) (hb : c.code = cc) (hdg : decode cc pc = .ok (.if_icmp .le off, 3)) (ht : (pc : Int) + off = (tgt : Int)) (ha : a < 2 ^ 31) (hb2 : b < 2 ^ 31)
    (kt : ¬ b < a → W p l e R s m args below meth c H locs cells slots Q (F0 m tgt ls rest)) (kf : b < a → W p l e R s m args below meth c H locs cells slots Q (F0 m (pc + 3) ls rest)) : W p l e R s m args below meth c H locs cells slots Q (F0 m pc ls (.int (nI b) :: .int (nI a) :: rest)) := lv_icmp_le hx hb hdg ht (fun h => kt (Nat.not_lt.mpr ((nI_leI ha hb2).mp h))) (fun h => kf (Nat.not_le.mp (fun q => h ((nI_leI ha hb2).mpr q))))
theorem icmpN_eq {a b : Nat} (hx : p.tables.exec = Jvm.exec) (hb : c.code = cc) (hdg : decode cc pc = .ok (.if_icmp .eq off, 3)) (ht : (pc : Int) + off = (tgt : Int)) (ha : a < 2 ^ 31) (hb2 : b < 2 ^ 31)
    (kt : a = b → W p l e R s m args below meth c H locs cells slots Q (F0 m tgt ls rest)) (kf : ¬ a = b → W p l e R s m args below meth c H locs cells slots Q (F0 m (pc + 3) ls rest)) : W p l e R s m args below meth c H locs cells slots Q (F0 m pc ls (.int (nI b) :: .int (nI a) :: rest)) := lv_icmp_eq hx hb hdg ht (fun h => kt ((nI_eq ha hb2).mp h)) (fun h => kf (fun q => h ((nI_eq ha hb2).mpr q)))
theorem icmpN_ne {a b : Nat} (hx : p.tables.exec = Jvm.exec) (hb : c.code = cc) (hdg : decode cc pc = .ok (.if_icmp .ne off, 3)) (ht : (pc : Int) + off = (tgt : Int)) (ha : a < 2 ^ 31) (hb2 : b < 2 ^ 31)
    (kt : ¬ a = b → W p l e R s m args below meth c H locs cells slots Q (F0 m tgt ls rest)) (kf : a = b → W p l e R s m args below meth c H locs cells slots Q (F0 m (pc + 3) ls rest)) : W p l e R s m args below meth c H locs cells slots Q (F0 m pc ls (.int (nI b) :: .int (nI a) :: rest)) := lv_icmp_ne hx hb hdg ht (fun h => kt (fun q => h ((nI_eq ha hb2).mpr q))) (fun h => kf ((nI_eq ha hb2).mp (by first | exact h | exact Decidable.not_not.mp h)))
theorem bz0 {b : Bool} : bz b = 0 ↔ b = false := by cases b <;> simp [bz]
theorem ifB_eq {b : Bool} (hx : p.tables.exec = Jvm.exec) (hb : c.code = cc) (hdg : decode cc pc = .ok (.ifCond .eq off, 3)) (ht : (pc : Int) + off = (tgt : Int))
    (kt : b = false → W p l e R s m args below meth c H locs cells slots Q (F0 m tgt ls rest)) (kf : b = true → W p l e R s m args below meth c H locs cells slots Q (F0 m (pc + 3) ls rest)) : W p l e R s m args below meth c H locs cells slots Q (F0 m pc ls (.int (bz b) :: rest)) := lv_if_eq hx hb hdg ht (fun h => kt (bz0.mp h)) (fun h => kf (by cases b with | true => rfl | false => exact absurd (bz0.mpr rfl) h))
theorem ifB_ne {b : Bool} (hx : p.tables.exec = Jvm.exec) (hb : c.code = cc) (hdg : decode cc pc = .ok (.ifCond .ne off, 3)) (ht : (pc : Int) + off = (tgt : Int))
    (kt : b = true → W p l e R s m args below meth c H locs cells slots Q (F0 m tgt ls rest)) (kf : b = false → W p l e R s m args below meth c H locs cells slots Q (F0 m (pc + 3) ls rest)) : W p l e R s m args below meth c H locs cells slots Q (F0 m pc ls (.int (bz b) :: rest)) := lv_if_ne hx hb hdg ht (fun h => kt (by cases b with | true => rfl | false => exact absurd (bz0.mpr rfl) h)) (fun h => kf (bz0.mp (by first | exact h | exact Decidable.not_not.mp h)))
theorem nI0 {a : Nat} (h : a < 2 ^ 31) : nI a = 0 ↔ a = 0 := by rw [← nI_0, nI_eq h (by omega)]
theorem ifN_eq {a : Nat} (hx : p.tables.exec = Jvm.exec) (hb : c.code = cc) (hdg : decode cc pc = .ok (.ifCond .eq off, 3)) (ht : (pc : Int) + off = (tgt : Int)) (ha : a < 2 ^ 31)
    (kt : a = 0 → W p l e R s m args below meth c H locs cells slots Q (F0 m tgt ls rest)) (kf : ¬ a = 0 → W p l e R s m args below meth c H locs cells slots Q (F0 m (pc + 3) ls rest)) : W p l e R s m args below meth c H locs cells slots Q (F0 m pc ls (.int (nI a) :: rest)) := lv_if_eq hx hb hdg ht (fun h => kt ((nI0 ha).mp h)) (fun h => kf (fun q => h ((nI0 ha).mpr q)))
theorem ifN_ne {a : Nat} (hx : p.tables.exec = Jvm.exec) (hb : c.code = cc) (hdg : decode cc pc = .ok (.ifCond .ne off, 3)) (ht : (pc : Int) + off = (tgt : Int)) (ha : a < 2 ^ 31)
    (kt : ¬ a = 0 → W p l e R s m args below meth c H locs cells slots Q (F0 m tgt ls rest)) (kf : a = 0 → W p l e R s m args below meth c H locs cells slots Q (F0 m (pc + 3) ls rest)) : W p l e R s m args below meth c H locs cells slots Q (F0 m pc ls (.int (nI a) :: rest)) := lv_if_ne hx hb hdg ht (fun h => kt (fun q => h ((nI0 ha).mpr q))) (fun h => kf ((nI0 ha).mp (by first | exact h | exact Decidable.not_not.mp h)))
theorem ifN_le {a : Nat} (hx : p.tables.exec = Jvm.exec) (hb : c.code = cc) (hdg : decode cc pc = .ok (.ifCond .le off, 3)) (ht : (pc : Int) + off = (tgt : Int)) (ha : a < 2 ^ 31)
    (kt : a = 0 → W p l e R s m args below meth c H locs cells slots Q (F0 m tgt ls rest)) (kf : ¬ a = 0 → W p l e R s m args below meth c H locs cells slots Q (F0 m (pc + 3) ls rest)) : W p l e R s m args below meth c H locs cells slots Q (F0 m pc ls (.int (nI a) :: rest)) := lv_if_le hx hb hdg ht (fun h => kt (Nat.le_zero.mp ((nI_leI (b := 0) ha (by omega)).mp h))) (fun h => kf (fun q => h ((nI_leI (b := 0) ha (by omega)).mpr (Nat.le_zero.mpr q))))
theorem ifN_gt {a : Nat} (hx : p.tables.exec = Jvm.exec) (hb : c.code = cc) (hdg : decode cc pc = .ok (.ifCond .gt off, 3)) (ht : (pc : Int) + off = (tgt : Int)) (ha : a < 2 ^ 31)
    (kt : ¬ a = 0 → W p l e R s m args below meth c H locs cells slots Q (F0 m tgt ls rest)) (kf : a = 0 → W p l e R s m args below meth c H locs cells slots Q (F0 m (pc + 3) ls rest)) : W p l e R s m args below meth c H locs cells slots Q (F0 m pc ls (.int (nI a) :: rest)) := lv_if_gt hx hb hdg ht (fun h => kt (fun q => by subst q; exact absurd h (by decide))) (fun h => kf (by rcases Nat.eq_zero_or_pos a with q | q; exact q; exact absurd ((nI_ltI (a := 0) (by omega) ha).mpr q) h))
theorem ifN_lt {a : Nat} (hx : p.tables.exec = Jvm.exec) (hb : c.code = cc) (hdg : decode cc pc = .ok (.ifCond .lt off, 3)) (ht : (pc : Int) + off = (tgt : Int)) (ha : a < 2 ^ 31)
    (kf : W p l e R s m args below meth c H locs cells slots Q (F0 m (pc + 3) ls rest)) : W p l e R s m args below meth c H locs cells slots Q (F0 m pc ls (.int (nI a) :: rest)) := lv_if_lt hx hb hdg ht (fun h => absurd h (nI_pos ha)) (fun _ => kf)
theorem ifN_ge {a : Nat} (hx : p.tables.exec = Jvm.exec) (hb : c.code = cc) (hdg : decode cc pc = .ok (.ifCond .ge off, 3)) (ht : (pc : Int) + off = (tgt : Int)) (ha : a < 2 ^ 31)
    (kt : W p l e R s m args below meth c H locs cells slots Q (F0 m tgt ls rest)) : W p l e R s m args below meth c H locs cells slots Q (F0 m pc ls (.int (nI a) :: rest)) := lv_if_ge hx hb hdg ht (fun _ => kt) (fun h => absurd (nI_pos' ha) h)
theorem ialdN {a j N : Nat} {f : Nat → Int32} (hx : p.tables.exec = Jvm.exec) (hb : c.code = cc) (hK : KB D cI s) (hP : va_P D vwCl ws H) (q0 : Nat) (ha : ws[q0]? = some (a, .inl (cI, N, .inl f))) (hj : j < N) (hN : N < 2 ^ 31) (hdg : decode cc pc = .ok (.iaload, 1))
    (kk : W p l e R s m args below meth c H locs cells slots Q (F0 m (pc + 1) ls (.int (f j) :: rest))) : W p l e R s m args below meth c H locs cells slots Q (F0 m pc ls (.int (nI j) :: .ref a :: rest)) := by
  refine va_iald hx hb hK.1 hP q0 0 ha rfl (vp_in_nI hj hN) hdg ?_
  rw [nI_clamp (by omega)]
  exact kk
theorem iastN {a j N : Nat} {f : Nat → Int32} {x : Int32} (hx : p.tables.exec = Jvm.exec) (hb : c.code = cc) (hK : KB D cI s) (hP : va_P D vwCl ws H) (hD : va_D A ws) (hS : va_S A H0 H locs) (q0 : Nat) (ha : ws[q0]? = some (a, .inl (cI, N, .inl f))) (hj : j < N) (hN : N < 2 ^ 31) (hdg : decode cc pc = .ok (.iastore, 1))
    (kk : ∀ (H1 : Heap) (locs1 : List Loc), va_P D vwCl (ws.set q0 (a, .inl (cI, N, .inl (upd f j x)))) H1 → va_S A H0 H1 locs1 → W p l e R s m args below meth c H1 locs1 cells slots Q (F0 m (pc + 1) ls rest)) : W p l e R s m args below meth c H locs cells slots Q (F0 m pc ls (.int x :: .int (nI j) :: .ref a :: rest)) := by
  refine va_iast hx hb hK.1 hP hD hS q0 0 ha rfl (vp_in_nI hj hN) hdg ?_
  rw [nI_clamp (by omega)]
  exact fun H1 locs1 h1 _ h3 => kk H1 locs1 h1 h3
theorem getX {own ref C : String} {T : u_T} {N ci index : Nat} {a : Nat} (hx : p.tables.exec = Jvm.exec) (hb : c.code = cc) (hta : ∀ q ∈ WA, q.before args s = true) (hin : ∀ q ∈ u_ws C T N, q ∈ WA) (hown : s.vm.findClass own = some m.cls) (hK : KB D cI s) (hP : va_P D vwCl ws H) (q0 : Nat) {fs : List Value} (he : ws[q0]? = some (a, .inr (ci, fs))) (hc : vwCl[ci]? = some (C, T, N)) (k : Nat) (hk : k < N) (hlink : Cond.fieldLink own index ref (T k).2.1 (T k).2.2.1 ∈ WA) (hsame : (T k).1 = ref) {v : Value} (hv : fs[k]? = some v) (hdg : decode cc pc = .ok (.getfield index, 3))
    (kk : W p l e R s m args below meth c H locs cells slots Q (F0 m (pc + 3) ls (v :: rest))) : W p l e R s m args below meth c H locs cells slots Q (F0 m pc ls (.ref a :: rest)) :=
  va_get hx hb hta hin hown hK.1 hP q0 he hc k hk (hta _ hlink) (fun x h9 => by rw [hsame] at h9; exact h9) hv hdg kk
theorem putX {own ref C : String} {T : u_T} {N ci index : Nat} {a : Nat} (hx : p.tables.exec = Jvm.exec) (hb : c.code = cc) (hta : ∀ q ∈ WA, q.before args s = true) (hin : ∀ q ∈ u_ws C T N, q ∈ WA) (ty0 : Nat → FieldType) (hty : ∀ k, k < N → parseFieldDescriptor (T k).2.2.1 = some (ty0 k)) (hnm : ∀ a, a < N → ∀ b, b < N → a ≠ b → (T a).2.1 ≠ (T b).2.1) (hown : s.vm.findClass own = some m.cls) (hK : KB D cI s) (hP : va_P D vwCl ws H) (hD : va_D A ws) (hS : va_S A H0 H locs) (q0 : Nat) {fs : List Value} (he : ws[q0]? = some (a, .inr (ci, fs))) (hc : vwCl[ci]? = some (C, T, N)) (k : Nat) (hk : k < N) (hlink : Cond.fieldLink own index ref (T k).2.1 (T k).2.2.1 ∈ WA) (hsame : (T k).1 = ref) (hfin : (T k).2.2.2 = false) {ty : FieldType} {v : Value} (hd : ty0 k = ty) (hn : narrow ty v = v) (hfit : fits ty v = true) (hl : k < fs.length) (hdg : decode cc pc = .ok (.putfield index, 3))
    (kk : ∀ (H1 : Heap) (locs1 : List Loc), va_P D vwCl (ws.set q0 (a, .inr (ci, fs.set k v))) H1 → va_S A H0 H1 locs1 → W p l e R s m args below meth c H1 locs1 cells slots Q (F0 m (pc + 3) ls rest)) : W p l e R s m args below meth c H locs cells slots Q (F0 m pc ls (v :: .ref a :: rest)) :=
  va_put hx hb hta hin ty0 hty hnm hown hK.1 hP hD hS q0 he hc k hk (hta _ hlink) (fun x h9 => by rw [hsame] at h9; exact h9) hfin (by rw [← hd]; exact hty k hk) hn hfit hl hdg (fun H1 locs1 h1 _ h3 => kk H1 locs1 h1 h3)
theorem nI_inc1 (k : Nat) : nI k + Int32.ofInt 1 = nI (k + 1) := by rw [show Int32.ofInt 1 = (1 : Int32) by decide]; exact nI_1 k
theorem nI_inc6 (k : Nat) : nI k + Int32.ofInt 6 = nI (k + 6) := by rw [show Int32.ofInt 6 = nI 6 by decide]; exact nI_add k 6
theorem nI_dec {k : Nat} (h : 0 < k) : nI k + Int32.ofInt (-1) = nI (k - 1) := by rw [show Int32.ofInt (-1) = (-1 : Int32) by decide]; exact sb_m1 h
theorem topN {x : Int32} (j : Nat) (h : x = nI j) (k : W p l e R s m args below meth c H locs cells slots Q (F0 m pc ls (.int (nI j) :: rest))) : W p l e R s m args below meth c H locs cells slots Q (F0 m pc ls (.int x :: rest)) := by rw [h]; exact k
theorem topI {x : Int32} (j : Int32) (h : x = j) (k : W p l e R s m args below meth c H locs cells slots Q (F0 m pc ls (.int j :: rest))) : W p l e R s m args below meth c H locs cells slots Q (F0 m pc ls (.int x :: rest)) := by rw [h]; exact k
theorem topB {x : Int32} (j : Bool) (h : x = bz j) (k : W p l e R s m args below meth c H locs cells slots Q (F0 m pc ls (.int (bz j) :: rest))) : W p l e R s m args below meth c H locs cells slots Q (F0 m pc ls (.int x :: rest)) := by rw [h]; exact k
theorem icmpI_lt {x y : Int32} (hx : p.tables.exec = Jvm.exec) (hb : c.code = cc) (hdg : decode cc pc = .ok (.if_icmp .lt off, 3)) (ht : (pc : Int) + off = (tgt : Int)) (kt : x < y → W p l e R s m args below meth c H locs cells slots Q (F0 m tgt ls rest)) (kf : ¬ x < y → W p l e R s m args below meth c H locs cells slots Q (F0 m (pc + 3) ls rest)) : W p l e R s m args below meth c H locs cells slots Q (F0 m pc ls (.int y :: .int x :: rest)) := lv_icmp_lt hx hb hdg ht kt kf
theorem icmpI_gt {x y : Int32} (hx : p.tables.exec = Jvm.exec) (hb : c.code = cc) (hdg : decode cc pc = .ok (.if_icmp .gt off, 3)) (ht : (pc : Int) + off = (tgt : Int)) (kt : y < x → W p l e R s m args below meth c H locs cells slots Q (F0 m tgt ls rest)) (kf : ¬ y < x → W p l e R s m args below meth c H locs cells slots Q (F0 m (pc + 3) ls rest)) : W p l e R s m args below meth c H locs cells slots Q (F0 m pc ls (.int y :: .int x :: rest)) := lv_icmp_gt hx hb hdg ht kt kf
theorem icmpI_ge {x y : Int32} (hx : p.tables.exec = Jvm.exec) (hb : c.code = cc) (hdg : decode cc pc = .ok (.if_icmp .ge off, 3)) (ht : (pc : Int) + off = (tgt : Int)) (kt : ¬ x < y → W p l e R s m args below meth c H locs cells slots Q (F0 m tgt ls rest)) (kf : x < y → W p l e R s m args below meth c H locs cells slots Q (F0 m (pc + 3) ls rest)) : W p l e R s m args below meth c H locs cells slots Q (F0 m pc ls (.int y :: .int x :: rest)) := lv_icmp_ge hx hb hdg ht (fun h => kt (Int32.not_lt.mpr h)) (fun h => kf (Int32.not_le.mp h))
theorem icmpI_le {x y : Int32} (hx : p.tables.exec = Jvm.exec) (hb : c.code = cc) (hdg : decode cc pc = .ok (.if_icmp .le off, 3)) (ht : (pc : Int) + off = (tgt : Int)) (kt : ¬ y < x → W p l e R s m args below meth c H locs cells slots Q (F0 m tgt ls rest)) (kf : y < x → W p l e R s m args below meth c H locs cells slots Q (F0 m (pc + 3) ls rest)) : W p l e R s m args below meth c H locs cells slots Q (F0 m pc ls (.int y :: .int x :: rest)) := lv_icmp_le hx hb hdg ht (fun h => kt (Int32.not_lt.mpr h)) (fun h => kf (Int32.not_le.mp h))
theorem icmpI_eq {x y : Int32} (hx : p.tables.exec = Jvm.exec) (hb : c.code = cc) (hdg : decode cc pc = .ok (.if_icmp .eq off, 3)) (ht : (pc : Int) + off = (tgt : Int)) (kt : x = y → W p l e R s m args below meth c H locs cells slots Q (F0 m tgt ls rest)) (kf : ¬ x = y → W p l e R s m args below meth c H locs cells slots Q (F0 m (pc + 3) ls rest)) : W p l e R s m args below meth c H locs cells slots Q (F0 m pc ls (.int y :: .int x :: rest)) := lv_icmp_eq hx hb hdg ht kt kf
theorem icmpI_ne {x y : Int32} (hx : p.tables.exec = Jvm.exec) (hb : c.code = cc) (hdg : decode cc pc = .ok (.if_icmp .ne off, 3)) (ht : (pc : Int) + off = (tgt : Int)) (kt : ¬ x = y → W p l e R s m args below meth c H locs cells slots Q (F0 m tgt ls rest)) (kf : x = y → W p l e R s m args below meth c H locs cells slots Q (F0 m (pc + 3) ls rest)) : W p l e R s m args below meth c H locs cells slots Q (F0 m pc ls (.int y :: .int x :: rest)) := lv_icmp_ne hx hb hdg ht kt (fun h => kf (by first | exact h | exact Decidable.not_not.mp h))
theorem ifI_eq {x : Int32} (hx : p.tables.exec = Jvm.exec) (hb : c.code = cc) (hdg : decode cc pc = .ok (.ifCond .eq off, 3)) (ht : (pc : Int) + off = (tgt : Int)) (kt : x = 0 → W p l e R s m args below meth c H locs cells slots Q (F0 m tgt ls rest)) (kf : ¬ x = 0 → W p l e R s m args below meth c H locs cells slots Q (F0 m (pc + 3) ls rest)) : W p l e R s m args below meth c H locs cells slots Q (F0 m pc ls (.int x :: rest)) := lv_if_eq hx hb hdg ht kt kf
theorem ifI_ne {x : Int32} (hx : p.tables.exec = Jvm.exec) (hb : c.code = cc) (hdg : decode cc pc = .ok (.ifCond .ne off, 3)) (ht : (pc : Int) + off = (tgt : Int)) (kt : ¬ x = 0 → W p l e R s m args below meth c H locs cells slots Q (F0 m tgt ls rest)) (kf : x = 0 → W p l e R s m args below meth c H locs cells slots Q (F0 m (pc + 3) ls rest)) : W p l e R s m args below meth c H locs cells slots Q (F0 m pc ls (.int x :: rest)) := lv_if_ne hx hb hdg ht kt (fun h => kf (by first | exact h | exact Decidable.not_not.mp h))
theorem ifI_lt {x : Int32} (hx : p.tables.exec = Jvm.exec) (hb : c.code = cc) (hdg : decode cc pc = .ok (.ifCond .lt off, 3)) (ht : (pc : Int) + off = (tgt : Int)) (kt : x < 0 → W p l e R s m args below meth c H locs cells slots Q (F0 m tgt ls rest)) (kf : ¬ x < 0 → W p l e R s m args below meth c H locs cells slots Q (F0 m (pc + 3) ls rest)) : W p l e R s m args below meth c H locs cells slots Q (F0 m pc ls (.int x :: rest)) := lv_if_lt hx hb hdg ht kt kf
theorem ifI_gt {x : Int32} (hx : p.tables.exec = Jvm.exec) (hb : c.code = cc) (hdg : decode cc pc = .ok (.ifCond .gt off, 3)) (ht : (pc : Int) + off = (tgt : Int)) (kt : 0 < x → W p l e R s m args below meth c H locs cells slots Q (F0 m tgt ls rest)) (kf : ¬ 0 < x → W p l e R s m args below meth c H locs cells slots Q (F0 m (pc + 3) ls rest)) : W p l e R s m args below meth c H locs cells slots Q (F0 m pc ls (.int x :: rest)) := lv_if_gt hx hb hdg ht kt kf
theorem ifI_ge {x : Int32} (hx : p.tables.exec = Jvm.exec) (hb : c.code = cc) (hdg : decode cc pc = .ok (.ifCond .ge off, 3)) (ht : (pc : Int) + off = (tgt : Int)) (kt : ¬ x < 0 → W p l e R s m args below meth c H locs cells slots Q (F0 m tgt ls rest)) (kf : x < 0 → W p l e R s m args below meth c H locs cells slots Q (F0 m (pc + 3) ls rest)) : W p l e R s m args below meth c H locs cells slots Q (F0 m pc ls (.int x :: rest)) := lv_if_ge hx hb hdg ht (fun h => kt (Int32.not_lt.mpr h)) (fun h => kf (Int32.not_le.mp h))
theorem ifI_le {x : Int32} (hx : p.tables.exec = Jvm.exec) (hb : c.code = cc) (hdg : decode cc pc = .ok (.ifCond .le off, 3)) (ht : (pc : Int) + off = (tgt : Int)) (kt : ¬ 0 < x → W p l e R s m args below meth c H locs cells slots Q (F0 m tgt ls rest)) (kf : 0 < x → W p l e R s m args below meth c H locs cells slots Q (F0 m (pc + 3) ls rest)) : W p l e R s m args below meth c H locs cells slots Q (F0 m pc ls (.int x :: rest)) := lv_if_le hx hb hdg ht (fun h => kt (Int32.not_lt.mpr h)) (fun h => kf (Int32.not_le.mp h))
theorem lgc (x y : Int64) : (lg_cmp x y < 0 ↔ x < y) ∧ (0 < lg_cmp x y ↔ y < x) ∧ (lg_cmp x y = 0 ↔ x = y) := by
  have a1 : y < x → ¬ x < y := fun h g => absurd (Int64.lt_trans h g) Int64.lt_irrefl
  have a2 : ¬ y < x → ¬ x < y → x = y := fun h g => Int64.le_antisymm (Int64.not_lt.mp h) (Int64.not_lt.mp g)
  by_cases h1 : y < x
  · have e1 : lg_cmp x y = 1 := by simp [lg_cmp, h1]
    rw [e1]
    exact ⟨⟨fun h => absurd h (by decide), fun h => absurd h (a1 h1)⟩, ⟨fun _ => h1, fun _ => by decide⟩, ⟨fun h => absurd h (by decide), fun h => absurd h1 (by rw [h]; exact Int64.lt_irrefl)⟩⟩
  · by_cases h2 : x < y
    · have e1 : lg_cmp x y = -1 := by simp only [lg_cmp, h1, h2, if_false, if_true]; first | done | (simp [Int64.lt_irrefl]; done) | (rw [if_neg (by intro h; rw [h] at h2; exact Int64.lt_irrefl h2)])
      rw [e1]
      exact ⟨⟨fun _ => h2, fun _ => by decide⟩, ⟨fun h => absurd h (by decide), fun h => absurd h h1⟩, ⟨fun h => absurd h (by decide), fun h => absurd h2 (by rw [h]; exact Int64.lt_irrefl)⟩⟩
    · have e := a2 h1 h2
      have e1 : lg_cmp x y = 0 := by subst e; simp [lg_cmp, h1]
      rw [e1]
      exact ⟨⟨fun h => absurd h (by decide), fun h => absurd h h2⟩, ⟨fun h => absurd h (by decide), fun h => absurd h h1⟩, ⟨fun _ => e, fun _ => rfl⟩⟩
theorem ifL_lt {x y : Int64} (hx : p.tables.exec = Jvm.exec) (hb : c.code = cc) (hdg : decode cc pc = .ok (.ifCond .lt off, 3)) (ht : (pc : Int) + off = (tgt : Int)) (kt : x < y → W p l e R s m args below meth c H locs cells slots Q (F0 m tgt ls rest)) (kf : ¬ x < y → W p l e R s m args below meth c H locs cells slots Q (F0 m (pc + 3) ls rest)) : W p l e R s m args below meth c H locs cells slots Q (F0 m pc ls (.int (lg_cmp x y) :: rest)) := ifI_lt hx hb hdg ht (fun h => kt ((lgc x y).1.mp h)) (fun h => kf (fun g => h ((lgc x y).1.mpr g)))
theorem ifL_ge {x y : Int64} (hx : p.tables.exec = Jvm.exec) (hb : c.code = cc) (hdg : decode cc pc = .ok (.ifCond .ge off, 3)) (ht : (pc : Int) + off = (tgt : Int)) (kt : ¬ x < y → W p l e R s m args below meth c H locs cells slots Q (F0 m tgt ls rest)) (kf : x < y → W p l e R s m args below meth c H locs cells slots Q (F0 m (pc + 3) ls rest)) : W p l e R s m args below meth c H locs cells slots Q (F0 m pc ls (.int (lg_cmp x y) :: rest)) := ifI_ge hx hb hdg ht (fun h => kt (fun g => h ((lgc x y).1.mpr g))) (fun h => kf ((lgc x y).1.mp h))
theorem ifL_gt {x y : Int64} (hx : p.tables.exec = Jvm.exec) (hb : c.code = cc) (hdg : decode cc pc = .ok (.ifCond .gt off, 3)) (ht : (pc : Int) + off = (tgt : Int)) (kt : y < x → W p l e R s m args below meth c H locs cells slots Q (F0 m tgt ls rest)) (kf : ¬ y < x → W p l e R s m args below meth c H locs cells slots Q (F0 m (pc + 3) ls rest)) : W p l e R s m args below meth c H locs cells slots Q (F0 m pc ls (.int (lg_cmp x y) :: rest)) := ifI_gt hx hb hdg ht (fun h => kt ((lgc x y).2.1.mp h)) (fun h => kf (fun g => h ((lgc x y).2.1.mpr g)))
theorem ifL_le {x y : Int64} (hx : p.tables.exec = Jvm.exec) (hb : c.code = cc) (hdg : decode cc pc = .ok (.ifCond .le off, 3)) (ht : (pc : Int) + off = (tgt : Int)) (kt : ¬ y < x → W p l e R s m args below meth c H locs cells slots Q (F0 m tgt ls rest)) (kf : y < x → W p l e R s m args below meth c H locs cells slots Q (F0 m (pc + 3) ls rest)) : W p l e R s m args below meth c H locs cells slots Q (F0 m pc ls (.int (lg_cmp x y) :: rest)) := ifI_le hx hb hdg ht (fun h => kt (fun g => h ((lgc x y).2.1.mpr g))) (fun h => kf ((lgc x y).2.1.mp h))
theorem ifL_eq {x y : Int64} (hx : p.tables.exec = Jvm.exec) (hb : c.code = cc) (hdg : decode cc pc = .ok (.ifCond .eq off, 3)) (ht : (pc : Int) + off = (tgt : Int)) (kt : x = y → W p l e R s m args below meth c H locs cells slots Q (F0 m tgt ls rest)) (kf : ¬ x = y → W p l e R s m args below meth c H locs cells slots Q (F0 m (pc + 3) ls rest)) : W p l e R s m args below meth c H locs cells slots Q (F0 m pc ls (.int (lg_cmp x y) :: rest)) := ifI_eq hx hb hdg ht (fun h => kt ((lgc x y).2.2.mp h)) (fun h => kf (fun g => h ((lgc x y).2.2.mpr g)))
theorem ifL_ne {x y : Int64} (hx : p.tables.exec = Jvm.exec) (hb : c.code = cc) (hdg : decode cc pc = .ok (.ifCond .ne off, 3)) (ht : (pc : Int) + off = (tgt : Int)) (kt : ¬ x = y → W p l e R s m args below meth c H locs cells slots Q (F0 m tgt ls rest)) (kf : x = y → W p l e R s m args below meth c H locs cells slots Q (F0 m (pc + 3) ls rest)) : W p l e R s m args below meth c H locs cells slots Q (F0 m pc ls (.int (lg_cmp x y) :: rest)) := ifI_ne hx hb hdg ht (fun h => kt (fun g => h ((lgc x y).2.2.mpr g))) (fun h => kf ((lgc x y).2.2.mp h))
/-! switches -/
theorem tabIn {a : Nat} (j : Nat) {dflt lo hi : Int} {offs : Array Int} {len : Nat} {off : Int} {tgt : Nat} (hx : p.tables.exec = Jvm.exec) (hb : c.code = cc) (hdg : decode cc pc = .ok (.tableswitch dflt lo hi offs, len)) (he : a = j) (hj : j < 2 ^ 31) (h1 : ¬ (j : Int) < lo) (h2 : ¬ hi < (j : Int)) (ho : offs[((j : Int) - lo).toNat]? = some off) (ht : (pc : Int) + off = (tgt : Int))
    (k : W p l e R s m args below meth c H locs cells slots Q (F0 m tgt ls rest)) : W p l e R s m args below meth c H locs cells slots Q (F0 m pc ls (.int (nI a) :: rest)) := by
  subst he
  have e := nI_toInt hj
  exact lv_tableIn hx hb hdg (by rw [e]; exact h1) (by rw [e]; exact h2) (by rw [e]; exact ho) ht k
theorem tabOut {a : Nat} (j : Nat) {dflt lo hi : Int} {offs : Array Int} {len : Nat} {tgt : Nat} (hx : p.tables.exec = Jvm.exec) (hb : c.code = cc) (hdg : decode cc pc = .ok (.tableswitch dflt lo hi offs, len)) (he : a = j) (hj : j < 2 ^ 31) (h1 : (j : Int) < lo ∨ hi < (j : Int)) (ht : (pc : Int) + dflt = (tgt : Int))
    (k : W p l e R s m args below meth c H locs cells slots Q (F0 m tgt ls rest)) : W p l e R s m args below meth c H locs cells slots Q (F0 m pc ls (.int (nI a) :: rest)) := by
  subst he
  have e := nI_toInt hj
  exact lv_tableOut hx hb hdg (by rw [e]; exact h1) ht k
theorem nI_neN {t : Nat} (h : t < 2 ^ 31) : ¬ nI t = (-1000000) := fun e => absurd (show nI t < 0 by rw [e]; decide) (nI_pos h)
theorem inM_of {x : Int32} {n : Nat} (h1 : ¬ x < 0) (h2 : x < nI n) (hn : n < 2 ^ 31) : ∃ j : Nat, j < n ∧ x = nI j := by
  rcases pk_ix x hn with h | h | h
  · exact absurd h h1
  · exact absurd h2 (Int32.not_lt.mpr h)
  · exact h
/-- System.arraycopy within one row of ints -/
theorem copyN {a N sp dp n : Nat} {f : Nat → Int32} (hx : p.tables.exec = Jvm.exec) (hb : c.code = cc) (hml : c.maxLocals = ls.size) {own : String} {index : Nat} (hown : s.vm.findClass own = some m.cls) (hta : ∀ q ∈ WA, q.before args s = true) (hlink : Cond.methodLink own index arraycopyName ∈ WA) (hnat : Cond.native arraycopyName ∈ WA) (hstat : Cond.static arraycopyName ∈ WA) (hini : Cond.initialized "java/lang/System" ∈ WA)
    (hK : KB D cI s) (hP : va_P D vwCl ws H) (hD : va_D A ws) (hS : va_S A H0 H locs) (q0 : Nat) (ha : ws[q0]? = some (a, .inl (cI, N, .inl f))) (h4 : sp + n ≤ N) (h5 : dp + n ≤ N) (hN : N < 2 ^ 31) (hframes : 1 ≤ R.frames) (hlocals : (rest.map fun v => v.category).sum + (nativeFrameWords "java/lang/System" "arraycopy" 5 + 11) ≤ R.locals) (hdg : decode cc pc = .ok (.invokestatic index, 3))
    (kk : ∀ (H1 : Heap) (locs1 : List Loc), va_P D vwCl (ws.set q0 (a, .inl (cI, N, .inl (va_cpy f f sp dp n)))) H1 → va_S A H0 H1 locs1 → W p l e R s m args below meth c H1 locs1 cells slots Q (F0 m (pc + 3) ls rest)) : W p l e R s m args below meth c H locs cells slots Q (F0 m pc ls (.int (nI n) :: .int (nI dp) :: .ref a :: .int (nI sp) :: .ref a :: rest)) := by
  have c1 : (nI sp).toNatClampNeg = sp := nI_clamp (by omega)
  have c2 : (nI dp).toNatClampNeg = dp := nI_clamp (by omega)
  have c3 : (nI n).toNatClampNeg = n := nI_clamp (by omega)
  refine va_copyi (ty := .int) hx hb hml hown (hta _ hlink) (hta _ hnat) (hta _ hstat) (hta _ hini) hK.1 hP hD hS q0 q0 0 0 ha ha rfl rfl rfl (nI_pos (by omega)) (nI_pos (by omega)) (nI_pos (by omega)) (by rw [c1, c3]; exact h4) (by rw [c2, c3]; exact h5) (fun _ _ => rfl) hframes hlocals hdg ?_
  rw [c1, c2, c3]
  exact fun H1 locs1 h1 _ h3 => kk H1 locs1 h1 h3
end BASE
