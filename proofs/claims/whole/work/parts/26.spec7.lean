/-! ===== what stays true between the calls ===== -/
def INV (la le it : Nat → Int32) (mn : Nat) (xs ys : Nat → Int32) (tn : Nat) (cs : Nat → Int32) (kn : Nat) (kt ks wd hg : Nat → Int32) (an : Nat) (ml mm mi : Nat → Int32) : Prop :=
  RS la le it ml mm mi ∧ mn ≤ 16 ∧ tn ≤ 24 ∧ kn ≤ 6 ∧ CSok cs tn mn ∧ PLok xs mn ∧ PLok ys mn ∧ KOK kn kt ks ∧ PIok wd hg ∧ an ≤ 16
theorem isPl_nat {x y : Int32} (h : isPl x y = true) : (∃ a, a ≤ 1000 ∧ x = nI a) ∧ ∃ a, a ≤ 1000 ∧ y = nI a := by
  unfold isPl at h
  obtain ⟨a, -, h1, e1⟩ := inR_nat (bandl h) (by omega) (by omega)
  obtain ⟨b, -, h2, e2⟩ := inR_nat (bandr h) (by omega) (by omega)
  exact ⟨⟨a, h1, e1⟩, b, h2, e2⟩
theorem PLok_add {f : Nat → Int32} {mn : Nat} {u v : Int32} (hm : mn < 16) (h : PLok f mn) (hu : ∃ a, a ≤ 1000 ∧ u = nI a) (hv : ∃ a, a ≤ 1000 ∧ v = nI a) : PLok (upd (upd f (0 * 16 + mn) u) (1 * 16 + mn) v) (mn + 1) := by
  intro a ha q hq
  rw [upd_at, upd_at]
  by_cases e1 : q * 16 + a = 1 * 16 + mn
  · rw [if_pos e1]; exact hv
  · rw [if_neg e1]
    by_cases e0 : q * 16 + a = 0 * 16 + mn
    · rw [if_pos e0]; exact hu
    · rw [if_neg e0]
      exact h a (by omega) q hq
theorem PLok_put {f : Nat → Int32} {mn k : Nat} {u : Int32} (h : PLok f mn) (hu : ∃ a, a ≤ 1000 ∧ u = nI a) : PLok (upd f k u) mn := by
  intro a ha q hq
  rw [upd_at]
  split
  · exact hu
  · exact h a ha q hq
theorem mrk_inv {x0 y0 x1 y1 r : Int32} {mn mn' tn : Nat} {xs ys xs' ys' cs : Nat → Int32} (hmn : mn ≤ 16) (hx : PLok xs mn) (hy : PLok ys mn) (hcs : CSok cs tn mn) (h : (r, mn', xs', ys') = mrkF x0 y0 x1 y1 mn xs ys) : mn' ≤ 16 ∧ CSok cs tn mn' ∧ PLok xs' mn' ∧ PLok ys' mn' := by
  unfold mrkF at h
  split at h
  · rename_i hc
    have p0 := isPl_nat (bandl hc)
    have p1 := isPl_nat (bandr hc)
    split at h
    · rename_i hm
      have hm := of_decide_eq_true hm
      simp only [Prod.mk.injEq] at h
      obtain ⟨-, rfl, rfl, rfl⟩ := h
      exact ⟨by omega, fun i hi => ⟨(hcs i hi).1, by have := (hcs i hi).2; omega⟩, PLok_add hm hx p0.1 p1.1, PLok_add hm hy p0.2 p1.2⟩
    · simp only [Prod.mk.injEq] at h
      obtain ⟨-, rfl, rfl, rfl⟩ := h
      exact ⟨hmn, hcs, hx, hy⟩
  · simp only [Prod.mk.injEq] at h
    obtain ⟨-, rfl, rfl, rfl⟩ := h
    exact ⟨hmn, hcs, hx, hy⟩
theorem mov_inv {m q x y r : Int32} {mn : Nat} {xs ys xs' ys' : Nat → Int32} (hx : PLok xs mn) (hy : PLok ys mn) (h : (r, xs', ys') = movF m q x y mn xs ys) : PLok xs' mn ∧ PLok ys' mn := by
  unfold movF at h
  split at h
  · rename_i hc
    have p0 := isPl_nat (bandr hc)
    simp only [Prod.mk.injEq] at h
    obtain ⟨-, rfl, rfl⟩ := h
    exact ⟨PLok_put hx p0.1, PLok_put hy p0.2⟩
  · simp only [Prod.mk.injEq] at h
    obtain ⟨-, rfl, rfl⟩ := h
    exact ⟨hx, hy⟩
theorem thd_inv {a b c r : Int32} {mn tn tn' : Nat} {cs cs' : Nat → Int32} (hmn : mn ≤ 16) (htn : tn ≤ 24) (hcs : CSok cs tn mn) (h : (r, tn', cs') = thdF a b c mn tn cs) : tn' ≤ 24 ∧ CSok cs' tn' mn := by
  unfold thdF at h
  split at h
  · rename_i hc
    obtain ⟨a1, ha, rfl⟩ := inM_nat (bandl (bandl (bandl (bandl (bandl hc))))) (by omega)
    obtain ⟨b1, hb, rfl⟩ := inM_nat (bandr (bandl (bandl (bandl (bandl hc))))) (by omega)
    obtain ⟨c1, hc1, rfl⟩ := inM_nat (bandr (bandl (bandl (bandl hc)))) (by omega)
    split at h
    · simp only [Prod.mk.injEq] at h
      obtain ⟨-, rfl, rfl⟩ := h
      exact ⟨htn, hcs⟩
    · split at h
      · rename_i hm
        have hm := of_decide_eq_true hm
        simp only [Prod.mk.injEq] at h
        obtain ⟨-, rfl, rfl⟩ := h
        refine ⟨by omega, fun i hi => ?_⟩
        unfold cn
        rw [upd_at, upd_at, upd_at]
        by_cases e2 : i = 3 * tn + 2
        · rw [if_pos e2, nI_clamp (by omega)]; exact ⟨rfl, hc1⟩
        · rw [if_neg e2]
          by_cases e1 : i = 3 * tn + 1
          · rw [if_pos e1, nI_clamp (by omega)]; exact ⟨rfl, hb⟩
          · rw [if_neg e1]
            by_cases e0 : i = 3 * tn
            · rw [if_pos e0, nI_clamp (by omega)]; exact ⟨rfl, ha⟩
            · rw [if_neg e0]; exact hcs i (by omega)
      · simp only [Prod.mk.injEq] at h
        obtain ⟨-, rfl, rfl⟩ := h
        exact ⟨htn, hcs⟩
  · simp only [Prod.mk.injEq] at h
    obtain ⟨-, rfl, rfl⟩ := h
    exact ⟨htn, hcs⟩
theorem key_inv {t u r : Int32} {kn kn' : Nat} {kt ks kt' ks' : Nat → Int32} (hkn : kn ≤ 6) (hko : KOK kn kt ks) (h : (r, kn', kt', ks') = keyF t u kn kt ks) : kn' ≤ 6 ∧ KOK kn' kt' ks' := by
  unfold keyF at h
  split at h
  · rename_i hc
    obtain ⟨⟨t1, ht, rfl⟩, u1, hu, rfl⟩ := isPl_nat hc
    split at h
    · rename_i hrs
      split at h
      · rename_i hm
        have hm := of_decide_eq_true hm
        simp only [Prod.mk.injEq] at h
        obtain ⟨-, rfl, rfl, rfl⟩ := h
        refine ⟨by omega, ?_⟩
        obtain ⟨T, S, h1, h2⟩ := hko
        refine ⟨fun i => if i = kn then t1 else T i, fun i => if i = kn then u1 else S i, fun i hi => ?_, fun i hi => ?_⟩
        · rw [upd_at, upd_at]
          by_cases e : i = kn
          · simp only [if_pos e]; exact ⟨trivial, ht, trivial, hu⟩
          · simp only [if_neg e]; exact h1 i (by omega)
        · by_cases e : i + 1 = kn
          · simp only [if_pos e, if_neg (show ¬ i = kn by omega)]
            unfold rsF at hrs
            simp only [Bool.or_eq_true, Bool.and_eq_true, decide_eq_true_eq, Bool.not_eq_true', decide_eq_false_iff_not] at hrs
            have hk : kn - 1 = i := by omega
            rw [hk] at hrs
            have g := h1 i (by omega)
            rw [g.1, g.2.2.1] at hrs
            rcases hrs with z | ⟨z1, z2⟩
            · omega
            · exact ⟨(nI_ltI (by omega) (by omega)).mp z1, Nat.not_lt.mp (fun q => z2 (nI_lt q (by omega)))⟩
          · simp only [if_neg e, if_neg (show ¬ i = kn by omega)]
            exact h2 i (by omega)
      · simp only [Prod.mk.injEq] at h
        obtain ⟨-, rfl, rfl, rfl⟩ := h
        exact ⟨hkn, hko⟩
    · simp only [Prod.mk.injEq] at h
      obtain ⟨-, rfl, rfl, rfl⟩ := h
      exact ⟨hkn, hko⟩
  · simp only [Prod.mk.injEq] at h
    obtain ⟨-, rfl, rfl, rfl⟩ := h
    exact ⟨hkn, hko⟩
theorem KOK_0 (kt ks : Nat → Int32) : KOK 0 kt ks := ⟨fun _ => 0, fun _ => 0, fun i h => by omega, fun i h => by omega⟩
theorem pic_inv {q s i w h fnd r f : Int32} {le it wd hg nb wd' hg' nb' : Nat → Int32} (hpi : PIok wd hg) (hq : (r, f, wd', hg', nb') = picF q s i w h fnd le it wd hg nb) : PIok wd' hg' := by
  unfold picF at hq
  split at hq
  · rename_i hc
    obtain ⟨w1, hw0, hw1, rfl⟩ := inR_nat (bandl (bandr hc)) (by omega) (by omega)
    obtain ⟨h1, hh0, hh1, rfl⟩ := inR_nat (bandr (bandr hc)) (by omega) (by omega)
    split at hq
    · simp only [Prod.mk.injEq] at hq
      obtain ⟨-, -, rfl, rfl, -⟩ := hq
      exact hpi
    · split at hq
      · split at hq
        · simp only [Prod.mk.injEq] at hq
          obtain ⟨-, -, rfl, rfl, -⟩ := hq
          intro z hz
          rw [upd_at, upd_at]
          by_cases e : z = q.toNatClampNeg
          · rw [if_pos e, if_pos e]
            exact Or.inr ⟨w1, h1, ⟨by omega, by omega⟩, ⟨by omega, by omega⟩, rfl, rfl⟩
          · rw [if_neg e, if_neg e]; exact hpi z hz
        · simp only [Prod.mk.injEq] at hq
          obtain ⟨-, -, rfl, rfl, -⟩ := hq
          exact hpi
      · simp only [Prod.mk.injEq] at hq
        obtain ⟨-, -, rfl, rfl, -⟩ := hq
        exact hpi
  · simp only [Prod.mk.injEq] at hq
    obtain ⟨-, -, rfl, rfl, -⟩ := hq
    exact hpi
theorem szN_le (k : Nat) : szN k ≤ 16 := by unfold szN; split; omega; split <;> omega
theorem mkN_le (k : Nat) : mkN k ≤ 16 := by unfold mkN; split; omega; split <;> omega
theorem ask_inv {t w r : Int32} {tn an an' : Nat} {cs xs ys tr tr' : Nat → Int32} (han : an ≤ 16) (h : (r, an', tr') = askF t w tn cs xs ys an tr) : an' ≤ 16 := by
  unfold askF at h
  split at h
  · split at h
    · simp only [Prod.mk.injEq] at h
      obtain ⟨-, rfl, -⟩ := h
      exact szN_le _
    · simp only [Prod.mk.injEq] at h
      obtain ⟨-, rfl, -⟩ := h
      exact mkN_le _
  · simp only [Prod.mk.injEq] at h
    obtain ⟨-, rfl, -⟩ := h
    exact han
theorem plOf_00 : plOf (fun _ => 0) (fun _ => 0) = fun _ => 0 := by
  funext i
  unfold plOf
  split
  · split
    · rfl
    · split
      · rfl
      · split <;> rfl
  · rfl
theorem INV_0 {le ml : Nat → Int32} (h1 : ∀ s, s < 8 → le s = (-1)) (h2 : ∀ s, s < 8 → ml s = (-1)) : INV (fun _ => 0) le (fun _ => 0) 0 (fun _ => 0) (fun _ => 0) 0 (fun _ => 0) 0 (fun _ => 0) (fun _ => 0) (fun _ => 0) (fun _ => 0) 0 ml (fun _ => 0) (fun _ => 0) :=
  ⟨fun s hs => Or.inl ⟨h1 s hs, h2 s hs⟩, by omega, by omega, by omega, fun i h => by omega, fun a h => by omega, fun a h => by omega, KOK_0 _ _, fun q _ => Or.inl rfl, by omega⟩
/-! ===== constructors: new cells behind the world that is there ===== -/
def QI (D : va_G) (sz : Nat) (w : va_W) (Post : va_W → Prop) : Array Value → State → Outcome → State → Prop := fun _ st oc t =>
  ∃ w' : va_W, oc = .returned none ∧ Post w' ∧ va_P D vwCl w' t.heap ∧ va_D (va_A w sz) w' ∧ va_F (va_A w sz) st t
def rmI (fr lo mc ms : Nat) : Room := { frames := fr, cells := mc, slots := ms, locals := lo }
def PI0 (D : va_G) (cI : ClassId) (av : List Value) (w : va_W) (sz : Nat) : Array Value → State → Prop := va_Pc av (fun U => U.heap.size = sz ∧ va_P D vwCl w U.heap ∧ va_D (fun _ => True) w ∧ KB D cI U)
theorem PI0.blind {D : va_G} {cI : ClassId} {av : List Value} {w : va_W} {sz : Nat} : FrameBlind (PI0 D cI av w sz) := fun _ _ _ _ q => ⟨q.1, q.2.1, q.2.2.1, q.2.2.2.1, q.2.2.2.2.same rfl⟩
def CI (l : Launch) (y : MethodName) (ws : List Cond) (fr lo mc ms : Nat) (D : va_G) (cI : ClassId) (av : List Value) (w : va_W) (Post : va_W → Prop) : Prop := ∀ sz : Nat, Met l y ws (rmI fr lo mc ms) (PI0 D cI av w sz) (QI D sz w Post) mc ms (va_A w sz)
theorem CI.of {l : Launch} {y : MethodName} {cc : ByteArray} {maxL fr lo mc ms : Nat} {D : va_G} {cI : ClassId} {av : List Value} {w : va_W} {Post : va_W → Prop} (hy : plainName y.cls = true) (hi : y.name = "<init>") (hn : (lg_sl av).length ≤ maxL)
    (body : ∀ (p : Program) (e : Env) (s : State) (m : MethodId) (below : List Frame) (meth : Method) (c : Code), p.tables.exec = Jvm.exec → c.code = cc → meth.sig.returnType = none → c.maxLocals = maxL → s.vm.findClass y.cls = some m.cls → meth.locks = false → meth.name = "<init>" → (∀ q ∈ WA, q.before av.toArray s = true) → va_P D vwCl w s.heap → va_D (va_A w s.heap.size) w → KB D cI s → va_S (va_A w s.heap.size) s.heap s.heap [] → (∀ q, s.heap.size ≤ q → va_A w s.heap.size q) → ∀ ls : Array Slot, lv_has ls maxL (lv_args 0 av) →
      W p l e (rmI fr lo mc ms) s m av.toArray below meth c s.heap [] 0 0 (MQ below (QI D s.heap.size w Post) av.toArray s mc ms (va_A w s.heap.size)) (F0 m 0 ls [])) : CI l y (wm y cc maxL none) fr lo mc ms D cI av w Post := by
  intro sz
  refine Met.ofW (cc := cc) (maxL := maxL) (ret := none) hy rfl ?_
  intro p e s m args below meth c s₁ B hml hv
  obtain ⟨rfl, rfl, hP, hD, hK⟩ := hv
  have hts := atoms_spec (ws := wm y cc maxL none) B.pre
  rw [lg_entry_eq]
  exact body p e s m below meth c B.exec B.bytes B.returns hml (findClass_of_methodNamed B.named) B.notSynchronized ((name_of_methodNamed B.named B.method).1.trans hi) (fun q h => hts q (List.mem_cons_of_mem _ h)) hP hD.self hK va_S.rf (fun q h => Or.inr h) _ (lv_entry av hn)
section BASEI
variable {p : Program} {l : Launch} {e : Env} {R : Room} {s : State} {m : MethodId} {args : Array Value} {below : List Frame} {meth : Method} {c : Code} {H : Heap} {locs : List Loc} {cells slots : Nat} {Q : State → Prop} {pc : Nat} {ls : Array Slot} {rest : List Value} {cc : ByteArray}
variable {D : va_G} {cI : ClassId} {w w' ws wr : va_W} {Post : va_W → Prop} {A : Nat → Prop} {H0 : Heap} {mc ms : Nat}
theorem rIv (hx : p.tables.exec = Jvm.exec) (hb : c.code = cc) (hr : meth.sig.returnType = none) (hlocks : meth.locks = false) (hdg : decode cc pc = .ok (.return_, 1)) (hP : va_P D vwCl w' H) (hD : va_D (va_A w s.heap.size) w') (hS : va_S (va_A w s.heap.size) s.heap H locs) (hq : Post w') :
    W p l e R s m args below meth c H locs mc ms (MQ below (QI D s.heap.size w Post) args s mc ms (va_A w s.heap.size)) (F0 m pc ls []) :=
  W.vret hx hb hr (fun t ht _ => ⟨w', rfl, hq, by rw [ht]; exact hP, hD, hS.F ht⟩) hS.2.2 hdg hlocks
theorem newaC {N : Nat} (hx : p.tables.exec = Jvm.exec) (hb : c.code = cc) (hta : ∀ q ∈ WA, q.before args s = true) (harr : Cond.arrayClass .int ∈ WA) (hK : KB D cI s) (hP : va_P D vwCl ws H) (hD : va_D A ws) (hS : va_S A H0 H locs) (hA : ∀ q, H0.size ≤ q → A q) (hN : N < 2 ^ 20) (hcells : cells + 1 ≤ R.cells) (hslots : slots + N ≤ R.slots) (hdg : decode cc pc = .ok (.newarray .int, 2))
    (kk : ∀ (q : Nat) (H1 : Heap), va_P D vwCl (ws ++ [(q, .inl (cI, N, .inl (fun _ => 0)))]) H1 → va_D A (ws ++ [(q, .inl (cI, N, .inl (fun _ => 0)))]) → va_S A H0 H1 locs → W p l e R s m args below meth c H1 locs (cells + 1) (slots + N) Q (F0 m (pc + 2) ls (.ref q :: rest))) : W p l e R s m args below meth c H locs cells slots Q (F0 m pc ls (.int (nI N) :: rest)) := by
  refine va_newa (atype := .int) (ty := .int) (a0 := (N, .inl (fun _ => 0))) hx hb (hta _ harr) rfl hK.1 hP hD hS hA (fun _ => rfl) (nI_pos (by omega)) (nI_clamp (by omega)) (by show N * 4 ≤ _; omega) hcells hslots hdg ?_
  intro q cA H1 hK2 hP2 hD2 hS2
  have e : cI = cA := by
    have h1 : s.vm.findClass ("[" ++ FieldType.int.toString) = some cA := (hK2.2 1 (cA, .int) rfl).2
    have h2 : s.vm.findClass ("[" ++ FieldType.int.toString) = some cI := (hK.1.2 0 (cI, .int) rfl).2
    exact Option.some.inj (h2.symm.trans h1)
  subst e
  exact kk q H1 hP2 hD2 hS2
theorem putFX {own ref C : String} {T : u_T} {N ci index : Nat} {a : Nat} (hx : p.tables.exec = Jvm.exec) (hb : c.code = cc) (hta : ∀ q ∈ WA, q.before args s = true) (hin : ∀ q ∈ u_ws C T N, q ∈ WA) (ty0 : Nat → FieldType) (hty : ∀ k, k < N → parseFieldDescriptor (T k).2.2.1 = some (ty0 k)) (hnm : ∀ a, a < N → ∀ b, b < N → a ≠ b → (T a).2.1 ≠ (T b).2.1) (hown : s.vm.findClass own = some m.cls) (hK : KB D cI s) (hP : va_P D vwCl ws H) (hD : va_D A ws) (hS : va_S A H0 H locs) (q0 : Nat) {fs : List Value} (he : ws[q0]? = some (a, .inr (ci, fs))) (hc : vwCl[ci]? = some (C, T, N)) (k : Nat) (hk : k < N) (hlink : Cond.fieldLink own index ref (T k).2.1 (T k).2.2.1 ∈ WA) (hsame : (T k).1 = ref) (hfin : (T k).2.2.2 = true) (hin2 : meth.name = "<init>") (hdecl : (T k).1 = own) {v : Value} (hn : narrow (ty0 k) v = v) (hfit : fits (ty0 k) v = true) (hl : k < fs.length) (hdg : decode cc pc = .ok (.putfield index, 3))
    (kk : ∀ (H1 : Heap) (locs1 : List Loc), va_P D vwCl (ws.set q0 (a, .inr (ci, fs.set k v))) H1 → va_S A H0 H1 locs1 → W p l e R s m args below meth c H1 locs1 cells slots Q (F0 m (pc + 3) ls rest)) : W p l e R s m args below meth c H locs cells slots Q (F0 m pc ls (v :: .ref a :: rest)) :=
  va_putF hx hb hta hin ty0 hty hnm hown hK.1 hP hD hS q0 he hc k hk (hta _ hlink) (fun x h9 => by rw [hsame] at h9; exact h9) hfin hin2 hdecl (hty k hk) hn hfit hl hdg (fun H1 locs1 h1 _ h3 => kk H1 locs1 h1 h3)
/-- behind a constructor's call: its cells, and the rest as it was -/
theorem goI {a : Array Value} {st0 : List Value} (hr : va_Run p l e R s m args below meth c H locs cells slots mc ms (F0 m pc ls st0) rest (QI D H.size w Post a) (va_A w H.size)) (hP : va_P D vwCl ws H) (hD : va_D A ws) (hS : va_S A H0 H locs) (hA : ∀ q, H0.size ≤ q → A q) (isC isR : List Nat) (hC : isC.map (fun i => ws[i]?) = w.map some) (hR : isR.map (fun i => ws[i]?) = wr.map some) (hn : va_nd isR = true) (hdis : ∀ i ∈ isR, i ∉ isC)
    (kk : ∀ (w' : va_W) (H1 : Heap) (locs1 : List Loc), Post w' → va_P D vwCl (wr ++ w') H1 → va_D A (wr ++ w') → va_S A H0 H1 locs1 → W p l e R s m args below meth c H1 locs1 (cells + mc) (slots + ms) Q (F0 m (pc + 3) ls rest)) : W p l e R s m args below meth c H locs cells slots Q (F0 m pc ls st0) := by
  have hF := va_free hD hS hA isC hC
  intro T hT X
  obtain ⟨v', st₀, t, T', L, h0, X', hL, e1, e2, ⟨w', hv, hq, hPw, hDw, hz, hk⟩, st⟩ := hr T hT X
  cases hv
  rw [h0] at hz hk
  obtain ⟨hP1, hD1⟩ := va_join hP hD isC isR hC hR hn hdis (H1 := T'.heap) (fun q h1 h2 => by rw [e1]; exact hk q h1 h2) hF (by rw [e1]; exact hPw) hDw
  obtain ⟨t2, a1, b1⟩ := kk w' T'.heap (locs ++ L) hq hP1 hD1
    ⟨Nat.le_trans hS.1 (by rw [e1]; exact hz), fun q h1 h2 => by rw [e1, hk q (Nat.lt_of_lt_of_le h1 hS.1) (fun z => h2 (hF q z))]; exact hS.2.1 q h1 h2, fun q hq => by
      rcases List.mem_append.mp hq with h | h
      · exact hS.2.2 q h
      · exact hF _ (hL q h)⟩ T' rfl X'
  exact ⟨t2, st t2 a1, b1⟩
variable {y : MethodName} {bytes : ByteArray} {maxL nL n index fr lo : Nat} {own host : String} {b : Addr} {As : List Value}
theorem preI (hK : KB D cI s) (hP : va_P D vwCl ws H) (hD : va_D A ws) (isC : List Nat) (hC : isC.map (fun i => ws[i]?) = w.map some) (hnd : va_nd isC = true) : PreS s H (PI0 D cI (.ref b :: As) w H.size) (.ref b :: As) :=
  ⟨PI0.blind, fun U hU hW => ⟨rfl, by rw [hU], by rw [hU]; exact hP.sub isC (fm_of_map hC), (hD.sub isC hnd hC).any, hK.warm hW⟩⟩
theorem kI (S : CallFix p m c cc nL s args WA own) (hM : CI l y (wm y bytes maxL none) fr lo mc ms D cI (.ref b :: As) w Post)
    (hl : Cond.methodLink own index y ∈ WA) (hc : Cond.code y bytes maxL none ∈ WA) (hi : Cond.instanceMethod y ∈ WA) (hini : Cond.initialized y.cls ∈ WA) (hnm : y.name = "<init>")
    (hd : y.cls ≠ "java/lang/invoke/MethodHandle" ∧ y.cls ≠ "java/lang/invoke/VarHandle" ∧ (parseMethodDescriptor y.desc).map (fun d => d.parameters.length) = some n) (hRm : fr + 1 ≤ R.frames ∧ 8 + (maxL + 11) + lo ≤ R.locals) (hnn : As.length = n)
    (hK : KB D cI s) (hP : va_P D vwCl ws H) (hD : va_D A ws) (hS : va_S A H0 H locs) (hA : ∀ q, H0.size ≤ q → A q) (isC isR : List Nat) (hC : isC.map (fun i => ws[i]?) = w.map some) (hnd : va_nd isC = true) (hR : isR.map (fun i => ws[i]?) = wr.map some) (hn : va_nd isR = true) (hdis : ∀ i ∈ isR, i ∉ isC)
    (hsz : ls.size = nL) (hW : (rest.map fun v => v.category).sum ≤ 8) (hdg : decode cc pc = .ok (.invokespecial index, 3)) (hcs : cells + mc ≤ R.cells ∧ slots + ms ≤ R.slots)
    (kk : ∀ (w' : va_W) (H1 : Heap) (locs1 : List Loc), Post w' → va_P D vwCl (wr ++ w') H1 → va_D A (wr ++ w') → va_S A H0 H1 locs1 → W p l e R s m args below meth c H1 locs1 (cells + mc) (slots + ms) Q (F0 m (pc + 3) ls rest)) : W p l e R s m args below meth c H locs cells slots Q (F0 m pc ls (As.reverse ++ .ref b :: rest)) :=
  goI (va_runI S (hM H.size) ⟨callB_of n S.2.2.2.2 (wm_good hc) rfl rfl rfl (S.2.2.2.2 _ hini) (S.2.2.2.2 _ hl) hd hRm, hnm, S.2.2.2.2 _ hi⟩ (preI hK hP hD isC hC hnd) rfl hnn hsz rfl (lv_room hW) hdg hcs) hP hD hS hA isC isR hC hR hn hdis kk
theorem kIN (S : CallFix p m c cc nL s args WA own) (hM : CI l y (wm y bytes maxL none) fr lo mc ms D cI (.ref b :: As) w Post)
    (hl : va_Nw (.methodLinkNest own index y host) s) (hc : Cond.code y bytes maxL none ∈ WA) (hi : Cond.instanceMethod y ∈ WA) (hini : Cond.initialized y.cls ∈ WA) (hnm : y.name = "<init>")
    (hd : y.cls ≠ "java/lang/invoke/MethodHandle" ∧ y.cls ≠ "java/lang/invoke/VarHandle" ∧ (parseMethodDescriptor y.desc).map (fun d => d.parameters.length) = some n) (hRm : fr + 1 ≤ R.frames ∧ 8 + (maxL + 11) + lo ≤ R.locals) (hnn : As.length = n)
    (hK : KB D cI s) (hP : va_P D vwCl ws H) (hD : va_D A ws) (hS : va_S A H0 H locs) (hA : ∀ q, H0.size ≤ q → A q) (isC isR : List Nat) (hC : isC.map (fun i => ws[i]?) = w.map some) (hnd : va_nd isC = true) (hR : isR.map (fun i => ws[i]?) = wr.map some) (hn : va_nd isR = true) (hdis : ∀ i ∈ isR, i ∉ isC)
    (hsz : ls.size = nL) (hW : (rest.map fun v => v.category).sum ≤ 8) (hdg : decode cc pc = .ok (.invokespecial index, 3)) (hcs : cells + mc ≤ R.cells ∧ slots + ms ≤ R.slots)
    (kk : ∀ (w' : va_W) (H1 : Heap) (locs1 : List Loc), Post w' → va_P D vwCl (wr ++ w') H1 → va_D A (wr ++ w') → va_S A H0 H1 locs1 → W p l e R s m args below meth c H1 locs1 (cells + mc) (slots + ms) Q (F0 m (pc + 3) ls rest)) : W p l e R s m args below meth c H locs cells slots Q (F0 m pc ls (As.reverse ++ .ref b :: rest)) :=
  goI (va_runIN S (hM H.size) ⟨va_cnB n S.2.2.2.2 (wm_good hc) rfl rfl rfl hl (S.2.2.2.2 _ hini) hd hRm, hnm, S.2.2.2.2 _ hi⟩ (preI hK hP hD isC hC hnd) rfl hnn hsz rfl (lv_room hW) hdg hcs) hP hD hS hA isC isR hC hR hn hdis kk
end BASEI
theorem arr_known {s : State} {args : Array Value} (h : (Cond.arrayClass .int).before args s = true) : ∃ cI : ClassId, ArrOfT s cI .int ∧ va_RA s cI .int := by
  obtain ⟨c, k, comp, h1, h2, h3⟩ := Cond.arrayClass_spec h
  exact ⟨c, fun n z => ⟨fun k h => (by cases h), k, h2, comp, h3⟩, h1⟩
