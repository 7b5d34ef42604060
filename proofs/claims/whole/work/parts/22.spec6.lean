/-! ===== more pure rows for the reference ===== -/
theorem topL {p : Program} {l : Launch} {e : Env} {R : Room} {s : State} {m : MethodId} {args : Array Value} {below : List Frame} {meth : Method} {c : Code} {H : Heap} {locs : List Loc} {cells slots : Nat} {Q : State → Prop} {pc : Nat} {ls : Array Slot} {rest : List Value} {x : Int64} (j : Int64) (h : x = j) (k : W p l e R s m args below meth c H locs cells slots Q (F0 m pc ls (.long j :: rest))) : W p l e R s m args below meth c H locs cells slots Q (F0 m pc ls (.long x :: rest)) := by rw [h]; exact k
/-! areas of pictures fit ints -/
theorem lN_sub_small {a b : Nat} (ha : a ≤ 1000) (hb : b ≤ 1000) : (lN a - lN b).toInt = (a : Int) - b := lN_sub_toInt (by omega) (by omega)
theorem arL_small {ax ay bx b_y cx cy : Nat} (h1 : ax ≤ 1000) (h2 : ay ≤ 1000) (h3 : bx ≤ 1000) (h4 : b_y ≤ 1000) (h5 : cx ≤ 1000) (h6 : cy ≤ 1000) : -2000000 ≤ (arL (lN ax) (lN ay) (lN bx) (lN b_y) (lN cx) (lN cy)).toInt ∧ (arL (lN ax) (lN ay) (lN bx) (lN b_y) (lN cx) (lN cy)).toInt ≤ 2000000 := by
  have d1 := lN_sub_small h3 h1
  have d2 := lN_sub_small h6 h2
  have d3 := lN_sub_small h4 h2
  have d4 := lN_sub_small h5 h1
  have m1 := abs_mul (M := 1000) (a := (bx : Int) - ax) (b := (cy : Int) - ay) ⟨by omega, by omega⟩ ⟨by omega, by omega⟩
  have m2 := abs_mul (M := 1000) (a := (b_y : Int) - ay) (b := (cx : Int) - ax) ⟨by omega, by omega⟩ ⟨by omega, by omega⟩
  have p1 : ((lN bx - lN ax) * (lN cy - lN ay)).toInt = ((bx : Int) - ax) * ((cy : Int) - ay) := by
    rw [sL_mul (by rw [d1, d2]; omega) (by rw [d1, d2]; omega), d1, d2]
  have p2 : ((lN b_y - lN ay) * (lN cx - lN ax)).toInt = ((b_y : Int) - ay) * ((cx : Int) - ax) := by
    rw [sL_mul (by rw [d3, d4]; omega) (by rw [d3, d4]; omega), d3, d4]
  unfold arL
  rw [sL_sub (by rw [p1, p2]; omega) (by rw [p1, p2]; omega), p1, p2]
  omega
theorem aIn_toInt {xs ys cs : Nat → Int32} {mn tn t q : Nat} (hx : PLok xs mn) (hy : PLok ys mn) (hcs : CSok cs tn mn) (ht : t < tn) (hq : q < 2) : (aIn cs xs ys t q).toInt = (tAr cs xs ys t (nI q) (nI 1)).toInt := by
  have ca := (hcs (3 * t + 0) (by omega)).2
  have cb := (hcs (3 * t + 1) (by omega)).2
  have cc := (hcs (3 * t + 2) (by omega)).2
  rw [← tAr_1 hq]
  have hb : -2000000 ≤ (tAr cs xs ys t (nI q) (nI 1)).toInt ∧ (tAr cs xs ys t (nI q) (nI 1)).toInt ≤ 2000000 := by
    unfold tAr
    rw [tk_1 hq, tk_1 hq, tk_1 hq, tk_1 hq, tk_1 hq, tk_1 hq]
    obtain ⟨v1, l1, e1⟩ := hx _ ca q hq
    obtain ⟨v2, l2, e2⟩ := hy _ ca q hq
    obtain ⟨v3, l3, e3⟩ := hx _ cb q hq
    obtain ⟨v4, l4, e4⟩ := hy _ cb q hq
    obtain ⟨v5, l5, e5⟩ := hx _ cc q hq
    obtain ⟨v6, l6, e6⟩ := hy _ cc q hq
    rw [e1, e2, e3, e4, e5, e6, nI_l (by omega), nI_l (by omega), nI_l (by omega), nI_l (by omega), nI_l (by omega), nI_l (by omega)]
    exact arL_small l1 l2 l3 l4 l5 l6
  rw [Int64.toInt_toInt32, Int.bmod_eq_of_le (by omega) (by omega)]
theorem aIn_pos {xs ys cs : Nat → Int32} {mn tn t q : Nat} (hx : PLok xs mn) (hy : PLok ys mn) (hcs : CSok cs tn mn) (ht : t < tn) (hq : q < 2) : (0 < aIn cs xs ys t q) = (0 < tAr cs xs ys t (nI q) (nI 1)) := by
  rw [Int32.lt_iff_toInt_lt, Int64.lt_iff_toInt_lt, aIn_toInt hx hy hcs ht hq]; rfl
theorem aIn_zero {xs ys cs : Nat → Int32} {mn tn t q : Nat} (hx : PLok xs mn) (hy : PLok ys mn) (hcs : CSok cs tn mn) (ht : t < tn) (hq : q < 2) : (aIn cs xs ys t q = 0) = (tAr cs xs ys t (nI q) (nI 1) = 0) := by
  rw [← Int32.toInt_inj, ← Int64.toInt_inj, aIn_toInt hx hy hcs ht hq]; rfl
/-! easing by keys that rise -/
def KOK (kn : Nat) (kt ks : Nat → Int32) : Prop := ∃ T S : Nat → Nat, (∀ i, i < kn → kt i = nI (T i) ∧ T i ≤ 1000 ∧ ks i = nI (S i) ∧ S i ≤ 1000) ∧ ∀ i, i + 1 < kn → T i < T (i + 1) ∧ S i ≤ S (i + 1)
theorem KOK_ne {kn : Nat} {kt ks : Nat → Int32} (h : KOK kn kt ks) : ∀ i, 0 < i → i < kn → ¬ kt i - kt (i - 1) = 0 := by
  obtain ⟨T, S, h1, h2⟩ := h
  intro i hi hk e
  have a1 := h1 i hk
  have a2 := h1 (i - 1) (by omega)
  have a3 := (h2 (i - 1) (by omega)).1
  rw [show i - 1 + 1 = i by omega] at a3
  rw [a1.1, a2.1, pk_sub (by omega)] at e
  exact nI_ne0 (by omega) (by omega) e
def shG (kn : Nat) (kt ks : Nat → Int32) (t : Int32) : Nat → Nat → Int32
  | _, 0 => ks (kn - 1)
  | k, r + 1 => if kt k < t then shG kn kt ks t (k + 1) r else shB kt ks (k - 1) k t
theorem shB_lo {kt ks : Nat → Int32} {f g : Nat} : shB kt ks f g (kt f) = ks f := by
  unfold shB
  have e : kt f - kt f = 0 := Int32.sub_self _
  rw [e, Int32.mul_zero, Int32.zero_div, Int32.add_zero]
theorem shB_hi {kn : Nat} {kt ks : Nat → Int32} (h : KOK kn kt ks) {k : Nat} (h0 : 0 < k) (hk : k < kn) : shB kt ks (k - 1) k (kt k) = ks k := by
  obtain ⟨T, S, h1, h2⟩ := h
  have a1 := h1 k hk
  have a2 := h1 (k - 1) (by omega)
  have a3 := h2 (k - 1) (by omega)
  rw [show k - 1 + 1 = k by omega] at a3
  unfold shB
  rw [a1.1, a2.1, a1.2.2.1, a2.2.2.1, pk_sub (by omega), pk_sub (by omega), pk_mul]
  have hm : (S k - S (k - 1)) * (T k - T (k - 1)) ≤ 1000 * 1000 := Nat.mul_le_mul (by omega) (by omega)
  rw [pk_div (by omega) (by omega) (by omega), Nat.mul_div_cancel _ (by omega), nI_add]
  congr 1
  omega
theorem shF_at {kn : Nat} {kt ks : Nat → Int32} (h : KOK kn kt ks) {j r : Nat} (hr : j + 1 + r = kn) : shF kn kt ks (kt j) (j + 1) r = ks j := by
  obtain ⟨T, S, h1, h2⟩ := h
  cases r with
  | zero => rw [shF]; congr 1; omega
  | succ r =>
    have a1 := (h1 (j + 1) (by omega)).1
    have a2 := (h1 j (by omega)).1
    have a3 := (h2 j (by omega)).1
    have b1 := (h1 (j + 1) (by omega)).2.1
    rw [shF, if_pos (by rw [a1, a2]; exact nI_lt a3 (by omega)), Nat.add_sub_cancel]
    exact shB_lo
theorem shG_F {kn : Nat} {kt ks : Nat → Int32} (h : KOK kn kt ks) {t : Int32} : ∀ {r k : Nat}, 0 < k → k + r = kn → shF kn kt ks t k r = shG kn kt ks t k r
  | 0, k, _, _ => rfl
  | r + 1, k, h0, hk => by
    rw [shG]
    by_cases h1 : kt k < t
    · rw [if_pos h1, shF, if_neg (fun z => absurd (Int32.lt_trans z h1) Int32.lt_irrefl)]
      exact shG_F h (by omega) (by omega)
    · rw [if_neg h1]
      by_cases h2 : t < kt k
      · rw [shF, if_pos h2]
      · have e : t = kt k := Int32.le_antisymm (Int32.not_lt.mp h1) (Int32.not_lt.mp h2)
        rw [e, shF, if_neg Int32.lt_irrefl, shF_at h (by omega), shB_hi h h0 (by omega)]
theorem shA_G {kn : Nat} {kt ks : Nat → Int32} (h : KOK kn kt ks) {t : Int32} (hk : ¬ kn = 0) : shA kn kt ks t = if kt 0 < t then shG kn kt ks t 1 (kn - 1) else ks 0 := by
  rw [shA, if_neg hk]
  by_cases h1 : kt 0 < t
  · rw [if_pos h1, if_neg (fun z => absurd (Int32.lt_trans z h1) Int32.lt_irrefl)]
    exact shG_F h (by omega) (by omega)
  · rw [if_neg h1]
    by_cases h2 : t < kt 0
    · rw [if_pos h2]
    · have e : t = kt 0 := Int32.le_antisymm (Int32.not_lt.mp h1) (Int32.not_lt.mp h2)
      rw [if_neg h2, e]
      exact shF_at (j := 0) h (by omega)
/-! pictures, places by four numbers -/
theorem plOf_w {xs ys : Nat → Int32} {c w : Nat} (hc : c < 16) (hw : w < 4) : plOf xs ys (4 * c + w) = pw xs ys (w % 2) (w / 2 * 16 + c) := plOf_q hc (by omega) (by omega) (by omega)
theorem og_pw {xs ys cs : Nat → Int32} {t q w : Nat} {b1 b2 b3 ba : Int64} : ogF (pw xs ys w) cs t q b1 b2 b3 ba = if w = 0 then ogF xs cs t q b1 b2 b3 ba else ogF ys cs t q b1 b2 b3 ba := by
  unfold pw
  split <;> rfl
theorem PI_dec {wd hg : Nat → Int32} (h : PIok wd hg) {q : Nat} (hq : q < 2) : decide (0 < wd q) = !decide (wd q = 0) := by
  rcases h q hq with e | ⟨w, g, hw, -, e, -⟩
  · rw [e]; decide
  · rw [e, decide_eq_true (show (0 : Int32) < nI w from nI_lt hw.1 (by omega)), decide_eq_false (nI_ne0 hw.1 (by omega))]; rfl
/-! rows paired -/
theorem abI_p {v : Int32} (h : ¬ v < 0) : abI v = v := by rw [abI, if_pos (Int32.not_lt.mp h)]
theorem abI_n {v : Int32} (h : v < 0) : abI v = -v := by rw [abI, if_neg (Int32.not_le.mpr h), Int32.zero_sub]
theorem rdI {mi it : Nat → Int32} {a n z k : Nat} (h : ∀ z, z < n → mi (a * 144 + z) = it (a * 144 + z)) (hk : k = a * 144 + z) (hz : z < n) : mi k = it (a * 144 + z) := by rw [hk]; exact h z hz
theorem mn3 (u l d : Int32) : (if l < (if u < d then u else d) then l else (if u < d then u else d)) = mnI (mnI u l) d := by
  unfold mnI
  apply Int32.toInt_inj.mp
  by_cases h1 : u < d <;> by_cases h2 : l < u <;> by_cases h3 : l < d <;> by_cases h4 : d < u <;> by_cases h5 : d < l <;> simp only [h1, h2, h3, h4, h5, if_true, if_false] <;> simp only [Int32.lt_iff_toInt_lt] at h1 h2 h3 h4 h5 <;> omega
def BI (it : Nat → Int32) (a n : Nat) : Prop := ∀ z, z < n → ∃ v, v ≤ 1000 ∧ it (a * 144 + z) = nI v
theorem abI_nat {a b : Nat} (ha : a ≤ 1000) (hb : b ≤ 1000) : ∃ v, v ≤ 1000 ∧ abI (nI a - nI b) = nI v := by
  by_cases h : b ≤ a
  · rw [pk_sub h, abI_p (nI_pos (by omega))]
    exact ⟨a - b, by omega, rfl⟩
  · have hs := pk_sub_toInt (a := a) (b := b) (by omega) (by omega)
    have hn : nI a - nI b < 0 := pk_sneg (by omega) (by omega)
    rw [abI_n hn]
    refine ⟨b - a, by omega, ?_⟩
    rw [Int32.neg_sub, pk_sub (by omega)]
theorem apF_nat {it : Nat → Int32} {a b na nb i j : Nat} (ha : BI it a (2 * na)) (hb : BI it b (2 * nb)) (hi : i < na) (hj : j < nb) : ∃ v, v ≤ 2000 ∧ apF it a b i j = nI v := by
  obtain ⟨v1, l1, e1⟩ := ha (2 * i) (by omega)
  obtain ⟨v2, l2, e2⟩ := hb (2 * j) (by omega)
  obtain ⟨v3, l3, e3⟩ := ha (2 * i + 1) (by omega)
  obtain ⟨v4, l4, e4⟩ := hb (2 * j + 1) (by omega)
  obtain ⟨w1, g1, f1⟩ := abI_nat l1 l2
  obtain ⟨w2, g2, f2⟩ := abI_nat l3 l4
  refine ⟨w1 + w2, by omega, ?_⟩
  rw [apF, e1, e2, e3, e4, f1, f2, nI_add]
/-- what the table of costs holds once (i, j) is reached -/
def DB (g : Nat → Int32) (nb i j : Nat) : Prop := ∀ x y, y < nb → (x < i ∨ (x = i ∧ y < j)) → ∃ v, v ≤ 2000 * (x + y + 1) ∧ g (x * 30 + y) = nI v
theorem DB_row {g : Nat → Int32} {nb i : Nat} (h : DB g nb i nb) : DB g nb (i + 1) 0 := fun x y hy hx => h x y hy (by omega)
theorem DB_lt {g : Nat → Int32} {nb i j x y k : Nat} (h : DB g nb i j) (hy : y < nb) (hx : x < i ∨ (x = i ∧ y < j)) (hb : x + y < 60) (hk : k = x * 30 + y) : g k < 1000000000 := by
  obtain ⟨v, l, e⟩ := h x y hy hx
  rw [hk, e]
  exact nI_lt (a := v) (b := 1000000000) (by omega) (by omega)
theorem mnI_or (x y : Int32) : mnI x y = x ∨ mnI x y = y := by unfold mnI; split; exact Or.inr rfl; exact Or.inl rfl
theorem cAh_nat {g : Nat → Int32} {nb i j : Nat} (h : DB g nb i j) (hj : j < nb) : ∃ v, v ≤ 2000 * (i + j) ∧ cAh g i j = nI v := by
  unfold cAh
  by_cases hi : i = 0
  · rw [if_pos hi]
    by_cases hj0 : j = 0
    · rw [if_pos hj0]; exact ⟨0, by omega, rfl⟩
    · rw [if_neg hj0]
      obtain ⟨v, l, e⟩ := h 0 (j - 1) (by omega) (by omega)
      refine ⟨v, by omega, ?_⟩
      rw [← e]; congr 1; omega
  · rw [if_neg hi]
    by_cases hj0 : j = 0
    · rw [if_pos hj0]
      obtain ⟨v, l, e⟩ := h (i - 1) 0 (by omega) (by omega)
      refine ⟨v, by omega, ?_⟩
      rw [← e]; congr 1
    · rw [if_neg hj0]
      obtain ⟨v1, l1, e1⟩ := h (i - 1) j hj (by omega)
      obtain ⟨v2, l2, e2⟩ := h i (j - 1) (by omega) (by omega)
      obtain ⟨v3, l3, e3⟩ := h (i - 1) (j - 1) (by omega) (by omega)
      have q2 : i * 30 + j - 1 = i * 30 + (j - 1) := by omega
      have q3 : (i - 1) * 30 + j - 1 = (i - 1) * 30 + (j - 1) := by omega
      rw [q2, q3, e1, e2, e3]
      rcases mnI_or (mnI (nI v1) (nI v2)) (nI v3) with g1 | g1
      · rw [g1]
        rcases mnI_or (nI v1) (nI v2) with g2 | g2
        · rw [g2]; exact ⟨v1, by omega, rfl⟩
        · rw [g2]; exact ⟨v2, by omega, rfl⟩
      · rw [g1]; exact ⟨v3, by omega, rfl⟩
theorem DB_put {g : Nat → Int32} {nb i j : Nat} {w : Nat} {a : Int32} (hnb : nb ≤ 30) (h : DB g nb i j) (hj : j < nb) (hw : w ≤ 2000) (ha : a = nI w) : DB (upd g (i * 30 + j) (a + cAh g i j)) nb i (j + 1) := by
  intro x y hy hx
  rw [upd_at]
  by_cases e : x * 30 + y = i * 30 + j
  · rw [if_pos e]
    obtain ⟨v, l, ev⟩ := cAh_nat h hj
    refine ⟨w + v, ?_, by rw [ha, ev, nI_add]⟩
    have : x = i ∧ y = j := by omega
    omega
  · rw [if_neg e]
    exact h x y hy (by omega)
/-- every cell is what it was made of -/
def FX (ap : Nat → Nat → Int32) (g : Nat → Int32) (nb i j : Nat) : Prop := ∀ x y, y < nb → (x < i ∨ (x = i ∧ y < j)) → g (x * 30 + y) = ap x y + cAh g x y
theorem cAh_keep {g : Nat → Int32} {i j x y nb : Nat} {v : Int32} (hnb : nb ≤ 30) (hy : y < nb) (hj : j < nb) (hx : x < i ∨ (x = i ∧ y ≤ j)) : cAh (upd g (i * 30 + j) v) x y = cAh g x y := by
  unfold cAh
  by_cases h1 : x = 0
  · rw [if_pos h1, if_pos h1]
    by_cases h2 : y = 0
    · rw [if_pos h2, if_pos h2]
    · rw [if_neg h2, if_neg h2, upd_at, if_neg (by omega)]
  · rw [if_neg h1, if_neg h1]
    by_cases h2 : y = 0
    · rw [if_pos h2, if_pos h2, upd_at, if_neg (by omega)]
    · rw [if_neg h2, if_neg h2, upd_at, if_neg (by omega), upd_at, if_neg (by omega), upd_at, if_neg (by omega)]
theorem FX_put {ap : Nat → Nat → Int32} {g : Nat → Int32} {nb i j : Nat} (hnb : nb ≤ 30) (h : FX ap g nb i j) (hj : j < nb) : FX ap (upd g (i * 30 + j) (ap i j + cAh g i j)) nb i (j + 1) := by
  intro x y hy hx
  rw [cAh_keep hnb hy hj (by omega), upd_at]
  by_cases e : x * 30 + y = i * 30 + j
  · have e1 : x = i := by omega
    have e2 : y = j := by omega
    rw [if_pos e, e1, e2]
  · rw [if_neg e]
    exact h x y hy (by omega)
theorem FX_row {ap : Nat → Nat → Int32} {g : Nat → Int32} {nb i : Nat} (h : FX ap g nb i nb) : FX ap g nb (i + 1) 0 := fun x y hy hx => h x y hy (by omega)
theorem FX_left {ap : Nat → Nat → Int32} {g : Nat → Int32} {nb na i j : Nat} (h : FX ap g nb na 0) (hi : i < na) (hj : j < nb) : g (i * 30 + j) - ap i j = cAh g i j := by
  rw [h i j hj (by omega), Int32.add_comm, Int32.add_sub_cancel]
theorem stIJ (c : Nat → Int32) (i j : Nat) : stI c i j ≤ i ∧ stJ c i j ≤ j := by
  unfold stI stJ
  split <;> split <;> omega
/-- all that is met lies in the rows -/
theorem wbC_rng {c : Nat → Int32} {na nb : Nat} : ∀ (f i j m : Nat) (a b : Nat → Int32), i < na → j < nb → (∀ k, k < m → (∃ v, v < na ∧ a k = nI v) ∧ ∃ v, v < nb ∧ b k = nI v) → ∀ k, k < (wbC c f i j m a b).1 → (∃ v, v < na ∧ (wbC c f i j m a b).2.1 k = nI v) ∧ ∃ v, v < nb ∧ (wbC c f i j m a b).2.2 k = nI v
  | 0, i, j, m, a, b, hi, hj, h, k, hk => h k hk
  | f + 1, i, j, m, a, b, hi, hj, h, k, hk => by
    rw [wbC] at hk ⊢
    by_cases e : i = 0 ∧ j = 0
    · rw [if_pos e] at hk ⊢; exact h k hk
    · rw [if_neg e] at hk ⊢
      have hs := stIJ c i j
      refine wbC_rng f _ _ _ _ _ (by omega) (by omega) (fun q hq => ?_) k hk
      by_cases z : q = m
      · subst z
        rw [pk_us, pk_us]
        exact ⟨⟨_, by omega, rfl⟩, _, by omega, rfl⟩
      · rw [pk_un z, pk_un z]
        exact h q (by omega)
theorem cntF_add (f : Nat → Bool) : ∀ (r a k : Nat), cntF f a k r = a + cntF f 0 k r
  | 0, a, k => rfl
  | r + 1, a, k => by
    rw [cntF, cntF, cntF_add f r (if f k then a + 1 else a), cntF_add f r (if f k then 0 + 1 else 0)]
    split <;> omega
theorem cntF_none {f : Nat → Bool} : ∀ {r k : Nat}, (∀ j, k ≤ j → j < k + r → f j = false) → cntF f 0 k r = 0
  | 0, _, _ => rfl
  | r + 1, k, h => by
    rw [cntF, h k (Nat.le_refl _) (by omega)]
    exact cntF_none (fun j h1 h2 => h j (by omega) (by omega))
theorem cntF_split (f : Nat → Bool) : ∀ (n k m : Nat), cntF f 0 k (n + m) = cntF f 0 k n + cntF f 0 (k + n) m
  | 0, k, m => by rw [Nat.zero_add, Nat.add_zero, cntF, Nat.zero_add]
  | n + 1, k, m => by
    rw [show n + 1 + m = (n + m) + 1 by omega, cntF, cntF, cntF_add f (n + m), cntF_add f n, cntF_split f n (k + 1) m, show k + 1 + n = k + (n + 1) by omega]
    omega
theorem ofF_30 {me : Nat → Int32} {pm n : Nat} (hn : n ≤ 30) (h : ∀ k, k < pm → ∃ v, v < n ∧ me k = nI v) : cntF (fun q => !decide (tmF me pm q < 2)) 0 0 30 = ofF me pm n := by
  have e := cntF_split (fun q => !decide (tmF me pm q < 2)) n 0 (30 - n)
  rw [show n + (30 - n) = 30 by omega] at e
  rw [e, ofF, cntF_none (k := 0 + n) (fun j h1 h2 => ?_), Nat.add_zero]
  have z : tmF me pm j = 0 := by
    unfold tmF
    refine cntF_none (fun k _ hk => ?_)
    obtain ⟨v, hv, ev⟩ := h k (by omega)
    rw [decide_eq_false_iff_not, ev]
    intro q
    have := (nI_eq (by omega) (by omega)).mp q
    omega
  show (!decide (tmF me pm j < 2)) = false
  rw [z]; rfl
theorem rzB : ((-1000001 : Int32) = 0) = False := eq_false (by decide)
theorem rz1 : (((-1000010 : Int32) - nI 1) = 0) = False := eq_false (by decide)
theorem rz2 : (((-1000010 : Int32) - nI 2) = 0) = False := eq_false (by decide)
theorem rz0 : (nI 0 = 0) = True := eq_true rfl
theorem refF_neg {a na b nb fnd : Int32} {le it : Nat → Int32} : (refF a na b nb fnd le it).1 = 0 ∨ (refF a na b nb fnd le it).1 < 0 := by
  unfold refF
  split
  · split
    · exact Or.inr (by show (-1000010 : Int32) - nI 1 < 0; decide)
    · split
      · split
        · exact Or.inl rfl
        · exact Or.inr (by show (-1000001 : Int32) < 0; decide)
      · exact Or.inr (by show (-1000010 : Int32) - nI 2 < 0; decide)
  · exact Or.inr (by show (-1000001 : Int32) < 0; decide)
theorem refF_all {a na b nb fnd : Int32} {le it : Nat → Int32} (h0 : (refF a na b nb fnd le it).1 = 0) : decide (le a.toNatClampNeg = (-1)) = false ∧ decide (le b.toNatClampNeg = (-1)) = false ∧ hasI (le a.toNatClampNeg) (nI 0) (nI 2 * na) = true ∧ hasI (le b.toNatClampNeg) (nI 0) (nI 2 * nb) = true ∧ allF (fun j => inR (it (a.toNatClampNeg * 144 + j)) (nI 0) (nI 1000)) 0 (2 * na.toNatClampNeg) = true ∧ allF (fun j => inR (it (b.toNatClampNeg * 144 + j)) (nI 0) (nI 1000)) 0 (2 * nb.toNatClampNeg) = true := by
  unfold refF at h0
  split at h0
  · split at h0
    · exact absurd h0 (show ¬ (-1000010 : Int32) - nI 1 = 0 by decide)
    · rename_i h1
      split at h0
      · rename_i h2
        split at h0
        · rename_i h3
          simp only [Bool.or_eq_true, not_or, Bool.not_eq_true] at h1
          simp only [Bool.and_eq_true] at h2 h3
          exact ⟨h1.1, h1.2, h2.1, h2.2, h3.1, h3.2⟩
        · exact absurd h0 (show ¬ (-1000001 : Int32) = 0 by decide)
      · exact absurd h0 (show ¬ (-1000010 : Int32) - nI 2 = 0 by decide)
  · exact absurd h0 (show ¬ (-1000001 : Int32) = 0 by decide)
theorem BI_of {it : Nat → Int32} {a n : Nat} (h : allF (fun j => inR (it (a * 144 + j)) (nI 0) (nI 1000)) 0 n = true) : BI it a n := fun z hz => by
  obtain ⟨j, -, h2, h3⟩ := inR_nat (allF_get h z (by omega) (by omega)) (by omega) (by omega)
  exact ⟨j, h2, h3⟩
