/-! ===== pure rows for the reference ===== -/
def inL (v lo hi : Int64) : Bool := !decide (v < lo) && !decide (hi < v)
theorem wide_lt (a b : Int32) : a.toInt64 < b.toInt64 ↔ a < b := by rw [Int64.lt_iff_toInt_lt, Int32.lt_iff_toInt_lt, Int32.toInt_toInt64, Int32.toInt_toInt64]
theorem inLR {x : Int32} (a b : Int32) {A B : Int64} (hA : a.toInt64 = A) (hB : b.toInt64 = B) : bz (inL x.toInt64 A B) = bz (inR x a b) := by
  subst hA; subst hB
  unfold inL inR
  simp only [wide_lt]
theorem nI_pred_toInt {n : Nat} (hn : n < 2 ^ 30) : (nI n - nI 1).toInt = (n : Int) - 1 := pk_sub_toInt hn (by omega)
theorem inR_M {x : Int32} {n : Nat} (hn : n < 2 ^ 30) : inR x (nI 0) (nI n - nI 1) = inM x n := by
  unfold inR inM
  have e : decide (nI n - nI 1 < x) = !decide (x < nI n) := by
    by_cases h : x < nI n
    · have h1 := Int32.lt_iff_toInt_lt.mp h
      rw [nI_toInt (by omega)] at h1
      rw [decide_eq_true h, decide_eq_false (fun z => by have z1 := Int32.lt_iff_toInt_lt.mp z; rw [nI_pred_toInt hn] at z1; omega)]; rfl
    · have h1 : ¬ x.toInt < (n : Int) := fun z => h (Int32.lt_iff_toInt_lt.mpr (by rw [nI_toInt (by omega)]; exact z))
      rw [decide_eq_false h, decide_eq_true (Int32.lt_iff_toInt_lt.mpr (by rw [nI_pred_toInt hn]; omega))]; rfl
  rw [e, nI_0, Bool.not_not]
/-! places -/
def pw (xs ys : Nat → Int32) (w : Nat) : Nat → Int32 := if w = 0 then xs else ys
def plOf (xs ys : Nat → Int32) : Nat → Int32 := fun i => if i < 64 then (if i % 4 = 0 then xs (0 * 16 + i / 4) else if i % 4 = 1 then ys (0 * 16 + i / 4) else if i % 4 = 2 then xs (1 * 16 + i / 4) else ys (1 * 16 + i / 4)) else nI 0
theorem plOf_q {xs ys : Nat → Int32} {a q w i : Nat} (ha : a < 16) (hq : q < 2) (hw : w < 2) (hi : i = 4 * a + 2 * q + w) : plOf xs ys i = pw xs ys w (q * 16 + a) := by
  subst hi
  have h1 : (4 * a + 2 * q + w) / 4 = a := by omega
  have h2 : (4 * a + 2 * q + w) % 4 = 2 * q + w := by omega
  unfold plOf pw
  rw [if_pos (by omega), h1, h2]
  rcases (by omega : q = 0 ∨ q = 1) with e | e <;> rcases (by omega : w = 0 ∨ w = 1) with g | g <;> subst e <;> subst g <;> rfl
theorem plOf_0 {xs ys : Nat → Int32} {a w : Nat} (ha : a < 16) (hw : w < 2) : plOf xs ys (4 * a + w) = pw xs ys w (0 * 16 + a) := plOf_q ha (by omega) hw (by omega)
theorem plOf_1 {xs ys : Nat → Int32} {a w : Nat} (ha : a < 16) (hw : w < 2) : plOf xs ys (4 * a + 2 + w) = pw xs ys w (1 * 16 + a) := plOf_q ha (by omega) hw (by omega)
theorem upd_at (f : Nat → Int32) (k : Nat) (x : Int32) (j : Nat) : upd f k x j = if j = k then x else f j := rfl
theorem plOf_put {xs ys : Nat → Int32} {a q : Nat} {x y : Int32} (ha : a < 16) (hq : q < 2) : upd (upd (plOf xs ys) (4 * a + 2 * q) x) (4 * a + 2 * q + 1) y = plOf (upd xs (q * 16 + a) x) (upd ys (q * 16 + a) y) := by
  funext i
  rw [upd_at, upd_at]
  by_cases h1 : i = 4 * a + 2 * q + 1
  · rw [if_pos h1, plOf_q ha hq (w := 1) (by omega) h1, pw, if_neg (by omega), upd_at, if_pos rfl]
  · rw [if_neg h1]
    by_cases h2 : i = 4 * a + 2 * q
    · rw [if_pos h2, plOf_q ha hq (w := 0) (by omega) (by omega), pw, if_pos rfl, upd_at, if_pos rfl]
    · rw [if_neg h2]
      unfold plOf
      by_cases h3 : i < 64
      · rw [if_pos h3, if_pos h3, upd_at, upd_at, upd_at, upd_at]
        by_cases g0 : i % 4 = 0
        · rw [if_pos g0, if_pos g0, if_neg (by omega)]
        · rw [if_neg g0, if_neg g0]
          by_cases g1 : i % 4 = 1
          · rw [if_pos g1, if_pos g1, if_neg (by omega)]
          · rw [if_neg g1, if_neg g1]
            by_cases g2 : i % 4 = 2
            · rw [if_pos g2, if_pos g2, if_neg (by omega)]
            · rw [if_neg g2, if_neg g2, if_neg (by omega)]
      · rw [if_neg h3, if_neg h3]
theorem plOf_mark {xs ys : Nat → Int32} {a : Nat} {x0 y0 x1 y1 : Int32} (ha : a < 16) : upd (upd (upd (upd (plOf xs ys) (4 * a) x0) (4 * a + 1) y0) (4 * a + 2) x1) (4 * a + 3) y1 = plOf (upd (upd xs (0 * 16 + a) x0) (1 * 16 + a) x1) (upd (upd ys (0 * 16 + a) y0) (1 * 16 + a) y1) := by
  rw [← plOf_put ha (q := 1) (by omega), ← plOf_put ha (q := 0) (by omega)]
  rfl
theorem atE {xs ys : Nat → Int32} {w a : Nat} {k n : Int32} (hw : w < 2) : tk (pw xs ys w) a k n = if nI w = 0 then tk xs a k n else tk ys a k n := by
  rcases (by omega : w = 0 ∨ w = 1) with e | e <;> subst e <;> rfl
theorem tk_1 {f : Nat → Int32} {a q : Nat} (hq : q < 2) : tk f a (nI q) (nI 1) = f (q * 16 + a) := by
  rcases (by omega : q = 0 ∨ q = 1) with e | e <;> subst e <;> unfold tk
  · rw [show nI 1 - nI 0 = 1 by decide, show nI 0 = 0 by decide]; simp
  · rw [show nI 1 - nI 1 = 0 by decide, show nI 1 = 1 by decide]; simp
theorem tAr_1 {cs xs ys : Nat → Int32} {t q : Nat} (hq : q < 2) : (tAr cs xs ys t (nI q) (nI 1)).toInt32 = aIn cs xs ys t q := by
  unfold tAr aIn
  rw [tk_1 hq, tk_1 hq, tk_1 hq, tk_1 hq, tk_1 hq, tk_1 hq]
/-! bits -/
def bt (x : Int32) (i : Nat) : Bool := x.toBitVec.getLsbD i
theorem b_ext {x y : Int32} (h : ∀ i, i < 32 → bt x i = bt y i) : x = y := Int32.toBitVec_inj.mp (BitVec.eq_of_getLsbD_eq (fun i hi => h i hi))
theorem b_or (x y : Int32) (i : Nat) : bt (x ||| y) i = (bt x i || bt y i) := by unfold bt; rw [Int32.toBitVec_or, BitVec.getLsbD_or]
theorem b_and (x y : Int32) (i : Nat) : bt (x &&& y) i = (bt x i && bt y i) := by unfold bt; rw [Int32.toBitVec_and, BitVec.getLsbD_and]
theorem s_l : ∀ n, n < 32 → ((nI n &&& 31).toBitVec.smod 32).toNat = n := by decide +kernel
theorem b_sshr (n : Nat) (hn : n < 32) (x : Int32) {i : Nat} (hi : i < 32) : bt (x >>> (nI n &&& 31)) i = if n + i < 32 then bt x (n + i) else bt x 31 := by
  unfold bt
  rw [Int32.toBitVec_shiftRight]
  show (x.toBitVec.sshiftRight ((nI n &&& 31).toBitVec.smod 32).toNat).getLsbD i = _
  rw [s_l n hn, BitVec.getLsbD_sshiftRight, BitVec.msb_eq_getLsbD_last]
  simp [hi]
theorem b_one : ∀ a, a < 16 → ∀ i, i < 32 → bt ((nI 1) <<< ((nI a) &&& 31)) i = decide (i = a) := by decide +kernel
theorem b_1 : ∀ i, i < 32 → bt (nI 1) i = decide (i = 0) := by decide +kernel
def st3 (a b c : Int32) : Int32 := (((nI 1) <<< (a &&& 31)) ||| ((nI 1) <<< (b &&& 31))) ||| ((nI 1) <<< (c &&& 31))
theorem b_st3 {a b c : Nat} (ha : a < 16) (hb : b < 16) (hc : c < 16) {i : Nat} (hi : i < 32) : bt (st3 (nI a) (nI b) (nI c)) i = (decide (i = a) || decide (i = b) || decide (i = c)) := by
  unfold st3
  rw [b_or, b_or, b_one a ha i hi, b_one b hb i hi, b_one c hc i hi]
theorem st3_bit {a b c : Nat} (ha : a < 16) (hb : b < 16) (hc : c < 16) {i : Nat} (hi : i < 16) : ((st3 (nI a) (nI b) (nI c)) >>> ((nI i) &&& 31)) &&& (nI 1) = (nI 1) ↔ (decide (a = i) || decide (b = i) || decide (c = i)) = true := by
  have h0 := b_st3 ha hb hc (i := i) (by omega)
  have hd : (decide (a = i) || decide (b = i) || decide (c = i)) = bt (st3 (nI a) (nI b) (nI c)) i := by
    rw [h0]; simp only [eq_comm]
  rw [hd]
  constructor
  · intro h
    have h1 : bt (((st3 (nI a) (nI b) (nI c)) >>> ((nI i) &&& 31)) &&& (nI 1)) 0 = bt (nI 1) 0 := congrArg (fun x => bt x 0) h
    rw [b_and, b_sshr i (by omega) _ (by omega), if_pos (by omega), b_1 0 (by omega)] at h1
    simpa using h1
  · intro h
    refine b_ext (fun j hj => ?_)
    rw [b_and, b_1 j hj]
    by_cases hj0 : j = 0
    · subst hj0
      rw [b_sshr i (by omega) _ hj, if_pos (by omega), Nat.add_zero, h]; rfl
    · rw [decide_eq_false hj0, Bool.and_false]
def c3 (cs : Nat → Int32) (t : Nat) : Int32 := st3 (cs (3 * t)) (cs (3 * t + 1)) (cs (3 * t + 2))
theorem c3_cn {cs : Nat → Int32} {tn mn t : Nat} (hcs : CSok cs tn mn) (ht : t < tn) : c3 cs t = st3 (nI (cn cs (3 * t + 0))) (nI (cn cs (3 * t + 1))) (nI (cn cs (3 * t + 2))) := by
  unfold c3
  rw [← (hcs (3 * t + 0) (by omega)).1, ← (hcs (3 * t + 1) (by omega)).1, ← (hcs (3 * t + 2) (by omega)).1]
  rfl
theorem c3_bit {cs : Nat → Int32} {tn mn t i : Nat} (hcs : CSok cs tn mn) (hmn : mn ≤ 16) (ht : t < tn) (hi : i < 16) : ((c3 cs t) >>> ((nI i) &&& 31)) &&& (nI 1) = (nI 1) ↔ tch cs t i = true := by
  have h0 := (hcs (3 * t + 0) (by omega)).2
  have h1 := (hcs (3 * t + 1) (by omega)).2
  have h2 := (hcs (3 * t + 2) (by omega)).2
  rw [c3_cn hcs ht]
  exact st3_bit (by omega) (by omega) (by omega) hi
theorem c3_set {cs : Nat → Int32} {tn mn t a b c : Nat} (hcs : CSok cs tn mn) (hmn : mn ≤ 16) (ht : t < tn) (ha : a < 16) (hb : b < 16) (hc : c < 16) (hab : a ≠ b) (hac : a ≠ c) (hbc : b ≠ c) : c3 cs t = st3 (nI a) (nI b) (nI c) ↔ (tch cs t a && tch cs t b && tch cs t c) = true := by
  have h0 := (hcs (3 * t + 0) (by omega)).2
  have h1 := (hcs (3 * t + 1) (by omega)).2
  have h2 := (hcs (3 * t + 2) (by omega)).2
  rw [c3_cn hcs ht]
  unfold tch
  generalize cn cs (3 * t + 0) = d0 at h0 ⊢
  generalize cn cs (3 * t + 1) = d1 at h1 ⊢
  generalize cn cs (3 * t + 2) = d2 at h2 ⊢
  simp only [Bool.and_eq_true, Bool.or_eq_true, decide_eq_true_eq]
  constructor
  · intro h
    have key : ∀ i, i < 32 → (decide (i = d0) || decide (i = d1) || decide (i = d2)) = (decide (i = a) || decide (i = b) || decide (i = c)) := fun i hi => by
      rw [← b_st3 (by omega) (by omega) (by omega) hi, ← b_st3 ha hb hc hi, h]
    have ka := key a (by omega)
    have kb := key b (by omega)
    have kc := key c (by omega)
    simp only [decide_true, Bool.true_or, Bool.or_true, Bool.or_eq_true, decide_eq_true_eq] at ka kb kc
    omega
  · intro h
    refine b_ext (fun i hi => ?_)
    rw [b_st3 (by omega) (by omega) (by omega) hi, b_st3 ha hb hc hi]
    by_cases g : i = a ∨ i = b ∨ i = c
    · have g2 : i = d0 ∨ i = d1 ∨ i = d2 := by omega
      rcases g with g | g | g <;> rcases g2 with g2 | g2 | g2 <;> simp [← g, ← g2]
    · have g2 : ¬ (i = d0 ∨ i = d1 ∨ i = d2) := by omega
      simp only [not_or] at g g2
      simp [g.1, g.2.1, g.2.2, g2.1, g2.2.1, g2.2.2]
/-! the first third that folds -/
theorem fTk_op (u : Nat → Bool) : ∀ (r k : Nat), fTk u k r = opI (ffI u k r)
  | 0, _ => rfl
  | r + 1, k => by
    rw [fTk, ffI]
    split
    · exact fTk_op u r (k + 1)
    · rfl
theorem ffI_no {u : Nat → Bool} : ∀ {r t : Nat}, ffI u t r = none → ∀ j, t ≤ j → j < t + r → u j = true
  | 0, t, _, j, h1, h2 => by omega
  | r + 1, t, h, j, h1, h2 => by
    rw [ffI] at h
    split at h
    · rename_i hu
      rcases Nat.eq_or_lt_of_le h1 with e | e
      · rw [← e]; exact hu
      · exact ffI_no h j e (by omega)
    · cases h
theorem ffI_yes {u : Nat → Bool} : ∀ {r t j : Nat}, ffI u t r = some j → t ≤ j ∧ j < t + r ∧ u j = false ∧ ∀ i, t ≤ i → i < j → u i = true
  | 0, t, j, h => by cases h
  | r + 1, t, j, h => by
    rw [ffI] at h
    split at h
    · rename_i hu
      obtain ⟨h1, h2, h3, h4⟩ := ffI_yes h
      refine ⟨by omega, by omega, h3, fun i hi hj => ?_⟩
      rcases Nat.eq_or_lt_of_le hi with e | e
      · rw [← e]; exact hu
      · exact h4 i e hj
    · rename_i hu
      cases h
      exact ⟨Nat.le_refl _, by omega, by simpa using hu, fun i hi hj => by omega⟩
theorem ffO_at {u : Nat → Nat → Bool} {tn : Nat} : ∀ {r k j b : Nat}, k ≤ j → j < k + r → ffI (u j) 0 tn = some b → (∀ i, k ≤ i → i < j → ffI (u i) 0 tn = none) → ffO u tn k r = nI b
  | 0, k, j, b, h1, h2, _, _ => by omega
  | r + 1, k, j, b, h1, h2, hb, hn => by
    rcases Nat.eq_or_lt_of_le h1 with e | e
    · subst e; exact ffO_some hb
    · rw [ffO_none (hn k (Nat.le_refl _) e)]
      exact ffO_at (r := r) e (by omega) hb (fun i hi hj => hn i (by omega) hj)
theorem ffO_no {u : Nat → Nat → Bool} {tn : Nat} : ∀ {r k : Nat}, (∀ i, k ≤ i → i < k + r → ffI (u i) 0 tn = none) → ffO u tn k r = (-1000000)
  | 0, _, _ => rfl
  | r + 1, k, h => by
    rw [ffO_none (h k (Nat.le_refl _) (by omega))]
    exact ffO_no (fun i h1 h2 => h i (by omega) (by omega))
theorem ffI_none {u : Nat → Bool} : ∀ {r t : Nat}, (∀ j, t ≤ j → j < t + r → u j = true) → ffI u t r = none
  | 0, _, _ => rfl
  | r + 1, t, h => by
    rw [ffI, if_pos (h t (Nat.le_refl _) (by omega))]
    exact ffI_none (fun j h1 h2 => h j (by omega) (by omega))
theorem ffI_some {u : Nat → Bool} : ∀ {r t j : Nat}, t ≤ j → j < t + r → u j = false → (∀ i, t ≤ i → i < j → u i = true) → ffI u t r = some j
  | 0, t, j, h1, h2, _, _ => by omega
  | r + 1, t, j, h1, h2, h3, h4 => by
    rcases Nat.eq_or_lt_of_le h1 with e | e
    · subst e; rw [ffI, h3]; rfl
    · rw [ffI, if_pos (h4 t (Nat.le_refl _) e)]
      exact ffI_some e (by omega) h3 (fun i hi hj => h4 i (by omega) hj)
/-- what the reference's loop over the thirds knows: nothing folds so far, or b is the least that folds first, at k -/
def frI (u : Nat → Nat → Bool) (N : Nat) (b k : Int32) (j : Nat) : Prop :=
  (b = (-1000000) ∧ k = (-1000000) ∧ ∀ t, t < j → ffI (fun i => u i t) 0 N = none) ∨
  (∃ b1 k1, b = nI b1 ∧ k = nI k1 ∧ b1 < j ∧ k1 < N ∧ ffI (fun i => u i b1) 0 N = some k1 ∧ (∀ t, t < j → ∀ k2, ffI (fun i => u i t) 0 N = some k2 → k1 ≤ k2) ∧ ∀ t, t < b1 → ∀ k2, ffI (fun i => u i t) 0 N = some k2 → k1 < k2)
theorem frI_0 (u : Nat → Nat → Bool) (N : Nat) : frI u N (-1000000) (-1000000) 0 := Or.inl ⟨rfl, rfl, fun t h => by omega⟩
theorem frI_skip {u : Nat → Nat → Bool} {N j : Nat} {b k : Int32} (h : frI u N b k j) (hn : ffI (fun i => u i j) 0 N = none) : frI u N b k (j + 1) := by
  rcases h with ⟨h1, h2, h3⟩ | ⟨b1, k1, h1, h2, h3, h4, h5, h6, h7⟩
  · refine Or.inl ⟨h1, h2, fun t ht => ?_⟩
    rcases Nat.lt_or_ge t j with q | q
    · exact h3 t q
    · have : t = j := by omega
      subst this; exact hn
  · refine Or.inr ⟨b1, k1, h1, h2, by omega, h4, h5, fun t ht k2 hk => ?_, h7⟩
    rcases Nat.lt_or_ge t j with q | q
    · exact h6 t q k2 hk
    · have : t = j := by omega
      subst this; rw [hn] at hk; cases hk
theorem frI_take {u : Nat → Nat → Bool} {N j k2 : Nat} {b k : Int32} (hN : N < 2 ^ 31) (h : frI u N b k j) (hs : ffI (fun i => u i j) 0 N = some k2) (hc : k = (-1000000) ∨ nI k2 < k) : frI u N (nI j) (nI k2) (j + 1) := by
  have hk2 := ffI_lt hs
  rcases h with ⟨h1, h2, h3⟩ | ⟨b1, k1, h1, h2, h3, h4, h5, h6, h7⟩
  · refine Or.inr ⟨j, k2, rfl, rfl, by omega, by omega, hs, fun t ht k3 hk => ?_, fun t ht k3 hk => ?_⟩
    · rcases Nat.lt_or_ge t j with q | q
      · rw [h3 t q] at hk; cases hk
      · have : t = j := by omega
        subst this; rw [hs] at hk; cases hk; exact Nat.le_refl _
    · rw [h3 t ht] at hk; cases hk
  · subst h2
    have hlt : k2 < k1 := by
      rcases hc with hc | hc
      · exact absurd hc (nI_neN (by omega))
      · exact (nI_ltI (by omega) (by omega)).mp hc
    refine Or.inr ⟨j, k2, rfl, rfl, by omega, by omega, hs, fun t ht k3 hk => ?_, fun t ht k3 hk => ?_⟩
    · rcases Nat.lt_or_ge t j with q | q
      · have := h6 t q k3 hk; omega
      · have : t = j := by omega
        subst this; rw [hs] at hk; cases hk; exact Nat.le_refl _
    · have := h6 t ht k3 hk; omega
theorem frI_keep {u : Nat → Nat → Bool} {N j k2 : Nat} {b k : Int32} (hN : N < 2 ^ 31) (h : frI u N b k j) (hs : ffI (fun i => u i j) 0 N = some k2) (hc : ¬ k = (-1000000)) (hd : ¬ nI k2 < k) : frI u N b k (j + 1) := by
  have hk2 := ffI_lt hs
  rcases h with ⟨h1, h2, h3⟩ | ⟨b1, k1, h1, h2, h3, h4, h5, h6, h7⟩
  · exact absurd h2 hc
  · subst h2
    refine Or.inr ⟨b1, k1, h1, rfl, by omega, h4, h5, fun t ht k3 hk => ?_, h7⟩
    rcases Nat.lt_or_ge t j with q | q
    · exact h6 t q k3 hk
    · have : t = j := by omega
      subst this; rw [hs] at hk; cases hk
      exact (Nat.not_lt.mp (fun z => hd ((nI_ltI (by omega) (by omega)).mpr z)))
theorem frI_end {u : Nat → Nat → Bool} {N tn : Nat} {b k : Int32} (hN : N < 2 ^ 31) (htn : tn < 2 ^ 31) (h : frI u N b k tn) : ffO u tn 0 N = b ∧ (b = (-1000000) → k = (-1000000)) ∧ (¬ b = (-1000000) → fTk (fun i => u i b.toNatClampNeg) 0 N = k) := by
  rcases h with ⟨h1, h2, h3⟩ | ⟨b1, k1, h1, h2, h3, h4, h5, h6, h7⟩
  · refine ⟨?_, fun _ => h2, fun z => absurd h1 z⟩
    rw [h1]
    exact ffO_no (fun i _ hi => ffI_none (fun t _ ht => ffI_no (h3 t (by omega)) i (by omega) (by omega)))
  · obtain ⟨-, -, g3, g4⟩ := ffI_yes h5
    subst h1; subst h2
    refine ⟨?_, fun z => absurd z (nI_neN (by omega)), fun _ => ?_⟩
    · refine ffO_at (j := k1) (by omega) (by omega) (ffI_some (by omega) (by omega) g3 (fun t _ ht => ?_)) (fun i _ hi => ffI_none (fun t _ ht => ?_))
      · cases hq : ffI (fun i => u i t) 0 N with
        | none => exact ffI_no hq k1 (by omega) (by omega)
        | some k2 => have := h7 t ht k2 hq; exact (ffI_yes hq).2.2.2 k1 (by omega) this
      · cases hq : ffI (fun i => u i t) 0 N with
        | none => exact ffI_no hq i (by omega) (by omega)
        | some k2 => have := h6 t (by omega) k2 hq; exact (ffI_yes hq).2.2.2 i (by omega) (by omega)
    · rw [nI_clamp (by omega), fTk_op, h5]; rfl
