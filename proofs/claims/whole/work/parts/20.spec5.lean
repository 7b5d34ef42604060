/-! ===== sheets on both sides ===== -/
def RS (la le it ml mm mi : Nat → Int32) : Prop := ∀ s, s < 8 → (le s = (-1) ∧ ml s = (-1)) ∨ ∃ L l : Nat, L ≤ 144 ∧ l ≤ 2 ∧ le s = nI L ∧ la s = nI l ∧ ml s = nI l ∧ mm s = nI L ∧ ∀ i, i < L → mi (s * 144 + i) = it (s * 144 + i)
theorem RS_SH {la le it ml mm mi : Nat → Int32} (h : RS la le it ml mm mi) : SHok le := fun s hs => by
  rcases h s hs with ⟨h1, -⟩ | ⟨L, l, h1, -, h2, -⟩
  · exact Or.inl h1
  · exact Or.inr ⟨L, h1, h2⟩
theorem RS_get {la le it ml mm mi : Nat → Int32} (h : RS la le it ml mm mi) {s : Nat} (hs : s < 8) (hn : ¬ ml s < 0) : ∃ L l : Nat, L ≤ 144 ∧ l ≤ 2 ∧ le s = nI L ∧ la s = nI l ∧ ml s = nI l ∧ mm s = nI L ∧ ∀ i, i < L → mi (s * 144 + i) = it (s * 144 + i) := by
  rcases h s hs with ⟨-, h2⟩ | h2
  · rw [h2] at hn; exact absurd (by decide) hn
  · exact h2
theorem nI_nm1 {n : Nat} (h : n < 2 ^ 31) : ¬ nI n = (-1) := fun e => absurd (show nI n < 0 by rw [e]; decide) (nI_pos h)
theorem RS_neg {la le it ml mm mi : Nat → Int32} (h : RS la le it ml mm mi) {s : Nat} (hs : s < 8) : decide (le s = (-1)) = decide (ml s < 0) := by
  rcases h s hs with ⟨h1, h2⟩ | ⟨L, l, h1, h3, h2, -, h4, -⟩
  · rw [h1, h2]; decide
  · rw [h2, h4, decide_eq_false (nI_nm1 (by omega)), decide_eq_false (nI_pos (by omega))]
theorem RS_lane {la le it ml mm mi : Nat → Int32} (h : RS la le it ml mm mi) {s : Nat} (hs : s < 8) (hn : ¬ ml s < 0) : la s = ml s := by
  obtain ⟨L, l, -, -, -, h1, h2, -⟩ := RS_get h hs hn
  rw [h1, h2]
theorem RS_len {la le it ml mm mi : Nat → Int32} (h : RS la le it ml mm mi) {s : Nat} (hs : s < 8) (hn : ¬ ml s < 0) : le s = mm s := by
  obtain ⟨L, l, -, -, h1, -, -, h2, -⟩ := RS_get h hs hn
  rw [h1, h2]
theorem RS_has1 {la le it ml mm mi : Nat → Int32} (h : RS la le it ml mm mi) {s : Nat} (hs : s < 8) (hn : ¬ ml s < 0) (i : Int32) : hasI (le s) i (nI 1) = inR i (nI 0) (mm s - nI 1) := by
  rw [RS_len h hs hn]
  unfold hasI inR
  rw [show decide (nI 1 < 0) = false by decide, nI_0]
  simp
theorem RS_has {la le it ml mm mi : Nat → Int32} (h : RS la le it ml mm mi) {s : Nat} (hs : s < 8) (hn : ¬ ml s < 0) (i n : Int32) : hasI (le s) i n = !(decide (i < 0) || decide (n < 0) || decide ((mm s).toInt64 < i.toInt64 + n.toInt64)) := by
  obtain ⟨L, l, hL, -, h1, -, -, h2, -⟩ := RS_get h hs hn
  rw [h1, h2]
  unfold hasI
  by_cases hi : i < 0
  · simp [hi]
  by_cases hn0 : n < 0
  · simp [hn0]
  have r1 := sI_rng i
  have r2 := sI_rng n
  have e0 : (0 : Int32).toInt = 0 := by decide
  have g1 : ¬ i.toInt < 0 := fun z => hi (Int32.lt_iff_toInt_lt.mpr (by rw [e0]; exact z))
  have g2 : ¬ n.toInt < 0 := fun z => hn0 (Int32.lt_iff_toInt_lt.mpr (by rw [e0]; exact z))
  have eL := nI_toInt (n := L) (by omega)
  have e1 : (nI L - n).toInt = (L : Int) - n.toInt := by rw [sI_sub (by rw [eL]; omega) (by rw [eL]; omega), eL]
  have e2 : (i.toInt64 + n.toInt64).toInt = i.toInt + n.toInt := by
    rw [Int64.toInt_add, Int32.toInt_toInt64, Int32.toInt_toInt64, Int.bmod_eq_of_le (by omega) (by omega)]
  have e3 : decide (nI L - n < i) = decide ((nI L).toInt64 < i.toInt64 + n.toInt64) := by
    have q1 : nI L - n < i ↔ (nI L).toInt64 < i.toInt64 + n.toInt64 := by
      rw [Int32.lt_iff_toInt_lt, Int64.lt_iff_toInt_lt, e1, e2, Int32.toInt_toInt64, eL]; omega
    exact decide_eq_decide.mpr q1
  rw [e3, decide_eq_false hi, decide_eq_false hn0]
  simp
theorem RS_has2 {la le it ml mm mi : Nat → Int32} (h : RS la le it ml mm mi) {s : Nat} (hs : s < 8) (hn : ¬ ml s < 0) {n : Nat} (hn2 : n < 2 ^ 30) : hasI (le s) (nI 0) (nI n) = !decide (mm s < nI n) := by
  obtain ⟨L, l, hL, -, h1, -, -, h2, -⟩ := RS_get h hs hn
  rw [h1, h2]
  unfold hasI
  rw [show decide (nI 0 < 0) = false by decide, decide_eq_false (nI_pos (n := n) (by omega))]
  have q1 : nI L - nI n < nI 0 ↔ nI L < nI n := by
    rw [Int32.lt_iff_toInt_lt, pk_sub_toInt (by omega) hn2, nI_toInt (by omega), Int32.lt_iff_toInt_lt, nI_toInt (by omega), nI_toInt (by omega)]; omega
  have q2 : decide (nI L - nI n < nI 0) = decide (nI L < nI n) := decide_eq_decide.mpr q1
  rw [q2]
  simp
theorem RS_item {la le it ml mm mi : Nat → Int32} (h : RS la le it ml mm mi) {s : Nat} (hs : s < 8) (hn : ¬ ml s < 0) {L i k : Nat} (hL : mm s = nI L) (hLL : L ≤ 144) (hi : i < L) (hk : k = s * 144 + i) : mi k = it (s * 144 + i) := by
  obtain ⟨L2, l, h0, -, -, -, -, h2, h3⟩ := RS_get h hs hn
  rw [hL] at h2
  have := (nI_eq (by omega) (by omega)).mp h2
  subst this
  rw [hk]; exact h3 i hi
theorem zrF_at (b : Nat) : ∀ (r : Nat) (f : Nat → Int32) (k i : Nat), zrF b f k r i = if b + k ≤ i ∧ i < b + k + r then nI 0 else f i
  | 0, f, k, i => by rw [zrF, if_neg (by omega)]
  | r + 1, f, k, i => by
    rw [zrF, zrF_at b r, upd_at]
    by_cases h1 : i = b + k
    · rw [if_neg (by omega), if_pos h1, if_pos (by omega)]
    · by_cases h2 : b + (k + 1) ≤ i ∧ i < b + (k + 1) + r
      · rw [if_pos h2, if_pos (by omega)]
      · rw [if_neg h2, if_neg h1, if_neg (by omega)]
theorem RS_lay {la le it ml mm mi : Nat → Int32} (h : RS la le it ml mm mi) {s l n : Nat} (hs : s < 8) (hl : l ≤ 2) (hn : n ≤ 144) : RS (upd la s (nI l)) (upd le s (nI n)) (zrF (s * 144) it 0 n) (upd ml s (nI l)) (upd mm s (nI n)) (zrF (144 * s) mi 0 144) := by
  intro u hu
  by_cases e : u = s
  · subst e
    refine Or.inr ⟨n, l, hn, hl, ?_, ?_, ?_, ?_, fun i hi => ?_⟩
    · rw [upd_at, if_pos rfl]
    · rw [upd_at, if_pos rfl]
    · rw [upd_at, if_pos rfl]
    · rw [upd_at, if_pos rfl]
    · rw [zrF_at, zrF_at, if_pos (by omega), if_pos (by omega)]
  · rw [upd_at, upd_at, upd_at, upd_at, if_neg e, if_neg e, if_neg e, if_neg e]
    rcases h u hu with h1 | ⟨L, l2, h1, h2, h3, h4, h5, h6, h7⟩
    · exact Or.inl h1
    · refine Or.inr ⟨L, l2, h1, h2, h3, h4, h5, h6, fun i hi => ?_⟩
      rw [zrF_at, zrF_at, if_neg (by omega), if_neg (by omega)]
      exact h7 i hi
theorem RS_put {la le it ml mm mi : Nat → Int32} (h : RS la le it ml mm mi) {s i : Nat} (v : Int32) (hs : s < 8) (hi : i < 144) : RS la le (upd it (s * 144 + i) v) ml mm (upd mi (144 * s + i) v) := by
  intro u hu
  rcases h u hu with h1 | ⟨L, l2, h1, h2, h3, h4, h5, h6, h7⟩
  · exact Or.inl h1
  · refine Or.inr ⟨L, l2, h1, h2, h3, h4, h5, h6, fun k hk => ?_⟩
    rw [upd_at, upd_at]
    by_cases e : u * 144 + k = s * 144 + i
    · rw [if_pos (by omega), if_pos e]
    · rw [if_neg (by omega), if_neg e]; exact h7 k hk
theorem RS_drop {la le it ml mm mi : Nat → Int32} (h : RS la le it ml mm mi) {s : Nat} : RS la (upd le s (-1)) it (upd ml s (-1)) mm mi := by
  intro u hu
  rw [upd_at, upd_at]
  by_cases e : u = s
  · rw [if_pos e, if_pos e]; exact Or.inl ⟨rfl, rfl⟩
  · rw [if_neg e, if_neg e]; exact h u hu
theorem cpy_at {f : Nat → Int32} {sp dp n k : Nat} : va_cpy f f sp dp n k = if dp ≤ k ∧ k < dp + n then f (sp + (k - dp)) else f k := rfl
theorem cpy_0 (f : Nat → Int32) (sp dp : Nat) : va_cpy f f sp dp 0 = f := by
  funext k
  rw [cpy_at, if_neg (by omega)]
theorem cpy_up {f : Nat → Int32} {sp dp k x y : Nat} (hx : x = dp + k) (hy : y = sp + k) (h : y < dp ∨ dp + k ≤ y) : upd (va_cpy f f sp dp k) x (va_cpy f f sp dp k y) = va_cpy f f sp dp (k + 1) := by
  subst hx; subst hy
  have e : va_cpy f f sp dp k (sp + k) = f (sp + k) := by rw [cpy_at, if_neg (by omega)]
  rw [e]
  funext i
  rw [upd_at, cpy_at, cpy_at]
  by_cases h1 : i = dp + k
  · rw [if_pos h1, if_pos (by omega)]; congr 1; omega
  · rw [if_neg h1]
    by_cases h2 : dp ≤ i ∧ i < dp + k
    · rw [if_pos h2, if_pos (by omega)]
    · rw [if_neg h2, if_neg (by omega)]
theorem cpy_down {f : Nat → Int32} {sp dp n k x y : Nat} (hk : k < n) (hx : x = dp + (n - 1 - k)) (hy : y = sp + (n - 1 - k)) (h : y < dp + (n - k) ∨ dp + n ≤ y) : upd (va_cpy f f (sp + (n - k)) (dp + (n - k)) k) x (va_cpy f f (sp + (n - k)) (dp + (n - k)) k y) = va_cpy f f (sp + (n - (k + 1))) (dp + (n - (k + 1))) (k + 1) := by
  subst hx; subst hy
  have e : va_cpy f f (sp + (n - k)) (dp + (n - k)) k (sp + (n - 1 - k)) = f (sp + (n - 1 - k)) := by rw [cpy_at, if_neg (by omega)]
  rw [e]
  funext i
  rw [upd_at, cpy_at, cpy_at]
  by_cases h1 : i = dp + (n - 1 - k)
  · rw [if_pos h1, if_pos (by omega)]; congr 1; omega
  · rw [if_neg h1]
    by_cases h2 : dp + (n - k) ≤ i ∧ i < dp + (n - k) + k
    · rw [if_pos h2, if_pos (by omega)]; congr 1; omega
    · rw [if_neg h2, if_neg (by omega)]
theorem RS_cpy {la le it ml mm mi : Nat → Int32} (h : RS la le it ml mm mi) {a i b j n : Nat} (ha : a < 8) (hb : b < 8) (hna : ¬ ml a < 0) {La Lb : Nat} (hLa : mm a = nI La) (hLal : La ≤ 144) (hLbl : Lb ≤ 144) (hi : i + n ≤ La) (hj : j + n ≤ Lb) : RS la le (va_cpy it it (a * 144 + i) (b * 144 + j) n) ml mm (va_cpy mi mi (144 * a + i) (144 * b + j) n) := by
  intro u hu
  rcases h u hu with h1 | ⟨L, l2, h1, h2, h3, h4, h5, h6, h7⟩
  · exact Or.inl h1
  · refine Or.inr ⟨L, l2, h1, h2, h3, h4, h5, h6, fun k hk => ?_⟩
    rw [cpy_at, cpy_at]
    by_cases e : b * 144 + j ≤ u * 144 + k ∧ u * 144 + k < b * 144 + j + n
    · rw [if_pos (by omega), if_pos e]
      have q : a * 144 + i + (u * 144 + k - (b * 144 + j)) = a * 144 + (i + (u * 144 + k - (b * 144 + j))) := by omega
      rw [q]
      exact RS_item h ha hna hLa hLal (by omega) (by omega)
    · rw [if_neg (by omega), if_neg e]; exact h7 k hk
theorem allF_cong {f g : Nat → Bool} : ∀ {r k : Nat}, (∀ j, k ≤ j → j < k + r → f j = g j) → allF f k r = allF g k r
  | 0, _, _ => rfl
  | r + 1, k, h => by rw [allF, allF, h k (Nat.le_refl _) (by omega), allF_cong (fun j h1 h2 => h j (by omega) (by omega))]
theorem allF_get {f : Nat → Bool} : ∀ {r k : Nat}, allF f k r = true → ∀ j, k ≤ j → j < k + r → f j = true
  | 0, _, _, j, h1, h2 => by omega
  | r + 1, k, h, j, h1, h2 => by
    rw [allF] at h
    split at h
    · rename_i hf
      rcases Nat.eq_or_lt_of_le h1 with e | e
      · rw [← e]; exact hf
      · exact allF_get h j e (by omega)
    · cases h
