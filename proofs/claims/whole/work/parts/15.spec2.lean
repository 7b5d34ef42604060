/-! ===== pure rows: numbers ===== -/
theorem bandl {a b : Bool} (h : (a && b) = true) : a = true := by cases a <;> simp_all
theorem bandr {a b : Bool} (h : (a && b) = true) : b = true := by cases a <;> simp_all
theorem sI_rng (x : Int32) : -2147483648 ≤ x.toInt ∧ x.toInt < 2147483648 := by
  have h1 := Int32.le_toInt x
  have h2 := Int32.toInt_lt x
  omega
theorem sI_sub {x y : Int32} (h1 : -2147483648 ≤ x.toInt - y.toInt) (h2 : x.toInt - y.toInt < 2147483648) : (x - y).toInt = x.toInt - y.toInt := by
  rw [Int32.toInt_sub, Int.bmod_eq_of_le (by omega) (by omega)]
theorem sL_sub {x y : Int64} (h1 : -9223372036854775808 ≤ x.toInt - y.toInt) (h2 : x.toInt - y.toInt < 9223372036854775808) : (x - y).toInt = x.toInt - y.toInt := by
  rw [Int64.toInt_sub, Int.bmod_eq_of_le (by omega) (by omega)]
theorem sL_mul {x y : Int64} (h1 : -9223372036854775808 ≤ x.toInt * y.toInt) (h2 : x.toInt * y.toInt < 9223372036854775808) : (x * y).toInt = x.toInt * y.toInt := by
  rw [Int64.toInt_mul, Int.bmod_eq_of_le (by omega) (by omega)]
theorem nI_of_toInt {x : Int32} {j : Nat} (h : x.toInt = (j : Int)) : x = nI j := by
  have hr := sI_rng x
  apply Int32.toInt_inj.mp
  rw [nI_toInt (by omega), h]
theorem inR_nat {x : Int32} {a b : Nat} (h : inR x (nI a) (nI b) = true) (ha : a < 2 ^ 31) (hb : b < 2 ^ 31) : ∃ j, a ≤ j ∧ j ≤ b ∧ x = nI j := by
  unfold inR at h
  simp only [Bool.and_eq_true, Bool.not_eq_true', decide_eq_false_iff_not] at h
  obtain ⟨h1, h2⟩ := h
  rw [Int32.lt_iff_toInt_lt, nI_toInt ha] at h1
  rw [Int32.lt_iff_toInt_lt, nI_toInt hb] at h2
  exact ⟨x.toInt.toNat, by omega, by omega, nI_of_toInt (by omega)⟩
theorem inM_nat {x : Int32} {n : Nat} (h : inM x n = true) (hn : n < 2 ^ 31) : ∃ j, j < n ∧ x = nI j := by
  unfold inM at h
  simp only [Bool.and_eq_true, Bool.not_eq_true', decide_eq_false_iff_not, decide_eq_true_eq] at h
  exact inM_of h.1 h.2 hn
theorem le_nat {x : Int32} {b : Nat} (h1 : ¬ x < 0) (h2 : ¬ nI b < x) (hb : b < 2 ^ 31) : ∃ j, j ≤ b ∧ x = nI j := by
  obtain ⟨j, -, h3, h4⟩ := inR_nat (a := 0) (b := b) (x := x) (by unfold inR; simp only [nI_0, decide_eq_false h1, decide_eq_false h2]; rfl) (by omega) hb
  exact ⟨j, h3, h4⟩
def SHok (le : Nat → Int32) : Prop := ∀ s, s < 8 → le s = (-1) ∨ ∃ L, L ≤ 144 ∧ le s = nI L
theorem SHok_get {le : Nat → Int32} (h : SHok le) {s : Nat} (hs : s < 8) (hn : decide (le s = (-1)) = false) : ∃ L, L ≤ 144 ∧ le s = nI L := by
  rcases h s hs with h | h
  · rw [h] at hn; exact absurd hn (by decide)
  · exact h
theorem hasI_both {L : Nat} {i n : Int32} (h : hasI (nI L) i n = true) (hL : L < 2 ^ 30) : ∃ i1 n1 : Nat, i1 + n1 ≤ L ∧ i = nI i1 ∧ n = nI n1 := by
  unfold hasI at h
  simp only [Bool.and_eq_true, Bool.not_eq_true', decide_eq_false_iff_not] at h
  obtain ⟨⟨h1, h2⟩, h3⟩ := h
  rw [Int32.lt_iff_toInt_lt] at h1 h2 h3
  have e0 : (0 : Int32).toInt = 0 := by decide
  have hr := sI_rng n
  rw [e0] at h1 h2
  have hs : (nI L - n).toInt = (L : Int) - n.toInt := by
    have e := nI_toInt (n := L) (by omega)
    rw [sI_sub (by rw [e]; omega) (by rw [e]; omega), e]
  rw [hs] at h3
  exact ⟨i.toInt.toNat, n.toInt.toNat, by omega, nI_of_toInt (by omega), nI_of_toInt (by omega)⟩
theorem hasI_i {L n : Nat} {i : Int32} (h : hasI (nI L) i (nI n) = true) (hL : L < 2 ^ 30) (hn : n < 2 ^ 31) : ∃ i1 : Nat, i1 + n ≤ L ∧ i = nI i1 := by
  obtain ⟨i1, n1, h1, h2, h3⟩ := hasI_both h hL
  have := (nI_eq hn (by omega)).mp h3
  subst this
  exact ⟨i1, h1, h2⟩
theorem ffI_lt {u : Nat → Bool} : ∀ {r t j : Nat}, ffI u t r = some j → t ≤ j ∧ j < t + r
  | 0, t, j, h => by cases h
  | r + 1, t, j, h => by
    rw [ffI] at h
    split at h
    · have := ffI_lt h; omega
    · cases h; omega
theorem ffO_nat {u : Nat → Nat → Bool} {tn : Nat} : ∀ {r k : Nat}, ¬ ffO u tn k r = (-1000000) → ∃ t, t < tn ∧ ffO u tn k r = nI t
  | 0, k, h => absurd rfl h
  | r + 1, k, h => by
    cases hf : ffI (u k) 0 tn with
    | some t => exact ⟨t, by have := ffI_lt hf; omega, ffO_some hf⟩
    | none => rw [ffO_none hf] at h ⊢; exact ffO_nat h
/-! ===== where a place is from lies in the picture ===== -/
def PLok (f : Nat → Int32) (mn : Nat) : Prop := ∀ a, a < mn → ∀ q, q < 2 → ∃ v, v ≤ 1000 ∧ f (q * 16 + a) = nI v
theorem tk_nat {f : Nat → Int32} {mn a k n : Nat} (h : PLok f mn) (ha : a < mn) (hk : k ≤ n) (hn : n ≤ 100) : ∃ v, v ≤ 100000 ∧ tk f a (nI k) (nI n) = nI v := by
  obtain ⟨v0, h0, e0⟩ := h a ha 0 (by omega)
  obtain ⟨v1, h1, e1⟩ := h a ha 1 (by omega)
  refine ⟨(n - k) * v0 + k * v1, ?_, ?_⟩
  · have a1 : (n - k) * v0 ≤ (n - k) * 1000 := Nat.mul_le_mul_left _ h0
    have a2 : k * v1 ≤ k * 1000 := Nat.mul_le_mul_left _ h1
    omega
  · rw [tk, e0, e1, pk_sub hk, pk_mul, pk_mul, nI_add]
theorem abs_mul {a b : Int} {M : Nat} (ha : -(M : Int) ≤ a ∧ a ≤ M) (hb : -(M : Int) ≤ b ∧ b ≤ M) : -((M * M : Nat) : Int) ≤ a * b ∧ a * b ≤ ((M * M : Nat) : Int) := by
  have h1 : a.natAbs ≤ M := by omega
  have h2 : b.natAbs ≤ M := by omega
  have h3 : (a * b).natAbs ≤ M * M := by rw [Int.natAbs_mul]; exact Nat.mul_le_mul h1 h2
  omega
theorem lN_sub_toInt {a b : Nat} (ha : a ≤ 100000) (hb : b ≤ 100000) : (lN a - lN b).toInt = (a : Int) - b := by
  have e1 := lN_toInt (n := a) (by omega)
  have e2 := lN_toInt (n := b) (by omega)
  rw [sL_sub (by omega) (by omega), e1, e2]
theorem arL_bd {ax ay bx b_y cx cy : Nat} (h1 : ax ≤ 100000) (h2 : ay ≤ 100000) (h3 : bx ≤ 100000) (h4 : b_y ≤ 100000) (h5 : cx ≤ 100000) (h6 : cy ≤ 100000) : (arL (lN ax) (lN ay) (lN bx) (lN b_y) (lN cx) (lN cy)).toInt ≤ 20000000000 := by
  have d1 := lN_sub_toInt h3 h1
  have d2 := lN_sub_toInt h6 h2
  have d3 := lN_sub_toInt h4 h2
  have d4 := lN_sub_toInt h5 h1
  have m1 := abs_mul (M := 100000) (a := (bx : Int) - ax) (b := (cy : Int) - ay) ⟨by omega, by omega⟩ ⟨by omega, by omega⟩
  have m2 := abs_mul (M := 100000) (a := (b_y : Int) - ay) (b := (cx : Int) - ax) ⟨by omega, by omega⟩ ⟨by omega, by omega⟩
  have p1 : ((lN bx - lN ax) * (lN cy - lN ay)).toInt = ((bx : Int) - ax) * ((cy : Int) - ay) := by
    rw [sL_mul (by rw [d1, d2]; omega) (by rw [d1, d2]; omega), d1, d2]
  have p2 : ((lN b_y - lN ay) * (lN cx - lN ax)).toInt = ((b_y : Int) - ay) * ((cx : Int) - ax) := by
    rw [sL_mul (by rw [d3, d4]; omega) (by rw [d3, d4]; omega), d3, d4]
  unfold arL
  rw [sL_sub (by rw [p1, p2]; omega) (by rw [p1, p2]; omega), p1, p2]
  omega
theorem arL_nat {ax ay bx b_y cx cy : Nat} (h1 : ax ≤ 100000) (h2 : ay ≤ 100000) (h3 : bx ≤ 100000) (h4 : b_y ≤ 100000) (h5 : cx ≤ 100000) (h6 : cy ≤ 100000) (hn : ¬ arL (lN ax) (lN ay) (lN bx) (lN b_y) (lN cx) (lN cy) < 0) : ∃ v : Nat, v ≤ 20000000000 ∧ arL (lN ax) (lN ay) (lN bx) (lN b_y) (lN cx) (lN cy) = lN v := by
  obtain ⟨v, hv, e⟩ := pk_lOf hn
  have hb := arL_bd h1 h2 h3 h4 h5 h6
  rw [e, pk_lT hv] at hb
  exact ⟨v, by omega, e⟩
theorem arL_sum (ax ay bx b_y cx cy px py : Int64) : arL px py bx b_y cx cy + arL ax ay px py cx cy + arL ax ay bx b_y px py = arL ax ay bx b_y cx cy := by
  unfold arL
  grind
theorem sP_sum (cs xs ys : Nat → Int32) (t : Nat) (x y k n : Int32) : sP1 cs xs ys t x y k n + sP2 cs xs ys t x y k n + sP3 cs xs ys t x y k n = tAr cs xs ys t k n := arL_sum _ _ _ _ _ _ _ _
theorem og_in {xs ys cs f : Nat → Int32} {mn tn t x y k n q : Nat} (hx : PLok xs mn) (hy : PLok ys mn) (hf : PLok f mn) (hcs : CSok cs tn mn) (ht : t < tn) (hkn : k ≤ n) (hn : n ≤ 100) (hxx : x ≤ 1000) (hyy : y ≤ 1000) (hq : q < 2)
    (h0 : 0 < tAr cs xs ys t (nI k) (nI n)) (h1 : ¬ sP1 cs xs ys t (nI x) (nI y) (nI k) (nI n) < 0) (h2 : ¬ sP2 cs xs ys t (nI x) (nI y) (nI k) (nI n) < 0) (h3 : ¬ sP3 cs xs ys t (nI x) (nI y) (nI k) (nI n) < 0) :
    ∃ o, o ≤ 1000 ∧ ogF f cs t q (sP1 cs xs ys t (nI x) (nI y) (nI k) (nI n)) (sP2 cs xs ys t (nI x) (nI y) (nI k) (nI n)) (sP3 cs xs ys t (nI x) (nI y) (nI k) (nI n)) (tAr cs xs ys t (nI k) (nI n)) = nI o := by
  have ca := (hcs (3 * t + 0) (by omega)).2
  have cb := (hcs (3 * t + 1) (by omega)).2
  have cc := (hcs (3 * t + 2) (by omega)).2
  obtain ⟨fa, la, ea⟩ := hf _ ca q hq
  obtain ⟨fb, lb, eb⟩ := hf _ cb q hq
  obtain ⟨fc, lc, ec⟩ := hf _ cc q hq
  have hsum := sP_sum cs xs ys t (nI x) (nI y) (nI k) (nI n)
  obtain ⟨ax, lax, eax⟩ := tk_nat hx ca hkn hn
  obtain ⟨ay, lay, eay⟩ := tk_nat hy ca hkn hn
  obtain ⟨bx, lbx, ebx⟩ := tk_nat hx cb hkn hn
  obtain ⟨b_y, lby, eby⟩ := tk_nat hy cb hkn hn
  obtain ⟨cx, lcx, ecx⟩ := tk_nat hx cc hkn hn
  obtain ⟨cy, lcy, ecy⟩ := tk_nat hy cc hkn hn
  have hpx : x * n ≤ 100000 := by have := Nat.mul_le_mul hxx hn; omega
  have hpy : y * n ≤ 100000 := by have := Nat.mul_le_mul hyy hn; omega
  have lx : (nI x).toInt64 * (nI n).toInt64 = lN (x * n) := by rw [nI_l (by omega), nI_l (by omega), lN_mul]
  have ly : (nI y).toInt64 * (nI n).toInt64 = lN (y * n) := by rw [nI_l (by omega), nI_l (by omega), lN_mul]
  have e1 : sP1 cs xs ys t (nI x) (nI y) (nI k) (nI n) = arL (lN (x * n)) (lN (y * n)) (lN bx) (lN b_y) (lN cx) (lN cy) := by
    rw [sP1, lx, ly, ebx, eby, ecx, ecy, nI_l (by omega), nI_l (by omega), nI_l (by omega), nI_l (by omega)]
  have e2 : sP2 cs xs ys t (nI x) (nI y) (nI k) (nI n) = arL (lN ax) (lN ay) (lN (x * n)) (lN (y * n)) (lN cx) (lN cy) := by
    rw [sP2, lx, ly, eax, eay, ecx, ecy, nI_l (by omega), nI_l (by omega), nI_l (by omega), nI_l (by omega)]
  have e3 : sP3 cs xs ys t (nI x) (nI y) (nI k) (nI n) = arL (lN ax) (lN ay) (lN bx) (lN b_y) (lN (x * n)) (lN (y * n)) := by
    rw [sP3, lx, ly, eax, eay, ebx, eby, nI_l (by omega), nI_l (by omega), nI_l (by omega), nI_l (by omega)]
  have e0 : tAr cs xs ys t (nI k) (nI n) = arL (lN ax) (lN ay) (lN bx) (lN b_y) (lN cx) (lN cy) := by
    rw [tAr, eax, eay, ebx, eby, ecx, ecy, nI_l (by omega), nI_l (by omega), nI_l (by omega), nI_l (by omega), nI_l (by omega), nI_l (by omega)]
  have h0' : ¬ tAr cs xs ys t (nI k) (nI n) < 0 := fun z => absurd (Int64.lt_trans z h0) Int64.lt_irrefl
  rw [e1] at h1 hsum ⊢
  rw [e2] at h2 hsum ⊢
  rw [e3] at h3 hsum ⊢
  rw [e0] at h0 h0' hsum ⊢
  obtain ⟨v1, b1, g1⟩ := arL_nat hpx hpy lbx lby lcx lcy h1
  obtain ⟨v2, b2, g2⟩ := arL_nat lax lay hpx hpy lcx lcy h2
  obtain ⟨v3, b3, g3⟩ := arL_nat lax lay lbx lby hpx hpy h3
  obtain ⟨v0, b0, g0⟩ := arL_nat lax lay lbx lby lcx lcy h0'
  rw [g1, g2, g3, g0, lN_add, lN_add, pk_lEQ (by omega) (by omega)] at hsum
  rw [g0] at h0
  have hv0 : 0 < v0 := by
    have : lN 0 < lN v0 := h0
    exact (pk_lLT (by omega) (by omega)).mp this
  rw [g1, g2, g3, g0, ogF, ea, eb, ec, nI_l (by omega), nI_l (by omega), nI_l (by omega), lN_mul, lN_mul, lN_mul, lN_add, lN_add]
  have m1 : v1 * fa ≤ v1 * 1000 := Nat.mul_le_mul_left _ la
  have m2 : v2 * fb ≤ v2 * 1000 := Nat.mul_le_mul_left _ lb
  have m3 : v3 * fc ≤ v3 * 1000 := Nat.mul_le_mul_left _ lc
  rw [pk_lDiv (by omega) hv0 (by omega), lN_i]
  refine ⟨_, ?_, rfl⟩
  exact Nat.div_le_of_le_mul (by omega)
