/-! ===== the class's own words, in Int32 and Nat ===== -/
def inR (v lo hi : Int32) : Bool := !decide (v < lo) && !decide (hi < v)
def inM (v : Int32) (n : Nat) : Bool := !decide (v < 0) && decide (v < nI n)
/-- a mark's x (or y) at a tick, times n -/
def tk (f : Nat → Int32) (a : Nat) (k n : Int32) : Int32 := (n - k) * f (0 * 16 + a) + k * f (1 * 16 + a)
def arL (ax ay bx b_y cx cy : Int64) : Int64 := (bx - ax) * (cy - ay) - (b_y - ay) * (cx - ax)
/-- corner i of the row of corners, as a mark's number -/
def cn (cs : Nat → Int32) (i : Nat) : Nat := (cs i).toNatClampNeg
def CSok (cs : Nat → Int32) (tn mn : Nat) : Prop := ∀ i, i < 3 * tn → cs i = nI (cn cs i) ∧ cn cs i < mn
def tch (cs : Nat → Int32) (t a : Nat) : Bool := decide (cn cs (3 * t + 0) = a) || decide (cn cs (3 * t + 1) = a) || decide (cn cs (3 * t + 2) = a)
def tAr (cs xs ys : Nat → Int32) (t : Nat) (k n : Int32) : Int64 := arL (tk xs (cn cs (3 * t + 0)) k n).toInt64 (tk ys (cn cs (3 * t + 0)) k n).toInt64 (tk xs (cn cs (3 * t + 1)) k n).toInt64 (tk ys (cn cs (3 * t + 1)) k n).toInt64 (tk xs (cn cs (3 * t + 2)) k n).toInt64 (tk ys (cn cs (3 * t + 2)) k n).toInt64
def upR (cs xs ys : Nat → Int32) (t : Nat) (k n : Int32) : Bool := decide (0 < tAr cs xs ys t k n)
def aIn (cs xs ys : Nat → Int32) (t q : Nat) : Int32 := (arL (xs (q * 16 + cn cs (3 * t + 0))).toInt64 (ys (q * 16 + cn cs (3 * t + 0))).toInt64 (xs (q * 16 + cn cs (3 * t + 1))).toInt64 (ys (q * 16 + cn cs (3 * t + 1))).toInt64 (xs (q * 16 + cn cs (3 * t + 2))).toInt64 (ys (q * 16 + cn cs (3 * t + 2))).toInt64).toInt32
def stM (xs ys : Nat → Int32) (a : Nat) : Bool := decide (xs (0 * 16 + a) = xs (1 * 16 + a)) && decide (ys (0 * 16 + a) = ys (1 * 16 + a))
def stT (cs xs ys : Nat → Int32) (t : Nat) : Bool := stM xs ys (cn cs (3 * t + 0)) && stM xs ys (cn cs (3 * t + 1)) && stM xs ys (cn cs (3 * t + 2))
def kd (cs xs ys : Nat → Int32) (t : Nat) : Nat := if 0 < aIn cs xs ys t 0 ∧ 0 < aIn cs xs ys t 1 then (if stT cs xs ys t then 2 else 1) else if aIn cs xs ys t 0 = 0 ∨ aIn cs xs ys t 1 = 0 then 3 else 4
def ofK (own k : Nat) : Bool := decide (k = 0) || decide (k = own) || (decide (k = 1) && decide (own = 2))
/-- a loop that looks for the first yes -/
def anyF (f : Nat → Bool) : Nat → Nat → Bool
  | _, 0 => false
  | k, r + 1 => if f k then true else anyF f (k + 1) r
/-- a loop that counts -/
def cntF (f : Nat → Bool) : Nat → Nat → Nat → Nat
  | a, _, 0 => a
  | a, k, r + 1 => cntF f (if f k then a + 1 else a) (k + 1) r
/-- the first tick at which it isn't upright -/
def fTk (u : Nat → Bool) : Nat → Nat → Int32
  | _, 0 => -1000000
  | k, r + 1 => if u k then fTk u (k + 1) r else nI k
def ffI (u : Nat → Bool) : Nat → Nat → Option Nat
  | _, 0 => none
  | t, r + 1 => if u t then ffI u (t + 1) r else some t
def ffO (u : Nat → Nat → Bool) (tn : Nat) : Nat → Nat → Int32
  | _, 0 => -1000000
  | k, r + 1 => match ffI (u k) 0 tn with
    | some t => nI t
    | none => ffO u tn (k + 1) r
theorem cntF_le (f : Nat → Bool) : ∀ (r a k : Nat), cntF f a k r ≤ a + r
  | 0, a, _ => Nat.le_refl a
  | r + 1, a, k => by
    have h := cntF_le f r (if f k then a + 1 else a) (k + 1)
    simp only [cntF]
    split at h <;> simp_all <;> omega
