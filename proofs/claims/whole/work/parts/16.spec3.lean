/-! ===== what each call answers and leaves, for both sides ===== -/
def isPl (x y : Int32) : Bool := inR x (nI 0) (nI 1000) && inR y (nI 0) (nI 1000)
def isTi (k n : Int32) : Bool := inR n (nI 1) (nI 100) && inR k (nI 0) n
def shtF (s l n fnd : Int32) (la le it : Nat → Int32) : Int32 × Int32 × (Nat → Int32) × (Nat → Int32) × (Nat → Int32) :=
  if inR s (nI 0) (nI 7) && inR l (nI 0) (nI 2) && !decide (nI 144 < n) then
    (if n < 0 then ((-1000010) - nI 4, nI 4, la, le, it) else (n, nI 0, upd la s.toNatClampNeg l, upd le s.toNatClampNeg n, zrF (s.toNatClampNeg * 144) it 0 n.toNatClampNeg))
  else ((-1000001), fnd, la, le, it)
def setF (s i v fnd : Int32) (la le it : Nat → Int32) : Int32 × Int32 × (Nat → Int32) :=
  if inR s (nI 0) (nI 7) then
    (if decide (le s.toNatClampNeg = (-1)) then ((-1000010) - nI 1, nI 1, it)
     else if hasI (le s.toNatClampNeg) i (nI 1) then (cutL (la s.toNatClampNeg) v, nI 0, upd it (s.toNatClampNeg * 144 + i.toNatClampNeg) (cutL (la s.toNatClampNeg) v))
     else ((-1000010) - nI 2, nI 2, it))
  else ((-1000001), fnd, it)
def cpyF (a i b j n fnd : Int32) (la le it : Nat → Int32) : Int32 × Int32 × (Nat → Int32) :=
  if inR a (nI 0) (nI 7) && inR b (nI 0) (nI 7) then
    (if decide (le a.toNatClampNeg = (-1)) || decide (le b.toNatClampNeg = (-1)) then ((-1000010) - nI 1, nI 1, it)
     else if la a.toNatClampNeg = la b.toNatClampNeg then
       (if hasI (le a.toNatClampNeg) i n && hasI (le b.toNatClampNeg) j n then (n, nI 0, va_cpy it it (a.toNatClampNeg * 144 + i.toNatClampNeg) (b.toNatClampNeg * 144 + j.toNatClampNeg) n.toNatClampNeg)
        else ((-1000010) - nI 2, nI 2, it))
     else ((-1000010) - nI 5, nI 5, it))
  else ((-1000001), fnd, it)
def drpF (s fnd : Int32) (le : Nat → Int32) : Int32 × Int32 × (Nat → Int32) :=
  if inR s (nI 0) (nI 7) then
    (if decide (le s.toNatClampNeg = (-1)) then ((-1000010) - nI 1, nI 1, le) else (le s.toNatClampNeg, nI 0, upd le s.toNatClampNeg (-1)))
  else ((-1000001), fnd, le)
def mrkF (x0 y0 x1 y1 : Int32) (mn : Nat) (xs ys : Nat → Int32) : Int32 × Nat × (Nat → Int32) × (Nat → Int32) :=
  if isPl x0 y0 && isPl x1 y1 then
    (if decide (mn < 16) then (nI mn, mn + 1, upd (upd xs (0 * 16 + mn) x0) (1 * 16 + mn) x1, upd (upd ys (0 * 16 + mn) y0) (1 * 16 + mn) y1) else ((-1000003), mn, xs, ys))
  else ((-1000001), mn, xs, ys)
def movF (m q x y : Int32) (mn : Nat) (xs ys : Nat → Int32) : Int32 × (Nat → Int32) × (Nat → Int32) :=
  if inM m mn && inR q (nI 0) (nI 1) && isPl x y then (nI 1, upd xs (q.toNatClampNeg * 16 + m.toNatClampNeg) x, upd ys (q.toNatClampNeg * 16 + m.toNatClampNeg) y)
  else ((-1000001), xs, ys)
def atF (m k n w : Int32) (mn : Nat) (xs ys : Nat → Int32) : Int32 :=
  if inM m mn && isTi k n && inR w (nI 0) (nI 1) then (if w = 0 then tk xs m.toNatClampNeg k n else tk ys m.toNatClampNeg k n) else (-1000001)
def thdF (a b c : Int32) (mn tn : Nat) (cs : Nat → Int32) : Int32 × Nat × (Nat → Int32) :=
  if inM a mn && inM b mn && inM c mn && !decide (a = b) && !decide (b = c) && !decide (a = c) then
    (if anyF (fun t => tch cs t a.toNatClampNeg && tch cs t b.toNatClampNeg && tch cs t c.toNatClampNeg) 0 tn then ((-1000002), tn, cs)
     else if decide (tn < 24) then (nI tn, tn + 1, upd (upd (upd cs (3 * tn) a) (3 * tn + 1) b) (3 * tn + 2) c) else ((-1000003), tn, cs))
  else ((-1000001), tn, cs)
def tolF (t w : Int32) (tn : Nat) (cs xs ys : Nat → Int32) : Int32 :=
  if inM t tn && inR w (nI 0) (nI 4) then (if w.toNatClampNeg < 3 then nI (cn cs (3 * t.toNatClampNeg + w.toNatClampNeg)) else aIn cs xs ys t.toNatClampNeg (w.toNatClampNeg - 3)) else (-1000001)
def fldF (t n : Int32) (tn : Nat) (cs xs ys : Nat → Int32) : Int32 :=
  if inM t tn && inR n (nI 1) (nI 100) then fTk (fun k => upR cs xs ys t.toNatClampNeg (nI k) n) 0 (n.toNatClampNeg + 1) else (-1000001)
def frsF (n w : Int32) (tn : Nat) (cs xs ys : Nat → Int32) : Int32 :=
  if inR n (nI 1) (nI 100) && inR w (nI 0) (nI 1) then
    (if ffO (fun k t => upR cs xs ys t (nI k) n) tn 0 (n.toNatClampNeg + 1) = (-1000000) then ffO (fun k t => upR cs xs ys t (nI k) n) tn 0 (n.toNatClampNeg + 1)
     else if w = nI 1 then ffO (fun k t => upR cs xs ys t (nI k) n) tn 0 (n.toNatClampNeg + 1)
     else fTk (fun k => upR cs xs ys (ffO (fun k t => upR cs xs ys t (nI k) n) tn 0 (n.toNatClampNeg + 1)).toNatClampNeg (nI k) n) 0 (n.toNatClampNeg + 1))
  else (-1000001)
def sdsF (w : Int32) (mn tn : Nat) (cs : Nat → Int32) : Int32 :=
  if inR w (nI 1) (nI 24) then nI (sdF (fun a b => decide (nI (cntF (fun t => tch cs t a && tch cs t b) 0 0 tn) = w)) mn 0 0 mn) else (-1000001)
def keyF (t u : Int32) (kn : Nat) (kt ks : Nat → Int32) : Int32 × Nat × (Nat → Int32) × (Nat → Int32) :=
  if isPl t u then
    (if rsF kn kt ks t u then (if decide (kn < 6) then (nI (kn + 1), kn + 1, upd kt kn t, upd ks kn u) else ((-1000003), kn, kt, ks)) else ((-1000002), kn, kt, ks))
  else ((-1000001), kn, kt, ks)
def easF (t : Int32) (kn : Nat) (kt ks : Nat → Int32) : Int32 := if inR t (nI 0) (nI 1000) then shA kn kt ks t else (-1000001)
def opI (o : Option Nat) : Int32 := match o with
  | some t => nI t
  | none => (-1000000)
def fnD (x y k n : Int32) (tn : Nat) (cs xs ys : Nat → Int32) : Option Nat := ffI (fun t => !inT cs xs ys t x y k n) 0 tn
def inF (x y k n : Int32) (tn : Nat) (cs xs ys : Nat → Int32) : Int32 := if isPl x y && isTi k n then opI (fnD x y k n tn cs xs ys) else (-1000001)
def ogT (f cs xs ys : Nat → Int32) (x y k n : Int32) (t q : Nat) : Int32 := ogF f cs t q (sP1 cs xs ys t x y k n) (sP2 cs xs ys t x y k n) (sP3 cs xs ys t x y k n) (tAr cs xs ys t k n)
def frmO (o : Option Nat) (x y k n w : Int32) (cs xs ys : Nat → Int32) : Int32 := match o with
  | some t => if w.toNatClampNeg % 2 = 0 then ogT xs cs xs ys x y k n t (w.toNatClampNeg / 2) else ogT ys cs xs ys x y k n t (w.toNatClampNeg / 2)
  | none => (-1000000)
def frmF (x y k n w : Int32) (tn : Nat) (cs xs ys : Nat → Int32) : Int32 := if isPl x y && isTi k n && inR w (nI 0) (nI 3) then frmO (fnD x y k n tn cs xs ys) x y k n w cs xs ys else (-1000001)
def picF (q s i w h fnd : Int32) (le it wd hg nb : Nat → Int32) : Int32 × Int32 × (Nat → Int32) × (Nat → Int32) × (Nat → Int32) :=
  if inR q (nI 0) (nI 1) && inR s (nI 0) (nI 7) && (inR w (nI 1) (nI 12) && inR h (nI 1) (nI 12)) then
    (if decide (le s.toNatClampNeg = (-1)) then ((-1000010) - nI 1, nI 1, wd, hg, nb)
     else if hasI (le s.toNatClampNeg) i (w * h) then
       (if allF (fun j => inR (it (s.toNatClampNeg * 144 + j)) (nI 0) (nI 255)) i.toNatClampNeg (w.toNatClampNeg * h.toNatClampNeg) then
          (nI 1, nI 0, upd wd q.toNatClampNeg w, upd hg q.toNatClampNeg h, pcF it (q.toNatClampNeg * 144) s.toNatClampNeg i.toNatClampNeg nb 0 (w.toNatClampNeg * h.toNatClampNeg))
        else ((-1000001), fnd, wd, hg, nb))
     else ((-1000010) - nI 2, nI 2, wd, hg, nb))
  else ((-1000001), fnd, wd, hg, nb)
def numF (wd hg nb : Nat → Int32) (q : Nat) (x y : Int32) : Int32 := nb (q * 144 + y.toNatClampNeg * (hg q).toNatClampNeg / 1001 * (wd q).toNatClampNeg + x.toNatClampNeg * (wd q).toNatClampNeg / 1001)
def seeO (o : Option Nat) (x y k n : Int32) (cs xs ys wd hg nb : Nat → Int32) : Int32 := match o with
  | some t => ((n - k) * numF wd hg nb 0 (ogT xs cs xs ys x y k n t 0) (ogT ys cs xs ys x y k n t 0) + k * numF wd hg nb 1 (ogT xs cs xs ys x y k n t 1) (ogT ys cs xs ys x y k n t 1)) / n
  | none => (-1000000)
def seeF (x y k n : Int32) (tn : Nat) (cs xs ys wd hg nb : Nat → Int32) : Int32 :=
  if isPl x y && isTi k n then (if decide (0 < wd 0) && decide (0 < wd 1) then seeO (fnD x y k n tn cs xs ys) x y k n cs xs ys wd hg nb else (-1000002)) else (-1000001)
def refF (a na b nb fnd : Int32) (le it : Nat → Int32) : Int32 × Int32 :=
  if inR a (nI 0) (nI 7) && inR b (nI 0) (nI 7) && inR na (nI 1) (nI 30) && inR nb (nI 1) (nI 30) then
    (if decide (le a.toNatClampNeg = (-1)) || decide (le b.toNatClampNeg = (-1)) then ((-1000010) - nI 1, nI 1)
     else if hasI (le a.toNatClampNeg) (nI 0) (nI 2 * na) && hasI (le b.toNatClampNeg) (nI 0) (nI 2 * nb) then
       (if allF (fun j => inR (it (a.toNatClampNeg * 144 + j)) (nI 0) (nI 1000)) 0 (2 * na.toNatClampNeg) && allF (fun j => inR (it (b.toNatClampNeg * 144 + j)) (nI 0) (nI 1000)) 0 (2 * nb.toNatClampNeg) then (nI 0, fnd) else ((-1000001), fnd))
     else ((-1000010) - nI 2, nI 2))
  else ((-1000001), fnd)
def jnD (a na b nb : Int32) (it cst : Nat → Int32) : Nat → Int32 := dpI (apF it a.toNatClampNeg b.toNatClampNeg) nb.toNatClampNeg cst 0 na.toNatClampNeg
def jnW (na nb : Int32) (D mA mB : Nat → Int32) : Nat × (Nat → Int32) × (Nat → Int32) := wbC D 58 (na.toNatClampNeg - 1) (nb.toNatClampNeg - 1) 1 (upd mA 0 (nI (na.toNatClampNeg - 1))) (upd mB 0 (nI (nb.toNatClampNeg - 1)))
def prsF (a na b nb w fnd : Int32) (le it cst mA mB : Nat → Int32) : Int32 × Int32 × (Nat → Int32) × (Nat → Int32) × (Nat → Int32) :=
  if inR w (nI 0) (nI 3) then
    (if (refF a na b nb fnd le it).1 = 0 then (tlF (jnD a na b nb it cst) (jnW na nb (jnD a na b nb it cst) mA mB).2.1 (jnW na nb (jnD a na b nb it cst) mA mB).2.2 na.toNatClampNeg nb.toNatClampNeg (jnW na nb (jnD a na b nb it cst) mA mB).1 w.toNatClampNeg, nI 0, jnD a na b nb it cst, (jnW na nb (jnD a na b nb it cst) mA mB).2.1, (jnW na nb (jnD a na b nb it cst) mA mB).2.2)
     else ((refF a na b nb fnd le it).1, (refF a na b nb fnd le it).2, cst, mA, mB))
  else ((-1000001), fnd, cst, mA, mB)
def parF (a na b nb i fnd : Int32) (le it cst mA mB : Nat → Int32) : Int32 × Int32 × (Nat → Int32) × (Nat → Int32) × (Nat → Int32) :=
  if (refF a na b nb fnd le it).1 = 0 then (mtF (jnW na nb (jnD a na b nb it cst) mA mB).2.1 (jnW na nb (jnD a na b nb it cst) mA mB).2.2 (jnW na nb (jnD a na b nb it cst) mA mB).1 i, nI 0, jnD a na b nb it cst, (jnW na nb (jnD a na b nb it cst) mA mB).2.1, (jnW na nb (jnD a na b nb it cst) mA mB).2.2)
  else ((refF a na b nb fnd le it).1, (refF a na b nb fnd le it).2, cst, mA, mB)
def kndF (t : Int32) (tn : Nat) (cs xs ys : Nat → Int32) : Int32 := if inM t tn then nI (kd cs xs ys t.toNatClampNeg) else (-1000001)
def asF (t k fnd : Int32) (tn : Nat) (cs xs ys : Nat → Int32) : Int32 × Int32 :=
  if inM t tn && inR k (nI 0) (nI 4) then (if ofK (kd cs xs ys t.toNatClampNeg) k.toNatClampNeg then (aIn cs xs ys t.toNatClampNeg 1, nI 0) else ((-1000010) - nI 3, nI 3)) else ((-1000001), fnd)
def askF (t w : Int32) (tn : Nat) (cs xs ys : Nat → Int32) (an : Nat) (tr : Nat → Int32) : Int32 × Nat × (Nat → Int32) :=
  if inM t tn && inR w (nI 0) (nI 1) then
    (if w = 0 then (szV (kd cs xs ys t.toNatClampNeg) cs xs ys t.toNatClampNeg, szN (kd cs xs ys t.toNatClampNeg), szT (kd cs xs ys t.toNatClampNeg) tr)
     else (mkV (kd cs xs ys t.toNatClampNeg) cs xs ys t.toNatClampNeg, mkN (kd cs xs ys t.toNatClampNeg), mkT (kd cs xs ys t.toNatClampNeg) tr))
  else ((-1000001), an, tr)
def cntV (w : Int32) (mn tn kn : Nat) (cs xs ys le : Nat → Int32) : Int32 :=
  if w = nI 0 then nI (cntF (fun j => !decide (le j = (-1))) 0 0 8) else if w = nI 1 then nI mn else if w = nI 2 then nI tn
  else if w = nI 3 then nI (cntF (fun t => ofK (kd cs xs ys t) 1) 0 0 tn) else if w = nI 4 then nI (cntF (fun t => ofK (kd cs xs ys t) 2) 0 0 tn)
  else if w = nI 5 then nI (cntF (fun t => ofK (kd cs xs ys t) 3) 0 0 tn) else if w = nI 6 then nI (cntF (fun t => ofK (kd cs xs ys t) 4) 0 0 tn)
  else if w = nI 7 then nI kn else (-1000001)
theorem sw8 (x : Int32) : x = nI 0 ∨ x = nI 1 ∨ x = nI 2 ∨ x = nI 3 ∨ x = nI 4 ∨ x = nI 5 ∨ x = nI 6 ∨ x = nI 7 ∨ (x.toInt < 0 ∨ 7 < x.toInt) := by
  by_cases h : x.toInt < 0 ∨ 7 < x.toInt
  · simp only [h, or_true]
  · obtain ⟨j, hj⟩ : ∃ j : Nat, x.toInt = (j : Int) := ⟨x.toInt.toNat, by omega⟩
    have e := nI_of_toInt hj
    subst e
    have : j = 0 ∨ j = 1 ∨ j = 2 ∨ j = 3 ∨ j = 4 ∨ j = 5 ∨ j = 6 ∨ j = 7 := by omega
    rcases this with e | e | e | e | e | e | e | e <;> subst e <;> simp
theorem cntV_out {w : Int32} {mn tn kn : Nat} {cs xs ys le : Nat → Int32} (h : w.toInt < 0 ∨ 7 < w.toInt) : (-1000001) = cntV w mn tn kn cs xs ys le := by
  have n : ∀ j : Nat, j < 8 → ¬ w = nI j := fun j hj e => by
    rw [e, nI_toInt (by omega)] at h
    omega
  rw [cntV, if_neg (n 0 (by omega)), if_neg (n 1 (by omega)), if_neg (n 2 (by omega)), if_neg (n 3 (by omega)), if_neg (n 4 (by omega)), if_neg (n 5 (by omega)), if_neg (n 6 (by omega)), if_neg (n 7 (by omega))]
theorem refF_0 {a na b nb fnd r f : Int32} {le it : Nat → Int32} (h : (r, f) = refF a na b nb fnd le it) (h0 : r = 0) : inR a (nI 0) (nI 7) = true ∧ inR b (nI 0) (nI 7) = true ∧ inR na (nI 1) (nI 30) = true ∧ inR nb (nI 1) (nI 30) = true ∧ f = fnd := by
  subst h0
  unfold refF at h
  split at h
  · rename_i hc
    simp only [Bool.and_eq_true] at hc
    split at h
    · exact absurd (congrArg Prod.fst h) (show ¬ (0 : Int32) = -1000010 - nI 1 by decide)
    · split at h
      · split at h
        · exact ⟨hc.1.1.1, hc.1.1.2, hc.1.2, hc.2, congrArg Prod.snd h⟩
        · exact absurd (congrArg Prod.fst h) (show ¬ (0 : Int32) = -1000001 by decide)
      · exact absurd (congrArg Prod.fst h) (show ¬ (0 : Int32) = -1000010 - nI 2 by decide)
  · exact absurd (congrArg Prod.fst h) (show ¬ (0 : Int32) = -1000001 by decide)
def PIok (wd hg : Nat → Int32) : Prop := ∀ q, q < 2 → wd q = 0 ∨ ∃ w h, (0 < w ∧ w ≤ 12) ∧ (0 < h ∧ h ≤ 12) ∧ wd q = nI w ∧ hg q = nI h
theorem PIok_get {wd hg : Nat → Int32} (h : PIok wd hg) {q : Nat} (hq : q < 2) (hw : decide (0 < wd q) = true) : ∃ w h, (0 < w ∧ w ≤ 12) ∧ (0 < h ∧ h ≤ 12) ∧ wd q = nI w ∧ hg q = nI h := by
  rcases h q hq with e | e
  · rw [e] at hw; exact absurd hw (by decide)
  · exact e
