/-! what a program is: nodes of the reference, orders of the class -/
/-- the order at i -/
def cd (S : amS) (i : Nat) (o x p : Int32) : Prop := S.1 2 i = o ∧ S.1 3 i = x ∧ S.1 4 i = p
/-- where a function finds a variable: its own slot, or what it took along -/
def LoR (r7 r17 r18 : Nat → Int32) (fn : Nat) (e : scE) (src : Int32) : Prop :=
  (e.2.2.2 = fn ∧ src = r7 e.2.1) ∨ (e.2.2.2 ≠ fn ∧ fn < 28 ∧ ∃ i t, i < t ∧ t ≤ 26 ∧ r17 fn = nI t ∧ r18 (26 * fn + i) = nI e.2.1 ∧ src = -1 - nI i)
def Lo (S : amS) (fn : Nat) (e : scE) (src : Int32) : Prop := LoR (S.1 7) (S.1 17) (S.1 18) fn e src
/-- variables bound side by side, innermost first: c0 the first of the class, s0 its slot -/
def bnd (S R : amS) (m c0 s0 fn : Nat) : List scE → Prop
  | [] => True
  | e :: vs => e.2.1 = c0 + vs.length ∧ e.2.2.2 = fn ∧ R.1 43 (4 * m + vs.length) = nI e.2.2.1 ∧ S.1 7 e.2.1 = nI (s0 + vs.length) ∧ S.1 9 e.2.1 = R.1 46 e.2.2.1 ∧ (S.1 9 e.2.1 = 0 ∨ S.1 9 e.2.1 = 1) ∧ e.2.1 < 250 ∧ e.2.2.1 < 256 ∧ bnd S R m c0 s0 fn vs
/-- what a function takes along is in the scope of its lambda, and the function around finds it -/
def tkS (S : amS) (mu fn : Nat) (sc : List scE) : Prop := ∃ t, t ≤ 26 ∧ S.1 17 mu = nI t ∧ ∀ i, i < t → ∃ e ∈ sc, S.1 18 (26 * mu + i) = nI e.2.1 ∧ Lo S fn e (S.1 19 (26 * mu + i))
/-- variables go down in both numberings -/
def sdS (u v : Nat) : List scE → Prop
  | [] => True
  | e :: sc => e.2.1 < u ∧ e.2.2.1 < v ∧ sdS e.2.1 e.2.2.1 sc
def b2i (b : Bool) : Int32 := if b then 1 else 0
/-- the primitives' orders -/
def prO (o : Nat) : Int32 := am_ord.getD (6 + o) 0
/-- k operands of node m, the first from p, the last to q -/
def opq (R : amS) (k m p q : Nat) (cs qs : Nat → Nat) : Prop := qs 0 = p ∧ qs k = q ∧ R.1 39 m = nI (cs 0) ∧ (∀ i, i < k → cs i < 256) ∧ ∀ i, i + 1 < k → R.1 41 (cs i) = nI (cs (i + 1))
/-- mode 0: node c is compiled into [p, q), h values below it in the frame, in function fn with scope sc, at the end of it or not (tl); mode 1: a body from c to rs. dl: how many lists are around. mk: ends are marked -/
def TT (S R : amS) (mk : Bool) : Nat → Nat → Int32 → Int32 → Nat → Nat → Nat → Nat → Nat → List scE → Bool → Prop
  | 0, _, _, _, _, _, _, _, _, _, _ => False
  | f + 1, 0, c, _, dl, p, q, h, fn, sc, tl => ∃ m, c = nI m ∧ m < 256 ∧ dl ≤ 20 ∧ h ≤ 4 * dl ∧ q ≤ 501 ∧ sc.length ≤ 58 ∧ sdS 250 256 sc ∧
    ((R.1 36 m = 0 ∧ cd S p 2 (R.1 38 m) (R.1 37 m) ∧ q = p + 1) ∨
     (R.1 36 m = 1 ∧ cd S p 3 0 (R.1 37 m) ∧ q = p + 1) ∨
     (R.1 36 m = 2 ∧ ∃ e ∈ sc, ∃ src, R.1 38 m = nI e.2.2.1 ∧ cd S p 4 src (R.1 37 m) ∧ Lo S fn e src ∧ q = p + 1) ∨
     (R.1 36 m = 3 ∧ ∃ mu vs c0 q1, (mu < 28 ∧ ∀ e ∈ sc, e.2.2.2 ≠ mu) ∧ cd S p 5 (nI mu) (R.1 37 m) ∧ S.1 13 mu = nI (p + 1) ∧ S.1 14 mu = nI q ∧ R.1 44 m = nI vs.length ∧ S.1 15 mu = nI vs.length ∧ vs.length ≤ 4 ∧ S.1 16 mu = nI c0 ∧ bnd S R m c0 0 mu vs ∧ tkS S mu fn sc ∧
       TT S R mk f 1 (R.1 39 m) (R.1 40 m) (dl + 1) (p + 1) q1 vs.length mu (vs ++ sc) true ∧ cd S q1 16 0 (-1) ∧ q = q1 + 1) ∨
     (R.1 36 m = 4 ∧ ∃ a b c q1 q2, a < 256 ∧ b < 256 ∧ c < 256 ∧ R.1 39 m = nI a ∧ R.1 41 a = nI b ∧ R.1 41 b = nI c ∧ R.1 40 m = nI c ∧ cd S p 1 0 (R.1 37 m) ∧ TT S R mk f 0 (nI a) 0 (dl + 1) (p + 1) q1 h fn sc false ∧ cd S q1 10 (nI (q2 + 1)) (R.1 37 m) ∧
       TT S R mk f 0 (nI b) 0 (dl + 1) (q1 + 1) q2 h fn sc tl ∧ cd S q2 9 (nI q) (R.1 37 m) ∧ TT S R mk f 0 (nI c) 0 (dl + 1) (q2 + 1) q h fn sc tl) ∨
     (R.1 36 m = 5 ∧ ∃ vs c0 b q1 q2 cs qs, R.1 44 m = nI vs.length ∧ 1 ≤ vs.length ∧ vs.length ≤ 4 ∧ cd S p 1 0 (R.1 37 m) ∧ opq R vs.length m (p + 1) q1 cs qs ∧ (∀ i, i < vs.length → TT S R mk f 0 (nI (cs i)) 0 (dl + 1) (qs i) (qs (i + 1)) (h + i) fn sc false) ∧ R.1 41 (cs (vs.length - 1)) = b ∧ (∀ i, i < vs.length → cd S (q1 + i) 11 (nI (c0 + i)) (R.1 37 m)) ∧
       bnd S R m c0 h fn vs ∧ TT S R mk f 1 b (R.1 40 m) (dl + 1) (q1 + vs.length) q2 (h + vs.length) fn (vs ++ sc) tl ∧ cd S q2 13 (nI vs.length) (-1) ∧ q = q2 + 1) ∨
     (R.1 36 m = 6 ∧ ∃ e a b q1 q2, a < 256 ∧ R.1 44 m = 1 ∧ cd S p 6 0 (R.1 37 m) ∧ R.1 39 m = nI a ∧ R.1 36 a = 3 ∧ (e.2.2.2 = fn ∧ R.1 43 (4 * m) = nI e.2.2.1) ∧ (S.1 7 e.2.1 = nI h ∧ e.2.1 < 250 ∧ e.2.2.1 < 256) ∧ TT S R mk f 0 (nI a) 0 (dl + 1) (p + 1) q1 (h + 1) fn (e :: sc) false ∧ cd S q1 12 (nI h) (R.1 37 m) ∧ cd S (q1 + 1) 8 0 (-1) ∧
       R.1 41 a = b ∧ TT S R mk f 1 b (R.1 40 m) (dl + 1) (q1 + 2) q2 (h + 1) fn (e :: sc) tl ∧ cd S q2 13 1 (-1) ∧ q = q2 + 1) ∨
     (R.1 36 m = 7 ∧ ∃ e ∈ sc, ∃ src q1 a, a < 256 ∧ R.1 38 m = nI e.2.2.1 ∧ S.1 9 e.2.1 = 1 ∧ Lo S fn e src ∧ cd S p 1 0 (R.1 37 m) ∧ (R.1 39 m = nI a ∧ R.1 42 m = 1) ∧ TT S R mk f 0 (nI a) 0 (dl + 1) (p + 1) q1 h fn sc false ∧ cd S q1 12 src (R.1 37 m) ∧ q = q1 + 1) ∨
     (R.1 36 m = 8 ∧ cd S p 1 0 (R.1 37 m) ∧ TT S R mk f 1 (R.1 39 m) (R.1 40 m) (dl + 1) (p + 1) q h fn sc tl) ∨
     (R.1 36 m = 9 ∧ ∃ o k q1 cs qs, o < 13 ∧ R.1 38 m = nI o ∧ k = (if o < 7 then 2 else 1) ∧ R.1 42 m = nI k ∧ cd S p 1 0 (R.1 37 m) ∧ opq R k m (p + 1) q1 cs qs ∧ (∀ i, i < k → TT S R mk f 0 (nI (cs i)) 0 (dl + 1) (qs i) (qs (i + 1)) (h + i) fn sc false) ∧ cd S q1 (prO o) 0 (R.1 37 m) ∧ q = q1 + 1) ∨
     (R.1 36 m = 10 ∧ ∃ k q1 cs qs, k ≤ 4 ∧ R.1 42 m = nI (k + 1) ∧ cd S p 1 0 (R.1 37 m) ∧ opq R (k + 1) m (p + 1) q1 cs qs ∧ (∀ i, i < k + 1 → TT S R mk f 0 (nI (cs i)) 0 (dl + 1) (qs i) (qs (i + 1)) (h + i) fn sc false) ∧ cd S q1 (if mk && tl then 15 else 14) (nI k) (R.1 37 m) ∧ q = q1 + 1 ∧ (mk = true → R.1 45 m = b2i tl)))
  | f + 1, _ + 1, c, rs, dl, p, q, h, fn, sc, tl => ∃ m q1, c = nI m ∧ m < 256 ∧ ((R.1 41 m = -1 ∧ rs = c ∧ q = q1 ∧ TT S R mk f 0 c 0 dl p q1 h fn sc tl) ∨ (∃ m', m' < 256 ∧ R.1 41 m = nI m' ∧ cd S q1 8 0 (-1) ∧ TT S R mk f 0 c 0 dl p q1 h fn sc false ∧ TT S R mk f 1 (nI m') rs dl (q1 + 1) q h fn sc tl))
