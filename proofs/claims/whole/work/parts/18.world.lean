/-! the world behind the constructors: the class has the state S, the reference R, the law's own row u; e exceptions were made -/
def cC (S : amS) : List amC := [.inr (.inr (8, [.ref 21, .ref 23, .ref 24])),
  .inr (.inr (0, [.ref 2, .ref 3, .ref 4, .int (S.1 1 3)])),
  .inl (0, 502, S.1 2),
  .inl (0, 502, S.1 3),
  .inl (0, 502, S.1 4),
  .inr (.inr (4, [.ref 6, .ref 7, .ref 8, .ref 9, .int (S.1 5 4), .ref 10, .int (S.1 5 6), .ref 11, .int (S.1 5 8)])),
  .inl (0, 250, S.1 6),
  .inl (0, 250, S.1 7),
  .inl (0, 250, S.1 8),
  .inl (1, 250, S.1 9),
  .inl (0, 250, S.1 10),
  .inl (0, 250, S.1 11),
  .inr (.inr (1, [.ref 13, .ref 14, .ref 15, .ref 16, .ref 17, .ref 18, .ref 19, .int (S.1 12 7), .ref 20, .int (S.1 12 9)])),
  .inl (0, 28, S.1 13),
  .inl (0, 28, S.1 14),
  .inl (0, 28, S.1 15),
  .inl (0, 28, S.1 16),
  .inl (0, 28, S.1 17),
  .inl (0, 728, S.1 18),
  .inl (0, 728, S.1 19),
  .inl (0, 21, S.1 20),
  .inr (.inr (7, [.ref 22, .int (S.1 21 1), .int (S.1 21 2), .int (S.1 21 3)])),
  .inl (0, 250, S.1 22),
  .inr (.inr (6, [.ref 21, .ref 1, .ref 5, .ref 12, .int (S.1 23 4), .int (S.1 23 5)])),
  .inr (.inr (3, [.ref 1, .ref 5, .ref 12, .ref 25, .ref 29, .ref 31, .ref 32, .ref 33, .int (S.1 24 8), .int (S.1 24 9), .int (S.1 24 10), .int (S.1 24 11), .int (S.1 24 12), .int (S.1 24 13), .int (S.1 24 14)])),
  .inr (.inr (2, [.ref 26, .ref 27, .ref 28, .int (S.1 25 3), .int (S.1 25 4)])),
  .inr (.inl (2000, S.2 26)),
  .inr (.inl (2000, S.2 27)),
  .inr (.inl (52000, S.2 28)),
  .inr (.inr (5, [.ref 30, .int (S.1 29 1)])),
  .inl (0, 200, S.1 30),
  .inr (.inl (6405, S.2 31)),
  .inl (0, 60, S.1 32),
  .inl (0, 60, S.1 33)]
def cM (R : amS) : List amC := [.inr (.inr (9, [.int (R.1 34 0), .ref 35, .int (R.1 34 2), .int (R.1 34 3), .int (R.1 34 4), .int (R.1 34 5), .int (R.1 34 6), .int (R.1 34 7), .ref 36, .ref 37, .ref 38, .ref 39, .ref 40, .ref 41, .ref 42, .ref 43, .ref 44, .ref 45, .ref 46, .int (R.1 34 19), .ref 47, .ref 48, .ref 49, .int (R.1 34 23), .ref 50, .ref 51, .int (R.1 34 26), .int (R.1 34 27), .int (R.1 34 28), .int (R.1 34 29), .int (R.1 34 30), .int (R.1 34 31), .int (R.1 34 32), .int (R.1 34 33), .ref 52, .ref 53, .int (R.1 34 36), .ref 54, .ref 55, .int (R.1 34 39), .ref 56, .ref 57, .ref 58, .ref 59, .int (R.1 34 44), .ref 60, .ref 61, .ref 62, .ref 63, .int (R.1 34 49), .ref 64, .int (R.1 34 51), .int (R.1 34 52), .int (R.1 34 53), .long (R.2 34 54), .int (R.1 34 55), .ref 65, .ref 66])),
  .inl (0, 250, R.1 35),
  .inl (0, 256, R.1 36),
  .inl (0, 256, R.1 37),
  .inl (0, 256, R.1 38),
  .inl (0, 256, R.1 39),
  .inl (0, 256, R.1 40),
  .inl (0, 256, R.1 41),
  .inl (0, 256, R.1 42),
  .inl (0, 1024, R.1 43),
  .inl (0, 256, R.1 44),
  .inl (1, 256, R.1 45),
  .inl (1, 256, R.1 46),
  .inl (0, 24, R.1 47),
  .inl (1, 24, R.1 48),
  .inl (0, 24, R.1 49),
  .inl (0, 256, R.1 50),
  .inl (0, 256, R.1 51),
  .inr (.inl (2000, R.2 52)),
  .inr (.inl (2000, R.2 53)),
  .inl (0, 2000, R.1 54),
  .inl (0, 2000, R.1 55),
  .inl (0, 120000, R.1 56),
  .inr (.inl (120000, R.2 57)),
  .inl (0, 120000, R.1 58),
  .inl (1, 120000, R.1 59),
  .inl (0, 8000, R.1 60),
  .inl (0, 8000, R.1 61),
  .inl (0, 8000, R.1 62),
  .inl (0, 8000, R.1 63),
  .inr (.inl (16000, R.2 64)),
  .inl (0, 200, R.1 65),
  .inl (0, 104, R.1 66)]
def cw (S R : amS) (u : Nat → Int64) (e : Nat) : amW := (cC S ++ (cM R ++ [.inr (.inl (1, u))]), e, 608437 + 6 * e)
def wc (R : amS) (u : Nat → Int64) : amS → Nat → amW := fun S e => cw S R u e
def wm (S : amS) (u : Nat → Int64) : amS → Nat → amW := fun R e => cw S R u e
section WORLD
variable {X : amX} {S R : amS} {u : Nat → Int64} {e : Nat}
theorem gf_0 (pc : Nat) (lv : List (Nat × Value)) (st : List Value) : am_getf 0 (pc, lv, .ref 1 :: st) (wc R u S e) = some ((pc + 3, lv, .ref 2 :: st), wc R u S e) := rfl
theorem gf_1 (pc : Nat) (lv : List (Nat × Value)) (st : List Value) : am_getf 1 (pc, lv, .ref 1 :: st) (wc R u S e) = some ((pc + 3, lv, .ref 3 :: st), wc R u S e) := rfl
theorem gf_2 (pc : Nat) (lv : List (Nat × Value)) (st : List Value) : am_getf 2 (pc, lv, .ref 1 :: st) (wc R u S e) = some ((pc + 3, lv, .ref 4 :: st), wc R u S e) := rfl
theorem gf_3 (pc : Nat) (lv : List (Nat × Value)) (st : List Value) : am_getf 3 (pc, lv, .ref 1 :: st) (wc R u S e) = some ((pc + 3, lv, .int (S.1 1 3) :: st), wc R u S e) := rfl
theorem gf_100 (pc : Nat) (lv : List (Nat × Value)) (st : List Value) : am_getf 100 (pc, lv, .ref 12 :: st) (wc R u S e) = some ((pc + 3, lv, .ref 13 :: st), wc R u S e) := rfl
theorem gf_101 (pc : Nat) (lv : List (Nat × Value)) (st : List Value) : am_getf 101 (pc, lv, .ref 12 :: st) (wc R u S e) = some ((pc + 3, lv, .ref 14 :: st), wc R u S e) := rfl
theorem gf_102 (pc : Nat) (lv : List (Nat × Value)) (st : List Value) : am_getf 102 (pc, lv, .ref 12 :: st) (wc R u S e) = some ((pc + 3, lv, .ref 15 :: st), wc R u S e) := rfl
theorem gf_103 (pc : Nat) (lv : List (Nat × Value)) (st : List Value) : am_getf 103 (pc, lv, .ref 12 :: st) (wc R u S e) = some ((pc + 3, lv, .ref 16 :: st), wc R u S e) := rfl
theorem gf_104 (pc : Nat) (lv : List (Nat × Value)) (st : List Value) : am_getf 104 (pc, lv, .ref 12 :: st) (wc R u S e) = some ((pc + 3, lv, .ref 17 :: st), wc R u S e) := rfl
theorem gf_105 (pc : Nat) (lv : List (Nat × Value)) (st : List Value) : am_getf 105 (pc, lv, .ref 12 :: st) (wc R u S e) = some ((pc + 3, lv, .ref 18 :: st), wc R u S e) := rfl
theorem gf_106 (pc : Nat) (lv : List (Nat × Value)) (st : List Value) : am_getf 106 (pc, lv, .ref 12 :: st) (wc R u S e) = some ((pc + 3, lv, .ref 19 :: st), wc R u S e) := rfl
theorem gf_107 (pc : Nat) (lv : List (Nat × Value)) (st : List Value) : am_getf 107 (pc, lv, .ref 12 :: st) (wc R u S e) = some ((pc + 3, lv, .int (S.1 12 7) :: st), wc R u S e) := rfl
theorem gf_108 (pc : Nat) (lv : List (Nat × Value)) (st : List Value) : am_getf 108 (pc, lv, .ref 12 :: st) (wc R u S e) = some ((pc + 3, lv, .ref 20 :: st), wc R u S e) := rfl
theorem gf_109 (pc : Nat) (lv : List (Nat × Value)) (st : List Value) : am_getf 109 (pc, lv, .ref 12 :: st) (wc R u S e) = some ((pc + 3, lv, .int (S.1 12 9) :: st), wc R u S e) := rfl
theorem gf_200 (pc : Nat) (lv : List (Nat × Value)) (st : List Value) : am_getf 200 (pc, lv, .ref 25 :: st) (wc R u S e) = some ((pc + 3, lv, .ref 26 :: st), wc R u S e) := rfl
theorem gf_201 (pc : Nat) (lv : List (Nat × Value)) (st : List Value) : am_getf 201 (pc, lv, .ref 25 :: st) (wc R u S e) = some ((pc + 3, lv, .ref 27 :: st), wc R u S e) := rfl
theorem gf_202 (pc : Nat) (lv : List (Nat × Value)) (st : List Value) : am_getf 202 (pc, lv, .ref 25 :: st) (wc R u S e) = some ((pc + 3, lv, .ref 28 :: st), wc R u S e) := rfl
theorem gf_203 (pc : Nat) (lv : List (Nat × Value)) (st : List Value) : am_getf 203 (pc, lv, .ref 25 :: st) (wc R u S e) = some ((pc + 3, lv, .int (S.1 25 3) :: st), wc R u S e) := rfl
theorem gf_204 (pc : Nat) (lv : List (Nat × Value)) (st : List Value) : am_getf 204 (pc, lv, .ref 25 :: st) (wc R u S e) = some ((pc + 3, lv, .int (S.1 25 4) :: st), wc R u S e) := rfl
theorem gf_300 (pc : Nat) (lv : List (Nat × Value)) (st : List Value) : am_getf 300 (pc, lv, .ref 24 :: st) (wc R u S e) = some ((pc + 3, lv, .ref 1 :: st), wc R u S e) := rfl
theorem gf_301 (pc : Nat) (lv : List (Nat × Value)) (st : List Value) : am_getf 301 (pc, lv, .ref 24 :: st) (wc R u S e) = some ((pc + 3, lv, .ref 5 :: st), wc R u S e) := rfl
theorem gf_302 (pc : Nat) (lv : List (Nat × Value)) (st : List Value) : am_getf 302 (pc, lv, .ref 24 :: st) (wc R u S e) = some ((pc + 3, lv, .ref 12 :: st), wc R u S e) := rfl
theorem gf_303 (pc : Nat) (lv : List (Nat × Value)) (st : List Value) : am_getf 303 (pc, lv, .ref 24 :: st) (wc R u S e) = some ((pc + 3, lv, .ref 25 :: st), wc R u S e) := rfl
theorem gf_304 (pc : Nat) (lv : List (Nat × Value)) (st : List Value) : am_getf 304 (pc, lv, .ref 24 :: st) (wc R u S e) = some ((pc + 3, lv, .ref 29 :: st), wc R u S e) := rfl
theorem gf_305 (pc : Nat) (lv : List (Nat × Value)) (st : List Value) : am_getf 305 (pc, lv, .ref 24 :: st) (wc R u S e) = some ((pc + 3, lv, .ref 31 :: st), wc R u S e) := rfl
theorem gf_306 (pc : Nat) (lv : List (Nat × Value)) (st : List Value) : am_getf 306 (pc, lv, .ref 24 :: st) (wc R u S e) = some ((pc + 3, lv, .ref 32 :: st), wc R u S e) := rfl
theorem gf_307 (pc : Nat) (lv : List (Nat × Value)) (st : List Value) : am_getf 307 (pc, lv, .ref 24 :: st) (wc R u S e) = some ((pc + 3, lv, .ref 33 :: st), wc R u S e) := rfl
theorem gf_308 (pc : Nat) (lv : List (Nat × Value)) (st : List Value) : am_getf 308 (pc, lv, .ref 24 :: st) (wc R u S e) = some ((pc + 3, lv, .int (S.1 24 8) :: st), wc R u S e) := rfl
theorem gf_309 (pc : Nat) (lv : List (Nat × Value)) (st : List Value) : am_getf 309 (pc, lv, .ref 24 :: st) (wc R u S e) = some ((pc + 3, lv, .int (S.1 24 9) :: st), wc R u S e) := rfl
theorem gf_310 (pc : Nat) (lv : List (Nat × Value)) (st : List Value) : am_getf 310 (pc, lv, .ref 24 :: st) (wc R u S e) = some ((pc + 3, lv, .int (S.1 24 10) :: st), wc R u S e) := rfl
theorem gf_311 (pc : Nat) (lv : List (Nat × Value)) (st : List Value) : am_getf 311 (pc, lv, .ref 24 :: st) (wc R u S e) = some ((pc + 3, lv, .int (S.1 24 11) :: st), wc R u S e) := rfl
theorem gf_312 (pc : Nat) (lv : List (Nat × Value)) (st : List Value) : am_getf 312 (pc, lv, .ref 24 :: st) (wc R u S e) = some ((pc + 3, lv, .int (S.1 24 12) :: st), wc R u S e) := rfl
theorem gf_313 (pc : Nat) (lv : List (Nat × Value)) (st : List Value) : am_getf 313 (pc, lv, .ref 24 :: st) (wc R u S e) = some ((pc + 3, lv, .int (S.1 24 13) :: st), wc R u S e) := rfl
theorem gf_400 (pc : Nat) (lv : List (Nat × Value)) (st : List Value) : am_getf 400 (pc, lv, .ref 5 :: st) (wc R u S e) = some ((pc + 3, lv, .ref 6 :: st), wc R u S e) := rfl
theorem gf_401 (pc : Nat) (lv : List (Nat × Value)) (st : List Value) : am_getf 401 (pc, lv, .ref 5 :: st) (wc R u S e) = some ((pc + 3, lv, .ref 7 :: st), wc R u S e) := rfl
theorem gf_402 (pc : Nat) (lv : List (Nat × Value)) (st : List Value) : am_getf 402 (pc, lv, .ref 5 :: st) (wc R u S e) = some ((pc + 3, lv, .ref 8 :: st), wc R u S e) := rfl
theorem gf_403 (pc : Nat) (lv : List (Nat × Value)) (st : List Value) : am_getf 403 (pc, lv, .ref 5 :: st) (wc R u S e) = some ((pc + 3, lv, .ref 9 :: st), wc R u S e) := rfl
theorem gf_404 (pc : Nat) (lv : List (Nat × Value)) (st : List Value) : am_getf 404 (pc, lv, .ref 5 :: st) (wc R u S e) = some ((pc + 3, lv, .int (S.1 5 4) :: st), wc R u S e) := rfl
theorem gf_405 (pc : Nat) (lv : List (Nat × Value)) (st : List Value) : am_getf 405 (pc, lv, .ref 5 :: st) (wc R u S e) = some ((pc + 3, lv, .ref 10 :: st), wc R u S e) := rfl
theorem gf_406 (pc : Nat) (lv : List (Nat × Value)) (st : List Value) : am_getf 406 (pc, lv, .ref 5 :: st) (wc R u S e) = some ((pc + 3, lv, .int (S.1 5 6) :: st), wc R u S e) := rfl
theorem gf_407 (pc : Nat) (lv : List (Nat × Value)) (st : List Value) : am_getf 407 (pc, lv, .ref 5 :: st) (wc R u S e) = some ((pc + 3, lv, .ref 11 :: st), wc R u S e) := rfl
theorem gf_408 (pc : Nat) (lv : List (Nat × Value)) (st : List Value) : am_getf 408 (pc, lv, .ref 5 :: st) (wc R u S e) = some ((pc + 3, lv, .int (S.1 5 8) :: st), wc R u S e) := rfl
theorem gf_500 (pc : Nat) (lv : List (Nat × Value)) (st : List Value) : am_getf 500 (pc, lv, .ref 29 :: st) (wc R u S e) = some ((pc + 3, lv, .ref 30 :: st), wc R u S e) := rfl
theorem gf_501 (pc : Nat) (lv : List (Nat × Value)) (st : List Value) : am_getf 501 (pc, lv, .ref 29 :: st) (wc R u S e) = some ((pc + 3, lv, .int (S.1 29 1) :: st), wc R u S e) := rfl
theorem gf_600 (pc : Nat) (lv : List (Nat × Value)) (st : List Value) : am_getf 600 (pc, lv, .ref 23 :: st) (wc R u S e) = some ((pc + 3, lv, .ref 21 :: st), wc R u S e) := rfl
theorem gf_601 (pc : Nat) (lv : List (Nat × Value)) (st : List Value) : am_getf 601 (pc, lv, .ref 23 :: st) (wc R u S e) = some ((pc + 3, lv, .ref 1 :: st), wc R u S e) := rfl
theorem gf_602 (pc : Nat) (lv : List (Nat × Value)) (st : List Value) : am_getf 602 (pc, lv, .ref 23 :: st) (wc R u S e) = some ((pc + 3, lv, .ref 5 :: st), wc R u S e) := rfl
theorem gf_603 (pc : Nat) (lv : List (Nat × Value)) (st : List Value) : am_getf 603 (pc, lv, .ref 23 :: st) (wc R u S e) = some ((pc + 3, lv, .ref 12 :: st), wc R u S e) := rfl
theorem gf_604 (pc : Nat) (lv : List (Nat × Value)) (st : List Value) : am_getf 604 (pc, lv, .ref 23 :: st) (wc R u S e) = some ((pc + 3, lv, .int (S.1 23 4) :: st), wc R u S e) := rfl
theorem gf_700 (pc : Nat) (lv : List (Nat × Value)) (st : List Value) : am_getf 700 (pc, lv, .ref 21 :: st) (wc R u S e) = some ((pc + 3, lv, .ref 22 :: st), wc R u S e) := rfl
theorem gf_701 (pc : Nat) (lv : List (Nat × Value)) (st : List Value) : am_getf 701 (pc, lv, .ref 21 :: st) (wc R u S e) = some ((pc + 3, lv, .int (S.1 21 1) :: st), wc R u S e) := rfl
theorem gf_702 (pc : Nat) (lv : List (Nat × Value)) (st : List Value) : am_getf 702 (pc, lv, .ref 21 :: st) (wc R u S e) = some ((pc + 3, lv, .int (S.1 21 2) :: st), wc R u S e) := rfl
theorem gf_703 (pc : Nat) (lv : List (Nat × Value)) (st : List Value) : am_getf 703 (pc, lv, .ref 21 :: st) (wc R u S e) = some ((pc + 3, lv, .int (S.1 21 3) :: st), wc R u S e) := rfl
theorem gf_800 (pc : Nat) (lv : List (Nat × Value)) (st : List Value) : am_getf 800 (pc, lv, .ref 0 :: st) (wc R u S e) = some ((pc + 3, lv, .ref 21 :: st), wc R u S e) := rfl
theorem gf_801 (pc : Nat) (lv : List (Nat × Value)) (st : List Value) : am_getf 801 (pc, lv, .ref 0 :: st) (wc R u S e) = some ((pc + 3, lv, .ref 23 :: st), wc R u S e) := rfl
theorem gf_802 (pc : Nat) (lv : List (Nat × Value)) (st : List Value) : am_getf 802 (pc, lv, .ref 0 :: st) (wc R u S e) = some ((pc + 3, lv, .ref 24 :: st), wc R u S e) := rfl
theorem gf_900 (pc : Nat) (lv : List (Nat × Value)) (st : List Value) : am_getf 900 (pc, lv, .ref 34 :: st) (wm S u R e) = some ((pc + 3, lv, .int (R.1 34 0) :: st), wm S u R e) := rfl
theorem gf_901 (pc : Nat) (lv : List (Nat × Value)) (st : List Value) : am_getf 901 (pc, lv, .ref 34 :: st) (wm S u R e) = some ((pc + 3, lv, .ref 35 :: st), wm S u R e) := rfl
theorem gf_902 (pc : Nat) (lv : List (Nat × Value)) (st : List Value) : am_getf 902 (pc, lv, .ref 34 :: st) (wm S u R e) = some ((pc + 3, lv, .int (R.1 34 2) :: st), wm S u R e) := rfl
theorem gf_903 (pc : Nat) (lv : List (Nat × Value)) (st : List Value) : am_getf 903 (pc, lv, .ref 34 :: st) (wm S u R e) = some ((pc + 3, lv, .int (R.1 34 3) :: st), wm S u R e) := rfl
theorem gf_904 (pc : Nat) (lv : List (Nat × Value)) (st : List Value) : am_getf 904 (pc, lv, .ref 34 :: st) (wm S u R e) = some ((pc + 3, lv, .int (R.1 34 4) :: st), wm S u R e) := rfl
theorem gf_905 (pc : Nat) (lv : List (Nat × Value)) (st : List Value) : am_getf 905 (pc, lv, .ref 34 :: st) (wm S u R e) = some ((pc + 3, lv, .int (R.1 34 5) :: st), wm S u R e) := rfl
theorem gf_906 (pc : Nat) (lv : List (Nat × Value)) (st : List Value) : am_getf 906 (pc, lv, .ref 34 :: st) (wm S u R e) = some ((pc + 3, lv, .int (R.1 34 6) :: st), wm S u R e) := rfl
theorem gf_907 (pc : Nat) (lv : List (Nat × Value)) (st : List Value) : am_getf 907 (pc, lv, .ref 34 :: st) (wm S u R e) = some ((pc + 3, lv, .int (R.1 34 7) :: st), wm S u R e) := rfl
theorem gf_908 (pc : Nat) (lv : List (Nat × Value)) (st : List Value) : am_getf 908 (pc, lv, .ref 34 :: st) (wm S u R e) = some ((pc + 3, lv, .ref 36 :: st), wm S u R e) := rfl
theorem gf_909 (pc : Nat) (lv : List (Nat × Value)) (st : List Value) : am_getf 909 (pc, lv, .ref 34 :: st) (wm S u R e) = some ((pc + 3, lv, .ref 37 :: st), wm S u R e) := rfl
theorem gf_910 (pc : Nat) (lv : List (Nat × Value)) (st : List Value) : am_getf 910 (pc, lv, .ref 34 :: st) (wm S u R e) = some ((pc + 3, lv, .ref 38 :: st), wm S u R e) := rfl
theorem gf_911 (pc : Nat) (lv : List (Nat × Value)) (st : List Value) : am_getf 911 (pc, lv, .ref 34 :: st) (wm S u R e) = some ((pc + 3, lv, .ref 39 :: st), wm S u R e) := rfl
theorem gf_912 (pc : Nat) (lv : List (Nat × Value)) (st : List Value) : am_getf 912 (pc, lv, .ref 34 :: st) (wm S u R e) = some ((pc + 3, lv, .ref 40 :: st), wm S u R e) := rfl
theorem gf_913 (pc : Nat) (lv : List (Nat × Value)) (st : List Value) : am_getf 913 (pc, lv, .ref 34 :: st) (wm S u R e) = some ((pc + 3, lv, .ref 41 :: st), wm S u R e) := rfl
theorem gf_914 (pc : Nat) (lv : List (Nat × Value)) (st : List Value) : am_getf 914 (pc, lv, .ref 34 :: st) (wm S u R e) = some ((pc + 3, lv, .ref 42 :: st), wm S u R e) := rfl
theorem gf_915 (pc : Nat) (lv : List (Nat × Value)) (st : List Value) : am_getf 915 (pc, lv, .ref 34 :: st) (wm S u R e) = some ((pc + 3, lv, .ref 43 :: st), wm S u R e) := rfl
theorem gf_916 (pc : Nat) (lv : List (Nat × Value)) (st : List Value) : am_getf 916 (pc, lv, .ref 34 :: st) (wm S u R e) = some ((pc + 3, lv, .ref 44 :: st), wm S u R e) := rfl
theorem gf_917 (pc : Nat) (lv : List (Nat × Value)) (st : List Value) : am_getf 917 (pc, lv, .ref 34 :: st) (wm S u R e) = some ((pc + 3, lv, .ref 45 :: st), wm S u R e) := rfl
theorem gf_918 (pc : Nat) (lv : List (Nat × Value)) (st : List Value) : am_getf 918 (pc, lv, .ref 34 :: st) (wm S u R e) = some ((pc + 3, lv, .ref 46 :: st), wm S u R e) := rfl
theorem gf_919 (pc : Nat) (lv : List (Nat × Value)) (st : List Value) : am_getf 919 (pc, lv, .ref 34 :: st) (wm S u R e) = some ((pc + 3, lv, .int (R.1 34 19) :: st), wm S u R e) := rfl
theorem gf_920 (pc : Nat) (lv : List (Nat × Value)) (st : List Value) : am_getf 920 (pc, lv, .ref 34 :: st) (wm S u R e) = some ((pc + 3, lv, .ref 47 :: st), wm S u R e) := rfl
theorem gf_921 (pc : Nat) (lv : List (Nat × Value)) (st : List Value) : am_getf 921 (pc, lv, .ref 34 :: st) (wm S u R e) = some ((pc + 3, lv, .ref 48 :: st), wm S u R e) := rfl
theorem gf_922 (pc : Nat) (lv : List (Nat × Value)) (st : List Value) : am_getf 922 (pc, lv, .ref 34 :: st) (wm S u R e) = some ((pc + 3, lv, .ref 49 :: st), wm S u R e) := rfl
theorem gf_923 (pc : Nat) (lv : List (Nat × Value)) (st : List Value) : am_getf 923 (pc, lv, .ref 34 :: st) (wm S u R e) = some ((pc + 3, lv, .int (R.1 34 23) :: st), wm S u R e) := rfl
theorem gf_924 (pc : Nat) (lv : List (Nat × Value)) (st : List Value) : am_getf 924 (pc, lv, .ref 34 :: st) (wm S u R e) = some ((pc + 3, lv, .ref 50 :: st), wm S u R e) := rfl
theorem gf_925 (pc : Nat) (lv : List (Nat × Value)) (st : List Value) : am_getf 925 (pc, lv, .ref 34 :: st) (wm S u R e) = some ((pc + 3, lv, .ref 51 :: st), wm S u R e) := rfl
theorem gf_926 (pc : Nat) (lv : List (Nat × Value)) (st : List Value) : am_getf 926 (pc, lv, .ref 34 :: st) (wm S u R e) = some ((pc + 3, lv, .int (R.1 34 26) :: st), wm S u R e) := rfl
theorem gf_927 (pc : Nat) (lv : List (Nat × Value)) (st : List Value) : am_getf 927 (pc, lv, .ref 34 :: st) (wm S u R e) = some ((pc + 3, lv, .int (R.1 34 27) :: st), wm S u R e) := rfl
theorem gf_928 (pc : Nat) (lv : List (Nat × Value)) (st : List Value) : am_getf 928 (pc, lv, .ref 34 :: st) (wm S u R e) = some ((pc + 3, lv, .int (R.1 34 28) :: st), wm S u R e) := rfl
theorem gf_929 (pc : Nat) (lv : List (Nat × Value)) (st : List Value) : am_getf 929 (pc, lv, .ref 34 :: st) (wm S u R e) = some ((pc + 3, lv, .int (R.1 34 29) :: st), wm S u R e) := rfl
theorem gf_930 (pc : Nat) (lv : List (Nat × Value)) (st : List Value) : am_getf 930 (pc, lv, .ref 34 :: st) (wm S u R e) = some ((pc + 3, lv, .int (R.1 34 30) :: st), wm S u R e) := rfl
theorem gf_931 (pc : Nat) (lv : List (Nat × Value)) (st : List Value) : am_getf 931 (pc, lv, .ref 34 :: st) (wm S u R e) = some ((pc + 3, lv, .int (R.1 34 31) :: st), wm S u R e) := rfl
theorem gf_932 (pc : Nat) (lv : List (Nat × Value)) (st : List Value) : am_getf 932 (pc, lv, .ref 34 :: st) (wm S u R e) = some ((pc + 3, lv, .int (R.1 34 32) :: st), wm S u R e) := rfl
theorem gf_933 (pc : Nat) (lv : List (Nat × Value)) (st : List Value) : am_getf 933 (pc, lv, .ref 34 :: st) (wm S u R e) = some ((pc + 3, lv, .int (R.1 34 33) :: st), wm S u R e) := rfl
theorem gf_934 (pc : Nat) (lv : List (Nat × Value)) (st : List Value) : am_getf 934 (pc, lv, .ref 34 :: st) (wm S u R e) = some ((pc + 3, lv, .ref 52 :: st), wm S u R e) := rfl
theorem gf_935 (pc : Nat) (lv : List (Nat × Value)) (st : List Value) : am_getf 935 (pc, lv, .ref 34 :: st) (wm S u R e) = some ((pc + 3, lv, .ref 53 :: st), wm S u R e) := rfl
theorem gf_936 (pc : Nat) (lv : List (Nat × Value)) (st : List Value) : am_getf 936 (pc, lv, .ref 34 :: st) (wm S u R e) = some ((pc + 3, lv, .int (R.1 34 36) :: st), wm S u R e) := rfl
theorem gf_937 (pc : Nat) (lv : List (Nat × Value)) (st : List Value) : am_getf 937 (pc, lv, .ref 34 :: st) (wm S u R e) = some ((pc + 3, lv, .ref 54 :: st), wm S u R e) := rfl
theorem gf_938 (pc : Nat) (lv : List (Nat × Value)) (st : List Value) : am_getf 938 (pc, lv, .ref 34 :: st) (wm S u R e) = some ((pc + 3, lv, .ref 55 :: st), wm S u R e) := rfl
theorem gf_939 (pc : Nat) (lv : List (Nat × Value)) (st : List Value) : am_getf 939 (pc, lv, .ref 34 :: st) (wm S u R e) = some ((pc + 3, lv, .int (R.1 34 39) :: st), wm S u R e) := rfl
theorem gf_940 (pc : Nat) (lv : List (Nat × Value)) (st : List Value) : am_getf 940 (pc, lv, .ref 34 :: st) (wm S u R e) = some ((pc + 3, lv, .ref 56 :: st), wm S u R e) := rfl
theorem gf_941 (pc : Nat) (lv : List (Nat × Value)) (st : List Value) : am_getf 941 (pc, lv, .ref 34 :: st) (wm S u R e) = some ((pc + 3, lv, .ref 57 :: st), wm S u R e) := rfl
theorem gf_942 (pc : Nat) (lv : List (Nat × Value)) (st : List Value) : am_getf 942 (pc, lv, .ref 34 :: st) (wm S u R e) = some ((pc + 3, lv, .ref 58 :: st), wm S u R e) := rfl
theorem gf_943 (pc : Nat) (lv : List (Nat × Value)) (st : List Value) : am_getf 943 (pc, lv, .ref 34 :: st) (wm S u R e) = some ((pc + 3, lv, .ref 59 :: st), wm S u R e) := rfl
theorem gf_944 (pc : Nat) (lv : List (Nat × Value)) (st : List Value) : am_getf 944 (pc, lv, .ref 34 :: st) (wm S u R e) = some ((pc + 3, lv, .int (R.1 34 44) :: st), wm S u R e) := rfl
theorem gf_945 (pc : Nat) (lv : List (Nat × Value)) (st : List Value) : am_getf 945 (pc, lv, .ref 34 :: st) (wm S u R e) = some ((pc + 3, lv, .ref 60 :: st), wm S u R e) := rfl
theorem gf_946 (pc : Nat) (lv : List (Nat × Value)) (st : List Value) : am_getf 946 (pc, lv, .ref 34 :: st) (wm S u R e) = some ((pc + 3, lv, .ref 61 :: st), wm S u R e) := rfl
theorem gf_947 (pc : Nat) (lv : List (Nat × Value)) (st : List Value) : am_getf 947 (pc, lv, .ref 34 :: st) (wm S u R e) = some ((pc + 3, lv, .ref 62 :: st), wm S u R e) := rfl
theorem gf_948 (pc : Nat) (lv : List (Nat × Value)) (st : List Value) : am_getf 948 (pc, lv, .ref 34 :: st) (wm S u R e) = some ((pc + 3, lv, .ref 63 :: st), wm S u R e) := rfl
theorem gf_949 (pc : Nat) (lv : List (Nat × Value)) (st : List Value) : am_getf 949 (pc, lv, .ref 34 :: st) (wm S u R e) = some ((pc + 3, lv, .int (R.1 34 49) :: st), wm S u R e) := rfl
theorem gf_950 (pc : Nat) (lv : List (Nat × Value)) (st : List Value) : am_getf 950 (pc, lv, .ref 34 :: st) (wm S u R e) = some ((pc + 3, lv, .ref 64 :: st), wm S u R e) := rfl
theorem gf_951 (pc : Nat) (lv : List (Nat × Value)) (st : List Value) : am_getf 951 (pc, lv, .ref 34 :: st) (wm S u R e) = some ((pc + 3, lv, .int (R.1 34 51) :: st), wm S u R e) := rfl
theorem gf_952 (pc : Nat) (lv : List (Nat × Value)) (st : List Value) : am_getf 952 (pc, lv, .ref 34 :: st) (wm S u R e) = some ((pc + 3, lv, .int (R.1 34 52) :: st), wm S u R e) := rfl
theorem gf_953 (pc : Nat) (lv : List (Nat × Value)) (st : List Value) : am_getf 953 (pc, lv, .ref 34 :: st) (wm S u R e) = some ((pc + 3, lv, .int (R.1 34 53) :: st), wm S u R e) := rfl
theorem gf_954 (pc : Nat) (lv : List (Nat × Value)) (st : List Value) : am_getf 954 (pc, lv, .ref 34 :: st) (wm S u R e) = some ((pc + 3, lv, .long (R.2 34 54) :: st), wm S u R e) := rfl
theorem gf_955 (pc : Nat) (lv : List (Nat × Value)) (st : List Value) : am_getf 955 (pc, lv, .ref 34 :: st) (wm S u R e) = some ((pc + 3, lv, .int (R.1 34 55) :: st), wm S u R e) := rfl
theorem gf_956 (pc : Nat) (lv : List (Nat × Value)) (st : List Value) : am_getf 956 (pc, lv, .ref 34 :: st) (wm S u R e) = some ((pc + 3, lv, .ref 65 :: st), wm S u R e) := rfl
theorem gf_957 (pc : Nat) (lv : List (Nat × Value)) (st : List Value) : am_getf 957 (pc, lv, .ref 34 :: st) (wm S u R e) = some ((pc + 3, lv, .ref 66 :: st), wm S u R e) := rfl
theorem gf_10001 (pc : Nat) (lv : List (Nat × Value)) (st : List Value) : am_getf 10001 (pc, lv, .ref 1 :: st) (wc R u S e) = some ((pc + 3, lv, .ref 3 :: st), wc R u S e) := rfl
theorem gf_10002 (pc : Nat) (lv : List (Nat × Value)) (st : List Value) : am_getf 10002 (pc, lv, .ref 1 :: st) (wc R u S e) = some ((pc + 3, lv, .ref 4 :: st), wc R u S e) := rfl
theorem gf_10003 (pc : Nat) (lv : List (Nat × Value)) (st : List Value) : am_getf 10003 (pc, lv, .ref 1 :: st) (wc R u S e) = some ((pc + 3, lv, .int (S.1 1 3) :: st), wc R u S e) := rfl
theorem gf_10107 (pc : Nat) (lv : List (Nat × Value)) (st : List Value) : am_getf 10107 (pc, lv, .ref 12 :: st) (wc R u S e) = some ((pc + 3, lv, .int (S.1 12 7) :: st), wc R u S e) := rfl
theorem gf_10109 (pc : Nat) (lv : List (Nat × Value)) (st : List Value) : am_getf 10109 (pc, lv, .ref 12 :: st) (wc R u S e) = some ((pc + 3, lv, .int (S.1 12 9) :: st), wc R u S e) := rfl
theorem gf_10203 (pc : Nat) (lv : List (Nat × Value)) (st : List Value) : am_getf 10203 (pc, lv, .ref 25 :: st) (wc R u S e) = some ((pc + 3, lv, .int (S.1 25 3) :: st), wc R u S e) := rfl
theorem gf_10204 (pc : Nat) (lv : List (Nat × Value)) (st : List Value) : am_getf 10204 (pc, lv, .ref 25 :: st) (wc R u S e) = some ((pc + 3, lv, .int (S.1 25 4) :: st), wc R u S e) := rfl
theorem gf_10303 (pc : Nat) (lv : List (Nat × Value)) (st : List Value) : am_getf 10303 (pc, lv, .ref 24 :: st) (wc R u S e) = some ((pc + 3, lv, .ref 25 :: st), wc R u S e) := rfl
theorem gf_10304 (pc : Nat) (lv : List (Nat × Value)) (st : List Value) : am_getf 10304 (pc, lv, .ref 24 :: st) (wc R u S e) = some ((pc + 3, lv, .ref 29 :: st), wc R u S e) := rfl
theorem gf_10311 (pc : Nat) (lv : List (Nat × Value)) (st : List Value) : am_getf 10311 (pc, lv, .ref 24 :: st) (wc R u S e) = some ((pc + 3, lv, .int (S.1 24 11) :: st), wc R u S e) := rfl
theorem gf_10312 (pc : Nat) (lv : List (Nat × Value)) (st : List Value) : am_getf 10312 (pc, lv, .ref 24 :: st) (wc R u S e) = some ((pc + 3, lv, .int (S.1 24 12) :: st), wc R u S e) := rfl
theorem gf_10313 (pc : Nat) (lv : List (Nat × Value)) (st : List Value) : am_getf 10313 (pc, lv, .ref 24 :: st) (wc R u S e) = some ((pc + 3, lv, .int (S.1 24 13) :: st), wc R u S e) := rfl
theorem gf_10314 (pc : Nat) (lv : List (Nat × Value)) (st : List Value) : am_getf 10314 (pc, lv, .ref 24 :: st) (wc R u S e) = some ((pc + 3, lv, .int (S.1 24 14) :: st), wc R u S e) := rfl
theorem gf_10404 (pc : Nat) (lv : List (Nat × Value)) (st : List Value) : am_getf 10404 (pc, lv, .ref 5 :: st) (wc R u S e) = some ((pc + 3, lv, .int (S.1 5 4) :: st), wc R u S e) := rfl
theorem gf_10408 (pc : Nat) (lv : List (Nat × Value)) (st : List Value) : am_getf 10408 (pc, lv, .ref 5 :: st) (wc R u S e) = some ((pc + 3, lv, .int (S.1 5 8) :: st), wc R u S e) := rfl
theorem gf_10501 (pc : Nat) (lv : List (Nat × Value)) (st : List Value) : am_getf 10501 (pc, lv, .ref 29 :: st) (wc R u S e) = some ((pc + 3, lv, .int (S.1 29 1) :: st), wc R u S e) := rfl
theorem gf_10605 (pc : Nat) (lv : List (Nat × Value)) (st : List Value) : am_getf 10605 (pc, lv, .ref 23 :: st) (wc R u S e) = some ((pc + 3, lv, .int (S.1 23 5) :: st), wc R u S e) := rfl
theorem gf_10703 (pc : Nat) (lv : List (Nat × Value)) (st : List Value) : am_getf 10703 (pc, lv, .ref 21 :: st) (wc R u S e) = some ((pc + 3, lv, .int (S.1 21 3) :: st), wc R u S e) := rfl
theorem pf_3 (x : Int32) (pc : Nat) (lv : List (Nat × Value)) (st : List Value) : am_putf 3 (pc, lv, .int x :: .ref 1 :: st) (wc R u S e) = some ((pc + 3, lv, st), wc R u (sI S 1 3 x) e) := rfl
theorem pf_107 (x : Int32) (pc : Nat) (lv : List (Nat × Value)) (st : List Value) : am_putf 107 (pc, lv, .int x :: .ref 12 :: st) (wc R u S e) = some ((pc + 3, lv, st), wc R u (sI S 12 7 x) e) := rfl
theorem pf_109 (x : Int32) (pc : Nat) (lv : List (Nat × Value)) (st : List Value) : am_putf 109 (pc, lv, .int x :: .ref 12 :: st) (wc R u S e) = some ((pc + 3, lv, st), wc R u (sI S 12 9 x) e) := rfl
theorem pf_203 (x : Int32) (pc : Nat) (lv : List (Nat × Value)) (st : List Value) : am_putf 203 (pc, lv, .int x :: .ref 25 :: st) (wc R u S e) = some ((pc + 3, lv, st), wc R u (sI S 25 3 x) e) := rfl
theorem pf_204 (x : Int32) (pc : Nat) (lv : List (Nat × Value)) (st : List Value) : am_putf 204 (pc, lv, .int x :: .ref 25 :: st) (wc R u S e) = some ((pc + 3, lv, st), wc R u (sI S 25 4 x) e) := rfl
theorem pf_308 (x : Int32) (pc : Nat) (lv : List (Nat × Value)) (st : List Value) : am_putf 308 (pc, lv, .int x :: .ref 24 :: st) (wc R u S e) = some ((pc + 3, lv, st), wc R u (sI S 24 8 x) e) := rfl
theorem pf_309 (x : Int32) (pc : Nat) (lv : List (Nat × Value)) (st : List Value) : am_putf 309 (pc, lv, .int x :: .ref 24 :: st) (wc R u S e) = some ((pc + 3, lv, st), wc R u (sI S 24 9 x) e) := rfl
theorem pf_310 (x : Int32) (pc : Nat) (lv : List (Nat × Value)) (st : List Value) : am_putf 310 (pc, lv, .int x :: .ref 24 :: st) (wc R u S e) = some ((pc + 3, lv, st), wc R u (sI S 24 10 x) e) := rfl
theorem pf_311 (x : Int32) (pc : Nat) (lv : List (Nat × Value)) (st : List Value) : am_putf 311 (pc, lv, .int x :: .ref 24 :: st) (wc R u S e) = some ((pc + 3, lv, st), wc R u (sI S 24 11 x) e) := rfl
theorem pf_312 (x : Int32) (pc : Nat) (lv : List (Nat × Value)) (st : List Value) : am_putf 312 (pc, lv, .int x :: .ref 24 :: st) (wc R u S e) = some ((pc + 3, lv, st), wc R u (sI S 24 12 x) e) := rfl
theorem pf_313 (x : Int32) (pc : Nat) (lv : List (Nat × Value)) (st : List Value) : am_putf 313 (pc, lv, .int x :: .ref 24 :: st) (wc R u S e) = some ((pc + 3, lv, st), wc R u (sI S 24 13 x) e) := rfl
theorem pf_314 (x : Int32) (pc : Nat) (lv : List (Nat × Value)) (st : List Value) : am_putf 314 (pc, lv, .int x :: .ref 24 :: st) (wc R u S e) = some ((pc + 3, lv, st), wc R u (sI S 24 14 x) e) := rfl
theorem pf_404 (x : Int32) (pc : Nat) (lv : List (Nat × Value)) (st : List Value) : am_putf 404 (pc, lv, .int x :: .ref 5 :: st) (wc R u S e) = some ((pc + 3, lv, st), wc R u (sI S 5 4 x) e) := rfl
theorem pf_406 (x : Int32) (pc : Nat) (lv : List (Nat × Value)) (st : List Value) : am_putf 406 (pc, lv, .int x :: .ref 5 :: st) (wc R u S e) = some ((pc + 3, lv, st), wc R u (sI S 5 6 x) e) := rfl
theorem pf_408 (x : Int32) (pc : Nat) (lv : List (Nat × Value)) (st : List Value) : am_putf 408 (pc, lv, .int x :: .ref 5 :: st) (wc R u S e) = some ((pc + 3, lv, st), wc R u (sI S 5 8 x) e) := rfl
theorem pf_501 (x : Int32) (pc : Nat) (lv : List (Nat × Value)) (st : List Value) : am_putf 501 (pc, lv, .int x :: .ref 29 :: st) (wc R u S e) = some ((pc + 3, lv, st), wc R u (sI S 29 1 x) e) := rfl
theorem pf_604 (x : Int32) (pc : Nat) (lv : List (Nat × Value)) (st : List Value) : am_putf 604 (pc, lv, .int x :: .ref 23 :: st) (wc R u S e) = some ((pc + 3, lv, st), wc R u (sI S 23 4 x) e) := rfl
theorem pf_605 (x : Int32) (pc : Nat) (lv : List (Nat × Value)) (st : List Value) : am_putf 605 (pc, lv, .int x :: .ref 23 :: st) (wc R u S e) = some ((pc + 3, lv, st), wc R u (sI S 23 5 x) e) := rfl
theorem pf_701 (x : Int32) (pc : Nat) (lv : List (Nat × Value)) (st : List Value) : am_putf 701 (pc, lv, .int x :: .ref 21 :: st) (wc R u S e) = some ((pc + 3, lv, st), wc R u (sI S 21 1 x) e) := rfl
theorem pf_702 (x : Int32) (pc : Nat) (lv : List (Nat × Value)) (st : List Value) : am_putf 702 (pc, lv, .int x :: .ref 21 :: st) (wc R u S e) = some ((pc + 3, lv, st), wc R u (sI S 21 2 x) e) := rfl
theorem pf_703 (x : Int32) (pc : Nat) (lv : List (Nat × Value)) (st : List Value) : am_putf 703 (pc, lv, .int x :: .ref 21 :: st) (wc R u S e) = some ((pc + 3, lv, st), wc R u (sI S 21 3 x) e) := rfl
theorem pf_900 (x : Int32) (pc : Nat) (lv : List (Nat × Value)) (st : List Value) : am_putf 900 (pc, lv, .int x :: .ref 34 :: st) (wm S u R e) = some ((pc + 3, lv, st), wm S u (sI R 34 0 x) e) := rfl
theorem pf_902 (x : Int32) (pc : Nat) (lv : List (Nat × Value)) (st : List Value) : am_putf 902 (pc, lv, .int x :: .ref 34 :: st) (wm S u R e) = some ((pc + 3, lv, st), wm S u (sI R 34 2 x) e) := rfl
theorem pf_903 (x : Int32) (pc : Nat) (lv : List (Nat × Value)) (st : List Value) : am_putf 903 (pc, lv, .int x :: .ref 34 :: st) (wm S u R e) = some ((pc + 3, lv, st), wm S u (sI R 34 3 x) e) := rfl
theorem pf_904 (x : Int32) (pc : Nat) (lv : List (Nat × Value)) (st : List Value) : am_putf 904 (pc, lv, .int x :: .ref 34 :: st) (wm S u R e) = some ((pc + 3, lv, st), wm S u (sI R 34 4 x) e) := rfl
theorem pf_905_0 (pc : Nat) (lv : List (Nat × Value)) (st : List Value) : am_putf 905 (pc, lv, .int 0 :: .ref 34 :: st) (wm S u R e) = some ((pc + 3, lv, st), wm S u (sI R 34 5 0) e) := rfl
theorem pf_905_1 (pc : Nat) (lv : List (Nat × Value)) (st : List Value) : am_putf 905 (pc, lv, .int 1 :: .ref 34 :: st) (wm S u R e) = some ((pc + 3, lv, st), wm S u (sI R 34 5 1) e) := rfl
theorem pf_906 (x : Int32) (pc : Nat) (lv : List (Nat × Value)) (st : List Value) : am_putf 906 (pc, lv, .int x :: .ref 34 :: st) (wm S u R e) = some ((pc + 3, lv, st), wm S u (sI R 34 6 x) e) := rfl
theorem pf_907 (x : Int32) (pc : Nat) (lv : List (Nat × Value)) (st : List Value) : am_putf 907 (pc, lv, .int x :: .ref 34 :: st) (wm S u R e) = some ((pc + 3, lv, st), wm S u (sI R 34 7 x) e) := rfl
theorem pf_919 (x : Int32) (pc : Nat) (lv : List (Nat × Value)) (st : List Value) : am_putf 919 (pc, lv, .int x :: .ref 34 :: st) (wm S u R e) = some ((pc + 3, lv, st), wm S u (sI R 34 19 x) e) := rfl
theorem pf_923 (x : Int32) (pc : Nat) (lv : List (Nat × Value)) (st : List Value) : am_putf 923 (pc, lv, .int x :: .ref 34 :: st) (wm S u R e) = some ((pc + 3, lv, st), wm S u (sI R 34 23 x) e) := rfl
theorem pf_926 (x : Int32) (pc : Nat) (lv : List (Nat × Value)) (st : List Value) : am_putf 926 (pc, lv, .int x :: .ref 34 :: st) (wm S u R e) = some ((pc + 3, lv, st), wm S u (sI R 34 26 x) e) := rfl
theorem pf_927 (x : Int32) (pc : Nat) (lv : List (Nat × Value)) (st : List Value) : am_putf 927 (pc, lv, .int x :: .ref 34 :: st) (wm S u R e) = some ((pc + 3, lv, st), wm S u (sI R 34 27 x) e) := rfl
theorem pf_928 (x : Int32) (pc : Nat) (lv : List (Nat × Value)) (st : List Value) : am_putf 928 (pc, lv, .int x :: .ref 34 :: st) (wm S u R e) = some ((pc + 3, lv, st), wm S u (sI R 34 28 x) e) := rfl
theorem pf_929 (x : Int32) (pc : Nat) (lv : List (Nat × Value)) (st : List Value) : am_putf 929 (pc, lv, .int x :: .ref 34 :: st) (wm S u R e) = some ((pc + 3, lv, st), wm S u (sI R 34 29 x) e) := rfl
theorem pf_930 (x : Int32) (pc : Nat) (lv : List (Nat × Value)) (st : List Value) : am_putf 930 (pc, lv, .int x :: .ref 34 :: st) (wm S u R e) = some ((pc + 3, lv, st), wm S u (sI R 34 30 x) e) := rfl
theorem pf_931 (x : Int32) (pc : Nat) (lv : List (Nat × Value)) (st : List Value) : am_putf 931 (pc, lv, .int x :: .ref 34 :: st) (wm S u R e) = some ((pc + 3, lv, st), wm S u (sI R 34 31 x) e) := rfl
theorem pf_932 (x : Int32) (pc : Nat) (lv : List (Nat × Value)) (st : List Value) : am_putf 932 (pc, lv, .int x :: .ref 34 :: st) (wm S u R e) = some ((pc + 3, lv, st), wm S u (sI R 34 32 x) e) := rfl
theorem pf_933 (x : Int32) (pc : Nat) (lv : List (Nat × Value)) (st : List Value) : am_putf 933 (pc, lv, .int x :: .ref 34 :: st) (wm S u R e) = some ((pc + 3, lv, st), wm S u (sI R 34 33 x) e) := rfl
theorem pf_936 (x : Int32) (pc : Nat) (lv : List (Nat × Value)) (st : List Value) : am_putf 936 (pc, lv, .int x :: .ref 34 :: st) (wm S u R e) = some ((pc + 3, lv, st), wm S u (sI R 34 36 x) e) := rfl
theorem pf_939 (x : Int32) (pc : Nat) (lv : List (Nat × Value)) (st : List Value) : am_putf 939 (pc, lv, .int x :: .ref 34 :: st) (wm S u R e) = some ((pc + 3, lv, st), wm S u (sI R 34 39 x) e) := rfl
theorem pf_944 (x : Int32) (pc : Nat) (lv : List (Nat × Value)) (st : List Value) : am_putf 944 (pc, lv, .int x :: .ref 34 :: st) (wm S u R e) = some ((pc + 3, lv, st), wm S u (sI R 34 44 x) e) := rfl
theorem pf_949 (x : Int32) (pc : Nat) (lv : List (Nat × Value)) (st : List Value) : am_putf 949 (pc, lv, .int x :: .ref 34 :: st) (wm S u R e) = some ((pc + 3, lv, st), wm S u (sI R 34 49 x) e) := rfl
theorem pf_951 (x : Int32) (pc : Nat) (lv : List (Nat × Value)) (st : List Value) : am_putf 951 (pc, lv, .int x :: .ref 34 :: st) (wm S u R e) = some ((pc + 3, lv, st), wm S u (sI R 34 51 x) e) := rfl
theorem pf_952 (x : Int32) (pc : Nat) (lv : List (Nat × Value)) (st : List Value) : am_putf 952 (pc, lv, .int x :: .ref 34 :: st) (wm S u R e) = some ((pc + 3, lv, st), wm S u (sI R 34 52 x) e) := rfl
theorem pf_953 (x : Int32) (pc : Nat) (lv : List (Nat × Value)) (st : List Value) : am_putf 953 (pc, lv, .int x :: .ref 34 :: st) (wm S u R e) = some ((pc + 3, lv, st), wm S u (sI R 34 53 x) e) := rfl
theorem pf_954 (x : Int64) (pc : Nat) (lv : List (Nat × Value)) (st : List Value) : am_putf 954 (pc, lv, .long x :: .ref 34 :: st) (wm S u R e) = some ((pc + 3, lv, st), wm S u (sJ R 34 54 x) e) := rfl
theorem pf_955 (x : Int32) (pc : Nat) (lv : List (Nat × Value)) (st : List Value) : am_putf 955 (pc, lv, .int x :: .ref 34 :: st) (wm S u R e) = some ((pc + 3, lv, st), wm S u (sI R 34 55 x) e) := rfl
theorem pf_10703 (x : Int32) (pc : Nat) (lv : List (Nat × Value)) (st : List Value) : am_putf 10703 (pc, lv, .int x :: .ref 21 :: st) (wc R u S e) = some ((pc + 3, lv, st), wc R u (sI S 21 3 x) e) := rfl
theorem al_2 : am_len X (wc R u S e) 2 = some 502 := rfl
theorem ai_2 : am_ai X (wc R u S e) 2 = some (502, S.1 2) := rfl
theorem ar_2 : (wc R u S e).1[2]? = some (.inl (0, 502, S.1 2)) := rfl
theorem as_2 (k : Nat) (x : Int32) : ((wc R u S e).1.set 2 (.inl (0, 502, upd (S.1 2) k x)), (wc R u S e).2) = wc R u (sI S 2 k x) e := rfl
theorem al_3 : am_len X (wc R u S e) 3 = some 502 := rfl
theorem ai_3 : am_ai X (wc R u S e) 3 = some (502, S.1 3) := rfl
theorem ar_3 : (wc R u S e).1[3]? = some (.inl (0, 502, S.1 3)) := rfl
theorem as_3 (k : Nat) (x : Int32) : ((wc R u S e).1.set 3 (.inl (0, 502, upd (S.1 3) k x)), (wc R u S e).2) = wc R u (sI S 3 k x) e := rfl
theorem al_4 : am_len X (wc R u S e) 4 = some 502 := rfl
theorem ai_4 : am_ai X (wc R u S e) 4 = some (502, S.1 4) := rfl
theorem ar_4 : (wc R u S e).1[4]? = some (.inl (0, 502, S.1 4)) := rfl
theorem as_4 (k : Nat) (x : Int32) : ((wc R u S e).1.set 4 (.inl (0, 502, upd (S.1 4) k x)), (wc R u S e).2) = wc R u (sI S 4 k x) e := rfl
theorem al_6 : am_len X (wc R u S e) 6 = some 250 := rfl
theorem ai_6 : am_ai X (wc R u S e) 6 = some (250, S.1 6) := rfl
theorem ar_6 : (wc R u S e).1[6]? = some (.inl (0, 250, S.1 6)) := rfl
theorem as_6 (k : Nat) (x : Int32) : ((wc R u S e).1.set 6 (.inl (0, 250, upd (S.1 6) k x)), (wc R u S e).2) = wc R u (sI S 6 k x) e := rfl
theorem al_7 : am_len X (wc R u S e) 7 = some 250 := rfl
theorem ai_7 : am_ai X (wc R u S e) 7 = some (250, S.1 7) := rfl
theorem ar_7 : (wc R u S e).1[7]? = some (.inl (0, 250, S.1 7)) := rfl
theorem as_7 (k : Nat) (x : Int32) : ((wc R u S e).1.set 7 (.inl (0, 250, upd (S.1 7) k x)), (wc R u S e).2) = wc R u (sI S 7 k x) e := rfl
theorem al_8 : am_len X (wc R u S e) 8 = some 250 := rfl
theorem ai_8 : am_ai X (wc R u S e) 8 = some (250, S.1 8) := rfl
theorem ar_8 : (wc R u S e).1[8]? = some (.inl (0, 250, S.1 8)) := rfl
theorem as_8 (k : Nat) (x : Int32) : ((wc R u S e).1.set 8 (.inl (0, 250, upd (S.1 8) k x)), (wc R u S e).2) = wc R u (sI S 8 k x) e := rfl
theorem al_9 : am_len X (wc R u S e) 9 = some 250 := rfl
theorem ar_9 : (wc R u S e).1[9]? = some (.inl (1, 250, S.1 9)) := rfl
theorem as_9 (k : Nat) (x : Int32) : ((wc R u S e).1.set 9 (.inl (1, 250, upd (S.1 9) k x)), (wc R u S e).2) = wc R u (sI S 9 k x) e := rfl
theorem al_10 : am_len X (wc R u S e) 10 = some 250 := rfl
theorem ai_10 : am_ai X (wc R u S e) 10 = some (250, S.1 10) := rfl
theorem ar_10 : (wc R u S e).1[10]? = some (.inl (0, 250, S.1 10)) := rfl
theorem as_10 (k : Nat) (x : Int32) : ((wc R u S e).1.set 10 (.inl (0, 250, upd (S.1 10) k x)), (wc R u S e).2) = wc R u (sI S 10 k x) e := rfl
theorem al_11 : am_len X (wc R u S e) 11 = some 250 := rfl
theorem ai_11 : am_ai X (wc R u S e) 11 = some (250, S.1 11) := rfl
theorem ar_11 : (wc R u S e).1[11]? = some (.inl (0, 250, S.1 11)) := rfl
theorem as_11 (k : Nat) (x : Int32) : ((wc R u S e).1.set 11 (.inl (0, 250, upd (S.1 11) k x)), (wc R u S e).2) = wc R u (sI S 11 k x) e := rfl
theorem al_13 : am_len X (wc R u S e) 13 = some 28 := rfl
theorem ai_13 : am_ai X (wc R u S e) 13 = some (28, S.1 13) := rfl
theorem ar_13 : (wc R u S e).1[13]? = some (.inl (0, 28, S.1 13)) := rfl
theorem as_13 (k : Nat) (x : Int32) : ((wc R u S e).1.set 13 (.inl (0, 28, upd (S.1 13) k x)), (wc R u S e).2) = wc R u (sI S 13 k x) e := rfl
theorem al_14 : am_len X (wc R u S e) 14 = some 28 := rfl
theorem ai_14 : am_ai X (wc R u S e) 14 = some (28, S.1 14) := rfl
theorem ar_14 : (wc R u S e).1[14]? = some (.inl (0, 28, S.1 14)) := rfl
theorem as_14 (k : Nat) (x : Int32) : ((wc R u S e).1.set 14 (.inl (0, 28, upd (S.1 14) k x)), (wc R u S e).2) = wc R u (sI S 14 k x) e := rfl
theorem al_15 : am_len X (wc R u S e) 15 = some 28 := rfl
theorem ai_15 : am_ai X (wc R u S e) 15 = some (28, S.1 15) := rfl
theorem ar_15 : (wc R u S e).1[15]? = some (.inl (0, 28, S.1 15)) := rfl
theorem as_15 (k : Nat) (x : Int32) : ((wc R u S e).1.set 15 (.inl (0, 28, upd (S.1 15) k x)), (wc R u S e).2) = wc R u (sI S 15 k x) e := rfl
theorem al_16 : am_len X (wc R u S e) 16 = some 28 := rfl
theorem ai_16 : am_ai X (wc R u S e) 16 = some (28, S.1 16) := rfl
theorem ar_16 : (wc R u S e).1[16]? = some (.inl (0, 28, S.1 16)) := rfl
theorem as_16 (k : Nat) (x : Int32) : ((wc R u S e).1.set 16 (.inl (0, 28, upd (S.1 16) k x)), (wc R u S e).2) = wc R u (sI S 16 k x) e := rfl
theorem al_17 : am_len X (wc R u S e) 17 = some 28 := rfl
theorem ai_17 : am_ai X (wc R u S e) 17 = some (28, S.1 17) := rfl
theorem ar_17 : (wc R u S e).1[17]? = some (.inl (0, 28, S.1 17)) := rfl
theorem as_17 (k : Nat) (x : Int32) : ((wc R u S e).1.set 17 (.inl (0, 28, upd (S.1 17) k x)), (wc R u S e).2) = wc R u (sI S 17 k x) e := rfl
theorem al_18 : am_len X (wc R u S e) 18 = some 728 := rfl
theorem ai_18 : am_ai X (wc R u S e) 18 = some (728, S.1 18) := rfl
theorem ar_18 : (wc R u S e).1[18]? = some (.inl (0, 728, S.1 18)) := rfl
theorem as_18 (k : Nat) (x : Int32) : ((wc R u S e).1.set 18 (.inl (0, 728, upd (S.1 18) k x)), (wc R u S e).2) = wc R u (sI S 18 k x) e := rfl
theorem al_19 : am_len X (wc R u S e) 19 = some 728 := rfl
theorem ai_19 : am_ai X (wc R u S e) 19 = some (728, S.1 19) := rfl
theorem ar_19 : (wc R u S e).1[19]? = some (.inl (0, 728, S.1 19)) := rfl
theorem as_19 (k : Nat) (x : Int32) : ((wc R u S e).1.set 19 (.inl (0, 728, upd (S.1 19) k x)), (wc R u S e).2) = wc R u (sI S 19 k x) e := rfl
theorem al_20 : am_len X (wc R u S e) 20 = some 21 := rfl
theorem ai_20 : am_ai X (wc R u S e) 20 = some (21, S.1 20) := rfl
theorem ar_20 : (wc R u S e).1[20]? = some (.inl (0, 21, S.1 20)) := rfl
theorem as_20 (k : Nat) (x : Int32) : ((wc R u S e).1.set 20 (.inl (0, 21, upd (S.1 20) k x)), (wc R u S e).2) = wc R u (sI S 20 k x) e := rfl
theorem al_22 : am_len X (wc R u S e) 22 = some 250 := rfl
theorem ai_22 : am_ai X (wc R u S e) 22 = some (250, S.1 22) := rfl
theorem ar_22 : (wc R u S e).1[22]? = some (.inl (0, 250, S.1 22)) := rfl
theorem as_22 (k : Nat) (x : Int32) : ((wc R u S e).1.set 22 (.inl (0, 250, upd (S.1 22) k x)), (wc R u S e).2) = wc R u (sI S 22 k x) e := rfl
theorem al_26 : am_len X (wc R u S e) 26 = some 2000 := rfl
theorem ar_26 : (wc R u S e).1[26]? = some (.inr (.inl (2000, S.2 26))) := rfl
theorem as_26 (k : Nat) (x : Int64) : ((wc R u S e).1.set 26 (.inr (.inl (2000, vp_updL (S.2 26) k x))), (wc R u S e).2) = wc R u (sJ S 26 k x) e := rfl
theorem al_27 : am_len X (wc R u S e) 27 = some 2000 := rfl
theorem ar_27 : (wc R u S e).1[27]? = some (.inr (.inl (2000, S.2 27))) := rfl
theorem as_27 (k : Nat) (x : Int64) : ((wc R u S e).1.set 27 (.inr (.inl (2000, vp_updL (S.2 27) k x))), (wc R u S e).2) = wc R u (sJ S 27 k x) e := rfl
theorem al_28 : am_len X (wc R u S e) 28 = some 52000 := rfl
theorem ar_28 : (wc R u S e).1[28]? = some (.inr (.inl (52000, S.2 28))) := rfl
theorem as_28 (k : Nat) (x : Int64) : ((wc R u S e).1.set 28 (.inr (.inl (52000, vp_updL (S.2 28) k x))), (wc R u S e).2) = wc R u (sJ S 28 k x) e := rfl
theorem al_30 : am_len X (wc R u S e) 30 = some 200 := rfl
theorem ai_30 : am_ai X (wc R u S e) 30 = some (200, S.1 30) := rfl
theorem ar_30 : (wc R u S e).1[30]? = some (.inl (0, 200, S.1 30)) := rfl
theorem as_30 (k : Nat) (x : Int32) : ((wc R u S e).1.set 30 (.inl (0, 200, upd (S.1 30) k x)), (wc R u S e).2) = wc R u (sI S 30 k x) e := rfl
theorem al_31 : am_len X (wc R u S e) 31 = some 6405 := rfl
theorem ar_31 : (wc R u S e).1[31]? = some (.inr (.inl (6405, S.2 31))) := rfl
theorem as_31 (k : Nat) (x : Int64) : ((wc R u S e).1.set 31 (.inr (.inl (6405, vp_updL (S.2 31) k x))), (wc R u S e).2) = wc R u (sJ S 31 k x) e := rfl
theorem al_32 : am_len X (wc R u S e) 32 = some 60 := rfl
theorem ai_32 : am_ai X (wc R u S e) 32 = some (60, S.1 32) := rfl
theorem ar_32 : (wc R u S e).1[32]? = some (.inl (0, 60, S.1 32)) := rfl
theorem as_32 (k : Nat) (x : Int32) : ((wc R u S e).1.set 32 (.inl (0, 60, upd (S.1 32) k x)), (wc R u S e).2) = wc R u (sI S 32 k x) e := rfl
theorem al_33 : am_len X (wc R u S e) 33 = some 60 := rfl
theorem ai_33 : am_ai X (wc R u S e) 33 = some (60, S.1 33) := rfl
theorem ar_33 : (wc R u S e).1[33]? = some (.inl (0, 60, S.1 33)) := rfl
theorem as_33 (k : Nat) (x : Int32) : ((wc R u S e).1.set 33 (.inl (0, 60, upd (S.1 33) k x)), (wc R u S e).2) = wc R u (sI S 33 k x) e := rfl
theorem al_35 : am_len X (wm S u R e) 35 = some 250 := rfl
theorem ai_35 : am_ai X (wm S u R e) 35 = some (250, R.1 35) := rfl
theorem ar_35 : (wm S u R e).1[35]? = some (.inl (0, 250, R.1 35)) := rfl
theorem as_35 (k : Nat) (x : Int32) : ((wm S u R e).1.set 35 (.inl (0, 250, upd (R.1 35) k x)), (wm S u R e).2) = wm S u (sI R 35 k x) e := rfl
theorem al_36 : am_len X (wm S u R e) 36 = some 256 := rfl
theorem ai_36 : am_ai X (wm S u R e) 36 = some (256, R.1 36) := rfl
theorem ar_36 : (wm S u R e).1[36]? = some (.inl (0, 256, R.1 36)) := rfl
theorem as_36 (k : Nat) (x : Int32) : ((wm S u R e).1.set 36 (.inl (0, 256, upd (R.1 36) k x)), (wm S u R e).2) = wm S u (sI R 36 k x) e := rfl
theorem al_37 : am_len X (wm S u R e) 37 = some 256 := rfl
theorem ai_37 : am_ai X (wm S u R e) 37 = some (256, R.1 37) := rfl
theorem ar_37 : (wm S u R e).1[37]? = some (.inl (0, 256, R.1 37)) := rfl
theorem as_37 (k : Nat) (x : Int32) : ((wm S u R e).1.set 37 (.inl (0, 256, upd (R.1 37) k x)), (wm S u R e).2) = wm S u (sI R 37 k x) e := rfl
theorem al_38 : am_len X (wm S u R e) 38 = some 256 := rfl
theorem ai_38 : am_ai X (wm S u R e) 38 = some (256, R.1 38) := rfl
theorem ar_38 : (wm S u R e).1[38]? = some (.inl (0, 256, R.1 38)) := rfl
theorem as_38 (k : Nat) (x : Int32) : ((wm S u R e).1.set 38 (.inl (0, 256, upd (R.1 38) k x)), (wm S u R e).2) = wm S u (sI R 38 k x) e := rfl
theorem al_39 : am_len X (wm S u R e) 39 = some 256 := rfl
theorem ai_39 : am_ai X (wm S u R e) 39 = some (256, R.1 39) := rfl
theorem ar_39 : (wm S u R e).1[39]? = some (.inl (0, 256, R.1 39)) := rfl
theorem as_39 (k : Nat) (x : Int32) : ((wm S u R e).1.set 39 (.inl (0, 256, upd (R.1 39) k x)), (wm S u R e).2) = wm S u (sI R 39 k x) e := rfl
theorem al_40 : am_len X (wm S u R e) 40 = some 256 := rfl
theorem ai_40 : am_ai X (wm S u R e) 40 = some (256, R.1 40) := rfl
theorem ar_40 : (wm S u R e).1[40]? = some (.inl (0, 256, R.1 40)) := rfl
theorem as_40 (k : Nat) (x : Int32) : ((wm S u R e).1.set 40 (.inl (0, 256, upd (R.1 40) k x)), (wm S u R e).2) = wm S u (sI R 40 k x) e := rfl
theorem al_41 : am_len X (wm S u R e) 41 = some 256 := rfl
theorem ai_41 : am_ai X (wm S u R e) 41 = some (256, R.1 41) := rfl
theorem ar_41 : (wm S u R e).1[41]? = some (.inl (0, 256, R.1 41)) := rfl
theorem as_41 (k : Nat) (x : Int32) : ((wm S u R e).1.set 41 (.inl (0, 256, upd (R.1 41) k x)), (wm S u R e).2) = wm S u (sI R 41 k x) e := rfl
theorem al_42 : am_len X (wm S u R e) 42 = some 256 := rfl
theorem ai_42 : am_ai X (wm S u R e) 42 = some (256, R.1 42) := rfl
theorem ar_42 : (wm S u R e).1[42]? = some (.inl (0, 256, R.1 42)) := rfl
theorem as_42 (k : Nat) (x : Int32) : ((wm S u R e).1.set 42 (.inl (0, 256, upd (R.1 42) k x)), (wm S u R e).2) = wm S u (sI R 42 k x) e := rfl
theorem al_43 : am_len X (wm S u R e) 43 = some 1024 := rfl
theorem ai_43 : am_ai X (wm S u R e) 43 = some (1024, R.1 43) := rfl
theorem ar_43 : (wm S u R e).1[43]? = some (.inl (0, 1024, R.1 43)) := rfl
theorem as_43 (k : Nat) (x : Int32) : ((wm S u R e).1.set 43 (.inl (0, 1024, upd (R.1 43) k x)), (wm S u R e).2) = wm S u (sI R 43 k x) e := rfl
theorem al_44 : am_len X (wm S u R e) 44 = some 256 := rfl
theorem ai_44 : am_ai X (wm S u R e) 44 = some (256, R.1 44) := rfl
theorem ar_44 : (wm S u R e).1[44]? = some (.inl (0, 256, R.1 44)) := rfl
theorem as_44 (k : Nat) (x : Int32) : ((wm S u R e).1.set 44 (.inl (0, 256, upd (R.1 44) k x)), (wm S u R e).2) = wm S u (sI R 44 k x) e := rfl
theorem al_45 : am_len X (wm S u R e) 45 = some 256 := rfl
theorem ar_45 : (wm S u R e).1[45]? = some (.inl (1, 256, R.1 45)) := rfl
theorem as_45 (k : Nat) (x : Int32) : ((wm S u R e).1.set 45 (.inl (1, 256, upd (R.1 45) k x)), (wm S u R e).2) = wm S u (sI R 45 k x) e := rfl
theorem al_46 : am_len X (wm S u R e) 46 = some 256 := rfl
theorem ar_46 : (wm S u R e).1[46]? = some (.inl (1, 256, R.1 46)) := rfl
theorem as_46 (k : Nat) (x : Int32) : ((wm S u R e).1.set 46 (.inl (1, 256, upd (R.1 46) k x)), (wm S u R e).2) = wm S u (sI R 46 k x) e := rfl
theorem al_47 : am_len X (wm S u R e) 47 = some 24 := rfl
theorem ai_47 : am_ai X (wm S u R e) 47 = some (24, R.1 47) := rfl
theorem ar_47 : (wm S u R e).1[47]? = some (.inl (0, 24, R.1 47)) := rfl
theorem as_47 (k : Nat) (x : Int32) : ((wm S u R e).1.set 47 (.inl (0, 24, upd (R.1 47) k x)), (wm S u R e).2) = wm S u (sI R 47 k x) e := rfl
theorem al_48 : am_len X (wm S u R e) 48 = some 24 := rfl
theorem ar_48 : (wm S u R e).1[48]? = some (.inl (1, 24, R.1 48)) := rfl
theorem as_48 (k : Nat) (x : Int32) : ((wm S u R e).1.set 48 (.inl (1, 24, upd (R.1 48) k x)), (wm S u R e).2) = wm S u (sI R 48 k x) e := rfl
theorem al_49 : am_len X (wm S u R e) 49 = some 24 := rfl
theorem ai_49 : am_ai X (wm S u R e) 49 = some (24, R.1 49) := rfl
theorem ar_49 : (wm S u R e).1[49]? = some (.inl (0, 24, R.1 49)) := rfl
theorem as_49 (k : Nat) (x : Int32) : ((wm S u R e).1.set 49 (.inl (0, 24, upd (R.1 49) k x)), (wm S u R e).2) = wm S u (sI R 49 k x) e := rfl
theorem al_50 : am_len X (wm S u R e) 50 = some 256 := rfl
theorem ai_50 : am_ai X (wm S u R e) 50 = some (256, R.1 50) := rfl
theorem ar_50 : (wm S u R e).1[50]? = some (.inl (0, 256, R.1 50)) := rfl
theorem as_50 (k : Nat) (x : Int32) : ((wm S u R e).1.set 50 (.inl (0, 256, upd (R.1 50) k x)), (wm S u R e).2) = wm S u (sI R 50 k x) e := rfl
theorem al_51 : am_len X (wm S u R e) 51 = some 256 := rfl
theorem ai_51 : am_ai X (wm S u R e) 51 = some (256, R.1 51) := rfl
theorem ar_51 : (wm S u R e).1[51]? = some (.inl (0, 256, R.1 51)) := rfl
theorem as_51 (k : Nat) (x : Int32) : ((wm S u R e).1.set 51 (.inl (0, 256, upd (R.1 51) k x)), (wm S u R e).2) = wm S u (sI R 51 k x) e := rfl
theorem al_52 : am_len X (wm S u R e) 52 = some 2000 := rfl
theorem ar_52 : (wm S u R e).1[52]? = some (.inr (.inl (2000, R.2 52))) := rfl
theorem as_52 (k : Nat) (x : Int64) : ((wm S u R e).1.set 52 (.inr (.inl (2000, vp_updL (R.2 52) k x))), (wm S u R e).2) = wm S u (sJ R 52 k x) e := rfl
theorem al_53 : am_len X (wm S u R e) 53 = some 2000 := rfl
theorem ar_53 : (wm S u R e).1[53]? = some (.inr (.inl (2000, R.2 53))) := rfl
theorem as_53 (k : Nat) (x : Int64) : ((wm S u R e).1.set 53 (.inr (.inl (2000, vp_updL (R.2 53) k x))), (wm S u R e).2) = wm S u (sJ R 53 k x) e := rfl
theorem al_54 : am_len X (wm S u R e) 54 = some 2000 := rfl
theorem ai_54 : am_ai X (wm S u R e) 54 = some (2000, R.1 54) := rfl
theorem ar_54 : (wm S u R e).1[54]? = some (.inl (0, 2000, R.1 54)) := rfl
theorem as_54 (k : Nat) (x : Int32) : ((wm S u R e).1.set 54 (.inl (0, 2000, upd (R.1 54) k x)), (wm S u R e).2) = wm S u (sI R 54 k x) e := rfl
theorem al_55 : am_len X (wm S u R e) 55 = some 2000 := rfl
theorem ai_55 : am_ai X (wm S u R e) 55 = some (2000, R.1 55) := rfl
theorem ar_55 : (wm S u R e).1[55]? = some (.inl (0, 2000, R.1 55)) := rfl
theorem as_55 (k : Nat) (x : Int32) : ((wm S u R e).1.set 55 (.inl (0, 2000, upd (R.1 55) k x)), (wm S u R e).2) = wm S u (sI R 55 k x) e := rfl
theorem al_56 : am_len X (wm S u R e) 56 = some 120000 := rfl
theorem ai_56 : am_ai X (wm S u R e) 56 = some (120000, R.1 56) := rfl
theorem ar_56 : (wm S u R e).1[56]? = some (.inl (0, 120000, R.1 56)) := rfl
theorem as_56 (k : Nat) (x : Int32) : ((wm S u R e).1.set 56 (.inl (0, 120000, upd (R.1 56) k x)), (wm S u R e).2) = wm S u (sI R 56 k x) e := rfl
theorem al_57 : am_len X (wm S u R e) 57 = some 120000 := rfl
theorem ar_57 : (wm S u R e).1[57]? = some (.inr (.inl (120000, R.2 57))) := rfl
theorem as_57 (k : Nat) (x : Int64) : ((wm S u R e).1.set 57 (.inr (.inl (120000, vp_updL (R.2 57) k x))), (wm S u R e).2) = wm S u (sJ R 57 k x) e := rfl
theorem al_58 : am_len X (wm S u R e) 58 = some 120000 := rfl
theorem ai_58 : am_ai X (wm S u R e) 58 = some (120000, R.1 58) := rfl
theorem ar_58 : (wm S u R e).1[58]? = some (.inl (0, 120000, R.1 58)) := rfl
theorem as_58 (k : Nat) (x : Int32) : ((wm S u R e).1.set 58 (.inl (0, 120000, upd (R.1 58) k x)), (wm S u R e).2) = wm S u (sI R 58 k x) e := rfl
theorem al_59 : am_len X (wm S u R e) 59 = some 120000 := rfl
theorem ar_59 : (wm S u R e).1[59]? = some (.inl (1, 120000, R.1 59)) := rfl
theorem as_59 (k : Nat) (x : Int32) : ((wm S u R e).1.set 59 (.inl (1, 120000, upd (R.1 59) k x)), (wm S u R e).2) = wm S u (sI R 59 k x) e := rfl
theorem al_60 : am_len X (wm S u R e) 60 = some 8000 := rfl
theorem ai_60 : am_ai X (wm S u R e) 60 = some (8000, R.1 60) := rfl
theorem ar_60 : (wm S u R e).1[60]? = some (.inl (0, 8000, R.1 60)) := rfl
theorem as_60 (k : Nat) (x : Int32) : ((wm S u R e).1.set 60 (.inl (0, 8000, upd (R.1 60) k x)), (wm S u R e).2) = wm S u (sI R 60 k x) e := rfl
theorem al_61 : am_len X (wm S u R e) 61 = some 8000 := rfl
theorem ai_61 : am_ai X (wm S u R e) 61 = some (8000, R.1 61) := rfl
theorem ar_61 : (wm S u R e).1[61]? = some (.inl (0, 8000, R.1 61)) := rfl
theorem as_61 (k : Nat) (x : Int32) : ((wm S u R e).1.set 61 (.inl (0, 8000, upd (R.1 61) k x)), (wm S u R e).2) = wm S u (sI R 61 k x) e := rfl
theorem al_62 : am_len X (wm S u R e) 62 = some 8000 := rfl
theorem ai_62 : am_ai X (wm S u R e) 62 = some (8000, R.1 62) := rfl
theorem ar_62 : (wm S u R e).1[62]? = some (.inl (0, 8000, R.1 62)) := rfl
theorem as_62 (k : Nat) (x : Int32) : ((wm S u R e).1.set 62 (.inl (0, 8000, upd (R.1 62) k x)), (wm S u R e).2) = wm S u (sI R 62 k x) e := rfl
theorem al_63 : am_len X (wm S u R e) 63 = some 8000 := rfl
theorem ai_63 : am_ai X (wm S u R e) 63 = some (8000, R.1 63) := rfl
theorem ar_63 : (wm S u R e).1[63]? = some (.inl (0, 8000, R.1 63)) := rfl
theorem as_63 (k : Nat) (x : Int32) : ((wm S u R e).1.set 63 (.inl (0, 8000, upd (R.1 63) k x)), (wm S u R e).2) = wm S u (sI R 63 k x) e := rfl
theorem al_64 : am_len X (wm S u R e) 64 = some 16000 := rfl
theorem ar_64 : (wm S u R e).1[64]? = some (.inr (.inl (16000, R.2 64))) := rfl
theorem as_64 (k : Nat) (x : Int64) : ((wm S u R e).1.set 64 (.inr (.inl (16000, vp_updL (R.2 64) k x))), (wm S u R e).2) = wm S u (sJ R 64 k x) e := rfl
theorem al_65 : am_len X (wm S u R e) 65 = some 200 := rfl
theorem ai_65 : am_ai X (wm S u R e) 65 = some (200, R.1 65) := rfl
theorem ar_65 : (wm S u R e).1[65]? = some (.inl (0, 200, R.1 65)) := rfl
theorem as_65 (k : Nat) (x : Int32) : ((wm S u R e).1.set 65 (.inl (0, 200, upd (R.1 65) k x)), (wm S u R e).2) = wm S u (sI R 65 k x) e := rfl
theorem al_66 : am_len X (wm S u R e) 66 = some 104 := rfl
theorem ai_66 : am_ai X (wm S u R e) 66 = some (104, R.1 66) := rfl
theorem ar_66 : (wm S u R e).1[66]? = some (.inl (0, 104, R.1 66)) := rfl
theorem as_66 (k : Nat) (x : Int32) : ((wm S u R e).1.set 66 (.inl (0, 104, upd (R.1 66) k x)), (wm S u R e).2) = wm S u (sI R 66 k x) e := rfl
theorem wc_ex : ((wc R u S e).1, (wc R u S e).2.1 + 1, (wc R u S e).2.2 + 6) = wc R u S (e + 1) := rfl
theorem ai_1201 {α : Type} {wd : α → Nat → amW} {S : α} : am_ai X (wd S e) 1201 = some (19, fun j => am_sw.getD j 0) := rfl
theorem al_1200 {α : Type} {wd : α → Nat → amW} {S : α} : am_len X (wd S e) 1200 = some 19 := rfl
end WORLD
