/-! the word at the head of a list -/
def hdS (N : Nat) (tx : Nat → Nat) (a : Nat) : Nat → Nat → Option Nat
  | 0, _ => none
  | m + 1, i => if mtB N tx (wdN.getD i []) a then some i else hdS N tx a m (i + 1)
def hdW (N : Nat) (tx : Nat → Nat) (a : Nat) : Option Nat := hdS N tx a 19 0
def kwV : Option Nat → Int32
  | some j => if j < 6 then nI (3 + j) else -1
  | none => -1
def prV : Option Nat → Int32
  | some j => if j < 6 then -1 else nI (j - 6)
  | none => -1
section HEAD
variable {N : Nat} {tx : Nat → Nat} {S R : amS}
theorem wd_ne : ∀ i, i < 20 → ∀ j, j < 20 → wdN.getD i [] = wdN.getD j [] → i = j := by decide +kernel
theorem mt_uniq {a i j : Nat} (hi : i < 20) (hj : j < 20) (h1 : mtB N tx (wdN.getD i []) a = true) (h2 : mtB N tx (wdN.getD j []) a = true) : i = j := by
  have e1 := (mt_iff (fun c hc => (wd_rng i hi c hc)) a).mp h1
  have e2 := (mt_iff (fun c hc => (wd_rng j hj c hc)) a).mp h2
  refine wd_ne i hi j hj ?_
  have hl : (wdN.getD i []).length = (wdN.getD j []).length := by have := e1.1.symm.trans e2.1; omega
  apply List.ext_getElem hl
  intro n hn1 hn2
  have a1 := e1.2 n hn1
  have a2 := e2.2 n hn2
  rw [List.getD_eq_getElem?_getD, List.getElem?_eq_getElem hn1] at a1
  rw [List.getD_eq_getElem?_getD, List.getElem?_eq_getElem hn2] at a2
  exact a1.symm.trans a2
theorem hdS_some {a : Nat} : ∀ (m i j : Nat), hdS N tx a m i = some j → i ≤ j ∧ j < i + m ∧ mtB N tx (wdN.getD j []) a = true
  | 0, i, j, h => by cases h
  | m + 1, i, j, h => by
    unfold hdS at h
    split at h
    · next hm => cases h; exact ⟨Nat.le_refl _, by omega, hm⟩
    · obtain ⟨h1, h2, h3⟩ := hdS_some m (i + 1) j h
      exact ⟨by omega, by omega, h3⟩
theorem hdS_none {a : Nat} : ∀ (m i : Nat), hdS N tx a m i = none → ∀ j, i ≤ j → j < i + m → mtB N tx (wdN.getD j []) a = false
  | 0, i, h, j, h1, h2 => by omega
  | m + 1, i, h, j, h1, h2 => by
    unfold hdS at h
    split at h
    · cases h
    · next hm =>
      by_cases hj : j = i
      · subst hj; simpa using hm
      · exact hdS_none m (i + 1) h j (by omega) (by omega)
theorem hdW_some {a j : Nat} (h : hdW N tx a = some j) : j < 19 ∧ mtB N tx (wdN.getD j []) a = true ∧ ∀ i, i < 20 → i ≠ j → mtB N tx (wdN.getD i []) a = false := by
  obtain ⟨-, h2, h3⟩ := hdS_some 19 0 j h
  refine ⟨by omega, h3, fun i hi hne => ?_⟩
  cases hb : mtB N tx (wdN.getD i []) a with
  | false => rfl
  | true => exact absurd (mt_uniq hi (by omega) hb h3) hne
theorem hdW_none {a : Nat} (h : hdW N tx a = none) : ∀ i, i < 19 → mtB N tx (wdN.getD i []) a = false := fun i hi => hdS_none 19 0 h i (by omega) (by omega)
theorem headL_c (h : txC S N tx) {a : Nat} (ha : S.1 21 3 = nI a) (haN : a ≤ N) : ∀ (m i : Nat), i + m = 19 → G_79_2 (nI i) S = some (.inl (some (match hdS N tx a m i with | some j => .ref (1000 + j) | none => .null)), S) := by
  intro m
  induction m with
  | zero =>
    intro i hi
    have : i = 19 := by omega
    subst this
    rw [G_79_2_eq]
    unfold B_79_2
    rw [if_pos (by decide)]
    rfl
  | succ m ih =>
    intro i hi
    rw [G_79_2_eq]
    unfold B_79_2
    rw [if_neg (show ¬ (19 : Int32) ≤ nI i from nI_ge (b := 19) (by omega) (by decide)), az_ck_in (show i < 19 by omega) (by decide), nI_clamp (by omega)]
    unfold az_if
    rw [if_pos (by omega), show 1000 + i + 100 = 1100 + i by omega, isAtW_c h ha haN (by omega), bI_i]
    unfold hdS
    cases hb : mtB N tx (wdN.getD i []) a with
    | false =>
      simp only [Bool.false_eq_true, if_false, if_true]
      rw [nI_1, ih (i + 1) (by omega)]
    | true =>
      simp only [if_true]
      rw [if_neg (by decide), az_ck_in (show i < 19 by omega) (by decide)]
theorem head_c (h : txC S N tx) {a : Nat} (ha : S.1 21 3 = nI a) (haN : a ≤ N) : G_79 S = some (.inl (some (match hdW N tx a with | some j => .ref (1000 + j) | none => .null)), S) := by
  unfold G_79
  exact headL_c h ha haN 19 0 rfl
theorem kq_0 (h : txM R N tx) {a : Nat} (hw : wdM R a (we N tx a)) (haN : a ≤ N) : g_135 108 97 109 98 100 97 R = some (.inl (some (.int (if mtB N tx (wdN.getD 0 []) a then 1 else 0))), R) := is6_m (c1 := 108) (c2 := 97) (c3 := 109) (c4 := 98) (c5 := 100) (c6 := 97) h hw haN (by decide) (by decide) (by decide) (by decide) (by decide) (by decide)
theorem kq_1 (h : txM R N tx) {a : Nat} (hw : wdM R a (we N tx a)) (haN : a ≤ N) : g_135 105 102 0 0 0 0 R = some (.inl (some (.int (if mtB N tx (wdN.getD 1 []) a then 1 else 0))), R) := is2_m (c1 := 105) (c2 := 102) h hw haN (by decide) (by decide)
theorem kq_2 (h : txM R N tx) {a : Nat} (hw : wdM R a (we N tx a)) (haN : a ≤ N) : g_135 108 101 116 0 0 0 R = some (.inl (some (.int (if mtB N tx (wdN.getD 2 []) a then 1 else 0))), R) := is3_m (c1 := 108) (c2 := 101) (c3 := 116) h hw haN (by decide) (by decide) (by decide)
theorem kq_3 (h : txM R N tx) {a : Nat} (hw : wdM R a (we N tx a)) (haN : a ≤ N) : g_135 108 101 116 114 101 99 R = some (.inl (some (.int (if mtB N tx (wdN.getD 3 []) a then 1 else 0))), R) := is6_m (c1 := 108) (c2 := 101) (c3 := 116) (c4 := 114) (c5 := 101) (c6 := 99) h hw haN (by decide) (by decide) (by decide) (by decide) (by decide) (by decide)
theorem kq_4 (h : txM R N tx) {a : Nat} (hw : wdM R a (we N tx a)) (haN : a ≤ N) : g_135 115 101 116 33 0 0 R = some (.inl (some (.int (if mtB N tx (wdN.getD 4 []) a then 1 else 0))), R) := is4_m (c1 := 115) (c2 := 101) (c3 := 116) (c4 := 33) h hw haN (by decide) (by decide) (by decide) (by decide)
theorem kq_5 (h : txM R N tx) {a : Nat} (hw : wdM R a (we N tx a)) (haN : a ≤ N) : g_135 98 101 103 105 110 0 R = some (.inl (some (.int (if mtB N tx (wdN.getD 5 []) a then 1 else 0))), R) := is5_m (c1 := 98) (c2 := 101) (c3 := 103) (c4 := 105) (c5 := 110) h hw haN (by decide) (by decide) (by decide) (by decide) (by decide)
theorem kq_6 (h : txM R N tx) {a : Nat} (hw : wdM R a (we N tx a)) (haN : a ≤ N) : g_135 43 0 0 0 0 0 R = some (.inl (some (.int (if mtB N tx (wdN.getD 6 []) a then 1 else 0))), R) := is1_m (c1 := 43) h hw haN (by decide)
theorem kq_7 (h : txM R N tx) {a : Nat} (hw : wdM R a (we N tx a)) (haN : a ≤ N) : g_135 45 0 0 0 0 0 R = some (.inl (some (.int (if mtB N tx (wdN.getD 7 []) a then 1 else 0))), R) := is1_m (c1 := 45) h hw haN (by decide)
theorem kq_8 (h : txM R N tx) {a : Nat} (hw : wdM R a (we N tx a)) (haN : a ≤ N) : g_135 42 0 0 0 0 0 R = some (.inl (some (.int (if mtB N tx (wdN.getD 8 []) a then 1 else 0))), R) := is1_m (c1 := 42) h hw haN (by decide)
theorem kq_9 (h : txM R N tx) {a : Nat} (hw : wdM R a (we N tx a)) (haN : a ≤ N) : g_135 60 0 0 0 0 0 R = some (.inl (some (.int (if mtB N tx (wdN.getD 9 []) a then 1 else 0))), R) := is1_m (c1 := 60) h hw haN (by decide)
theorem kq_10 (h : txM R N tx) {a : Nat} (hw : wdM R a (we N tx a)) (haN : a ≤ N) : g_135 61 0 0 0 0 0 R = some (.inl (some (.int (if mtB N tx (wdN.getD 10 []) a then 1 else 0))), R) := is1_m (c1 := 61) h hw haN (by decide)
theorem kq_11 (h : txM R N tx) {a : Nat} (hw : wdM R a (we N tx a)) (haN : a ≤ N) : g_135 101 113 63 0 0 0 R = some (.inl (some (.int (if mtB N tx (wdN.getD 11 []) a then 1 else 0))), R) := is3_m (c1 := 101) (c2 := 113) (c3 := 63) h hw haN (by decide) (by decide) (by decide)
theorem kq_12 (h : txM R N tx) {a : Nat} (hw : wdM R a (we N tx a)) (haN : a ≤ N) : g_135 99 111 110 115 0 0 R = some (.inl (some (.int (if mtB N tx (wdN.getD 12 []) a then 1 else 0))), R) := is4_m (c1 := 99) (c2 := 111) (c3 := 110) (c4 := 115) h hw haN (by decide) (by decide) (by decide) (by decide)
theorem kq_13 (h : txM R N tx) {a : Nat} (hw : wdM R a (we N tx a)) (haN : a ≤ N) : g_135 99 97 114 0 0 0 R = some (.inl (some (.int (if mtB N tx (wdN.getD 13 []) a then 1 else 0))), R) := is3_m (c1 := 99) (c2 := 97) (c3 := 114) h hw haN (by decide) (by decide) (by decide)
theorem kq_14 (h : txM R N tx) {a : Nat} (hw : wdM R a (we N tx a)) (haN : a ≤ N) : g_135 99 100 114 0 0 0 R = some (.inl (some (.int (if mtB N tx (wdN.getD 14 []) a then 1 else 0))), R) := is3_m (c1 := 99) (c2 := 100) (c3 := 114) h hw haN (by decide) (by decide) (by decide)
theorem kq_15 (h : txM R N tx) {a : Nat} (hw : wdM R a (we N tx a)) (haN : a ≤ N) : g_135 112 97 105 114 63 0 R = some (.inl (some (.int (if mtB N tx (wdN.getD 15 []) a then 1 else 0))), R) := is5_m (c1 := 112) (c2 := 97) (c3 := 105) (c4 := 114) (c5 := 63) h hw haN (by decide) (by decide) (by decide) (by decide) (by decide)
theorem kq_16 (h : txM R N tx) {a : Nat} (hw : wdM R a (we N tx a)) (haN : a ≤ N) : g_135 110 117 108 108 63 0 R = some (.inl (some (.int (if mtB N tx (wdN.getD 16 []) a then 1 else 0))), R) := is5_m (c1 := 110) (c2 := 117) (c3 := 108) (c4 := 108) (c5 := 63) h hw haN (by decide) (by decide) (by decide) (by decide) (by decide)
theorem kq_17 (h : txM R N tx) {a : Nat} (hw : wdM R a (we N tx a)) (haN : a ≤ N) : g_135 110 111 116 0 0 0 R = some (.inl (some (.int (if mtB N tx (wdN.getD 17 []) a then 1 else 0))), R) := is3_m (c1 := 110) (c2 := 111) (c3 := 116) h hw haN (by decide) (by decide) (by decide)
theorem kq_18 (h : txM R N tx) {a : Nat} (hw : wdM R a (we N tx a)) (haN : a ≤ N) : g_135 111 117 116 0 0 0 R = some (.inl (some (.int (if mtB N tx (wdN.getD 18 []) a then 1 else 0))), R) := is3_m (c1 := 111) (c2 := 117) (c3 := 116) h hw haN (by decide) (by decide) (by decide)
theorem kq_19 (h : txM R N tx) {a : Nat} (hw : wdM R a (we N tx a)) (haN : a ≤ N) : g_135 110 105 108 0 0 0 R = some (.inl (some (.int (if mtB N tx (wdN.getD 19 []) a then 1 else 0))), R) := is3_m (c1 := 110) (c2 := 105) (c3 := 108) h hw haN (by decide) (by decide) (by decide)
theorem kw_m (h : txM R N tx) {a : Nat} (hw : wdM R a (we N tx a)) (haN : a ≤ N) : g_143 R = some (.inl (some (.int (kwV (hdW N tx a)))), R) := by
  unfold g_143
  simp only [kq_0 h hw haN, kq_1 h hw haN, kq_2 h hw haN, kq_3 h hw haN, kq_4 h hw haN, kq_5 h hw haN, bI_i]
  cases hd : hdW N tx a with
  | none =>
    have hn := hdW_none hd
    simp only [hn 0 (by decide), hn 1 (by decide), hn 2 (by decide), hn 3 (by decide), hn 4 (by decide), hn 5 (by decide)]
    rfl
  | some j =>
    obtain ⟨h1, h2, h3⟩ := hdW_some hd
    match j, h1, h2, h3 with
    | 0, _, h2, h3 => simp only [h2, h3 1 (by decide) (by decide), h3 2 (by decide) (by decide), h3 3 (by decide) (by decide), h3 4 (by decide) (by decide), h3 5 (by decide) (by decide)]; rfl
    | 1, _, h2, h3 => simp only [h3 0 (by decide) (by decide), h2, h3 2 (by decide) (by decide), h3 3 (by decide) (by decide), h3 4 (by decide) (by decide), h3 5 (by decide) (by decide)]; rfl
    | 2, _, h2, h3 => simp only [h3 0 (by decide) (by decide), h3 1 (by decide) (by decide), h2, h3 3 (by decide) (by decide), h3 4 (by decide) (by decide), h3 5 (by decide) (by decide)]; rfl
    | 3, _, h2, h3 => simp only [h3 0 (by decide) (by decide), h3 1 (by decide) (by decide), h3 2 (by decide) (by decide), h2, h3 4 (by decide) (by decide), h3 5 (by decide) (by decide)]; rfl
    | 4, _, h2, h3 => simp only [h3 0 (by decide) (by decide), h3 1 (by decide) (by decide), h3 2 (by decide) (by decide), h3 3 (by decide) (by decide), h2, h3 5 (by decide) (by decide)]; rfl
    | 5, _, h2, h3 => simp only [h3 0 (by decide) (by decide), h3 1 (by decide) (by decide), h3 2 (by decide) (by decide), h3 3 (by decide) (by decide), h3 4 (by decide) (by decide), h2]; rfl
    | 6, _, h2, h3 => simp only [h3 0 (by decide) (by decide), h3 1 (by decide) (by decide), h3 2 (by decide) (by decide), h3 3 (by decide) (by decide), h3 4 (by decide) (by decide), h3 5 (by decide) (by decide)]; rfl
    | 7, _, h2, h3 => simp only [h3 0 (by decide) (by decide), h3 1 (by decide) (by decide), h3 2 (by decide) (by decide), h3 3 (by decide) (by decide), h3 4 (by decide) (by decide), h3 5 (by decide) (by decide)]; rfl
    | 8, _, h2, h3 => simp only [h3 0 (by decide) (by decide), h3 1 (by decide) (by decide), h3 2 (by decide) (by decide), h3 3 (by decide) (by decide), h3 4 (by decide) (by decide), h3 5 (by decide) (by decide)]; rfl
    | 9, _, h2, h3 => simp only [h3 0 (by decide) (by decide), h3 1 (by decide) (by decide), h3 2 (by decide) (by decide), h3 3 (by decide) (by decide), h3 4 (by decide) (by decide), h3 5 (by decide) (by decide)]; rfl
    | 10, _, h2, h3 => simp only [h3 0 (by decide) (by decide), h3 1 (by decide) (by decide), h3 2 (by decide) (by decide), h3 3 (by decide) (by decide), h3 4 (by decide) (by decide), h3 5 (by decide) (by decide)]; rfl
    | 11, _, h2, h3 => simp only [h3 0 (by decide) (by decide), h3 1 (by decide) (by decide), h3 2 (by decide) (by decide), h3 3 (by decide) (by decide), h3 4 (by decide) (by decide), h3 5 (by decide) (by decide)]; rfl
    | 12, _, h2, h3 => simp only [h3 0 (by decide) (by decide), h3 1 (by decide) (by decide), h3 2 (by decide) (by decide), h3 3 (by decide) (by decide), h3 4 (by decide) (by decide), h3 5 (by decide) (by decide)]; rfl
    | 13, _, h2, h3 => simp only [h3 0 (by decide) (by decide), h3 1 (by decide) (by decide), h3 2 (by decide) (by decide), h3 3 (by decide) (by decide), h3 4 (by decide) (by decide), h3 5 (by decide) (by decide)]; rfl
    | 14, _, h2, h3 => simp only [h3 0 (by decide) (by decide), h3 1 (by decide) (by decide), h3 2 (by decide) (by decide), h3 3 (by decide) (by decide), h3 4 (by decide) (by decide), h3 5 (by decide) (by decide)]; rfl
    | 15, _, h2, h3 => simp only [h3 0 (by decide) (by decide), h3 1 (by decide) (by decide), h3 2 (by decide) (by decide), h3 3 (by decide) (by decide), h3 4 (by decide) (by decide), h3 5 (by decide) (by decide)]; rfl
    | 16, _, h2, h3 => simp only [h3 0 (by decide) (by decide), h3 1 (by decide) (by decide), h3 2 (by decide) (by decide), h3 3 (by decide) (by decide), h3 4 (by decide) (by decide), h3 5 (by decide) (by decide)]; rfl
    | 17, _, h2, h3 => simp only [h3 0 (by decide) (by decide), h3 1 (by decide) (by decide), h3 2 (by decide) (by decide), h3 3 (by decide) (by decide), h3 4 (by decide) (by decide), h3 5 (by decide) (by decide)]; rfl
    | 18, _, h2, h3 => simp only [h3 0 (by decide) (by decide), h3 1 (by decide) (by decide), h3 2 (by decide) (by decide), h3 3 (by decide) (by decide), h3 4 (by decide) (by decide), h3 5 (by decide) (by decide)]; rfl
    | j + 19, h1, _, _ => exact absurd h1 (by omega)
theorem pr_m (h : txM R N tx) {a : Nat} (hw : wdM R a (we N tx a)) (haN : a ≤ N) : g_144 R = some (.inl (some (.int (prV (hdW N tx a)))), R) := by
  unfold g_144
  simp only [kq_6 h hw haN, kq_7 h hw haN, kq_8 h hw haN, kq_9 h hw haN, kq_10 h hw haN, kq_11 h hw haN, kq_12 h hw haN, kq_13 h hw haN, kq_14 h hw haN, kq_15 h hw haN, kq_16 h hw haN, kq_17 h hw haN, kq_18 h hw haN, bI_i]
  cases hd : hdW N tx a with
  | none =>
    have hn := hdW_none hd
    simp only [hn 6 (by decide), hn 7 (by decide), hn 8 (by decide), hn 9 (by decide), hn 10 (by decide), hn 11 (by decide), hn 12 (by decide), hn 13 (by decide), hn 14 (by decide), hn 15 (by decide), hn 16 (by decide), hn 17 (by decide), hn 18 (by decide)]
    rfl
  | some j =>
    obtain ⟨h1, h2, h3⟩ := hdW_some hd
    match j, h1, h2, h3 with
    | 0, _, h2, h3 => simp only [h3 6 (by decide) (by decide), h3 7 (by decide) (by decide), h3 8 (by decide) (by decide), h3 9 (by decide) (by decide), h3 10 (by decide) (by decide), h3 11 (by decide) (by decide), h3 12 (by decide) (by decide), h3 13 (by decide) (by decide), h3 14 (by decide) (by decide), h3 15 (by decide) (by decide), h3 16 (by decide) (by decide), h3 17 (by decide) (by decide), h3 18 (by decide) (by decide)]; rfl
    | 1, _, h2, h3 => simp only [h3 6 (by decide) (by decide), h3 7 (by decide) (by decide), h3 8 (by decide) (by decide), h3 9 (by decide) (by decide), h3 10 (by decide) (by decide), h3 11 (by decide) (by decide), h3 12 (by decide) (by decide), h3 13 (by decide) (by decide), h3 14 (by decide) (by decide), h3 15 (by decide) (by decide), h3 16 (by decide) (by decide), h3 17 (by decide) (by decide), h3 18 (by decide) (by decide)]; rfl
    | 2, _, h2, h3 => simp only [h3 6 (by decide) (by decide), h3 7 (by decide) (by decide), h3 8 (by decide) (by decide), h3 9 (by decide) (by decide), h3 10 (by decide) (by decide), h3 11 (by decide) (by decide), h3 12 (by decide) (by decide), h3 13 (by decide) (by decide), h3 14 (by decide) (by decide), h3 15 (by decide) (by decide), h3 16 (by decide) (by decide), h3 17 (by decide) (by decide), h3 18 (by decide) (by decide)]; rfl
    | 3, _, h2, h3 => simp only [h3 6 (by decide) (by decide), h3 7 (by decide) (by decide), h3 8 (by decide) (by decide), h3 9 (by decide) (by decide), h3 10 (by decide) (by decide), h3 11 (by decide) (by decide), h3 12 (by decide) (by decide), h3 13 (by decide) (by decide), h3 14 (by decide) (by decide), h3 15 (by decide) (by decide), h3 16 (by decide) (by decide), h3 17 (by decide) (by decide), h3 18 (by decide) (by decide)]; rfl
    | 4, _, h2, h3 => simp only [h3 6 (by decide) (by decide), h3 7 (by decide) (by decide), h3 8 (by decide) (by decide), h3 9 (by decide) (by decide), h3 10 (by decide) (by decide), h3 11 (by decide) (by decide), h3 12 (by decide) (by decide), h3 13 (by decide) (by decide), h3 14 (by decide) (by decide), h3 15 (by decide) (by decide), h3 16 (by decide) (by decide), h3 17 (by decide) (by decide), h3 18 (by decide) (by decide)]; rfl
    | 5, _, h2, h3 => simp only [h3 6 (by decide) (by decide), h3 7 (by decide) (by decide), h3 8 (by decide) (by decide), h3 9 (by decide) (by decide), h3 10 (by decide) (by decide), h3 11 (by decide) (by decide), h3 12 (by decide) (by decide), h3 13 (by decide) (by decide), h3 14 (by decide) (by decide), h3 15 (by decide) (by decide), h3 16 (by decide) (by decide), h3 17 (by decide) (by decide), h3 18 (by decide) (by decide)]; rfl
    | 6, _, h2, h3 => simp only [h2, h3 7 (by decide) (by decide), h3 8 (by decide) (by decide), h3 9 (by decide) (by decide), h3 10 (by decide) (by decide), h3 11 (by decide) (by decide), h3 12 (by decide) (by decide), h3 13 (by decide) (by decide), h3 14 (by decide) (by decide), h3 15 (by decide) (by decide), h3 16 (by decide) (by decide), h3 17 (by decide) (by decide), h3 18 (by decide) (by decide)]; rfl
    | 7, _, h2, h3 => simp only [h3 6 (by decide) (by decide), h2, h3 8 (by decide) (by decide), h3 9 (by decide) (by decide), h3 10 (by decide) (by decide), h3 11 (by decide) (by decide), h3 12 (by decide) (by decide), h3 13 (by decide) (by decide), h3 14 (by decide) (by decide), h3 15 (by decide) (by decide), h3 16 (by decide) (by decide), h3 17 (by decide) (by decide), h3 18 (by decide) (by decide)]; rfl
    | 8, _, h2, h3 => simp only [h3 6 (by decide) (by decide), h3 7 (by decide) (by decide), h2, h3 9 (by decide) (by decide), h3 10 (by decide) (by decide), h3 11 (by decide) (by decide), h3 12 (by decide) (by decide), h3 13 (by decide) (by decide), h3 14 (by decide) (by decide), h3 15 (by decide) (by decide), h3 16 (by decide) (by decide), h3 17 (by decide) (by decide), h3 18 (by decide) (by decide)]; rfl
    | 9, _, h2, h3 => simp only [h3 6 (by decide) (by decide), h3 7 (by decide) (by decide), h3 8 (by decide) (by decide), h2, h3 10 (by decide) (by decide), h3 11 (by decide) (by decide), h3 12 (by decide) (by decide), h3 13 (by decide) (by decide), h3 14 (by decide) (by decide), h3 15 (by decide) (by decide), h3 16 (by decide) (by decide), h3 17 (by decide) (by decide), h3 18 (by decide) (by decide)]; rfl
    | 10, _, h2, h3 => simp only [h3 6 (by decide) (by decide), h3 7 (by decide) (by decide), h3 8 (by decide) (by decide), h3 9 (by decide) (by decide), h2, h3 11 (by decide) (by decide), h3 12 (by decide) (by decide), h3 13 (by decide) (by decide), h3 14 (by decide) (by decide), h3 15 (by decide) (by decide), h3 16 (by decide) (by decide), h3 17 (by decide) (by decide), h3 18 (by decide) (by decide)]; rfl
    | 11, _, h2, h3 => simp only [h3 6 (by decide) (by decide), h3 7 (by decide) (by decide), h3 8 (by decide) (by decide), h3 9 (by decide) (by decide), h3 10 (by decide) (by decide), h2, h3 12 (by decide) (by decide), h3 13 (by decide) (by decide), h3 14 (by decide) (by decide), h3 15 (by decide) (by decide), h3 16 (by decide) (by decide), h3 17 (by decide) (by decide), h3 18 (by decide) (by decide)]; rfl
    | 12, _, h2, h3 => simp only [h3 6 (by decide) (by decide), h3 7 (by decide) (by decide), h3 8 (by decide) (by decide), h3 9 (by decide) (by decide), h3 10 (by decide) (by decide), h3 11 (by decide) (by decide), h2, h3 13 (by decide) (by decide), h3 14 (by decide) (by decide), h3 15 (by decide) (by decide), h3 16 (by decide) (by decide), h3 17 (by decide) (by decide), h3 18 (by decide) (by decide)]; rfl
    | 13, _, h2, h3 => simp only [h3 6 (by decide) (by decide), h3 7 (by decide) (by decide), h3 8 (by decide) (by decide), h3 9 (by decide) (by decide), h3 10 (by decide) (by decide), h3 11 (by decide) (by decide), h3 12 (by decide) (by decide), h2, h3 14 (by decide) (by decide), h3 15 (by decide) (by decide), h3 16 (by decide) (by decide), h3 17 (by decide) (by decide), h3 18 (by decide) (by decide)]; rfl
    | 14, _, h2, h3 => simp only [h3 6 (by decide) (by decide), h3 7 (by decide) (by decide), h3 8 (by decide) (by decide), h3 9 (by decide) (by decide), h3 10 (by decide) (by decide), h3 11 (by decide) (by decide), h3 12 (by decide) (by decide), h3 13 (by decide) (by decide), h2, h3 15 (by decide) (by decide), h3 16 (by decide) (by decide), h3 17 (by decide) (by decide), h3 18 (by decide) (by decide)]; rfl
    | 15, _, h2, h3 => simp only [h3 6 (by decide) (by decide), h3 7 (by decide) (by decide), h3 8 (by decide) (by decide), h3 9 (by decide) (by decide), h3 10 (by decide) (by decide), h3 11 (by decide) (by decide), h3 12 (by decide) (by decide), h3 13 (by decide) (by decide), h3 14 (by decide) (by decide), h2, h3 16 (by decide) (by decide), h3 17 (by decide) (by decide), h3 18 (by decide) (by decide)]; rfl
    | 16, _, h2, h3 => simp only [h3 6 (by decide) (by decide), h3 7 (by decide) (by decide), h3 8 (by decide) (by decide), h3 9 (by decide) (by decide), h3 10 (by decide) (by decide), h3 11 (by decide) (by decide), h3 12 (by decide) (by decide), h3 13 (by decide) (by decide), h3 14 (by decide) (by decide), h3 15 (by decide) (by decide), h2, h3 17 (by decide) (by decide), h3 18 (by decide) (by decide)]; rfl
    | 17, _, h2, h3 => simp only [h3 6 (by decide) (by decide), h3 7 (by decide) (by decide), h3 8 (by decide) (by decide), h3 9 (by decide) (by decide), h3 10 (by decide) (by decide), h3 11 (by decide) (by decide), h3 12 (by decide) (by decide), h3 13 (by decide) (by decide), h3 14 (by decide) (by decide), h3 15 (by decide) (by decide), h3 16 (by decide) (by decide), h2, h3 18 (by decide) (by decide)]; rfl
    | 18, _, h2, h3 => simp only [h3 6 (by decide) (by decide), h3 7 (by decide) (by decide), h3 8 (by decide) (by decide), h3 9 (by decide) (by decide), h3 10 (by decide) (by decide), h3 11 (by decide) (by decide), h3 12 (by decide) (by decide), h3 13 (by decide) (by decide), h3 14 (by decide) (by decide), h3 15 (by decide) (by decide), h3 16 (by decide) (by decide), h3 17 (by decide) (by decide), h2]; rfl
    | j + 19, h1, _, _ => exact absurd h1 (by omega)
theorem isLet_m (h : txM R N tx) {a : Nat} (hw : wdM R a (we N tx a)) (haN : a ≤ N) : (ltW N tx a → g_136 R = some (.inl (some (.int 1)), R)) ∧ (¬ ltW N tx a → g_136 R = some (.inl (some (.int 0)), R)) := by
  have hN := h.1
  have hp := we_prop (tx := tx) (N - a) a (Nat.le_refl _)
  have hle := hp.2.1 haN
  unfold g_136
  rw [hw.1, hw.2, pk_sub hp.1]
  by_cases hl : we N tx a = a + 1
  · have ha : a < N := Nat.lt_of_not_le (fun h9 => hp.2.2.2 a (Nat.le_refl _) (by omega) (Or.inl h9))
    have hb := h.2.2 a ha
    rw [if_pos (show nI (we N tx a - a) = 1 by rw [hl, Nat.add_sub_cancel_left]; rfl), az_ck_in (by omega) (by decide), nI_clamp (by omega), hb.1, in_m, bI_i]
    have he : enW N tx (a + 1) := by rw [← hl]; exact hp.2.2.1
    by_cases h1 : tx a < 97
    · rw [if_pos (show nI (tx a) < 97 from nI_lt (b := 97) h1 (by decide)), if_pos rfl]
      exact ⟨fun h9 => by have := h9.2.1; omega, fun _ => rfl⟩
    · rw [if_neg (show ¬ nI (tx a) < 97 from nI_nlt (b := 97) (by omega) (by omega))]
      by_cases h2 : 122 < tx a
      · rw [if_pos (show (122 : Int32) < nI (tx a) from nI_lt (a := 122) h2 (by omega)), if_pos rfl]
        exact ⟨fun h9 => by have := h9.2.2.1; omega, fun _ => rfl⟩
      · rw [if_neg (show ¬ (122 : Int32) < nI (tx a) from nI_nlt (a := 122) (by omega) (by decide)), if_neg (by decide)]
        exact ⟨fun _ => rfl, fun h9 => absurd ⟨ha, by omega, by omega, he⟩ h9⟩
  · rw [if_neg (show ¬ nI (we N tx a - a) = 1 from fun h9 => hl (by have := (nI_eq (by omega) (by decide)).mp (show nI (we N tx a - a) = nI 1 from h9); omega))]
    refine ⟨fun h9 => ?_, fun _ => rfl⟩
    exfalso
    apply hl
    have hx := h9.2.2.2
    exact we_of 1 (fun i hi => by
      have : i = 0 := by omega
      subst this
      rw [Nat.add_zero]
      have := h9.1; have := h9.2.1
      unfold enW
      omega) hx
end HEAD
