/-! feed -/
/-- the tapes are alike: f bytes -/
def tpR (S R : amS) (f : Nat) : Prop := S.1 21 1 = nI f ∧ R.1 34 2 = nI f ∧ f ≤ 250 ∧ ∀ j, j < f → S.1 22 j = R.1 35 j ∧ ∃ k, k < 256 ∧ S.1 22 j = nI k
/-- nothing but the tape has changed; in the reference nothing but tape and thrown -/
def seC (S S' : amS) : Prop := (∀ a j, a ≠ 22 → ¬ (a = 21 ∧ j = 1) → S'.1 a j = S.1 a j) ∧ S'.2 = S.2
def seM (R R' : amS) : Prop := (∀ a j, a ≠ 35 → ¬ (a = 34 ∧ (j = 0 ∨ j = 2)) → R'.1 a j = R.1 a j) ∧ R'.2 = R.2
theorem seC_refl (S : amS) : seC S S := ⟨fun _ _ _ _ => rfl, rfl⟩
theorem seM_refl (S : amS) : seM S S := ⟨fun _ _ _ _ => rfl, rfl⟩
theorem seC_trans {A B C : amS} (h : seC A B) (t : seC B C) : seC A C := ⟨fun a j h1 h2 => (t.1 a j h1 h2).trans (h.1 a j h1 h2), t.2.trans h.2⟩
theorem seM_trans {A B C : amS} (h : seM A B) (t : seM B C) : seM A C := ⟨fun a j h1 h2 => (t.1 a j h1 h2).trans (h.1 a j h1 h2), t.2.trans h.2⟩
theorem ap_c (b : Int64) : ∀ (m : Nat), m ≤ 8 → ∀ (S : amS) (f : Nat), S.1 21 1 = nI f → f + m ≤ 250 → ∃ S', G_100_5 b (nI m + (-1)) S = some (.inl (some (.int (nI (f + m)))), S') ∧ S'.1 21 1 = nI (f + m) ∧ (∀ j, S'.1 22 j = if f ≤ j ∧ j < f + m then by_c b (nI (f + m - 1 - j)) else S.1 22 j) ∧ seC S S' := by
  intro m
  induction m with
  | zero =>
    intro _ S f hf _
    refine ⟨S, ?_, hf, fun j => ?_, seC_refl S⟩
    · rw [G_100_5_eq]
      unfold B_100_5
      rw [if_pos (by decide), hf]
      rfl
    · rw [if_neg (by omega)]
  | succ m ih =>
    intro hm S f hf h250
    have e1 : nI (m + 1) + (-1) = nI m := pk_m1 m
    obtain ⟨S', h1, h2, h3, h4⟩ := ih (by omega) (sI (sI S 22 f (by_c b (nI m))) 21 1 (nI (f + 1))) (f + 1) (by rw [sI_get, if_pos ⟨rfl, rfl⟩]) (by omega)
    refine ⟨S', ?_, by rw [h2]; congr 1; omega, fun j => ?_, ?_⟩
    · rw [G_100_5_eq]
      unfold B_100_5
      rw [e1, if_neg (nI_pos (by omega)), hf]
      simp only [az_st]
      rw [sR_in _ _ _ _ _ (by omega) (by decide), sI_na _ (by decide), hf, nI_1]
      show G_100_5 b (nI m + (-1)) (sI (sI S 22 f (by_c b (nI m))) 21 1 (nI (f + 1))) = _
      rw [h1]
      congr 6
      omega
    · rw [h3]
      by_cases hj : j = f
      · subst hj
        rw [if_neg (by omega), if_pos (by omega), sI_na _ (by decide), sI_eq]
        congr 2
        omega
      · by_cases hj2 : f ≤ j ∧ j < f + (m + 1)
        · rw [if_pos (by omega), if_pos hj2]
          congr 2
          omega
        · rw [if_neg (by omega), if_neg hj2, sI_na _ (by decide), sI_nk _ hj]
    · refine seC_trans ?_ h4
      refine ⟨fun a j g1 g2 => ?_, rfl⟩
      rw [sI_get, if_neg g2, sI_get, if_neg (fun h => g1 h.1)]
theorem ap_m (b : Int64) : ∀ (m : Nat), m ≤ 8 → ∀ (R : amS) (f : Nat), R.1 34 2 = nI f → f + m ≤ 250 → ∃ R', G_130_55 b (nI m + (-1)) R = some (.inl (some (.int (nI (f + m)))), R') ∧ R'.1 34 2 = nI (f + m) ∧ (∀ j, R'.1 35 j = if f ≤ j ∧ j < f + m then by_r b (nI (f + m - 1 - j)) else R.1 35 j) ∧ seM R R' ∧ R'.1 34 0 = R.1 34 0 := by
  intro m
  induction m with
  | zero =>
    intro _ R f hf _
    refine ⟨R, ?_, hf, fun j => ?_, seM_refl R, rfl⟩
    · rw [G_130_55_eq]
      unfold B_130_55
      rw [if_pos (by decide), hf]
      rfl
    · rw [if_neg (by omega)]
  | succ m ih =>
    intro hm R f hf h250
    have e1 : nI (m + 1) + (-1) = nI m := pk_m1 m
    obtain ⟨R', h1, h2, h3, h4, h5⟩ := ih (by omega) (sI (sI R 35 f (by_r b (nI m))) 34 2 (nI (f + 1))) (f + 1) (by rw [sI_get, if_pos ⟨rfl, rfl⟩]) (by omega)
    refine ⟨R', ?_, by rw [h2]; congr 1; omega, fun j => ?_, ?_, ?_⟩
    · rw [G_130_55_eq]
      unfold B_130_55
      rw [e1, if_neg (nI_pos (by omega)), hf]
      simp only [az_st]
      rw [az_ck_in (show f < 250 by omega) (by decide), nI_clamp (show f < 2 ^ 31 by omega), sI_na _ (by decide), hf, nI_1]
      show G_130_55 b (nI m + (-1)) (sI (sI R 35 f (by_r b (nI m))) 34 2 (nI (f + 1))) = _
      rw [h1]
      congr 6
      omega
    · rw [h3]
      by_cases hj : j = f
      · subst hj
        rw [if_neg (by omega), if_pos (by omega), sI_na _ (by decide), sI_eq]
        congr 2
        omega
      · by_cases hj2 : f ≤ j ∧ j < f + (m + 1)
        · rw [if_pos (by omega), if_pos hj2]
          congr 2
          omega
        · rw [if_neg (by omega), if_neg hj2, sI_na _ (by decide), sI_nk _ hj]
    · refine seM_trans ?_ h4
      refine ⟨fun a j g1 g2 => ?_, rfl⟩
      rw [sI_get, if_neg (fun h => g2 ⟨h.1, Or.inr h.2⟩), sI_get, if_neg (fun h => g1 h.1)]
    · rw [h5, sI_nk _ (by decide), sI_na _ (by decide)]
theorem th_m (l1 l2 : Int32) (R : amS) : g_128 l1 l2 R = (if l1 = 0 then if l2 = 0 then some (.inl (some (.int 0)), sI R 34 0 0) else some (.inl (some (.int 1)), sI R 34 0 2) else some (.inl (some (.int 1)), sI R 34 0 1)) := by
  have h : ∀ s, g_128_18 s R = if s ≤ 0 then some (.inl (some (.int 0)), sI R 34 0 s) else some (.inl (some (.int 1)), sI R 34 0 s) := by
    intro s
    simp only [g_128_18, az_st]
    rw [sI_eq]
  unfold g_128
  rw [h 0, h 1, h 2, if_pos (show (0 : Int32) ≤ 0 by decide), if_neg (show ¬ (1 : Int32) ≤ 0 by decide), if_neg (show ¬ (2 : Int32) ≤ 0 by decide)]
theorem in_m (x lo hi : Int32) (R : amS) : g_129 x lo hi R = some (.inl (some (.int (if x < lo then 0 else if hi < x then 0 else 1))), R) := by
  unfold g_129
  by_cases h : x < lo
  · rw [if_pos h, if_pos h]
  · rw [if_neg h, if_neg h]
    by_cases h2 : hi < x
    · rw [if_pos h2, if_pos h2]
    · rw [if_neg h2, if_neg h2]
/-- feed: alike, and nothing but the tape is touched -/
theorem feed_ok {S R : amS} {f : Nat} (h : tpR S R f) (b : Int64) (n : Int32) : ∃ oc S' x R' f', G_116 b n S = some (oc, S') ∧ G_130 b n R = some (.inl (some (.int x)), R') ∧ tpR S' R' f' ∧ seC S S' ∧ seM R R' ∧ ((oc = .inl (some (.int x)) ∧ R'.1 34 0 = 0) ∨ ∃ z c, oc = .inr z ∧ aF2 z = some c ∧ R'.1 34 0 = c) := by
  obtain ⟨h1, h2, h3, h4⟩ := h
  have bad : (n < 1 ∨ 8 < n) → ∃ oc S' x R' f', G_116 b n S = some (oc, S') ∧ G_130 b n R = some (.inl (some (.int x)), R') ∧ tpR S' R' f' ∧ seC S S' ∧ seM R R' ∧ ((oc = .inl (some (.int x)) ∧ R'.1 34 0 = 0) ∨ ∃ z c, oc = .inr z ∧ aF2 z = some c ∧ R'.1 34 0 = c) := by
    intro hb
    refine ⟨.inr 0, S, 0, sI R 34 0 1, f, ?_, ?_, ?_, seC_refl S, ?_, Or.inr ⟨0, 1, rfl, rfl, by rw [sI_get, if_pos ⟨rfl, rfl⟩]⟩⟩
    · unfold G_116
      rcases hb with hb | hb
      · rw [if_pos hb]
      · rw [if_neg (by intro h9; exact absurd (Int32.lt_trans hb h9) (by decide)), if_neg (by rw [Int32.not_le]; exact hb)]
    · unfold G_130
      rw [in_m]
      have e : (if n < 1 then (0 : Int32) else if 8 < n then 0 else 1) = 0 := by
        rcases hb with hb | hb
        · rw [if_pos hb]
        · by_cases h9 : n < 1
          · rw [if_pos h9]
          · rw [if_neg h9, if_pos hb]
      rw [e]
      show (if (0 : Int32) = 0 then G_130_15 b n 1 R else G_130_15 b n 0 R) = _
      rw [if_pos rfl]
      unfold G_130_15
      rw [if_neg (by decide)]
      unfold G_130_41 G_130_42
      rw [th_m, if_neg (by decide)]
      rfl
    · refine ⟨h1, by rw [sI_nk _ (by decide)]; exact h2, h3, fun j hj => ?_⟩
      rw [sI_na _ (by decide)]
      exact h4 j hj
    · refine ⟨fun a j g1 g2 => ?_, rfl⟩
      rw [sI_get, if_neg (fun h => g2 ⟨h.1, Or.inl h.2⟩)]
  by_cases hn1 : n < 1
  · exact bad (Or.inl hn1)
  by_cases hn8 : 8 < n
  · exact bad (Or.inr hn8)
  obtain ⟨m, hm, rfl⟩ := nI_of2 (x := n) (M := 8) (n := 8) (by decide) (fun h9 => hn1 (Int32.lt_trans h9 (by decide))) (Int32.not_lt.mp hn8)
  have e0 : (if nI m < 1 then (0 : Int32) else if 8 < nI m then 0 else 1) = 1 := by rw [if_neg hn1, if_neg hn8]
  by_cases hr : f + m ≤ 250
  · obtain ⟨S', a1, a2, a3, a4⟩ := ap_c b m hm S f h1 hr
    obtain ⟨R', b1, b2, b3, b4, b5⟩ := ap_m b m hm (sI R 34 0 0) f (by rw [sI_nk _ (by decide)]; exact h2) hr
    refine ⟨.inl (some (.int (nI (f + m)))), S', nI (f + m), R', f + m, ?_, ?_, ⟨a2, b2, hr, fun j hj => ?_⟩, a4, ?_, Or.inl ⟨rfl, by rw [b5, sI_get, if_pos ⟨rfl, rfl⟩]⟩⟩
    · unfold G_116
      rw [if_neg hn1, if_pos (Int32.not_lt.mp hn8)]
      unfold g_99
      rw [h1, nI_add, if_neg (by rw [show (250 : Int32) = nI 250 from rfl, nI_ltI (by decide) (by omega)]; omega)]
      rw [bI_i, if_neg (by decide)]
      simp only [G_100, az_st]
      rw [Int32.sub_eq_add_neg, a1]
      rfl
    · unfold G_130
      rw [in_m, e0]
      show (if (1 : Int32) = 0 then G_130_15 b (nI m) 1 R else G_130_15 b (nI m) 0 R) = _
      rw [if_neg (by decide)]
      unfold G_130_15
      rw [if_pos rfl, h2, nI_add, if_pos (by rw [show (250 : Int32) = nI 250 from rfl, nI_leI (by omega) (by decide)]; exact hr)]
      unfold G_130_41 G_130_42
      rw [th_m, if_pos rfl, if_pos rfl]
      rw [bI_i, if_pos rfl]
      simp only [az_st]
      rw [Int32.sub_eq_add_neg, b1]
    · rw [a3, b3, sI_na _ (by decide)]
      by_cases hj2 : f ≤ j ∧ j < f + m
      · rw [if_pos hj2, if_pos hj2]
        exact ⟨by_eq b _ (by omega), by_rng b _⟩
      · rw [if_neg hj2, if_neg hj2]
        exact h4 j (by omega)
    · refine seM_trans ?_ b4
      refine ⟨fun a j g1 g2 => ?_, rfl⟩
      rw [sI_get, if_neg (fun h => g2 ⟨h.1, Or.inl h.2⟩)]
  · refine ⟨.inr 1, S, 0, sI R 34 0 2, f, ?_, ?_, ?_, seC_refl S, ?_, Or.inr ⟨1, 2, rfl, rfl, by rw [sI_get, if_pos ⟨rfl, rfl⟩]⟩⟩
    · unfold G_116
      rw [if_neg hn1, if_pos (Int32.not_lt.mp hn8)]
      unfold g_99
      rw [h1, nI_add, if_pos (by rw [show (250 : Int32) = nI 250 from rfl, nI_ltI (by decide) (by omega)]; omega)]
      rfl
    · unfold G_130
      rw [in_m, e0]
      show (if (1 : Int32) = 0 then G_130_15 b (nI m) 1 R else G_130_15 b (nI m) 0 R) = _
      rw [if_neg (by decide)]
      unfold G_130_15
      rw [if_pos rfl, h2, nI_add, if_neg (by rw [show (250 : Int32) = nI 250 from rfl, nI_leI (by omega) (by decide)]; exact hr)]
      unfold G_130_42
      rw [th_m, if_pos rfl, if_neg (by decide)]
      rfl
    · refine ⟨h1, by rw [sI_nk _ (by decide)]; exact h2, h3, fun j hj => ?_⟩
      rw [sI_na _ (by decide)]
      exact h4 j hj
    · refine ⟨fun a j g1 g2 => ?_, rfl⟩
      rw [sI_get, if_neg (fun h => g2 ⟨h.1, Or.inl h.2⟩)]
