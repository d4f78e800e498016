/-! gather: links that nothing reaches are free again -/
section GATHER
variable {R : amS}
theorem clear_m {l1 : Int32} : ∀ (m k : Nat) (R1 : amS), k + m = 120000 → (∀ n, n < k → R1.1 59 n = 0) → (∀ a, a ≠ 59 → R1.1 a = R.1 a) → R1.2 = R.2 → ∃ R2, G_161_2 l1 (nI k) R1 = (az_bV (G_160 (R2.1 34 52) R2) fun S1 => az_bV (G_160 l1 S1) fun S2 => G_161_36 0 S2) ∧ (∀ n, n < 120000 → R2.1 59 n = 0) ∧ (∀ a, a ≠ 59 → R2.1 a = R.1 a) ∧ R2.2 = R.2 := by
  intro m
  induction m with
  | zero =>
    intro k R1 hk h1 h2 h3
    have : k = 120000 := by omega
    subst this
    refine ⟨R1, ?_, h1, h2, h3⟩
    rw [G_161_2_eq]
    unfold B_161_2
    rw [if_pos (show (120000 : Int32) ≤ nI 120000 from Int32.le_refl _)]
  | succ m ih =>
    intro k R1 hk h1 h2 h3
    rw [G_161_2_eq]
    unfold B_161_2
    rw [if_neg (show ¬ (120000 : Int32) ≤ nI k from nI_ge (b := 120000) (by omega) (by decide)), az_ck_in (show k < 120000 by omega) (by decide), nI_clamp (by omega), nI_1]
    simp only [az_st]
    refine ih (k + 1) (sI R1 59 k 0) (by omega) (fun n hn => ?_) (fun a ha => by rw [sI_row, if_neg ha]; exact h2 a ha) h3
    rw [sI_get]
    by_cases hnk : n = k
    · rw [if_pos ⟨rfl, hnk⟩]
    · rw [if_neg (fun h => hnk h.2)]
      exact h1 n (by omega)
theorem seeW_m {w : Nat} (hw : w ≤ 8000) (h49 : R.1 34 49 = nI w) (lw : Nat → List Nat) (hc : ∀ i, i < w → chn (R.1 58) (R.1 62 i) (lw i)) : ∀ (m k : Nat) (R1 : amS) (A : Nat → Prop), k + m = w → mkd R1 A → (∀ a, a ≠ 59 → R1.1 a = R.1 a) → R1.2 = R.2 → ∃ R2 A2, G_161_36 (nI k) R1 = G_161_62 0 R2 ∧ mkd R2 A2 ∧ (∀ n, A2 n ↔ (A n ∨ ∃ i, k ≤ i ∧ i < w ∧ n ∈ lw i)) ∧ (∀ a, a ≠ 59 → R2.1 a = R.1 a) ∧ R2.2 = R.2 := by
  intro m
  induction m with
  | zero =>
    intro k R1 A hk hm h2 h3
    refine ⟨R1, A, ?_, hm, fun n => ⟨fun h => Or.inl h, fun h => ?_⟩, h2, h3⟩
    · rw [G_161_36_eq]
      unfold B_161_36
      rw [h2 34 (by decide), h49, if_pos (nI_le (by omega) (by omega))]
    · rcases h with h | ⟨i, i1, i2, -⟩
      · exact h
      · omega
  | succ m ih =>
    intro k R1 A hk hm h2 h3
    obtain ⟨R2, q1, q2, q3, q4⟩ := see_m2 (R := R1) (k := R.1 62 k) (l := lw k) (by rw [h2 58 (by decide)]; exact hc k (by omega)) hm
    obtain ⟨R3, A3, y1, y2, y3, y4, y5⟩ := ih (k + 1) R2 _ (by omega) q4 (fun a ha => (q2 a ha).trans (h2 a ha)) (q3.trans h3)
    refine ⟨R3, A3, ?_, y2, fun n => ?_, y4, y5⟩
    · rw [G_161_36_eq]
      unfold B_161_36
      rw [h2 34 (by decide), h49, if_neg (nI_ge (by omega) (by omega)), az_ck_in (show k < 8000 by omega) (by decide), nI_clamp (by omega), h2 62 (by decide), q1, bV_v, nI_1]
      exact y1
    · rw [y3]
      constructor
      · rintro ((h | h) | ⟨i, i1, i2, i3⟩)
        · exact Or.inl h
        · exact Or.inr ⟨k, Nat.le_refl _, by omega, h⟩
        · exact Or.inr ⟨i, by omega, i2, i3⟩
      · rintro (h | ⟨i, i1, i2, i3⟩)
        · exact Or.inl (Or.inl h)
        · by_cases hik : i = k
          · subst hik; exact Or.inl (Or.inr i3)
          · exact Or.inr ⟨i, by omega, i2, i3⟩
theorem seeF_m {nf : Nat} (hw : nf ≤ 2000) (h39 : R.1 34 39 = nI nf) (lf : Nat → List Nat) (hc : ∀ i, i < nf → chn (R.1 58) (R.1 55 i) (lf i)) : ∀ (m k : Nat) (R1 : amS) (A : Nat → Prop), k + m = nf → mkd R1 A → (∀ a, a ≠ 59 → R1.1 a = R.1 a) → R1.2 = R.2 → ∃ R2 A2, G_161_62 (nI k) R1 = G_161_95 119999 (sI R2 34 44 (-1)) ∧ mkd R2 A2 ∧ (∀ n, A2 n ↔ (A n ∨ ∃ i, k ≤ i ∧ i < nf ∧ n ∈ lf i)) ∧ (∀ a, a ≠ 59 → R2.1 a = R.1 a) ∧ R2.2 = R.2 := by
  intro m
  induction m with
  | zero =>
    intro k R1 A hk hm h2 h3
    refine ⟨R1, A, ?_, hm, fun n => ⟨fun h => Or.inl h, fun h => ?_⟩, h2, h3⟩
    · rw [G_161_62_eq]
      unfold B_161_62
      rw [h2 34 (by decide), h39, if_pos (nI_le (by omega) (by omega))]
      rfl
    · rcases h with h | ⟨i, i1, i2, -⟩
      · exact h
      · omega
  | succ m ih =>
    intro k R1 A hk hm h2 h3
    obtain ⟨R2, q1, q2, q3, q4⟩ := see_m2 (R := R1) (k := R.1 55 k) (l := lf k) (by rw [h2 58 (by decide)]; exact hc k (by omega)) hm
    obtain ⟨R3, A3, y1, y2, y3, y4, y5⟩ := ih (k + 1) R2 _ (by omega) q4 (fun a ha => (q2 a ha).trans (h2 a ha)) (q3.trans h3)
    refine ⟨R3, A3, ?_, y2, fun n => ?_, y4, y5⟩
    · rw [G_161_62_eq]
      unfold B_161_62
      rw [h2 34 (by decide), h39, if_neg (nI_ge (by omega) (by omega)), az_ck_in (show k < 2000 by omega) (by decide), nI_clamp (by omega), h2 55 (by decide), q1, bV_v, nI_1]
      exact y1
    · rw [y3]
      constructor
      · rintro ((h | h) | ⟨i, i1, i2, i3⟩)
        · exact Or.inl h
        · exact Or.inr ⟨k, Nat.le_refl _, by omega, h⟩
        · exact Or.inr ⟨i, by omega, i2, i3⟩
      · rintro (h | ⟨i, i1, i2, i3⟩)
        · exact Or.inl (Or.inl h)
        · by_cases hik : i = k
          · subst hik; exact Or.inl (Or.inr i3)
          · exact Or.inr ⟨i, by omega, i2, i3⟩
/-- the free links from k on, upwards -/
theorem free_m {A : Nat → Prop} (hA : ∀ n, n < 120000 → (R.1 59 n ≠ 0 ↔ A n)) : ∀ (k : Nat) (R1 : amS) (fl : List Nat), k ≤ 120000 → (∀ a, a ≠ 34 → a ≠ 58 → R1.1 a = R.1 a) → (∀ j, j ≠ 44 → R1.1 34 j = R.1 34 j) → R1.2 = R.2 → (∀ n, (A n ∨ n < k) → R1.1 58 n = R.1 58 n) → chn (R1.1 58) (R1.1 34 44) fl → fl.Nodup → (∀ n, n ∈ fl ↔ (k ≤ n ∧ n < 120000 ∧ ¬ A n)) → ∃ R2 fl2, G_161_95 (nI k + (-1)) R1 = some (.inl none, R2) ∧ (∀ a, a ≠ 34 → a ≠ 58 → R2.1 a = R.1 a) ∧ (∀ j, j ≠ 44 → R2.1 34 j = R.1 34 j) ∧ R2.2 = R.2 ∧ (∀ n, A n → R2.1 58 n = R.1 58 n) ∧ chn (R2.1 58) (R2.1 34 44) fl2 ∧ fl2.Nodup ∧ (∀ n, n ∈ fl2 ↔ (n < 120000 ∧ ¬ A n)) := by
  intro k
  induction k with
  | zero =>
    intro R1 fl hk h1 h2 h3 h4 h5 h6 h7
    refine ⟨R1, fl, ?_, h1, h2, h3, fun n hn => h4 n (Or.inl hn), h5, h6, fun n => (h7 n).trans ⟨fun h => h.2, fun h => ⟨by omega, h⟩⟩⟩
    rw [G_161_95_eq]
    unfold B_161_95
    rw [if_pos (by decide)]
  | succ k ih =>
    intro R1 fl hk h1 h2 h3 h4 h5 h6 h7
    have e1 : nI (k + 1) + (-1) = nI k := pk_m1 k
    rw [e1, G_161_95_eq]
    unfold B_161_95 G_161_123
    rw [if_neg (nI_pos (by omega)), az_ck_in (show k < 120000 by omega) (by decide), nI_clamp (by omega), h1 59 (by decide) (by decide)]
    by_cases h0 : R.1 59 k = 0
    · have hnA : ¬ A k := fun h9 => ((hA k (by omega)).mpr h9) h0
      rw [if_pos h0, az_ck_in (show k < 120000 by omega) (by decide)]
      simp only [az_st]
      refine ih (sI (sI R1 58 k (R1.1 34 44)) 34 44 (nI k)) (k :: fl) (by omega) (fun a ha hb => by rw [sI_row, if_neg ha, sI_row, if_neg hb]; exact h1 a ha hb) (fun j hj => by rw [sI_nk _ hj, sI_na _ (by decide)]; exact h2 j hj) h3 (fun n hn => ?_) ?_ ?_ (fun n => ?_)
      · have hnk : n ≠ k := fun h9 => by
          rcases hn with hn | hn
          · exact hnA (h9 ▸ hn)
          · omega
        rw [sI_na _ (by decide), sI_nk _ hnk]
        rcases hn with hn | hn
        · exact h4 n (Or.inl hn)
        · exact h4 n (Or.inr (by omega))
      · refine ⟨sI_eq _ _ _ _, by omega, ?_⟩
        rw [sI_na _ (by decide), sI_eq]
        refine chn_keep h5 (fun n hn => ?_)
        have := (h7 n).mp hn
        rw [sI_na _ (by decide), sI_nk _ (by omega)]
      · exact List.nodup_cons.mpr ⟨fun h9 => by have := (h7 k).mp h9; omega, h6⟩
      · rw [List.mem_cons, h7]
        constructor
        · rintro (rfl | h)
          · exact ⟨Nat.le_refl _, by omega, hnA⟩
          · exact ⟨by omega, h.2⟩
        · rintro ⟨a1, a2, a3⟩
          by_cases hnk : n = k
          · exact Or.inl hnk
          · exact Or.inr ⟨by omega, a2, a3⟩
    · have hyA : A k := (hA k (by omega)).mp h0
      rw [if_neg h0]
      refine ih R1 fl (by omega) h1 h2 h3 (fun n hn => ?_) h5 h6 (fun n => ?_)
      · rcases hn with hn | hn
        · exact h4 n (Or.inl hn)
        · exact h4 n (Or.inr (by omega))
      · rw [h7]
        constructor
        · rintro ⟨a1, a2, a3⟩; exact ⟨by omega, a2, a3⟩
        · rintro ⟨a1, a2, a3⟩
          have : n ≠ k := fun h9 => a3 (h9 ▸ hyA)
          exact ⟨by omega, a2, a3⟩
end GATHER
