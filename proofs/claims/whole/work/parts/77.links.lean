/-! load: both begin the program -/
section LINKS
variable {R : amS}
def lkN (j : Nat) : Int32 := if j + 1 < 120000 then nI (j + 1) else -1
theorem links_m : ∀ (m k : Nat) (R1 : amS), k + m = 120000 → (∀ j, j < k → R1.1 58 j = lkN j) → (∀ a, a ≠ 58 → R1.1 a = R.1 a) → R1.2 = R.2 → ∃ R2, G_154_91 (nI k) R1 = (az_st (sI R2 34 44 0) fun S1 => az_st (sI S1 34 53 ((-1))) fun S2 => az_ck 0 256 (az_bV (g_166 (S2.1 39 (0 : Int32).toNatClampNeg) S2) fun S3 => some (.inl none, S3))) ∧ (∀ j, j < 120000 → R2.1 58 j = lkN j) ∧ (∀ a, a ≠ 58 → R2.1 a = R.1 a) ∧ R2.2 = R.2 := by
  intro m
  induction m with
  | zero =>
    intro k R1 hk h1 h2 h3
    have : k = 120000 := by omega
    subst this
    refine ⟨R1, ?_, h1, h2, h3⟩
    rw [G_154_91_eq]
    unfold B_154_91
    rw [if_pos (show (120000 : Int32) ≤ nI 120000 from Int32.le_refl _)]
  | succ m ih =>
    intro k R1 hk h1 h2 h3
    rw [G_154_91_eq]
    unfold B_154_91 G_154_117
    rw [if_neg (show ¬ (120000 : Int32) ≤ nI k from nI_ge (b := 120000) (by omega) (by decide)), nI_1, az_ck_in (show k < 120000 by omega) (by decide), az_ck_in (show k < 120000 by omega) (by decide), nI_clamp (by omega)]
    simp only [az_st]
    have key : ∀ x, x = lkN k → ∃ R2, G_154_91 (nI (k + 1)) (sI R1 58 k x) = (az_ck 0 256 (az_bV (g_166 ((sI (sI R2 34 44 0) 34 53 ((-1))).1 39 (0 : Int32).toNatClampNeg) (sI (sI R2 34 44 0) 34 53 ((-1)))) fun S3 => some (.inl none, S3))) ∧ (∀ j, j < 120000 → R2.1 58 j = lkN j) ∧ (∀ a, a ≠ 58 → R2.1 a = R.1 a) ∧ R2.2 = R.2 := by
      intro x hx
      obtain ⟨R2, q1, q2, q3, q4⟩ := ih (k + 1) (sI R1 58 k x) (by omega) (fun j hj => by
        rw [sI_get]
        by_cases hjk : j = k
        · rw [if_pos ⟨rfl, hjk⟩, hjk, hx]
        · rw [if_neg (fun h => hjk h.2)]
          exact h1 j (by omega)) (fun a ha => by rw [sI_row, if_neg ha]; exact h2 a ha) h3
      simp only [az_st] at q1
      exact ⟨R2, q1, q2, q3, q4⟩
    by_cases hl : k + 1 < 120000
    · rw [if_neg (show ¬ (120000 : Int32) ≤ nI (k + 1) from nI_ge (b := 120000) (by omega) (by decide))]
      exact key _ (by unfold lkN; rw [if_pos hl])
    · rw [if_pos (show (120000 : Int32) ≤ nI (k + 1) from nI_le (a := 120000) (by omega) (by omega))]
      exact key _ (by unfold lkN; rw [if_neg hl])
end LINKS
