/-! the functions that are open, and what they take along -/
theorem pig : ∀ (n m : Nat) (f : Nat → Nat), (∀ i, i < m → f i < n) → (∀ i j, i < m → j < m → f i = f j → i = j) → m ≤ n
  | 0, m, f, h, _ => by
    cases m with
    | zero => exact Nat.le_refl _
    | succ m => exact absurd (h 0 (by omega)) (by omega)
  | n + 1, m, f, h, hi => by
    by_cases hk : ∃ k, k < m ∧ f k = n
    · obtain ⟨k, hk1, hk2⟩ := hk
      have := pig n (m - 1) (fun i => f (if i < k then i else i + 1)) (fun i h1 => by
        have h2 : (if i < k then i else i + 1) < m := by split <;> omega
        have h3 := h _ h2
        have h4 : f (if i < k then i else i + 1) ≠ n := fun h5 => by
          have := hi _ _ h2 hk1 (h5.trans hk2.symm)
          split at this <;> omega
        show f (if i < k then i else i + 1) < n
        omega) (fun i j h1 h2 h3 => by
        have a1 : (if i < k then i else i + 1) < m := by split <;> omega
        have a2 : (if j < k then j else j + 1) < m := by split <;> omega
        have := hi _ _ a1 a2 h3
        split at this <;> split at this <;> omega)
      omega
    · have := pig n m f (fun i h1 => by
        have h2 := h i h1
        have h3 : f i ≠ n := fun h4 => hk ⟨i, h1, h4⟩
        omega) hi
      omega
/-- functions that are open, innermost first, each with its own variables in scope; the last is the program itself -/
abbrev cxT : Type := List (Nat × List scE)
def scO : cxT → List scE
  | [] => []
  | f :: c => f.2 ++ scO c
def fnO : cxT → Nat
  | [] => 1000
  | f :: _ => f.1
def opC (r20 : Nat → Int32) (fc : Nat) : cxT → Prop
  | [] => False
  | [f] => f.1 = 1000
  | f :: g :: c => r20 (c.length + 1) = nI f.1 ∧ f.1 < fc ∧ fc ≤ 28 ∧ opC r20 f.1 (g :: c)
def lvC (r8 : Nat → Int32) : cxT → Prop
  | [] => True
  | f :: c => (∀ e ∈ f.2, r8 e.2.1 = nI c.length ∧ e.2.2.2 = f.1) ∧ lvC r8 c
def tkI (r7 r17 r18 r19 : Nat → Int32) (mu : Nat) (c : cxT) : Prop := ∃ t, t ≤ 26 ∧ r17 mu = nI t ∧ (∀ i, i < t → ∃ e, scF (scO c) e.1 = some e ∧ e.1 < 26 ∧ e.2.1 < 250 ∧ e.2.2.2 ≠ mu ∧ r18 (26 * mu + i) = nI e.2.1 ∧ LoR r7 r17 r18 (fnO c) e (r19 (26 * mu + i))) ∧ (∀ i j, i < t → j < t → r18 (26 * mu + i) = r18 (26 * mu + j) → i = j)
def TKI (r7 r17 r18 r19 : Nat → Int32) : cxT → Prop
  | [] => True
  | [_] => True
  | f :: g :: c => tkI r7 r17 r18 r19 f.1 (g :: c) ∧ TKI r7 r17 r18 r19 (g :: c)
/-- looking for a variable among what a function took -/
theorem take_find {S : amS} {mu cv t : Nat} {src : Int32} (hmu : mu < 28) (ht : t ≤ 26) : ∀ (m i : Nat), i + m = t → (∀ j, j < i → S.1 18 (26 * mu + j) ≠ nI cv) →
    (∃ j, i ≤ j ∧ j < t ∧ S.1 18 (26 * mu + j) = nI cv ∧ G_12_19 (nI mu) (nI cv) src (nI (26 * mu)) (nI t) (nI i) S = some (.inl (some (.int (nI j))), S)) ∨
    ((∀ j, j < t → S.1 18 (26 * mu + j) ≠ nI cv) ∧ (t < 26 → G_12_19 (nI mu) (nI cv) src (nI (26 * mu)) (nI t) (nI i) S = some (.inl (some (.int (nI t))), sI (sI (sI S 18 (26 * mu + t) (nI cv)) 19 (26 * mu + t) src) 17 mu (nI (t + 1))))) := by
  intro m
  induction m with
  | zero =>
    intro i hi hn
    right
    have hit : i = t := by omega
    subst hit
    refine ⟨hn, fun h26 => ?_⟩
    rw [G_12_19_eq]
    unfold B_12_19
    rw [if_pos (Int32.le_refl _), nI_add]
    simp only [az_st]
    rw [sR_in _ _ _ _ _ (show 26 * mu + i < 728 by omega) (by decide), sR_in _ _ _ _ _ (show 26 * mu + i < 728 by omega) (by decide), sR_in _ _ _ _ _ (show mu < 28 from hmu) (by decide), nI_1]
  | succ m ih =>
    intro i hi hn
    rw [G_12_19_eq]
    unfold B_12_19
    rw [if_neg (nI_ge (by omega) (by omega)), nI_add, az_rg_in _ _ _ (show 26 * mu + i < 728 by omega) (by decide)]
    by_cases he : S.1 18 (26 * mu + i) = nI cv
    · left
      rw [if_pos he]
      exact ⟨i, Nat.le_refl _, by omega, he, rfl⟩
    · rw [if_neg he, nI_1]
      rcases ih (i + 1) (by omega) (fun j hj => by
        by_cases h9 : j = i
        · subst h9; exact he
        · exact hn j (by omega)) with ⟨j, h1, h2, h3, h4⟩ | h
      · exact Or.inl ⟨j, by omega, h2, h3, h4⟩
      · exact Or.inr h
