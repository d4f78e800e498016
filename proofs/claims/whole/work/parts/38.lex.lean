/-! the text: bytes, blanks, words -/
theorem sI_self {S : amS} {a k : Nat} {x : Int32} (h : S.1 a k = x) : sI S a k x = S := by
  unfold sI az_up upd
  obtain ⟨I, J⟩ := S
  have : (fun b => if b = a then (fun j => if j = k then x else I a j) else I b) = I := by
    funext b
    by_cases hb : b = a
    · rw [if_pos hb]
      funext j
      by_cases hj : j = k
      · rw [if_pos hj, hj, hb]; exact h.symm
      · rw [if_neg hj, hb]
    · rw [if_neg hb]
  rw [this]
theorem sI_sI (S : amS) (a k : Nat) (x y : Int32) : sI (sI S a k x) a k y = sI S a k y := by
  unfold sI az_up upd
  obtain ⟨I, J⟩ := S
  congr 1
  funext b
  by_cases hb : b = a
  · simp only [if_pos hb]
    funext j
    by_cases hj : j = k
    · simp [hj]
    · simp [hj]
  · simp only [if_neg hb]
theorem sI_comm (S : amS) {a k b j : Nat} {x y : Int32} (h : ¬ (a = b ∧ k = j)) : sI (sI S a k x) b j y = sI (sI S b j y) a k x := by
  unfold sI az_up upd
  obtain ⟨I, J⟩ := S
  congr 1
  funext c
  by_cases h1 : c = b
  · by_cases h2 : c = a
    · have hab : b = a := h1 ▸ h2
      subst h1; subst hab
      simp only [if_pos rfl]
      funext i
      by_cases h3 : i = j
      · by_cases h4 : i = k
        · exact absurd ⟨rfl, h4 ▸ h3⟩ h
        · simp [h3, show ¬ j = k from h3 ▸ h4]
      · by_cases h4 : i = k
        · simp [h4, show ¬ k = j from h4 ▸ h3]
        · simp [h3, h4]
    · subst h1
      simp [h2]
  · by_cases h2 : c = a
    · subst h2
      simp [h1]
    · simp [h1, h2]
/-- class and reference have the text: N bytes tx -/
def txC (S : amS) (N : Nat) (tx : Nat → Nat) : Prop := N ≤ 250 ∧ S.1 21 2 = nI N ∧ ∀ i, i < N → S.1 22 i = nI (tx i) ∧ tx i < 256
def txM (R : amS) (N : Nat) (tx : Nat → Nat) : Prop := N ≤ 250 ∧ R.1 34 3 = nI N ∧ ∀ i, i < N → R.1 35 i = nI (tx i) ∧ tx i < 256
def tb (N : Nat) (tx : Nat → Nat) (i : Nat) : Int32 := if i < N then nI (tx i) else -1
def skF (N : Nat) (tx : Nat → Nat) : Nat → Nat → Nat
  | 0, a => a
  | f + 1, a => if a < N ∧ tx a = 32 then skF N tx f (a + 1) else a
def sk (N : Nat) (tx : Nat → Nat) (a : Nat) : Nat := skF N tx (N - a) a
abbrev enW (N : Nat) (tx : Nat → Nat) (a : Nat) : Prop := N ≤ a ∨ tx a = 32 ∨ tx a = 40 ∨ tx a = 41
theorem enW_iff (N : Nat) (tx : Nat → Nat) (a : Nat) : enW N tx a ↔ (N ≤ a ∨ tx a = 32 ∨ tx a = 40 ∨ tx a = 41) := Iff.rfl
def weF (N : Nat) (tx : Nat → Nat) : Nat → Nat → Nat
  | 0, a => a
  | f + 1, a => if enW N tx a then a else weF N tx f (a + 1)
def we (N : Nat) (tx : Nat → Nat) (a : Nat) : Nat := weF N tx (N - a) a
section LEX
variable {N : Nat} {tx : Nat → Nat} {S R : amS}
theorem sk_step {a : Nat} (h : a < N ∧ tx a = 32) : sk N tx a = sk N tx (a + 1) := by
  unfold sk
  obtain ⟨f, hf⟩ : ∃ f, N - a = f + 1 := ⟨N - a - 1, by omega⟩
  rw [hf, show N - (a + 1) = f by omega]
  show (if a < N ∧ tx a = 32 then skF N tx f (a + 1) else a) = _
  rw [if_pos h]
theorem sk_stop {a : Nat} (h : ¬ (a < N ∧ tx a = 32)) : sk N tx a = a := by
  unfold sk
  cases N - a with
  | zero => rfl
  | succ f => exact if_neg h
theorem sk_prop : ∀ (f a : Nat), N - a ≤ f → a ≤ sk N tx a ∧ (a ≤ N → sk N tx a ≤ N) ∧ ¬ (sk N tx a < N ∧ tx (sk N tx a) = 32)
  | 0, a, h => by
    have h1 : ¬ (a < N ∧ tx a = 32) := by omega
    rw [sk_stop h1]
    exact ⟨Nat.le_refl _, fun h => h, h1⟩
  | f + 1, a, h => by
    by_cases h1 : a < N ∧ tx a = 32
    · rw [sk_step h1]
      obtain ⟨q1, q2, q3⟩ := sk_prop f (a + 1) (by omega)
      exact ⟨by omega, fun _ => q2 (by omega), q3⟩
    · rw [sk_stop h1]
      exact ⟨Nat.le_refl _, fun h => h, h1⟩
theorem sk_ge (a : Nat) : a ≤ sk N tx a := (sk_prop (N - a) a (Nat.le_refl _)).1
theorem sk_le {a : Nat} (h : a ≤ N) : sk N tx a ≤ N := (sk_prop (N - a) a (Nat.le_refl _)).2.1 h
theorem sk_nb (a : Nat) : ¬ (sk N tx a < N ∧ tx (sk N tx a) = 32) := (sk_prop (N - a) a (Nat.le_refl _)).2.2
theorem sk_sk (a : Nat) : sk N tx (sk N tx a) = sk N tx a := sk_stop (sk_nb a)
theorem we_step {a : Nat} (h : ¬ enW N tx a) : we N tx a = we N tx (a + 1) := by
  have ha : a < N := Nat.lt_of_not_le (fun h2 => h (Or.inl h2))
  unfold we
  obtain ⟨f, hf⟩ : ∃ f, N - a = f + 1 := ⟨N - a - 1, by omega⟩
  rw [hf, show N - (a + 1) = f by omega]
  show (if enW N tx a then a else weF N tx f (a + 1)) = _
  rw [if_neg h]
theorem we_stop {a : Nat} (h : enW N tx a) : we N tx a = a := by
  unfold we
  cases N - a with
  | zero => rfl
  | succ f => exact if_pos h
theorem we_prop : ∀ (f a : Nat), N - a ≤ f → a ≤ we N tx a ∧ (a ≤ N → we N tx a ≤ N) ∧ enW N tx (we N tx a) ∧ (∀ i, a ≤ i → i < we N tx a → ¬ enW N tx i)
  | 0, a, h => by
    have h1 : enW N tx a := Or.inl (by omega)
    rw [we_stop h1]
    exact ⟨Nat.le_refl _, fun h => h, h1, fun i h2 h3 => by omega⟩
  | f + 1, a, h => by
    by_cases h1 : enW N tx a
    · rw [we_stop h1]
      exact ⟨Nat.le_refl _, fun h => h, h1, fun i h2 h3 => by omega⟩
    · have ha : a < N := Nat.lt_of_not_le (fun h2 => h1 (Or.inl h2))
      rw [we_step h1]
      obtain ⟨q1, q2, q3, q4⟩ := we_prop f (a + 1) (by omega)
      refine ⟨by omega, fun _ => q2 (by omega), q3, fun i h2 h3 => ?_⟩
      by_cases h4 : i = a
      · subst h4; exact h1
      · exact q4 i (by omega) h3
theorem tb_eq {i c : Nat} (hc : c < 256) (h : ∀ i, i < N → tx i < 256) : tb N tx i = nI c ↔ i < N ∧ tx i = c := by
  unfold tb
  by_cases hi : i < N
  · rw [if_pos hi, nI_eq (by have := h i hi; omega) (by omega)]
    exact ⟨fun h => ⟨hi, h⟩, fun h => h.2⟩
  · rw [if_neg hi]
    constructor
    · intro h2
      have h3 : (-1 : Int32).toInt = (nI c).toInt := by rw [h2]
      rw [nI_toInt (by omega)] at h3
      have h4 : (-1 : Int32).toInt = -1 := by decide
      omega
    · intro h2; exact absurd h2.1 hi
theorem tb_m1 {i : Nat} (h : ∀ i, i < N → tx i < 256) : tb N tx i = -1 ↔ N ≤ i := by
  unfold tb
  by_cases hi : i < N
  · rw [if_pos hi]
    constructor
    · intro h2
      have h3 : (nI (tx i)).toInt = (-1 : Int32).toInt := by rw [h2]
      rw [nI_toInt (by have := h i hi; omega)] at h3
      have h4 : (-1 : Int32).toInt = -1 := by decide
      omega
    · intro h2; omega
  · rw [if_neg hi]
    exact ⟨fun _ => by omega, fun _ => rfl⟩
theorem byte_c (h : txC S N tx) {i : Nat} (hi : i < 2 ^ 31) : g_102 (nI i) S = some (.inl (some (.int (tb N tx i))), S) := by
  obtain ⟨h1, h2, h3⟩ := h
  unfold g_102 tb
  rw [if_neg (nI_pos hi), h2]
  by_cases hN : i < N
  · rw [if_neg (nI_ge hN (by omega)), if_neg (show ¬ (250 : Int32) ≤ nI i from nI_ge (a := i) (b := 250) (by omega) (by decide)), az_ck_in (by omega) (by decide), nI_clamp hi, if_pos hN, (h3 i hN).1]
  · rw [if_pos (nI_le (by omega) hi), if_neg hN]
theorem skip_c : ∀ (f : Nat) (S : amS) (a : Nat), txC S N tx → S.1 21 3 = nI a → a < 2 ^ 30 → N - a ≤ f → G_103 S = some (.inl (some (.int (nI (sk N tx a)))), sI S 21 3 (nI (sk N tx a))) := by
  intro f
  induction f with
  | zero =>
    intro S a h ha h30 hf
    have hs : ¬ (a < N ∧ tx a = 32) := by omega
    rw [sk_stop hs, sI_self ha, G_103_eq]
    unfold B_103
    rw [h.2.1, ha, if_pos (nI_le (by omega) (by omega))]
    unfold G_103_37
    rw [ha]
  | succ f ih =>
    intro S a h ha h30 hf
    have hN' := h.1
    rw [G_103_eq]
    unfold B_103
    rw [h.2.1, ha]
    by_cases hN : a < N
    · rw [if_neg (nI_ge hN (by have := h.1; omega)), byte_c h (by omega), bI_i]
      by_cases h32 : tx a = 32
      · rw [if_pos (show tb N tx a = 32 from (tb_eq (c := 32) (by decide) (fun i hi => (h.2.2 i hi).2)).mpr ⟨hN, h32⟩)]
        simp only [az_st]
        rw [ha, nI_1, ih (sI S 21 3 (nI (a + 1))) (a + 1) ⟨h.1, by rw [sI_nk _ (by decide)]; exact h.2.1, fun i hi => by rw [sI_na _ (by decide)]; exact h.2.2 i hi⟩ (sI_eq _ _ _ _) (by omega) (by omega), sI_sI, sk_step ⟨hN, h32⟩]
      · rw [if_neg (show ¬ tb N tx a = 32 from fun h9 => h32 ((tb_eq (c := 32) (by decide) (fun i hi => (h.2.2 i hi).2)).mp h9).2)]
        unfold G_103_37
        rw [sk_stop (fun h9 => h32 h9.2), sI_self ha, ha]
    · rw [if_pos (nI_le (by omega) (by omega))]
      unfold G_103_37
      rw [sk_stop (fun h9 => hN h9.1), sI_self ha, ha]
theorem txC_at (h : txC S N tx) (a : Nat) : txC (sI S 21 3 (nI a)) N tx := ⟨h.1, by rw [sI_nk _ (by decide)]; exact h.2.1, fun i hi => by rw [sI_na _ (by decide)]; exact h.2.2 i hi⟩
theorem next_c (h : txC S N tx) {a : Nat} (ha : S.1 21 3 = nI a) (h30 : a ≤ N) : G_104 S = some (.inl (some (.int (tb N tx (sk N tx a)))), sI S 21 3 (nI (sk N tx a))) := by
  have hN := h.1
  have hs := sk_le (tx := tx) h30
  unfold G_104
  rw [skip_c (N - a) S a h ha (by omega) (Nat.le_refl _), bI_i, byte_c (txC_at h _) (by omega), bI_i]
theorem see_m : ∀ (f : Nat) (R : amS) (a : Nat), txM R N tx → R.1 34 4 = nI a → a < 2 ^ 30 → N - a ≤ f → G_132 R = some (.inl (some (.int (tb N tx (sk N tx a)))), sI R 34 4 (nI (sk N tx a))) := by
  have stop : ∀ (R : amS) (a : Nat), txM R N tx → R.1 34 4 = nI a → a < 2 ^ 30 → G_132_38 R = some (.inl (some (.int (tb N tx a))), R) := by
    intro R a h ha h30
    have hN := h.1
    unfold G_132_38 tb
    rw [h.2.1, ha]
    by_cases hN2 : a < N
    · rw [if_neg (nI_ge hN2 (by omega)), az_ck_in (by omega) (by decide), nI_clamp (by omega), if_pos hN2, (h.2.2 a hN2).1]
    · rw [if_pos (nI_le (by omega) (by omega)), if_neg hN2]
  intro f
  induction f with
  | zero =>
    intro R a h ha h30 hf
    have hs : ¬ (a < N ∧ tx a = 32) := by omega
    rw [sk_stop hs, sI_self ha, G_132_eq]
    unfold B_132
    rw [h.2.1, ha, if_pos (nI_le (by omega) (by omega))]
    exact stop R a h ha h30
  | succ f ih =>
    intro R a h ha h30 hf
    have hN' := h.1
    rw [G_132_eq]
    unfold B_132
    rw [h.2.1, ha]
    by_cases hN : a < N
    · rw [if_neg (nI_ge hN (by omega)), az_ck_in (by omega) (by decide), nI_clamp (by omega), (h.2.2 a hN).1]
      by_cases h32 : tx a = 32
      · rw [if_pos (by rw [h32]; rfl)]
        simp only [az_st]
        rw [nI_1, ih (sI R 34 4 (nI (a + 1))) (a + 1) ⟨h.1, by rw [sI_nk _ (by decide)]; exact h.2.1, fun i hi => by rw [sI_na _ (by decide)]; exact h.2.2 i hi⟩ (sI_eq _ _ _ _) (by omega) (by omega), sI_sI, sk_step ⟨hN, h32⟩]
      · rw [if_neg (show ¬ nI (tx a) = 32 from fun h9 => h32 ((nI_eq (by have := (h.2.2 a hN).2; omega) (by decide)).mp (show nI (tx a) = nI 32 from h9)))]
        rw [sk_stop (fun h9 => h32 h9.2), sI_self ha]
        exact stop R a h ha h30
    · rw [if_pos (nI_le (by omega) (by omega))]
      rw [sk_stop (fun h9 => hN h9.1), sI_self ha]
      exact stop R a h ha h30
theorem txM_at (h : txM R N tx) (j : Nat) (hj : j ≠ 3) (x : Int32) : txM (sI R 34 j x) N tx := ⟨h.1, by rw [sI_nk _ (fun h => hj h.symm)]; exact h.2.1, fun i hi => by rw [sI_na _ (by decide)]; exact h.2.2 i hi⟩
end LEX
