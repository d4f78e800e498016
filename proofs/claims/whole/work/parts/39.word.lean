/-! words: how the class and the reference know them -/
def wdN : List (List Nat) := [[108, 97, 109, 98, 100, 97], [105, 102], [108, 101, 116], [108, 101, 116, 114, 101, 99], [115, 101, 116, 33], [98, 101, 103, 105, 110], [43], [45], [42], [60], [61], [101, 113, 63], [99, 111, 110, 115], [99, 97, 114], [99, 100, 114], [112, 97, 105, 114, 63], [110, 117, 108, 108, 63], [110, 111, 116], [111, 117, 116], [110, 105, 108]]
def mtB (N : Nat) (tx : Nat → Nat) : List Nat → Nat → Bool
  | [], a => decide (enW N tx a)
  | c :: w, a => decide (a < N ∧ tx a = c) && mtB N tx w (a + 1)
theorem wd_tx : ∀ k, k < 20 → am_tx.getD k [] = (wdN.getD k []).map nI := by decide +kernel
theorem wd_rng : ∀ k, k < 20 → ∀ c ∈ wdN.getD k [], c < 256 ∧ c ≠ 32 ∧ c ≠ 40 ∧ c ≠ 41 := by decide +kernel
theorem wd_len : ∀ k, k < 20 → 1 ≤ (wdN.getD k []).length ∧ (wdN.getD k []).length ≤ 6 := by decide +kernel
section WORD
variable {N : Nat} {tx : Nat → Nat} {S R : amS}
theorem we_of {a : Nat} : ∀ (n : Nat), (∀ i, i < n → ¬ enW N tx (a + i)) → enW N tx (a + n) → we N tx a = a + n := by
  intro n
  induction n generalizing a with
  | zero => intro _ h; exact we_stop h
  | succ n ih =>
    intro h1 h2
    have h0 := h1 0 (by omega)
    rw [Nat.add_zero] at h0
    rw [we_step h0, ih (a := a + 1) (fun i hi => by rw [show a + 1 + i = a + (i + 1) by omega]; exact h1 (i + 1) (by omega)) (by rw [show a + 1 + n = a + (n + 1) by omega]; exact h2)]
    omega
theorem mt_iff {w : List Nat} (hw : ∀ c ∈ w, c < 256 ∧ c ≠ 32 ∧ c ≠ 40 ∧ c ≠ 41) : ∀ (a : Nat), mtB N tx w a = true ↔ (we N tx a = a + w.length ∧ ∀ i, i < w.length → tx (a + i) = w.getD i 0) := by
  induction w with
  | nil =>
    intro a
    simp only [mtB, decide_eq_true_eq, List.length_nil, Nat.add_zero]
    constructor
    · intro h; exact ⟨we_stop h, fun i hi => absurd hi (by omega)⟩
    · intro h
      have h2 := (we_prop (tx := tx) (N - a) a (Nat.le_refl _)).2.2.1
      rw [h.1] at h2
      exact h2
  | cons c w ih =>
    intro a
    have hc := hw c List.mem_cons_self
    have ih := ih (fun d hd => hw d (List.mem_cons_of_mem _ hd)) (a + 1)
    simp only [mtB, Bool.and_eq_true, decide_eq_true_eq, ih, List.length_cons]
    constructor
    · rintro ⟨⟨h1, h2⟩, h3, h4⟩
      have hne : ¬ enW N tx a := by unfold enW; omega
      refine ⟨by rw [we_step hne, h3]; omega, fun i hi => ?_⟩
      cases i with
      | zero => simpa using h2
      | succ i => rw [show a + (i + 1) = a + 1 + i by omega, h4 i (by omega)]; rfl
    · rintro ⟨h1, h2⟩
      have hne : ¬ enW N tx a := by
        have h3 := (we_prop (tx := tx) (N - a) a (Nat.le_refl _)).2.2.2 a (Nat.le_refl _)
        rw [h1] at h3
        exact h3 (by omega)
      have ha : a < N := Nat.lt_of_not_le (fun h => hne (Or.inl h))
      refine ⟨⟨ha, by have := h2 0 (by omega); simpa using this⟩, ?_, fun i hi => ?_⟩
      · rw [← we_step hne, h1]; omega
      · have := h2 (i + 1) (by omega)
        rw [show a + 1 + i = a + (i + 1) by omega, this]; rfl
theorem ends_c (h : ∀ i, i < N → tx i < 256) (a : Nat) : g_109 (tb N tx a) S = some (.inl (some (.int (if enW N tx a then 1 else 0))), S) := by
  unfold g_109
  by_cases h1 : tb N tx a = -1
  · rw [if_pos h1, if_pos (Or.inl ((tb_m1 h).mp h1))]
  · rw [if_neg h1]
    have ha : a < N := Nat.lt_of_not_le (fun h2 => h1 ((tb_m1 h).mpr h2))
    have e : ∀ c, c < 256 → (tb N tx a = nI c ↔ tx a = c) := fun c hc => (tb_eq hc h).trans ⟨fun h => h.2, fun h => ⟨ha, h⟩⟩
    by_cases h2 : tb N tx a = 32
    · rw [if_pos h2, if_pos (Or.inr (Or.inl ((e 32 (by decide)).mp h2)))]
    · rw [if_neg h2]
      by_cases h3 : tb N tx a = 40
      · rw [if_pos h3, if_pos (Or.inr (Or.inr (Or.inl ((e 40 (by decide)).mp h3))))]
      · rw [if_neg h3]
        by_cases h4 : tb N tx a = 41
        · rw [if_pos h4, if_pos (Or.inr (Or.inr (Or.inr ((e 41 (by decide)).mp h4))))]
        · rw [if_neg h4, if_neg]
          rintro (h5 | h5 | h5 | h5)
          · omega
          · exact h2 ((e 32 (by decide)).mpr h5)
          · exact h3 ((e 40 (by decide)).mpr h5)
          · exact h4 ((e 41 (by decide)).mpr h5)
theorem isAt_c (h : txC S N tx) {a k : Nat} (ha : S.1 21 3 = nI a) (haN : a ≤ N) (hk : k < 20) : ∀ (m i : Nat), i + m = (wdN.getD k []).length → G_107_2 (1100 + k) (nI i) S = some (.inl (some (.int (if mtB N tx ((wdN.getD k []).drop i) (a + i) then 1 else 0))), S) := by
  have hN := h.1
  have hb : ∀ i, i < N → tx i < 256 := fun i hi => (h.2.2 i hi).2
  have hl := wd_len k hk
  have e0 : am_tx.getD (1100 + k - 1100) [] = (wdN.getD k []).map nI := by rw [Nat.add_sub_cancel_left]; exact wd_tx k hk
  have e1 : (am_tx.getD (1100 + k - 1100) []).length = (wdN.getD k []).length := by rw [e0, List.length_map]
  have c1 : 1100 ≤ 1100 + k ∧ 1100 + k < 1120 := by omega
  intro m
  induction m with
  | zero =>
    intro i hi
    rw [G_107_2_eq]
    unfold B_107_2
    simp only [az_if, if_pos c1, e1]
    have hil : i = (wdN.getD k []).length := by omega
    rw [if_pos (by rw [hil]; exact Int32.le_refl _), ha, show Int32.ofNat (wdN.getD k []).length = nI i by rw [hil]; rfl, nI_add, byte_c h (by omega), bI_i, ends_c hb, bI_i]
    rw [List.drop_eq_nil_of_le (by omega)]
    unfold mtB
    by_cases he : enW N tx (a + i)
    · rw [if_pos he, if_pos (Or.inr rfl), if_pos (decide_eq_true he)]
    · rw [if_neg he, if_pos (Or.inl rfl), if_neg (by simpa using he)]
  | succ m ih =>
    intro i hi
    rw [G_107_2_eq]
    unfold B_107_2
    simp only [az_if, if_pos c1, e1]
    have hil : i < (wdN.getD k []).length := by omega
    rw [if_neg (show ¬ Int32.ofNat (wdN.getD k []).length ≤ nI i from nI_ge hil (by omega)), ha, nI_add, byte_c h (by omega), bI_i, az_ck_in hil (by omega), nI_clamp (by omega)]
    have hd : (wdN.getD k []).drop i = (wdN.getD k [])[i] :: (wdN.getD k []).drop (i + 1) := List.drop_eq_getElem_cons hil
    have hc : (am_tx.getD (1100 + k - 1100) []).getD i 0 = nI ((wdN.getD k [])[i]) := by
      rw [e0, List.getD_eq_getElem?_getD, List.getElem?_map, List.getElem?_eq_getElem hil]
      rfl
    have hr := wd_rng k hk ((wdN.getD k [])[i]) (List.getElem_mem hil)
    rw [hc, hd]
    by_cases hm : a + i < N ∧ tx (a + i) = (wdN.getD k [])[i]
    · rw [if_pos ((tb_eq hr.1 hb).mpr hm), nI_1, ih (i + 1) (by omega)]
      have hmt : mtB N tx ((wdN.getD k [])[i] :: (wdN.getD k []).drop (i + 1)) (a + i) = mtB N tx ((wdN.getD k []).drop (i + 1)) (a + (i + 1)) := by
        show (decide (a + i < N ∧ tx (a + i) = (wdN.getD k [])[i]) && mtB N tx ((wdN.getD k []).drop (i + 1)) (a + i + 1)) = _
        rw [decide_eq_true hm, Bool.true_and]
        rfl
      rw [hmt]
    · rw [if_neg (fun h9 => hm ((tb_eq hr.1 hb).mp h9))]
      have hmt : mtB N tx ((wdN.getD k [])[i] :: (wdN.getD k []).drop (i + 1)) (a + i) = false := by
        show (decide (a + i < N ∧ tx (a + i) = (wdN.getD k [])[i]) && mtB N tx ((wdN.getD k []).drop (i + 1)) (a + i + 1)) = _
        rw [decide_eq_false hm, Bool.false_and]
      rw [hmt]
      rfl
theorem isAtW_c (h : txC S N tx) {a k : Nat} (ha : S.1 21 3 = nI a) (haN : a ≤ N) (hk : k < 20) : G_107 (1100 + k) S = some (.inl (some (.int (if mtB N tx (wdN.getD k []) a then 1 else 0))), S) := by
  unfold G_107
  have := isAt_c h ha haN hk (wdN.getD k []).length 0 (by omega)
  rw [List.drop_zero, Nat.add_zero] at this
  exact this
/-- the letter that is the whole word here -/
def ltW (N : Nat) (tx : Nat → Nat) (a : Nat) : Prop := a < N ∧ 97 ≤ tx a ∧ tx a ≤ 122 ∧ enW N tx (a + 1)
theorem letter_c (h : txC S N tx) {a : Nat} (ha : S.1 21 3 = nI a) (haN : a ≤ N) : (ltW N tx a → g_108 S = some (.inl (some (.int (nI (tx a - 97)))), S)) ∧ (¬ ltW N tx a → g_108 S = some (.inl (some (.int (-1))), S)) := by
  have hN := h.1
  have hb : ∀ i, i < N → tx i < 256 := fun i hi => (h.2.2 i hi).2
  unfold g_108
  rw [ha, byte_c h (by omega), bI_i]
  by_cases hi : a < N
  · have hta : tb N tx a = nI (tx a) := if_pos hi
    have hba := hb a hi
    rw [hta]
    by_cases h1 : tx a < 97
    · rw [if_pos (show nI (tx a) < 97 from nI_lt (b := 97) h1 (by decide))]
      exact ⟨fun h9 => by have := h9.2.1; omega, fun _ => rfl⟩
    · rw [if_neg (show ¬ nI (tx a) < 97 from nI_nlt (b := 97) (by omega) (by omega))]
      by_cases h2 : 122 < tx a
      · rw [if_pos (show (122 : Int32) < nI (tx a) from nI_lt (a := 122) h2 (by omega))]
        exact ⟨fun h9 => by have := h9.2.2.1; omega, fun _ => rfl⟩
      · rw [if_neg (show ¬ (122 : Int32) < nI (tx a) from nI_nlt (a := 122) (by omega) (by decide)), ha, nI_1, byte_c h (by omega), bI_i, ends_c hb, bI_i]
        by_cases he : enW N tx (a + 1)
        · rw [if_pos he, if_neg (by decide)]
          refine ⟨fun _ => ?_, fun h9 => absurd ⟨hi, by omega, by omega, he⟩ h9⟩
          rw [show (97 : Int32) = nI 97 from rfl, pk_sub (by omega)]
        · rw [if_neg he, if_pos rfl]
          exact ⟨fun h9 => absurd h9.2.2.2 he, fun _ => rfl⟩
  · have hta : tb N tx a = -1 := if_neg hi
    rw [hta, if_pos (by decide)]
    exact ⟨fun h9 => absurd h9.1 hi, fun _ => rfl⟩
end WORD
