/-! the variables in scope, innermost first: letter, variable of the class, variable of the reference, function at home (1000: none) -/
abbrev scE : Type := Nat × Nat × Nat × Nat
def scC (r6 r10 : Nat → Int32) : List scE → Prop
  | [] => True
  | e :: sc => r10 sc.length = nI e.2.1 ∧ r6 e.2.1 = nI e.1 ∧ e.2.1 < 250 ∧ e.1 < 26 ∧ scC r6 r10 sc
def scM (r50 r51 : Nat → Int32) : List scE → Prop
  | [] => True
  | e :: sc => r50 sc.length = nI (97 + e.1) ∧ r51 sc.length = nI e.2.2.1 ∧ e.2.2.1 < 256 ∧ e.1 < 26 ∧ scM r50 r51 sc
def scF (sc : List scE) (l : Nat) : Option scE := sc.find? (fun e => e.1 == l)
theorem scF_cons (e : scE) (sc : List scE) (l : Nat) : scF (e :: sc) l = if e.1 = l then some e else scF sc l := by
  unfold scF
  rw [List.find?_cons]
  by_cases h : e.1 = l
  · simp [h]
  · have : (e.1 == l) = false := by simpa using h
    rw [this]
    simp [h]
theorem scF_mem {sc : List scE} {l : Nat} {e : scE} (h : scF sc l = some e) : e ∈ sc ∧ e.1 = l := by
  unfold scF at h
  exact ⟨List.mem_of_find?_eq_some h, by have := List.find?_some h; simpa using this⟩
theorem scC_mem {r6 r10 : Nat → Int32} : ∀ {sc : List scE}, scC r6 r10 sc → ∀ e ∈ sc, r6 e.2.1 = nI e.1 ∧ e.2.1 < 250 ∧ e.1 < 26
  | [], _, e, h => by cases h
  | e0 :: sc, h, e, he => by
    rcases List.mem_cons.mp he with rfl | he
    · exact ⟨h.2.1, h.2.2.1, h.2.2.2.1⟩
    · exact scC_mem h.2.2.2.2 e he
theorem scM_mem {r50 r51 : Nat → Int32} : ∀ {sc : List scE}, scM r50 r51 sc → ∀ e ∈ sc, e.2.2.1 < 256 ∧ e.1 < 26
  | [], _, e, h => by cases h
  | e0 :: sc, h, e, he => by
    rcases List.mem_cons.mp he with rfl | he
    · exact ⟨h.2.2.1, h.2.2.2.1⟩
    · exact scM_mem h.2.2.2.2 e he
theorem inner_c {S : amS} {l : Nat} (hl : l < 2 ^ 30) : ∀ (sc : List scE), scC (S.1 6) (S.1 10) sc → sc.length ≤ 250 → G_60_7 (nI l) (nI sc.length + (-1)) S = some (.inl (some (.int (match scF sc l with | some e => nI e.2.1 | none => -1))), S)
  | [], _, _ => by
    rw [G_60_7_eq]
    unfold B_60_7
    rw [if_pos (by decide)]
    rfl
  | e :: sc, h, hn => by
    obtain ⟨h1, h2, h3, h4, h5⟩ := h
    have hn : sc.length + 1 ≤ 250 := hn
    rw [G_60_7_eq]
    unfold B_60_7
    rw [List.length_cons, pk_m1, if_neg (nI_pos (by omega))]
    simp only [az_st]
    rw [az_rg_in _ _ _ (show sc.length < 250 by omega) (by decide), h1, az_rg_in _ _ _ h3 (by decide), h2, scF_cons]
    by_cases he : e.1 = l
    · rw [if_pos (by rw [he]), if_pos he]
    · rw [if_neg (fun h9 => he ((nI_eq (by omega) (by omega)).mp h9)), if_neg he]
      exact inner_c hl sc h5 (by omega)
theorem innermost_c {S : amS} {l : Nat} {sc : List scE} (hl : l < 2 ^ 30) (h : scC (S.1 6) (S.1 10) sc) (hn : sc.length ≤ 250) (hc : S.1 5 6 = nI sc.length) : G_60 (nI l) S = some (.inl (some (.int (match scF sc l with | some e => nI e.2.1 | none => -1))), S) := by
  simp only [G_60, az_st]
  rw [hc, Int32.sub_eq_add_neg]
  exact inner_c hl sc h hn
theorem lookL_m {R : amS} {l : Nat} (hl : l < 26) : ∀ (sc : List scE), scM (R.1 50) (R.1 51) sc → sc.length ≤ 250 → G_139_7 (nI (97 + l)) (nI sc.length + (-1)) R = some (.inl (some (.int (match scF sc l with | some e => nI e.2.2.1 | none => -1))), R)
  | [], _, _ => by
    rw [G_139_7_eq]
    unfold B_139_7
    rw [if_pos (by decide)]
    rfl
  | e :: sc, h, hn => by
    obtain ⟨h1, h2, h3, h4, h5⟩ := h
    have hn : sc.length + 1 ≤ 250 := hn
    rw [G_139_7_eq]
    unfold B_139_7
    rw [List.length_cons, pk_m1, if_neg (nI_pos (by omega)), az_ck_in (show sc.length < 256 by omega) (by decide), nI_clamp (by omega), h1, scF_cons]
    by_cases he : e.1 = l
    · rw [if_pos (by rw [he]), az_ck_in (show sc.length < 256 by omega) (by decide), if_pos he, h2]
    · rw [if_neg (fun h9 => he (by have := (nI_eq (by omega) (by omega)).mp h9; omega)), if_neg he]
      exact lookL_m hl sc h5 (by omega)
theorem lookUp_m {R : amS} {l : Nat} {sc : List scE} (hl : l < 26) (h : scM (R.1 50) (R.1 51) sc) (hn : sc.length ≤ 250) (hc : R.1 34 26 = nI sc.length) : G_139 (nI (97 + l)) R = some (.inl (some (.int (match scF sc l with | some e => nI e.2.2.1 | none => -1))), R) := by
  simp only [G_139, az_st]
  rw [hc, Int32.sub_eq_add_neg]
  exact lookL_m hl sc h hn
