/-! links that are reached, and their marks -/
section SEE
variable {R : amS}
/-- the chain of links from k is l -/
def chn (r58 : Nat → Int32) : Int32 → List Nat → Prop
  | k, [] => k = -1
  | k, n :: l => k = nI n ∧ n < 120000 ∧ chn r58 (r58 n) l
theorem chn_keep {r r' : Nat → Int32} : ∀ {l : List Nat} {k : Int32}, chn r k l → (∀ n ∈ l, r' n = r n) → chn r' k l
  | [], _, h, _ => h
  | n :: l, k, h, hk => ⟨h.1, h.2.1, by rw [hk n List.mem_cons_self]; exact chn_keep h.2.2 (fun m hm => hk m (List.mem_cons_of_mem _ hm))⟩
theorem chn_det {r : Nat → Int32} : ∀ {l l' : List Nat} {k : Int32}, chn r k l → chn r k l' → l = l'
  | [], [], _, _, _ => rfl
  | [], n :: l', k, h, h' => by
    have h : k = -1 := h
    have := h'.1
    rw [h] at this
    have h3 : (-1 : Int32).toInt = (nI n).toInt := by rw [this]
    rw [nI_toInt (by have := h'.2.1; omega)] at h3
    have h4 : (-1 : Int32).toInt = -1 := by decide
    omega
  | n :: l, [], k, h, h' => by
    have h' : k = -1 := h'
    have := h.1
    rw [h'] at this
    have h3 : (-1 : Int32).toInt = (nI n).toInt := by rw [this]
    rw [nI_toInt (by have := h.2.1; omega)] at h3
    have h4 : (-1 : Int32).toInt = -1 := by decide
    omega
  | n :: l, m :: l', k, h, h' => by
    have e : n = m := (nI_eq (by have := h.2.1; omega) (by have := h'.2.1; omega)).mp (h.1.symm.trans h'.1)
    subst e
    rw [chn_det h.2.2 h'.2.2]
theorem chn_cut {r : Nat → Int32} : ∀ {l : List Nat} {k : Int32} {n : Nat}, chn r k l → n ∈ l → ∃ suf, chn r (nI n) (n :: suf) ∧ suf.length < l.length ∧ ∀ y ∈ suf, y ∈ l
  | [], _, _, _, hn => by cases hn
  | m :: l, k, n, h, hn => by
    rcases List.mem_cons.mp hn with rfl | hn
    · exact ⟨l, ⟨rfl, h.2.1, h.2.2⟩, by simp, fun y hy => List.mem_cons_of_mem _ hy⟩
    · obtain ⟨suf, q1, q2, q3⟩ := chn_cut h.2.2 hn
      exact ⟨suf, q1, by simp; omega, fun y hy => List.mem_cons_of_mem _ (q3 y hy)⟩
theorem chn_nd {r : Nat → Int32} {l : List Nat} {k : Int32} {n : Nat} (h : chn r k (n :: l)) : n ∉ l := by
  intro hn
  obtain ⟨suf, q1, q2, -⟩ := chn_cut h.2.2 hn
  have := chn_det q1 (show chn r (nI n) (n :: l) from ⟨rfl, h.2.1, h.2.2⟩)
  injection this with _ e
  rw [e] at q2
  omega
/-- marks on a chain go on to its end -/
def sfx (r59 : Nat → Int32) : List Nat → Prop
  | [] => True
  | n :: l => (r59 n ≠ 0 → ∀ y ∈ l, r59 y ≠ 0) ∧ sfx r59 l
theorem sfx_cong {r r' : Nat → Int32} : ∀ {l : List Nat}, sfx r l → (∀ n ∈ l, r' n = r n) → sfx r' l
  | [], _, _ => trivial
  | n :: l, h, hk => ⟨fun h0 y hy => by rw [hk y (List.mem_cons_of_mem _ hy)]; exact h.1 (by rw [← hk n List.mem_cons_self]; exact h0) y hy, sfx_cong h.2 (fun m hm => hk m (List.mem_cons_of_mem _ hm))⟩
/-- a mark on a link, once set, is set on all links behind it -/
def clo (r58 r59 : Nat → Int32) : Prop := ∀ n l, r59 n ≠ 0 → chn r58 (nI n) (n :: l) → ∀ m ∈ l, r59 m ≠ 0
theorem sfx_of {r58 r59 : Nat → Int32} (hc : clo r58 r59) : ∀ {l : List Nat} {k : Int32}, chn r58 k l → sfx r59 l
  | [], _, _ => trivial
  | n :: l, k, h => ⟨fun h0 y hy => hc n l h0 ⟨rfl, h.2.1, h.2.2⟩ y hy, sfx_of hc h.2.2⟩
/-- see marks a chain -/
theorem see_l : ∀ (l : List Nat) (k : Int32) (R : amS), chn (R.1 58) k l → (∀ n, n < 120000 → R.1 59 n = 0 ∨ R.1 59 n = 1) → ∃ R', G_160_2 k R = some (.inl none, R') ∧ (∀ a, a ≠ 59 → R'.1 a = R.1 a) ∧ R'.2 = R.2 ∧ (∀ n, n < 120000 → R'.1 59 n = 0 ∨ R'.1 59 n = 1) ∧ (∀ n, R'.1 59 n ≠ 0 → R.1 59 n ≠ 0 ∨ n ∈ l) ∧ (∀ n, R.1 59 n ≠ 0 → R'.1 59 n ≠ 0) ∧ (sfx (R.1 59) l → ∀ n ∈ l, R'.1 59 n ≠ 0)
  | [], k, R, h, h1 => by
    have h : k = -1 := h
    refine ⟨R, ?_, fun _ _ => rfl, rfl, h1, fun _ h => Or.inl h, fun _ h => h, fun _ n hn => by cases hn⟩
    rw [G_160_2_eq]
    unfold B_160_2
    rw [h, if_pos (by decide)]
  | n :: l, k, R, h, h1 => by
    have hn := h.2.1
    by_cases h0 : R.1 59 n = 0
    · obtain ⟨R', q1, q2, q3, q4, q5, q6, q7⟩ := see_l l (R.1 58 n) (sI R 59 n 1) h.2.2 (fun m hm2 => by
        rw [sI_get]
        by_cases hm : m = n
        · rw [if_pos ⟨rfl, hm⟩]; exact Or.inr rfl
        · rw [if_neg (fun h => hm h.2)]; exact h1 m hm2)
      have s59 : ∀ m, (sI R 59 n 1).1 59 m = if m = n then 1 else R.1 59 m := fun m => by
        rw [sI_get]
        by_cases hm : m = n
        · rw [if_pos ⟨rfl, hm⟩, if_pos hm]
        · rw [if_neg (fun h => hm h.2), if_neg hm]
      refine ⟨R', ?_, fun a ha => ?_, q3, q4, fun m hm => ?_, fun m hm => ?_, fun hc m hm => ?_⟩
      · rw [G_160_2_eq]
        unfold B_160_2
        rw [h.1, if_neg (nI_pos (by omega)), az_ck_in hn (by decide), nI_clamp (by omega), if_pos h0, az_ck_in hn (by decide)]
        simp only [az_st]
        rw [az_ck_in hn (by decide)]
        exact q1
      · rw [q2 a ha, sI_row, if_neg ha]
      · rcases q5 m hm with h9 | h9
        · rw [s59] at h9
          by_cases hmn : m = n
          · exact Or.inr (by rw [hmn]; exact List.mem_cons_self)
          · rw [if_neg hmn] at h9; exact Or.inl h9
        · exact Or.inr (List.mem_cons_of_mem _ h9)
      · apply q6
        rw [s59]
        by_cases hmn : m = n
        · rw [if_pos hmn]; decide
        · rw [if_neg hmn]; exact hm
      · rcases List.mem_cons.mp hm with rfl | hm
        · apply q6
          rw [s59, if_pos rfl]; decide
        · refine q7 (sfx_cong hc.2 (fun y hy => ?_)) m hm
          rw [s59, if_neg (show ¬ y = n from fun h9 => chn_nd h (by rw [← h9]; exact hy))]
    · refine ⟨R, ?_, fun _ _ => rfl, rfl, h1, fun _ h => Or.inl h, fun _ h => h, fun hc m hm => ?_⟩
      · rw [G_160_2_eq]
        unfold B_160_2
        rw [h.1, if_neg (nI_pos (by omega)), az_ck_in hn (by decide), nI_clamp (by omega), if_neg h0]
      · rcases List.mem_cons.mp hm with rfl | hm
        · exact h0
        · exact hc.1 h0 m hm
/-- marks of a set of chains: exactly their links -/
def mkd (R : amS) (A : Nat → Prop) : Prop := (∀ n, n < 120000 → R.1 59 n = 0 ∨ R.1 59 n = 1) ∧ (∀ n, n < 120000 → (R.1 59 n ≠ 0 ↔ A n)) ∧ clo (R.1 58) (R.1 59)
theorem see_m2 {k : Int32} {l : List Nat} {A : Nat → Prop} (h : chn (R.1 58) k l) (hm : mkd R A) : ∃ R', G_160 k R = some (.inl none, R') ∧ (∀ a, a ≠ 59 → R'.1 a = R.1 a) ∧ R'.2 = R.2 ∧ mkd R' (fun n => A n ∨ n ∈ l) := by
  obtain ⟨R', q1, q2, q3, q4, q5, q6, q7⟩ := see_l l k R h hm.1
  have q7 := q7 (sfx_of hm.2.2 h)
  have iff : ∀ n, n < 120000 → (R'.1 59 n ≠ 0 ↔ (A n ∨ n ∈ l)) := fun n hn => ⟨fun h9 => by
    rcases q5 n h9 with h8 | h8
    · exact Or.inl ((hm.2.1 n hn).mp h8)
    · exact Or.inr h8, fun h9 => by
    rcases h9 with h9 | h9
    · exact q6 n ((hm.2.1 n hn).mpr h9)
    · exact q7 n h9⟩
  refine ⟨R', q1, q2, q3, q4, iff, fun n lx h0 hc m hmx => ?_⟩
  rw [q2 58 (by decide)] at hc
  rcases (iff n hc.2.1).mp h0 with h9 | h9
  · exact q6 m (hm.2.2 n lx ((hm.2.1 n hc.2.1).mpr h9) hc m hmx)
  · obtain ⟨suf, z1, z2, z3⟩ := chn_cut h h9
    have := chn_det hc z1
    injection this with _ e
    rw [e] at hmx
    exact q7 m (z3 m hmx)
end SEE
