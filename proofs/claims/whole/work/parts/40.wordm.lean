/-! the reference's words -/
/-- the reference has read a word: from a to e -/
def wrM (R : amS) (a e : Nat) : amS := sI (sI (sI R 34 4 (nI e)) 34 27 (nI a)) 34 28 (nI e)
section WORDM
variable {N : Nat} {tx : Nat → Nat} {R : amS}
theorem wordL_m : ∀ (f : Nat) (R : amS) (a : Nat), txM R N tx → R.1 34 4 = nI a → a < 2 ^ 30 → N - a ≤ f → G_134_13 R = some (.inl none, sI (sI R 34 4 (nI (we N tx a))) 34 28 (nI (we N tx a))) := by
  have stop : ∀ (R : amS) (a : Nat), R.1 34 4 = nI a → G_134_79 R = some (.inl none, sI (sI R 34 4 (nI a)) 34 28 (nI a)) := by
    intro R a ha
    simp only [G_134_79, az_st]
    rw [ha, sI_self ha]
  intro f
  induction f with
  | zero =>
    intro R a h ha h30 hf
    rw [we_stop (Or.inl (by omega)), G_134_13_eq]
    unfold B_134_13
    rw [h.2.1, ha, if_pos (nI_le (by omega) (by omega))]
    exact stop R a ha
  | succ f ih =>
    intro R a h ha h30 hf
    have hN' := h.1
    rw [G_134_13_eq]
    unfold B_134_13
    rw [h.2.1, ha]
    by_cases hN : a < N
    · have hb := (h.2.2 a hN).2
      rw [if_neg (nI_ge hN (by omega))]
      simp only [az_ck_in (show a < 250 by omega) (show 250 < 2 ^ 31 by decide)]
      rw [nI_clamp (by omega), (h.2.2 a hN).1]
      have e : ∀ c, c < 256 → (nI (tx a) = nI c ↔ tx a = c) := fun c hc => nI_eq (by omega) (by omega)
      by_cases h32 : tx a = 32
      · rw [if_pos (show nI (tx a) = 32 from (e 32 (by decide)).mpr h32), we_stop (Or.inr (Or.inl h32))]
        exact stop R a ha
      rw [if_neg (show ¬ nI (tx a) = 32 from fun h9 => h32 ((e 32 (by decide)).mp h9))]
      by_cases h40 : tx a = 40
      · rw [if_pos (show nI (tx a) = 40 from (e 40 (by decide)).mpr h40), we_stop (Or.inr (Or.inr (Or.inl h40)))]
        exact stop R a ha
      rw [if_neg (show ¬ nI (tx a) = 40 from fun h9 => h40 ((e 40 (by decide)).mp h9))]
      by_cases h41 : tx a = 41
      · rw [if_pos (show nI (tx a) = 41 from (e 41 (by decide)).mpr h41), we_stop (Or.inr (Or.inr (Or.inr h41)))]
        exact stop R a ha
      rw [if_neg (show ¬ nI (tx a) = 41 from fun h9 => h41 ((e 41 (by decide)).mp h9))]
      simp only [az_st]
      rw [nI_1, ih (sI R 34 4 (nI (a + 1))) (a + 1) (txM_at h 4 (by decide) _) (sI_eq _ _ _ _) (by omega) (by omega), sI_sI, we_step (show ¬ enW N tx a by unfold enW; omega)]
    · rw [if_pos (nI_le (by omega) (by omega)), we_stop (Or.inl (by omega))]
      exact stop R a ha
theorem word_m (h : txM R N tx) {a : Nat} (ha : R.1 34 4 = nI a) (haN : a < 2 ^ 29) : G_134 R = some (.inl none, wrM R (sk N tx a) (we N tx (sk N tx a))) := by
  have hN := h.1
  have hs : sk N tx a < 2 ^ 30 := by
    by_cases h1 : a ≤ N
    · have := sk_le (tx := tx) h1; omega
    · rw [sk_stop (fun h2 => h1 (by omega))]; omega
  unfold G_134
  rw [see_m (N - a) R a h ha (by omega) (Nat.le_refl _), bI_i]
  simp only [az_st]
  rw [sI_eq, wordL_m (N - sk N tx a) _ (sk N tx a) (txM_at (txM_at h 4 (by decide) _) 27 (by decide) _) (by rw [sI_nk _ (by decide), sI_eq]) hs (Nat.le_refl _)]
  unfold wrM
  rw [sI_comm (sI R 34 4 (nI (sk N tx a))) (a := 34) (k := 27) (b := 34) (j := 4) (by decide), sI_sI]
/-- what the reference has of its word -/
def wdM (R : amS) (a e : Nat) : Prop := R.1 34 27 = nI a ∧ R.1 34 28 = nI e
theorem wrM_wd (R : amS) (a e : Nat) : wdM (wrM R a e) a e := by
  unfold wdM wrM
  exact ⟨by rw [sI_nk _ (by decide), sI_eq], by rw [sI_eq]⟩
theorem wrM_tx (h : txM R N tx) (a e : Nat) : txM (wrM R a e) N tx := txM_at (txM_at (txM_at h 4 (by decide) _) 27 (by decide) _) 28 (by decide) _
theorem is1_m (h : txM R N tx) {a : Nat} (hw : wdM R a (we N tx a)) (haN : a ≤ N) {c1 : Nat} (h1 : c1 < 256 ∧ c1 ≠ 0 ∧ c1 ≠ 32 ∧ c1 ≠ 40 ∧ c1 ≠ 41) : g_135 (nI c1) 0 0 0 0 0 R = some (.inl (some (.int (if mtB N tx [c1] a then 1 else 0))), R) := by
  have hN := h.1
  have hge := (we_prop (tx := tx) (N - a) a (Nat.le_refl _)).1
  have hle := (we_prop (tx := tx) (N - a) a (Nat.le_refl _)).2.1 haN
  have hin : ∀ c ∈ [c1], c < 256 ∧ c ≠ 32 ∧ c ≠ 40 ∧ c ≠ 41 := by
    intro c hc
    simp only [List.mem_cons, List.not_mem_nil, or_false] at hc
    rcases hc with rfl
    all_goals omega
  have hmt := mt_iff (N := N) (tx := tx) (w := [c1]) hin a
  have e0 : ¬ nI c1 = 0 := nI_ne0 (by omega) (by omega)
  have hsel : g_135 (nI c1) 0 0 0 0 0 R = g_135_45 (nI c1) 0 0 0 0 0 1 R := by
    unfold g_135
    simp only [if_neg e0, if_pos]
  rw [hsel]
  unfold g_135_45
  rw [hw.1, hw.2, pk_sub hge]
  by_cases hl : we N tx a = a + 1
  · rw [if_pos (show nI (we N tx a - a) = 1 by rw [hl, Nat.add_sub_cancel_left]; rfl)]
    have hne : ∀ i, i < 1 → a + i < N := fun i hi => Nat.lt_of_not_le (fun h9 => (we_prop (tx := tx) (N - a) a (Nat.le_refl _)).2.2.2 (a + i) (by omega) (by omega) (Or.inl h9))
    have hr : ∀ i, i < 1 → R.1 35 (a + i) = nI (tx (a + i)) ∧ tx (a + i) < 256 := fun i hi => h.2.2 (a + i) (hne i hi)
    have b0 : a < 250 := by have := hne 0 (by decide); omega
    have d0 : R.1 35 (a) = nI (tx (a)) ∧ tx (a) < 256 := hr 0 (by decide)
    have r0 : ∀ {β : Type} (X : Option β), az_ck (nI a) 250 X = X := fun X => by
      exact az_ck_in b0 (by decide) X
    have v0 : R.1 35 (nI a).toNatClampNeg = nI (tx (a)) := by
      rw [nI_clamp (by omega)]
      exact d0.1
    have q0 : (nI (tx (a)) = nI c1) ↔ tx (a) = c1 := nI_eq (by omega) (by omega)
    have hmt2 : mtB N tx [c1] a = true ↔ (tx (a) = c1) := by
      rw [hmt]
      constructor
      · rintro ⟨-, h9⟩
        exact h9 0 (by simp)
      · intro gg
        refine ⟨hl, fun i hi => ?_⟩
        match i, hi with
        | 0, _ => exact gg
    simp only [g_135_97, g_135_118, g_135_122, g_135_123, g_135_152, g_135_174, hw.1, r0, v0, q0]
    by_cases p0 : tx (a) = c1
    · skip
      rw [show mtB N tx [c1] a = true from hmt2.mpr p0]
      simp [p0]
    · have hf : mtB N tx [c1] a = false := by
        cases hb : mtB N tx [c1] a with
        | false => rfl
        | true =>
          have hz := hmt2.mp hb
          exact absurd (hz) p0
      rw [hf]
      simp [p0]
  · rw [if_neg (show ¬ nI (we N tx a - a) = 1 from fun h9 => hl (by have := (nI_eq (by omega) (by decide)).mp (show nI (we N tx a - a) = nI 1 from h9); omega))]
    have hf : mtB N tx [c1] a = false := by
      cases hb : mtB N tx [c1] a with
      | false => rfl
      | true => exact absurd (hmt.mp hb).1 hl
    rw [hf]
    rfl
theorem is2_m (h : txM R N tx) {a : Nat} (hw : wdM R a (we N tx a)) (haN : a ≤ N) {c1 c2 : Nat} (h1 : c1 < 256 ∧ c1 ≠ 0 ∧ c1 ≠ 32 ∧ c1 ≠ 40 ∧ c1 ≠ 41) (h2 : c2 < 256 ∧ c2 ≠ 0 ∧ c2 ≠ 32 ∧ c2 ≠ 40 ∧ c2 ≠ 41) : g_135 (nI c1) (nI c2) 0 0 0 0 R = some (.inl (some (.int (if mtB N tx [c1, c2] a then 1 else 0))), R) := by
  have hN := h.1
  have hge := (we_prop (tx := tx) (N - a) a (Nat.le_refl _)).1
  have hle := (we_prop (tx := tx) (N - a) a (Nat.le_refl _)).2.1 haN
  have hin : ∀ c ∈ [c1, c2], c < 256 ∧ c ≠ 32 ∧ c ≠ 40 ∧ c ≠ 41 := by
    intro c hc
    simp only [List.mem_cons, List.not_mem_nil, or_false] at hc
    rcases hc with rfl | rfl
    all_goals omega
  have hmt := mt_iff (N := N) (tx := tx) (w := [c1, c2]) hin a
  have e0 : ¬ nI c2 = 0 := nI_ne0 (by omega) (by omega)
  have hsel : g_135 (nI c1) (nI c2) 0 0 0 0 R = g_135_45 (nI c1) (nI c2) 0 0 0 0 2 R := by
    unfold g_135
    simp only [if_neg e0, if_pos]
  rw [hsel]
  unfold g_135_45
  rw [hw.1, hw.2, pk_sub hge]
  by_cases hl : we N tx a = a + 2
  · rw [if_pos (show nI (we N tx a - a) = 2 by rw [hl, Nat.add_sub_cancel_left]; rfl)]
    have hne : ∀ i, i < 2 → a + i < N := fun i hi => Nat.lt_of_not_le (fun h9 => (we_prop (tx := tx) (N - a) a (Nat.le_refl _)).2.2.2 (a + i) (by omega) (by omega) (Or.inl h9))
    have hr : ∀ i, i < 2 → R.1 35 (a + i) = nI (tx (a + i)) ∧ tx (a + i) < 256 := fun i hi => h.2.2 (a + i) (hne i hi)
    have b0 : a < 250 := by have := hne 0 (by decide); omega
    have d0 : R.1 35 (a) = nI (tx (a)) ∧ tx (a) < 256 := hr 0 (by decide)
    have r0 : ∀ {β : Type} (X : Option β), az_ck (nI a) 250 X = X := fun X => by
      exact az_ck_in b0 (by decide) X
    have v0 : R.1 35 (nI a).toNatClampNeg = nI (tx (a)) := by
      rw [nI_clamp (by omega)]
      exact d0.1
    have q0 : (nI (tx (a)) = nI c1) ↔ tx (a) = c1 := nI_eq (by omega) (by omega)
    have b1 : a + 1 < 250 := by have := hne 1 (by decide); omega
    have d1 : R.1 35 (a + 1) = nI (tx (a + 1)) ∧ tx (a + 1) < 256 := hr 1 (by decide)
    have r1 : ∀ {β : Type} (X : Option β), az_ck (nI a + 1) 250 X = X := fun X => by
      rw [show (1 : Int32) = nI 1 from rfl, nI_add]; exact az_ck_in b1 (by decide) X
    have v1 : R.1 35 (nI a + 1).toNatClampNeg = nI (tx (a + 1)) := by
      rw [show (1 : Int32) = nI 1 from rfl, nI_add]; rw [nI_clamp (by omega)]
      exact d1.1
    have q1 : (nI (tx (a + 1)) = nI c2) ↔ tx (a + 1) = c2 := nI_eq (by omega) (by omega)
    have hmt2 : mtB N tx [c1, c2] a = true ↔ (tx (a) = c1 ∧ tx (a + 1) = c2) := by
      rw [hmt]
      constructor
      · rintro ⟨-, h9⟩
        exact ⟨h9 0 (by simp), h9 1 (by simp)⟩
      · intro gg
        refine ⟨hl, fun i hi => ?_⟩
        match i, hi with
        | 0, _ => exact gg.1
        | 1, _ => exact gg.2
    simp only [g_135_97, g_135_118, g_135_122, g_135_123, g_135_152, g_135_174, hw.1, r0, r1, v0, v1, q0, q1]
    by_cases p0 : tx (a) = c1
    · skip
      by_cases p1 : tx (a + 1) = c2
      · skip
        rw [show mtB N tx [c1, c2] a = true from hmt2.mpr ⟨p0, p1⟩]
        simp [p0, p1]
      · have hf : mtB N tx [c1, c2] a = false := by
          cases hb : mtB N tx [c1, c2] a with
          | false => rfl
          | true =>
            have hz := hmt2.mp hb
            exact absurd (hz.2) p1
        rw [hf]
        simp [p0, p1]
    · have hf : mtB N tx [c1, c2] a = false := by
        cases hb : mtB N tx [c1, c2] a with
        | false => rfl
        | true =>
          have hz := hmt2.mp hb
          exact absurd (hz.1) p0
      rw [hf]
      simp [p0]
  · rw [if_neg (show ¬ nI (we N tx a - a) = 2 from fun h9 => hl (by have := (nI_eq (by omega) (by decide)).mp (show nI (we N tx a - a) = nI 2 from h9); omega))]
    have hf : mtB N tx [c1, c2] a = false := by
      cases hb : mtB N tx [c1, c2] a with
      | false => rfl
      | true => exact absurd (hmt.mp hb).1 hl
    rw [hf]
    rfl
theorem is3_m (h : txM R N tx) {a : Nat} (hw : wdM R a (we N tx a)) (haN : a ≤ N) {c1 c2 c3 : Nat} (h1 : c1 < 256 ∧ c1 ≠ 0 ∧ c1 ≠ 32 ∧ c1 ≠ 40 ∧ c1 ≠ 41) (h2 : c2 < 256 ∧ c2 ≠ 0 ∧ c2 ≠ 32 ∧ c2 ≠ 40 ∧ c2 ≠ 41) (h3 : c3 < 256 ∧ c3 ≠ 0 ∧ c3 ≠ 32 ∧ c3 ≠ 40 ∧ c3 ≠ 41) : g_135 (nI c1) (nI c2) (nI c3) 0 0 0 R = some (.inl (some (.int (if mtB N tx [c1, c2, c3] a then 1 else 0))), R) := by
  have hN := h.1
  have hge := (we_prop (tx := tx) (N - a) a (Nat.le_refl _)).1
  have hle := (we_prop (tx := tx) (N - a) a (Nat.le_refl _)).2.1 haN
  have hin : ∀ c ∈ [c1, c2, c3], c < 256 ∧ c ≠ 32 ∧ c ≠ 40 ∧ c ≠ 41 := by
    intro c hc
    simp only [List.mem_cons, List.not_mem_nil, or_false] at hc
    rcases hc with rfl | rfl | rfl
    all_goals omega
  have hmt := mt_iff (N := N) (tx := tx) (w := [c1, c2, c3]) hin a
  have e0 : ¬ nI c3 = 0 := nI_ne0 (by omega) (by omega)
  have hsel : g_135 (nI c1) (nI c2) (nI c3) 0 0 0 R = g_135_45 (nI c1) (nI c2) (nI c3) 0 0 0 3 R := by
    unfold g_135
    simp only [if_neg e0, if_pos]
  rw [hsel]
  unfold g_135_45
  rw [hw.1, hw.2, pk_sub hge]
  by_cases hl : we N tx a = a + 3
  · rw [if_pos (show nI (we N tx a - a) = 3 by rw [hl, Nat.add_sub_cancel_left]; rfl)]
    have hne : ∀ i, i < 3 → a + i < N := fun i hi => Nat.lt_of_not_le (fun h9 => (we_prop (tx := tx) (N - a) a (Nat.le_refl _)).2.2.2 (a + i) (by omega) (by omega) (Or.inl h9))
    have hr : ∀ i, i < 3 → R.1 35 (a + i) = nI (tx (a + i)) ∧ tx (a + i) < 256 := fun i hi => h.2.2 (a + i) (hne i hi)
    have b0 : a < 250 := by have := hne 0 (by decide); omega
    have d0 : R.1 35 (a) = nI (tx (a)) ∧ tx (a) < 256 := hr 0 (by decide)
    have r0 : ∀ {β : Type} (X : Option β), az_ck (nI a) 250 X = X := fun X => by
      exact az_ck_in b0 (by decide) X
    have v0 : R.1 35 (nI a).toNatClampNeg = nI (tx (a)) := by
      rw [nI_clamp (by omega)]
      exact d0.1
    have q0 : (nI (tx (a)) = nI c1) ↔ tx (a) = c1 := nI_eq (by omega) (by omega)
    have b1 : a + 1 < 250 := by have := hne 1 (by decide); omega
    have d1 : R.1 35 (a + 1) = nI (tx (a + 1)) ∧ tx (a + 1) < 256 := hr 1 (by decide)
    have r1 : ∀ {β : Type} (X : Option β), az_ck (nI a + 1) 250 X = X := fun X => by
      rw [show (1 : Int32) = nI 1 from rfl, nI_add]; exact az_ck_in b1 (by decide) X
    have v1 : R.1 35 (nI a + 1).toNatClampNeg = nI (tx (a + 1)) := by
      rw [show (1 : Int32) = nI 1 from rfl, nI_add]; rw [nI_clamp (by omega)]
      exact d1.1
    have q1 : (nI (tx (a + 1)) = nI c2) ↔ tx (a + 1) = c2 := nI_eq (by omega) (by omega)
    have b2 : a + 2 < 250 := by have := hne 2 (by decide); omega
    have d2 : R.1 35 (a + 2) = nI (tx (a + 2)) ∧ tx (a + 2) < 256 := hr 2 (by decide)
    have r2 : ∀ {β : Type} (X : Option β), az_ck (nI a + 2) 250 X = X := fun X => by
      rw [show (2 : Int32) = nI 2 from rfl, nI_add]; exact az_ck_in b2 (by decide) X
    have v2 : R.1 35 (nI a + 2).toNatClampNeg = nI (tx (a + 2)) := by
      rw [show (2 : Int32) = nI 2 from rfl, nI_add]; rw [nI_clamp (by omega)]
      exact d2.1
    have q2 : (nI (tx (a + 2)) = nI c3) ↔ tx (a + 2) = c3 := nI_eq (by omega) (by omega)
    have hmt2 : mtB N tx [c1, c2, c3] a = true ↔ (tx (a) = c1 ∧ tx (a + 1) = c2 ∧ tx (a + 2) = c3) := by
      rw [hmt]
      constructor
      · rintro ⟨-, h9⟩
        exact ⟨h9 0 (by simp), h9 1 (by simp), h9 2 (by simp)⟩
      · intro gg
        refine ⟨hl, fun i hi => ?_⟩
        match i, hi with
        | 0, _ => exact gg.1
        | 1, _ => exact gg.2.1
        | 2, _ => exact gg.2.2
    simp only [g_135_97, g_135_118, g_135_122, g_135_123, g_135_152, g_135_174, hw.1, r0, r1, r2, v0, v1, v2, q0, q1, q2]
    by_cases p0 : tx (a) = c1
    · skip
      by_cases p1 : tx (a + 1) = c2
      · skip
        by_cases p2 : tx (a + 2) = c3
        · skip
          rw [show mtB N tx [c1, c2, c3] a = true from hmt2.mpr ⟨p0, p1, p2⟩]
          simp [p0, p1, p2]
        · have hf : mtB N tx [c1, c2, c3] a = false := by
            cases hb : mtB N tx [c1, c2, c3] a with
            | false => rfl
            | true =>
              have hz := hmt2.mp hb
              exact absurd (hz.2.2) p2
          rw [hf]
          simp [p0, p1, p2]
      · have hf : mtB N tx [c1, c2, c3] a = false := by
          cases hb : mtB N tx [c1, c2, c3] a with
          | false => rfl
          | true =>
            have hz := hmt2.mp hb
            exact absurd (hz.2.1) p1
        rw [hf]
        simp [p0, p1]
    · have hf : mtB N tx [c1, c2, c3] a = false := by
        cases hb : mtB N tx [c1, c2, c3] a with
        | false => rfl
        | true =>
          have hz := hmt2.mp hb
          exact absurd (hz.1) p0
      rw [hf]
      simp [p0]
  · rw [if_neg (show ¬ nI (we N tx a - a) = 3 from fun h9 => hl (by have := (nI_eq (by omega) (by decide)).mp (show nI (we N tx a - a) = nI 3 from h9); omega))]
    have hf : mtB N tx [c1, c2, c3] a = false := by
      cases hb : mtB N tx [c1, c2, c3] a with
      | false => rfl
      | true => exact absurd (hmt.mp hb).1 hl
    rw [hf]
    rfl
theorem is4_m (h : txM R N tx) {a : Nat} (hw : wdM R a (we N tx a)) (haN : a ≤ N) {c1 c2 c3 c4 : Nat} (h1 : c1 < 256 ∧ c1 ≠ 0 ∧ c1 ≠ 32 ∧ c1 ≠ 40 ∧ c1 ≠ 41) (h2 : c2 < 256 ∧ c2 ≠ 0 ∧ c2 ≠ 32 ∧ c2 ≠ 40 ∧ c2 ≠ 41) (h3 : c3 < 256 ∧ c3 ≠ 0 ∧ c3 ≠ 32 ∧ c3 ≠ 40 ∧ c3 ≠ 41) (h4 : c4 < 256 ∧ c4 ≠ 0 ∧ c4 ≠ 32 ∧ c4 ≠ 40 ∧ c4 ≠ 41) : g_135 (nI c1) (nI c2) (nI c3) (nI c4) 0 0 R = some (.inl (some (.int (if mtB N tx [c1, c2, c3, c4] a then 1 else 0))), R) := by
  have hN := h.1
  have hge := (we_prop (tx := tx) (N - a) a (Nat.le_refl _)).1
  have hle := (we_prop (tx := tx) (N - a) a (Nat.le_refl _)).2.1 haN
  have hin : ∀ c ∈ [c1, c2, c3, c4], c < 256 ∧ c ≠ 32 ∧ c ≠ 40 ∧ c ≠ 41 := by
    intro c hc
    simp only [List.mem_cons, List.not_mem_nil, or_false] at hc
    rcases hc with rfl | rfl | rfl | rfl
    all_goals omega
  have hmt := mt_iff (N := N) (tx := tx) (w := [c1, c2, c3, c4]) hin a
  have e0 : ¬ nI c4 = 0 := nI_ne0 (by omega) (by omega)
  have hsel : g_135 (nI c1) (nI c2) (nI c3) (nI c4) 0 0 R = g_135_45 (nI c1) (nI c2) (nI c3) (nI c4) 0 0 4 R := by
    unfold g_135
    simp only [if_neg e0, if_pos]
  rw [hsel]
  unfold g_135_45
  rw [hw.1, hw.2, pk_sub hge]
  by_cases hl : we N tx a = a + 4
  · rw [if_pos (show nI (we N tx a - a) = 4 by rw [hl, Nat.add_sub_cancel_left]; rfl)]
    have hne : ∀ i, i < 4 → a + i < N := fun i hi => Nat.lt_of_not_le (fun h9 => (we_prop (tx := tx) (N - a) a (Nat.le_refl _)).2.2.2 (a + i) (by omega) (by omega) (Or.inl h9))
    have hr : ∀ i, i < 4 → R.1 35 (a + i) = nI (tx (a + i)) ∧ tx (a + i) < 256 := fun i hi => h.2.2 (a + i) (hne i hi)
    have b0 : a < 250 := by have := hne 0 (by decide); omega
    have d0 : R.1 35 (a) = nI (tx (a)) ∧ tx (a) < 256 := hr 0 (by decide)
    have r0 : ∀ {β : Type} (X : Option β), az_ck (nI a) 250 X = X := fun X => by
      exact az_ck_in b0 (by decide) X
    have v0 : R.1 35 (nI a).toNatClampNeg = nI (tx (a)) := by
      rw [nI_clamp (by omega)]
      exact d0.1
    have q0 : (nI (tx (a)) = nI c1) ↔ tx (a) = c1 := nI_eq (by omega) (by omega)
    have b1 : a + 1 < 250 := by have := hne 1 (by decide); omega
    have d1 : R.1 35 (a + 1) = nI (tx (a + 1)) ∧ tx (a + 1) < 256 := hr 1 (by decide)
    have r1 : ∀ {β : Type} (X : Option β), az_ck (nI a + 1) 250 X = X := fun X => by
      rw [show (1 : Int32) = nI 1 from rfl, nI_add]; exact az_ck_in b1 (by decide) X
    have v1 : R.1 35 (nI a + 1).toNatClampNeg = nI (tx (a + 1)) := by
      rw [show (1 : Int32) = nI 1 from rfl, nI_add]; rw [nI_clamp (by omega)]
      exact d1.1
    have q1 : (nI (tx (a + 1)) = nI c2) ↔ tx (a + 1) = c2 := nI_eq (by omega) (by omega)
    have b2 : a + 2 < 250 := by have := hne 2 (by decide); omega
    have d2 : R.1 35 (a + 2) = nI (tx (a + 2)) ∧ tx (a + 2) < 256 := hr 2 (by decide)
    have r2 : ∀ {β : Type} (X : Option β), az_ck (nI a + 2) 250 X = X := fun X => by
      rw [show (2 : Int32) = nI 2 from rfl, nI_add]; exact az_ck_in b2 (by decide) X
    have v2 : R.1 35 (nI a + 2).toNatClampNeg = nI (tx (a + 2)) := by
      rw [show (2 : Int32) = nI 2 from rfl, nI_add]; rw [nI_clamp (by omega)]
      exact d2.1
    have q2 : (nI (tx (a + 2)) = nI c3) ↔ tx (a + 2) = c3 := nI_eq (by omega) (by omega)
    have b3 : a + 3 < 250 := by have := hne 3 (by decide); omega
    have d3 : R.1 35 (a + 3) = nI (tx (a + 3)) ∧ tx (a + 3) < 256 := hr 3 (by decide)
    have r3 : ∀ {β : Type} (X : Option β), az_ck (nI a + 3) 250 X = X := fun X => by
      rw [show (3 : Int32) = nI 3 from rfl, nI_add]; exact az_ck_in b3 (by decide) X
    have v3 : R.1 35 (nI a + 3).toNatClampNeg = nI (tx (a + 3)) := by
      rw [show (3 : Int32) = nI 3 from rfl, nI_add]; rw [nI_clamp (by omega)]
      exact d3.1
    have q3 : (nI (tx (a + 3)) = nI c4) ↔ tx (a + 3) = c4 := nI_eq (by omega) (by omega)
    have hmt2 : mtB N tx [c1, c2, c3, c4] a = true ↔ (tx (a) = c1 ∧ tx (a + 1) = c2 ∧ tx (a + 2) = c3 ∧ tx (a + 3) = c4) := by
      rw [hmt]
      constructor
      · rintro ⟨-, h9⟩
        exact ⟨h9 0 (by simp), h9 1 (by simp), h9 2 (by simp), h9 3 (by simp)⟩
      · intro gg
        refine ⟨hl, fun i hi => ?_⟩
        match i, hi with
        | 0, _ => exact gg.1
        | 1, _ => exact gg.2.1
        | 2, _ => exact gg.2.2.1
        | 3, _ => exact gg.2.2.2
    simp only [g_135_97, g_135_118, g_135_122, g_135_123, g_135_152, g_135_174, hw.1, r0, r1, r2, r3, v0, v1, v2, v3, q0, q1, q2, q3]
    by_cases p0 : tx (a) = c1
    · skip
      by_cases p1 : tx (a + 1) = c2
      · skip
        by_cases p2 : tx (a + 2) = c3
        · skip
          by_cases p3 : tx (a + 3) = c4
          · skip
            rw [show mtB N tx [c1, c2, c3, c4] a = true from hmt2.mpr ⟨p0, p1, p2, p3⟩]
            simp [p0, p1, p2, p3]
          · have hf : mtB N tx [c1, c2, c3, c4] a = false := by
              cases hb : mtB N tx [c1, c2, c3, c4] a with
              | false => rfl
              | true =>
                have hz := hmt2.mp hb
                exact absurd (hz.2.2.2) p3
            rw [hf]
            simp [p0, p1, p2, p3]
        · have hf : mtB N tx [c1, c2, c3, c4] a = false := by
            cases hb : mtB N tx [c1, c2, c3, c4] a with
            | false => rfl
            | true =>
              have hz := hmt2.mp hb
              exact absurd (hz.2.2.1) p2
          rw [hf]
          simp [p0, p1, p2]
      · have hf : mtB N tx [c1, c2, c3, c4] a = false := by
          cases hb : mtB N tx [c1, c2, c3, c4] a with
          | false => rfl
          | true =>
            have hz := hmt2.mp hb
            exact absurd (hz.2.1) p1
        rw [hf]
        simp [p0, p1]
    · have hf : mtB N tx [c1, c2, c3, c4] a = false := by
        cases hb : mtB N tx [c1, c2, c3, c4] a with
        | false => rfl
        | true =>
          have hz := hmt2.mp hb
          exact absurd (hz.1) p0
      rw [hf]
      simp [p0]
  · rw [if_neg (show ¬ nI (we N tx a - a) = 4 from fun h9 => hl (by have := (nI_eq (by omega) (by decide)).mp (show nI (we N tx a - a) = nI 4 from h9); omega))]
    have hf : mtB N tx [c1, c2, c3, c4] a = false := by
      cases hb : mtB N tx [c1, c2, c3, c4] a with
      | false => rfl
      | true => exact absurd (hmt.mp hb).1 hl
    rw [hf]
    rfl
theorem is5_m (h : txM R N tx) {a : Nat} (hw : wdM R a (we N tx a)) (haN : a ≤ N) {c1 c2 c3 c4 c5 : Nat} (h1 : c1 < 256 ∧ c1 ≠ 0 ∧ c1 ≠ 32 ∧ c1 ≠ 40 ∧ c1 ≠ 41) (h2 : c2 < 256 ∧ c2 ≠ 0 ∧ c2 ≠ 32 ∧ c2 ≠ 40 ∧ c2 ≠ 41) (h3 : c3 < 256 ∧ c3 ≠ 0 ∧ c3 ≠ 32 ∧ c3 ≠ 40 ∧ c3 ≠ 41) (h4 : c4 < 256 ∧ c4 ≠ 0 ∧ c4 ≠ 32 ∧ c4 ≠ 40 ∧ c4 ≠ 41) (h5 : c5 < 256 ∧ c5 ≠ 0 ∧ c5 ≠ 32 ∧ c5 ≠ 40 ∧ c5 ≠ 41) : g_135 (nI c1) (nI c2) (nI c3) (nI c4) (nI c5) 0 R = some (.inl (some (.int (if mtB N tx [c1, c2, c3, c4, c5] a then 1 else 0))), R) := by
  have hN := h.1
  have hge := (we_prop (tx := tx) (N - a) a (Nat.le_refl _)).1
  have hle := (we_prop (tx := tx) (N - a) a (Nat.le_refl _)).2.1 haN
  have hin : ∀ c ∈ [c1, c2, c3, c4, c5], c < 256 ∧ c ≠ 32 ∧ c ≠ 40 ∧ c ≠ 41 := by
    intro c hc
    simp only [List.mem_cons, List.not_mem_nil, or_false] at hc
    rcases hc with rfl | rfl | rfl | rfl | rfl
    all_goals omega
  have hmt := mt_iff (N := N) (tx := tx) (w := [c1, c2, c3, c4, c5]) hin a
  have e0 : ¬ nI c5 = 0 := nI_ne0 (by omega) (by omega)
  have hsel : g_135 (nI c1) (nI c2) (nI c3) (nI c4) (nI c5) 0 R = g_135_45 (nI c1) (nI c2) (nI c3) (nI c4) (nI c5) 0 5 R := by
    unfold g_135
    simp only [if_neg e0, if_pos]
  rw [hsel]
  unfold g_135_45
  rw [hw.1, hw.2, pk_sub hge]
  by_cases hl : we N tx a = a + 5
  · rw [if_pos (show nI (we N tx a - a) = 5 by rw [hl, Nat.add_sub_cancel_left]; rfl)]
    have hne : ∀ i, i < 5 → a + i < N := fun i hi => Nat.lt_of_not_le (fun h9 => (we_prop (tx := tx) (N - a) a (Nat.le_refl _)).2.2.2 (a + i) (by omega) (by omega) (Or.inl h9))
    have hr : ∀ i, i < 5 → R.1 35 (a + i) = nI (tx (a + i)) ∧ tx (a + i) < 256 := fun i hi => h.2.2 (a + i) (hne i hi)
    have b0 : a < 250 := by have := hne 0 (by decide); omega
    have d0 : R.1 35 (a) = nI (tx (a)) ∧ tx (a) < 256 := hr 0 (by decide)
    have r0 : ∀ {β : Type} (X : Option β), az_ck (nI a) 250 X = X := fun X => by
      exact az_ck_in b0 (by decide) X
    have v0 : R.1 35 (nI a).toNatClampNeg = nI (tx (a)) := by
      rw [nI_clamp (by omega)]
      exact d0.1
    have q0 : (nI (tx (a)) = nI c1) ↔ tx (a) = c1 := nI_eq (by omega) (by omega)
    have b1 : a + 1 < 250 := by have := hne 1 (by decide); omega
    have d1 : R.1 35 (a + 1) = nI (tx (a + 1)) ∧ tx (a + 1) < 256 := hr 1 (by decide)
    have r1 : ∀ {β : Type} (X : Option β), az_ck (nI a + 1) 250 X = X := fun X => by
      rw [show (1 : Int32) = nI 1 from rfl, nI_add]; exact az_ck_in b1 (by decide) X
    have v1 : R.1 35 (nI a + 1).toNatClampNeg = nI (tx (a + 1)) := by
      rw [show (1 : Int32) = nI 1 from rfl, nI_add]; rw [nI_clamp (by omega)]
      exact d1.1
    have q1 : (nI (tx (a + 1)) = nI c2) ↔ tx (a + 1) = c2 := nI_eq (by omega) (by omega)
    have b2 : a + 2 < 250 := by have := hne 2 (by decide); omega
    have d2 : R.1 35 (a + 2) = nI (tx (a + 2)) ∧ tx (a + 2) < 256 := hr 2 (by decide)
    have r2 : ∀ {β : Type} (X : Option β), az_ck (nI a + 2) 250 X = X := fun X => by
      rw [show (2 : Int32) = nI 2 from rfl, nI_add]; exact az_ck_in b2 (by decide) X
    have v2 : R.1 35 (nI a + 2).toNatClampNeg = nI (tx (a + 2)) := by
      rw [show (2 : Int32) = nI 2 from rfl, nI_add]; rw [nI_clamp (by omega)]
      exact d2.1
    have q2 : (nI (tx (a + 2)) = nI c3) ↔ tx (a + 2) = c3 := nI_eq (by omega) (by omega)
    have b3 : a + 3 < 250 := by have := hne 3 (by decide); omega
    have d3 : R.1 35 (a + 3) = nI (tx (a + 3)) ∧ tx (a + 3) < 256 := hr 3 (by decide)
    have r3 : ∀ {β : Type} (X : Option β), az_ck (nI a + 3) 250 X = X := fun X => by
      rw [show (3 : Int32) = nI 3 from rfl, nI_add]; exact az_ck_in b3 (by decide) X
    have v3 : R.1 35 (nI a + 3).toNatClampNeg = nI (tx (a + 3)) := by
      rw [show (3 : Int32) = nI 3 from rfl, nI_add]; rw [nI_clamp (by omega)]
      exact d3.1
    have q3 : (nI (tx (a + 3)) = nI c4) ↔ tx (a + 3) = c4 := nI_eq (by omega) (by omega)
    have b4 : a + 4 < 250 := by have := hne 4 (by decide); omega
    have d4 : R.1 35 (a + 4) = nI (tx (a + 4)) ∧ tx (a + 4) < 256 := hr 4 (by decide)
    have r4 : ∀ {β : Type} (X : Option β), az_ck (nI a + 4) 250 X = X := fun X => by
      rw [show (4 : Int32) = nI 4 from rfl, nI_add]; exact az_ck_in b4 (by decide) X
    have v4 : R.1 35 (nI a + 4).toNatClampNeg = nI (tx (a + 4)) := by
      rw [show (4 : Int32) = nI 4 from rfl, nI_add]; rw [nI_clamp (by omega)]
      exact d4.1
    have q4 : (nI (tx (a + 4)) = nI c5) ↔ tx (a + 4) = c5 := nI_eq (by omega) (by omega)
    have hmt2 : mtB N tx [c1, c2, c3, c4, c5] a = true ↔ (tx (a) = c1 ∧ tx (a + 1) = c2 ∧ tx (a + 2) = c3 ∧ tx (a + 3) = c4 ∧ tx (a + 4) = c5) := by
      rw [hmt]
      constructor
      · rintro ⟨-, h9⟩
        exact ⟨h9 0 (by simp), h9 1 (by simp), h9 2 (by simp), h9 3 (by simp), h9 4 (by simp)⟩
      · intro gg
        refine ⟨hl, fun i hi => ?_⟩
        match i, hi with
        | 0, _ => exact gg.1
        | 1, _ => exact gg.2.1
        | 2, _ => exact gg.2.2.1
        | 3, _ => exact gg.2.2.2.1
        | 4, _ => exact gg.2.2.2.2
    simp only [g_135_97, g_135_118, g_135_122, g_135_123, g_135_152, g_135_174, hw.1, r0, r1, r2, r3, r4, v0, v1, v2, v3, v4, q0, q1, q2, q3, q4]
    by_cases p0 : tx (a) = c1
    · skip
      by_cases p1 : tx (a + 1) = c2
      · skip
        by_cases p2 : tx (a + 2) = c3
        · skip
          by_cases p3 : tx (a + 3) = c4
          · skip
            by_cases p4 : tx (a + 4) = c5
            · skip
              rw [show mtB N tx [c1, c2, c3, c4, c5] a = true from hmt2.mpr ⟨p0, p1, p2, p3, p4⟩]
              simp [p0, p1, p2, p3, p4]
            · have hf : mtB N tx [c1, c2, c3, c4, c5] a = false := by
                cases hb : mtB N tx [c1, c2, c3, c4, c5] a with
                | false => rfl
                | true =>
                  have hz := hmt2.mp hb
                  exact absurd (hz.2.2.2.2) p4
              rw [hf]
              simp [p0, p1, p2, p3, p4]
          · have hf : mtB N tx [c1, c2, c3, c4, c5] a = false := by
              cases hb : mtB N tx [c1, c2, c3, c4, c5] a with
              | false => rfl
              | true =>
                have hz := hmt2.mp hb
                exact absurd (hz.2.2.2.1) p3
            rw [hf]
            simp [p0, p1, p2, p3]
        · have hf : mtB N tx [c1, c2, c3, c4, c5] a = false := by
            cases hb : mtB N tx [c1, c2, c3, c4, c5] a with
            | false => rfl
            | true =>
              have hz := hmt2.mp hb
              exact absurd (hz.2.2.1) p2
          rw [hf]
          simp [p0, p1, p2]
      · have hf : mtB N tx [c1, c2, c3, c4, c5] a = false := by
          cases hb : mtB N tx [c1, c2, c3, c4, c5] a with
          | false => rfl
          | true =>
            have hz := hmt2.mp hb
            exact absurd (hz.2.1) p1
        rw [hf]
        simp [p0, p1]
    · have hf : mtB N tx [c1, c2, c3, c4, c5] a = false := by
        cases hb : mtB N tx [c1, c2, c3, c4, c5] a with
        | false => rfl
        | true =>
          have hz := hmt2.mp hb
          exact absurd (hz.1) p0
      rw [hf]
      simp [p0]
  · rw [if_neg (show ¬ nI (we N tx a - a) = 5 from fun h9 => hl (by have := (nI_eq (by omega) (by decide)).mp (show nI (we N tx a - a) = nI 5 from h9); omega))]
    have hf : mtB N tx [c1, c2, c3, c4, c5] a = false := by
      cases hb : mtB N tx [c1, c2, c3, c4, c5] a with
      | false => rfl
      | true => exact absurd (hmt.mp hb).1 hl
    rw [hf]
    rfl
theorem is6_m (h : txM R N tx) {a : Nat} (hw : wdM R a (we N tx a)) (haN : a ≤ N) {c1 c2 c3 c4 c5 c6 : Nat} (h1 : c1 < 256 ∧ c1 ≠ 0 ∧ c1 ≠ 32 ∧ c1 ≠ 40 ∧ c1 ≠ 41) (h2 : c2 < 256 ∧ c2 ≠ 0 ∧ c2 ≠ 32 ∧ c2 ≠ 40 ∧ c2 ≠ 41) (h3 : c3 < 256 ∧ c3 ≠ 0 ∧ c3 ≠ 32 ∧ c3 ≠ 40 ∧ c3 ≠ 41) (h4 : c4 < 256 ∧ c4 ≠ 0 ∧ c4 ≠ 32 ∧ c4 ≠ 40 ∧ c4 ≠ 41) (h5 : c5 < 256 ∧ c5 ≠ 0 ∧ c5 ≠ 32 ∧ c5 ≠ 40 ∧ c5 ≠ 41) (h6 : c6 < 256 ∧ c6 ≠ 0 ∧ c6 ≠ 32 ∧ c6 ≠ 40 ∧ c6 ≠ 41) : g_135 (nI c1) (nI c2) (nI c3) (nI c4) (nI c5) (nI c6) R = some (.inl (some (.int (if mtB N tx [c1, c2, c3, c4, c5, c6] a then 1 else 0))), R) := by
  have hN := h.1
  have hge := (we_prop (tx := tx) (N - a) a (Nat.le_refl _)).1
  have hle := (we_prop (tx := tx) (N - a) a (Nat.le_refl _)).2.1 haN
  have hin : ∀ c ∈ [c1, c2, c3, c4, c5, c6], c < 256 ∧ c ≠ 32 ∧ c ≠ 40 ∧ c ≠ 41 := by
    intro c hc
    simp only [List.mem_cons, List.not_mem_nil, or_false] at hc
    rcases hc with rfl | rfl | rfl | rfl | rfl | rfl
    all_goals omega
  have hmt := mt_iff (N := N) (tx := tx) (w := [c1, c2, c3, c4, c5, c6]) hin a
  have e0 : ¬ nI c6 = 0 := nI_ne0 (by omega) (by omega)
  have hsel : g_135 (nI c1) (nI c2) (nI c3) (nI c4) (nI c5) (nI c6) R = g_135_45 (nI c1) (nI c2) (nI c3) (nI c4) (nI c5) (nI c6) 6 R := by
    unfold g_135
    simp only [if_neg e0, if_pos]
  rw [hsel]
  unfold g_135_45
  rw [hw.1, hw.2, pk_sub hge]
  by_cases hl : we N tx a = a + 6
  · rw [if_pos (show nI (we N tx a - a) = 6 by rw [hl, Nat.add_sub_cancel_left]; rfl)]
    have hne : ∀ i, i < 6 → a + i < N := fun i hi => Nat.lt_of_not_le (fun h9 => (we_prop (tx := tx) (N - a) a (Nat.le_refl _)).2.2.2 (a + i) (by omega) (by omega) (Or.inl h9))
    have hr : ∀ i, i < 6 → R.1 35 (a + i) = nI (tx (a + i)) ∧ tx (a + i) < 256 := fun i hi => h.2.2 (a + i) (hne i hi)
    have b0 : a < 250 := by have := hne 0 (by decide); omega
    have d0 : R.1 35 (a) = nI (tx (a)) ∧ tx (a) < 256 := hr 0 (by decide)
    have r0 : ∀ {β : Type} (X : Option β), az_ck (nI a) 250 X = X := fun X => by
      exact az_ck_in b0 (by decide) X
    have v0 : R.1 35 (nI a).toNatClampNeg = nI (tx (a)) := by
      rw [nI_clamp (by omega)]
      exact d0.1
    have q0 : (nI (tx (a)) = nI c1) ↔ tx (a) = c1 := nI_eq (by omega) (by omega)
    have b1 : a + 1 < 250 := by have := hne 1 (by decide); omega
    have d1 : R.1 35 (a + 1) = nI (tx (a + 1)) ∧ tx (a + 1) < 256 := hr 1 (by decide)
    have r1 : ∀ {β : Type} (X : Option β), az_ck (nI a + 1) 250 X = X := fun X => by
      rw [show (1 : Int32) = nI 1 from rfl, nI_add]; exact az_ck_in b1 (by decide) X
    have v1 : R.1 35 (nI a + 1).toNatClampNeg = nI (tx (a + 1)) := by
      rw [show (1 : Int32) = nI 1 from rfl, nI_add]; rw [nI_clamp (by omega)]
      exact d1.1
    have q1 : (nI (tx (a + 1)) = nI c2) ↔ tx (a + 1) = c2 := nI_eq (by omega) (by omega)
    have b2 : a + 2 < 250 := by have := hne 2 (by decide); omega
    have d2 : R.1 35 (a + 2) = nI (tx (a + 2)) ∧ tx (a + 2) < 256 := hr 2 (by decide)
    have r2 : ∀ {β : Type} (X : Option β), az_ck (nI a + 2) 250 X = X := fun X => by
      rw [show (2 : Int32) = nI 2 from rfl, nI_add]; exact az_ck_in b2 (by decide) X
    have v2 : R.1 35 (nI a + 2).toNatClampNeg = nI (tx (a + 2)) := by
      rw [show (2 : Int32) = nI 2 from rfl, nI_add]; rw [nI_clamp (by omega)]
      exact d2.1
    have q2 : (nI (tx (a + 2)) = nI c3) ↔ tx (a + 2) = c3 := nI_eq (by omega) (by omega)
    have b3 : a + 3 < 250 := by have := hne 3 (by decide); omega
    have d3 : R.1 35 (a + 3) = nI (tx (a + 3)) ∧ tx (a + 3) < 256 := hr 3 (by decide)
    have r3 : ∀ {β : Type} (X : Option β), az_ck (nI a + 3) 250 X = X := fun X => by
      rw [show (3 : Int32) = nI 3 from rfl, nI_add]; exact az_ck_in b3 (by decide) X
    have v3 : R.1 35 (nI a + 3).toNatClampNeg = nI (tx (a + 3)) := by
      rw [show (3 : Int32) = nI 3 from rfl, nI_add]; rw [nI_clamp (by omega)]
      exact d3.1
    have q3 : (nI (tx (a + 3)) = nI c4) ↔ tx (a + 3) = c4 := nI_eq (by omega) (by omega)
    have b4 : a + 4 < 250 := by have := hne 4 (by decide); omega
    have d4 : R.1 35 (a + 4) = nI (tx (a + 4)) ∧ tx (a + 4) < 256 := hr 4 (by decide)
    have r4 : ∀ {β : Type} (X : Option β), az_ck (nI a + 4) 250 X = X := fun X => by
      rw [show (4 : Int32) = nI 4 from rfl, nI_add]; exact az_ck_in b4 (by decide) X
    have v4 : R.1 35 (nI a + 4).toNatClampNeg = nI (tx (a + 4)) := by
      rw [show (4 : Int32) = nI 4 from rfl, nI_add]; rw [nI_clamp (by omega)]
      exact d4.1
    have q4 : (nI (tx (a + 4)) = nI c5) ↔ tx (a + 4) = c5 := nI_eq (by omega) (by omega)
    have b5 : a + 5 < 250 := by have := hne 5 (by decide); omega
    have d5 : R.1 35 (a + 5) = nI (tx (a + 5)) ∧ tx (a + 5) < 256 := hr 5 (by decide)
    have r5 : ∀ {β : Type} (X : Option β), az_ck (nI a + 5) 250 X = X := fun X => by
      rw [show (5 : Int32) = nI 5 from rfl, nI_add]; exact az_ck_in b5 (by decide) X
    have v5 : R.1 35 (nI a + 5).toNatClampNeg = nI (tx (a + 5)) := by
      rw [show (5 : Int32) = nI 5 from rfl, nI_add]; rw [nI_clamp (by omega)]
      exact d5.1
    have q5 : (nI (tx (a + 5)) = nI c6) ↔ tx (a + 5) = c6 := nI_eq (by omega) (by omega)
    have hmt2 : mtB N tx [c1, c2, c3, c4, c5, c6] a = true ↔ (tx (a) = c1 ∧ tx (a + 1) = c2 ∧ tx (a + 2) = c3 ∧ tx (a + 3) = c4 ∧ tx (a + 4) = c5 ∧ tx (a + 5) = c6) := by
      rw [hmt]
      constructor
      · rintro ⟨-, h9⟩
        exact ⟨h9 0 (by simp), h9 1 (by simp), h9 2 (by simp), h9 3 (by simp), h9 4 (by simp), h9 5 (by simp)⟩
      · intro gg
        refine ⟨hl, fun i hi => ?_⟩
        match i, hi with
        | 0, _ => exact gg.1
        | 1, _ => exact gg.2.1
        | 2, _ => exact gg.2.2.1
        | 3, _ => exact gg.2.2.2.1
        | 4, _ => exact gg.2.2.2.2.1
        | 5, _ => exact gg.2.2.2.2.2
    simp only [g_135_97, g_135_118, g_135_122, g_135_123, g_135_152, g_135_174, hw.1, r0, r1, r2, r3, r4, r5, v0, v1, v2, v3, v4, v5, q0, q1, q2, q3, q4, q5]
    by_cases p0 : tx (a) = c1
    · skip
      by_cases p1 : tx (a + 1) = c2
      · skip
        by_cases p2 : tx (a + 2) = c3
        · skip
          by_cases p3 : tx (a + 3) = c4
          · skip
            by_cases p4 : tx (a + 4) = c5
            · skip
              by_cases p5 : tx (a + 5) = c6
              · skip
                rw [show mtB N tx [c1, c2, c3, c4, c5, c6] a = true from hmt2.mpr ⟨p0, p1, p2, p3, p4, p5⟩]
                simp [p0, p1, p2, p3, p4, p5]
              · have hf : mtB N tx [c1, c2, c3, c4, c5, c6] a = false := by
                  cases hb : mtB N tx [c1, c2, c3, c4, c5, c6] a with
                  | false => rfl
                  | true =>
                    have hz := hmt2.mp hb
                    exact absurd (hz.2.2.2.2.2) p5
                rw [hf]
                simp [p0, p1, p2, p3, p4, p5]
            · have hf : mtB N tx [c1, c2, c3, c4, c5, c6] a = false := by
                cases hb : mtB N tx [c1, c2, c3, c4, c5, c6] a with
                | false => rfl
                | true =>
                  have hz := hmt2.mp hb
                  exact absurd (hz.2.2.2.2.1) p4
              rw [hf]
              simp [p0, p1, p2, p3, p4]
          · have hf : mtB N tx [c1, c2, c3, c4, c5, c6] a = false := by
              cases hb : mtB N tx [c1, c2, c3, c4, c5, c6] a with
              | false => rfl
              | true =>
                have hz := hmt2.mp hb
                exact absurd (hz.2.2.2.1) p3
            rw [hf]
            simp [p0, p1, p2, p3]
        · have hf : mtB N tx [c1, c2, c3, c4, c5, c6] a = false := by
            cases hb : mtB N tx [c1, c2, c3, c4, c5, c6] a with
            | false => rfl
            | true =>
              have hz := hmt2.mp hb
              exact absurd (hz.2.2.1) p2
          rw [hf]
          simp [p0, p1, p2]
      · have hf : mtB N tx [c1, c2, c3, c4, c5, c6] a = false := by
          cases hb : mtB N tx [c1, c2, c3, c4, c5, c6] a with
          | false => rfl
          | true =>
            have hz := hmt2.mp hb
            exact absurd (hz.2.1) p1
        rw [hf]
        simp [p0, p1]
    · have hf : mtB N tx [c1, c2, c3, c4, c5, c6] a = false := by
        cases hb : mtB N tx [c1, c2, c3, c4, c5, c6] a with
        | false => rfl
        | true =>
          have hz := hmt2.mp hb
          exact absurd (hz.1) p0
      rw [hf]
      simp [p0]
  · rw [if_neg (show ¬ nI (we N tx a - a) = 6 from fun h9 => hl (by have := (nI_eq (by omega) (by decide)).mp (show nI (we N tx a - a) = nI 6 from h9); omega))]
    have hf : mtB N tx [c1, c2, c3, c4, c5, c6] a = false := by
      cases hb : mtB N tx [c1, c2, c3, c4, c5, c6] a with
      | false => rfl
      | true => exact absurd (hmt.mp hb).1 hl
    rw [hf]
    rfl
end WORDM
