/-! reach: all functions between a variable's home and here take it along -/
/-- tables of taken variables only grow -/
def mxR (r17 r18 r19 r17' r18' r19' : Nat → Int32) : Prop := ∀ x t, x < 28 → t ≤ 26 → r17 x = nI t → ∃ t', t ≤ t' ∧ t' ≤ 26 ∧ r17' x = nI t' ∧ ∀ i, i < t → r18' (26 * x + i) = r18 (26 * x + i) ∧ r19' (26 * x + i) = r19 (26 * x + i)
theorem mxR_refl (r17 r18 r19 : Nat → Int32) : mxR r17 r18 r19 r17 r18 r19 := fun x t _ ht h => ⟨t, Nat.le_refl _, ht, h, fun _ _ => ⟨rfl, rfl⟩⟩
theorem mxR_trans {a1 a2 a3 b1 b2 b3 c1 c2 c3 : Nat → Int32} (h : mxR a1 a2 a3 b1 b2 b3) (k : mxR b1 b2 b3 c1 c2 c3) : mxR a1 a2 a3 c1 c2 c3 := by
  intro x t hx ht h1
  obtain ⟨t1, q1, q2, q3, q4⟩ := h x t hx ht h1
  obtain ⟨t2, w1, w2, w3, w4⟩ := k x t1 hx q2 q3
  exact ⟨t2, by omega, w2, w3, fun i hi => ⟨(w4 i (by omega)).1.trans (q4 i hi).1, (w4 i (by omega)).2.trans (q4 i hi).2⟩⟩
theorem LoR_mono {r7 r17 r18 r19 r17' r18' r19' : Nat → Int32} (h : mxR r17 r18 r19 r17' r18' r19') {fn : Nat} {e : scE} {src : Int32} (hl : LoR r7 r17 r18 fn e src) : LoR r7 r17' r18' fn e src := by
  rcases hl with hl | ⟨h1, h2, i, t, h3, h4, h5, h6, h7⟩
  · exact Or.inl hl
  · obtain ⟨t', q1, q2, q3, q4⟩ := h fn t h2 h4 h5
    exact Or.inr ⟨h1, h2, i, t', by omega, q2, q3, by rw [(q4 i h3).1]; exact h6, h7⟩
/-- one function takes a variable along -/
theorem take_c {S : amS} {mu : Nat} {c : cxT} {e : scE} {src : Int32} (hmu : mu < 28) (ht : tkI (S.1 7) (S.1 17) (S.1 18) (S.1 19) mu c) (he : scF (scO c) e.1 = some e) (hl : e.1 < 26) (hv : e.2.1 < 250) (hne : e.2.2.2 ≠ mu) (hlo : LoR (S.1 7) (S.1 17) (S.1 18) (fnO c) e src) (hfn : fnO c ≠ mu) :
    ∃ j S', j < 26 ∧ G_12 (nI mu) (nI e.2.1) src S = some (.inl (some (.int (nI j))), S') ∧ tkI (S'.1 7) (S'.1 17) (S'.1 18) (S'.1 19) mu c ∧ LoR (S'.1 7) (S'.1 17) (S'.1 18) mu e (-1 - nI j) ∧ mxR (S.1 17) (S.1 18) (S.1 19) (S'.1 17) (S'.1 18) (S'.1 19) ∧
      (∀ x, x ≠ mu → S'.1 17 x = S.1 17 x ∧ ∀ i, i < 26 → S'.1 18 (26 * x + i) = S.1 18 (26 * x + i) ∧ S'.1 19 (26 * x + i) = S.1 19 (26 * x + i)) ∧ (∀ a, a ≠ 17 → a ≠ 18 → a ≠ 19 → S'.1 a = S.1 a) ∧ S'.2 = S.2 := by
  obtain ⟨t, h1, h2, h3, h4⟩ := ht
  have e0 : G_12 (nI mu) (nI e.2.1) src S = G_12_19 (nI mu) (nI e.2.1) src (nI (26 * mu)) (nI t) (nI 0) S := by
    simp only [G_12, az_st]
    rw [show (26 : Int32) = nI 26 from rfl, pk_mul, Nat.mul_comm mu 26, az_rg_in _ _ _ (show mu < 28 from hmu) (by decide), h2]
    rfl
  rw [e0]
  rcases take_find (S := S) (cv := e.2.1) (src := src) hmu h1 t 0 (by omega) (fun j hj => absurd hj (by omega)) with ⟨j, -, q2, q3, q4⟩ | ⟨q1, q2⟩
  · exact ⟨j, S, by omega, q4, ⟨t, h1, h2, h3, h4⟩, Or.inr ⟨hne, hmu, j, t, q2, h1, h2, q3, rfl⟩, mxR_refl _ _ _, fun _ _ => ⟨rfl, fun _ _ => ⟨rfl, rfl⟩⟩, fun _ _ _ _ => rfl, rfl⟩
  · -- one letter more
    have hlet : ∀ i, i < t → ∃ l, l < 26 ∧ l ≠ e.1 ∧ ∃ e', e'.1 = l ∧ scF (scO c) l = some e' ∧ S.1 18 (26 * mu + i) = nI e'.2.1 := by
      intro i hi
      obtain ⟨e', a1, a2, a3, a4, a5, a6⟩ := h3 i hi
      refine ⟨e'.1, a2, fun h9 => ?_, e', rfl, a1, a5⟩
      rw [h9, he] at a1
      cases a1
      exact q1 i hi a5
    obtain ⟨g, hg⟩ : ∃ g : Nat → Nat, ∀ i, i < t → g i < 26 ∧ g i ≠ e.1 ∧ ∃ e', e'.1 = g i ∧ scF (scO c) (g i) = some e' ∧ S.1 18 (26 * mu + i) = nI e'.2.1 := by
      have : ∀ i, ∃ l, i < t → (l < 26 ∧ l ≠ e.1 ∧ ∃ e', e'.1 = l ∧ scF (scO c) l = some e' ∧ S.1 18 (26 * mu + i) = nI e'.2.1) := fun i => by
        by_cases hi : i < t
        · obtain ⟨l, hl⟩ := hlet i hi; exact ⟨l, fun _ => hl⟩
        · exact ⟨0, fun h => absurd h hi⟩
      exact Classical.axiomOfChoice this
    have h26 : t < 26 := by
      have := pig 26 (t + 1) (fun i => if i < t then g i else e.1) (fun i hi => by
        show (if i < t then g i else e.1) < 26
        split
        · next h => exact (hg i h).1
        · exact hl) (fun i j hi hj h9 => by
        have h9 : (if i < t then g i else e.1) = (if j < t then g j else e.1) := h9
        by_cases hi2 : i < t
        · by_cases hj2 : j < t
          · rw [if_pos hi2, if_pos hj2] at h9
            obtain ⟨-, -, e1, b1, b2, b3⟩ := hg i hi2
            obtain ⟨-, -, e2, c1, c2, c3⟩ := hg j hj2
            rw [h9, c2] at b2
            cases b2
            exact h4 i j hi2 hj2 (b3.trans c3.symm)
          · rw [if_pos hi2, if_neg hj2] at h9
            exact absurd h9 (hg i hi2).2.1
        · by_cases hj2 : j < t
          · rw [if_neg hi2, if_pos hj2] at h9
            exact absurd h9.symm (hg j hj2).2.1
          · omega)
      omega
    have q2 := q2 h26
    have r17 : ∀ x, (sI (sI (sI S 18 (26 * mu + t) (nI e.2.1)) 19 (26 * mu + t) src) 17 mu (nI (t + 1))).1 17 x = if x = mu then nI (t + 1) else S.1 17 x := by
      intro x
      rw [sI_get]
      by_cases hx : x = mu
      · rw [if_pos ⟨rfl, hx⟩, if_pos hx]
      · rw [if_neg (fun h => hx h.2), if_neg hx, sI_na _ (by decide), sI_na _ (by decide)]
    have r18 : ∀ x, (sI (sI (sI S 18 (26 * mu + t) (nI e.2.1)) 19 (26 * mu + t) src) 17 mu (nI (t + 1))).1 18 x = if x = 26 * mu + t then nI e.2.1 else S.1 18 x := by
      intro x
      rw [sI_na _ (by decide), sI_na _ (by decide), sI_get]
      by_cases hx : x = 26 * mu + t
      · rw [if_pos ⟨rfl, hx⟩, if_pos hx]
      · rw [if_neg (fun h => hx h.2), if_neg hx]
    have r19 : ∀ x, (sI (sI (sI S 18 (26 * mu + t) (nI e.2.1)) 19 (26 * mu + t) src) 17 mu (nI (t + 1))).1 19 x = if x = 26 * mu + t then src else S.1 19 x := by
      intro x
      rw [sI_na _ (by decide), sI_get]
      by_cases hx : x = 26 * mu + t
      · rw [if_pos ⟨rfl, hx⟩, if_pos hx]
      · rw [if_neg (fun h => hx h.2), if_neg hx, sI_na _ (by decide)]
    have hmx : mxR (S.1 17) (S.1 18) (S.1 19) ((sI (sI (sI S 18 (26 * mu + t) (nI e.2.1)) 19 (26 * mu + t) src) 17 mu (nI (t + 1))).1 17) ((sI (sI (sI S 18 (26 * mu + t) (nI e.2.1)) 19 (26 * mu + t) src) 17 mu (nI (t + 1))).1 18) ((sI (sI (sI S 18 (26 * mu + t) (nI e.2.1)) 19 (26 * mu + t) src) 17 mu (nI (t + 1))).1 19) := by
      intro x s hx hs hxs
      by_cases hxm : x = mu
      · subst hxm
        have : s = t := (nI_eq (by omega) (by omega)).mp (hxs.symm.trans h2)
        subst this
        refine ⟨s + 1, by omega, by omega, by rw [r17, if_pos rfl], fun i hi => ?_⟩
        rw [r18, r19, if_neg (by omega), if_neg (by omega)]
        exact ⟨rfl, rfl⟩
      · refine ⟨s, Nat.le_refl _, hs, by rw [r17, if_neg hxm]; exact hxs, fun i hi => ?_⟩
        rw [r18, r19, if_neg (by omega), if_neg (by omega)]
        exact ⟨rfl, rfl⟩
    refine ⟨t, _, h26, q2, ⟨t + 1, by omega, by rw [r17, if_pos rfl], fun i hi => ?_, fun i j hi hj h9 => ?_⟩, Or.inr ⟨hne, hmu, t, t + 1, by omega, by omega, by rw [r17, if_pos rfl], by rw [r18, if_pos rfl], rfl⟩, hmx, fun x hx => ⟨by rw [r17, if_neg hx], fun i hi => ?_⟩, fun a ha1 ha2 ha3 => ?_, rfl⟩
    · by_cases hit : i = t
      · subst hit
        refine ⟨e, he, hl, hv, hne, by rw [r18, if_pos rfl], ?_⟩
        rw [r19, if_pos rfl]
        exact LoR_mono hmx hlo
      · obtain ⟨e', a1, a2, a3, a4, a5, a6⟩ := h3 i (by omega)
        refine ⟨e', a1, a2, a3, a4, by rw [r18, if_neg (by omega)]; exact a5, ?_⟩
        rw [r19, if_neg (by omega)]
        exact LoR_mono hmx a6
    · rw [r18, r18] at h9
      by_cases hit : i = t
      · by_cases hjt : j = t
        · omega
        · rw [if_pos (by omega), if_neg (by omega)] at h9
          exact absurd h9.symm (q1 j (by omega))
      · by_cases hjt : j = t
        · rw [if_neg (by omega), if_pos (by omega)] at h9
          exact absurd h9 (q1 i (by omega))
        · rw [if_neg (by omega), if_neg (by omega)] at h9
          exact h4 i j (by omega) (by omega) h9
    · rw [r18, r19, if_neg (by omega), if_neg (by omega)]
      exact ⟨rfl, rfl⟩
    · rw [sI_row, if_neg ha1, sI_row, if_neg ha3, sI_row, if_neg ha2]
