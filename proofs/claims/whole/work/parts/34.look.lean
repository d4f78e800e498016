/-! place, status, look, out -/
/-- status, place, counters and output are alike; k calls were made -/
def coR (k : Nat) (S R : amS) : Prop := ∃ st bg md wt tot : Nat,
  S.1 24 13 = nI st ∧ R.1 34 29 = nI st ∧ st ≤ 5 ∧ (st = 0 → S.1 23 5 = R.1 34 6) ∧ (st ≠ 0 → S.1 24 14 = R.1 34 6) ∧
  S.1 24 12 = nI bg ∧ R.1 34 30 = nI bg ∧ bg ≤ 2000 * k ∧ S.1 25 3 = nI md ∧ R.1 34 31 = nI md ∧ md ≤ 2000 ∧
  S.1 24 11 = nI wt ∧ R.1 34 32 = nI wt ∧ wt ≤ 60 ∧ S.1 29 1 = nI tot ∧ R.1 34 55 = nI tot ∧ tot ≤ 1000000 * k ∧ (∀ j, j < 200 → j < tot → S.1 30 j = R.1 65 j)
section LOOK
variable {k : Nat} {Rl : amS → amS → Prop} {S R : amS}
theorem place_ok (hc : coR k S R) (hr : Rl S (sI R 34 0 0)) : aRes0 Rl (g_118 S) (g_174 R) := by
  obtain ⟨st, bg, md, wt, tot, h1, h2, h3, h4, h5, -⟩ := hc
  refine ⟨S, R.1 34 6, sI R 34 0 0, ?_, ?_, hr⟩
  · unfold g_118
    rw [h1]
    by_cases h : st = 0
    · rw [if_pos (by rw [h]; rfl), h4 h]
    · rw [if_neg (nI_ne0 (by omega) (by omega)), h5 h]
  · simp only [g_174, az_st]
    rw [sI_nk _ (by decide)]
theorem status_ok (hc : coR k S R) (hr : Rl S (sI R 34 0 0)) : aRes0 Rl (g_120 S) (g_175 R) := by
  obtain ⟨st, bg, md, wt, tot, h1, h2, -⟩ := hc
  refine ⟨S, nI st, sI R 34 0 0, ?_, ?_, hr⟩
  · unfold g_120
    rw [h1]
  · simp only [g_175, az_st]
    rw [sI_nk _ (by decide), h2]
theorem look_ok (hc : coR k S R) (hr : ∀ x, Rl S (sI R 34 0 x)) (w : Int32) : aRes Rl aF1 (g_121 w S) (g_176 w R) := by
  obtain ⟨st, bg, md, wt, tot, -, -, -, -, -, c1, c2, -, c3, c4, -, c5, c6, -, c7, c8, -⟩ := hc
  unfold g_121 g_176
  rw [in_m, bI_i]
  by_cases w0 : w = 0
  · subst w0
    refine ⟨.inl (some (.int (nI bg))), S, nI bg, sI R 34 0 0, by rw [if_pos rfl, c1], ?_, hr 0, Or.inl ⟨rfl, sI_eq _ _ _ _⟩⟩
    rw [if_neg (by decide)]
    unfold g_176_15
    rw [th_m, if_pos rfl, if_pos rfl, bI_i, if_pos rfl, if_pos rfl, sI_nk _ (by decide), c2]
  rw [if_neg w0]
  by_cases w1 : w = 1
  · subst w1
    refine ⟨.inl (some (.int (nI md))), S, nI md, sI R 34 0 0, by rw [if_pos rfl, c3], ?_, hr 0, Or.inl ⟨rfl, sI_eq _ _ _ _⟩⟩
    rw [if_neg (by decide)]
    unfold g_176_15
    rw [th_m, if_pos rfl, if_pos rfl, bI_i, if_pos rfl, if_neg (by decide), if_pos rfl, sI_nk _ (by decide), c4]
  rw [if_neg w1]
  by_cases w2 : w = 2
  · subst w2
    refine ⟨.inl (some (.int (nI wt))), S, nI wt, sI R 34 0 0, by rw [if_pos rfl, c5], ?_, hr 0, Or.inl ⟨rfl, sI_eq _ _ _ _⟩⟩
    rw [if_neg (by decide)]
    unfold g_176_15
    rw [th_m, if_pos rfl, if_pos rfl, bI_i, if_pos rfl, if_neg (by decide), if_neg (by decide), if_pos rfl, sI_nk _ (by decide), c6]
  rw [if_neg w2]
  by_cases w3 : w = 3
  · subst w3
    refine ⟨.inl (some (.int (nI tot))), S, nI tot, sI R 34 0 0, by rw [if_pos rfl, c7], ?_, hr 0, Or.inl ⟨rfl, sI_eq _ _ _ _⟩⟩
    rw [if_neg (by decide)]
    unfold g_176_15
    rw [th_m, if_pos rfl, if_pos rfl, bI_i, if_pos rfl, if_neg (by decide), if_neg (by decide), if_neg (by decide), sI_nk _ (by decide), c8]
  rw [if_neg w3]
  refine ⟨.inr 0, S, 0, sI R 34 0 1, rfl, ?_, hr 1, Or.inr ⟨0, 1, rfl, rfl, sI_eq _ _ _ _⟩⟩
  have e : (if w < 0 then (0 : Int32) else if 3 < w then 0 else 1) = 0 := by
    by_cases h : w < 0
    · rw [if_pos h]
    · rw [if_neg h]
      by_cases h2 : 3 < w
      · rw [if_pos h2]
      · obtain ⟨j, hj, rfl⟩ := nI_of2 (x := w) (M := 3) (n := 3) (by decide) h (Int32.not_lt.mp h2)
        have : j = 0 ∨ j = 1 ∨ j = 2 ∨ j = 3 := by omega
        rcases this with rfl | rfl | rfl | rfl
        · exact absurd rfl w0
        · exact absurd rfl w1
        · exact absurd rfl w2
        · exact absurd rfl w3
  rw [e, if_pos rfl]
  unfold g_176_15
  rw [th_m, if_neg (by decide), bI_i, if_neg (by decide)]
theorem az_rem_nI {a d : Nat} (ha : a < 2 ^ 31) (h0 : 0 < d) (hd : d < 2 ^ 31) : az_rem (nI a) (nI d) = nI (a % d) := pk_rem ha h0 hd
theorem has_c (hc : coR k S R) (hk : k ≤ 512) (w : Int32) : (∃ j tot, w = nI j ∧ S.1 29 1 = nI tot ∧ R.1 34 55 = nI tot ∧ j < tot ∧ tot ≤ j + 200 ∧ tot ≤ 1000000 * 512 ∧ g_68 w S = some (.inl (some (.int 1)), S) ∧ (if w < 0 then (0 : Int32) else if (R.1 34 55) - 1 < w then 0 else 1) = 1 ∧ R.1 34 55 ≤ w + 200) ∨ (g_68 w S = some (.inl (some (.int 0)), S) ∧ ((if w < 0 then (0 : Int32) else if (R.1 34 55) - 1 < w then 0 else 1) = 0 ∨ ((if w < 0 then (0 : Int32) else if (R.1 34 55) - 1 < w then 0 else 1) = 1 ∧ ¬ R.1 34 55 ≤ w + 200))) := by
  obtain ⟨st, bg, md, wt, tot, -, -, -, -, -, c1, c2, c0, c3, c4, -, c5, c6, -, c7, c8, c9, -⟩ := hc
  have ht : tot ≤ 1000000 * 512 := by omega
  unfold g_68
  rw [c7, c8]
  by_cases h : w < 0
  · right
    rw [if_pos h, if_pos h]
    exact ⟨rfl, Or.inl rfl⟩
  obtain ⟨j, hj, rfl⟩ := nI_of h
  rw [if_neg h, if_neg h]
  by_cases h1 : j < tot
  · have e1 : ¬ nI tot ≤ nI j := nI_ge h1 (by omega)
    have e2 : ¬ nI tot - 1 < nI j := by
      obtain ⟨t, rfl⟩ : ∃ t, tot = t + 1 := ⟨tot - 1, by omega⟩
      rw [nI_pred]
      exact nI_nlt (by omega) (by omega)
    rw [if_neg e1, if_neg e2]
    by_cases h2 : tot ≤ j + 200
    · left
      refine ⟨j, tot, rfl, rfl, rfl, h1, h2, ht, ?_, rfl, ?_⟩
      · rw [if_neg]
        rw [Int32.lt_iff_toInt_lt, nI_toInt hj, show (200 : Int32) = nI 200 from rfl, pk_sub_toInt (by omega) (by decide)]
        omega
      · rw [show (200 : Int32) = nI 200 from rfl, nI_add]
        exact nI_le h2 (by omega)
    · right
      refine ⟨?_, Or.inr ⟨rfl, ?_⟩⟩
      · rw [if_pos]
        rw [Int32.lt_iff_toInt_lt, nI_toInt hj, show (200 : Int32) = nI 200 from rfl, pk_sub_toInt (by omega) (by decide)]
        omega
      · rw [show (200 : Int32) = nI 200 from rfl, nI_add]
        exact nI_ge (by omega) (by omega)
  · right
    have e1 : nI tot ≤ nI j := nI_le (by omega) hj
    rw [if_pos e1]
    refine ⟨rfl, Or.inl ?_⟩
    rw [if_pos]
    rw [Int32.lt_iff_toInt_lt, nI_toInt hj, show (1 : Int32) = nI 1 from rfl, pk_sub_toInt (by omega) (by decide)]
    omega
theorem out_ok (hc : coR k S R) (hk : k ≤ 512) (hr : ∀ x, Rl S (sI R 34 0 x)) (w : Int32) : aRes Rl aFO (g_122 w S) (g_177 w R) := by
  have hh := has_c hc hk w
  obtain ⟨st, bg, md, wt, tot', -, -, -, -, -, c1, c2, c0, c3, c4, -, c5, c6, -, c7, c8, c9, c10⟩ := hc
  unfold g_122 g_177
  rw [in_m, bI_i]
  rcases hh with ⟨j, tot, rfl, a1, a2, a3, a4, a5, a6, a7, a8⟩ | ⟨a6, a7⟩
  · have et : tot = tot' := (nI_eq (by omega) (by omega)).mp (a1.symm.trans c7)
    subst et
    rw [a6, bI_i, if_neg (by decide), a7, if_neg (by decide), if_pos a8]
    have hm : j % 200 < 200 := Nat.mod_lt _ (by decide)
    have e1 : S.1 30 (j % 200) = R.1 65 (j % 200) := c10 _ hm (by have := Nat.mod_le j 200; omega)
    refine ⟨.inl (some (.int (S.1 30 (j % 200)))), S, S.1 30 (j % 200), sI R 34 0 0, ?_, ?_, hr 0, Or.inl ⟨rfl, sI_eq _ _ _ _⟩⟩
    · unfold g_69
      rw [show (200 : Int32) = nI 200 from rfl, az_rem_nI (by omega) (by decide) (by decide), az_rg_in _ _ _ hm (by decide), bI_i]
    · unfold g_177_32
      rw [th_m, if_pos rfl, if_pos rfl, bI_i, if_pos rfl, show (200 : Int32) = nI 200 from rfl, az_rem_nI (by omega) (by decide) (by decide), az_ck_in hm (by decide), nI_clamp (by omega), sI_na _ (by decide), e1]
  · rw [a6, bI_i, if_pos rfl]
    refine ⟨.inr 2, S, 0, sI R 34 0 1, rfl, ?_, hr 1, Or.inr ⟨2, 1, rfl, rfl, sI_eq _ _ _ _⟩⟩
    rcases a7 with a7 | ⟨a7, a8⟩
    · rw [a7, if_pos rfl]
      unfold g_177_27 g_177_32
      rw [th_m, if_neg (by decide), bI_i, if_neg (by decide)]
    · rw [a7, if_neg (by decide), if_neg a8]
      unfold g_177_27 g_177_32
      rw [th_m, if_neg (by decide), bI_i, if_neg (by decide)]
end LOOK
