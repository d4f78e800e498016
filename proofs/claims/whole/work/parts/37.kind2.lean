/-! kind and number -/
/-- the program is through: its value is alike -/
def fiR (S R : amS) : Prop := ∃ (pm fm : Nat → Nat) (np nf top : Nat), S.1 24 8 = nI (top + 1) ∧ top < 6405 ∧ prR pm fm np nf S R ∧ (∀ i, i < np → i < 2000 ∧ pm i < 2000) ∧ (∀ i, i < nf → i < 2000 ∧ fm i < 2000) ∧ vR pm fm np nf (R.2 34 54) (S.2 31 top)
section KIND2
variable {S R : amS} {k : Nat} {Rl : amS → amS → Prop}
theorem way_top {w : Nat} (h1 : 1 ≤ w) (x : Int64) : ∀ (b : Nat), b ≤ 30 → w < 2 ^ (b + 1) → ∃ i, i ≤ 30 ∧ G_53_15 (nI w) x (nI b) S = G_53_39 (nI w) x (nI i + (-1)) S ∧ G_178_3 (nI w) (nI b) R = G_178_27 (nI w) (R.2 34 54) (nI i + (-1)) R := by
  intro b
  induction b with
  | zero =>
    intro _ hw
    have hw1 : w = 1 := by omega
    subst hw1
    refine ⟨0, by decide, ?_, ?_⟩
    · rw [G_53_15_eq]
      unfold B_53_15
      rw [if_pos (by decide)]
      rfl
    · rw [G_178_3_eq]
      unfold B_178_3
      rw [if_neg (by decide)]
      rfl
  | succ b ih =>
    intro hb hw
    have hw31 : w < 2 ^ 31 := Nat.lt_of_lt_of_le hw (Nat.pow_le_pow_right (by decide) (by omega))
    rw [G_53_15_eq, G_178_3_eq]
    unfold B_53_15 B_178_3
    rw [if_neg (nI_nle (by omega) (by omega)), ush_nI hw31 hb, shr_nI hw31 hb]
    have hlt : w / 2 ^ (b + 1) < 2 := by
      rw [Nat.div_lt_iff_lt_mul (Nat.two_pow_pos _)]
      rw [Nat.pow_succ] at hw
      omega
    by_cases hz : w / 2 ^ (b + 1) = 0
    · rw [hz, if_pos (show nI 0 = 0 from rfl), if_pos (by decide), pk_m1]
      exact ih (by omega) ((Nat.div_eq_zero_iff_lt (Nat.two_pow_pos _)).mp hz)
    · have hz1 : w / 2 ^ (b + 1) = 1 := by
        clear hw ih
        generalize w / 2 ^ (b + 1) = q at hlt hz ⊢
        omega
      rw [hz1, if_neg (show ¬ nI 1 = 0 by decide), if_neg (by decide)]
      refine ⟨b + 1, hb, ?_, ?_⟩
      · simp only [G_53_33, az_st]
        rw [Int32.sub_eq_add_neg]
      · simp only [az_st]
        rw [Int32.sub_eq_add_neg]
theorem way_ok (hF : fiR S R) {w : Nat} (h1 : 1 ≤ w) (hw : w < 2 ^ 31) : (∃ t b c : Nat, t < 4 ∧ b < 2 ^ 32 ∧ c < 2 ^ 32 ∧ (t = 0 → b = c) ∧ G_53 (nI w) S = some (.inl (some (.long (vE t c))), S) ∧ G_178 (nI w) (sI R 34 0 0) = some (.inl (some (.long (vE t b))), sI R 34 0 0)) ∨ (G_53 (nI w) S = some (.inl (some (.long (vE 5 0))), S) ∧ G_178 (nI w) (sI R 34 0 0) = some (.inl (some (.long (-1))), sI R 34 0 0)) := by
  obtain ⟨pm, fm, np, nf, top, a1, a2, a3, a4, a5, a6⟩ := hF
  have e : G_53 (nI w) S = G_53_15 (nI w) (S.2 31 top) (nI 30) S := by
    unfold G_53 g_36
    rw [a1, nI_pred, az_rj_in _ _ _ a2 (by decide), bJ_j]
    rfl
  obtain ⟨i, hi, q1, q2⟩ := way_top (S := S) (R := sI R 34 0 0) h1 (S.2 31 top) 30 (Nat.le_refl _) hw
  rw [e, q1]
  unfold G_178
  rw [show (30 : Int32) = nI 30 from rfl, q2]
  rcases way_loop (R := sI R 34 0 0) (show prR pm fm np nf S (sI R 34 0 0) from a3) a4 a5 hw i hi (R.2 34 54) (S.2 31 top) a6 with ⟨v', x', b1, b2, b3⟩ | h
  · left
    obtain ⟨t, b, c, ht, hb, hc, rfl, rfl, h0, -⟩ := vR_tag b1 a4 a5
    exact ⟨t, b, c, ht, hb, hc, h0, b2, b3⟩
  · right
    exact h
theorem kind_ok (hc : coR k S R) (hf : R.1 34 29 = 1 → fiR S R) (hr : ∀ x, Rl S (sI R 34 0 x)) (w : Int32) : aRes Rl aF2 (G_123 w S) (G_179 w R) := by
  obtain ⟨st, bg, md, wt, tot, h1, h2, h3, -⟩ := hc
  unfold G_123 G_179 g_125
  by_cases hw : 1 ≤ w
  · rw [if_pos hw, if_pos hw, h1]
    unfold G_179_10
    rw [if_pos rfl, h2]
    by_cases hs : nI st = 1
    · rw [if_pos hs, if_pos hs, bV_v]
      unfold G_179_29 G_179_30
      rw [th_m, if_pos rfl, if_pos rfl, bI_i, if_pos rfl]
      obtain ⟨j, hj, rfl⟩ := nI_of (x := w) (fun h9 => absurd (Int32.lt_of_lt_of_le h9 (Int32.le_trans (by decide) hw)) (Int32.lt_irrefl))
      have hj1 : 1 ≤ j := (nI_leI (by decide) hj).mp (show nI 1 ≤ nI j from hw)
      rcases way_ok (hf (h2.trans hs)) hj1 hj with ⟨t, b, c, ht, hb, hcc, h0, e1, e2⟩ | ⟨e1, e2⟩
      · rw [e1, e2, bJ_j, bJ_j]
        rw [if_neg (by rw [lg_cmp_0, vE_none, vE_inj (by omega) hcc (by omega) (by omega)]; omega)]
        rw [if_pos (Int32.not_lt.mp (vE_pos (by omega) hb))]
        unfold g_112 g_157
        rw [bI_i, bI_i, vE_tag (by omega) hcc, vE_kind (by omega) hb]
        exact ⟨_, S, nI t, sI R 34 0 0, rfl, rfl, hr 0, Or.inl ⟨rfl, sI_eq _ _ _ _⟩⟩
      · rw [e1, e2, bJ_j, bJ_j, if_pos (by rw [lg_cmp_0, vE_none]), if_neg (by decide)]
        exact ⟨_, S, -1, sI R 34 0 0, rfl, rfl, hr 0, Or.inl ⟨rfl, sI_eq _ _ _ _⟩⟩
    · rw [if_neg hs, if_neg hs, bV_x]
      unfold G_179_30
      rw [th_m, if_pos rfl, if_neg (by decide), bI_i, if_neg (by decide)]
      exact ⟨_, S, 0, sI R 34 0 2, rfl, rfl, hr 2, Or.inr ⟨1, 2, rfl, rfl, sI_eq _ _ _ _⟩⟩
  · rw [if_neg hw, if_neg hw, bV_x]
    unfold G_179_10
    rw [if_neg (by decide)]
    unfold G_179_29 G_179_30
    rw [th_m, if_neg (by decide), bI_i, if_neg (by decide)]
    exact ⟨_, S, 0, sI R 34 0 1, rfl, rfl, hr 1, Or.inr ⟨0, 1, rfl, rfl, sI_eq _ _ _ _⟩⟩
theorem number_ok (hc : coR k S R) (hf : R.1 34 29 = 1 → fiR S R) (hr : ∀ x, Rl S (sI R 34 0 x)) (w : Int32) : aRes Rl aF2 (G_124 w S) (G_180 w R) := by
  obtain ⟨st, bg, md, wt, tot, h1, h2, h3, -⟩ := hc
  unfold G_124 G_180 g_125
  by_cases hw : 1 ≤ w
  · rw [if_pos hw, if_pos hw, h1]
    unfold G_180_10
    rw [if_pos rfl, h2]
    by_cases hs : nI st = 1
    · rw [if_pos hs, if_pos hs, bV_v]
      unfold G_180_29 G_180_30
      rw [th_m, if_pos rfl, if_pos rfl, bI_i, if_pos rfl]
      obtain ⟨j, hj, rfl⟩ := nI_of (x := w) (fun h9 => absurd (Int32.lt_of_lt_of_le h9 (Int32.le_trans (by decide) hw)) (Int32.lt_irrefl))
      have hj1 : 1 ≤ j := (nI_leI (by decide) hj).mp (show nI 1 ≤ nI j from hw)
      rcases way_ok (hf (h2.trans hs)) hj1 hj with ⟨t, b, c, ht, hb, hcc, h0, e1, e2⟩ | ⟨e1, e2⟩
      · rw [e1, e2, bJ_j, bJ_j, if_neg (vE_pos (by omega) hb)]
        unfold g_112 g_157
        rw [bI_i, bI_i, vE_tag (by omega) hcc, vE_kind (by omega) hb]
        by_cases h9 : t = 0
        · subst h9
          have hbc := h0 rfl
          subst hbc
          unfold g_113
          rw [if_pos (show nI 0 = 0 from rfl), if_pos (show nI 0 = 0 from rfl), bI_i]
          exact ⟨_, S, _, sI R 34 0 0, rfl, rfl, hr 0, Or.inl ⟨rfl, sI_eq _ _ _ _⟩⟩
        · rw [if_neg (nI_ne0 (by omega) (by omega)), if_neg (nI_ne0 (by omega) (by omega))]
          exact ⟨_, S, 0, sI R 34 0 0, rfl, rfl, hr 0, Or.inl ⟨rfl, sI_eq _ _ _ _⟩⟩
      · rw [e1, e2, bJ_j, bJ_j, if_pos (show lg_cmp (-1) 0 < 0 by decide)]
        unfold g_112
        rw [bI_i, vE_tag (by omega) (by omega), if_neg (show ¬ nI 5 = 0 by decide)]
        exact ⟨_, S, 0, sI R 34 0 0, rfl, rfl, hr 0, Or.inl ⟨rfl, sI_eq _ _ _ _⟩⟩
    · rw [if_neg hs, if_neg hs, bV_x]
      unfold G_180_30
      rw [th_m, if_pos rfl, if_neg (by decide), bI_i, if_neg (by decide)]
      exact ⟨_, S, 0, sI R 34 0 2, rfl, rfl, hr 2, Or.inr ⟨1, 2, rfl, rfl, sI_eq _ _ _ _⟩⟩
  · rw [if_neg hw, if_neg hw, bV_x]
    unfold G_180_10
    rw [if_neg (by decide)]
    unfold G_180_29 G_180_30
    rw [th_m, if_neg (by decide), bI_i, if_neg (by decide)]
    exact ⟨_, S, 0, sI R 34 0 1, rfl, rfl, hr 1, Or.inr ⟨0, 1, rfl, rfl, sI_eq _ _ _ _⟩⟩
end KIND2
