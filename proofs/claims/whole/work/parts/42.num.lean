/-! numbers -/
abbrev dgW (N : Nat) (tx : Nat → Nat) (k : Nat) : Prop := k < N ∧ 48 ≤ tx k ∧ tx k ≤ 57
section NUM
variable {N : Nat} {tx : Nat → Nat} {S R : amS}
theorem dig_c (hb : ∀ i, i < N → tx i < 256) (k : Nat) : g_110 (tb N tx k) S = some (.inl (some (.int (if dgW N tx k then 1 else 0))), S) := by
  unfold g_110
  by_cases hk : k < N
  · have hbk := hb k hk
    rw [show tb N tx k = nI (tx k) from if_pos hk]
    by_cases h1 : tx k < 48
    · rw [if_pos (show nI (tx k) < 48 from nI_lt (b := 48) h1 (by decide)), if_neg (by omega)]
    · rw [if_neg (show ¬ nI (tx k) < 48 from nI_nlt (b := 48) (by omega) (by omega))]
      by_cases h2 : 57 < tx k
      · rw [if_pos (show (57 : Int32) < nI (tx k) from nI_lt (a := 57) h2 (by omega)), if_neg (by omega)]
      · rw [if_neg (show ¬ (57 : Int32) < nI (tx k) from nI_nlt (a := 57) (by omega) (by decide)), if_pos (by omega)]
  · rw [show tb N tx k = -1 from if_neg hk, if_pos (by decide), if_neg (by omega)]
theorem dg_ne {k : Nat} (h : dgW N tx k) : ¬ enW N tx k := by unfold enW; omega
theorem num_loop {a : Nat} (sg mn : Int32) (haN : a ≤ N) : ∀ (m d k : Nat) (v : Int32) (S : amS), d + m = 9 → txC S N tx → S.1 21 3 = nI k → a ≤ k → k ≤ we N tx a →
    ∃ (k' d' : Nat) (v' : Int32), d ≤ d' ∧ d' ≤ 9 ∧ k' = k + (d' - d) ∧ k' ≤ we N tx a ∧ (m ≠ 0 → (d' = d ↔ ¬ dgW N tx k)) ∧ G_75_33 sg (nI d) v S = G_75_101 sg v' (sI S 21 3 (nI k')) ∧ ∀ R, txM R N tx → wdM R a (we N tx a) → G_151_61 (nI k) mn (nI d) v R = G_151_117 (nI k') mn (nI d') v' R := by
  have hp := we_prop (tx := tx) (N - a) a (Nat.le_refl _)
  have hle := hp.2.1 haN
  intro m
  induction m with
  | zero =>
    intro d k v S hd h hk hak hke
    have hN := h.1
    have hd9 : d = 9 := by omega
    subst hd9
    refine ⟨k, 9, v, Nat.le_refl _, Nat.le_refl _, by omega, hke, fun h => absurd rfl h, ?_, fun R hR hw => ?_⟩
    · rw [G_75_33_eq]
      unfold B_75_33
      rw [if_pos (by decide), sI_self hk]
    · rw [G_151_61_eq]
      unfold B_151_61
      rw [hw.2]
      by_cases hke2 : k < we N tx a
      · have hkN : k < N := by omega
        rw [if_neg (nI_ge hke2 (by omega)), az_ck_in (by omega) (by decide), in_m, bI_i, if_pos (show (9 : Int32) ≤ nI 9 by decide), ite_self]
      · rw [if_pos (nI_le (by omega) (by omega))]
  | succ m ih =>
    intro d k v S hd h hk hak hke
    have hN := h.1
    have hb : ∀ i, i < N → tx i < 256 := fun i hi => (h.2.2 i hi).2
    by_cases hdg : dgW N tx k
    · have hke2 : k < we N tx a := by
        rcases Nat.lt_or_ge k (we N tx a) with h9 | h9
        · exact h9
        · exfalso
          have : k = we N tx a := by omega
          rw [this] at hdg
          exact dg_ne hdg hp.2.2.1
      obtain ⟨k', d', v', q1, q2, q3, q4, q5, q6, q7⟩ := ih (d + 1) (k + 1) (v * 10 + nI (tx k) - 48) (sI S 21 3 (nI (k + 1))) (by omega) (txC_at h _) (sI_eq _ _ _ _) (by omega) (by omega)
      refine ⟨k', d', v', by omega, q2, by omega, q4, fun _ => ⟨fun h9 => by omega, fun h9 => absurd hdg h9⟩, ?_, fun R hR hw => ?_⟩
      · rw [G_75_33_eq]
        unfold B_75_33
        rw [if_neg (show ¬ (9 : Int32) ≤ nI d from nI_ge (b := 9) (by omega) (by decide)), hk, byte_c h (by omega), bI_i, dig_c hb, bI_i, if_pos hdg, if_neg (by decide), hk, byte_c h (by omega), bI_i]
        simp only [az_st]
        rw [hk, nI_1, nI_1, show tb N tx k = nI (tx k) from if_pos hdg.1, q6, sI_sI]
      · rw [G_151_61_eq]
        unfold B_151_61
        rw [hw.2, if_neg (nI_ge hke2 (by omega)), az_ck_in (show k < 250 by omega) (by decide), nI_clamp (by omega), (hR.2.2 k hdg.1).1, in_m, bI_i]
        have hbk := hb k hdg.1
        rw [if_neg (show ¬ nI (tx k) < 48 from nI_nlt (b := 48) (by omega) (by omega)), if_neg (show ¬ (57 : Int32) < nI (tx k) from nI_nlt (a := 57) (by omega) (by decide)), if_neg (by decide), if_neg (show ¬ (9 : Int32) ≤ nI d from nI_ge (b := 9) (by omega) (by decide)), az_ck_in (show k < 250 by omega) (by decide)]
        simp only [az_st]
        rw [(hR.2.2 k hdg.1).1, nI_1, nI_1, Int32.mul_comm 10 v]
        exact q7 R hR hw
    · refine ⟨k, d, v, Nat.le_refl _, by omega, by omega, hke, fun _ => ⟨fun _ => hdg, fun _ => rfl⟩, ?_, fun R hR hw => ?_⟩
      · rw [G_75_33_eq]
        unfold B_75_33
        rw [if_neg (show ¬ (9 : Int32) ≤ nI d from nI_ge (b := 9) (by omega) (by decide)), hk, byte_c h (by omega), bI_i, dig_c hb, bI_i, if_neg hdg, if_pos rfl, sI_self hk]
      · rw [G_151_61_eq]
        unfold B_151_61
        rw [hw.2]
        by_cases hke2 : k < we N tx a
        · have hkN : k < N := by omega
          have hbk := hb k hkN
          rw [if_neg (nI_ge hke2 (by omega)), az_ck_in (show k < 250 by omega) (by decide), nI_clamp (by omega), (hR.2.2 k hkN).1, in_m, bI_i]
          by_cases h1 : tx k < 48
          · rw [if_pos (show nI (tx k) < 48 from nI_lt (b := 48) h1 (by decide)), if_pos rfl]
          · rw [if_neg (show ¬ nI (tx k) < 48 from nI_nlt (b := 48) (by omega) (by omega)), if_pos (show (57 : Int32) < nI (tx k) from nI_lt (a := 57) (by omega) (by omega)), if_pos rfl]
        · rw [if_pos (nI_le (by omega) (by omega))]
end NUM
