/-! kind and number: the ways in a value -/
/-- the values v of the reference and w of the class are alike: pm and fm say which pair, which function is which -/
def vR (pm fm : Nat → Nat) (np nf : Nat) (v w : Int64) : Prop :=
  (∃ b, b < 2 ^ 32 ∧ v = vE 0 b ∧ w = vE 0 b) ∨ (v = vE 1 0 ∧ w = vE 1 0) ∨ (∃ i, i < np ∧ v = vE 2 i ∧ w = vE 2 (pm i)) ∨ (∃ j, j < nf ∧ v = vE 3 j ∧ w = vE 3 (fm j))
def prR (pm fm : Nat → Nat) (np nf : Nat) (S R : amS) : Prop := np ≤ 2000 ∧ ∀ i, i < np → pm i < 2000 ∧ vR pm fm np nf (R.2 52 i) (S.2 26 (pm i)) ∧ vR pm fm np nf (R.2 53 i) (S.2 27 (pm i))
theorem ush_nI {w i : Nat} (hw : w < 2 ^ 31) (hi : i ≤ 30) : az_ushr (nI w) (nI i) = nI (w / 2 ^ i) := by
  unfold az_ushr
  refine pk_ushrN (by omega) (nI i) i ?_
  exact (show ∀ i, i < 31 → (((nI i).toUInt32 &&& Int32.toUInt32 31).toBitVec % 32).toNat = i by decide +kernel) i (by omega)
theorem shr_nI {w i : Nat} (hw : w < 2 ^ 31) (hi : i ≤ 30) : (nI w) >>> (nI i &&& 31) = nI (w / 2 ^ i) := by
  refine pk_shrN hw (nI i &&& 31) i ?_
  exact (show ∀ i, i < 31 → ((nI i &&& 31).toBitVec.smod 32).toNat = i by decide +kernel) i (by omega)
theorem and1_nI {n : Nat} (h : n < 2 ^ 31) : nI n &&& 1 = nI (n % 2) := pk_andN (by omega) (m := 1) 1 (by decide)
theorem way_bit {w i : Nat} (hw : w < 2 ^ 31) : (nI (w / 2 ^ i) &&& 1 = 0) ↔ w / 2 ^ i % 2 = 0 := by
  have h1 : w / 2 ^ i < 2 ^ 31 := Nat.lt_of_le_of_lt (Nat.div_le_self _ _) hw
  rw [and1_nI h1, show (0 : Int32) = nI 0 from rfl, nI_eq (by omega) (by decide)]
section KIND
variable {pm fm : Nat → Nat} {np nf : Nat} {S R : amS}
theorem vR_tag {v w : Int64} (h : vR pm fm np nf v w) (hp : ∀ i, i < np → i < 2000 ∧ pm i < 2000) (hf : ∀ i, i < nf → i < 2000 ∧ fm i < 2000) : ∃ t b c : Nat, t < 4 ∧ b < 2 ^ 32 ∧ c < 2 ^ 32 ∧ v = vE t b ∧ w = vE t c ∧ (t = 0 → b = c) ∧ (t = 2 → b < np ∧ c = pm b) ∧ (t = 3 → b < nf ∧ c = fm b) ∧ (t = 1 → b = 0 ∧ c = 0) := by
  rcases h with ⟨b, h1, h2, h3⟩ | ⟨h2, h3⟩ | ⟨i, h1, h2, h3⟩ | ⟨j, h1, h2, h3⟩
  · exact ⟨0, b, b, by decide, h1, h1, h2, h3, fun _ => rfl, fun h => by omega, fun h => by omega, fun h => by omega⟩
  · exact ⟨1, 0, 0, by decide, by decide, by decide, h2, h3, fun _ => rfl, fun h => by omega, fun h => by omega, fun _ => ⟨rfl, rfl⟩⟩
  · have := hp i h1
    exact ⟨2, i, pm i, by decide, by omega, by omega, h2, h3, fun h => by omega, fun _ => ⟨h1, rfl⟩, fun h => by omega, fun h => by omega⟩
  · have := hf j h1
    exact ⟨3, j, fm j, by decide, by omega, by omega, h2, h3, fun h => by omega, fun h => by omega, fun _ => ⟨h1, rfl⟩, fun h => by omega⟩
theorem way_loop (hP : prR pm fm np nf S R) (hp : ∀ i, i < np → i < 2000 ∧ pm i < 2000) (hf : ∀ i, i < nf → i < 2000 ∧ fm i < 2000) {w : Nat} (hw : w < 2 ^ 31) : ∀ (i : Nat), i ≤ 30 → ∀ (v x : Int64), vR pm fm np nf v x →
    (∃ v' x', vR pm fm np nf v' x' ∧ G_53_39 (nI w) x (nI i + (-1)) S = some (.inl (some (.long x')), S) ∧ G_178_27 (nI w) v (nI i + (-1)) R = some (.inl (some (.long v')), R)) ∨
    (G_53_39 (nI w) x (nI i + (-1)) S = some (.inl (some (.long (vE 5 0))), S) ∧ G_178_27 (nI w) v (nI i + (-1)) R = some (.inl (some (.long (-1))), R)) := by
  intro i
  induction i with
  | zero =>
    intro _ v x h
    left
    refine ⟨v, x, h, ?_, ?_⟩
    · rw [G_53_39_eq]; unfold B_53_39; rw [if_pos (by decide)]
    · rw [G_178_27_eq]; unfold B_178_27; rw [if_pos (by decide)]
  | succ i ih =>
    intro hi v x h
    obtain ⟨t, b, c, ht, hb, hc, rfl, rfl, h0, h2, h3, h1⟩ := vR_tag h hp hf
    have e1 : nI (i + 1) + (-1) = nI i := pk_m1 i
    rw [G_53_39_eq, G_178_27_eq]
    unfold B_53_39 B_178_27
    rw [e1, if_neg (nI_pos (by omega)), if_neg (nI_pos (by omega)), if_neg (vE_pos (by omega) hb)]
    unfold g_112 g_157
    rw [bI_i, bI_i, vE_tag (by omega) hc, vE_kind (by omega) hb, ush_nI hw (by omega), shr_nI hw (by omega)]
    by_cases ht2 : t = 2
    · subst ht2
      obtain ⟨hbn, rfl⟩ := h2 rfl
      have hb2 := hp b hbn
      obtain ⟨-, q1, q2⟩ := hP.2 b hbn
      have et : nI 2 = 2 := rfl
      rw [if_pos et, if_pos et]
      unfold g_23 g_24 g_113
      rw [vE_body (by omega) hc, vE_body (by omega) hb, az_ck_in (by omega) (by decide), az_ck_in (by omega) (by decide), nI_clamp (by omega)]
      by_cases hz : w / 2 ^ i % 2 = 0
      · rw [if_pos ((way_bit hw).mpr hz), if_pos ((way_bit hw).mpr hz), bI_i, bJ_j, az_rj_in _ _ _ (by omega) (by decide)]
        unfold G_53_84 G_178_76
        exact ih (by omega) _ _ q1
      · rw [if_neg (fun h => hz ((way_bit hw).mp h)), if_neg (fun h => hz ((way_bit hw).mp h)), bI_i, bJ_j, az_rj_in _ _ _ (by omega) (by decide)]
        unfold G_53_84 G_178_76
        exact ih (by omega) _ _ q2
    · right
      have et : ¬ nI t = 2 := fun h => ht2 ((nI_eq (by omega) (by decide)).mp (show nI t = nI 2 from h))
      rw [if_neg et, if_neg et]
      exact ⟨by rw [vE_none], rfl⟩
end KIND
