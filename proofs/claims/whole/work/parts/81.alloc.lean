/-! a link for a new variable -/
section ALLOC
variable {R : amS}
/-- what is reached: from the link in force, from another root, from waits and functions -/
def rch (ll la : List Nat) (w nf : Nat) (lw lf : Nat → List Nat) (n : Nat) : Prop := n ∈ ll ∨ n ∈ la ∨ (∃ i, i < w ∧ n ∈ lw i) ∨ (∃ i, i < nf ∧ n ∈ lf i)
theorem gather_m {also : Int32} {ll la : List Nat} {w nf : Nat} {lw lf : Nat → List Nat} (hll : chn (R.1 58) (R.1 34 52) ll) (hla : chn (R.1 58) also la) (hw : w ≤ 8000) (h49 : R.1 34 49 = nI w) (hlw : ∀ i, i < w → chn (R.1 58) (R.1 62 i) (lw i)) (hf : nf ≤ 2000) (h39 : R.1 34 39 = nI nf) (hlf : ∀ i, i < nf → chn (R.1 58) (R.1 55 i) (lf i)) :
    ∃ R2 fl, G_161 also R = some (.inl none, R2) ∧ (∀ a, a ≠ 34 → a ≠ 58 → a ≠ 59 → R2.1 a = R.1 a) ∧ (∀ j, j ≠ 44 → R2.1 34 j = R.1 34 j) ∧ R2.2 = R.2 ∧ (∀ n, rch ll la w nf lw lf n → R2.1 58 n = R.1 58 n) ∧ chn (R2.1 58) (R2.1 34 44) fl ∧ fl.Nodup ∧ (∀ n, n ∈ fl ↔ (n < 120000 ∧ ¬ rch ll la w nf lw lf n)) := by
  unfold G_161
  obtain ⟨R1, q1, q2, q3, q4⟩ := clear_m (R := R) (l1 := also) 120000 0 R (by decide) (fun n hn => absurd hn (by omega)) (fun _ _ => rfl) rfl
  have q1' : G_161_2 also 0 R = _ := q1
  rw [q1']
  have m1 : mkd R1 (fun _ => False) := ⟨fun n hn => Or.inl (q2 n hn), fun n hn => ⟨fun h => absurd (q2 n hn) h, fun h => absurd h (fun h => h)⟩, fun n l h0 hc => absurd (q2 n hc.2.1) h0⟩
  obtain ⟨R2, s1, s2, s3, s4⟩ := see_m2 (R := R1) (k := R1.1 34 52) (l := ll) (by rw [q3 58 (by decide), q3 34 (by decide)]; exact hll) m1
  have o2 : ∀ a, a ≠ 59 → R2.1 a = R.1 a := fun a ha => (s2 a ha).trans (q3 a ha)
  obtain ⟨R3, t1, t2, t3, t4⟩ := see_m2 (R := R2) (k := also) (l := la) (by rw [o2 58 (by decide)]; exact hla) s4
  have o3 : ∀ a, a ≠ 59 → R3.1 a = R.1 a := fun a ha => (t2 a ha).trans (o2 a ha)
  obtain ⟨R4, A4, u1, u2, u3, u4, u5⟩ := seeW_m hw h49 lw hlw w 0 R3 _ (by omega) t4 o3 (t3.trans (s3.trans q4))
  obtain ⟨R5, A5, v1, v2, v3, v4, v5⟩ := seeF_m hf h39 lf hlf nf 0 R4 A4 (by omega) u2 u4 u5
  have hA : ∀ n, A5 n ↔ rch ll la w nf lw lf n := by
    intro n
    rw [v3, u3]
    unfold rch
    constructor
    · rintro (((((h | h) | h) | ⟨i, i1, i2, i3⟩)) | ⟨i, i1, i2, i3⟩)
      · exact absurd h (fun h => h)
      · exact Or.inl h
      · exact Or.inr (Or.inl h)
      · exact Or.inr (Or.inr (Or.inl ⟨i, i2, i3⟩))
      · exact Or.inr (Or.inr (Or.inr ⟨i, i2, i3⟩))
    · rintro (h | h | ⟨i, i2, i3⟩ | ⟨i, i2, i3⟩)
      · exact Or.inl (Or.inl (Or.inl (Or.inr h)))
      · exact Or.inl (Or.inl (Or.inr h))
      · exact Or.inl (Or.inr ⟨i, by omega, i2, i3⟩)
      · exact Or.inr ⟨i, by omega, i2, i3⟩
  obtain ⟨R6, fl, y1, y2, y3, y4, y5, y6, y7, y8⟩ := free_m (R := sI R5 34 44 (-1)) (A := A5) (fun n hn => v2.2.1 n hn) 120000 (sI R5 34 44 (-1)) [] (by omega) (fun _ _ _ => rfl) (fun _ _ => rfl) rfl (fun _ _ => rfl) (sI_eq _ _ _ _) List.nodup_nil (fun n => ⟨fun h => (by cases h), fun h => (by omega)⟩)
  have e1 : nI 120000 + (-1) = 119999 := by decide
  rw [e1] at y1
  refine ⟨R6, fl, ?_, fun a h1 h2 h3 => ?_, fun j hj => ?_, ?_, fun n hn => ?_, y6, y7, fun n => ?_⟩
  · have u1' : G_161_36 0 R3 = _ := u1
    have v1' : G_161_62 0 R4 = _ := v1
    rw [s1, bV_v, t1, bV_v, u1', v1', y1]
  · rw [y2 a h1 h2, sI_row, if_neg h1]; exact v4 a h3
  · rw [y3 j hj, sI_nk _ hj, v4 34 (by decide)]
  · exact y4.trans v5
  · rw [y5 n ((hA n).mpr hn), sI_na _ (by decide), v4 58 (by decide)]
  · rw [y8, hA]
/-- the free list, and who is on it -/
def frL (R : amS) (A : Nat → Prop) : Prop := ∃ fl, chn (R.1 58) (R.1 34 44) fl ∧ fl.Nodup ∧ ∀ n ∈ fl, ¬ A n
/-- a variable is bound: a link that nothing reaches is taken -/
theorem alloc_m {also v : Int32} {x : Int64} {ll la : List Nat} {w nf : Nat} {lw lf : Nat → List Nat} (hll : chn (R.1 58) (R.1 34 52) ll) (hla : chn (R.1 58) also la) (hw : w ≤ 8000) (h49 : R.1 34 49 = nI w) (hlw : ∀ i, i < w → chn (R.1 58) (R.1 62 i) (lw i)) (hf : nf ≤ 2000) (h39 : R.1 34 39 = nI nf) (hlf : ∀ i, i < nf → chn (R.1 58) (R.1 55 i) (lf i)) (hfr : frL R (rch ll la w nf lw lf)) (hpg : ∃ n, n < 120000 ∧ ¬ rch ll la w nf lw lf n) :
    ∃ R2 k, G_162 v x also R = some (.inl (some (.int (nI k))), R2) ∧ k < 120000 ∧ ¬ rch ll la w nf lw lf k ∧ (∀ a, a ≠ 34 → a ≠ 56 → a ≠ 58 → a ≠ 59 → R2.1 a = R.1 a) ∧ (∀ j, j ≠ 44 → R2.1 34 j = R.1 34 j) ∧ (∀ a, a ≠ 57 → R2.2 a = R.2 a) ∧
      (∀ n, n ≠ k → R2.1 56 n = R.1 56 n ∧ R2.2 57 n = R.2 57 n) ∧ (∀ n, rch ll la w nf lw lf n → R2.1 58 n = R.1 58 n) ∧ R2.1 56 k = v ∧ R2.2 57 k = x ∧ R2.1 58 k = also ∧ frL R2 (fun n => n = k ∨ rch ll la w nf lw lf n) := by
  have key : ∀ (R1 : amS) (fl : List Nat), (∀ a, a ≠ 34 → a ≠ 58 → a ≠ 59 → R1.1 a = R.1 a) → (∀ j, j ≠ 44 → R1.1 34 j = R.1 34 j) → R1.2 = R.2 → (∀ n, rch ll la w nf lw lf n → R1.1 58 n = R.1 58 n) → chn (R1.1 58) (R1.1 34 44) fl → fl.Nodup → (∀ n ∈ fl, ¬ rch ll la w nf lw lf n) → fl ≠ [] → ∃ R2 k, G_162_13 v x also R1 = some (.inl (some (.int (nI k))), R2) ∧ k < 120000 ∧ ¬ rch ll la w nf lw lf k ∧ (∀ a, a ≠ 34 → a ≠ 56 → a ≠ 58 → a ≠ 59 → R2.1 a = R.1 a) ∧ (∀ j, j ≠ 44 → R2.1 34 j = R.1 34 j) ∧ (∀ a, a ≠ 57 → R2.2 a = R.2 a) ∧
      (∀ n, n ≠ k → R2.1 56 n = R.1 56 n ∧ R2.2 57 n = R.2 57 n) ∧ (∀ n, rch ll la w nf lw lf n → R2.1 58 n = R.1 58 n) ∧ R2.1 56 k = v ∧ R2.2 57 k = x ∧ R2.1 58 k = also ∧ frL R2 (fun n => n = k ∨ rch ll la w nf lw lf n) := by
    intro R1 fl o1 o2 o3 o4 hc hnd hnA hne
    cases fl with
    | nil => exact absurd rfl hne
    | cons k fl =>
      have hk := hc.2.1
      have hkA := hnA k List.mem_cons_self
      have hkf := (List.nodup_cons.mp hnd).1
      refine ⟨sI (sJ (sI (sI R1 34 44 (R1.1 58 k)) 56 k v) 57 k x) 58 k also, k, ?_, hk, hkA, fun a h1 h2 h3 h4 => ?_, fun j hj => ?_, fun a ha => ?_, fun n hn => ⟨?_, ?_⟩, fun n hn => ?_, ?_, ?_, sI_eq _ _ _ _, fl, ?_, (List.nodup_cons.mp hnd).2, fun n hn h9 => ?_⟩
      · unfold G_162_13
        simp only [az_st]
        rw [hc.1, az_ck_in hk (by decide), nI_clamp (by omega), az_ck_in hk (by decide), az_ck_in hk (by decide), az_ck_in hk (by decide)]
      · rw [sI_row, if_neg h3]
        show (sI (sI R1 34 44 (R1.1 58 k)) 56 k v).1 a = _
        rw [sI_row, if_neg h2, sI_row, if_neg h1]
        exact o1 a h1 h3 h4
      · rw [sI_na _ (by decide)]
        show (sI (sI R1 34 44 (R1.1 58 k)) 56 k v).1 34 j = _
        rw [sI_na _ (by decide), sI_nk _ hj]
        exact o2 j hj
      · funext n
        show (sJ (sI (sI R1 34 44 (R1.1 58 k)) 56 k v) 57 k x).2 a n = _
        rw [sJ_na _ ha]
        show R1.2 a n = _
        rw [o3]
      · rw [sI_na _ (by decide)]
        show (sI (sI R1 34 44 (R1.1 58 k)) 56 k v).1 56 n = _
        rw [sI_nk _ hn, sI_na _ (by decide), o1 56 (by decide) (by decide) (by decide)]
      · show (sJ (sI (sI R1 34 44 (R1.1 58 k)) 56 k v) 57 k x).2 57 n = _
        rw [sJ_nk _ hn]
        show R1.2 57 n = _
        rw [o3]
      · have hnk : n ≠ k := fun h9 => hkA (h9 ▸ hn)
        rw [sI_nk _ hnk]
        show (sI (sI R1 34 44 (R1.1 58 k)) 56 k v).1 58 n = _
        rw [sI_na _ (by decide), sI_na _ (by decide)]
        exact o4 n hn
      · rw [sI_na _ (by decide)]
        show (sI (sI R1 34 44 (R1.1 58 k)) 56 k v).1 56 k = _
        exact sI_eq _ _ _ _
      · show (sJ (sI (sI R1 34 44 (R1.1 58 k)) 56 k v) 57 k x).2 57 k = _
        exact sJ_eq _ _ _ _
      · have e44 : (sI (sJ (sI (sI R1 34 44 (R1.1 58 k)) 56 k v) 57 k x) 58 k also).1 34 44 = R1.1 58 k := by
          rw [sI_na _ (by decide)]
          show (sI (sI R1 34 44 (R1.1 58 k)) 56 k v).1 34 44 = _
          rw [sI_na _ (by decide), sI_eq]
        rw [e44]
        refine chn_keep hc.2.2 (fun n hn => ?_)
        have hnk : n ≠ k := fun h9 => hkf (h9 ▸ hn)
        rw [sI_nk _ hnk]
        show (sI (sI R1 34 44 (R1.1 58 k)) 56 k v).1 58 n = _
        rw [sI_na _ (by decide), sI_na _ (by decide)]
      · rcases h9 with h9 | h9
        · exact hkf (h9 ▸ hn)
        · exact hnA n (List.mem_cons_of_mem _ hn) h9
  obtain ⟨fl, f1, f2, f3⟩ := hfr
  unfold G_162
  cases fl with
  | nil =>
    have f1 : R.1 34 44 = -1 := f1
    rw [if_neg (by rw [f1]; decide)]
    obtain ⟨R2, fl, q1, q2, q3, q4, q5, q6, q7, q8⟩ := gather_m hll hla hw h49 hlw hf h39 hlf
    rw [q1, bV_v]
    obtain ⟨n, n1, n2⟩ := hpg
    exact key R2 fl q2 q3 q4 q5 q6 q7 (fun m hm => ((q8 m).mp hm).2) (fun h9 => by
      have := (q8 n).mpr ⟨n1, n2⟩
      rw [h9] at this
      cases this)
  | cons k fl =>
    rw [if_pos (by rw [f1.1]; exact nI_le (a := 0) (by omega) (by have := f1.2.1; omega))]
    exact key R (k :: fl) (fun _ _ _ _ => rfl) (fun _ _ => rfl) rfl (fun _ _ => rfl) f1 f2 f3 (by simp)
end ALLOC
