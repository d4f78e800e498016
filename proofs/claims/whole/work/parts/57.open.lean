/-! a list is opened -/
noncomputable def opK (kd : Int32) (nn : Nat) (R3 : amS) : amQ := if kd = 3 then az_bV (G_133 40 R3) fun S9 => G_146_214 (nI nn) S9 else if kd = 5 then G_146_304 kd (nI nn) R3 else if kd = 6 then G_146_304 kd (nI nn) R3 else if kd = 7 then (az_bV (G_134 R3) fun S4 => az_bI (g_136 S4) fun x5 S6 => if x5 = 0 then G_146_417 (nI nn) (-1) S6 else az_ck (S6.1 34 27) 250 (az_bI (G_139 (S6.1 35 (S6.1 34 27).toNatClampNeg) S6) fun x7 S8 => G_146_417 (nI nn) x7 S8)) else some (.inl none, R3)
/-- the node that is open, and all before it -/
def FO (R0 : amS) (N : Nat) (tx : Nat → Nat) (p q nn nb dl : Nat) (cx : cxT) (P : List (Nat × Nat)) (kd v : Int32) (R R3 : amS) : Prop :=
  MR N tx q (nn + 1) nb (dl + 1) (scO cx) R3 ∧ opM R3 (dl + 1) nn 0 (scO cx).length ∧ ndF R3 nn kd (nI p) v (-1) (-1) 0 0 ∧ R3.1 41 nn = -1 ∧ fM 1000 1000 nn nb dl P R R3 ∧ pfM R0 R3 ∧ R3.1 46 = R.1 46
section OPEN
variable {S0 R0 : amS} {N : Nat} {tx : Nat → Nat} {a b sz nc pd fc h nn nb dl : Nat} {cx : cxT} {P : List (Nat × Nat)} {S R : amS}
/-- a node and a push -/
theorem FO_mk {p q : Nat} {kd v : Int32} {Rw : amS} (h : MR N tx q nn nb dl (scO cx) Rw) (hn : nn < 256) (hd : dl < 20) (hf : fM 1000 1000 nn nb dl P R Rw) (hp : pfM R0 Rw) (h46 : Rw.1 46 = R.1 46) :
    g_137 kd (nI p) v Rw = some (.inl (some (.int (nI nn))), ndS Rw nn kd (nI p) v) ∧ g_145 (nI nn) (ndS Rw nn kd (nI p) v) = some (.inl none, puS (ndS Rw nn kd (nI p) v) dl nn (scO cx).length) ∧
    FO R0 N tx p q nn nb dl cx P kd v R (puS (ndS Rw nn kd (nI p) v) dl nn (scO cx).length) := by
  have h1 := MR_ndpu h kd (nI p) v (scO cx).length
  have hF := ndS_F (R := Rw) (nn := nn) kd (nI p) v
  refine ⟨node_m h.2.2.2.1.1.1 hn kd (nI p) v, push_m (R := ndS Rw nn kd (nI p) v) h.2.2.2.2.2.1 h.2.2.2.2.2.2.1 hd nn, h1, opM_pu nn _, hF.1, hF.2, ?_, pfM_pu (pfM_nd hp kd (nI p) v) nn _, h46⟩
  exact fM_trans (nc := 0) hf (fM_trans (nc := 0) (fM_nd kd (nI p) v 1000 1000 nb dl P) (fM_pu 1000 1000 nn nb nn _ P) (Nat.le_refl _) (Nat.le_refl _) (Nat.le_refl _) (Or.inl rfl) (PE_refl P 0 nb)) (Nat.le_refl _) (Nat.le_refl _) (Nat.le_refl _) (Or.inl rfl) (PE_refl P 0 nb)
def kdW (j : Nat) : Int32 := if j < 6 then nI (3 + j) else 9
def ofW (j : Nat) : Int32 := if j < 6 then 0 else nI (j - 6)
/-- the reference opens a list with a word -/
theorem open_w (hr : RL S0 R0 N tx a b sz nc pd fc h nn nb dl cx P S R) (hn : nn < 256) (hd : dl < 20) (h40 : tb N tx (sk N tx a) = 40) {j : Nat} (hj : hdW N tx (sk N tx (sk N tx a + 1)) = some j) :
    ∃ R3, G_146 (sI R 34 4 (nI (sk N tx a))) = opK (kdW j) nn R3 ∧ FO R0 N tx (sk N tx a) (we N tx (sk N tx (sk N tx a + 1))) nn nb dl cx P (kdW j) (ofW j) R R3 := by
  obtain ⟨t1, t2, t3, t4, t5, t6⟩ := hr
  have hbt : ∀ i, i < N → tx i < 256 := fun i hi => (t1.1.2.2 i hi).2
  have hpN : sk N tx a < N := ((tb_eq (c := 40) (by decide) hbt).mp h40).1
  have hN := t1.1.1
  have m1 := MR_at t2 (b' := sk N tx a) (by omega)
  have m2 := MR_at t2 (b' := sk N tx a + 1) (by omega)
  have hs1 := sk_le (N := N) (tx := tx) (a := sk N tx a + 1) (by omega)
  have m3 := MR_at t2 (b' := sk N tx (sk N tx a + 1)) hs1
  have hwp := we_prop (tx := tx) (N - sk N tx (sk N tx a + 1)) (sk N tx (sk N tx a + 1)) (Nat.le_refl _)
  have hwe := hwp.2.1 hs1
  obtain ⟨j1, j2, -⟩ := hdW_some hj
  -- the word does not begin with a bracket
  have hne : ¬ enW N tx (sk N tx (sk N tx a + 1)) := by
    have hl := wd_len j (by omega)
    have hmt := (mt_iff (N := N) (tx := tx) (wd_rng j (by omega)) (sk N tx (sk N tx a + 1))).mp j2
    exact hwp.2.2.2 _ (Nat.le_refl _) (by omega)
  have hc2 : tb N tx (sk N tx (sk N tx a + 1)) ≠ 40 := fun h9 => hne (Or.inr (Or.inr (Or.inl ((tb_eq (c := 40) (by decide) hbt).mp h9).2)))
  have m4 := MR_wr (p := sk N tx (sk N tx a + 1)) m3 hwe
  have hwd := wrM_wd (sI R 34 4 (nI (sk N tx (sk N tx a + 1)))) (sk N tx (sk N tx a + 1)) (we N tx (sk N tx (sk N tx a + 1)))
  obtain ⟨z1, z2, z3⟩ := FO_mk (R0 := R0) (R := R) (P := P) (p := sk N tx a) (kd := kdW j) (v := ofW j) m4 hn hd (fM_refl 1000 1000 nn nb dl P R) (pfM_wr (pfM_at t6 _) _ _) rfl
  refine ⟨_, ?_, z3⟩
  unfold G_146
  simp only [az_st]
  rw [m1.2.1.1, m1.2.2.2.2.2.1, if_neg (show ¬ nI dl = 20 from fun h9 => by have := (nI_eq (by omega) (by decide)).mp (show nI dl = nI 20 from h9); omega), nI_1, sI_sI, see_r m2, sI_sI, bI_i, if_neg hc2, word_r m3, sk_sk, bV_v, kw_m m4.1 hwd hs1, bI_i, pr_m m4.1 hwd hs1, bI_i, hj]
  have k1 : ∀ l3 s1 s3, s1 = kdW j → s3 = ofW j → (∀ x : Int32, x = 3 ∨ x = 5 ∨ x = 6 ∨ x = 7 → (l3 = x ↔ kdW j = x)) → (kdW j = 5 ∨ kdW j = 6 → l3 = kdW j) → G_146_192 l3 s1 (nI (sk N tx a)) s3 (wrM (sI R 34 4 (nI (sk N tx (sk N tx a + 1)))) (sk N tx (sk N tx a + 1)) (we N tx (sk N tx (sk N tx a + 1)))) = opK (kdW j) nn (puS (ndS (wrM (sI R 34 4 (nI (sk N tx (sk N tx a + 1)))) (sk N tx (sk N tx a + 1)) (we N tx (sk N tx (sk N tx a + 1)))) nn (kdW j) (nI (sk N tx a)) (ofW j)) dl nn (scO cx).length) := by
    intro l3 s1 s3 q1 q3 q2 q5
    unfold G_146_192 opK
    rw [q1, q3, z1, bI_i, z2, bV_v]
    have a3 := q2 3 (by decide)
    have a5 := q2 5 (by decide)
    have a6 := q2 6 (by decide)
    have a7 := q2 7 (by decide)
    by_cases c3 : kdW j = 3
    · rw [if_pos (a3.mpr c3), if_pos c3]
    · rw [if_neg (fun h => c3 (a3.mp h)), if_neg c3]
      by_cases c5 : kdW j = 5
      · rw [if_pos (a5.mpr c5), if_pos c5, q5 (Or.inl c5)]
      · rw [if_neg (fun h => c5 (a5.mp h)), if_neg c5]
        by_cases c6 : kdW j = 6
        · rw [if_pos (a6.mpr c6), if_pos c6, q5 (Or.inr c6)]
        · rw [if_neg (fun h => c6 (a6.mp h)), if_neg c6]
          by_cases c7 : kdW j = 7
          · rw [if_pos (a7.mpr c7), if_pos c7]
          · rw [if_neg (fun h => c7 (a7.mp h)), if_neg c7]
  unfold G_146_170 G_146_181
  by_cases h6 : j < 6
  · have e1 : kwV (some j) = kdW j := (if_pos h6 : kwV (some j) = nI (3 + j)).trans (if_pos h6 : kdW j = nI (3 + j)).symm
    have e0 : kdW j = nI (3 + j) := if_pos h6
    have hp0 : (0 : Int32) ≤ kdW j := by rw [e0]; exact nI_le (a := 0) (by omega) (by omega)
    rw [e1, if_pos hp0, if_pos hp0, if_pos hp0]
    exact k1 _ _ _ rfl (by unfold ofW; rw [if_pos h6]) (fun _ _ => Iff.rfl) (fun _ => rfl)
  · have e1 : kwV (some j) = -1 := by unfold kwV; exact if_neg h6
    have e2 : prV (some j) = ofW j := (if_neg h6 : prV (some j) = nI (j - 6)).trans (if_neg h6 : ofW j = nI (j - 6)).symm
    have e3 : kdW j = 9 := if_neg h6
    have e4 : ofW j = nI (j - 6) := if_neg h6
    rw [e1, e2, if_neg (by decide), if_pos (show (0 : Int32) ≤ ofW j by rw [e4]; exact nI_le (a := 0) (by omega) (by omega)), if_neg (by decide), if_neg (by decide)]
    refine k1 _ _ _ e3.symm rfl (fun x hx => ?_) (fun h9 => ?_)
    · rw [e3]
      rcases hx with rfl | rfl | rfl | rfl <;> decide
    · rw [e3] at h9
      rcases h9 with h9 | h9 <;> exact absurd h9 (by decide)
/-- the class comes to a list's head -/
theorem open_c (hr : RL S0 R0 N tx a b sz nc pd fc h nn nb dl cx P S R) (hd : dl < 20) (h40 : tb N tx (sk N tx a) = 40) (k : Nat) :
    (∀ j, hdW N tx (sk N tx (sk N tx a + 1)) = some j → G_b73 k (nI dl) S = az_bV (G_80 k (1000 + j) (nI (sk N tx a)) (nI (dl + 1)) (sI S 21 3 (nI (we N tx (sk N tx (sk N tx a + 1)))))) (fun S7 => G_81 41 S7)) ∧
    (hdW N tx (sk N tx (sk N tx a + 1)) = none → G_b73 k (nI dl) S = az_bV (G_93 k (nI (sk N tx a)) (nI (dl + 1)) (sI S 21 3 (nI (sk N tx (sk N tx a + 1))))) (fun S7 => G_81 41 S7)) := by
  obtain ⟨t1, t2, t3, t4, t5, t6⟩ := hr
  have hbt : ∀ i, i < N → tx i < 256 := fun i hi => (t1.1.2.2 i hi).2
  have hpN : sk N tx a < N := ((tb_eq (c := 40) (by decide) hbt).mp h40).1
  have hN := t1.1.1
  have c1 := CR_sk t1
  have c2 := CR_at t1 (a' := sk N tx a + 1) (by omega)
  have hs1 := sk_le (N := N) (tx := tx) (a := sk N tx a + 1) (by omega)
  have c3 := CR_at t1 (a' := sk N tx (sk N tx a + 1)) hs1
  have e78 : ∀ (X : amQ), az_bV (az_bV X (fun S7 => G_78_76 k S7)) (fun S15 => some (.inl none, S15)) = az_bV X (fun S7 => G_81 41 S7) := by
    intro X
    rcases X with _ | ⟨_ | _, S'⟩
    · rfl
    · rename_i v
      cases v with
      | none =>
        show az_bV (G_78_76 k S') (fun S15 => some (.inl none, S15)) = G_81 41 S'
        unfold G_78_76
        rw [bV_id]
        have : ∀ (q : amQ), (∀ v S, q ≠ some (.inl (some v), S)) → az_bV q (fun S15 => some (.inl none, S15)) = q := by
          intro q hq
          rcases q with _ | ⟨_ | _, S2⟩
          · rfl
          · rename_i v
            cases v with
            | none => rfl
            | some v => exact absurd rfl (hq v S2)
          · rfl
        refine this _ (fun v S2 h9 => ?_)
        unfold G_81 at h9
        rcases hG : G_104 S' with _ | ⟨_ | _, S3⟩
        · rw [hG] at h9; cases h9
        · rename_i v2
          rw [hG] at h9
          cases v2 with
          | none => cases h9
          | some w =>
            cases w with
            | int x =>
              rw [bI_i] at h9
              by_cases hx : x = 41
              · rw [if_pos hx] at h9
                simp only [G_81_22, az_st] at h9
                cases h9
              · rw [if_neg hx] at h9
                simp only [g_72, az_st, bV_x] at h9
                cases h9
            | _ => cases h9
        · rw [hG] at h9; cases h9
      | some w => rfl
    · rfl
  have e0 : G_b73 k (nI dl) S = az_bV (G_78_11 k (nI (sk N tx a)) (nI (dl + 1)) (sI S 21 3 (nI (sk N tx a)))) (fun S15 => some (.inl none, S15)) := by
    unfold G_b73
    rw [skip_r t1, bI_i, next_r c1, bI_i, sk_sk, sI_sI, if_pos h40, nI_1]
    unfold G_78
    rw [if_pos (show nI (dl + 1) ≤ 20 from nI_le (b := 20) (by omega) (by decide))]
  have e1 : G_78_11 k (nI (sk N tx a)) (nI (dl + 1)) (sI S 21 3 (nI (sk N tx a))) = az_bW (G_79 (sI S 21 3 (nI (sk N tx (sk N tx a + 1))))) (fun x4 S5 => az_if (1000 ≤ x4 ∧ x4 < 1019) (az_if (1100 ≤ (x4 + 100) ∧ (x4 + 100) < 1120) (az_st (sI S5 21 3 ((S5.1 21 3) + (Int32.ofNat (am_tx.getD ((x4 + 100) - 1100) []).length))) fun S6 => az_bV (G_80 k x4 (nI (sk N tx a)) (nI (dl + 1)) S6) fun S7 => G_78_76 k S7))) (fun S5 => az_bV (G_93 k (nI (sk N tx a)) (nI (dl + 1)) S5) fun S8 => G_78_76 k S8) := by
    unfold G_78_11
    simp only [az_st]
    rw [sI_eq, nI_1, sI_sI, skip_r c2, sI_sI, bI_i]
  constructor
  · intro j hj
    obtain ⟨j1, j2, -⟩ := hdW_some hj
    have hmt := ((mt_iff (N := N) (tx := tx) (wd_rng j (by omega)) (sk N tx (sk N tx a + 1))).mp j2).1
    rw [e0, e1, head_c c3.1 c3.2.1.1 c3.2.1.2, hj, bW_r]
    simp only [az_if, az_st]
    rw [if_pos (by omega), if_pos (by omega), show 1000 + j + 100 - 1100 = j by omega, wd_tx j (by omega), List.length_map, sI_eq, show Int32.ofNat (wdN.getD j []).length = nI (wdN.getD j []).length from rfl, nI_add, sI_sI, ← hmt, e78]
  · intro hj
    rw [e0, e1, head_c c3.1 c3.2.1.1 c3.2.1.2, hj, bW_n, e78]
end OPEN
