/-! lambda: its parameters -/
section LAMB2
variable {S0 R0 : amS} {N : Nat} {tx : Nat → Nat} {a q sz nc pd fc h nn nb dl : Nat} {cx : cxT} {P : List (Nat × Nat)} {S R Sq R3 : amS}
theorem TLD_skip {a1 b1 sz1 nc1 fc1 h1 nn1 nb1 : Nat} {P1 : List (Nat × Nat)} {ls rv : List Nat} {S1 R1 : amS} (h : TLD S0 R0 N tx pd nn nb dl cx a1 b1 sz1 nc1 fc1 h1 nn1 nb1 P1 ls rv S1 R1) : TLD S0 R0 N tx pd nn nb dl cx (sk N tx a1) (sk N tx b1) sz1 nc1 fc1 h1 nn1 nb1 P1 ls rv (sI S1 21 3 (nI (sk N tx a1))) (sI R1 34 4 (nI (sk N tx b1))) := by
  obtain ⟨t1, t2, t3, t4, t5, t6, t7, t8, t9, t10⟩ := h
  exact ⟨CR_sk t1, t2, MR_sk t3, by rw [sk_sk, sk_sk]; exact t4, JP_rows t5 rfl rfl, pfC_at t6 _, pfM_at t7 _, t8, t9, t10⟩
theorem TLD_skipC {a1 b1 sz1 nc1 fc1 h1 nn1 nb1 : Nat} {P1 : List (Nat × Nat)} {ls rv : List Nat} {S1 R1 : amS} (h : TLD S0 R0 N tx pd nn nb dl cx a1 b1 sz1 nc1 fc1 h1 nn1 nb1 P1 ls rv S1 R1) : TLD S0 R0 N tx pd nn nb dl cx (sk N tx a1) b1 sz1 nc1 fc1 h1 nn1 nb1 P1 ls rv (sI S1 21 3 (nI (sk N tx a1))) R1 := by
  obtain ⟨t1, t2, t3, t4, t5, t6, t7, t8, t9, t10⟩ := h
  exact ⟨CR_sk t1, t2, t3, by rw [sk_sk]; exact t4, JP_rows t5 rfl rfl, pfC_at t6 _, t7, t8, t9, t10⟩
theorem bad_214 {R1 : amS} {p : Int32} (hb : bad R0 R1 p) (n : Int32) : ∃ R', G_146_214 n R1 = some (.inl none, R') ∧ bad R0 R' p := by
  refine ⟨_, ?_, bad_w hb (a := 34) (k := 4) (by decide) (fun _ => ⟨Or.inl rfl, by decide, by decide⟩) (R1.1 34 4 + 1)⟩
  rw [G_146_214_eq]
  unfold B_146_214 G_146_267
  rw [if_neg (by rw [hb.1]; decide)]
  simp only [az_st]
  rw [if_neg (by rw [sI_nk _ (by decide), hb.1]; decide)]
/-- the reference's parameters: one step -/
theorem par_m {b nn1 nb1 dl1 : Nat} {sc : List scE} {R1 : amS} (h : MR N tx b nn1 nb1 dl1 sc R1) (hp : pfM R0 R1) (n : Int32) :
    (tb N tx (sk N tx b) = 41 → G_146_214 n R1 = G_146_267 n (sI R1 34 4 (nI (sk N tx b)))) ∧
    ((tb N tx (sk N tx b) = 40 ∨ tb N tx (sk N tx b) = -1) → ∃ R', G_146_214 n R1 = some (.inl none, R') ∧ bad R0 R' (nI (sk N tx b))) ∧
    (tb N tx (sk N tx b) ≠ 41 → tb N tx (sk N tx b) ≠ 40 → tb N tx (sk N tx b) ≠ -1 → G_146_214 n R1 = az_bV (G_140 n (sI R1 34 4 (nI (sk N tx b)))) fun S7 => G_146_214 n S7) := by
  have m1 := MR_sk h
  have s1 := see_r m1
  rw [sk_sk, sI_sI] at s1
  have hbd := bad_fail (pfM_at hp (nI (sk N tx b))) (nI (sk N tx b))
  obtain ⟨R', r1, r2⟩ := bad_214 hbd n
  have e0 : G_146_214 n R1 = (if tb N tx (sk N tx b) = 41 then G_146_267 n (sI R1 34 4 (nI (sk N tx b))) else if tb N tx (sk N tx b) = 40 then G_146_247 G_146_214 n (sI R1 34 4 (nI (sk N tx b))) else if tb N tx (sk N tx b) = -1 then G_146_247 G_146_214 n (sI R1 34 4 (nI (sk N tx b))) else az_bV (G_140 n (sI R1 34 4 (nI (sk N tx b)))) fun S7 => G_146_214 n S7) := by
    rw [G_146_214_eq]
    unfold B_146_214
    rw [if_pos h.2.2.1, see_r h, bI_i, s1, bI_i, s1, bI_i]
  have f0 : G_146_247 G_146_214 n (sI R1 34 4 (nI (sk N tx b))) = some (.inl none, R') := by
    unfold G_146_247
    rw [sI_eq, fail_m m1.2.2.1, bV_v]
    exact r1
  refine ⟨fun h1 => by rw [e0, if_pos h1], fun h1 => ⟨R', ?_, r2⟩, fun h1 h2 h3 => by rw [e0, if_neg h1, if_neg h2, if_neg h3]⟩
  rcases h1 with h1 | h1
  · rw [e0, if_neg (by rw [h1]; decide), if_pos h1, f0]
  · rw [e0, if_neg (by rw [h1]; decide), if_neg (by rw [h1]; decide), if_pos h1, f0]
theorem lam_l {k0 : Nat} (he : EH S0 R0 N tx k0 (dl + 1)) (hN : N ≤ 250) (hb : BD a sz nc pd fc nn nb dl cx) (hh : h ≤ 4 * dl) (hd : dl < 20) (hsd : sdS nc nb (scO cx)) : ∀ (i a1 b1 nb1 : Nat) (ls rv : List Nat) (S1 R1 : amS), ls.length + i = 4 → TLD S0 R0 N tx pd nn nb dl cx a1 b1 sz nc fc h (nn + 1) nb1 P ls rv S1 R1 → ltM (R1.1 50) 240 ls → opM R1 (dl + 1) nn 0 (scO cx).length → ndF R1 nn 3 (nI (sk N tx a)) 0 (-1) (-1) 0 (nI ls.length) → R1.1 41 nn = -1 → fM 1000 1000 nn nb dl P R R1 → fC sz nc pd fc cx S S1 → nb1 = nb + ls.length → sk N tx a + 8 ≤ a1 → (ls.length ≠ 0 → sk N tx a + 7 + 2 * ls.length ≤ a1 ∧ enW N tx a1) →
    Sim S0 R0 (G_85_17 k0 (nI (sk N tx a)) (nI (dl + 1)) (nI pd) (nI ls.length) S1) (az_bV (G_146_214 (nI nn) R1) (fun R2 => G_152_58 1 R2)) (CP S0 R0 N tx a sz nc pd fc h nn nb dl cx P S R) := by
  intro i
  induction i with
  | zero =>
    intro a1 b1 nb1 ls rv S1 R1 hl hT hlt hop hnd h41 hfM hfC hnb hp1 hp2
    have hl4 : ls.length = 4 := by omega
    have hs1 := sk_ge (N := N) (tx := tx) a1
    have hTT := hT
    obtain ⟨t1, t2, t3, t4, t5, t6, t7, t8, t9, t10⟩ := hT
    obtain ⟨b1', b2, b3, b4, b5, b6, b7⟩ := id hb
    have hsa := sk_ge (N := N) (tx := tx) a
    have ha1 : a1 ≤ N := t1.2.1.2
    obtain ⟨p1, p2, p3⟩ := par_m t3 t7 (nI nn)
    rw [G_85_17_eq]
    unfold B_85_17
    rw [if_pos (show (4 : Int32) ≤ nI ls.length by rw [hl4]; decide)]
    by_cases hc : tb N tx (sk N tx a1) = 41
    · rw [p1 (by rw [← t4]; exact hc)]
      exact lam_fin he hN hb hh hd hTT hop hnd h41 hfM hfC hsd (by omega) (by omega) (by have := (hp2 (by omega)).1; omega) hc
    · have key : ∃ R', az_bV (G_146_214 (nI nn) R1) (fun R2 => G_152_58 1 R2) = some (.inl none, R') ∧ bad R0 R' (nI (sk N tx a1)) := by
        by_cases hc2 : tb N tx (sk N tx b1) = 40 ∨ tb N tx (sk N tx b1) = -1
        · obtain ⟨R', r1, r2⟩ := p2 hc2
          refine ⟨R', ?_, by rw [t4]; exact r2⟩
          rw [r1, bV_v]
          exact loop_bad r2 1
        · have tm := tell_m (MR_sk t3) (n := nn) (by omega) (by omega) (vc := ls.length) t8.1 rfl (show ltM ((sI R1 34 4 (nI (sk N tx b1))).1 50) 240 ls from hlt) (show nb1 < 256 by omega) (by omega) (pfM_at t7 _)
          rw [sk_sk] at tm
          obtain ⟨R', r1, r2, -⟩ := tm.2 (fun h9 => by have := h9.2.1; omega)
          obtain ⟨R2, r3, r4⟩ := bad_214 r2 (nI nn)
          refine ⟨R2, ?_, by rw [t4]; exact r4⟩
          rw [p3 (by rw [← t4]; exact hc) (fun h9 => hc2 (Or.inl h9)) (fun h9 => hc2 (Or.inr h9)), r1, bV_v, r3, bV_v]
          exact loop_bad r4 1
      obtain ⟨R', r1, r2⟩ := key
      refine Or.inl (Fl_mk (S := sI S1 21 3 (nI (sk N tx a1))) (p := nI (sk N tx a1)) ?_ r1 (pfC_at t6 _) r2)
      unfold G_85_46
      rw [brk_n t1 hc, bV_x]
  | succ i ih =>
    intro a1 b1 nb1 ls rv S1 R1 hl hT hlt hop hnd h41 hfM hfC hnb hp1 hp2
    have hs1 := sk_ge (N := N) (tx := tx) a1
    have hTs := TLD_skip hT
    have hTc := TLD_skipC hT
    obtain ⟨t1, t2, t3, t4, t5, t6, t7, t8, t9, t10⟩ := hT
    obtain ⟨b1', b2, b3, b4, b5, b6, b7⟩ := id hb
    have hsa := sk_ge (N := N) (tx := tx) a
    have ha1 : a1 ≤ N := t1.2.1.2
    have hbt : ∀ i, i < N → tx i < 256 := fun i hi => (t1.1.2.2 i hi).2
    obtain ⟨p1, p2, p3⟩ := par_m t3 t7 (nI nn)
    rw [G_85_17_eq]
    unfold B_85_17
    rw [if_neg (show ¬ (4 : Int32) ≤ nI ls.length from nI_ge (b := 4) (by omega) (by decide)), next_r t1, bI_i]
    by_cases hc : tb N tx (sk N tx a1) = 41
    · have h9N : sk N tx a1 < N := ((tb_eq (c := 41) (by decide) hbt).mp hc).1
      rw [if_pos hc, p1 (by rw [← t4]; exact hc)]
      refine lam_fin he hN hb hh hd hTc hop hnd h41 hfM (fC_tr hfC (fC_at _ sz nc pd fc cx) (Nat.le_refl _) (Nat.le_refl _) (Nat.le_refl _) (Nat.le_refl _)) hsd (by omega) (by omega) ?_ (by rw [sk_sk]; exact hc)
      rw [sk_sk]
      by_cases h0 : ls.length = 0
      · exact ⟨by omega, by omega⟩
      · have := (hp2 h0).1
        exact ⟨by omega, by omega⟩
    · rw [if_neg hc]
      rcases tell_both hTs (show ltM ((sI R1 34 4 (nI (sk N tx b1))).1 50) 240 ls from hlt) (by omega) (by omega) (by omega) (by omega) hd (by omega) with ⟨l, g1, g2, g3, g4, g5, g6, g7⟩ | ⟨R', g0, g1, g2, g3, -⟩
      · rw [sk_sk] at g2 g3 g4 g5 g6 g7
        have hc40 : tb N tx (sk N tx b1) ≠ 40 := by
          rw [← t4]
          intro h9
          have := ((tb_eq (c := 40) (by decide) hbt).mp h9).2
          have := g2.2.1
          omega
        have hcm : tb N tx (sk N tx b1) ≠ -1 := by
          rw [← t4]
          intro h9
          have := (tb_m1 hbt).mp h9
          have := g2.1
          omega
        rw [g4, bV_v, p3 (by rw [← t4]; exact hc) hc40 hcm, g5, bV_v, nI_1]
        have hl1 : (ls ++ [l]).length = ls.length + 1 := by rw [List.length_append, List.length_singleton]
        have := ih _ _ _ (ls ++ [l]) (rv ++ [nb1]) _ _ (by omega) g6 g7 (opM_tl _ _ _ _ hop) (by rw [hl1]; exact ndF_tl _ _ _ _ hnd) h41 (fM_tl _ _ _ _ t10 hfM) (fC_tr hfC (fC_tr (fC_at _ sz nc pd fc cx) (fC_le (fC_lt (S := sI S1 21 3 (nI (sk N tx a1))) (sk N tx a1) l sz nc (pd + ls.length) fc cx) (Nat.le_refl _) (Nat.le_refl _) (by omega) (Nat.le_refl _)) (Nat.le_refl _) (Nat.le_refl _) (Nat.le_refl _) (Nat.le_refl _)) (Nat.le_refl _) (Nat.le_refl _) (Nat.le_refl _) (Nat.le_refl _)) (by omega) (by omega) (fun _ => ⟨?_, g2.2.2.2⟩)
        · rw [hl1] at this
          exact this
        · rw [hl1]
          by_cases h0 : ls.length = 0
          · omega
          · obtain ⟨w1, w2⟩ := hp2 h0
            have : sk N tx a1 ≠ a1 := fun h9 => by
              rw [h9] at g2
              have := g2.1; have := g2.2.1
              unfold enW at w2
              omega
            omega
      · rw [sk_sk] at g0 g1 g3
        have key : ∃ R2, az_bV (G_146_214 (nI nn) R1) (fun R2 => G_152_58 1 R2) = some (.inl none, R2) ∧ bad R0 R2 (nI (sk N tx a1)) := by
          by_cases hc2 : tb N tx (sk N tx b1) = 40 ∨ tb N tx (sk N tx b1) = -1
          · obtain ⟨R', r1, r2⟩ := p2 hc2
            refine ⟨R', ?_, by rw [t4]; exact r2⟩
            rw [r1, bV_v]
            exact loop_bad r2 1
          · obtain ⟨R2, r3, r4⟩ := bad_214 g3 (nI nn)
            refine ⟨R2, ?_, r4⟩
            rw [p3 (by rw [← t4]; exact hc) (fun h9 => hc2 (Or.inl h9)) (fun h9 => hc2 (Or.inr h9)), g2, bV_v, r3, bV_v]
            exact loop_bad r4 1
        obtain ⟨R2, r1, r2⟩ := key
        rw [sI_sI] at g1
        refine Or.inl (Fl_mk (S := sI S1 21 3 (nI (sk N tx a1))) (p := nI (sk N tx a1)) ?_ r1 (pfC_at t6 _) r2)
        rw [g1, bV_x]
theorem lambda_cp {k0 : Nat} (he : EH S0 R0 N tx k0 (dl + 1)) (hN : N ≤ 250) (hb : BD a sz nc pd fc nn nb dl cx) (hh : h ≤ 4 * dl) (hd : dl < 20) (hi : FI S0 R0 N tx a q sz nc pd fc h nn nb dl cx P 3 0 S R Sq R3) (hq7 : sk N tx a + 7 ≤ q) :
    Sim S0 R0 (G_85 k0 (nI (sk N tx a)) (nI (dl + 1)) Sq) (az_bV (opK 3 nn R3) (fun R2 => G_152_58 1 R2)) (CP S0 R0 N tx a sz nc pd fc h nn nb dl cx P S R) := by
  obtain ⟨t1, t2, t3, t4, t5, f1, f2, f3, f4, f5, f6, f7⟩ := hi
  have hqs := sk_ge (N := N) (tx := tx) q
  unfold G_85 opK
  simp only [az_st]
  rw [t1.2.2.2.2.2.1, if_pos trivial]
  by_cases hc : tb N tx (sk N tx q) = 40
  · obtain ⟨q1, q2⟩ := brk_y t1 hc (by decide)
    have q3 := (sign_y f1 hc (by decide)).1
    rw [q1, bV_v, q3, bV_v]
    refine lam_l he hN hb hh hd t4.2.2.2.2 4 (sk N tx q + 1) (sk N tx q + 1) nb [] [] _ _ rfl ⟨CR_at t1 q2, fun i hi => absurd hi (by simp), MR_at f1 q2, rfl, JP_rows t4 rfl rfl, pfC_at t3 _, pfM_at f6 _, ⟨f3.2.2.2.2.2.2, rfl, fun i hi => absurd hi (by simp), fun i hi => absurd hi (by simp)⟩, ⟨fun i hi => absurd hi (by simp), fun i j _ hi => absurd hi (by simp)⟩, Nat.le_refl _⟩ (fun i hi => absurd hi (by simp)) f2 f3 f4 (fM_trans (nc := nc) f5 (fM_at _ 1000 1000 nn nb dl P) (Nat.le_refl _) (Nat.le_refl _) (Nat.le_refl _) (Or.inl rfl) (PE_refl P nc nb)) (fC_tr t2 (fC_at _ sz nc pd fc cx) (Nat.le_refl _) (Nat.le_refl _) (Nat.le_refl _) (Nat.le_refl _)) rfl (by omega) (fun h9 => absurd rfl h9)
  · obtain ⟨R', r1, r2, -⟩ := sign_n f1 f6 hc
    obtain ⟨R2, r3, r4⟩ := bad_214 r2 (nI nn)
    refine Or.inl (Fl_mk (S := sI Sq 21 3 (nI (sk N tx q))) (p := nI (sk N tx q)) ?_ ?_ (pfC_at t3 _) r4)
    · rw [brk_n t1 hc, bV_x]
    · rw [r1, bV_v, r3, bV_v]
      exact loop_bad r4 1
end LAMB2
