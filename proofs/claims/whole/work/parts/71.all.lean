/-! expressions: the induction -/
section EALL
variable {S0 R0 : amS} {N : Nat} {tx : Nat → Nat} {a b q sz nc pd fc h nn nb dl : Nat} {cx : cxT} {P : List (Nat × Nat)} {S R : amS}
theorem sw_tab : ∀ j, j < 19 → am_sw.getD (Int32.ofNat (1000 + j - 1000)).toNatClampNeg 0 = nI (if j < 6 then j + 1 else 0) := by decide
theorem G80_eq {k j : Nat} (hj : j < 19) (l2 l3 : Int32) (S : amS) : G_80 k (1000 + j) l2 l3 S = if j = 0 then (az_bV (G_85 k l2 l3 S) fun S2 => some (.inl none, S2)) else if j = 1 then (az_bV (G_86 k l2 l3 S) fun S3 => some (.inl none, S3)) else if j = 2 then (az_bV (G_87 k l2 l3 S) fun S4 => some (.inl none, S4)) else if j = 3 then (az_bV (G_89 k l2 l3 S) fun S5 => some (.inl none, S5)) else if j = 4 then (az_bV (G_91 k l2 l3 S) fun S6 => some (.inl none, S6)) else if j = 5 then (az_bI (g_2 1 0 l2 S) fun _ S8 => az_bV (G_82 k l3 S8) fun S9 => some (.inl none, S9)) else az_bV (G_92 k (1000 + j) l2 l3 S) fun S10 => some (.inl none, S10) := by
  unfold G_80
  simp only [az_if, az_st]
  rw [if_pos (by omega), show Int32.ofNat (1000 + j - 1000) = nI j by rw [Nat.add_sub_cancel_left]; rfl, az_ck_in hj (by decide), show am_sw.getD (nI j).toNatClampNeg 0 = nI (if j < 6 then j + 1 else 0) by have := sw_tab j hj; rw [Nat.add_sub_cancel_left] at this; exact this]
  have e : ∀ m, (1 ≤ m ∧ m ≤ 6) → (nI (if j < 6 then j + 1 else 0) = nI m ↔ j = m - 1) := by
    intro m hm
    rw [nI_eq (by split <;> omega) (by omega)]
    split <;> omega
  have e1 := e 1 (by decide)
  have e2 := e 2 (by decide)
  have e3 := e 3 (by decide)
  have e4 := e 4 (by decide)
  have e5 := e 5 (by decide)
  have e6 := e 6 (by decide)
  generalize nI (if j < 6 then j + 1 else 0) = x at e1 e2 e3 e4 e5 e6
  by_cases h0 : j = 0
  · rw [if_pos (show x = 1 from e1.mpr h0), if_pos h0]
  rw [if_neg (show ¬ x = 1 from fun h => h0 (e1.mp h)), if_neg h0]
  by_cases h1 : j = 1
  · rw [if_pos (show x = 2 from e2.mpr h1), if_pos h1]
  rw [if_neg (show ¬ x = 2 from fun h => h1 (e2.mp h)), if_neg h1]
  by_cases h2 : j = 2
  · rw [if_pos (show x = 3 from e3.mpr h2), if_pos h2]
  rw [if_neg (show ¬ x = 3 from fun h => h2 (e3.mp h)), if_neg h2]
  by_cases h3 : j = 3
  · rw [if_pos (show x = 4 from e4.mpr h3), if_pos h3]
  rw [if_neg (show ¬ x = 4 from fun h => h3 (e4.mp h)), if_neg h3]
  by_cases h4 : j = 4
  · rw [if_pos (show x = 5 from e5.mpr h4), if_pos h4]
  rw [if_neg (show ¬ x = 5 from fun h => h4 (e5.mp h)), if_neg h4]
  by_cases h5 : j = 5
  · rw [if_pos (show x = 6 from e6.mpr h5), if_pos h5]
  rw [if_neg (show ¬ x = 6 from fun h => h5 (e6.mp h)), if_neg h5]
theorem opK_8 (R3 : amS) (nn : Nat) : opK 8 nn R3 = some (.inl none, R3) := by
  unfold opK
  rw [if_neg (by decide), if_neg (by decide), if_neg (by decide), if_neg (by decide)]
theorem opK_4 (R3 : amS) (nn : Nat) : opK 4 nn R3 = some (.inl none, R3) := by
  unfold opK
  rw [if_neg (by decide), if_neg (by decide), if_neg (by decide), if_neg (by decide)]
theorem opK_9 (R3 : amS) (nn : Nat) : opK 9 nn R3 = some (.inl none, R3) := by
  unfold opK
  rw [if_neg (by decide), if_neg (by decide), if_neg (by decide), if_neg (by decide)]
theorem list_sim {k0 : Nat} (he : dl < 20 → EH S0 R0 N tx k0 (dl + 1)) (hr : RL S0 R0 N tx a b sz nc pd fc h nn nb dl cx P S R) (hb : BD a sz nc pd fc nn nb dl cx) (hN : N ≤ 250) (hh : h ≤ 4 * dl) (hd : dl ≤ 20) (h40 : tb N tx (sk N tx a) = 40) :
    Sim S0 R0 (G_b73 k0 (nI dl) S) (az_bV (G_146 (sI R 34 4 (nI (sk N tx a)))) (fun R2 => G_152_58 1 R2)) (EP S0 R0 N tx a sz nc pd fc h nn nb dl cx P S R) := by
  have ha : a ≤ N := hr.1.2.1.2
  by_cases h20 : dl = 20
  · obtain ⟨t1, t2, t3, t4, t5, t6⟩ := hr
    have hbt : ∀ i, i < N → tx i < 256 := fun i hi => (t1.1.2.2 i hi).2
    have hpN : sk N tx a < N := ((tb_eq (c := 40) (by decide) hbt).mp h40).1
    have m1 := MR_at t2 (b' := sk N tx a) (by omega)
    have c1 := CR_sk t1
    have hbd := bad_fail (pfM_at t6 (nI (sk N tx a))) (nI (sk N tx a))
    refine Or.inl (Fl_mk (S := sI S 21 3 (nI (sk N tx a))) (p := nI (sk N tx a)) ?_ ?_ (pfC_at t5 _) hbd)
    · unfold G_b73
      rw [skip_r t1, bI_i, next_r c1, bI_i, sk_sk, sI_sI, if_pos h40, nI_1]
      unfold G_78
      rw [if_neg (show ¬ nI (dl + 1) ≤ 20 from nI_ge (a := 20) (by omega) (by omega))]
      simp only [g_72, az_st, bV_x]
    · unfold G_146
      simp only [az_st]
      rw [m1.2.1.1, m1.2.2.2.2.2.1, if_pos (by rw [h20]; rfl), fail_m m1.2.2.1, bV_v, bV_v]
      exact loop_bad hbd 1
  · have hd2 : dl < 20 := by omega
    have he := he hd2
    have hc := open_c hr hd2 h40 k0
    have hnn : nn < 256 := by have := hb.2.2.2.1; omega
    have hsa := sk_ge (N := N) (tx := tx) (sk N tx a + 1)
    cases hhd : hdW N tx (sk N tx (sk N tx a + 1)) with
    | none =>
      rw [hc.2 hhd]
      exact Sim_bV (callh hr hb hN hh hd2 he h40 hhd) (fun S' r hcp => close_ep hN hb hd2 hcp)
    | some j =>
      obtain ⟨j1, j2, -⟩ := hdW_some hhd
      have hmt := ((mt_iff (N := N) (tx := tx) (wd_rng j (by omega)) (sk N tx (sk N tx a + 1))).mp j2).1
      have hlen := wd_len j (by omega)
      obtain ⟨R3, r1, r2⟩ := open_w hr hnn hd2 h40 hhd
      rw [hc.1 j hhd, r1]
      have hbt : ∀ i, i < N → tx i < 256 := fun i hi => (hr.1.1.2.2 i hi).2
      have hpN : sk N tx a < N := ((tb_eq (c := 40) (by decide) hbt).mp h40).1
      have hwN : we N tx (sk N tx (sk N tx a + 1)) ≤ N := (we_prop (tx := tx) (N - sk N tx (sk N tx a + 1)) (sk N tx (sk N tx a + 1)) (Nat.le_refl _)).2.1 (sk_le (by omega))
      refine Sim_bV (Post := CP S0 R0 N tx a sz nc pd fc h nn nb dl cx P S R) ?_ (fun S' r hcp => close_ep hN hb hd2 hcp)
      have hFI : FI S0 R0 N tx a (we N tx (sk N tx (sk N tx a + 1))) sz nc pd fc h nn nb dl cx P (kdW j) (ofW j) S R (sI S 21 3 (nI (we N tx (sk N tx (sk N tx a + 1))))) R3 := ⟨CR_at hr.1 hwN, fC_at _ sz nc pd fc cx, pfC_at hr.2.2.2.2.1 _, JP_rows hr.2.2.2.1 rfl r2.2.2.2.2.2.2, by omega, r2⟩
      rw [G80_eq j1]
      by_cases h0 : j = 0
      · subst h0
        rw [if_pos rfl]
        refine Sim_ret (lambda_cp he hN hb hh hd2 hFI ?_)
        rw [hmt]
        show sk N tx a + 7 ≤ sk N tx (sk N tx a + 1) + 6
        omega
      rw [if_neg h0]
      by_cases h1 : j = 1
      · subst h1
        rw [if_pos rfl]
        rw [show kdW 1 = 4 from rfl, opK_4, bV_v]
        exact Sim_ret (if_cp he hN hb hh hd2 hFI)
      rw [if_neg h1]
      by_cases h2 : j = 2
      · subst h2
        rw [if_pos rfl]
        refine Sim_ret (let_cp he hN hb hh hd2 hFI ?_)
        rw [hmt]
        show sk N tx a + 4 ≤ sk N tx (sk N tx a + 1) + 3
        omega
      rw [if_neg h2]
      by_cases h3 : j = 3
      · subst h3
        rw [if_pos rfl]
        refine Sim_ret (letrec_cp he hN hb hh hd2 hFI ?_)
        rw [hmt]
        show sk N tx a + 7 ≤ sk N tx (sk N tx a + 1) + 6
        omega
      rw [if_neg h3]
      by_cases h4 : j = 4
      · subst h4
        rw [if_pos rfl]
        exact Sim_ret (set_cp he hN hb hh hd2 hFI)
      rw [if_neg h4]
      by_cases h5 : j = 5
      · subst h5
        rw [if_pos rfl, show kdW 5 = 8 from rfl, opK_8, bV_v]
        exact begin_cp he hN hb hh hd2 hFI
      rw [if_neg h5]
      have h6 : ¬ j < 6 := by omega
      have k9 : kdW j = 9 := if_neg h6
      have o9 : ofW j = nI (j - 6) := if_neg h6
      rw [k9, o9] at hFI
      rw [k9, opK_9, bV_v, show 1000 + j = 1006 + (j - 6) by omega]
      exact Sim_ret (prim_cp he hN hb hh hd2 (by omega) hFI)
/-- at a bracket or at the end no expression is there -/
theorem refuse_c (hc : CR N tx a sz nc pd fc h cx S) (hs : (scO cx).length ≤ 250) (hlv : cx.length ≤ 21) (hfc : fc ≤ 28) (h1 : tb N tx (sk N tx a) = 41 ∨ tb N tx (sk N tx a) = -1) (k : Nat) (l1 : Int32) : G_b73 k l1 S = some (.inr 0, sI (sI S 21 3 (nI (sk N tx a))) 23 5 (nI (sk N tx a))) := by
  have hbt : ∀ i, i < N → tx i < 256 := fun i hi => (hc.1.2.2 i hi).2
  have hen : enW N tx (sk N tx a) := by
    rcases h1 with h1 | h1
    · exact Or.inr (Or.inr (Or.inr ((tb_eq (c := 41) (by decide) hbt).mp h1).2))
    · exact Or.inl ((tb_m1 hbt).mp h1)
  have hnl : ¬ (sk N tx a < N ∧ tx (sk N tx a) ≠ 41) := by
    rcases h1 with h1 | h1
    · have := ((tb_eq (c := 41) (by decide) hbt).mp h1).2
      omega
    · have := (tb_m1 hbt).mp h1
      omega
  have c1 := CR_sk hc
  have hN := hc.1.1
  have hsN := sk_le (tx := tx) hc.2.1.2
  have hsk := c1.2.1.1
  have hd : ¬ dgW N tx (sk N tx a) := fun h9 => hnl ⟨h9.1, by have := h9.2.2; have := h9.2.1; omega⟩
  have h45 : tb N tx (sk N tx a) ≠ 45 := by rcases h1 with h1 | h1 <;> rw [h1] <;> decide
  have h40 : tb N tx (sk N tx a) ≠ 40 := by rcases h1 with h1 | h1 <;> rw [h1] <;> decide
  unfold G_b73
  rw [skip_r hc, bI_i, next_r c1, bI_i, if_neg (by rw [sk_sk]; exact h40), sk_sk, sI_sI]
  unfold g_106
  rw [hsk, byte_c c1.1 (by omega), bI_i, dig_c hbt, bI_i, if_neg hd, if_pos rfl, hsk, byte_c c1.1 (by omega), bI_i, if_neg h45, bI_i, if_pos rfl, show (1119 : Nat) = 1100 + 19 from rfl, isAtW_c (k := 19) c1.1 hsk c1.2.1.2 (by decide), bI_i]
  have hmt : mtB N tx (wdN.getD 19 []) (sk N tx a) = false := by
    have hw := we_stop hen
    cases hm : mtB N tx (wdN.getD 19 []) (sk N tx a) with
    | false => rfl
    | true =>
      have := ((mt_iff (N := N) (tx := tx) (wd_rng 19 (by decide)) (sk N tx a)).mp hm).1
      rw [hw] at this
      have : (wdN.getD 19 []).length = 3 := rfl
      omega
  rw [hmt]
  have vc := var_c c1 hs hlv hfc
  rw [sk_sk, sI_sI] at vc
  rw [show (if false = true then (1 : Int32) else 0) = 0 from rfl, if_pos rfl, vc.2 (Or.inl (fun h9 => hnl ⟨h9.1, by have := h9.2.1; omega⟩)), bV_x]
theorem e_all (hN : N ≤ 250) : ∀ (k dl : Nat), k + dl = 25 → 5 ≤ k → EH S0 R0 N tx k dl := by
  intro k
  induction k with
  | zero => intro dl _ h5; exact absurd h5 (by decide)
  | succ k ih =>
    intro dl hk h5 a b sz nc pd fc h nn nb cx P S R n t mk hr hb hh hd ho hn hg
    have ha : a ≤ N := hr.1.2.1.2
    have hbt : ∀ i, i < N → tx i < 256 := fun i hi => (hr.1.1.2.2 i hi).2
    have t3 := hr.2.2.1
    rw [G_73_eq]
    obtain ⟨b1, b2, b3, b4, b5, b6, b7⟩ := id hb
    by_cases hbad : tb N tx (sk N tx a) = 41 ∨ tb N tx (sk N tx a) = -1
    · obtain ⟨R', r1, r2⟩ := lp_bad hr.2.1 hr.2.2.2.2.2 ho hn hd (by
        rw [← t3]
        rcases hbad with h9 | h9
        · exact Or.inr (Or.inl ⟨h9, hg.2.1 (by rw [← t3]; exact h9)⟩)
        · exact Or.inl ⟨h9, hg.2.2 (by rw [← t3]; exact h9)⟩)
      rw [← t3] at r2
      exact Or.inl (Fl_mk (refuse_c hr.1 (by omega) (by omega) (by omega) hbad k (nI dl)) r1 (pfC_at hr.2.2.2.2.1 _) r2)
    · by_cases h40 : tb N tx (sk N tx a) = 40
      · rw [lp_list hr.2.1 ho hn hd hg.1 (by rw [← t3]; exact h40), ← t3]
        exact list_sim (fun hd2 => ih (dl + 1) (by omega) (by omega)) hr hb hN hh hd h40
      · rw [lp_expr hr.2.1 ho hn hd hg.1 (by rw [← t3]; exact fun h9 => hbad (Or.inr h9)) (by rw [← t3]; exact fun h9 => hbad (Or.inl h9)) (by rw [← t3]; exact h40)]
        exact expr_leaf hr hb hh hd hN h40 k (nI dl)
end EALL
