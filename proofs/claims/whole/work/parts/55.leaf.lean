/-! expressions that are no lists -/
section LEAF
variable {S0 R0 : amS} {N : Nat} {tx : Nat → Nat} {a b sz nc pd fc h nn nb dl : Nat} {cx : cxT} {P : List (Nat × Nat)} {S R : amS}
theorem bV_id (q : amQ) (k : amS → amQ) : az_bV (az_bV q (fun S3 => some (.inl none, S3))) k = az_bV q k := by
  rcases q with _ | ⟨_ | _, S⟩
  · rfl
  · rename_i v
    cases v <;> rfl
  · rfl
/-- what every expression's head in TT says -/
def hdT (dl h q : Nat) (sc : List scE) : Prop := dl ≤ 20 ∧ h ≤ 4 * dl ∧ q ≤ 501 ∧ sc.length ≤ 58 ∧ sdS 250 256 sc
theorem hdT_mk {a' q : Nat} {sc : List scE} (hd : dl ≤ 20) (hh : h ≤ 4 * dl) (hq : q ≤ 501) (hs : 17 * sc.length ≤ 4 * (a' + dl)) (hsd : sdS nc nb sc) (hn : nc ≤ 250) (hb : nb ≤ 256) (h250 : a' + dl ≤ 250) : hdT dl h q sc := ⟨hd, hh, hq, by omega, sdS_le hsd hn hb⟩
def lfK (S : amS) (kd v o x : Int32) (fn : Nat) (sc : List scE) : Prop := (kd = 0 ∧ o = 2 ∧ x = v) ∨ (kd = 1 ∧ o = 3 ∧ x = 0) ∨ (kd = 2 ∧ o = 4 ∧ ∃ e ∈ sc, v = nI e.2.2.1 ∧ e.2.1 < 250 ∧ Lo S fn e x)
theorem leaf_tr {a' f0 : Nat} {kd v o x p : Int32} {sc : List scE} {fn : Nat} {S R : amS} (hcd : cd S sz o x p) (hnf : R.1 36 nn = kd ∧ R.1 37 nn = p ∧ R.1 38 nn = v) (hk : lfK S kd v o x fn sc) (hnn : nn < 256) (hd : dl ≤ 20) (hh : h ≤ 4 * dl) (hq : sz < 501) (hs : 17 * sc.length ≤ 4 * (a' + dl)) (hsd : sdS nc nb sc) (hn : nc ≤ 250) (hb : nb ≤ 256) (hfn : fn < 28 → fn < fc) : Tr P a' dl nn (nn + 1) sz (sz + 1) f0 fc nc h fn sc S R := by
  intro S' R' hc hm hj ha
  refine ⟨1, fun tl => ⟨nn, rfl, hnn, ?_⟩⟩
  obtain ⟨g1, g2, g3, g4, g5⟩ := hdT_mk (q := sz + 1) hd hh (by omega) hs hsd hn hb ha
  refine ⟨g1, g2, g3, g4, g5, ?_⟩
  have hcd' := cd_ag hcd (hc.1 sz (Nat.le_refl _) (by omega))
  obtain ⟨m1, m2, m3, -⟩ := hm.1 nn (Nat.le_refl _) (by omega)
  rcases hk with ⟨k1, k2, k3⟩ | ⟨k1, k2, k3⟩ | ⟨k1, k2, e, he, k3, k4, k5⟩
  · refine Or.inl ⟨by rw [m1, hnf.1, k1], ?_, rfl⟩
    rw [m2, m3, hnf.2.1, hnf.2.2, ← k3, ← k2]; exact hcd'
  · refine Or.inr (Or.inl ⟨by rw [m1, hnf.1, k1], ?_, rfl⟩)
    rw [m2, hnf.2.1, ← k3, ← k2]; exact hcd'
  · refine Or.inr (Or.inr (Or.inl ⟨by rw [m1, hnf.1, k1], e, he, x, by rw [m3, hnf.2.2, k3], ?_, ?_, rfl⟩))
    · rw [m2, hnf.2.1, ← k2]; exact hcd'
    · exact LoR_monoN hc.2.2.2 hfn ((hc.2.2.1 e.2.1 (sdS_lt hsd e he).1).2.1) k5
theorem leaf_ep {a' : Nat} {kd v o x : Int32} {S1 R1 : amS} (hr : RL S0 R0 N tx a' a' sz nc pd fc h nn nb dl cx P S1 R1) (hb : BD a sz nc pd fc nn nb dl cx) (hap : sk N tx a < a') (hh : h ≤ 4 * dl) (hd : dl ≤ 20) (hN : N ≤ 250) (h1 : fC sz nc pd fc cx S S1) (h2 : fM 1000 1000 nn nb dl P R R1) (hk : lfK S1 kd v o x (fnO cx) (scO cx)) :
    g_74 o x (nI (sk N tx a)) S1 = some (.inl none, sI (addS S1 sz o x (nI (sk N tx a))) 23 4 (nI (h + 1))) ∧
    EP S0 R0 N tx a sz nc pd fc h nn nb dl cx P S R (sI (addS S1 sz o x (nI (sk N tx a))) 23 4 (nI (h + 1))) (az_bV (az_bI (g_137 kd (nI (sk N tx a)) v R1) (fun x1 S2 => az_bV (G_150 x1 S2) (fun S3 => some (.inl none, S3)))) (fun R2 => G_152_58 1 R2)) := by
  obtain ⟨t1, t2, t3, t4, t5, t6⟩ := hr
  obtain ⟨b1, b2, b3, b4, b5, b6, b7⟩ := hb
  have ha' : a' ≤ N := t1.2.1.2
  have hsa := sk_ge (N := N) (tx := tx) a
  have hsz : sz < 501 := by omega
  refine ⟨val_c t1 (by omega) (by omega) o x _, a', sz + 1, nc, fc, nn + 1, nb, P, ndS R1 nn kd (nI (sk N tx a)) v, nn, ?_, ⟨CR_h (CR_add t1 o x _) (h + 1), MR_nd t2 kd _ v (by rcases hk with ⟨k1, -⟩ | ⟨k1, -⟩ | ⟨k1, -⟩ <;> rw [k1] <;> decide), rfl, JP_rows t4 rfl rfl, pfC_h (pfC_add t5 o x _) _, pfM_nd t6 kd _ v⟩, ⟨by omega, by omega, by omega, by omega, by omega, b6, by omega⟩, hap, ⟨by omega, Nat.le_refl _, Nat.le_refl _, Nat.le_refl _, rfl, by omega⟩, ?_, ?_, PE_refl P nc nb, (ndS_F kd _ v).2, ?_, ?_, (ndS_F kd _ v).1.2.1⟩
  · rw [node_m t2.2.2.2.1.1.1 (by omega), bI_i, bV_id]
  · exact fC_trans (fC_trans h1 (fC_add o x _ nc pd fc cx) (Nat.le_refl _) (Nat.le_refl _) (Nat.le_refl _) (Nat.le_refl _) (fun _ _ h => h)) (fC_h _ sz nc pd fc cx) (Nat.le_refl _) (Nat.le_refl _) (Nat.le_refl _) (Nat.le_refl _) (fun _ _ h => h)
  · exact fM_trans (nc := nc) h2 (fM_nd kd _ v 1000 1000 nb dl P) (Nat.le_refl _) (Nat.le_refl _) (Nat.le_refl _) (Or.inl rfl) (PE_refl P nc nb)
  · refine leaf_tr (P := P) (nb := nb) (S := sI (addS S1 sz o x (nI (sk N tx a))) 23 4 (nI (h + 1))) (cd_add (S := S1) o x _) ⟨(ndS_F kd _ v).1.1, (ndS_F kd _ v).1.2.1, (ndS_F kd _ v).1.2.2.1⟩ hk (by omega) hd hh hsz (by omega) t4.2.2.2.2 (by omega) (by omega) (fun h9 => opC_fc t1.2.2.2.2.2.2.2.2.2.2.1 h9)
  · have e1 : (sI (addS S1 sz o x (nI (sk N tx a))) 23 4 (nI (h + 1))).1 2 sz = o := (cd_add (S := S1) (sz := sz) o x (nI (sk N tx a))).1
    rw [e1, (ndS_F kd _ v).1.1]
    rcases hk with ⟨k1, k2, -⟩ | ⟨k1, k2, -⟩ | ⟨k1, k2, -⟩ <;> rw [k1, k2] <;> decide
theorem ite_int {c : Prop} [Decidable c] {X Y : amQ} (h : c) : (if c then X else Y) = X := if_pos h
/-- a bound variable: class -/
theorem bound_c (hc : CR N tx a sz nc pd fc h cx S) (hs : (scO cx).length ≤ 250) :
    (∀ e, ltW N tx (sk N tx a) → scF (scO cx) (tx (sk N tx a) - 97) = some e → G_77 S = some (.inl (some (.int (nI e.2.1))), sI S 21 3 (nI (sk N tx a + 1)))) ∧
    ((¬ ltW N tx (sk N tx a) ∨ scF (scO cx) (tx (sk N tx a) - 97) = none) → G_77 S = some (.inr 0, sI (sI S 21 3 (nI (sk N tx a))) 23 5 (nI (sk N tx a)))) := by
  have hr := CR_sk hc
  have lc := letter_c hr.1 hr.2.1.1 hr.2.1.2
  have e0 : G_77 S = (az_bI (g_108 (sI S 21 3 (nI (sk N tx a)))) fun x3 S4 => if 0 ≤ x3 then az_bI (G_60 x3 S4) fun x5 S6 => G_77_32 (nI (sk N tx a)) x5 S6 else G_77_32 (nI (sk N tx a)) (-1) S4) := by
    unfold G_77
    rw [skip_r hc, bI_i]
  have hno : G_77_32 (nI (sk N tx a)) (-1) (sI S 21 3 (nI (sk N tx a))) = some (.inr 0, sI (sI S 21 3 (nI (sk N tx a))) 23 5 (nI (sk N tx a))) := by
    unfold G_77_32
    rw [if_neg (by decide)]
    simp only [g_72, az_st, bV_x]
  constructor
  · intro e hw he
    have := hw.2.2.1
    rw [e0, lc.1 hw, bI_i, if_pos (show (0 : Int32) ≤ nI (tx (sk N tx a) - 97) from nI_le (a := 0) (by omega) (by omega)), innermost_c (by omega) hr.2.2.2.2.2.2.2.2.2.1 hs hr.2.2.2.2.1, bI_i, he]
    simp only [G_77_32, G_77_42, az_st]
    have hm := scF_mem he
    have := (scC_mem hc.2.2.2.2.2.2.2.2.2.1 e hm.1).2.1
    rw [if_pos (show (0 : Int32) ≤ nI e.2.1 from nI_le (a := 0) (by omega) (by omega)), sI_eq, nI_1, sI_sI]
  · intro h9
    by_cases hw : ltW N tx (sk N tx a)
    · have := hw.2.2.1
      rw [e0, lc.1 hw, bI_i, if_pos (show (0 : Int32) ≤ nI (tx (sk N tx a) - 97) from nI_le (a := 0) (by omega) (by omega)), innermost_c (by omega) hr.2.2.2.2.2.2.2.2.2.1 hs hr.2.2.2.2.1, bI_i]
      rcases h9 with h9 | h9
      · exact absurd hw h9
      · rw [h9]; exact hno
    · rw [e0, lc.2 hw, bI_i, if_neg (by decide)]
      exact hno
/-- a variable's value: class -/
theorem var_c (hc : CR N tx a sz nc pd fc h cx S) (hs : (scO cx).length ≤ 250) (hlv : cx.length ≤ 21) (hfc : fc ≤ 28) :
    (∀ e, ltW N tx (sk N tx a) → scF (scO cx) (tx (sk N tx a) - 97) = some e → ∃ src S1, G_76 S = az_bV (g_74 4 src (nI (sk N tx a)) S1) (fun S11 => some (.inl none, S11)) ∧ CR N tx (sk N tx a + 1) sz nc pd fc h cx S1 ∧ Lo S1 (fnO cx) e src ∧ fC sz nc pd fc cx S S1 ∧ S1.1 9 = S.1 9 ∧ ∀ S0, pfC S0 S → pfC S0 S1) ∧
    ((¬ ltW N tx (sk N tx a) ∨ scF (scO cx) (tx (sk N tx a) - 97) = none) → G_76 S = some (.inr 0, sI (sI S 21 3 (nI (sk N tx a))) 23 5 (nI (sk N tx a)))) := by
  have hr := CR_sk hc
  have bc := bound_c hr hs
  rw [sk_sk] at bc
  have e0 : G_76 S = (az_bI (G_77 (sI S 21 3 (nI (sk N tx a)))) fun x3 S4 => az_bI (g_62 x3 S4) fun x5 S6 => az_bI (g_61 x3 S6) fun x7 S8 => az_bI (G_11 x3 x5 x7 S8) fun x9 S10 => az_bV (g_74 4 x9 (nI (sk N tx a)) S10) fun S11 => some (.inl none, S11)) := by
    unfold G_76
    rw [skip_r hc, bI_i]
  constructor
  · intro e hw he
    have h1 := bc.1 e hw he
    rw [sI_sI] at h1
    have hp : sk N tx a + 1 ≤ N := hw.1
    have hc1 := CR_at hc hp
    have hl : tx (sk N tx a) - 97 < 26 := by have := hw.2.2.1; omega
    have hv := (scC_mem hc.2.2.2.2.2.2.2.2.2.1 e (scF_mem he).1).2.1
    obtain ⟨src, S1, q1, q2, q3, q4, q5, q6⟩ := reach_c hc1 he hl hlv hfc
    refine ⟨src, S1, ?_, q2, q3, q4, q5 9 (by decide) (by decide) (by decide), fun S0 hS => ⟨fun x hx => ?_, ?_, q6.trans hS.2.2⟩⟩
    · rw [e0, h1, bI_i]
      unfold g_62 g_61
      rw [bI_i, bI_i, az_rg_in _ _ _ hv (by decide), az_rg_in _ _ _ hv (by decide), q1, bI_i]
    · rw [q5 x (by omega) (by omega) (by omega)]
      exact (pfC_at hS _).1 x hx
    · rw [q5 21 (by decide) (by decide) (by decide)]
      exact (pfC_at hS _).2.1
  · intro h9
    have h1 := bc.2 h9
    rw [sI_sI] at h1
    rw [e0, h1, bI_x]
/-- number, nil, variable, or refused -/
theorem expr_leaf (hr : RL S0 R0 N tx a b sz nc pd fc h nn nb dl cx P S R) (hb : BD a sz nc pd fc nn nb dl cx) (hh : h ≤ 4 * dl) (hd : dl ≤ 20) (hN : N ≤ 250) (hc40 : tb N tx (sk N tx a) ≠ 40) (k : Nat) (l1 : Int32) :
    Sim S0 R0 (G_b73 k l1 S) (az_bV (G_151 (sI R 34 4 (nI (sk N tx b)))) (fun R2 => G_152_58 1 R2)) (EP S0 R0 N tx a sz nc pd fc h nn nb dl cx P S R) := by
  obtain ⟨t1, t2, t3, t4, t5, t6⟩ := hr
  obtain ⟨b1, b2, b3, b4, b5, b6, b7⟩ := hb
  have ha : a ≤ N := t1.2.1.2
  have hsa := sk_ge (N := N) (tx := tx) a
  have hsN := sk_le (tx := tx) ha
  have hbt : ∀ i, i < N → tx i < 256 := fun i hi => (t1.1.2.2 i hi).2
  have hcs := CR_sk t1
  have hms := MR_sk t2
  rw [← t3] at hms
  rw [← t3]
  have hwp := we_prop (tx := tx) (N - sk N tx a) (sk N tx a) (Nat.le_refl _)
  have hwe := hwp.2.1 hsN
  -- the class
  have eC : G_b73 k l1 S = (az_bI (g_106 (sI S 21 3 (nI (sk N tx a)))) fun x5 S6 => if x5 = 0 then az_bI (G_107 1119 S6) fun x7 S8 => if x7 = 0 then az_bV (G_76 S8) fun S9 => some (.inl none, S9) else az_st (sI S8 21 3 ((S8.1 21 3) + 3)) fun S10 => az_bV (g_74 3 0 (nI (sk N tx a)) S10) fun S11 => some (.inl none, S11) else az_bI (G_75 S6) fun x12 S13 => az_bV (g_74 2 x12 (nI (sk N tx a)) S13) fun S14 => some (.inl none, S14)) := by
    unfold G_b73
    rw [skip_r t1, bI_i, next_r hcs, bI_i, if_neg (by rw [sk_sk]; exact hc40), sk_sk, sI_sI]
  -- the reference: the word
  have hwr := MR_wr (p := sk N tx a) (R := sI R 34 4 (nI (sk N tx a))) hms hwe
  have hwd := wrM_wd (sI R 34 4 (nI (sk N tx a))) (sk N tx a) (we N tx (sk N tx a))
  have hpw : pfM R0 (wrM (sI R 34 4 (nI (sk N tx a))) (sk N tx a) (we N tx (sk N tx a))) := pfM_wr (pfM_at t6 _) _ _
  have hfw : fM 1000 1000 nn nb dl P R (wrM (sI R 34 4 (nI (sk N tx a))) (sk N tx a) (we N tx (sk N tx a))) := fM_refl 1000 1000 nn nb dl P R
  generalize hRw : wrM (sI R 34 4 (nI (sk N tx a))) (sk N tx a) (we N tx (sk N tx a)) = Rw at hwr hwd hpw hfw
  have h46 : Rw.1 46 = R.1 46 := by rw [← hRw]; rfl
  have eM : G_151 (sI R 34 4 (nI (sk N tx a))) = (if nI (we N tx (sk N tx a)) ≤ nI (sk N tx a) then G_151_42 (nI (sk N tx a)) Rw else az_ck (nI (sk N tx a)) 250 (if (Rw.1 35 (nI (sk N tx a)).toNatClampNeg) = 45 then if nI (we N tx (sk N tx a)) ≤ (nI (sk N tx a) + 1) then G_151_42 (nI (sk N tx a)) Rw else G_151_43 (nI (sk N tx a)) 1 Rw else G_151_42 (nI (sk N tx a)) Rw)) := by
    unfold G_151
    rw [word_r hms, sk_sk, bV_v, hRw]
    simp only [az_st]
    rw [hwd.1, hwd.2]
  -- what is left when there is no number
  have rest : ∀ mn v, G_151_117 mn v 0 0 Rw = G_151_177 Rw := by
    intro mn v
    unfold G_151_117 G_151_137
    rw [if_pos (by decide), if_pos (by decide)]
  have noNum : g_106 (sI S 21 3 (nI (sk N tx a))) = some (.inl (some (.int 0)), sI S 21 3 (nI (sk N tx a))) → G_151 (sI R 34 4 (nI (sk N tx a))) = G_151_177 Rw → Sim S0 R0 (G_b73 k l1 S) (az_bV (G_151 (sI R 34 4 (nI (sk N tx a)))) (fun R2 => G_152_58 1 R2)) (EP S0 R0 N tx a sz nc pd fc h nn nb dl cx P S R) := by
    intro q1 q2
    have nl := isAtW_c (k := 19) hcs.1 hcs.2.1.1 hcs.2.1.2 (by decide)
    rw [eC, q1, bI_i, if_pos rfl, show (1119 : Nat) = 1100 + 19 from rfl, nl, bI_i, q2]
    unfold G_151_177
    rw [kq_19 hwr.1 hwd hsN, bI_i]
    by_cases hnl : mtB N tx (wdN.getD 19 []) (sk N tx a) = true
    · rw [if_pos hnl, if_neg (by decide), if_neg (by decide)]
      simp only [az_st]
      have hwl := ((mt_iff (N := N) (tx := tx) (wd_rng 19 (by decide)) (sk N tx a)).mp hnl).1
      have hl3 : we N tx (sk N tx a) = sk N tx a + 3 := hwl
      rw [sI_eq, show nI (sk N tx a) + 3 = nI (sk N tx a + 3) from nI_add _ 3, sI_sI, ← hl3]
      have := leaf_ep (a := a) (S := S) (R := R) (kd := 1) (v := 0) (o := 3) (x := 0) ⟨CR_at t1 hwe, hwr, rfl, JP_rows t4 rfl h46, pfC_at t5 _, hpw⟩ ⟨b1, b2, b3, b4, b5, b6, b7⟩ (by omega) hh hd hN (fC_at _ sz nc pd fc cx) hfw (Or.inr (Or.inl ⟨rfl, rfl, rfl⟩))
      rw [this.1, bV_v, hwd.1]
      exact Or.inr ⟨_, rfl, this.2⟩
    · rw [if_neg hnl, if_pos rfl, if_pos rfl]
      have hL := isLet_m hwr.1 hwd hsN
      have vc := var_c hcs (by omega) (by omega) (by omega)
      rw [sk_sk] at vc
      have no : G_76 (sI S 21 3 (nI (sk N tx a))) = some (.inr 0, sI (sI (sI S 21 3 (nI (sk N tx a))) 21 3 (nI (sk N tx a))) 23 5 (nI (sk N tx a))) → ∀ X, X = G_151_262 Rw → Sim S0 R0 (az_bV (G_76 (sI S 21 3 (nI (sk N tx a)))) fun S9 => some (.inl none, S9)) (az_bV X fun R2 => G_152_58 1 R2) (EP S0 R0 N tx a sz nc pd fc h nn nb dl cx P S R) := by
        intro z1 X hX
        have hbd := bad_fail hpw (nI (sk N tx a))
        refine Or.inl (Fl_mk (S := sI (sI S 21 3 (nI (sk N tx a))) 21 3 (nI (sk N tx a))) (p := nI (sk N tx a)) (by rw [z1, bV_x]) ?_ (pfC_at (pfC_at t5 _) _) hbd)
        rw [hX]
        unfold G_151_262
        rw [hwd.1, fail_m hwr.2.2.1, bV_v, bV_v]
        exact loop_bad hbd 1
      by_cases hw : ltW N tx (sk N tx a)
      · have hl26 : tx (sk N tx a) - 97 < 26 := by have := hw.2.2.1; omega
        have h97 := hw.2.1
        have ht35 := (hwr.1.2.2 (sk N tx a) hw.1).1
        rw [hL.1 hw, bI_i, if_neg (by decide), hwd.1, az_ck_in (show sk N tx a < 250 by have := hw.1; omega) (by decide), nI_clamp (show sk N tx a < 2 ^ 31 by omega), ht35, show nI (tx (sk N tx a)) = nI (97 + (tx (sk N tx a) - 97)) by rw [show 97 + (tx (sk N tx a) - 97) = tx (sk N tx a) by omega], lookUp_m hl26 hwr.2.2.2.2.2.2.2 (by omega) hwr.2.2.2.2.2.2.1, bI_i]
        cases hse : scF (scO cx) (tx (sk N tx a) - 97) with
        | none =>
          refine no (vc.2 (Or.inr hse)) _ ?_
          rw [if_pos (by decide)]
        | some e =>
          have hme := scF_mem hse
          have hrv := (scM_mem hwr.2.2.2.2.2.2.2 e hme.1).1
          have hcv := (scC_mem t1.2.2.2.2.2.2.2.2.2.1 e hme.1).2.1
          obtain ⟨src, S1, z1, z2, z3, z4, z5, z6⟩ := vc.1 e hw hse
          have hwl : we N tx (sk N tx a) = sk N tx a + 1 := we_of 1 (fun i hi => by
            have : i = 0 := by omega
            subst this
            rw [Nat.add_zero]
            have := hw.1; have := hw.2.1
            unfold enW
            omega) hw.2.2.2
          have := leaf_ep (a := a) (S := S) (R := R) (kd := 2) (v := nI e.2.2.1) (o := 4) (x := src) ⟨z2, hwl ▸ hwr, rfl, JP_rows t4 (z5.trans rfl) h46, z6 S0 (pfC_at t5 _), hpw⟩ ⟨b1, b2, b3, b4, b5, b6, b7⟩ (by omega) hh hd hN (fC_trans (fC_at _ sz nc pd fc cx) z4 (Nat.le_refl _) (Nat.le_refl _) (Nat.le_refl _) (Nat.le_refl _) (fun _ _ h => h)) hfw (Or.inr (Or.inr ⟨rfl, rfl, e, hme.1, rfl, hcv, z3⟩))
          rw [z1, this.1, bV_v, bV_v]
          dsimp only
          rw [if_neg (nI_pos (by omega)), hwd.1, az_ck_in (show sk N tx a < 250 by have := hw.1; omega) (by decide), nI_clamp (show sk N tx a < 2 ^ 31 by omega), ht35, show nI (tx (sk N tx a)) = nI (97 + (tx (sk N tx a) - 97)) by rw [show 97 + (tx (sk N tx a) - 97) = tx (sk N tx a) by omega], lookUp_m hl26 hwr.2.2.2.2.2.2.2 (by omega) hwr.2.2.2.2.2.2.1, bI_i, hse]
          exact Or.inr ⟨_, rfl, this.2⟩
      · refine no (vc.2 (Or.inl hw)) _ ?_
        rw [hL.2 hw, bI_i, if_pos rfl]
  -- a number that begins at j
  have num : ∀ (j : Nat) (sg mn : Int32), (sk N tx a ≤ j ∧ j < we N tx (sk N tx a)) → dgW N tx j → ((sg = 1 ∧ mn = 0) ∨ (sg = -1 ∧ mn = 1)) → g_106 (sI S 21 3 (nI (sk N tx a))) = some (.inl (some (.int 1)), sI S 21 3 (nI (sk N tx a))) → G_75 (sI S 21 3 (nI (sk N tx a))) = G_75_33 sg (nI 0) 0 (sI S 21 3 (nI j)) → G_151 (sI R 34 4 (nI (sk N tx a))) = G_151_61 (nI j) mn (nI 0) 0 Rw → Sim S0 R0 (G_b73 k l1 S) (az_bV (G_151 (sI R 34 4 (nI (sk N tx a)))) (fun R2 => G_152_58 1 R2)) (EP S0 R0 N tx a sz nc pd fc h nn nb dl cx P S R) := by
    intro j sg mn hj hdg hsg q1 q2 q3
    obtain ⟨k', d', v', n1, n2, n3, n4, n5, n6, n7⟩ := num_loop (a := sk N tx a) sg mn hsN 9 0 j 0 (sI S 21 3 (nI j)) rfl (txC_at t1.1 _) (sI_eq _ _ _ _) hj.1 (by omega)
    have hd1 : d' ≠ 0 := fun h9 => ((n5 (by decide)).mp h9) hdg
    rw [eC, q1, bI_i, if_neg (by decide), q2, n6, q3, n7 Rw hwr.1 hwd, sI_sI]
    have hcr := CR_at t1 (a' := k') (by omega)
    unfold G_75_101
    rw [hcr.2.1.1, byte_c hcr.1 (by omega), bI_i, ends_c hbt, bI_i]
    unfold G_151_117
    rw [if_neg (show ¬ nI d' ≤ 0 from nI_ge (a := 0) (b := d') (by omega) (by omega)), hwd.2]
    by_cases he : enW N tx k'
    · have hk : k' = we N tx (sk N tx a) := by
        rcases Nat.lt_or_ge k' (we N tx (sk N tx a)) with h9 | h9
        · exact absurd he (hwp.2.2.2 k' (by omega) h9)
        · omega
      rw [if_pos he, if_neg (by decide)]
      unfold G_75_132 G_151_137
      rw [bI_i, if_pos (nI_le (by omega) (by omega)), if_neg (show ¬ nI d' ≤ 0 from nI_ge (a := 0) (b := d') (by omega) (by omega)), hwd.2, hk, if_pos rfl]
      have key : ∀ w, sg * v' = w → Sim S0 R0 (az_bV (g_74 2 (sg * v') (nI (sk N tx a)) (sI S 21 3 (nI (we N tx (sk N tx a))))) fun S14 => some (.inl none, S14)) (az_bV (G_151_168 0 (Rw.1 34 27) w Rw) (fun R2 => G_152_58 1 R2)) (EP S0 R0 N tx a sz nc pd fc h nn nb dl cx P S R) := by
        intro w hw
        have := leaf_ep (a := a) (S := S) (R := R) (kd := 0) (v := w) (o := 2) (x := sg * v') ⟨CR_at t1 hwe, hwr, rfl, JP_rows t4 rfl h46, pfC_at t5 _, hpw⟩ ⟨b1, b2, b3, b4, b5, b6, b7⟩ (by omega) hh hd hN (fC_at _ sz nc pd fc cx) hfw (Or.inl ⟨rfl, rfl, hw⟩)
        unfold G_151_168
        rw [this.1, bV_v, hwd.1]
        exact Or.inr ⟨_, rfl, this.2⟩
      rcases hsg with ⟨s1, s2⟩ | ⟨s1, s2⟩
      · rw [if_pos s2]
        exact key v' (by rw [s1, Int32.one_mul])
      · rw [if_neg (by rw [s2]; decide)]
        exact key (-v') (by rw [s1, Int32.neg_mul, Int32.one_mul])
    · have hk : k' < we N tx (sk N tx a) := by
        rcases Nat.lt_or_ge k' (we N tx (sk N tx a)) with h9 | h9
        · exact h9
        · have : k' = we N tx (sk N tx a) := by omega
          rw [this] at he
          exact absurd hwp.2.2.1 he
      have hbd := bad_fail hpw (nI k')
      rw [if_neg he, if_pos rfl, if_neg (nI_ge hk (by omega)), fail_m hwr.2.2.1, bV_v, bV_v]
      refine Or.inl (Fl_mk (S := sI S 21 3 (nI k')) (p := nI k') ?_ (loop_bad hbd 1) (pfC_at t5 _) hbd)
      simp only [g_72, az_st]
      rw [bV_x, bI_x, hcr.2.1.1]
  -- which of them
  have hsk := hcs.2.1.1
  have g106 : g_106 (sI S 21 3 (nI (sk N tx a))) = some (.inl (some (.int (if dgW N tx (sk N tx a) ∨ (tb N tx (sk N tx a) = 45 ∧ dgW N tx (sk N tx a + 1)) then 1 else 0))), sI S 21 3 (nI (sk N tx a))) := by
    unfold g_106
    rw [hsk, byte_c hcs.1 (by omega), bI_i, dig_c hbt, bI_i]
    by_cases d1 : dgW N tx (sk N tx a)
    · rw [if_pos d1, if_neg (by decide), if_pos (Or.inl d1)]
    · rw [if_neg d1, if_pos rfl, hsk, byte_c hcs.1 (by omega), bI_i]
      by_cases m1 : tb N tx (sk N tx a) = 45
      · rw [if_pos m1, hsk, nI_1, byte_c hcs.1 (by omega), bI_i, dig_c hbt, bI_i]
        by_cases d2 : dgW N tx (sk N tx a + 1)
        · rw [if_pos d2, if_neg (by decide), if_pos (Or.inr ⟨m1, d2⟩)]
        · rw [if_neg d2, if_pos rfl, if_neg (by rintro (h | h); exact d1 h; exact d2 h.2)]
      · rw [if_neg m1, if_neg (by rintro (h | h); exact d1 h; exact m1 h.1)]
  have g75 : G_75 (sI S 21 3 (nI (sk N tx a))) = if tb N tx (sk N tx a) = 45 then G_75_33 (-1) (nI 0) 0 (sI S 21 3 (nI (sk N tx a + 1))) else G_75_33 1 (nI 0) 0 (sI S 21 3 (nI (sk N tx a))) := by
    unfold G_75
    rw [next_r hcs, bI_i, sk_sk, sI_sI]
    by_cases m1 : tb N tx (sk N tx a) = 45
    · rw [if_pos m1, if_pos m1]
      simp only [az_st]
      rw [sI_eq, nI_1, sI_sI]
      rfl
    · rw [if_neg m1, if_neg m1, sI_sI]
      rfl
  have m45 : tb N tx (sk N tx a) = 45 ↔ (sk N tx a < N ∧ tx (sk N tx a) = 45) := tb_eq (c := 45) (by decide) hbt
  have eM2 : G_151 (sI R 34 4 (nI (sk N tx a))) = if tb N tx (sk N tx a) = 45 ∧ sk N tx a + 1 < we N tx (sk N tx a) then G_151_61 (nI (sk N tx a + 1)) 1 (nI 0) 0 Rw else G_151_61 (nI (sk N tx a)) 0 (nI 0) 0 Rw := by
    rw [eM]
    unfold G_151_42 G_151_43 G_151_55
    rw [if_pos (show (0 : Int32) = 0 from rfl), if_neg (show ¬ (1 : Int32) = 0 by decide)]
    by_cases w1 : sk N tx a < we N tx (sk N tx a)
    · have hpN : sk N tx a < N := by omega
      rw [if_neg (nI_ge w1 (by omega)), az_ck_in (show sk N tx a < 250 by omega) (by decide), nI_clamp (show sk N tx a < 2 ^ 31 by omega), (hwr.1.2.2 _ hpN).1, nI_1]
      by_cases m1 : tb N tx (sk N tx a) = 45
      · rw [if_pos (show nI (tx (sk N tx a)) = 45 from by rw [(m45.mp m1).2]; rfl)]
        by_cases w2 : sk N tx a + 1 < we N tx (sk N tx a)
        · rw [if_neg (nI_ge w2 (by omega)), if_pos ⟨m1, w2⟩]
          rfl
        · rw [if_pos (nI_le (by omega) (by omega)), if_neg (fun h => w2 h.2)]
          rfl
      · rw [if_neg (show ¬ nI (tx (sk N tx a)) = 45 from fun h9 => m1 (m45.mpr ⟨hpN, (nI_eq (by have := hbt _ hpN; omega) (by decide)).mp (show nI (tx (sk N tx a)) = nI 45 from h9)⟩)), if_neg (fun h => m1 h.1)]
        rfl
    · rw [if_pos (nI_le (by omega) (by omega)), if_neg (fun h => w1 (by have := h.2; omega))]
      rfl
  have inw : ∀ j, dgW N tx j → (j = sk N tx a ∨ (j = sk N tx a + 1 ∧ tb N tx (sk N tx a) = 45)) → sk N tx a ≤ j ∧ j < we N tx (sk N tx a) := by
    intro j hj h9
    refine ⟨by omega, ?_⟩
    rcases Nat.lt_or_ge j (we N tx (sk N tx a)) with h8 | h8
    · exact h8
    · exfalso
      rcases h9 with h9 | ⟨h9, h7⟩
      · have : j = we N tx (sk N tx a) := by omega
        rw [this] at hj
        exact dg_ne hj hwp.2.2.1
      · have hp45 := m45.mp h7
        have hne : ¬ enW N tx (sk N tx a) := by unfold enW; omega
        have h5 : sk N tx a < we N tx (sk N tx a) := by
          rcases Nat.lt_or_ge (sk N tx a) (we N tx (sk N tx a)) with h4 | h4
          · exact h4
          · exfalso
            have : sk N tx a = we N tx (sk N tx a) := by omega
            exact hne (by rw [this]; exact hwp.2.2.1)
        have : j = we N tx (sk N tx a) := by omega
        rw [this] at hj
        exact dg_ne hj hwp.2.2.1
  by_cases d1 : dgW N tx (sk N tx a)
  · have m1 : tb N tx (sk N tx a) ≠ 45 := fun h9 => by have := (m45.mp h9).2; have := d1.2.1; omega
    refine num (sk N tx a) 1 0 (inw _ d1 (Or.inl rfl)) d1 (Or.inl ⟨rfl, rfl⟩) ?_ ?_ ?_
    · rw [g106, if_pos (Or.inl d1)]
    · rw [g75, if_neg m1]
    · rw [eM2, if_neg (fun h => m1 h.1)]
  · by_cases d2 : tb N tx (sk N tx a) = 45 ∧ dgW N tx (sk N tx a + 1)
    · have hj := inw _ d2.2 (Or.inr ⟨rfl, d2.1⟩)
      refine num (sk N tx a + 1) (-1) 1 hj d2.2 (Or.inr ⟨rfl, rfl⟩) ?_ ?_ ?_
      · rw [g106, if_pos (Or.inr d2)]
      · rw [g75, if_pos d2.1]
      · rw [eM2, if_pos ⟨d2.1, hj.2⟩]
    · refine noNum ?_ ?_
      · rw [g106, if_neg (by rintro (h | h); exact d1 h; exact d2 h)]
      · have none : ∀ j mn, sk N tx a ≤ j → j ≤ we N tx (sk N tx a) → ¬ dgW N tx j → G_151_61 (nI j) mn (nI 0) 0 Rw = G_151_177 Rw := by
          intro j mn j1 j2 jd
          obtain ⟨k', d', v', n1, n2, n3, n4, n5, n6, n7⟩ := num_loop (a := sk N tx a) 1 mn hsN 9 0 j 0 (sI S 21 3 (nI j)) rfl (txC_at t1.1 _) (sI_eq _ _ _ _) j1 j2
          have hd0 : d' = 0 := (n5 (by decide)).mpr jd
          rw [n7 Rw hwr.1 hwd]
          unfold G_151_117 G_151_137
          rw [hd0, if_pos (by decide), if_pos (by decide)]
        rw [eM2]
        by_cases m1 : tb N tx (sk N tx a) = 45 ∧ sk N tx a + 1 < we N tx (sk N tx a)
        · rw [if_pos m1]
          exact none _ _ (by omega) (by omega) (fun h9 => d2 ⟨m1.1, h9⟩)
        · rw [if_neg m1]
          exact none _ _ (Nat.le_refl _) hwp.1 d1
end LEAF
