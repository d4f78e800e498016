/-! calls -/
section CALL
variable {S0 R0 : amS} {N : Nat} {tx : Nat → Nat} {a b q sz nc pd fc h nn nb dl : Nat} {cx : cxT} {P : List (Nat × Nat)} {kd v : Int32} {S R Sq R3 : amS}
theorem acc_skip {a1 b1 sz1 nc1 fc1 nn1 nb1 : Nat} {P1 : List (Nat × Nat)} {S1 R1 : amS} {j : Nat} {cs qs Ms Fs : Nat → Nat} {fi la : Int32} (hA : ACC S0 R0 N tx a sz nc pd fc h nn nb dl cx P kd v S R3 a1 b1 sz1 nc1 fc1 nn1 nb1 P1 S1 R1 j cs qs Ms Fs fi la) : ACC S0 R0 N tx a sz nc pd fc h nn nb dl cx P kd v S R3 (sk N tx a1) b1 sz1 nc1 fc1 nn1 nb1 P1 (sI S1 21 3 (nI (sk N tx a1))) R1 j cs qs Ms Fs fi la := by
  obtain ⟨t1, t2, t3, t4, t5, t6, t7, t8, t9, t10, t11⟩ := hA
  obtain ⟨r1, r2, r3, r4, r5, r6⟩ := t1
  obtain ⟨b1', b2', b3', b4', b5', b6', b7'⟩ := t2
  have hsa := sk_ge (N := N) (tx := tx) a1
  refine ⟨⟨CR_sk r1, r2, by rw [sk_sk]; exact r3, JP_rows r4 rfl rfl, pfC_at r5 _, r6⟩, ⟨by omega, by omega, by omega, by omega, by omega, b6', by omega⟩, by omega, t4, fC_tr t5 (fC_at _ sz nc pd fc cx) (Nat.le_refl _) (Nat.le_refl _) (Nat.le_refl _) (Nat.le_refl _), t6, t7, t8, ?_, t10, t11⟩
  obtain ⟨z1, z2, z3, z4⟩ := t9
  exact ⟨z1, fun i hi => ⟨(z2 i hi).1, Tr_mono (Tr_step (z2 i hi).2 (cK_refl _ _ _ _ _ S1) (kM_refl _ _ _)) (fun _ h => h) hsa (Nat.le_refl _)⟩, z3, z4⟩
theorem gate_call {n cc : Nat} {p v fi la vc : Int32} (hf : ndF R n 10 p v fi la (nI cc) vc) (hcc : cc ≤ 5) : fuF R 0 n = (if cc = 5 then 1 else 0) ∧ enF R 0 n = if cc = 0 then 0 else 1 := by
  obtain ⟨f1, f2, f3, f4, f5, f6, f7⟩ := hf
  have hth : thF R n = nI cc := by
    unfold thF
    rw [f1, f6, if_neg (by decide)]
  unfold fuF enF
  rw [if_pos rfl, if_pos rfl, hth, f1, show moF 10 (R.1 38 n) = nI 5 from rfl, show leF 10 (R.1 38 n) = nI 1 from rfl]
  constructor
  · by_cases h0 : cc = 5
    · rw [if_pos (by rw [h0]), if_pos h0]
    · rw [if_neg (fun h9 => h0 ((nI_eq (by omega) (by omega)).mp h9)), if_neg h0]
  · by_cases h0 : cc = 0
    · rw [if_pos h0, h0, if_pos (by decide)]
    · rw [if_neg h0, if_neg (nI_nlt (by omega) (by omega))]
theorem call_l {k0 : Nat} (he : EH S0 R0 N tx k0 (dl + 1)) (hN : N ≤ 250) (hb : BD a sz nc pd fc nn nb dl cx) (hh : h ≤ 4 * dl) (hd : dl < 20) (hx : ∀ f ∈ cx, f.1 < fc ∨ 1000 ≤ f.1) (hfo : FO R0 N tx (sk N tx a) q nn nb dl cx P 10 0 R R3) : ∀ (i n a1 b1 sz1 nc1 fc1 nn1 nb1 : Nat) (P1 : List (Nat × Nat)) (S1 R1 : amS) (cs qs Ms Fs : Nat → Nat) (fi la : Int32), n + i = 4 → ACC S0 R0 N tx a sz nc pd fc h nn nb dl cx P 10 0 S R3 a1 b1 sz1 nc1 fc1 nn1 nb1 P1 S1 R1 (n + 1) cs qs Ms Fs fi la →
    Sim S0 R0 (G_93_37 k0 (nI (sk N tx a)) (nI (dl + 1)) (nI n) S1) (G_152_58 1 R1) (CP S0 R0 N tx a sz nc pd fc h nn nb dl cx P S R) := by
  have fin : ∀ (n a1 b1 sz1 nc1 fc1 nn1 nb1 : Nat) (P1 : List (Nat × Nat)) (S1 R1 : amS) (cs qs Ms Fs : Nat → Nat) (fi la : Int32), n ≤ 4 → ACC S0 R0 N tx a sz nc pd fc h nn nb dl cx P 10 0 S R3 a1 b1 sz1 nc1 fc1 nn1 nb1 P1 S1 R1 (n + 1) cs qs Ms Fs fi la → (n = 4 ∨ tb N tx (sk N tx b1) = 41) → Sim S0 R0 (G_93_65 k0 (nI (sk N tx a)) (nI n) S1) (G_152_58 1 R1) (CP S0 R0 N tx a sz nc pd fc h nn nb dl cx P S R) := by
    intro n a1 b1 sz1 nc1 fc1 nn1 nb1 P1 S1 R1 cs qs Ms Fs fi la hn hA hc
    have g := gate_call hA.2.2.2.2.2.2.2.2.2.1 (by omega)
    rw [if_neg (show n + 1 ≠ 0 by omega)] at g
    have hc1 := hA.1.1
    have ha1 : a1 ≤ N := hc1.2.1.2
    have hs1 : sz1 < 502 := by have := hA.2.1.1; rw [if_neg (by omega)] at this; omega
    unfold G_93_65
    rw [add_c hc1 hs1, bI_i]
    simp only [az_st]
    have e1 : (addS S1 sz1 14 (nI n) (nI (sk N tx a))).1 23 4 - nI n = nI (h + 1) := by
      rw [show (addS S1 sz1 14 (nI n) (nI (sk N tx a))).1 23 4 = nI (h + (n + 1)) from hc1.2.2.2.2.2.2.2.2.1, pk_sub (by omega), show h + (n + 1) - n = h + 1 by omega]
    rw [e1]
    refine Or.inr ⟨_, rfl, acc_fin hN hb hh hd hfo ⟨by omega, by omega⟩ hA g.2 ?_ (Or.inr ⟨rfl, rfl, by rw [Nat.add_sub_cancel]⟩)⟩
    rcases hc with hc | hc
    · rw [if_pos (by omega)] at g
      exact Or.inr (Or.inr g.1)
    · exact Or.inl hc
  intro i
  induction i with
  | zero =>
    intro n a1 b1 sz1 nc1 fc1 nn1 nb1 P1 S1 R1 cs qs Ms Fs fi la hn hA
    have hn4 : n = 4 := by omega
    rw [G_93_37_eq]
    unfold B_93_37
    rw [if_pos (show (4 : Int32) ≤ nI n by rw [hn4]; decide)]
    exact fin n a1 b1 sz1 nc1 fc1 nn1 nb1 P1 S1 R1 cs qs Ms Fs fi la (by omega) hA (Or.inl hn4)
  | succ i ih =>
    intro n a1 b1 sz1 nc1 fc1 nn1 nb1 P1 S1 R1 cs qs Ms Fs fi la hn hA
    have hc1 := hA.1.1
    have h3 := hA.1.2.2.1
    have hA' := acc_skip hA
    rw [G_93_37_eq]
    unfold B_93_37
    rw [if_neg (show ¬ (4 : Int32) ≤ nI n from nI_ge (b := 4) (by omega) (by decide)), next_r hc1, bI_i]
    by_cases hc : tb N tx (sk N tx a1) = 41
    · rw [if_pos hc]
      exact fin n _ b1 sz1 nc1 fc1 nn1 nb1 P1 _ R1 cs qs Ms Fs fi la (by omega) hA' (Or.inr (by rw [← h3]; exact hc))
    · rw [if_neg hc]
      have g := gate_call hA.2.2.2.2.2.2.2.2.2.1 (by omega)
      rw [if_neg (show n + 1 ≠ 5 by omega)] at g
      refine Sim_bV (acc_slot he hN hh hd hx hfo.2.1 (by omega) hA' ⟨g.1, fun h9 => absurd (by rw [h3]; exact h9) hc, fun _ => Or.inl (by omega)⟩) ?_
      rintro S2 r ⟨a2, sz2, nc2, fc2, nn2, nb2, P2, R2, cs2, qs2, Ms2, Fs2, fi2, la2, e2, -, hA2⟩
      subst e2
      rw [nI_1]
      exact ih (n + 1) _ _ _ _ _ _ _ _ _ _ _ _ _ _ _ _ (by omega) hA2
/-- a call whose function is a list -/
theorem call_cp {k0 : Nat} (he : EH S0 R0 N tx k0 (dl + 1)) (hN : N ≤ 250) (hb : BD a sz nc pd fc nn nb dl cx) (hh : h ≤ 4 * dl) (hd : dl < 20) (hi : FI S0 R0 N tx a q sz nc pd fc h nn nb dl cx P 10 0 S R Sq R3) (h40 : tb N tx (sk N tx q) = 40) :
    Sim S0 R0 (G_93 k0 (nI (sk N tx a)) (nI (dl + 1)) Sq) (G_152_58 1 R3) (CP S0 R0 N tx a sz nc pd fc h nn nb dl cx P S R) := by
  have hA0 := acc_0 hb hi
  obtain ⟨t1, t2, t3, t4, t5, hfo⟩ := hi
  have hq : q ≤ N := t1.2.1.2
  have hsa := sk_ge (N := N) (tx := tx) a
  have hsz : sz < 501 := by have := hb.1; omega
  have hx : ∀ f ∈ cx, f.1 < fc ∨ 1000 ≤ f.1 := ox_lt t1 (Nat.le_refl _)
  have g := gate_call hA0.2.2.2.2.2.2.2.2.2.1 (by omega)
  rw [if_neg (by decide), if_pos rfl] at g
  unfold G_93
  rw [add_c t1 (by omega), bI_i, next_r hA0.1.1, bI_i, if_pos h40]
  refine Sim_bV (acc_slot he hN hh hd hx hfo.2.1 (by omega) (acc_skip hA0) ⟨g.1, fun _ => Or.inr g.2, fun _ => Or.inl (by omega)⟩) ?_
  rintro S1 r ⟨a1, sz1, nc1, fc1, nn1, nb1, P1, R1, cs, qs, Ms, Fs, fi, la, e1, -, hA1⟩
  subst e1
  unfold G_93_35
  exact call_l he hN hb hh hd hx hfo 4 0 _ _ _ _ _ _ _ _ _ _ _ _ _ _ _ _ rfl hA1
/-- a call whose function is a variable; the reference has hung the variable's node already -/
theorem callv_cp {k0 : Nat} (he : EH S0 R0 N tx k0 (dl + 1)) (hN : N ≤ 250) (hb : BD a sz nc pd fc nn nb dl cx) (hh : h ≤ 4 * dl) (hd : dl < 20) {e : scE} {R5 : amS} (hi : FI S0 R0 N tx a q sz nc pd fc h nn nb dl cx P 10 0 S R Sq R3) (hsq : sk N tx q = q) (hl : ltW N tx q) (hse : scF (scO cx) (tx q - 97) = some e)
    (hm : MR N tx (q + 1) (nn + 1 + 1) nb (dl + 1) (scO cx) R5) (hp5 : pfM R0 R5) (h46 : R5.1 46 = R3.1 46) (hf5 : fM nn 1000 (nn + 1) nb (dl + 1) P R3 R5) (hn5 : ndF R5 nn 10 (nI (sk N tx a)) 0 (nI (nn + 1)) (nI (nn + 1)) (nI 1) 0) (hv5 : R5.1 36 (nn + 1) = 2 ∧ R5.1 37 (nn + 1) = nI q ∧ R5.1 38 (nn + 1) = nI e.2.2.1) (h415 : R5.1 41 (nn + 1) = -1) :
    Sim S0 R0 (G_93 k0 (nI (sk N tx a)) (nI (dl + 1)) Sq) (G_152_58 1 R5) (CP S0 R0 N tx a sz nc pd fc h nn nb dl cx P S R) := by
  have hA0 := acc_0 hb hi
  obtain ⟨t1, t2, t3, t4, t5, hfo⟩ := hi
  have hq : q ≤ N := t1.2.1.2
  have hbb := hb
  obtain ⟨b1, b2, b3, b4, b5, b6, b7⟩ := hb
  have hsa := sk_ge (N := N) (tx := tx) a
  have hsz : sz < 501 := by omega
  have hx : ∀ f ∈ cx, f.1 < fc ∨ 1000 ≤ f.1 := ox_lt t1 (Nat.le_refl _)
  have hbt : ∀ i, i < N → tx i < 256 := fun i hi => (t1.1.2.2 i hi).2
  have h40 : tb N tx q ≠ 40 := fun h9 => by have := ((tb_eq (c := 40) (by decide) hbt).mp h9).2; have := hl.2.1; omega
  obtain ⟨w1, w2, w3, w4, w5, w6, w7, w8, w9, w10, w11⟩ := hA0
  unfold G_93
  rw [add_c t1 (by omega), bI_i, next_r w1.1, bI_i, hsq, if_neg h40]
  have c2 := CR_at w1.1 (a' := q) hq
  have vc := var_c c2 (by omega) (by omega) (by omega)
  rw [hsq] at vc
  obtain ⟨src, S1, z1, z2, z3, z4, z5, z6⟩ := vc.1 e hl hse
  have hme := scF_mem hse
  have hcv := (scC_mem t1.2.2.2.2.2.2.2.2.2.1 e hme.1).2.1
  rw [z1, val_c z2 (by omega) (by omega), bV_v, bV_v]
  unfold G_93_35
  have hfS : fC (sz + 1) nc pd fc cx (addS Sq sz 1 0 (nI (sk N tx a))) (sI (addS S1 (sz + 1) 4 src (nI q)) 23 4 (nI (h + 1))) := fC_tr (fC_tr (fC_at (nI q) (sz + 1) nc pd fc cx) z4 (Nat.le_refl _) (Nat.le_refl _) (Nat.le_refl _) (Nat.le_refl _)) (fC_tr (fC_add 4 src (nI q) nc pd fc cx) (fC_h (nI (h + 1)) (sz + 1) nc pd fc cx) (Nat.le_refl _) (Nat.le_refl _) (Nat.le_refl _) (Nat.le_refl _)) (Nat.le_refl _) (Nat.le_refl _) (Nat.le_refl _) (Nat.le_refl _)
  have hT : Tr P (q + 1) (dl + 1) (nn + 1) (nn + 1 + 1) (sz + 1) (sz + 1 + 1) fc fc nc (h + 0) (fnO cx) (scO cx) (sI (addS S1 (sz + 1) 4 src (nI q)) 23 4 (nI (h + 1))) R5 :=
    leaf_tr (nb := nb) (S := sI (addS S1 (sz + 1) 4 src (nI q)) 23 4 (nI (h + 1))) (kd := 2) (v := nI e.2.2.1) (o := 4) (x := src) (p := nI q) (cd_add (S := S1) 4 src (nI q)) hv5 (Or.inr (Or.inr ⟨rfl, rfl, e, hme.1, rfl, hcv, z3⟩)) (by omega) (by omega) (by omega) (by omega) (by omega) t4.2.2.2.2 (by omega) (by omega) (fun h9 => opC_fc t1.2.2.2.2.2.2.2.2.2.2.1 h9)
  have hO1 : OPN P (q + 1) (dl + 1) nn nc (nn + 1) (sz + 1) fc (sz + 1) fc h (fnO cx) 0 (scO cx) (fun _ => 0) (fun _ => sz + 1) (fun _ => 0) (fun _ => fc) (sI (addS S1 (sz + 1) 4 src (nI q)) 23 4 (nI (h + 1))) R5 := opn_0 P (q + 1) (dl + 1) nn nc (nn + 1) (sz + 1) fc h (fnO cx) (scO cx) _ R5
  have hO2 := opn_add hO1 (Nat.le_refl (nn + 1)) (by omega) (by omega) (Nat.le_refl _) (Nat.le_refl _) (Nat.le_refl _) (by omega) hT (fun h9 => absurd rfl h9)
  refine call_l he hN hbb hh hd hx hfo 4 0 (q + 1) (q + 1) (sz + 1 + 1) nc fc (nn + 1 + 1) nb P _ R5 _ _ _ _ (nI (nn + 1)) (nI (nn + 1)) rfl ⟨⟨CR_h (CR_add z2 4 src (nI q)) (h + 1), hm, rfl, JP_rows t4 (z5.trans rfl) h46, pfC_h (pfC_add (z6 S0 (pfC_at w1.2.2.2.2.1 _)) 4 src (nI q)) _, hp5⟩, ⟨by rw [if_neg (by decide)]; omega, by omega, by omega, by omega, by omega, by omega, by omega⟩, by omega, ⟨by omega, Nat.le_refl _, Nat.le_refl _, Nat.le_refl _, by omega⟩, fC_tr w5 hfS (by omega) (Nat.le_refl _) (Nat.le_refl _) (Nat.le_refl _), cd_ag w6 (hfS.1 sz (by omega)), hf5, PE_refl P nc nb, hO2, hn5, fun _ => ⟨by simp, by simp, by simp, by simp⟩⟩
end CALL
