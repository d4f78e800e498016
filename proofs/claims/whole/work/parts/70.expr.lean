/-! expressions: all forms together -/
section EXPRS
variable {S0 R0 : amS} {N : Nat} {tx : Nat → Nat} {a b q sz nc pd fc h nn nb dl : Nat} {cx : cxT} {P : List (Nat × Nat)} {S R Sq R3 : amS}
theorem let_cp {k0 : Nat} (he : EH S0 R0 N tx k0 (dl + 1)) (hN : N ≤ 250) (hb : BD a sz nc pd fc nn nb dl cx) (hh : h ≤ 4 * dl) (hd : dl < 20) (hi : FI S0 R0 N tx a q sz nc pd fc h nn nb dl cx P 5 0 S R Sq R3) (hq4 : sk N tx a + 4 ≤ q) :
    Sim S0 R0 (G_87 k0 (nI (sk N tx a)) (nI (dl + 1)) Sq) (az_bV (opK 5 nn R3) (fun R2 => G_152_58 1 R2)) (CP S0 R0 N tx a sz nc pd fc h nn nb dl cx P S R) := by
  obtain ⟨t1, t2, t3, t4, t5, hfo⟩ := hi
  have hsa := sk_ge (N := N) (tx := tx) a
  have hq : q ≤ N := t1.2.1.2
  have hbb := hb
  obtain ⟨b1, b2, b3, b4, b5, b6, b7⟩ := hb
  have hx0 : ∀ f ∈ cx, f.1 < fc ∨ 1000 ≤ f.1 := ox_lt t1 (Nat.le_refl _)
  unfold opK
  rw [if_neg (by decide), if_pos rfl]
  unfold G_87
  rw [add_c t1 (by omega), bI_i]
  have c2 := CR_add t1 1 0 (nI (sk N tx a))
  simp only [az_st]
  rw [show (addS Sq sz 1 0 (nI (sk N tx a))).1 5 8 = nI pd from c2.2.2.2.2.2.1, show (addS Sq sz 1 0 (nI (sk N tx a))).1 23 4 = nI h from c2.2.2.2.2.2.2.2.2.1]
  rcases head_2 hN hbb hd c2 (pfC_add t3 1 0 _) (JP_rows t4 rfl rfl) t5 hfo with ⟨R', ⟨S', hs, hs2, hs3⟩, hm, hbad⟩ | ⟨S2, S3, a1, l, R1, g1, g2, g3, g4, g5, g6, g7, g8, g9, g10, g10a, g10b, g10c, g11, g12, g13, g14⟩
  · refine Or.inl ⟨S', R', R'.1 34 6, ?_, by rw [hm, bV_v]; exact loop_bad hbad 1, hs2, hs3, hbad⟩
    unfold G_88
    rcases hs with hs | ⟨S2, hs, hs4 | ⟨S3, hs4, hs5, hs6⟩⟩
    · rw [hs, bV_x]
    · rw [hs, bV_v, hs4, bV_x, bV_x]
    · rw [hs, bV_v, hs4, bV_v, hs6, bV_x, bV_x]
  · obtain ⟨u1, u2, u3, u4, u5, u6, u7, u8, u9, u10⟩ := g8
    have ha1 : a1 ≤ N := u1.2.1.2
    unfold G_88
    rw [g3, bV_v, g4, bV_v, g6, bV_v]
    simp only [bV_assoc, bV_v]
    have e336 : G_146_336 5 (nI nn) R1 = some (.inl none, sI R1 48 (dl + 1) 1) := by
      unfold G_146_336 G_146_370
      rw [if_neg (by decide)]
      simp only [az_st]
      rw [u3.2.2.2.2.2.1, az_ck_in (show dl + 1 < 24 by omega) (by decide), nI_clamp (by omega)]
      rfl
    rw [g7, e336, bV_v]
    have hO0 := opn_0 P a1 (dl + 1) nn nc (nn + 1) (sz + 1) fc h (fnO cx) (scO cx) (ltS S3 (a1 - 1) pd l) (sI R1 48 (dl + 1) 1)
    refine let_l he hN hbb hh hd t4.2.2.2.2 hx0 3 0 a1 a1 (sz + 1) nc fc (nn + 1) (nb + 1) P [l] [nb] _ (sI R1 48 (dl + 1) 1) _ _ _ _ (-1) (-1) rfl ⟨rfl, ⟨u1, u2, u3, u4, JP_rows u5 rfl rfl, u6, pfM_w u7 (Or.inl (by decide)) (fun h9 => absurd h9 (by decide)) _, u8, u9, u10⟩, ⟨by omega, by simp; omega, by omega, by omega, by omega, by omega, by omega⟩, by omega, ⟨Nat.le_refl _, Nat.le_refl _, Nat.le_refl _, by omega, by omega⟩, ?_, ?_, ?_, PE_refl P nc nb, hO0, g12, fun h9 => absurd rfl h9, ⟨g11.1, sI_eq _ _ _ _, g11.2.2⟩, g13⟩
    · exact fC_tr (fC_tr t2 (fC_add 1 0 _ nc pd fc cx) (Nat.le_refl _) (Nat.le_refl _) (Nat.le_refl _) (Nat.le_refl _)) (g9 sz nc fc cx) (Nat.le_refl _) (Nat.le_refl _) (Nat.le_refl _) (Nat.le_refl _)
    · exact cd_ag (cd_add (S := Sq) 1 0 (nI (sk N tx a))) ((g9 (sz + 1) nc fc cx).1 sz (by omega))
    · exact fM_trans (nc := nc) g14 ⟨fun m _ _ => ndA_refl R1 m, fun _ _ _ => rfl, fun i hi => ⟨rfl, (by rw [sI_nk _ (by omega)]), rfl⟩, fun _ _ => rfl, fun _ _ _ => rfl, fun _ _ _ _ => rfl⟩ (Nat.le_refl _) (Nat.le_refl _) (Nat.le_refl _) (Or.inl rfl) (PE_refl P nc nb)
/-- the head of a call that is no list -/
theorem callh (hr : RL S0 R0 N tx a b sz nc pd fc h nn nb dl cx P S R) (hb : BD a sz nc pd fc nn nb dl cx) (hN : N ≤ 250) (hh : h ≤ 4 * dl) (hd : dl < 20) {k0 : Nat} (he : EH S0 R0 N tx k0 (dl + 1)) (h40 : tb N tx (sk N tx a) = 40) (hhd : hdW N tx (sk N tx (sk N tx a + 1)) = none) :
    Sim S0 R0 (G_93 k0 (nI (sk N tx a)) (nI (dl + 1)) (sI S 21 3 (nI (sk N tx (sk N tx a + 1))))) (az_bV (G_146 (sI R 34 4 (nI (sk N tx a)))) (fun R2 => G_152_58 1 R2)) (CP S0 R0 N tx a sz nc pd fc h nn nb dl cx P S R) := by
  obtain ⟨t1, t2, t3, t4, t5, t6⟩ := hr
  have hbb := hb
  obtain ⟨b1, b2, b3, b4, b5, b6, b7⟩ := hb
  have ha : a ≤ N := t1.2.1.2
  have hsa := sk_ge (N := N) (tx := tx) a
  have hbt : ∀ i, i < N → tx i < 256 := fun i hi => (t1.1.2.2 i hi).2
  have hpN : sk N tx a < N := ((tb_eq (c := 40) (by decide) hbt).mp h40).1
  have m1 := MR_at t2 (b' := sk N tx a) (by omega)
  have m2 := MR_at t2 (b' := sk N tx a + 1) (by omega)
  have hs1 := sk_le (N := N) (tx := tx) (a := sk N tx a + 1) (by omega)
  have hs1' := sk_ge (N := N) (tx := tx) (sk N tx a + 1)
  have m3 := MR_at t2 (b' := sk N tx (sk N tx a + 1)) hs1
  have c3 := CR_at t1 (a' := sk N tx (sk N tx a + 1)) hs1
  have e0 : G_146 (sI R 34 4 (nI (sk N tx a))) = (if tb N tx (sk N tx (sk N tx a + 1)) = 40 then (az_bI (g_137 10 (nI (sk N tx a)) 0 (sI R 34 4 (nI (sk N tx (sk N tx a + 1))))) fun x14 S15 => az_bV (g_145 x14 S15) fun S16 => some (.inl none, S16)) else az_bI (g_136 (wrM (sI R 34 4 (nI (sk N tx (sk N tx a + 1)))) (sk N tx (sk N tx a + 1)) (we N tx (sk N tx (sk N tx a + 1))))) fun x10 S11 => if x10 = 0 then G_146_105 (nI (sk N tx a)) S11 else az_ck (S11.1 34 27) 250 (az_bI (G_139 (S11.1 35 (S11.1 34 27).toNatClampNeg) S11) fun x12 S13 => if x12 < 0 then G_146_105 (nI (sk N tx a)) S13 else G_146_106 (nI (sk N tx a)) 1 S13)) := by
    have hwp := we_prop (tx := tx) (N - sk N tx (sk N tx a + 1)) (sk N tx (sk N tx a + 1)) (Nat.le_refl _)
    have hwe := hwp.2.1 hs1
    have m4 := MR_wr (p := sk N tx (sk N tx a + 1)) m3 hwe
    have hwd := wrM_wd (sI R 34 4 (nI (sk N tx (sk N tx a + 1)))) (sk N tx (sk N tx a + 1)) (we N tx (sk N tx (sk N tx a + 1)))
    unfold G_146
    simp only [az_st]
    rw [m1.2.1.1, m1.2.2.2.2.2.1, if_neg (show ¬ nI dl = 20 from fun h9 => by have := (nI_eq (by omega) (by decide)).mp (show nI dl = nI 20 from h9); omega), nI_1, sI_sI, see_r m2, sI_sI, bI_i]
    by_cases hc : tb N tx (sk N tx (sk N tx a + 1)) = 40
    · rw [if_pos hc, if_pos hc]
    · rw [if_neg hc, if_neg hc, word_r m3, sk_sk, bV_v, kw_m m4.1 hwd hs1, bI_i, pr_m m4.1 hwd hs1, bI_i, hhd, if_neg (by decide), if_neg (by decide)]
  rw [e0]
  by_cases hc : tb N tx (sk N tx (sk N tx a + 1)) = 40
  · rw [if_pos hc]
    obtain ⟨z1, z2, z3⟩ := FO_mk (R0 := R0) (R := R) (P := P) (p := sk N tx a) (kd := 10) (v := 0) m3 (by omega) hd (fM_at _ 1000 1000 nn nb dl P) (pfM_at t6 _) rfl
    rw [z1, bI_i, z2, bV_v, bV_v]
    exact call_cp he hN hbb hh hd ⟨c3, fC_at _ sz nc pd fc cx, pfC_at t5 _, JP_rows t4 rfl z3.2.2.2.2.2.2, by omega, z3⟩ (by rw [sk_sk]; exact hc)
  · rw [if_neg hc]
    have hwp := we_prop (tx := tx) (N - sk N tx (sk N tx a + 1)) (sk N tx (sk N tx a + 1)) (Nat.le_refl _)
    have hwe := hwp.2.1 hs1
    have m4 := MR_wr (p := sk N tx (sk N tx a + 1)) m3 hwe
    have hwd := wrM_wd (sI R 34 4 (nI (sk N tx (sk N tx a + 1)))) (sk N tx (sk N tx a + 1)) (we N tx (sk N tx (sk N tx a + 1)))
    have hpw := pfM_wr (pfM_at (R0 := R0) t6 (nI (sk N tx (sk N tx a + 1)))) (sk N tx (sk N tx a + 1)) (we N tx (sk N tx (sk N tx a + 1)))
    have hL := isLet_m m4.1 hwd hs1
    -- refused
    have no : (¬ ltW N tx (sk N tx (sk N tx a + 1)) ∨ scF (scO cx) (tx (sk N tx (sk N tx a + 1)) - 97) = none) → ∀ X, X = G_146_105 (nI (sk N tx a)) (wrM (sI R 34 4 (nI (sk N tx (sk N tx a + 1)))) (sk N tx (sk N tx a + 1)) (we N tx (sk N tx (sk N tx a + 1)))) → Sim S0 R0 (G_93 k0 (nI (sk N tx a)) (nI (dl + 1)) (sI S 21 3 (nI (sk N tx (sk N tx a + 1))))) (az_bV X fun R2 => G_152_58 1 R2) (CP S0 R0 N tx a sz nc pd fc h nn nb dl cx P S R) := by
      intro hno X hX
      have hbd := bad_fail hpw (nI (sk N tx (sk N tx a + 1)))
      have c4 := CR_add c3 1 0 (nI (sk N tx a))
      have vc := var_c (CR_at c4 hs1) (by omega) (by omega) (by omega)
      rw [sk_sk] at vc
      refine Or.inl (Fl_mk (S := sI (sI (addS (sI S 21 3 (nI (sk N tx (sk N tx a + 1)))) sz 1 0 (nI (sk N tx a))) 21 3 (nI (sk N tx (sk N tx a + 1)))) 21 3 (nI (sk N tx (sk N tx a + 1)))) (p := nI (sk N tx (sk N tx a + 1))) ?_ ?_ (pfC_at (pfC_at (pfC_add (pfC_at t5 _) _ _ _) _) _) hbd)
      · unfold G_93
        rw [add_c c3 (by omega), bI_i, next_r c4, bI_i, sk_sk, if_neg hc, vc.2 hno, bV_x]
      · rw [hX]
        unfold G_146_105 G_146_106
        rw [if_pos rfl, hwd.1, fail_m m4.2.2.1, bV_v, bV_v]
        exact loop_bad hbd 1
    by_cases hw : ltW N tx (sk N tx (sk N tx a + 1))
    · have hl26 : tx (sk N tx (sk N tx a + 1)) - 97 < 26 := by have := hw.2.2.1; omega
      have h97 := hw.2.1
      have ht35 := (m4.1.2.2 (sk N tx (sk N tx a + 1)) hw.1).1
      have hp250 : sk N tx (sk N tx a + 1) < 250 := by have := hw.1; omega
      have elk : G_139 (nI (tx (sk N tx (sk N tx a + 1)))) (wrM (sI R 34 4 (nI (sk N tx (sk N tx a + 1)))) (sk N tx (sk N tx a + 1)) (we N tx (sk N tx (sk N tx a + 1)))) = some (.inl (some (.int (match scF (scO cx) (tx (sk N tx (sk N tx a + 1)) - 97) with | some e => nI e.2.2.1 | none => -1))), wrM (sI R 34 4 (nI (sk N tx (sk N tx a + 1)))) (sk N tx (sk N tx a + 1)) (we N tx (sk N tx (sk N tx a + 1)))) := by
        rw [show nI (tx (sk N tx (sk N tx a + 1))) = nI (97 + (tx (sk N tx (sk N tx a + 1)) - 97)) by rw [show 97 + (tx (sk N tx (sk N tx a + 1)) - 97) = tx (sk N tx (sk N tx a + 1)) by omega]]
        exact lookUp_m hl26 m4.2.2.2.2.2.2.2 (by omega) m4.2.2.2.2.2.2.1
      rw [hL.1 hw, bI_i, if_neg (by decide), hwd.1, az_ck_in hp250 (by decide), nI_clamp (show sk N tx (sk N tx a + 1) < 2 ^ 31 by omega), ht35, elk, bI_i]
      cases hse : scF (scO cx) (tx (sk N tx (sk N tx a + 1)) - 97) with
      | none => exact no (Or.inr hse) _ (by rw [if_pos (by decide)])
      | some e =>
        have hme := scF_mem hse
        have hrv := (scM_mem m4.2.2.2.2.2.2.2 e hme.1).1
        have hwl : we N tx (sk N tx (sk N tx a + 1)) = sk N tx (sk N tx a + 1) + 1 := we_of 1 (fun i hi => by
          have : i = 0 := by omega
          subst this
          rw [Nat.add_zero]
          have := hw.1; have := hw.2.1
          unfold enW
          omega) hw.2.2.2
        dsimp only
        rw [if_neg (nI_pos (by omega))]
        obtain ⟨z1, z2, z3⟩ := FO_mk (R0 := R0) (R := R) (P := P) (p := sk N tx a) (kd := 10) (v := 0) m4 (by omega) hd (fM_refl 1000 1000 nn nb dl P R) hpw rfl
        obtain ⟨z3', -, -⟩ := FO_mk (R0 := R0) (R := R) (P := P) (p := sk N tx a) (kd := 10) (v := 0) m3 (by omega) hd (fM_at _ 1000 1000 nn nb dl P) (pfM_at t6 _) rfl
        unfold G_146_106
        rw [if_neg (by decide), z1, bI_i, z2, bV_v]
        generalize hRp : puS (ndS (wrM (sI R 34 4 (nI (sk N tx (sk N tx a + 1)))) (sk N tx (sk N tx a + 1)) (we N tx (sk N tx (sk N tx a + 1)))) nn 10 (nI (sk N tx a)) 0) dl nn (scO cx).length = Rp at z3
        obtain ⟨f1, f2, f3, f4, f5, f6, f7⟩ := z3
        have w27 : Rp.1 34 27 = nI (sk N tx (sk N tx a + 1)) := by rw [← hRp]; exact hwd.1
        have w35 : Rp.1 35 (sk N tx (sk N tx a + 1)) = nI (tx (sk N tx (sk N tx a + 1))) := (f1.1.2.2 _ hw.1).1
        have elk2 : G_139 (nI (tx (sk N tx (sk N tx a + 1)))) Rp = some (.inl (some (.int (nI e.2.2.1))), Rp) := by
          rw [show nI (tx (sk N tx (sk N tx a + 1))) = nI (97 + (tx (sk N tx (sk N tx a + 1)) - 97)) by rw [show 97 + (tx (sk N tx (sk N tx a + 1)) - 97) = tx (sk N tx (sk N tx a + 1)) by omega], lookUp_m hl26 f1.2.2.2.2.2.2.2 (by omega) f1.2.2.2.2.2.2.1, hse]
        rw [f1.2.2.2.2.2.1, az_ck_in (show dl + 1 < 24 by omega) (by decide), w27, az_ck_in hp250 (by decide), nI_clamp (show sk N tx (sk N tx a + 1) < 2 ^ 31 by omega), nI_clamp (show dl + 1 < 2 ^ 31 by omega), w35, elk2, bI_i, node_m f1.2.2.2.1.1.1 (show nn + 1 < 256 by omega), bI_i, f2.1]
        have hF5 := ndS_F (R := Rp) (nn := nn + 1) 2 (nI (sk N tx (sk N tx a + 1))) (nI e.2.2.1)
        have fn5 := fM_nd (R := Rp) (nn := nn + 1) 2 (nI (sk N tx (sk N tx a + 1))) (nI e.2.2.1) nn 1000 nb (dl + 1) P
        have nf5 : ndF (ndS Rp (nn + 1) 2 (nI (sk N tx (sk N tx a + 1))) (nI e.2.2.1)) nn 10 (nI (sk N tx a)) 0 (-1) (-1) (nI 0) 0 := by
          have fn6 := (fM_nd (R := Rp) (nn := nn + 1) 2 (nI (sk N tx (sk N tx a + 1))) (nI e.2.2.1) 1000 1000 nb (dl + 1) P).1 nn (by omega) (by omega)
          exact ⟨fn6.1.trans f3.1, fn6.2.1.trans f3.2.1, fn6.2.2.1.trans f3.2.2.1, fn6.2.2.2.1.trans f3.2.2.2.1, fn6.2.2.2.2.1.trans f3.2.2.2.2.1, fn6.2.2.2.2.2.1.trans f3.2.2.2.2.2.1, fn6.2.2.2.2.2.2.1.trans f3.2.2.2.2.2.2⟩
        have m5 := MR_nd f1 2 (nI (sk N tx (sk N tx a + 1))) (nI e.2.2.1) (by decide)
        obtain ⟨R5, w1, w2, w3, w4, w5, w6, w7⟩ := hang_m (c := nn + 1) (l := 0) nf5 (by omega) (by decide) (fun h9 => absurd rfl h9)
        rw [w1, bV_v, bV_v]
        have hpf5 := pfM_nd (nn := nn + 1) f6 2 (nI (sk N tx (sk N tx a + 1))) (nI e.2.2.1)
        have hFI : FI S0 R0 N tx a (sk N tx (sk N tx a + 1)) sz nc pd fc h nn nb dl cx P 10 0 S R (sI S 21 3 (nI (sk N tx (sk N tx a + 1)))) (sI Rp 34 4 (nI (sk N tx (sk N tx a + 1)))) := ⟨c3, fC_at _ sz nc pd fc cx, pfC_at t5 _, JP_rows t4 rfl f7, by omega, MR_at f1 hs1, f2, f3, f4, fM_trans (nc := nc) f5 (fM_at _ 1000 1000 nn nb dl P) (Nat.le_refl _) (Nat.le_refl _) (Nat.le_refl _) (Or.inl rfl) (PE_refl P nc nb), pfM_at f6 _, f7⟩
        refine callv_cp (e := e) he hN hbb hh hd hFI (sk_sk _) hw hse ?_ ?_ ?_ ?_ (by rw [if_pos rfl] at w2; exact w2) ?_ ?_
        · rw [hwl] at m5
          exact MR_hang (l := 0) m5 nf5 (by decide) (fun h9 => absurd rfl h9) (by omega) (by omega) (by omega) ⟨dl + 1, Nat.le_refl _, f2.1⟩ hF5.2 (uh_of f1.2.2.2.1.2 m5.2.2.2.1.2 (fM_nd (R := Rp) (nn := nn + 1) 2 (nI (sk N tx (sk N tx a + 1))) (nI e.2.2.1) 1000 1000 nb (dl + 1) P) (by omega)) w2 w3 w4 w5 w6
        · refine ⟨fun x hx => ?_, fun k hk => ?_, w7.trans hpf5.2.2⟩
          · rw [w6 x (by omega) (by omega) (by omega) (by omega)]; exact hpf5.1 x hx
          · rw [w6 34 (by decide) (by decide) (by decide) (by decide)]; exact hpf5.2.1 k hk
        · rw [w6 46 (by decide) (by decide) (by decide) (by decide)]; rfl
        · refine fM_trans (nc := nc) (fM_trans (nc := nc) (show fM nn 1000 (nn + 1) nb (dl + 1) P (sI Rp 34 4 (nI (sk N tx (sk N tx a + 1)))) Rp from fM_refl nn 1000 (nn + 1) nb (dl + 1) P Rp) fn5 (Nat.le_refl _) (Nat.le_refl _) (Nat.le_refl _) (Or.inl rfl) (PE_refl P nc nb)) ⟨fun m hm h2 => ⟨?_, ?_, ?_, (w5 m h2).1, (w5 m h2).2.1, (w5 m h2).2.2, ?_, fun j _ => ?_⟩, fun m hm h2 => w4 m (Or.inl rfl), fun i hi => ⟨?_, ?_, ?_⟩, fun i hi => ?_, fun v hv hp => ?_, fun m hm j hj => ?_⟩ (Nat.le_refl _) (Nat.le_refl _) (Nat.le_refl _) (Or.inl rfl) (PE_refl P nc nb)
          · rw [w6 36 (by decide) (by decide) (by decide) (by decide)]
          · rw [w6 37 (by decide) (by decide) (by decide) (by decide)]
          · rw [w6 38 (by decide) (by decide) (by decide) (by decide)]
          · rw [w6 44 (by decide) (by decide) (by decide) (by decide)]
          · rw [w6 43 (by decide) (by decide) (by decide) (by decide)]
          · rw [w6 47 (by decide) (by decide) (by decide) (by decide)]
          · rw [w6 48 (by decide) (by decide) (by decide) (by decide)]
          · rw [w6 49 (by decide) (by decide) (by decide) (by decide)]
          · rw [w6 66 (by decide) (by decide) (by decide) (by decide)]
          · rw [w6 46 (by decide) (by decide) (by decide) (by decide)]
          · rw [w6 43 (by decide) (by decide) (by decide) (by decide)]
        · rw [w6 36 (by decide) (by decide) (by decide) (by decide), w6 37 (by decide) (by decide) (by decide) (by decide), w6 38 (by decide) (by decide) (by decide) (by decide)]
          exact ⟨hF5.1.1, hF5.1.2.1, hF5.1.2.2.1⟩
        · exact (w4 _ (Or.inl rfl)).trans hF5.2
    · exact no (Or.inl hw) _ (by rw [hL.2 hw, bI_i, if_pos rfl])
end EXPRS
