/-! let -/
section LETL
variable {S0 R0 : amS} {N : Nat} {tx : Nat → Nat} {a q sz nc pd fc h nn nb dl : Nat} {cx : cxT} {P : List (Nat × Nat)} {S R Sq R3 : amS}
/-- a let whose j-th letter is told, its expression is to come -/
def LTA (S0 R0 : amS) (N : Nat) (tx : Nat → Nat) (a sz nc pd fc h nn nb dl : Nat) (cx : cxT) (P : List (Nat × Nat)) (S R : amS) (a1 b1 sz1 nc1 fc1 nn1 nb1 : Nat) (P1 : List (Nat × Nat)) (ls rv : List Nat) (S1 R1 : amS) (j : Nat) (cs qs Ms Fs : Nat → Nat) (fi la : Int32) : Prop :=
  ls.length = j + 1 ∧ TLD S0 R0 N tx pd nn nb dl cx a1 b1 sz1 nc1 fc1 (h + j) nn1 nb1 P1 ls rv S1 R1 ∧ BD a1 sz1 nc1 (pd + ls.length) fc1 nn1 nb1 (dl + 1) cx ∧ sk N tx a + 4 * j + 7 ≤ a1 ∧ (sz + 1 ≤ sz1 ∧ nc ≤ nc1 ∧ fc ≤ fc1 ∧ nb ≤ nb1 ∧ nn + 1 + j ≤ nn1) ∧ fC sz nc pd fc cx S S1 ∧ cd S1 sz 1 0 (nI (sk N tx a)) ∧ fM 1000 1000 nn nb dl P R R1 ∧ PE P P1 nc nb ∧
  OPN P1 a1 (dl + 1) nn nc1 nn1 sz1 fc1 (sz + 1) fc h (fnO cx) j (scO cx) cs qs Ms Fs S1 R1 ∧ ndF R1 nn 5 (nI (sk N tx a)) 0 fi la (nI j) (nI (j + 1)) ∧ (j ≠ 0 → fi = nI (cs 0) ∧ la = nI (cs (j - 1)) ∧ cs (j - 1) < nn1 ∧ nn < cs (j - 1)) ∧ opM R1 (dl + 1) nn 1 (scO cx).length ∧ R1.1 41 nn = -1
theorem let_l {k0 : Nat} (he : EH S0 R0 N tx k0 (dl + 1)) (hN : N ≤ 250) (hb : BD a sz nc pd fc nn nb dl cx) (hh : h ≤ 4 * dl) (hd : dl < 20) (hsd : sdS nc nb (scO cx)) (hx0 : ∀ f ∈ cx, f.1 < fc ∨ 1000 ≤ f.1) : ∀ (i j a1 b1 sz1 nc1 fc1 nn1 nb1 : Nat) (P1 : List (Nat × Nat)) (ls rv : List Nat) (S1 R1 : amS) (cs qs Ms Fs : Nat → Nat) (fi la : Int32), j + i = 3 → LTA S0 R0 N tx a sz nc pd fc h nn nb dl cx P S R a1 b1 sz1 nc1 fc1 nn1 nb1 P1 ls rv S1 R1 j cs qs Ms Fs fi la →
    Sim S0 R0 (az_bV (G_73 k0 (nI (dl + 1)) S1) fun S3 => az_bV (G_81 41 S3) fun S4 => G_87_40 k0 (nI (sk N tx a)) (nI (dl + 1)) (nI pd) (nI h) (nI (j + 1)) S4) (G_152_58 1 R1) (CP S0 R0 N tx a sz nc pd fc h nn nb dl cx P S R) := by
  intro i
  induction i with
  | zero => ?_
  | succ i ih => ?_
  all_goals
    intro j a1 b1 sz1 nc1 fc1 nn1 nb1 P1 ls rv S1 R1 cs qs Ms Fs fi la hj hA
    obtain ⟨hl, hT, hbd, hpos, ⟨n1, n2, n3, n4, n5⟩, hfC, hcd, hfM, hPE, hO, hnd, hfi, hop, h41⟩ := hA
    obtain ⟨t1, t2, t3, t4, t5, t6, t7, t8, t9, t10⟩ := hT
    obtain ⟨d1, d2, d3, d4, d5, d6, d7⟩ := id hbd
    have hsa := sk_ge (N := N) (tx := tx) a
    have hs1 := sk_ge (N := N) (tx := tx) a1
    have ha1 : a1 ≤ N := t1.2.1.2
    refine Sim_bV (he a1 b1 sz1 nc1 (pd + ls.length) fc1 (h + j) nn1 nb1 cx P1 S1 R1 nn 1 _ ⟨t1, t3, t4, t5, t6, t7⟩ hbd (by omega) (by omega) hop (by omega) (gate_tell (by omega) R1)) ?_
    rintro S2 r ⟨a2, sz2, nc2, fc2, nn2, nb2, P2, R2, c1, e1, e2, e3, e4, e5, e6, e7, e8, e9, e10, -, -⟩
    subst e1
    obtain ⟨e5a, e5b, e5c, e5d, e5e, e5f⟩ := e5
    obtain ⟨p1, p2, p3, p4, p5, p6⟩ := e2
    obtain ⟨x1, x2, x3, x4, x5, x6, x7⟩ := e3
    have ha2 : a2 ≤ N := p1.2.1.2
    have o5 := e7.2.2.1 (dl + 1) (Nat.le_refl _)
    obtain ⟨y1, y2, y3, y4, y5, y6, y7, -⟩ := e7.1 nn (by omega) (by omega)
    have nd5 : ndF R2 nn 5 (nI (sk N tx a)) 0 fi la (nI j) (nI (j + 1)) := ⟨y1.trans hnd.1, y2.trans hnd.2.1, y3.trans hnd.2.2.1, y4.trans hnd.2.2.2.1, y5.trans hnd.2.2.2.2.1, y6.trans hnd.2.2.2.2.2.1, y7.trans hnd.2.2.2.2.2.2⟩
    obtain ⟨R3, w1, w2, w3, w4, w5, w6, w7⟩ := hang_m (c := c1) (l := cs (j - 1)) nd5 (by omega) (by omega) (fun h9 => ⟨(hfi h9).2.1, by have := (hfi h9).2.2.1; omega⟩)
    have m3 : MR N tx a2 nn2 nb2 (dl + 1) (scO cx) R3 := MR_hang (l := cs (j - 1)) p2 nd5 (by omega) (fun h9 => ⟨(hfi h9).2.1, by have := (hfi h9).2.2.1; omega⟩) (by omega) e5f (by omega) ⟨dl + 1, Nat.le_refl _, o5.1.trans hop.1⟩ e9 (by rw [e5e]; exact uh_of t3.2.2.2.1.2 p2.2.2.2.1.2 e7 (by omega)) w2 w3 w4 w5 w6
    have p3m : pfM R0 R3 := by
      refine ⟨fun x hx => ?_, fun k hk => ?_, w7.trans p6.2.2⟩
      · rw [w6 x (by omega) (by omega) (by omega) (by omega)]; exact p6.1 x hx
      · rw [w6 34 (by decide) (by decide) (by decide) (by decide)]; exact p6.2.1 k hk
    have t48 : R3.1 48 (dl + 1) = 1 := by rw [w6 48 (by decide) (by decide) (by decide) (by decide), o5.2.1]; exact hop.2.1
    have M3 : fM nn (if j = 0 then 1000 else cs (j - 1)) nn1 nb1 (dl + 1) P1 R1 R3 := by
      refine fM_trans (nc := nc1) (fM_le e7 (n' := nn) (l' := if j = 0 then 1000 else cs (j - 1)) (nn' := nn1) (nb' := nb1) (dl' := dl + 1) (Nat.le_refl _) (Nat.le_refl _) (Nat.le_refl _) (Or.inr (by omega)) (Or.inr (by omega))) (P' := P1) (nn' := nn1) (nb' := nb1) (dl' := dl + 1) ⟨fun m hm h2 => ⟨?_, ?_, ?_, (w5 m h2).1, (w5 m h2).2.1, (w5 m h2).2.2, ?_, fun j _ => ?_⟩, fun m hm h2 => w4 m ?_, fun i hi => ⟨?_, ?_, ?_⟩, fun i hi => ?_, fun v hv hp => ?_, fun m hm j hj => ?_⟩ (Nat.le_refl _) (Nat.le_refl _) (Nat.le_refl _) (Or.inl rfl) (PE_refl _ _ _)
      · rw [w6 36 (by decide) (by decide) (by decide) (by decide)]
      · rw [w6 37 (by decide) (by decide) (by decide) (by decide)]
      · rw [w6 38 (by decide) (by decide) (by decide) (by decide)]
      · rw [w6 44 (by decide) (by decide) (by decide) (by decide)]
      · rw [w6 43 (by decide) (by decide) (by decide) (by decide)]
      · by_cases h9 : j = 0
        · exact Or.inl h9
        · rw [if_neg h9] at h2
          exact Or.inr h2
      · rw [w6 47 (by decide) (by decide) (by decide) (by decide)]
      · rw [w6 48 (by decide) (by decide) (by decide) (by decide)]
      · rw [w6 49 (by decide) (by decide) (by decide) (by decide)]
      · rw [w6 66 (by decide) (by decide) (by decide) (by decide)]
      · rw [w6 46 (by decide) (by decide) (by decide) (by decide)]
      · rw [w6 43 (by decide) (by decide) (by decide) (by decide)]
    have hkm : kM c1 nn2 R2 R3 := by
      refine ⟨fun m h1 h2 => ⟨?_, ?_, ?_, (w5 m (by omega)).1, (w5 m (by omega)).2.1, (w5 m (by omega)).2.2, ?_, fun j _ => ?_⟩, fun m h1 h2 => w4 m ?_⟩
      · rw [w6 36 (by decide) (by decide) (by decide) (by decide)]
      · rw [w6 37 (by decide) (by decide) (by decide) (by decide)]
      · rw [w6 38 (by decide) (by decide) (by decide) (by decide)]
      · rw [w6 44 (by decide) (by decide) (by decide) (by decide)]
      · rw [w6 43 (by decide) (by decide) (by decide) (by decide)]
      · by_cases h9 : j = 0
        · exact Or.inl h9
        · have := (hfi h9).2.2.1
          exact Or.inr (by omega)
    have k1 := opn_keep (P' := P2) (a' := a2) (nc' := nc2) hO e6 M3 (by
      by_cases h0 : j = 0
      · rw [if_pos h0]; exact Or.inr (by omega)
      · rw [if_neg h0]; exact Or.inl ⟨by omega, rfl⟩) e8.1 (by omega) e5b (fun f hf => by
      rcases hx0 f hf with h9 | h9
      · exact Or.inl h9
      · exact Or.inr (by omega))
    have k2 := opn_add k1 (Nat.le_of_eq e5e.symm) e5f (by omega) e5c (by omega) (by omega) (by omega) (Tr_step e10 (cK_refl _ _ _ _ _ _) hkm) w3
    have hcs0 : (if j = 0 then nI c1 else fi) = nI (if 0 = j then c1 else cs 0) := by
      by_cases h0 : j = 0
      · rw [if_pos h0, if_pos h0.symm]
      · rw [if_neg h0, if_neg (fun h => h0 h.symm), (hfi h0).1]
    generalize hcs' : (fun i => if i = j then c1 else cs i) = cs' at k2
    generalize hqs' : (fun i => if i = j + 1 then sz2 else qs i) = qs' at k2
    generalize hMs' : (fun i => if i = j then nn2 else Ms i) = Ms' at k2
    generalize hFs' : (fun i => if i = j + 1 then fc2 else Fs i) = Fs' at k2
    have hcsj : cs' j = c1 := by rw [← hcs']; exact if_pos rfl
    have hcs00 : cs' 0 = if 0 = j then c1 else cs 0 := by rw [← hcs']
    rw [hcs0, ← hcs00] at w2
    -- told, still
    have hT3 : ∀ (a3 : Nat) (S4 R4 : amS), a3 ≤ N → S4 = sI S2 21 3 (nI a3) → R4 = sI R3 34 4 (nI a3) → TLD S0 R0 N tx pd nn nb dl cx a3 a3 sz2 nc2 fc2 (h + (j + 1)) nn2 nb2 P2 ls rv S4 R4 := by
      intro a3 S4 R4 h3 hS4 hR4
      subst hS4 hR4
      refine ⟨CR_at p1 h3, pnd_ag t2 (fun i hi => e6.2.2.2.2.2 i hi), MR_at m3 h3, rfl, JP_rows p4 rfl (w6 46 (by decide) (by decide) (by decide) (by decide)), pfC_at p5 _, pfM_at p3m _, ⟨?_, t8.2.1, fun i hi => ?_, fun i hi => ?_⟩, ⟨fun i hi => ?_, t9.2⟩, by omega⟩
      · rw [hl]; exact w2.2.2.2.2.2.2
      · show R3.1 66 _ = _ ∧ _
        rw [w6 66 (by decide) (by decide) (by decide) (by decide), e7.2.2.2.1 _ (by omega)]
        exact t8.2.2.1 i hi
      · show R3.1 43 _ = _
        rw [w6 43 (by decide) (by decide) (by decide) (by decide), e7.2.2.2.2.2 nn (by omega) i (by omega)]
        exact t8.2.2.2 i hi
      · obtain ⟨r1, r2, r3, r4⟩ := t9.1 i hi
        refine ⟨r1, by omega, ?_, fun x hx h9 => ?_⟩
        · show R3.1 46 _ = _
          rw [w6 46 (by decide) (by decide) (by decide) (by decide), e7.2.2.2.2.1 _ r2 r4]
          exact r3
        · rcases e8.2 x hx with h8 | h8
          · exact r4 x h8 h9
          · omega
    have Fx : fC sz nc pd fc cx S S2 := fC_tr hfC e6 (by omega) n2 (by omega) n3
    have Mx : fM 1000 1000 nn nb dl P R R3 := fM_trans (nc := nc) hfM (fM_le M3 (n' := 1000) (l' := 1000) (nn' := nn) (nb' := nb) (dl' := dl) (by omega) n4 (by omega) (Or.inr (Nat.le_refl _)) (by
      by_cases h0 : j = 0
      · rw [if_pos h0]; exact Or.inl rfl
      · rw [if_neg h0]
        have := (hfi h0).2.2.2
        exact Or.inr (by omega))) (Nat.le_refl _) (Nat.le_refl _) (Nat.le_refl _) (Or.inl rfl) hPE
    have h413 : R3.1 41 nn = -1 := by
      rw [M3.2.1 nn (by omega) (by
        by_cases h0 : j = 0
        · rw [if_pos h0]; omega
        · rw [if_neg h0]
          have := (hfi h0).2.2.2
          omega)]
      exact h41
    have e150 : G_150 (nI c1) R2 = G_150_61 (nI nn) R3 := by
      unfold G_150
      rw [p2.2.2.2.2.2.1, az_ck_in (show dl + 1 < 24 by omega) (by decide), nI_clamp (show dl + 1 < 2 ^ 31 by omega)]
      simp only [az_st]
      rw [o5.1, hop.1, w1, bV_v, m3.2.2.2.2.2.1, az_ck_in (show dl + 1 < 24 by omega) (by decide), nI_clamp (show dl + 1 < 2 ^ 31 by omega), t48, if_neg (by decide), az_ck_in (show nn < 256 by omega) (by decide), nI_clamp (show nn < 2 ^ 31 by omega), w2.1, if_neg (by decide)]
    rw [e150]
    unfold G_150_61
    by_cases hc1 : ¬ tb N tx (sk N tx a2) = 41
    · obtain ⟨R7, r1, r2, -⟩ := sign_n m3 p3m hc1
      refine Or.inl (Fl_mk (S := sI S2 21 3 (nI (sk N tx a2))) (p := nI (sk N tx a2)) (by rw [brk_n p1 hc1, bV_x]) ?_ (pfC_at p5 _) r2)
      rw [r1, bV_v, if_neg (by rw [r2.1]; decide), bV_v]
      exact loop_bad r2 1
    replace hc1 := Classical.not_not.mp hc1
    obtain ⟨q1, q2⟩ := brk_y p1 hc1 (by decide)
    have q3 := (sign_y m3 hc1 (by decide)).1
    have c10 := CR_at p1 q2
    have m7 := MR_at m3 q2
    have hs2 := sk_ge (N := N) (tx := tx) a2
    have hs3 := sk_ge (N := N) (tx := tx) (sk N tx a2 + 1)
    rw [q1, bV_v, q3, bV_v, if_pos m7.2.2.1, az_ck_in (show nn < 256 by omega) (by decide), nI_clamp (show nn < 2 ^ 31 by omega), show (sI R3 34 4 (nI (sk N tx a2 + 1))).1 36 nn = 5 from w2.1, if_pos rfl, see_r m7, bI_i, sI_sI]
    have hskN := sk_le (tx := tx) q2
    have c11 := CR_at p1 hskN
    have m8 := MR_at m3 hskN
    have hT4 := hT3 (sk N tx (sk N tx a2 + 1)) _ _ hskN rfl rfl
    have op8 : opM (sI R3 34 4 (nI (sk N tx (sk N tx a2 + 1)))) (dl + 1) nn 1 (scO cx).length := by
      refine ⟨?_, t48, ?_⟩
      · show R3.1 47 _ = _; rw [w6 47 (by decide) (by decide) (by decide) (by decide), o5.1]; exact hop.1
      · show R3.1 49 _ = _; rw [w6 49 (by decide) (by decide) (by decide) (by decide), o5.2.2]; exact hop.2.2
    -- the end of the variables
    have fin : tb N tx (sk N tx (sk N tx a2 + 1)) = 41 → ∀ S4, (S4 = sI S2 21 3 (nI (sk N tx a2 + 1)) ∨ S4 = sI S2 21 3 (nI (sk N tx (sk N tx a2 + 1)))) → Sim S0 R0 (G_87_70 k0 (nI (sk N tx a)) (nI (dl + 1)) (nI pd) (nI h) S4) (az_bV (G_150_134 (nI nn) (sI R3 34 4 (nI (sk N tx (sk N tx a2 + 1))))) fun R2 => G_152_58 1 R2) (CP S0 R0 N tx a sz nc pd fc h nn nb dl cx P S R) := by
      intro hc S4 hS4
      have hb4 : G_81 41 S4 = some (.inl none, sI S2 21 3 (nI (sk N tx (sk N tx a2 + 1) + 1))) ∧ sk N tx (sk N tx a2 + 1) + 1 ≤ N := by
        rcases hS4 with rfl | rfl
        · have := brk_y c10 hc (by decide)
          rw [sI_sI] at this
          exact this
        · have := brk_y c11 (show tb N tx (sk N tx (sk N tx (sk N tx a2 + 1))) = 41 by rw [sk_sk]; exact hc) (by decide)
          rw [sk_sk, sI_sI] at this
          exact this
      obtain ⟨g1, g2⟩ := hb4
      have g3 := (sign_y m8 (show tb N tx (sk N tx (sk N tx (sk N tx a2 + 1))) = 41 by rw [sk_sk]; exact hc) (by decide)).1
      rw [sk_sk, sI_sI] at g3
      unfold G_87_70 G_150_134
      rw [g1, bV_v, g3, bV_v]
      have m9 := MR_at m3 g2
      simp only [az_st]
      rw [m9.2.2.2.2.2.1, az_ck_in (show dl + 1 < 24 by omega) (by decide), nI_clamp (show dl + 1 < 2 ^ 31 by omega), az_ck_in (show nn < 256 by omega) (by decide), nI_clamp (show nn < 2 ^ 31 by omega), show (sI (sI R3 34 4 (nI (sk N tx (sk N tx a2 + 1) + 1))) 48 (dl + 1) (vp_nar .boolean 0)).1 36 nn = 5 from w2.1, if_pos rfl, bV_id]
      have hT9 := hT3 (sk N tx (sk N tx a2 + 1) + 1) _ _ g2 rfl rfl
      have hcxne := op_ne t1
      obtain ⟨⟨gg, v0⟩, cc0, hcxe⟩ : ∃ f c, cx = f :: c := by
        cases cx with
        | nil => exact absurd rfl hcxne
        | cons f c => exact ⟨f, c, rfl⟩
      obtain ⟨z1, z2, z3, z4, z5, z6, z7, z8, z9, z10⟩ := hT9
      have hO9 : OPN P2 (sk N tx (sk N tx a2 + 1) + 1) (dl + 1) nn nc2 nn2 sz2 fc2 (sz + 1) fc h (fnO cx) (j + 1) (scO cx) cs' qs' Ms' Fs' (sI S2 21 3 (nI (sk N tx (sk N tx a2 + 1) + 1))) (sI (sI R3 34 4 (nI (sk N tx (sk N tx a2 + 1) + 1))) 48 (dl + 1) 0) := by
        obtain ⟨o1, o2, o3, o4⟩ := k2
        exact ⟨o1, fun i hi => ⟨(o2 i hi).1, Tr_mono (Tr_step (o2 i hi).2 (cK_refl _ _ _ _ _ S2) (kM_refl _ _ R3)) (fun _ h => h) (by omega) (Nat.le_refl _)⟩, o3, o4⟩
      have := let_fin (n := j + 1) (S1 := sI S2 21 3 (nI (sk N tx (sk N tx a2 + 1) + 1))) (R1 := sI (sI R3 34 4 (nI (sk N tx (sk N tx a2 + 1) + 1))) 48 (dl + 1) 0) (ls := ls) (rv := rv) hcxe he hN hb hh hd hl (by omega) (by omega) ⟨z1, z2, z3, z4, z5, z6, pfM_w z7 (Or.inl (by decide)) (fun h9 => absurd h9 (by decide)) _, z8, z9, z10⟩ ⟨by omega, by omega, by omega, by omega, by omega⟩ (by omega) ⟨by omega, by omega, by omega, by omega, by omega⟩ hx0 (fC_tr Fx (fC_at _ sz nc pd fc cx) (Nat.le_refl _) (Nat.le_refl _) (Nat.le_refl _) (Nat.le_refl _)) (cd_ag hcd (e6.1 sz (by omega))) (fM_trans (nc := nc) Mx ⟨fun m _ _ => ndA_refl R3 m, fun _ _ _ => rfl, fun i hi => ⟨rfl, (by rw [sI_nk _ (by omega)]; rfl), rfl⟩, fun _ _ => rfl, fun _ _ _ => rfl, fun _ _ _ _ => rfl⟩ (Nat.le_refl _) (Nat.le_refl _) (Nat.le_refl _) (Or.inl rfl) (PE_refl P nc nb)) (PE_trans hPE e8 n2 n4) hsd hO9 w2 ⟨rfl, by rw [Nat.add_sub_cancel, hcsj], by rw [Nat.add_sub_cancel, hcsj]; exact e5f, by rw [Nat.add_sub_cancel, hcsj]; omega⟩ ⟨op8.1, sI_eq _ _ _ _, op8.2.2⟩ h413
      simp only [az_st] at this
      exact this
    -- refused there
    have nofin : ¬ tb N tx (sk N tx (sk N tx a2 + 1)) = 41 → ∃ R', az_bV (G_150_134 (nI nn) (sI R3 34 4 (nI (sk N tx (sk N tx a2 + 1))))) (fun R2 => G_152_58 1 R2) = some (.inl none, R') ∧ bad R0 R' (nI (sk N tx (sk N tx a2 + 1))) := by
      intro hc
      obtain ⟨R7, r1, r2, r3, r4, r5⟩ := sign_n m8 (pfM_at p3m _) (show tb N tx (sk N tx (sk N tx (sk N tx a2 + 1))) ≠ 41 by rw [sk_sk]; exact hc)
      rw [sk_sk] at r2
      have hbd := bad_w r2 (a := 48) (k := dl + 1) (by decide) (fun h9 => absurd h9 (by decide)) 0
      have h8 := hT4.2.2.2.2.2.2.2.1
      have tol : toldM (sI R7 48 (dl + 1) 0) nn (dl + 1) ls rv := by
        obtain ⟨y1, y2, y3, y4⟩ := h8
        refine ⟨?_, y2, fun i hi => ?_, fun i hi => ?_⟩
        · rw [sI_na _ (by decide), r4 44 (by decide)]; exact y1
        · rw [sI_na _ (by decide), r4 66 (by decide)]; exact y3 i hi
        · rw [sI_na _ (by decide), r4 43 (by decide)]; exact y4 i hi
      have hbb := bindAll_b (ic := (scO cx).length) (R := sI R7 48 (dl + 1) 0) (by rw [sI_na _ (by decide), r3]; exact m8.2.2.2.2.2.1) (by rw [sI_na _ (by decide), r5]; exact m8.2.2.2.2.2.2.1) tol (by omega) (by omega) (by omega) (by omega)
      have hbd2 := bad_ba (ic := (scO cx).length) (ls := ls) (rv := rv) hbd ls.length
      refine ⟨_, ?_, hbd2⟩
      unfold G_150_134
      rw [r1, bV_v]
      simp only [az_st]
      rw [r3, m8.2.2.2.2.2.1, az_ck_in (show dl + 1 < 24 by omega) (by decide), nI_clamp (show dl + 1 < 2 ^ 31 by omega), az_ck_in (show nn < 256 by omega) (by decide), nI_clamp (show nn < 2 ^ 31 by omega), sI_na _ (by decide), r4 36 (by decide), show (sI R3 34 4 (nI (sk N tx (sk N tx a2 + 1)))).1 36 nn = 5 from w2.1, if_pos rfl, show vp_nar .boolean 0 = (0 : Int32) from rfl, hbb, bV_v, bV_v]
      exact loop_bad hbd2 1
    rw [G_87_40_eq]
    unfold B_87_40
  · -- four variables
    have hj3 : j = 3 := by omega
    rw [if_pos (show (4 : Int32) ≤ nI (j + 1) by rw [hj3]; decide)]
    by_cases hc2 : tb N tx (sk N tx (sk N tx a2 + 1)) = 40
    · rw [if_pos hc2, az_ck_in (show nn < 256 by omega) (by decide), show (sI R3 34 4 (nI (sk N tx (sk N tx a2 + 1)))).1 44 nn = nI (j + 1) from w2.2.2.2.2.2.2, if_pos (by rw [hj3]; rfl), sI_eq, fail_m m8.2.2.1, bV_v, bV_v]
      have hbd := bad_fail (pfM_at p3m (nI (sk N tx (sk N tx a2 + 1)))) (nI (sk N tx (sk N tx a2 + 1)))
      refine Or.inl (Fl_mk (S := sI (sI S2 21 3 (nI (sk N tx a2 + 1))) 21 3 (nI (sk N tx (sk N tx a2 + 1)))) (p := nI (sk N tx (sk N tx a2 + 1))) ?_ (loop_bad hbd 1) (pfC_at (pfC_at p5 _) _) hbd)
      unfold G_87_70
      rw [brk_n c10 (by rw [hc2]; decide), bV_x]
    · rw [if_neg hc2]
      by_cases hc3 : tb N tx (sk N tx (sk N tx a2 + 1)) = 41
      · exact fin hc3 _ (Or.inl rfl)
      · obtain ⟨R', r1, r2⟩ := nofin hc3
        refine Or.inl (Fl_mk (S := sI (sI S2 21 3 (nI (sk N tx a2 + 1))) 21 3 (nI (sk N tx (sk N tx a2 + 1)))) (p := nI (sk N tx (sk N tx a2 + 1))) ?_ r1 (pfC_at (pfC_at p5 _) _) r2)
        unfold G_87_70
        rw [brk_n c10 hc3, bV_x]
  · have hj3 : j < 3 := by omega
    rw [if_neg (show ¬ (4 : Int32) ≤ nI (j + 1) from nI_ge (b := 4) (by omega) (by decide)), next_r c10, bI_i, sI_sI]
    by_cases hc2 : tb N tx (sk N tx (sk N tx a2 + 1)) = 40
    · rw [if_neg (by rw [hc2]; decide), if_pos hc2, az_ck_in (show nn < 256 by omega) (by decide), show (sI R3 34 4 (nI (sk N tx (sk N tx a2 + 1)))).1 44 nn = nI (j + 1) from w2.2.2.2.2.2.2, if_neg (show ¬ nI (j + 1) = 4 from fun h9 => by have := (nI_eq (by omega) (by decide)).mp (show nI (j + 1) = nI 4 from h9); omega)]
      have hb4 := brk_y c11 (show tb N tx (sk N tx (sk N tx (sk N tx a2 + 1))) = 40 by rw [sk_sk]; exact hc2) (by decide)
      rw [sk_sk, sI_sI] at hb4
      obtain ⟨g1, g2⟩ := hb4
      unfold G_88
      rw [g1, bV_v]
      simp only [az_st]
      rw [sI_eq, show nI (sk N tx (sk N tx a2 + 1)) + 1 = nI (sk N tx (sk N tx a2 + 1) + 1) from by rw [nI_1], sI_sI]
      have hT9 := hT3 (sk N tx (sk N tx a2 + 1) + 1) _ _ g2 rfl rfl
      have m9 := MR_at m3 g2
      have hrc := recall_m m9 hT9.2.2.2.2.2.2.2.1 (by omega) (by omega) (by omega)
      rw [hrc, bV_v]
      have hl26 : ∀ i, i < ls.length → ls.getD i 0 < 26 := fun i hi => (t8.2.2.1 i hi).2
      have hTr : TLD S0 R0 N tx pd nn nb dl cx (sk N tx (sk N tx a2 + 1) + 1) (sk N tx (sk N tx a2 + 1) + 1) sz2 nc2 fc2 (h + (j + 1)) nn2 nb2 P2 ls rv (sI S2 21 3 (nI (sk N tx (sk N tx a2 + 1) + 1))) (rcL (sI R3 34 4 (nI (sk N tx (sk N tx a2 + 1) + 1))) ls ls.length) := by
        obtain ⟨z1, z2, z3, z4, z5, z6, z7, z8, z9, z10⟩ := hT9
        have ro : ∀ x, x ≠ 50 → (rcL (sI R3 34 4 (nI (sk N tx (sk N tx a2 + 1) + 1))) ls ls.length).1 x = (sI R3 34 4 (nI (sk N tx (sk N tx a2 + 1) + 1))).1 x := fun x hx => rcL_o ls.length x hx
        refine ⟨z1, z2, MR_rc _ z3 (by omega), z4, JP_rows z5 rfl (ro 46 (by decide)), z6, pfM_rc z7 _, ⟨by rw [ro 44 (by decide)]; exact z8.1, z8.2.1, fun i hi => by rw [ro 66 (by decide)]; exact z8.2.2.1 i hi, fun i hi => by rw [ro 43 (by decide)]; exact z8.2.2.2 i hi⟩, ⟨fun i hi => by rw [ro 46 (by decide)]; exact z9.1 i hi, z9.2⟩, z10⟩
      have ro : ∀ x, x ≠ 50 → (rcL (sI R3 34 4 (nI (sk N tx (sk N tx a2 + 1) + 1))) ls ls.length).1 x = (sI R3 34 4 (nI (sk N tx (sk N tx a2 + 1) + 1))).1 x := fun x hx => rcL_o ls.length x hx
      have lr := rc_lt (R := sI R3 34 4 (nI (sk N tx (sk N tx a2 + 1) + 1))) hl26
      generalize hRr : rcL (sI R3 34 4 (nI (sk N tx (sk N tx a2 + 1) + 1))) ls ls.length = Rr at hTr ro lr
      rcases tell_both hTr lr (by omega) (by omega) (by omega) (by omega) hd (by omega) with ⟨l, y1, y2, y3, y4, y5, y6, y7⟩ | ⟨R', y0, y1, y2, y3, y4⟩
      · have hs4 := sk_ge (N := N) (tx := tx) (sk N tx (sk N tx a2 + 1) + 1)
        rw [y4, bV_v, y5, bV_v, bV_v, bV_assoc]
        simp only [bV_assoc, bV_v]
        rw [nI_1]
        have hl1 : (ls ++ [l]).length = ls.length + 1 := by rw [List.length_append, List.length_singleton]
        have Mr : fM 1000 1000 nn nb dl P R Rr := fM_trans (nc := nc) Mx ⟨fun m _ _ => ⟨by rw [ro 36 (by decide)]; rfl, by rw [ro 37 (by decide)]; rfl, by rw [ro 38 (by decide)]; rfl, by rw [ro 39 (by decide)]; rfl, by rw [ro 40 (by decide)]; rfl, by rw [ro 42 (by decide)]; rfl, by rw [ro 44 (by decide)]; rfl, fun j _ => by rw [ro 43 (by decide)]; rfl⟩, fun m _ _ => by rw [ro 41 (by decide)]; rfl, fun i hi => ⟨by rw [ro 47 (by decide)]; rfl, by rw [ro 48 (by decide)]; rfl, by rw [ro 49 (by decide)]; rfl⟩, fun i _ => by rw [ro 66 (by decide)]; rfl, fun v _ _ => by rw [ro 46 (by decide)]; rfl, fun m _ j _ => by rw [ro 43 (by decide)]; rfl⟩ (Nat.le_refl _) (Nat.le_refl _) (Nat.le_refl _) (Or.inl rfl) (PE_refl P nc nb)
        have ndr : ndF Rr nn 5 (nI (sk N tx a)) 0 (nI (cs' 0)) (nI c1) (nI (j + 1)) (nI (j + 1)) := ⟨by rw [ro 36 (by decide)]; exact w2.1, by rw [ro 37 (by decide)]; exact w2.2.1, by rw [ro 38 (by decide)]; exact w2.2.2.1, by rw [ro 39 (by decide)]; exact w2.2.2.2.1, by rw [ro 40 (by decide)]; exact w2.2.2.2.2.1, by rw [ro 42 (by decide)]; exact w2.2.2.2.2.2.1, by rw [ro 44 (by decide)]; exact w2.2.2.2.2.2.2⟩
        have opr : opM Rr (dl + 1) nn 1 (scO cx).length := ⟨by rw [ro 47 (by decide)]; exact op8.1, by rw [ro 48 (by decide)]; exact op8.2.1, by rw [ro 49 (by decide)]; exact op8.2.2⟩
        have h41r : Rr.1 41 nn = -1 := by rw [ro 41 (by decide)]; exact h413
        refine ih (j + 1) _ _ sz2 nc2 fc2 nn2 (nb2 + 1) P2 (ls ++ [l]) (rv ++ [nb2]) _ _ cs' qs' Ms' Fs' (nI (cs' 0)) (nI c1) (by omega) ⟨by omega, y6, ⟨by omega, by omega, by omega, by omega, by omega, d6, by omega⟩, by omega, ⟨by omega, by omega, by omega, by omega, by omega⟩, ?_, ?_, fM_tl _ _ _ _ (by omega) Mr, PE_trans hPE e8 n2 n4, ?_, ?_, fun _ => ⟨rfl, by rw [Nat.add_sub_cancel, hcsj], by rw [Nat.add_sub_cancel, hcsj]; exact e5f, by rw [Nat.add_sub_cancel, hcsj]; omega⟩, opM_tl _ _ _ _ opr, h41r⟩
        · exact fC_tr Fx (fC_tr (fC_at _ sz nc pd fc cx) (fC_le (fC_lt (S := sI S2 21 3 (nI (sk N tx (sk N tx a2 + 1) + 1))) (sk N tx (sk N tx (sk N tx a2 + 1) + 1)) l sz nc (pd + ls.length) fc cx) (Nat.le_refl _) (Nat.le_refl _) (by omega) (Nat.le_refl _)) (Nat.le_refl _) (Nat.le_refl _) (Nat.le_refl _) (Nat.le_refl _)) (Nat.le_refl _) (Nat.le_refl _) (Nat.le_refl _) (Nat.le_refl _)
        · exact cd_ag hcd (e6.1 sz (by omega))
        · obtain ⟨o1, o2, o3, o4⟩ := k2
          refine ⟨o1, fun i hi => ⟨(o2 i hi).1, Tr_mono (Tr_step (o2 i hi).2 (cK_refl _ _ _ _ _ S2) ⟨fun m h1 h2 => ⟨?_, ?_, ?_, ?_, ?_, ?_, ?_, fun j' hj' => ?_⟩, fun m h1 h2 => ?_⟩) (fun _ h => h) (by omega) (Nat.le_refl _)⟩, o3, fun i hi => ?_⟩
          · show Rr.1 36 m = _; rw [ro 36 (by decide)]; rfl
          · show Rr.1 37 m = _; rw [ro 37 (by decide)]; rfl
          · show Rr.1 38 m = _; rw [ro 38 (by decide)]; rfl
          · show Rr.1 39 m = _; rw [ro 39 (by decide)]; rfl
          · show Rr.1 40 m = _; rw [ro 40 (by decide)]; rfl
          · show Rr.1 42 m = _; rw [ro 42 (by decide)]; rfl
          · have := (o2 i hi).1
            rw [(tl_rows (R := wrM Rr (sk N tx (sk N tx (sk N tx a2 + 1) + 1)) (sk N tx (sk N tx (sk N tx a2 + 1) + 1) + 1)) (nb := nb2) (dl := dl + 1) (n := nn) (vc := ls.length) (c := nI (tx (sk N tx (sk N tx (sk N tx a2 + 1) + 1))))).2.2.2.2.2.1 m (by omega)]
            show Rr.1 44 m = _; rw [ro 44 (by decide)]; rfl
          · have := (o2 i hi).1
            rw [(tl_rows (R := wrM Rr (sk N tx (sk N tx (sk N tx a2 + 1) + 1)) (sk N tx (sk N tx (sk N tx a2 + 1) + 1) + 1)) (nb := nb2) (dl := dl + 1) (n := nn) (vc := ls.length) (c := nI (tx (sk N tx (sk N tx (sk N tx a2 + 1) + 1))))).2.2.2.2.2.2.1 (4 * m + j') (by omega)]
            show Rr.1 43 _ = _; rw [ro 43 (by decide)]; rfl
          · show Rr.1 41 m = _; rw [ro 41 (by decide)]; rfl
          · show Rr.1 41 _ = _; rw [ro 41 (by decide)]; exact o4 i hi
        · have := ndF_tl (nb1 := nb2) (dl := dl) (sk N tx (sk N tx (sk N tx a2 + 1) + 1)) (sk N tx (sk N tx (sk N tx a2 + 1) + 1) + 1) ls.length (nI (tx (sk N tx (sk N tx (sk N tx a2 + 1) + 1)))) ndr
          rw [hl] at this ⊢
          exact this
      · rw [sI_sI] at y1
        refine Or.inl (Fl_mk (S := sI S2 21 3 (nI (sk N tx (sk N tx (sk N tx a2 + 1) + 1)))) (p := nI (sk N tx (sk N tx (sk N tx a2 + 1) + 1))) ?_ ?_ (pfC_at p5 _) y3)
        · rw [y1, bV_x, bV_x]
        · rw [y2, bV_v, bV_v]
          exact loop_bad y3 1
    · by_cases hc3 : tb N tx (sk N tx (sk N tx a2 + 1)) = 41
      · rw [if_pos hc3, if_neg hc2]
        exact fin hc3 _ (Or.inr rfl)
      · rw [if_neg hc3, if_neg hc2]
        obtain ⟨R', r1, r2⟩ := nofin hc3
        refine Or.inl (Fl_mk (S := sI (sI S2 21 3 (nI (sk N tx (sk N tx a2 + 1)))) 21 3 (nI (sk N tx (sk N tx a2 + 1)))) (p := nI (sk N tx (sk N tx a2 + 1))) ?_ r1 (pfC_at (pfC_at p5 _) _) r2)
        unfold G_88
        rw [brk_n c11 (by rw [sk_sk]; exact hc2), bV_x, bV_x, sk_sk]
end LETL
