/-! set! -/
section SETF
variable {S0 R0 : amS} {N : Nat} {tx : Nat → Nat} {a q sz nc pd fc h nn nb dl : Nat} {cx : cxT} {P : List (Nat × Nat)} {S R Sq R3 : amS}
theorem Lo_keep {fn : Nat} {e : scE} {src : Int32} {A B : amS} {n m : Nat} (hl : Lo A fn e src) (hm : mxS n A B) (hf : fn < 28 → fn < n) (hn : ∀ i, i < m → agN A B i) (he : e.2.1 < m) : Lo B fn e src := LoR_monoN hm hf (hn e.2.1 he).2.1 hl
theorem JP_one {cv rv : Nat} {sc : List scE} {S' R' : amS} (h : JP P nc nb sc S R) (hcv : cv < 1000) (hm : (cv, rv) ∈ P ∨ (1000 + cv, rv) ∈ P) (h9 : ∀ k, S'.1 9 k = if k = cv then 1 else S.1 9 k) (h46 : ∀ k, R'.1 46 k = if k = rv then 1 else R.1 46 k) : JP P nc nb sc S' R' := by
  refine ⟨fun x hx hlt => ?_, h.2⟩
  have hpi : x.1 = cv ↔ x.2 = rv := by
    rcases hm with hm | hm
    · have h1 : x.1 % 1000 = cv % 1000 ↔ x.2 = rv := h.2.1 x hx _ hm
      rw [← h1]
      omega
    · have h1 : x.1 % 1000 = (1000 + cv) % 1000 ↔ x.2 = rv := h.2.1 x hx _ hm
      rw [← h1]
      omega
  rw [h9, h46]
  by_cases hk : x.1 = cv
  · rw [if_pos hk, if_pos (hpi.mp hk)]
    exact ⟨rfl, Or.inr rfl⟩
  · rw [if_neg hk, if_neg (fun h9 => hk (hpi.mpr h9))]
    exact h.1 x hx hlt
theorem set_cp {k0 : Nat} (he : EH S0 R0 N tx k0 (dl + 1)) (hN : N ≤ 250) (hb : BD a sz nc pd fc nn nb dl cx) (hh : h ≤ 4 * dl) (hd : dl < 20) (hi : FI S0 R0 N tx a q sz nc pd fc h nn nb dl cx P 7 0 S R Sq R3) :
    Sim S0 R0 (G_91 k0 (nI (sk N tx a)) (nI (dl + 1)) Sq) (az_bV (opK 7 nn R3) (fun R2 => G_152_58 1 R2)) (CP S0 R0 N tx a sz nc pd fc h nn nb dl cx P S R) := by
  obtain ⟨t1, t2, t3, t4, t5, f1, f2, f3, f4, f5, f6, f7⟩ := hi
  obtain ⟨b1, b2, b3, b4, b5, b6, b7⟩ := hb
  have hsa := sk_ge (N := N) (tx := tx) a
  have hq : q ≤ N := t1.2.1.2
  have hqs := sk_ge (N := N) (tx := tx) q
  have hsN := sk_le (tx := tx) hq
  have c1 := CR_add t1 1 0 (nI (sk N tx a))
  have bc := bound_c c1 (by omega)
  have hwp := we_prop (tx := tx) (N - sk N tx q) (sk N tx q) (Nat.le_refl _)
  have hwe := hwp.2.1 hsN
  have m1 := MR_wr (p := sk N tx q) f1 hwe
  have hwd := wrM_wd R3 (sk N tx q) (we N tx (sk N tx q))
  have hL := isLet_m m1.1 hwd hsN
  have hpw := pfM_wr f6 (sk N tx q) (we N tx (sk N tx q))
  have hnn : nn < 256 := by omega
  unfold G_91
  rw [add_c t1 (by omega), bI_i]
  unfold opK
  rw [if_neg (by decide), if_neg (by decide), if_neg (by decide), if_pos rfl, word_r f1, bV_v]
  -- refused
  have no : G_77 (addS Sq sz 1 0 (nI (sk N tx a))) = some (.inr 0, sI (sI (addS Sq sz 1 0 (nI (sk N tx a))) 21 3 (nI (sk N tx q))) 23 5 (nI (sk N tx q))) → ∀ K X, X = G_146_417 (nI nn) (-1) (wrM R3 (sk N tx q) (we N tx (sk N tx q))) → Sim S0 R0 (az_bI (G_77 (addS Sq sz 1 0 (nI (sk N tx a)))) K) (az_bV X fun R2 => G_152_58 1 R2) (CP S0 R0 N tx a sz nc pd fc h nn nb dl cx P S R) := by
    intro z1 K X hX
    have hbd := bad_w (bad_fail hpw (nI (sk N tx q))) (a := 38) (k := nn) (by decide) (fun h9 => absurd h9 (by decide)) (-1)
    refine Or.inl (Fl_mk (S := sI (addS Sq sz 1 0 (nI (sk N tx a))) 21 3 (nI (sk N tx q))) (p := nI (sk N tx q)) (by rw [z1, bI_x]) ?_ (pfC_at (pfC_add t3 1 0 _) _) hbd)
    rw [hX]
    unfold G_146_417 G_146_443
    rw [if_neg (by decide), hwd.1, fail_m m1.2.2.1, bV_v, az_ck_in hnn (by decide), nI_clamp (by omega)]
    exact loop_bad hbd 1
  by_cases hw : ltW N tx (sk N tx q)
  · have hl26 : tx (sk N tx q) - 97 < 26 := by have := hw.2.2.1; omega
    have h97 := hw.2.1
    have ht35 := (m1.1.2.2 (sk N tx q) hw.1).1
    rw [hL.1 hw, bI_i, if_neg (by decide), hwd.1, az_ck_in (show sk N tx q < 250 by have := hw.1; omega) (by decide), nI_clamp (show sk N tx q < 2 ^ 31 by omega), ht35, show nI (tx (sk N tx q)) = nI (97 + (tx (sk N tx q) - 97)) by rw [show 97 + (tx (sk N tx q) - 97) = tx (sk N tx q) by omega], lookUp_m hl26 m1.2.2.2.2.2.2.2 (by omega) m1.2.2.2.2.2.2.1, bI_i]
    cases hse : scF (scO cx) (tx (sk N tx q) - 97) with
    | none => exact no (bc.2 (Or.inr hse)) _ _ rfl
    | some e =>
      have hme := scF_mem hse
      have hrv := (scM_mem m1.2.2.2.2.2.2.2 e hme.1).1
      have hcv := (scC_mem t1.2.2.2.2.2.2.2.2.2.1 e hme.1).2.1
      have hPe := t4.2.2.2.1 e hme.1
      have hnce := sdS_lt t4.2.2.2.2 e hme.1
      have hwl : we N tx (sk N tx q) = sk N tx q + 1 := we_of 1 (fun i hi => by
        have : i = 0 := by omega
        subst this
        rw [Nat.add_zero]
        have := hw.1; have := hw.2.1
        unfold enW
        omega) hw.2.2.2
      rw [hwl] at m1 hpw
      rw [hwl]
      dsimp only
      -- the class: boxed, reached
      have hp1 : sk N tx q + 1 ≤ N := hw.1
      have c2 : CR N tx (sk N tx q + 1) (sz + 1) nc pd fc h cx (sI (sI (addS Sq sz 1 0 (nI (sk N tx a))) 21 3 (nI (sk N tx q + 1))) 9 e.2.1 1) := CR_at c1 hp1
      obtain ⟨src, S5, z1, z2, z3, z4, z5, z6⟩ := reach_c c2 hse hl26 (by omega) (by omega)
      rw [bc.1 e hw hse, bI_i]
      unfold g_64
      rw [if_neg (nI_pos (by omega)), if_neg (show ¬ (250 : Int32) ≤ nI e.2.1 from nI_ge (b := 250) (by omega) (by decide)), az_ck_in hcv (by decide), nI_clamp (by omega)]
      simp only [az_st]
      rw [bV_v]
      unfold g_62 g_61
      rw [bI_i, bI_i, az_rg_in _ _ _ hcv (by decide), az_rg_in _ _ _ hcv (by decide)]
      rw [show vp_nar .boolean 1 = (1 : Int32) from rfl, z1, bI_i]
      -- the reference: counted
      unfold G_146_417 G_146_443
      rw [if_pos (show (0 : Int32) ≤ nI e.2.2.1 from nI_le (a := 0) (by omega) (by omega)), az_ck_in hrv (by decide), nI_clamp (by omega)]
      simp only [az_st]
      rw [az_ck_in hnn (by decide), nI_clamp (by omega), bV_v, show vp_nar .boolean 1 = (1 : Int32) from rfl]
      generalize hR4 : sI (sI (wrM R3 (sk N tx q) (sk N tx q + 1)) 46 e.2.2.1 1) 38 nn (nI e.2.2.1) = R4
      have r46 : ∀ k, R4.1 46 k = if k = e.2.2.1 then 1 else R3.1 46 k := by
        intro k
        rw [← hR4, sI_na _ (by decide), sI_get]
        by_cases hk : k = e.2.2.1
        · rw [if_pos ⟨rfl, hk⟩, if_pos hk]
        · rw [if_neg (fun h => hk h.2), if_neg hk]
          rfl
      have s9 : ∀ k, S5.1 9 k = if k = e.2.1 then 1 else Sq.1 9 k := by
        intro k
        rw [z5 9 (by decide) (by decide) (by decide), sI_get]
        by_cases hk : k = e.2.1
        · rw [if_pos ⟨rfl, hk⟩, if_pos hk]
        · rw [if_neg (fun h => hk h.2), if_neg hk]
          rfl
      have m2 : MR N tx (sk N tx q + 1) (nn + 1) nb (dl + 1) (scO cx) R4 := by rw [← hR4]; exact m1
      have hp2 : pfM R0 R4 := by rw [← hR4]; exact pfM_w (pfM_w hpw (Or.inl (by decide)) (fun h9 => absurd h9 (by decide)) _) (Or.inl (by decide)) (fun h9 => absurd h9 (by decide)) _
      have nf : ndF R4 nn 7 (nI (sk N tx a)) (nI e.2.2.1) (-1) (-1) (nI 0) 0 := by
        rw [← hR4]
        exact ⟨f3.1, f3.2.1, sI_eq _ _ _ _, f3.2.2.2.1, f3.2.2.2.2.1, f3.2.2.2.2.2.1, f3.2.2.2.2.2.2⟩
      have hfM : fM nn 1000 (nn + 1) nb (dl + 1) P R3 R4 := by
        refine ⟨fun m hm hne => ⟨?_, ?_, ?_, ?_, ?_, ?_, ?_, fun j _ => ?_⟩, fun m _ _ => ?_, fun i _ => ⟨?_, ?_, ?_⟩, fun i _ => ?_, fun v hv hp => ?_, fun _ _ _ _ => ?_⟩
        any_goals (rw [← hR4]; rfl)
        · rw [← hR4, sI_nk _ hne]; rfl
        · rw [r46, if_neg (fun h9 => by rcases hPe with hPe | hPe; exact hp _ hPe h9.symm; exact hp _ hPe h9.symm)]
      have hjp : JP P nc nb (scO cx) S5 R4 := JP_one (cv := e.2.1) (rv := e.2.2.1) t4 (by omega) hPe s9 r46
      have hfC4 : fC (sz + 1) nc pd fc cx (addS Sq sz 1 0 (nI (sk N tx a))) (sI (sI (addS Sq sz 1 0 (nI (sk N tx a))) 21 3 (nI (sk N tx q + 1))) 9 e.2.1 1) := by
        refine ⟨fun _ _ => ⟨rfl, rfl, rfl⟩, fun _ _ => ⟨rfl, rfl, rfl, rfl⟩, fun _ _ _ => ⟨rfl, fun _ _ => ⟨rfl, rfl⟩⟩, fun i _ => ⟨rfl, rfl, rfl, fun h9 => ?_⟩, mxN_refl _ _ _ _, fun _ _ => rfl⟩
        rw [sI_get]
        by_cases hk : i = e.2.1
        · rw [if_pos ⟨rfl, hk⟩]
        · rw [if_neg (fun h => hk h.2)]; exact h9
      have hpS5 : pfC S0 S5 := by
        have := pfC_w (pfC_at (pfC_add (sz := sz) t3 1 0 (nI (sk N tx a))) (nI (sk N tx q + 1))) (a := 9) (k := e.2.1) (by decide) (by omega) 1
        refine ⟨fun x hx => ?_, ?_, z6.trans this.2.2⟩
        · rw [z5 x (by omega) (by omega) (by omega)]; exact this.1 x hx
        · rw [z5 21 (by decide) (by decide) (by decide)]; exact this.2.1
      have o4 := hfM.2.2.1 (dl + 1) (Nat.le_refl _)
      have g0 := gate_fix (m := 1) (cc := 0) nf ⟨by decide, by decide⟩ (by decide) rfl (by decide) (by decide)
      refine Sim_bV (slot (l := 0) (cc := 0) he ⟨z2, m2, rfl, hjp, hpS5, hp2⟩ ⟨by omega, by omega, by omega, by omega, by omega, by omega, by omega⟩ (by omega) (by omega) hN ⟨o4.1.trans f2.1, o4.2.1.trans f2.2.1, o4.2.2.trans f2.2.2⟩ (by omega) ⟨g0.1, fun _ => Or.inr g0.2, fun _ => Or.inl (by omega)⟩ nf (by decide) (fun h9 => absurd rfl h9)) ?_
      rintro S1 r ⟨a1, sz1, nc1, fc1, nn1, nb1, P1, R1, cc1, e1, e2, e3, e4, e5, e6, e7, e8, e9, e10, e11, -⟩
      subst e1
      rw [if_pos rfl] at e7 e11
      obtain ⟨e5a, e5b, e5c, e5d, e5e, e5f⟩ := e5
      obtain ⟨p1, p2, p3, p4, p5, p6⟩ := e2
      obtain ⟨x1, x2, x3, x4, x5, x6, x7⟩ := e3
      have ha1 : a1 ≤ N := p1.2.1.2
      have hs1 := sk_ge (N := N) (tx := tx) (sk N tx q + 1)
      have o1 := e7.2.2.1 (dl + 1) (Nat.le_refl _)
      rw [add_c p1 (by omega), bI_i]
      have g1 := gate_fix (m := 1) (cc := 1) e11 ⟨by decide, by decide⟩ (by decide) rfl (by decide) (by decide)
      have F0 : fC sz nc pd fc cx S S5 := fC_tr (fC_tr t2 (fC_add 1 0 _ nc pd fc cx) (Nat.le_refl _) (Nat.le_refl _) (Nat.le_refl _) (Nat.le_refl _)) (fC_tr hfC4 z4 (Nat.le_refl _) (Nat.le_refl _) (Nat.le_refl _) (Nat.le_refl _)) (by omega) (Nat.le_refl _) (Nat.le_refl _) (Nat.le_refl _)
      have M2 : fM nn 1000 (nn + 1) nb (dl + 1) P R3 R1 := fM_trans (nc := nc) hfM e7 (Nat.le_refl _) (Nat.le_refl _) (Nat.le_refl _) (Or.inl rfl) (PE_refl P nc nb)
      have A1 : fC (sz + 1) nc pd fc cx S5 (addS S1 sz1 12 src (nI (sk N tx a))) := fC_tr e6 (fC_add 12 src _ nc pd fc cx) (by omega) (Nat.le_refl _) (Nat.le_refl _) (Nat.le_refl _)
      have D0 : cd (addS S1 sz1 12 src (nI (sk N tx a))) sz 1 0 (nI (sk N tx a)) := by
        have d0 : cd (sI (sI (addS Sq sz 1 0 (nI (sk N tx a))) 21 3 (nI (sk N tx q + 1))) 9 e.2.1 1) sz 1 0 (nI (sk N tx a)) := cd_add (S := Sq) 1 0 (nI (sk N tx a))
        exact cd_ag d0 (agC_trans (z4.1 sz (by omega)) (A1.1 sz (by omega)))
      have D1 : cd (addS S1 sz1 12 src (nI (sk N tx a))) sz1 12 src (nI (sk N tx a)) := cd_add 12 src _
      have T1 : Tr P1 a1 (dl + 1) cc1 nn1 (sz + 1) sz1 fc fc1 nc1 h (fnO cx) (scO cx) (addS S1 sz1 12 src (nI (sk N tx a))) R1 := Tr_step e10 (cK_of_fC (fC_add (S := S1) 12 src (nI (sk N tx a)) nc1 pd fc1 []) (Nat.le_refl _) (Nat.le_refl _) (Nat.le_refl _) (fun f hf => by cases hf)) (kM_refl _ _ _)
      have hfn : fnO cx < 28 → fnO cx < fc := fun h9 => opC_fc t1.2.2.2.2.2.2.2.2.2.2.1 h9
      refine Or.inr ⟨_, rfl, a1, a1, sz1 + 1, nc1, fc1, nn1, nb1, P1, R1, [], rfl, CR_add p1 12 src _, p2, p3, JP_rows p4 rfl rfl, pfC_add p5 12 src _, p6, ⟨by omega, by omega, by omega, by omega, by omega, by omega⟩, ⟨by omega, by omega, by omega, by omega, by omega⟩, fC_tr F0 A1 (by omega) (Nat.le_refl _) (Nat.le_refl _) (Nat.le_refl _), fM_trans (nc := nc) f5 (fM_le M2 (n' := 1000) (l' := 1000) (nn' := nn) (nb' := nb) (dl' := dl) (by omega) (Nat.le_refl _) (by omega) (Or.inr (Nat.le_refl _)) (Or.inl rfl)) (Nat.le_refl _) (Nat.le_refl _) (Nat.le_refl _) (Or.inl rfl) (PE_refl P nc nb), e8, (M2.2.1 nn (by omega) (by omega)).trans f4, ⟨(o1.1.trans o4.1).trans f2.1, (o1.2.1.trans o4.2.1).trans f2.2.1, (o1.2.2.trans o4.2.2).trans f2.2.2⟩, ⟨g1.2, by rw [e11.2.2.2.2.2.1]; decide⟩, Or.inr (Or.inr g1.1), ?_, ?_, e11.2.1⟩
      · intro S6 R6 k1 k2 k3 k4
        obtain ⟨m1, m2, m3, m4, m5, m6, m7, -⟩ := k2.1 nn (Nat.le_refl _) (by omega)
        obtain ⟨u1, v1⟩ := T1 S6 R6 (cK_le k1 (by omega) (by omega) (Nat.le_refl _) (Nat.le_refl _) (Nat.le_refl _)) (kM_le k2 (by omega) (Nat.le_refl _)) k3 (by omega)
        obtain ⟨s1, s2, s3, s4, s5⟩ := hdT_mk (q := sz1 + 1) (a' := a1 + 1) (nc := nc1) (nb := nb1) (dl := dl) (h := h) (by omega) hh (by omega) (show 17 * (scO cx).length ≤ 4 * (a1 + 1 + dl) by omega) p4.2.2.2.2 (by omega) (by omega) (by omega)
        have p37 : R6.1 37 nn = nI (sk N tx a) := m2.trans e11.2.1
        have lo : Lo S6 (fnO cx) e src := Lo_keep (Lo_keep (n := fc) (m := nc) z3 A1.2.2.2.2.1 hfn A1.2.2.2.1 hnce.1) (n := fc1) (m := nc1) k1.2.2.2 (fun h9 => by have := hfn h9; omega) k1.2.2.1 (by have := hnce.1; omega)
        have b9 : S6.1 9 e.2.1 = 1 := (k1.2.2.1 e.2.1 (by have := hnce.1; omega)).2.2.2 ((A1.2.2.2.1 e.2.1 hnce.1).2.2.2 (by rw [s9, if_pos rfl]))
        refine ⟨u1 + 1, fun tl => ⟨nn, rfl, by omega, s1, s2, s3, s4, s5, Or.inr (Or.inr (Or.inr (Or.inr (Or.inr (Or.inr (Or.inr (Or.inl ⟨m1.trans e11.1, e, hme.1, src, sz1, cc1, by omega, m3.trans e11.2.2.1, b9, lo, ?_, ⟨m4.trans e11.2.2.2.1, m6.trans e11.2.2.2.2.2.1⟩, v1 false, ?_, rfl⟩)))))))⟩⟩
        · rw [p37]; exact cd_ag D0 (k1.1 sz (Nat.le_refl _) (by omega))
        · rw [p37]; exact cd_ag D1 (k1.1 sz1 (by omega) (by omega))
      · rw [D0.1, e11.1]; decide
  · rw [hL.2 hw, bI_i, if_pos rfl]
    exact no (bc.2 (Or.inl hw)) _ _ rfl
end SETF
