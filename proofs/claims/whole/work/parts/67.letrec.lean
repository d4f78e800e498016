/-! letrec -/
section LREC
variable {S0 R0 : amS} {N : Nat} {tx : Nat → Nat} {a q sz nc pd fc h nn nb dl : Nat} {cx : cxT} {P : List (Nat × Nat)} {S R Sq R3 : amS}
theorem letrec_cp {k0 : Nat} (he : EH S0 R0 N tx k0 (dl + 1)) (hN : N ≤ 250) (hb : BD a sz nc pd fc nn nb dl cx) (hh : h ≤ 4 * dl) (hd : dl < 20) (hi : FI S0 R0 N tx a q sz nc pd fc h nn nb dl cx P 6 0 S R Sq R3) (hq7 : sk N tx a + 7 ≤ q) :
    Sim S0 R0 (G_89 k0 (nI (sk N tx a)) (nI (dl + 1)) Sq) (az_bV (opK 6 nn R3) (fun R2 => G_152_58 1 R2)) (CP S0 R0 N tx a sz nc pd fc h nn nb dl cx P S R) := by
  obtain ⟨t1, t2, t3, t4, t5, hfo⟩ := hi
  have hcx := op_ne t1
  obtain ⟨⟨g, v0⟩, c, rfl⟩ : ∃ f c, cx = f :: c := by
    cases cx with
    | nil => exact absurd rfl hcx
    | cons f c => exact ⟨f, c, rfl⟩
  have hsa := sk_ge (N := N) (tx := tx) a
  have hnb1 : ∀ i, i < 1 → nb ≤ ([nb] : List Nat).getD i 0 := fun i hi => by
    rw [show i = 0 by omega]
    simp
  have hq : q ≤ N := t1.2.1.2
  have hbb := hb
  obtain ⟨b1, b2, b3, b4, b5, b6, b7⟩ := hb
  unfold opK
  rw [if_neg (by decide), if_neg (by decide), if_pos rfl]
  unfold G_89
  rcases head_2 hN hbb hd t1 t3 t4 t5 hfo with ⟨R', ⟨S', hs, hs2, hs3⟩, hm, hbad⟩ | ⟨S2, S3, a1, l, R1, g1, g2, g3, g4, g5, g6, g7, g8, g9, g10, g10a, g10b, g10c, g11, g12, g13, g14⟩
  · refine Or.inl ⟨S', R', R'.1 34 6, ?_, by rw [hm, bV_v]; exact loop_bad hbad 1, hs2, hs3, hbad⟩
    rcases hs with hs | ⟨S2, hs, hs4 | ⟨S3, hs4, hs5, hs6⟩⟩
    · rw [hs, bV_x]
    · rw [hs, bV_v, hs4, bV_x]
    · rw [hs, bV_v, hs4, bV_v]
      simp only [az_st]
      rw [hs5, hs6, bV_x]
  rw [g3, bV_v, g4, bV_v]
  simp only [az_st]
  rw [g5, g6, bV_v]
  obtain ⟨u1, u2, u3, u4, u5, u6, u7, u8, u9, u10⟩ := g8
  generalize hS4 : ltS S3 (a1 - 1) pd l = S4 at u1 u2 u5 u6 g9 g10 g10a g10b g10c
  have ha1 : a1 ≤ N := u1.2.1.2
  rw [show S4.1 5 4 = nI nc from u1.2.2.2.1, show S4.1 23 4 = nI h from u1.2.2.2.2.2.2.2.2.1]
  obtain ⟨S5, z1, z2, z3, z4, z5, z6⟩ := bind_c (s0 := h) u1 [nb] u2 rfl (by simp; omega) (by simp; omega) (by simp; omega) (fun e he => (sdS_lt u5.2.2.2.2 e he).1)
  rw [z1, bI_i]
  have hV := mkV_len [l] [nb] nc g 1
  rw [show ([l] : List Nat).length = 1 from rfl] at z2 z4 z5
  -- LETREC
  have c6 : CR N tx a1 sz (nc + 1) pd fc h ((g, mkV [l] [nb] nc g 1 ++ v0) :: c) S5 := z2
  rw [val_c c6 (by omega) (by omega), bV_v]
  have c7 := CR_h (CR_add c6 6 0 (nI (sk N tx a))) (h + 1)
  rw [skip_r c7, bI_i]
  have c8 := CR_sk c7
  generalize hS8 : sI (sI (addS S5 sz 6 0 (nI (sk N tx a))) 23 4 (nI (h + 1))) 21 3 (nI (sk N tx a1)) = S8 at c8
  rw [show S8.1 1 3 = nI (sz + 1) from c8.2.2.1]
  -- the reference: counted, bound, telling
  have e43 : R1.1 43 (4 * nn) = nI nb := by have := u8.2.2.2 0 (by simp); simpa using this
  have m2 : MR N tx a1 (nn + 1) (nb + 1) (dl + 1) (scO ((g, v0) :: c)) (sI R1 46 nb 1) := u3
  have tol2 : toldM (sI R1 46 nb 1) nn (dl + 1) [l] [nb] := u8
  have hba := bindAll_m m2 tol2 (by omega) (by omega) (by simp) (by omega)
  have r3 := MR_ba (ls := [l]) (rv := [nb]) (c0 := nc) (fn := g) m2 (fun i hi => (u8.2.2.1 i hi).2) (fun i hi => by simp at hi; subst hi; simp; omega)
  have eM : G_146_336 6 (nI nn) R1 = some (.inl none, sI (baL (sI R1 46 nb 1) (scO ((g, v0) :: c)).length [l] [nb] 1) 48 (dl + 1) 1) := by
    unfold G_146_336
    rw [if_pos rfl, if_pos u3.2.2.1, show (4 : Int32) * nI nn = nI (4 * nn) from pk_mul 4 nn, az_ck_in (show 4 * nn < 1024 by omega) (by decide), nI_clamp (by omega)]
    simp only [az_st]
    rw [e43, az_ck_in (show nb < 256 by omega) (by decide), nI_clamp (by omega), show vp_nar .boolean 1 = (1 : Int32) from rfl, hba, bV_v]
    unfold G_146_370
    simp only [az_st]
    rw [show (baL (sI R1 46 nb 1) (scO ((g, v0) :: c)).length [l] [nb] ([l] : List Nat).length).1 34 23 = nI (dl + 1) from r3.2.2.2.2.2.1, az_ck_in (show dl + 1 < 24 by omega) (by decide), nI_clamp (by omega)]
    rfl
  rw [g7, eM, bV_v]
  have r4 : MR N tx a1 (nn + 1) (nb + 1) (dl + 1) (mkV [l] [nb] nc g 1 ++ scO ((g, v0) :: c)) (sI (baL (sI R1 46 nb 1) (scO ((g, v0) :: c)).length [l] [nb] 1) 48 (dl + 1) 1) := r3
  have o4 : ∀ x k, x ≠ 50 → x ≠ 51 → x ≠ 34 → x ≠ 46 → x ≠ 48 → (sI (baL (sI R1 46 nb 1) (scO ((g, v0) :: c)).length [l] [nb] 1) 48 (dl + 1) 1).1 x k = R1.1 x k := fun x k a1 a2 a3 a4 a5 => by
    rw [sI_na _ a5, baL_o _ x k a1 a2 (fun h => absurd h a3), sI_na _ a4]
  have e46 : ∀ k, (sI (baL (sI R1 46 nb 1) (scO ((g, v0) :: c)).length [l] [nb] 1) 48 (dl + 1) 1).1 46 k = if k = nb then 1 else R1.1 46 k := by
    intro k
    rw [sI_na _ (by decide), baL_o _ 46 k (by decide) (by decide) (fun h => absurd h (by decide)), sI_get]
    by_cases hk : k = nb
    · rw [if_pos ⟨rfl, hk⟩, if_pos hk]
    · rw [if_neg (fun h => hk h.2), if_neg hk]
  have p4m : pfM R0 (sI (baL (sI R1 46 nb 1) (scO ((g, v0) :: c)).length [l] [nb] 1) 48 (dl + 1) 1) := pfM_w (pfM_ba (pfM_w u7 (Or.inl (by decide)) (fun h => absurd h (by decide)) _) _) (Or.inl (by decide)) (fun h => absurd h (by decide)) _
  have M4 : fM 1000 1000 nn nb dl P R (sI (baL (sI R1 46 nb 1) (scO ((g, v0) :: c)).length [l] [nb] 1) 48 (dl + 1) 1) := by
    have hx : ∀ x k, x ≠ 50 → x ≠ 51 → x ≠ 34 → x ≠ 46 → x ≠ 48 → (sI (baL (sI R1 46 nb 1) (scO ((g, v0) :: c)).length [l] [nb] 1) 48 (dl + 1) 1).1 x k = R1.1 x k := o4
    refine fM_trans (nc := nc) g14 ⟨fun m hm _ => ⟨hx _ _ (by decide) (by decide) (by decide) (by decide) (by decide), hx _ _ (by decide) (by decide) (by decide) (by decide) (by decide), hx _ _ (by decide) (by decide) (by decide) (by decide) (by decide), hx _ _ (by decide) (by decide) (by decide) (by decide) (by decide), hx _ _ (by decide) (by decide) (by decide) (by decide) (by decide), hx _ _ (by decide) (by decide) (by decide) (by decide) (by decide), hx _ _ (by decide) (by decide) (by decide) (by decide) (by decide), fun _ _ => hx _ _ (by decide) (by decide) (by decide) (by decide) (by decide)⟩, fun _ _ _ => hx _ _ (by decide) (by decide) (by decide) (by decide) (by decide), fun i hi => ⟨hx _ _ (by decide) (by decide) (by decide) (by decide) (by decide), ?_, hx _ _ (by decide) (by decide) (by decide) (by decide) (by decide)⟩, fun _ _ => hx _ _ (by decide) (by decide) (by decide) (by decide) (by decide), fun v hv _ => ?_, fun _ _ _ _ => hx _ _ (by decide) (by decide) (by decide) (by decide) (by decide)⟩ (Nat.le_refl _) (Nat.le_refl _) (Nat.le_refl _) (Or.inl rfl) (PE_refl P nc nb)
    · rw [sI_nk _ (by omega), baL_o _ 48 i (by decide) (by decide) (fun h => absurd h (by decide))]
      rfl
    · rw [e46, if_neg (by omega)]
  have op4 : opM (sI (baL (sI R1 46 nb 1) (scO ((g, v0) :: c)).length [l] [nb] 1) 48 (dl + 1) 1) (dl + 1) nn 1 (scO ((g, v0) :: c)).length := ⟨(o4 _ _ (by decide) (by decide) (by decide) (by decide) (by decide)).trans g11.1, sI_eq _ _ _ _, (o4 _ _ (by decide) (by decide) (by decide) (by decide) (by decide)).trans g11.2.2⟩
  have nd4 : ndF (sI (baL (sI R1 46 nb 1) (scO ((g, v0) :: c)).length [l] [nb] 1) 48 (dl + 1) 1) nn 6 (nI (sk N tx a)) 0 (-1) (-1) (nI 0) 1 := by
    obtain ⟨y1, y2, y3, y4, y5, y6, y7⟩ := g12
    exact ⟨(o4 _ _ (by decide) (by decide) (by decide) (by decide) (by decide)).trans y1, (o4 _ _ (by decide) (by decide) (by decide) (by decide) (by decide)).trans y2, (o4 _ _ (by decide) (by decide) (by decide) (by decide) (by decide)).trans y3, (o4 _ _ (by decide) (by decide) (by decide) (by decide) (by decide)).trans y4, (o4 _ _ (by decide) (by decide) (by decide) (by decide) (by decide)).trans y5, (o4 _ _ (by decide) (by decide) (by decide) (by decide) (by decide)).trans y6, (o4 _ _ (by decide) (by decide) (by decide) (by decide) (by decide)).trans y7⟩
  have h414 : (sI (baL (sI R1 46 nb 1) (scO ((g, v0) :: c)).length [l] [nb] 1) 48 (dl + 1) 1).1 41 nn = -1 := (o4 _ _ (by decide) (by decide) (by decide) (by decide) (by decide)).trans g13
  have h434 : ∀ i, i < 1 → (sI (baL (sI R1 46 nb 1) (scO ((g, v0) :: c)).length [l] [nb] 1) 48 (dl + 1) 1).1 43 (4 * nn + i) = nI (([nb] : List Nat).getD i 0) := fun i hi => (o4 _ _ (by decide) (by decide) (by decide) (by decide) (by decide)).trans (u8.2.2.2 i (by simpa using hi))
  have jp8 : JP (prP (1000 + nc) [nb] 1 ++ P) (nc + 1) (nb + 1) (mkV [l] [nb] nc g 1 ++ scO ((g, v0) :: c)) S8 (sI (baL (sI R1 46 nb 1) (scO ((g, v0) :: c)).length [l] [nb] 1) 48 (dl + 1) 1) := by
    refine JP_rec (l := l) (fn := g) u5 u9 t4.2.2.2.2 (by omega) (fun k => ?_) e46
    rw [← hS8]
    exact z5 k
  generalize hR4 : sI (baL (sI R1 46 nb 1) (scO ((g, v0) :: c)).length [l] [nb] 1) 48 (dl + 1) 1 = R4 at r4 e46 p4m M4 op4 nd4 h414 h434 jp8
  have F8 : fC sz nc pd fc ((g, v0) :: c) S S8 := by
    rw [← hS8]
    refine fC_tr t2 (fC_tr (g9 sz nc fc ((g, v0) :: c)) (fC_tr z3 ?_ (Nat.le_refl _) (Nat.le_refl _) (Nat.le_refl _) (Nat.le_refl _)) (Nat.le_refl _) (Nat.le_refl _) (Nat.le_refl _) (Nat.le_refl _)) (Nat.le_refl _) (Nat.le_refl _) (Nat.le_refl _) (Nat.le_refl _)
    exact fC_tr (fC_add (S := S5) 6 0 (nI (sk N tx a)) nc pd fc ((g, v0) :: c)) (fC_tr (fC_h (nI (h + 1)) sz nc pd fc ((g, v0) :: c)) (fC_at (nI (sk N tx a1)) sz nc pd fc ((g, v0) :: c)) (Nat.le_refl _) (Nat.le_refl _) (Nat.le_refl _) (Nat.le_refl _)) (Nat.le_refl _) (Nat.le_refl _) (Nat.le_refl _) (Nat.le_refl _)
  have D8 : cd S8 sz 6 0 (nI (sk N tx a)) := by rw [← hS8]; exact cd_add (S := S5) 6 0 (nI (sk N tx a))
  have s87 : S8.1 7 nc = nI h := by
    rw [← hS8]
    have := z4 0 (by decide)
    rw [Nat.add_zero, Nat.add_zero] at this
    exact this
  have pf8 : pfC S0 S8 := by rw [← hS8]; exact pfC_at (pfC_h (pfC_add (z6 S0 u6) _ _ _) _) _
  have hsc := scO_app (g := g) (vs := mkV [l] [nb] nc g 1) (v0 := v0) (c := c)
  have hVl : (scO ((g, mkV [l] [nb] nc g 1 ++ v0) :: c)).length = 1 + (scO ((g, v0) :: c)).length := by rw [hsc, List.length_append, hV]
  have hs1 := sk_ge (N := N) (tx := tx) a1
  rw [← hsc] at r4 jp8
  -- the lambda
  refine Sim_bV (he (sk N tx a1) a1 (sz + 1) (nc + 1) pd fc (h + 1) (nn + 1) (nb + 1) ((g, mkV [l] [nb] nc g 1 ++ v0) :: c) (prP (1000 + nc) [nb] 1 ++ P) S8 R4 nn 1 _ ⟨c8, r4, by rw [sk_sk], jp8, pf8, p4m⟩ ⟨by omega, by omega, by omega, by omega, by omega, by simp at b6 ⊢; omega, by rw [hVl]; omega⟩ (by omega) (by omega) op4 (by omega) (gate_tell (by omega) R4)) ?_
  rintro S9 r ⟨a5, sz5, nc5, fc5, nn5, nb5, P5, R5, c1, e1, e2, e3, e4, e5, e6, e7, e8, e9, e10, e11, e12⟩
  subst e1
  rw [sk_sk] at e4 e12
  obtain ⟨e5a, e5b, e5c, e5d, e5e, e5f⟩ := e5
  obtain ⟨p1, p2, p3, p4, p5, p6⟩ := e2
  obtain ⟨x1, x2, x3, x4, x5, x6, x7⟩ := e3
  have ha5 : a5 ≤ N := p1.2.1.2
  have o5 := e7.2.2.1 (dl + 1) (Nat.le_refl _)
  obtain ⟨y1, y2, y3, y4, y5, y6, y7, -⟩ := e7.1 nn (by omega) (by omega)
  have nd5 : ndF R5 nn 6 (nI (sk N tx a)) 0 (-1) (-1) (nI 0) 1 := ⟨y1.trans nd4.1, y2.trans nd4.2.1, y3.trans nd4.2.2.1, y4.trans nd4.2.2.2.1, y5.trans nd4.2.2.2.2.1, y6.trans nd4.2.2.2.2.2.1, y7.trans nd4.2.2.2.2.2.2⟩
  obtain ⟨R6, w1, w2, w3, w4, w5, w6, w7⟩ := hang_m (c := c1) (l := 0) nd5 (by omega) (by decide) (fun h9 => absurd rfl h9)
  have m6 : MR N tx a5 nn5 nb5 (dl + 1) (scO ((g, mkV [l] [nb] nc g 1 ++ v0) :: c)) R6 := MR_hang (l := 0) p2 nd5 (by decide) (fun h9 => absurd rfl h9) (by omega) e5f (by omega) ⟨dl + 1, Nat.le_refl _, o5.1.trans op4.1⟩ e9 (by rw [e5e]; exact uh_of r4.2.2.2.1.2 p2.2.2.2.1.2 e7 (by omega)) w2 w3 w4 w5 w6
  rw [if_pos rfl] at w2
  have p6m : pfM R0 R6 := by
    refine ⟨fun x hx => ?_, fun k hk => ?_, w7.trans p6.2.2⟩
    · rw [w6 x (by omega) (by omega) (by omega) (by omega)]; exact p6.1 x hx
    · rw [w6 34 (by decide) (by decide) (by decide) (by decide)]; exact p6.2.1 k hk
  have t48 : R6.1 48 (dl + 1) = 1 := by rw [w6 48 (by decide) (by decide) (by decide) (by decide), o5.2.1]; exact op4.2.1
  have e150 : G_150 (nI c1) R5 = if R6.1 36 c1 = 3 then G_150_61 (nI nn) R6 else (az_bV (g_131 (R6.1 37 c1) R6) fun S3 => some (.inl none, S3)) := by
    unfold G_150
    rw [p2.2.2.2.2.2.1, az_ck_in (show dl + 1 < 24 by omega) (by decide), nI_clamp (show dl + 1 < 2 ^ 31 by omega)]
    simp only [az_st]
    rw [o5.1, op4.1, w1, bV_v, m6.2.2.2.2.2.1, az_ck_in (show dl + 1 < 24 by omega) (by decide), nI_clamp (show dl + 1 < 2 ^ 31 by omega), t48, if_neg (by decide), az_ck_in (show nn < 256 by omega) (by decide), nI_clamp (show nn < 2 ^ 31 by omega), w2.1, if_pos rfl, az_ck_in (show c1 < 256 by omega) (by decide), nI_clamp (show c1 < 2 ^ 31 by omega), az_ck_in (show c1 < 256 by omega) (by decide)]
  have k36 : R6.1 36 = R5.1 36 := w6 36 (by decide) (by decide) (by decide) (by decide)
  have k37 : R6.1 37 = R5.1 37 := w6 37 (by decide) (by decide) (by decide) (by decide)
  unfold g_4
  rw [bI_i, az_rg_in _ _ _ (show sz + 1 < 502 by omega) (by decide), e150, k36, k37]
  by_cases hlam : ¬ R5.1 36 c1 = 3
  · rw [if_neg hlam, if_neg (fun h9 => hlam (e11.mp h9)), e12]
    have hbd := bad_fail p6m (nI (sk N tx a1))
    refine Or.inl (Fl_mk (S := S9) (p := nI (sk N tx a1)) ?_ ?_ p5 hbd)
    · simp only [g_72, az_st, bV_x]
    · rw [fail_m m6.2.2.1, bV_v, bV_v]
      exact loop_bad hbd 1
  replace hlam := Classical.not_not.mp hlam
  rw [if_pos hlam, if_pos (e11.mpr hlam)]
  -- two brackets
  unfold G_89_104 G_150_61
  by_cases hc1 : ¬ tb N tx (sk N tx a5) = 41
  · obtain ⟨R7, r1, r2, -⟩ := sign_n m6 p6m hc1
    refine Or.inl (Fl_mk (S := sI S9 21 3 (nI (sk N tx a5))) (p := nI (sk N tx a5)) (by rw [brk_n p1 hc1, bV_x]) ?_ (pfC_at p5 _) r2)
    rw [r1, bV_v, if_neg (by rw [r2.1]; decide), bV_v]
    exact loop_bad r2 1
  replace hc1 := Classical.not_not.mp hc1
  obtain ⟨q1, q2⟩ := brk_y p1 hc1 (by decide)
  have q3 := (sign_y m6 hc1 (by decide)).1
  have c10 := CR_at p1 q2
  have m7 := MR_at m6 q2
  rw [q1, bV_v, q3, bV_v, if_pos m7.2.2.1, az_ck_in (show nn < 256 by omega) (by decide), nI_clamp (show nn < 2 ^ 31 by omega), show (sI R6 34 4 (nI (sk N tx a5 + 1))).1 36 nn = 6 from w2.1, if_neg (by decide)]
  unfold G_150_134
  by_cases hc2 : ¬ tb N tx (sk N tx (sk N tx a5 + 1)) = 41
  · obtain ⟨R7, r1, r2, r3, r4', -⟩ := sign_n m7 (pfM_at p6m _) hc2
    have hbd := bad_w r2 (a := 48) (k := dl + 1) (by decide) (fun h9 => absurd h9 (by decide)) 0
    refine Or.inl (Fl_mk (S := sI (sI S9 21 3 (nI (sk N tx a5 + 1))) 21 3 (nI (sk N tx (sk N tx a5 + 1)))) (p := nI (sk N tx (sk N tx a5 + 1))) (by rw [brk_n c10 hc2, bV_x]) ?_ (pfC_at (pfC_at p5 _) _) hbd)
    rw [r1, bV_v]
    simp only [az_st]
    rw [r3, m7.2.2.2.2.2.1, az_ck_in (show dl + 1 < 24 by omega) (by decide), nI_clamp (show dl + 1 < 2 ^ 31 by omega), az_ck_in (show nn < 256 by omega) (by decide), nI_clamp (show nn < 2 ^ 31 by omega), sI_na _ (by decide), r4' 36 (by decide), show (sI R6 34 4 (nI (sk N tx a5 + 1))).1 36 nn = 6 from w2.1, if_neg (by decide), bV_v]
    exact loop_bad hbd 1
  replace hc2 := Classical.not_not.mp hc2
  obtain ⟨q4, q5⟩ := brk_y c10 hc2 (by decide)
  have q6 := (sign_y m7 hc2 (by decide)).1
  rw [sI_sI] at q4 q6
  have c11 := CR_at p1 q5
  have m8 := MR_at m6 q5
  rw [q4, bV_v, q6, bV_v]
  simp only [az_st]
  rw [m8.2.2.2.2.2.1, az_ck_in (show dl + 1 < 24 by omega) (by decide), nI_clamp (show dl + 1 < 2 ^ 31 by omega), az_ck_in (show nn < 256 by omega) (by decide), nI_clamp (show nn < 2 ^ 31 by omega), sI_na _ (by decide), show (sI R6 34 4 (nI (sk N tx (sk N tx a5 + 1) + 1))).1 36 nn = 6 from w2.1, if_neg (by decide), bV_v]
  have hs5 := sk_ge (N := N) (tx := tx) a5
  have hs6 := sk_ge (N := N) (tx := tx) (sk N tx a5 + 1)
  have r8 : MR N tx (sk N tx (sk N tx a5 + 1) + 1) nn5 nb5 (dl + 1) (scO ((g, mkV [l] [nb] nc g 1 ++ v0) :: c)) (sI (sI R6 34 4 (nI (sk N tx (sk N tx a5 + 1) + 1))) 48 (dl + 1) (vp_nar .boolean 0)) := m8
  have op8 : opM (sI (sI R6 34 4 (nI (sk N tx (sk N tx a5 + 1) + 1))) 48 (dl + 1) (vp_nar .boolean 0)) (dl + 1) nn 0 (scO ((g, v0) :: c)).length := by
    refine ⟨?_, sI_eq _ _ _ _, ?_⟩
    · rw [show (sI (sI R6 34 4 (nI (sk N tx (sk N tx a5 + 1) + 1))) 48 (dl + 1) (vp_nar .boolean 0)).1 47 = R6.1 47 from rfl, w6 47 (by decide) (by decide) (by decide) (by decide), o5.1]; exact op4.1
    · rw [show (sI (sI R6 34 4 (nI (sk N tx (sk N tx a5 + 1) + 1))) 48 (dl + 1) (vp_nar .boolean 0)).1 49 = R6.1 49 from rfl, w6 49 (by decide) (by decide) (by decide) (by decide), o5.2.2]; exact op4.2.2
  have nd8 : ndF (sI (sI R6 34 4 (nI (sk N tx (sk N tx a5 + 1) + 1))) 48 (dl + 1) (vp_nar .boolean 0)) nn 6 (nI (sk N tx a)) 0 (nI c1) (nI c1) (nI 1) (nI 1) := w2
  have p8m : pfM R0 (sI (sI R6 34 4 (nI (sk N tx (sk N tx a5 + 1) + 1))) 48 (dl + 1) (vp_nar .boolean 0)) := pfM_w (pfM_at p6m _) (Or.inl (by decide)) (fun h9 => absurd h9 (by decide)) _
  have jp8' : JP P5 nc5 nb5 (scO ((g, mkV [l] [nb] nc g 1 ++ v0) :: c)) S9 (sI (sI R6 34 4 (nI (sk N tx (sk N tx a5 + 1) + 1))) 48 (dl + 1) (vp_nar .boolean 0)) := JP_rows p4 rfl (w6 46 (by decide) (by decide) (by decide) (by decide))
  have kM8 : kM c1 nn5 R5 (sI (sI R6 34 4 (nI (sk N tx (sk N tx a5 + 1) + 1))) 48 (dl + 1) (vp_nar .boolean 0)) := by
    refine ⟨fun m h1 h2 => ⟨?_, ?_, ?_, (w5 m (by omega)).1, (w5 m (by omega)).2.1, (w5 m (by omega)).2.2, ?_, fun j _ => ?_⟩, fun m h1 h2 => w4 m (Or.inl rfl)⟩
    · show R6.1 36 m = _; rw [w6 36 (by decide) (by decide) (by decide) (by decide)]
    · show R6.1 37 m = _; rw [w6 37 (by decide) (by decide) (by decide) (by decide)]
    · show R6.1 38 m = _; rw [w6 38 (by decide) (by decide) (by decide) (by decide)]
    · show R6.1 44 m = _; rw [w6 44 (by decide) (by decide) (by decide) (by decide)]
    · show R6.1 43 _ = _; rw [w6 43 (by decide) (by decide) (by decide) (by decide)]
  have M8 : fM 1000 1000 nn nb dl P R (sI (sI R6 34 4 (nI (sk N tx (sk N tx a5 + 1) + 1))) 48 (dl + 1) (vp_nar .boolean 0)) := by
    refine fM_trans (nc := nc) M4 (nn' := nn) (nb' := nb) (dl' := dl) (P' := prP (1000 + nc) [nb] 1 ++ P) ?_ (Nat.le_refl _) (Nat.le_refl _) (Nat.le_refl _) (Or.inl rfl) (PE_rec hnb1)
    refine fM_trans (nc := nc + 1) (fM_le e7 (n' := 1000) (l' := 1000) (nn' := nn) (nb' := nb) (dl' := dl) (by omega) (by omega) (by omega) (Or.inl rfl) (Or.inl rfl)) (P' := prP (1000 + nc) [nb] 1 ++ P) (nn' := nn) (nb' := nb) (dl' := dl) ⟨fun m hm _ => ⟨?_, ?_, ?_, (w5 m (by omega)).1, (w5 m (by omega)).2.1, (w5 m (by omega)).2.2, ?_, fun j _ => ?_⟩, fun m hm _ => w4 m (Or.inl rfl), fun i hi => ⟨?_, ?_, ?_⟩, fun i hi => ?_, fun v hv hp => ?_, fun m hm j hj => ?_⟩ (Nat.le_refl _) (Nat.le_refl _) (Nat.le_refl _) (Or.inl rfl) (PE_refl _ _ _)
    · show R6.1 36 m = _; rw [w6 36 (by decide) (by decide) (by decide) (by decide)]
    · show R6.1 37 m = _; rw [w6 37 (by decide) (by decide) (by decide) (by decide)]
    · show R6.1 38 m = _; rw [w6 38 (by decide) (by decide) (by decide) (by decide)]
    · show R6.1 44 m = _; rw [w6 44 (by decide) (by decide) (by decide) (by decide)]
    · show R6.1 43 _ = _; rw [w6 43 (by decide) (by decide) (by decide) (by decide)]
    · show R6.1 47 i = _; rw [w6 47 (by decide) (by decide) (by decide) (by decide)]
    · rw [sI_nk _ (by omega)]; show R6.1 48 i = _; rw [w6 48 (by decide) (by decide) (by decide) (by decide)]
    · show R6.1 49 i = _; rw [w6 49 (by decide) (by decide) (by decide) (by decide)]
    · show R6.1 66 i = _; rw [w6 66 (by decide) (by decide) (by decide) (by decide)]
    · show R6.1 46 v = _; rw [w6 46 (by decide) (by decide) (by decide) (by decide)]
    · show R6.1 43 _ = _; rw [w6 43 (by decide) (by decide) (by decide) (by decide)]
  have h418 : (sI (sI R6 34 4 (nI (sk N tx (sk N tx a5 + 1) + 1))) 48 (dl + 1) (vp_nar .boolean 0)).1 41 nn = -1 := (w4 nn (Or.inl rfl)).trans ((e7.2.1 nn (by omega) (by omega)).trans h414)
  have h438 : ∀ i, i < 1 → (sI (sI R6 34 4 (nI (sk N tx (sk N tx a5 + 1) + 1))) 48 (dl + 1) (vp_nar .boolean 0)).1 43 (4 * nn + i) = nI (([nb] : List Nat).getD i 0) := fun i hi => by
    show R6.1 43 _ = _
    rw [w6 43 (by decide) (by decide) (by decide) (by decide), e7.2.2.2.2.2 nn (by omega) i (by omega)]
    exact h434 i hi
  generalize hR8 : sI (sI R6 34 4 (nI (sk N tx (sk N tx a5 + 1) + 1))) 48 (dl + 1) (vp_nar .boolean 0) = R8 at r8 op8 nd8 p8m jp8' kM8 M8 h418 h438
  -- STORE, POP
  have s97 : S9.1 7 nc = nI h := (e6.2.2.2.1 nc (by omega)).2.1.trans s87
  unfold g_61
  rw [bI_i, az_rg_in _ _ _ (show nc < 250 by omega) (by decide), show (sI S9 21 3 (nI (sk N tx (sk N tx a5 + 1) + 1))).1 7 nc = nI h from s97, add_c c11 (by omega), bI_i]
  have c12 := CR_add c11 12 (nI h) (nI (sk N tx a))
  rw [forget_c c12 (by omega) (by omega), bV_v]
  have c13 := CR_h (CR_add c12 8 0 (-1)) (h + 1)
  generalize hS13 : sI (addS (addS (sI S9 21 3 (nI (sk N tx (sk N tx a5 + 1) + 1))) sz5 12 (nI h) (nI (sk N tx a))) (sz5 + 1) 8 0 (-1)) 23 4 (nI (h + 1)) = S13 at c13
  have F13 : ∀ nc pd fc cx, fC sz5 nc pd fc cx S9 S13 := fun nc pd fc cx => by
    rw [← hS13]
    exact fC_tr (fC_tr (fC_at _ sz5 nc pd fc cx) (fC_add 12 (nI h) _ nc pd fc cx) (Nat.le_refl _) (Nat.le_refl _) (Nat.le_refl _) (Nat.le_refl _)) (fC_tr (fC_add 8 0 (-1) nc pd fc cx) (fC_h (nI (h + 1)) (sz5 + 1) nc pd fc cx) (Nat.le_refl _) (Nat.le_refl _) (Nat.le_refl _) (Nat.le_refl _)) (by omega) (Nat.le_refl _) (Nat.le_refl _) (Nat.le_refl _)
  have D13a : cd S13 sz5 12 (nI h) (nI (sk N tx a)) := by
    rw [← hS13]
    exact cd_ag (cd_add (S := sI S9 21 3 (nI (sk N tx (sk N tx a5 + 1) + 1))) 12 (nI h) (nI (sk N tx a))) ((fC_add (S := addS (sI S9 21 3 (nI (sk N tx (sk N tx a5 + 1) + 1))) sz5 12 (nI h) (nI (sk N tx a))) (sz := sz5 + 1) 8 0 (-1) 0 0 0 []).1 sz5 (by omega))
  have D13b : cd S13 (sz5 + 1) 8 0 (-1) := by rw [← hS13]; exact cd_add (S := addS (sI S9 21 3 (nI (sk N tx (sk N tx a5 + 1) + 1))) sz5 12 (nI h) (nI (sk N tx a))) 8 0 (-1)
  have pf13 : pfC S0 S13 := by rw [← hS13]; exact pfC_h (pfC_add (pfC_add (pfC_at p5 _) _ _ _) _ _ _) _
  have n139 : S13.1 9 = S9.1 9 := by rw [← hS13]; rfl
  -- the body
  refine Sim_bV (body_y (l := c1) (w := 1) (cc := 1) (vc := 1) (k := 6) (a := sk N tx (sk N tx a5 + 1) + 1) (b := sk N tx (sk N tx a5 + 1) + 1) he hN (by omega) (show h + 1 ≤ 4 * (dl + 1) by omega) (by omega) (Or.inr ⟨Or.inr rfl, rfl⟩) ⟨c13, r8, rfl, JP_rows jp8' n139 rfl, pf13, p8m⟩ ⟨by omega, by omega, by omega, by omega, by omega, x6, by omega⟩ op8 (by omega) nd8 rfl (by omega) (fun _ => ⟨rfl, e5f, by omega⟩)) ?_
  rintro S14 r ⟨a', b', sz', nc', fc', nn', nb', P', R9, l', cc', cB, v1, v2, v3, v4, v5, v6, v7, v8, v9, v10, v11, v12⟩
  obtain ⟨i1, i2, i3, i4, i5, i6, i7, i8, i9⟩ := v6
  rw [if_neg (by decide)] at v8 v10
  obtain ⟨j1, j2, j3, j4, j5, j6⟩ := v2
  obtain ⟨l1, l2, l3, l4, l5, l6, l7⟩ := v3
  have ha' : a' ≤ N := j1.2.1.2
  have hs7 := sk_ge (N := N) (tx := tx) (sk N tx (sk N tx a5 + 1) + 1)
  have o9 := v8.2.2.1 (dl + 1) (Nat.le_refl _)
  have gB := gate_body (w := 1) (vc := 1) v10 (Or.inr ⟨Or.inr rfl, rfl⟩) (by omega) i9
  rw [if_neg (by omega)] at gB
  have hl2 := leave2_c (h := h) (vs := mkV [l] [nb] nc g 1) (show CR N tx a' sz' nc' pd fc' (h + (mkV [l] [nb] nc g 1).length + 1) ((g, mkV [l] [nb] nc g 1 ++ v0) :: c) S14 from j1) (by omega) (by omega)
  rw [show (nI (mkV [l] [nb] nc g 1).length : Int32) = 1 from rfl] at hl2
  rw [hl2, bV_v]
  have c15 := CR_h (CR_add (CR_rl (show CR N tx a' sz' nc' pd fc' (h + 1 + 1) ((g, mkV [l] [nb] nc g 1 ++ v0) :: c) S14 from j1)) 13 1 (-1)) (h + 1)
  generalize hS15 : sI (addS (sI S14 5 6 (nI (scO ((g, v0) :: c)).length)) sz' 13 1 (-1)) 23 4 (nI (h + 1)) = S15 at c15
  have F15 : ∀ nc pd fc cx, fC sz' nc pd fc cx S14 S15 := fun nc pd fc cx => by
    rw [← hS15]
    exact fC_tr (fC_56 _ sz' nc pd fc cx) (fC_tr (fC_add 13 1 (-1) nc pd fc cx) (fC_h (nI (h + 1)) sz' nc pd fc cx) (Nat.le_refl _) (Nat.le_refl _) (Nat.le_refl _) (Nat.le_refl _)) (Nat.le_refl _) (Nat.le_refl _) (Nat.le_refl _) (Nat.le_refl _)
  have D15 : cd S15 sz' 13 1 (-1) := by rw [← hS15]; exact cd_add (S := sI S14 5 6 (nI (scO ((g, v0) :: c)).length)) 13 1 (-1)
  have pf15 : pfC S0 S15 := by rw [← hS15]; exact pfC_h (pfC_add (pfC_56 j5 _) _ _ _) _
  have n159 : S15.1 9 = S14.1 9 := by rw [← hS15]; rfl
  have hxo : ∀ x, x < fc → (∀ f ∈ ((g, v0) :: c : cxT), f.1 ≠ x) → ∀ f ∈ ((g, mkV [l] [nb] nc g 1 ++ v0) :: c : cxT), f.1 ≠ x := fun x _ hf f hm => by
    rcases List.mem_cons.mp hm with rfl | hm
    · exact hf (g, v0) List.mem_cons_self
    · exact hf f (List.mem_cons_of_mem _ hm)
  have F9 : fC sz nc pd fc ((g, v0) :: c) S S9 := fC_trans F8 e6 (by omega) (by omega) (Nat.le_refl _) (Nat.le_refl _) hxo
  have F14 : fC sz nc pd fc ((g, v0) :: c) S S14 := fC_trans (fC_tr F9 (F13 nc pd fc _) (by omega) (Nat.le_refl _) (Nat.le_refl _) (Nat.le_refl _)) v7 (by omega) (by omega) (Nat.le_refl _) (by omega) hxo
  have A14 : fC sz5 nc5 pd fc5 ((g, mkV [l] [nb] nc g 1 ++ v0) :: c) S9 S15 := fC_tr (F13 nc5 pd fc5 _) (fC_tr (fC_le v7 (by omega) (Nat.le_refl _) (Nat.le_refl _) (Nat.le_refl _)) (F15 nc5 pd fc5 _) (by omega) (Nat.le_refl _) (Nat.le_refl _) (Nat.le_refl _)) (Nat.le_refl _) (Nat.le_refl _) (Nat.le_refl _) (Nat.le_refl _)
  have oz := ox_lt (fc1 := fc5) c8 (by omega)
  have T1 : Tr P' a' (dl + 1) c1 nn5 (sz + 1) sz5 fc fc5 nc' (h + 1) g (scO ((g, mkV [l] [nb] nc g 1 ++ v0) :: c)) S15 R9 :=
    Tr_mono (Tr_step e10 (cK_of_fC A14 (Nat.le_refl _) (Nat.le_refl _) (Nat.le_refl _) oz) (kM_trans kM8 (kM_of_fM v8 (Nat.le_refl _) (Or.inl (by omega)) (Or.inl (Nat.le_refl _))))) v9.1 (by omega) (by omega)
  have Dz : cd S15 sz 6 0 (nI (sk N tx a)) := cd_ag D8 (agC_trans (e6.1 sz (by omega)) (A14.1 sz (by omega)))
  have Da : cd S15 sz5 12 (nI h) (nI (sk N tx a)) := cd_ag D13a (agC_trans (v7.1 sz5 (by omega)) ((F15 0 0 0 []).1 sz5 (by omega)))
  have Db : cd S15 (sz5 + 1) 8 0 (-1) := cd_ag D13b (agC_trans (v7.1 (sz5 + 1) (by omega)) ((F15 0 0 0 []).1 (sz5 + 1) (by omega)))
  have N15 : agN S8 S15 nc := agN_trans (e6.2.2.2.1 nc (by omega)) (A14.2.2.2.1 nc (by omega))
  have M9 : fM 1000 1000 nn nb dl P R R9 := fM_trans (nc := nc) M8 (fM_le v8 (n' := 1000) (l' := 1000) (nn' := nn) (nb' := nb) (dl' := dl) (by omega) (by omega) (by omega) (Or.inr (Nat.le_refl _)) (Or.inr (by omega))) (Nat.le_refl _) (Nat.le_refl _) (Nat.le_refl _) (Or.inl rfl) (PE_trans (PE_rec hnb1) e8 (by omega) (by omega))
  have PP : PE P P' nc nb := PE_trans (PE_trans (PE_rec (n := 1) (rv := [nb]) hnb1) e8 (by omega) (by omega)) v9 (by omega) (by omega)
  have h439 : R9.1 43 (4 * nn) = nI nb := by
    have := (v8.2.2.2.2.2 nn (by omega) 0 (by decide)).trans (h438 0 (by decide))
    simpa using this
  rw [hsc] at j2 j4
  refine Or.inr ⟨_, rfl, a', b', sz' + 1, nc', fc', nn', nb', P', R9, mkV [l] [nb] nc g 1, v1, c15, j2, j3, JP_drop (JP_rows j4 n159 rfl), pf15, j6, ⟨by omega, by omega, by omega, by omega, by omega, by omega⟩, ⟨by omega, by omega, by omega, by omega, by omega⟩, fC_tr F14 (F15 nc pd fc _) (by omega) (Nat.le_refl _) (Nat.le_refl _) (Nat.le_refl _), M9, PP, (v8.2.1 nn (by omega) (by omega)).trans h418, ⟨o9.1.trans op8.1, o9.2.1.trans op8.2.1, o9.2.2.trans op8.2.2⟩, ⟨gB.2, by rw [v10.2.2.2.2.2.1]; exact nI_ne0 (by omega) (by omega)⟩, Or.inl v5, ?_, ?_, v10.2.1⟩
  · intro S2 R2 k1 k2 k3 k4
    obtain ⟨f1, hf1⟩ := T1 S2 R2 (cK_le k1 (by omega) (by omega) (Nat.le_refl _) (by omega) (Nat.le_refl _)) (kM_le k2 (by omega) (by omega)) k3 (by omega)
    have kk : cK (sz5 + 1 + 1) sz' fc5 fc' nc' S14 S2 := cK_trans (cK_of_fC (F15 nc' pd fc' []) (Nat.le_refl _) (Nat.le_refl _) (Nat.le_refl _) (fun f hf => by cases hf)) (cK_le k1 (by omega) (by omega) (by omega) (Nat.le_refl _) (Nat.le_refl _))
    obtain ⟨f2, hf2⟩ := v12 S2 R2 kk (fun m h1 h2 => ⟨k2.1 m (by omega) h2, k2.2 m (by omega) h2⟩) k3 (by omega)
    obtain ⟨m1, m2, m3, m4, m5, m6, m7, m8⟩ := k2.1 nn (Nat.le_refl _) (by omega)
    obtain ⟨s1, s2, s3, s4, s5⟩ := hdT_mk (q := sz' + 1) (a' := a' + 1) (nc := nc') (nb := nb') (dl := dl) (h := h) (by omega) hh (by omega) (show 17 * (scO ((g, v0) :: c)).length ≤ 4 * (a' + 1 + dl) by omega) (JP_drop j4).2.2.2.2 (by omega) (by omega) (by omega)
    have p37 : R2.1 37 nn = nI (sk N tx a) := m2.trans v10.2.1
    have NN := agN_trans N15 (k1.2.2.1 nc (by omega))
    have hb43 : R2.1 43 (4 * nn) = nI nb := by
      have := m8 0 (by decide)
      rw [Nat.add_zero] at this
      rw [this]
      simpa using h439
    rw [hsc] at hf1 hf2
    refine ⟨f1 + f2 + 1, fun tl => ⟨nn, rfl, by omega, s1, s2, s3, s4, s5, Or.inr (Or.inr (Or.inr (Or.inr (Or.inr (Or.inr (Or.inl ⟨m1.trans v10.1, (l, nc, nb, g), c1, nI cB, sz5, sz', by omega, m7.trans v10.2.2.2.2.2.2, ?_, m4.trans v10.2.2.2.1, ?_, ⟨rfl, hb43⟩, ⟨NN.2.1.trans s87, show nc < 250 by omega, show nb < 256 by omega⟩, TT_le (by omega) (hf1 false), ?_, ?_, ?_, ?_, ?_, rfl⟩))))))⟩⟩
    · rw [p37]; exact cd_ag Dz (k1.1 sz (Nat.le_refl _) (by omega))
    · rw [(k2.1 c1 (by omega) (by omega)).1, (v8.1 c1 (by omega) (by omega)).1, (kM8.1 c1 (Nat.le_refl _) (by omega)).1]; exact hlam
    · rw [p37]; exact cd_ag Da (k1.1 sz5 (by omega) (by omega))
    · exact cd_ag Db (k1.1 (sz5 + 1) (by omega) (by omega))
    · rw [k2.2 c1 (by omega) (by omega)]; exact v11 (by decide)
    · rw [m5, v10.2.2.2.2.1]
      exact TT_le (by omega) (hf2 tl)
    · exact cd_ag D15 (k1.1 sz' (by omega) (by omega))
  · rw [Dz.1, v10.1]; decide
end LREC
