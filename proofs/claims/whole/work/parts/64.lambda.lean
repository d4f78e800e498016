/-! lambda -/
section LAMB
variable {S0 R0 : amS} {N : Nat} {tx : Nat → Nat} {a q sz nc pd fc h nn nb dl : Nat} {cx : cxT} {P : List (Nat × Nat)} {S R Sq R3 : amS}
theorem JP_drop {vs sc : List scE} (h : JP P nc nb (vs ++ sc) S R) : JP P nc nb sc S R := ⟨h.1, h.2.1, h.2.2.1, fun e he => h.2.2.2.1 e (List.mem_append_right _ he), sdS_drop h.2.2.2.2⟩
theorem cK_lv {mu p q f0 f1 nc : Nat} (x y z w : Nat) (hm : mu < f0) : cK p q f0 f1 nc S (lvS S mu x y z w) :=
  ⟨fun _ _ _ => ⟨rfl, rfl, rfl⟩, fun k hk _ => ⟨⟨rfl, by unfold lvS; rw [sI_na _ (by decide), sI_na _ (by decide), sI_nk _ (by omega)]; rfl, rfl, rfl⟩, rfl, fun _ _ => ⟨rfl, rfl⟩⟩, fun _ _ => ⟨rfl, rfl, rfl, fun h => h⟩, mxN_refl _ _ _ _⟩
theorem op_ne (t1 : CR N tx q sz nc pd fc h cx S) : cx ≠ [] := by
  rintro rfl
  exact t1.2.2.2.2.2.2.2.2.2.2.1
theorem scO_home {r8 : Nat → Int32} : ∀ {c : cxT}, lvC r8 c → ∀ e ∈ scO c, ∃ f ∈ c, e.2.2.2 = f.1
  | [], _, e, he => by cases he
  | f :: c, h, e, he => by
    rcases List.mem_append.mp he with he | he
    · exact ⟨f, List.mem_cons_self, (h.1 e he).2⟩
    · obtain ⟨g, g1, g2⟩ := scO_home h.2 e he
      exact ⟨g, List.mem_cons_of_mem _ g1, g2⟩
/-- a lambda from the end of its parameters on -/
theorem lam_fin {k0 : Nat} (he : EH S0 R0 N tx k0 (dl + 1)) (hN : N ≤ 250) (hb : BD a sz nc pd fc nn nb dl cx) (hh : h ≤ 4 * dl) (hd : dl < 20) {a1 b1 nb1 : Nat} {ls rv : List Nat} {S1 R1 : amS} (hT : TLD S0 R0 N tx pd nn nb dl cx a1 b1 sz nc fc h (nn + 1) nb1 P ls rv S1 R1) (hop : opM R1 (dl + 1) nn 0 (scO cx).length) (hnd : ndF R1 nn 3 (nI (sk N tx a)) 0 (-1) (-1) 0 (nI ls.length)) (h41 : R1.1 41 nn = -1) (hfM : fM 1000 1000 nn nb dl P R R1) (hfC : fC sz nc pd fc cx S S1) (hsd : sdS nc nb (scO cx)) (hl4 : ls.length ≤ 4) (hnb : nb1 ≤ nb + ls.length) (hpos : sk N tx a + 8 + 2 * ls.length ≤ sk N tx a1 + 1 ∧ sk N tx a + 9 ≤ sk N tx a1 + 1) (hc41 : tb N tx (sk N tx a1) = 41) :
    Sim S0 R0 (G_85_46 k0 (nI (sk N tx a)) (nI (dl + 1)) (nI pd) S1) (az_bV (G_146_267 (nI nn) (sI R1 34 4 (nI (sk N tx b1)))) (fun R2 => G_152_58 1 R2)) (CP S0 R0 N tx a sz nc pd fc h nn nb dl cx P S R) := by
  obtain ⟨t1, t2, t3, t4, t5, t6, t7, t8, t9, t10⟩ := hT
  obtain ⟨b1', b2, b3, b4, b5, b6, b7⟩ := hb
  have hsa := sk_ge (N := N) (tx := tx) a
  obtain ⟨q1, q2⟩ := brk_y t1 hc41 (by decide)
  have hcx := op_ne t1
  have c2 := CR_at t1 q2
  unfold G_85_46
  rw [q1, bV_v]
  simp only [az_st]
  have e7 : (sI S1 21 3 (nI (sk N tx a1 + 1))).1 12 7 = nI fc := c2.2.2.2.2.2.2.1
  have e4 : (sI S1 21 3 (nI (sk N tx a1 + 1))).1 23 4 = nI h := c2.2.2.2.2.2.2.2.2.1
  rw [e7, e4, add_c c2 (by omega), bI_i]
  have c3 := CR_add c2 5 (nI fc) (nI (sk N tx a))
  rw [c3.2.2.1, c3.2.2.2.1, c3.2.2.2.2.2.1, pk_sub (by omega), Nat.add_sub_cancel_left, enter_c c3 (by omega) (by omega), bV_v]
  have c4 := CR_en c3 (by omega) (nI (sz + 1)) (nI ls.length) (nI nc)
  generalize hS4 : enS (addS (sI S1 21 3 (nI (sk N tx a1 + 1))) sz 5 (nI fc) (nI (sk N tx a))) fc (cx.length - 1) (nI (sz + 1)) (nI ls.length) (nI nc) = S4 at c4
  have p4 : pnd S4 pd ls := by rw [← hS4]; exact t2
  have n4 : S4.1 9 = S1.1 9 := by rw [← hS4]; rfl
  have F4 : fC sz nc pd fc cx S S4 := by
    rw [← hS4]
    exact fC_tr (fC_tr hfC (fC_at _ sz nc pd fc cx) (Nat.le_refl _) (Nat.le_refl _) (Nat.le_refl _) (Nat.le_refl _)) (fC_tr (fC_add 5 (nI fc) _ nc pd fc cx) (fC_en _ _ _ _ sz nc pd fc cx) (Nat.le_refl _) (Nat.le_refl _) (Nat.le_refl _) (Nat.le_refl _)) (Nat.le_refl _) (Nat.le_refl _) (Nat.le_refl _) (Nat.le_refl _)
  have cd4 : cd S4 sz 5 (nI fc) (nI (sk N tx a)) := by rw [← hS4]; exact cd_add (S := sI S1 21 3 (nI (sk N tx a1 + 1))) 5 (nI fc) (nI (sk N tx a))
  have en4 : S4.1 13 fc = nI (sz + 1) ∧ S4.1 15 fc = nI ls.length ∧ S4.1 16 fc = nI nc := by rw [← hS4]; exact en_F _ _ _ fc _
  have pf4 : pfC S0 S4 := by rw [← hS4]; exact pfC_en (pfC_add (pfC_at t6 _) _ _ _) _ _ _ _ _
  obtain ⟨S6, z1, z2, z3, z4, z5, z6⟩ := bind_c (s0 := 0) c4 rv p4 rfl (by omega) (by omega) (show (scO ((fc, []) :: cx)).length + ls.length ≤ 250 from by show (scO cx).length + _ ≤ _; omega) (fun e he => (sdS_lt t5.2.2.2.2 e he).1)
  rw [List.append_nil] at z2
  have z1' : G_58 (nI pd) 0 (S4.1 12 9) S4 = some (.inl (some (.int (nI ls.length))), S6) := z1
  rw [z1', bI_i]
  simp only [sI_eq]
  have c7 := CR_h z2 ls.length
  -- the reference
  have r2 := MR_at t3 (b' := sk N tx b1 + 1) (by rw [← t4]; exact q2)
  have tol2 : toldM (sI R1 34 4 (nI (sk N tx b1 + 1))) nn (dl + 1) ls rv := t8
  have hba := bindAll_m r2 tol2 (by omega) (by omega) hl4 (by omega)
  have r3 := MR_ba (rv := rv) (c0 := nc) (fn := fc) r2 (fun i hi => (t8.2.2.1 i hi).2) (fun i hi => by have := (t9.1 i (by have := t8.2.1; omega)).2.1; omega)
  have eM : G_146_267 (nI nn) (sI R1 34 4 (nI (sk N tx b1))) = some (.inl none, baL (sI R1 34 4 (nI (sk N tx b1 + 1))) (scO cx).length ls rv ls.length) := by
    unfold G_146_267
    simp only [az_st]
    rw [sI_eq, nI_1, sI_sI, if_pos r2.2.2.1, hba, bV_v]
  rw [eM, bV_v]
  generalize hR4 : baL (sI R1 34 4 (nI (sk N tx b1 + 1))) (scO cx).length ls rv ls.length = R4 at r3
  have o4 : ∀ c k, c ≠ 50 → c ≠ 51 → c ≠ 34 → R4.1 c k = R1.1 c k := fun c k a1 a2 a3 => by
    rw [← hR4, baL_o _ c k a1 a2 (fun h => absurd h a3), sI_na _ a3]
  have e46 : R4.1 46 = R1.1 46 := funext (fun k => o4 46 k (by decide) (by decide) (by decide))
  have nd4 : ndF R4 nn 3 (nI (sk N tx a)) 0 (-1) (-1) (nI 0) (nI ls.length) := by
    obtain ⟨g1, g2, g3, g4, g5, g6, g7⟩ := hnd
    exact ⟨(o4 _ _ (by decide) (by decide) (by decide)).trans g1, (o4 _ _ (by decide) (by decide) (by decide)).trans g2, (o4 _ _ (by decide) (by decide) (by decide)).trans g3, (o4 _ _ (by decide) (by decide) (by decide)).trans g4, (o4 _ _ (by decide) (by decide) (by decide)).trans g5, (o4 _ _ (by decide) (by decide) (by decide)).trans g6, (o4 _ _ (by decide) (by decide) (by decide)).trans g7⟩
  have op4 : opM R4 (dl + 1) nn 0 (scO cx).length := ⟨(o4 _ _ (by decide) (by decide) (by decide)).trans hop.1, (o4 _ _ (by decide) (by decide) (by decide)).trans hop.2.1, (o4 _ _ (by decide) (by decide) (by decide)).trans hop.2.2⟩
  have M4 : fM 1000 1000 nn nb dl P R R4 := by
    rw [← hR4]
    exact fM_trans (nc := nc) hfM (fM_trans (nc := nc) (fM_at _ 1000 1000 nn nb dl P) (fM_ba _ 1000 1000 nn nb dl P) (Nat.le_refl _) (Nat.le_refl _) (Nat.le_refl _) (Or.inl rfl) (PE_refl P nc nb)) (Nat.le_refl _) (Nat.le_refl _) (Nat.le_refl _) (Or.inl rfl) (PE_refl P nc nb)
  have pf4m : pfM R0 R4 := by rw [← hR4]; exact pfM_ba (pfM_at t7 _) _
  have hrl := t8.2.1
  have jp7 : JP (prP nc rv ls.length ++ P) (nc + ls.length) nb1 (mkV ls rv nc fc ls.length ++ scO cx) (sI S6 23 4 (nI ls.length)) R4 := by
    refine JP_rows (JP_bind (fn := fc) t5 hrl t9 hsd (fun k => ?_) e46 t10 (by omega)) rfl rfl
    rw [show (sI S6 23 4 (nI ls.length)).1 9 k = S6.1 9 k from rfl, z5, n4]
  have hvl := mkV_len ls rv nc fc ls.length
  have hVl : (scO ((fc, mkV ls rv nc fc ls.length) :: cx)).length = ls.length + (scO cx).length := by
    show (mkV ls rv nc fc ls.length ++ scO cx).length = _
    rw [List.length_append, hvl]
  refine Sim_bV (body_y (l := 0) (w := 0) (cc := 0) (vc := ls.length) (a := sk N tx a1 + 1) (b := sk N tx b1 + 1) (cx := (fc, mkV ls rv nc fc ls.length) :: cx) (k := 3) he hN (by omega) (show ls.length ≤ 4 * (dl + 1) by omega) (by omega) (Or.inl ⟨Or.inl rfl, rfl⟩) ⟨c7, r3, by rw [t4], jp7, pfC_h (z6 S0 pf4) _, pf4m⟩ ⟨by omega, by omega, by omega, by omega, by omega, by simp; omega, by rw [hVl]; omega⟩ op4 (by omega) nd4 rfl (by omega) (fun h9 => absurd rfl h9)) ?_
  rintro S8 r ⟨a', b', sz', nc', fc', nn', nb', P', R8, l', cc', c, u1, u2, u3, u4, u5, u6, u7, u8, u9, u10, -, u12⟩
  obtain ⟨v1, v2, v3, v4, v5, v6, v7, v8, v9⟩ := u6
  rw [if_pos rfl] at u8 u10
  obtain ⟨w1, w2, w3, w4, w5, w6⟩ := u2
  obtain ⟨x1, x2, x3, x4, x5, x6, x7⟩ := u3
  have ha' : a' ≤ N := w1.2.1.2
  have hqs := sk_ge (N := N) (tx := tx) (sk N tx a1 + 1)
  have o8 := u8.2.2.1 (dl + 1) (Nat.le_refl _)
  have g := gate_body (w := 0) u10 (Or.inl ⟨Or.inl rfl, rfl⟩) (by omega) v9
  rw [if_neg (by omega)] at g
  rw [add_c w1 (by omega), bI_i]
  have c9 := CR_add w1 16 0 (-1)
  have hlv := leave_c (hh := h) c9 hcx (by omega)
  simp only [az_st] at hlv
  rw [hvl] at hlv
  rw [hlv]
  have c10 := CR_lv (hh := h + 1) c9 hcx (by omega)
  -- frames of the class
  have hx1 : ∀ (v : List scE) x, x < fc → (∀ f ∈ cx, f.1 ≠ x) → ∀ f ∈ ((fc, v) :: cx : cxT), f.1 ≠ x := fun v x hx hf f hm => by
    rcases List.mem_cons.mp hm with rfl | hm
    · show fc ≠ x; omega
    · exact hf f hm
  have F6 : fC sz nc pd fc cx S (sI S6 23 4 (nI ls.length)) := fC_tr (fC_trans F4 z3 (by omega) (Nat.le_refl _) (Nat.le_refl _) (by omega) (hx1 [])) (fC_h _ sz nc pd fc cx) (Nat.le_refl _) (Nat.le_refl _) (Nat.le_refl _) (Nat.le_refl _)
  have F8 : fC sz nc pd fc cx S S8 := fC_trans F6 u7 (by omega) (by omega) (Nat.le_refl _) (by omega) (hx1 _)
  have F9 : fC sz nc pd fc cx S (addS S8 sz' 16 0 (-1)) := fC_tr F8 (fC_add 16 0 (-1) nc pd fc cx) (by omega) (Nat.le_refl _) (Nat.le_refl _) (Nat.le_refl _)
  have F10 : fC sz nc pd fc cx S (lvS (addS S8 sz' 16 0 (-1)) fc (sz' + 1) (scO cx).length (cx.length - 1) (h + 1)) := fC_tr F9 (fC_lv _ _ _ _ nc pd (Nat.le_refl fc)) (Nat.le_refl _) (Nat.le_refl _) (Nat.le_refl _) (Nat.le_refl _)
  have M8 : fM 1000 1000 nn nb dl P R R8 := fM_trans (nc := nc) M4 (fM_le u8 (n' := 1000) (l' := 1000) (nn' := nn) (nb' := nb1) (dl' := dl) (by omega) (Nat.le_refl _) (by omega) (Or.inr (Nat.le_refl _)) (Or.inl rfl)) (Nat.le_refl _) t10 (Nat.le_refl _) (Or.inl rfl) (PE_bind (fun i hi => (t9.1 i (by omega)).1))
  -- what is at the orders and in the function's rows
  have D0 : cd (lvS (addS S8 sz' 16 0 (-1)) fc (sz' + 1) (scO cx).length (cx.length - 1) (h + 1)) sz 5 (nI fc) (nI (sk N tx a)) := cd_ag cd4 (agC_trans (z3.1 sz (by omega)) (agC_trans (u7.1 sz (by omega)) ((fC_add (S := S8) (sz := sz') 16 0 (-1) nc pd fc cx).1 sz (by omega))))
  have D1 : cd (lvS (addS S8 sz' 16 0 (-1)) fc (sz' + 1) (scO cx).length (cx.length - 1) (h + 1)) sz' 16 0 (-1) := cd_add (S := S8) 16 0 (-1)
  have E8 : S8.1 13 fc = nI (sz + 1) ∧ S8.1 15 fc = nI ls.length ∧ S8.1 16 fc = nI nc := by
    obtain ⟨i1, i2, i3, i4⟩ := z3.2.1 fc (by omega)
    obtain ⟨j1, j2, j3, j4⟩ := u7.2.1 fc (by omega)
    exact ⟨j1.trans (i1.trans en4.1), j3.trans (i3.trans en4.2.1), j4.trans (i4.trans en4.2.2)⟩
  have E14 : (lvS (addS S8 sz' 16 0 (-1)) fc (sz' + 1) (scO cx).length (cx.length - 1) (h + 1)).1 14 fc = nI (sz' + 1) := by
    unfold lvS
    rw [sI_na _ (by decide), sI_na _ (by decide), sI_eq]
  have s7 : ∀ i, i < ls.length → S8.1 7 (nc + i) = nI (0 + i) := fun i hi => ((u7.2.2.2.1 (nc + i) (by omega)).2.1).trans (z4 i hi)
  have r43 : ∀ i, i < ls.length → R8.1 43 (4 * nn + i) = nI (rv.getD i 0) := fun i hi => (u8.2.2.2.2.2 nn (by omega) i (by omega)).trans ((o4 _ _ (by decide) (by decide) (by decide)).trans (t8.2.2.2 i hi))
  have TK := TKI_cut [] (show TKI (S8.1 7) (S8.1 17) (S8.1 18) (S8.1 19) ([] ++ (fc, mkV ls rv nc fc ls.length) :: cx) from w1.2.2.2.2.2.2.2.2.2.2.2.2) hcx
  refine Or.inr ⟨_, rfl, a', b', sz' + 1, nc', fc', nn', nb', P', R8, mkV ls rv nc fc ls.length, u1, c10, w2, w3, JP_drop (JP_rows w4 rfl rfl), pfC_lv (pfC_add w5 16 0 (-1)) _ _ _ _ _, w6, ⟨by omega, by omega, by omega, by omega, by omega, by omega⟩, ⟨by omega, by omega, by omega, by omega, by omega⟩, F10, M8, PE_trans (PE_bind (fun i hi => (t9.1 i (by omega)).1)) u9 (by omega) t10, (u8.2.1 nn (by omega) (by omega)).trans ((o4 _ _ (by decide) (by decide) (by decide)).trans h41), ⟨o8.1.trans op4.1, o8.2.1.trans op4.2.1, o8.2.2.trans op4.2.2⟩, ⟨g.2, by rw [u10.2.2.2.2.2.1]; exact nI_ne0 (by omega) (by omega)⟩, Or.inl u5, ?_, ?_, u10.2.1⟩
  · intro S2 R2 k1 k2 k3 k4
    have kk : cK (sz + 1) sz' (fc + 1) fc' nc' S8 S2 := cK_trans (cK_trans (cK_of_fC (fC_add (S := S8) (sz := sz') 16 0 (-1) nc' pd fc' []) (Nat.le_refl _) (Nat.le_refl _) (Nat.le_refl _) (fun f hf => by cases hf)) (cK_lv _ _ _ _ (by omega))) (cK_le k1 (by omega) (by omega) (by omega) (Nat.le_refl _) (Nat.le_refl _))
    obtain ⟨f, hf⟩ := u12 S2 R2 kk (fun m h1 h2 => ⟨k2.1 m (by omega) h2, k2.2 m (by omega) h2⟩) k3 (by omega)
    obtain ⟨m1, m2, m3, m4, m5, m6, m7, m8⟩ := k2.1 nn (Nat.le_refl _) (by omega)
    obtain ⟨s1, s2, s3, s4, s5⟩ := hdT_mk (q := sz' + 1) (a' := a' + 1) (nc := nc') (nb := nb') (dl := dl) (h := h) (by omega) hh (by omega) (show 17 * (scO cx).length ≤ 4 * (a' + 1 + dl) by omega) (JP_drop w4).2.2.2.2 (by omega) (by omega) (by omega)
    obtain ⟨⟨g1, g2, g3, g4⟩, g5, g6⟩ := k1.2.1 fc (Nat.le_refl _) (by omega)
    have p37 : R2.1 37 nn = nI (sk N tx a) := m2.trans u10.2.1
    have hfn : fnO cx < 28 → fnO cx < fc' := fun h9 => by have := opC_fc t1.2.2.2.2.2.2.2.2.2.2.1 h9; omega
    refine ⟨f + 1, fun tl => ⟨nn, rfl, by omega, s1, s2, s3, s4, s5, Or.inr (Or.inr (Or.inr (Or.inl ⟨m1.trans u10.1, fc, mkV ls rv nc fc ls.length, nc, sz', ⟨by omega, fun e he => by obtain ⟨f9, h8, h9⟩ := scO_home t1.2.2.2.2.2.2.2.2.2.2.2.1 e he; have := opC_mem t1.2.2.2.2.2.2.2.2.2.2.1 f9 h8; omega⟩, ?_, g1.trans E8.1, g2.trans E14, ?_, ?_, by omega, g4.trans E8.2.2, ?_, ?_, ?_, ?_, rfl⟩)))⟩⟩
    · rw [p37]; exact cd_ag D0 (k1.1 sz (Nat.le_refl _) (by omega))
    · rw [hvl]; exact m7.trans u10.2.2.2.2.2.2
    · rw [hvl]; exact g3.trans E8.2.1
    · refine bnd_mk (fun i hi => (m8 i (by omega)).trans (r43 i hi)) (fun i hi => ((k1.2.2.1 (nc + i) (by omega)).2.1).trans (s7 i hi)) (KJ_sub k3 (fun x hx => u9.1 x (List.mem_append_left _ hx))) (by omega) (fun i hi => by have := (t9.1 i (by omega)).2.1; omega) ls.length (Nat.le_refl _)
    · obtain ⟨t, q1, q2, q3, q4⟩ := TK
      refine ⟨t, q1, g5.trans q2, fun i hi => ?_⟩
      obtain ⟨e, y1, y2, y3, y4, y5, y6⟩ := q3 i hi
      have hme := (scF_mem y1).1
      have hcv := (sdS_lt w4.2.2.2.2 e (List.mem_append_right _ hme)).1
      refine ⟨e, hme, (g6 i (by omega)).1.trans y5, ?_⟩
      rw [(g6 i (by omega)).2]
      exact Lo_keep (A := lvS (addS S8 sz' 16 0 (-1)) fc (sz' + 1) (scO cx).length (cx.length - 1) (h + 1)) (n := fc') (m := nc') y6 k1.2.2.2 hfn k1.2.2.1 hcv
    · rw [m4, m5, u10.2.2.2.1, u10.2.2.2.2.1, hvl]
      exact hf true
    · exact cd_ag D1 (k1.1 sz' (by omega) (by omega))
  · rw [D0.1, u10.1]; decide
end LAMB
