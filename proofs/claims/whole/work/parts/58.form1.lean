/-! begin, if, primitives -/
/-- a form begins: its head is read, its node is open -/
def FI (S0 R0 : amS) (N : Nat) (tx : Nat → Nat) (a q sz nc pd fc h nn nb dl : Nat) (cx : cxT) (P : List (Nat × Nat)) (kd v : Int32) (S R Sq R3 : amS) : Prop :=
  CR N tx q sz nc pd fc h cx Sq ∧ fC sz nc pd fc cx S Sq ∧ pfC S0 Sq ∧ JP P nc nb (scO cx) Sq R3 ∧ sk N tx a < q ∧ FO R0 N tx (sk N tx a) q nn nb dl cx P kd v R R3
theorem fC_tr {sz nc pd fc sz' nc' pd' fc' : Nat} {cx : cxT} {A B C : amS} (h : fC sz nc pd fc cx A B) (k : fC sz' nc' pd' fc' cx B C) (h1 : sz ≤ sz') (h2 : nc ≤ nc') (h3 : pd ≤ pd') (h4 : fc ≤ fc') : fC sz nc pd fc cx A C := fC_trans h k h1 h2 h3 h4 (fun _ _ h => h)
section FORM1
variable {S0 R0 : amS} {N : Nat} {tx : Nat → Nat} {a q sz nc pd fc h nn nb dl : Nat} {cx : cxT} {P : List (Nat × Nat)} {kd v : Int32} {S R Sq R3 : amS}
theorem Sim_ret {q r : amQ} {Post : amS → amQ → Prop} (hs : Sim S0 R0 q r Post) : Sim S0 R0 (az_bV q (fun S9 => some (.inl none, S9))) r Post := Sim_bV hs (fun S r h => Or.inr ⟨S, rfl, h⟩)
theorem ox_lt {fc1 : Nat} (t1 : CR N tx q sz nc pd fc h cx S) (h1 : fc1 ≤ 1000) : ∀ f ∈ cx, f.1 < fc ∨ fc1 ≤ f.1 := fun f hf => by
  rcases opC_mem t1.2.2.2.2.2.2.2.2.2.2.1 f hf with h9 | h9
  · exact Or.inl h9
  · exact Or.inr (by omega)
theorem begin_cp {k0 : Nat} (he : EH S0 R0 N tx k0 (dl + 1)) (hN : N ≤ 250) (hb : BD a sz nc pd fc nn nb dl cx) (hh : h ≤ 4 * dl) (hd : dl < 20) (hi : FI S0 R0 N tx a q sz nc pd fc h nn nb dl cx P 8 0 S R Sq R3) :
    Sim S0 R0 (az_bI (g_2 1 0 (nI (sk N tx a)) Sq) fun _ S8 => az_bV (G_82 k0 (nI (dl + 1)) S8) fun S9 => some (.inl none, S9)) (G_152_58 1 R3) (CP S0 R0 N tx a sz nc pd fc h nn nb dl cx P S R) := by
  obtain ⟨t1, t2, t3, t4, t5, f1, f2, f3, f4, f5, f6, f7⟩ := hi
  obtain ⟨b1, b2, b3, b4, b5, b6, b7⟩ := hb
  have hsa := sk_ge (N := N) (tx := tx) a
  have hq : q ≤ N := t1.2.1.2
  rw [add_c t1 (by omega), bI_i]
  refine Sim_ret (Sim_imp (body_y (l := 0) (w := 0) (cc := 0) (vc := 0) he hN (by omega) (show h ≤ 4 * (dl + 1) by omega) (by omega) (Or.inl ⟨Or.inr (Or.inl rfl), rfl⟩) ⟨CR_add t1 1 0 _, f1, rfl, JP_rows t4 rfl rfl, pfC_add t3 1 0 _, f6⟩ ⟨by omega, by omega, by omega, by omega, by omega, by omega, by omega⟩ f2 (by omega) f3 rfl (by omega) (fun h9 => absurd rfl h9)) ?_)
  rintro S' r ⟨a', b', sz', nc', fc', nn', nb', P', R', l', cc', c, u1, u2, u3, u4, u5, u6, u7, u8, u9, u10, -, u12⟩
  obtain ⟨v1, v2, v3, v4, v5, v6, v7, v8, v9⟩ := u6
  rw [if_pos rfl] at u8 u10
  obtain ⟨w1, w2, w3, w4, w5, w6⟩ := u2
  obtain ⟨x1, x2, x3, x4, x5, x6, x7⟩ := u3
  have ha' : a' ≤ N := w1.2.1.2
  have hqs := sk_ge (N := N) (tx := tx) q
  obtain ⟨o1, o2, o3⟩ := u8.2.2.1 (dl + 1) (Nat.le_refl _)
  have g := gate_body (w := 0) u10 (Or.inl ⟨Or.inr (Or.inl rfl), rfl⟩) (by omega) v9
  rw [if_neg (by omega)] at g
  have hcd : cd S' sz 1 0 (nI (sk N tx a)) := cd_ag (cd_add (S := Sq) 1 0 (nI (sk N tx a))) (u7.1 sz (by omega))
  refine ⟨a', b', sz', nc', fc', nn', nb', P', R', [], u1, w1, w2, w3, w4, w5, w6, ⟨by omega, by omega, by omega, by omega, by omega, by omega⟩, ⟨by omega, v2, v3, v4, by omega⟩, fC_tr (fC_tr t2 (fC_add 1 0 _ nc pd fc cx) (Nat.le_refl _) (Nat.le_refl _) (Nat.le_refl _) (Nat.le_refl _)) u7 (by omega) (Nat.le_refl _) (Nat.le_refl _) (Nat.le_refl _), fM_trans (nc := nc) f5 (fM_le u8 (n' := 1000) (l' := 1000) (nn' := nn) (nb' := nb) (dl' := dl) (by omega) (Nat.le_refl _) (by omega) (Or.inr (Nat.le_refl _)) (Or.inl rfl)) (Nat.le_refl _) (Nat.le_refl _) (Nat.le_refl _) (Or.inl rfl) (PE_refl P nc nb), u9, (u8.2.1 nn (by omega) (by omega)).trans f4, ⟨o1.trans f2.1, o2.trans f2.2.1, o3.trans f2.2.2⟩, ⟨g.2, by rw [u10.2.2.2.2.2.1]; exact nI_ne0 (by omega) (by omega)⟩, Or.inl u5, ?_, ?_, u10.2.1⟩
  · intro S2 R2 k1 k2 k3 k4
    obtain ⟨f, hf⟩ := u12 S2 R2 (cK_le k1 (by omega) (Nat.le_refl _) (Nat.le_refl _) (Nat.le_refl _) (Nat.le_refl _)) (fun m h1 h2 => ⟨k2.1 m (by omega) h2, k2.2 m (by omega) h2⟩) k3 (by omega)
    obtain ⟨m1, m2, m3, m4, m5, m6, m7, -⟩ := k2.1 nn (Nat.le_refl _) (by omega)
    refine ⟨f + 1, fun tl => ⟨nn, rfl, by omega, ?_⟩⟩
    obtain ⟨g1, g2, g3, g4, g5⟩ := hdT_mk (q := sz') (a' := a' + 1) (nc := nc') (nb := nb') (dl := dl) (h := h) (by omega) hh (by omega) (show 17 * (scO cx).length ≤ 4 * (a' + 1 + dl) by omega) w4.2.2.2.2 (by omega) (by omega) (by omega)
    refine ⟨g1, g2, g3, g4, g5, Or.inr (Or.inr (Or.inr (Or.inr (Or.inr (Or.inr (Or.inr (Or.inr (Or.inl ⟨m1.trans u10.1, ?_, ?_⟩))))))))⟩
    · rw [m2, u10.2.1]
      exact cd_ag hcd (k1.1 sz (Nat.le_refl _) (by omega))
    · rw [m4, m5, u10.2.2.2.1, u10.2.2.2.2.1]
      exact hf tl
  · rw [hcd.1, u10.1]; decide
/-- a number of operands that is fixed -/
theorem gate_fix {n cc : Nat} {k p v fi la vc : Int32} {m : Nat} (hf : ndF R n k p v fi la (nI cc) vc) (h56 : k ≠ 5 ∧ k ≠ 6) (h10 : k ≠ 10) (hmo : moF k v = nI m) (hm : m < 1000) (hcc : cc ≤ m) : fuF R 0 n = (if cc = m then 1 else 0) ∧ enF R 0 n = if cc = m then 1 else 0 := by
  obtain ⟨f1, f2, f3, f4, f5, f6, f7⟩ := hf
  have hth : thF R n = nI cc := by
    unfold thF
    rw [f1, f6, if_neg (by rintro (h | h); exact h56.1 h; exact h56.2 h)]
  have hle : leF k v = nI m := by
    unfold leF
    rw [if_neg h10, hmo, if_neg (show ¬ (1000 : Int32) ≤ nI m from nI_ge (b := 1000) hm (by decide))]
  unfold fuF enF
  rw [if_pos rfl, if_pos rfl, hth, f1, f3, hmo, hle]
  by_cases h0 : cc = m
  · rw [if_pos (by rw [h0]), if_pos h0, if_neg (by rw [h0]; exact nI_nlt (Nat.le_refl _) (by omega))]
    exact ⟨rfl, rfl⟩
  · rw [if_neg (fun h9 => h0 ((nI_eq (by omega) (by omega)).mp h9)), if_neg h0, if_pos (nI_lt (by omega) (by omega))]
    exact ⟨rfl, rfl⟩
/-- a jump's operand -/
theorem patch_c {i : Nat} (hc : CR N tx q sz nc pd fc h cx S) (hi : i < 502) : g_3 (nI i) S = some (.inl none, sI S 3 i (nI sz)) := by
  simp only [g_3, az_st]
  rw [hc.2.2.1, sR_in _ _ _ _ _ hi (by decide)]
theorem CR_pt (hc : CR N tx q sz nc pd fc h cx S) (i : Nat) (x : Int32) : CR N tx q sz nc pd fc h cx (sI S 3 i x) := hc
theorem fC_pt {i : Nat} {sz : Nat} (hi : sz ≤ i) (x : Int32) (nc pd fc : Nat) (cx : cxT) : fC sz nc pd fc cx S (sI S 3 i x) :=
  ⟨fun j hj => ⟨rfl, sI_nk _ (by omega), rfl⟩, fun _ _ => ⟨rfl, rfl, rfl, rfl⟩, fun _ _ _ => ⟨rfl, fun _ _ => ⟨rfl, rfl⟩⟩, fun _ _ => ⟨rfl, rfl, rfl, fun h => h⟩, mxN_refl _ _ _ _, fun _ _ => rfl⟩
theorem cK_pt {i p q f0 f1 nc : Nat} (hi : i < p ∨ q ≤ i) (x : Int32) : cK p q f0 f1 nc S (sI S 3 i x) :=
  ⟨fun j h1 h2 => ⟨rfl, sI_nk _ (by omega), rfl⟩, fun _ _ _ => ⟨⟨rfl, rfl, rfl, rfl⟩, rfl, fun _ _ => ⟨rfl, rfl⟩⟩, fun _ _ => ⟨rfl, rfl, rfl, fun h => h⟩, mxN_refl _ _ _ _⟩
theorem cd_pt {i : Nat} {o x y p : Int32} (h : cd S i o x p) : cd (sI S 3 i y) i o y p := ⟨h.1, sI_eq _ _ _ _, h.2.2⟩
theorem hdn_c {h : Nat} (hc : CR N tx q sz nc pd fc (h + 1) cx S) (hh : h < 1000) : S.1 23 4 - 1 = nI h := by
  rw [hc.2.2.2.2.2.2.2.2.1, show (1 : Int32) = nI 1 from rfl, pk_sub (by omega), Nat.add_sub_cancel]
theorem if_cp {k0 : Nat} (he : EH S0 R0 N tx k0 (dl + 1)) (hN : N ≤ 250) (hb : BD a sz nc pd fc nn nb dl cx) (hh : h ≤ 4 * dl) (hd : dl < 20) (hi : FI S0 R0 N tx a q sz nc pd fc h nn nb dl cx P 4 0 S R Sq R3) :
    Sim S0 R0 (G_86 k0 (nI (sk N tx a)) (nI (dl + 1)) Sq) (G_152_58 1 R3) (CP S0 R0 N tx a sz nc pd fc h nn nb dl cx P S R) := by
  obtain ⟨t1, t2, t3, t4, t5, f1, f2, f3, f4, f5, f6, f7⟩ := hi
  obtain ⟨b1, b2, b3, b4, b5, b6, b7⟩ := hb
  have hsa := sk_ge (N := N) (tx := tx) a
  have hq : q ≤ N := t1.2.1.2
  have hqs := sk_ge (N := N) (tx := tx) q
  have hmo : moF 4 0 = nI 3 := rfl
  unfold G_86
  rw [add_c t1 (by omega), bI_i]
  -- test
  have g0 := gate_fix (m := 3) (cc := 0) f3 ⟨by decide, by decide⟩ (by decide) hmo (by decide) (by decide)
  refine Sim_bV (slot (l := 0) (cc := 0) he ⟨CR_add t1 1 0 _, f1, rfl, JP_rows t4 rfl rfl, pfC_add t3 1 0 _, f6⟩ ⟨by omega, by omega, by omega, by omega, by omega, by omega, by omega⟩ (by omega) (by omega) hN f2 (by omega) ⟨g0.1, fun _ => Or.inr g0.2, fun _ => Or.inl (by omega)⟩ f3 (by decide) (fun h9 => absurd rfl h9)) ?_
  rintro S1 r ⟨a1, sz1, nc1, fc1, nn1, nb1, P1, R1, c1, e1, e2, e3, e4, e5, e6, e7, e8, e9, e10, e11, -⟩
  subst e1
  rw [if_pos rfl] at e7 e11
  obtain ⟨e5a, e5b, e5c, e5d, e5e, e5f⟩ := e5
  obtain ⟨p1, p2, p3, p4, p5, p6⟩ := e2
  obtain ⟨x1, x2, x3, x4, x5, x6, x7⟩ := e3
  have ha1 : a1 ≤ N := p1.2.1.2
  have hs1 := sk_ge (N := N) (tx := tx) a1
  have o1 := e7.2.2.1 (dl + 1) (Nat.le_refl _)
  rw [add_c p1 (by omega), bI_i]
  simp only [az_st]
  rw [show (addS S1 sz1 10 0 (nI (sk N tx a))).1 23 4 = S1.1 23 4 from rfl, hdn_c p1 (by omega)]
  have y1 := CR_h (CR_add p1 10 0 (nI (sk N tx a))) h
  -- then
  have g1 := gate_fix (m := 3) (cc := 1) e11 ⟨by decide, by decide⟩ (by decide) hmo (by decide) (by decide)
  refine Sim_bV (slot (l := c1) (cc := 1) he ⟨y1, p2, p3, JP_rows p4 rfl rfl, pfC_h (pfC_add p5 10 0 _) _, p6⟩ ⟨by omega, by omega, by omega, by omega, by omega, by omega, by omega⟩ (by omega) (by omega) hN ⟨o1.1.trans f2.1, o1.2.1.trans f2.2.1, o1.2.2.trans f2.2.2⟩ (by omega) ⟨g1.1, fun _ => Or.inr g1.2, fun _ => Or.inl (by omega)⟩ e11 (by decide) (fun _ => ⟨rfl, e5f⟩)) ?_
  rintro S2 r ⟨a2, sz2, nc2, fc2, nn2, nb2, P2, R2, c2, i1, i2, i3, i4, i5, i6, i7, i8, i9, i10, i11, i12⟩
  subst i1
  rw [if_neg (by decide)] at i7 i11
  obtain ⟨i5a, i5b, i5c, i5d, i5e, i5f⟩ := i5
  obtain ⟨q1, q2, q3, q4, q5, q6⟩ := i2
  obtain ⟨z1, z2, z3, z4, z5, z6, z7⟩ := i3
  have ha2 : a2 ≤ N := q1.2.1.2
  have hs2 := sk_ge (N := N) (tx := tx) a2
  have o2 := i7.2.2.1 (dl + 1) (Nat.le_refl _)
  rw [add_c q1 (by omega), bI_i]
  rw [show (addS S2 sz2 9 0 (nI (sk N tx a))).1 23 4 = S2.1 23 4 from rfl, hdn_c q1 (by omega)]
  have y2 := CR_h (CR_add q1 9 0 (nI (sk N tx a))) h
  rw [patch_c y2 (show sz1 < 502 by omega), bV_v]
  have y3 := CR_pt y2 sz1 (nI (sz2 + 1))
  -- else
  have g2 := gate_fix (m := 3) (cc := 2) i11 ⟨by decide, by decide⟩ (by decide) hmo (by decide) (by decide)
  refine Sim_bV (slot (l := c2) (cc := 2) he ⟨y3, q2, q3, JP_rows q4 rfl rfl, pfC_w (pfC_h (pfC_add q5 9 0 _) _) (by decide) (by omega) _, q6⟩ ⟨by omega, by omega, by omega, by omega, by omega, by omega, by omega⟩ (by omega) (by omega) hN ⟨(o2.1.trans o1.1).trans f2.1, (o2.2.1.trans o1.2.1).trans f2.2.1, (o2.2.2.trans o1.2.2).trans f2.2.2⟩ (by omega) ⟨g2.1, fun _ => Or.inr g2.2, fun _ => Or.inl (by omega)⟩ i11 (by decide) (fun _ => ⟨rfl, i5f⟩)) ?_
  rintro S3 r ⟨a3, sz3, nc3, fc3, nn3, nb3, P3, R4, c3, j1, j2, j3, j4, j5, j6, j7, j8, j9, j10, j11, j12⟩
  subst j1
  rw [if_neg (by decide)] at j7 j11
  obtain ⟨j5a, j5b, j5c, j5d, j5e, j5f⟩ := j5
  obtain ⟨r1, r2, r3, r4, r5, r6⟩ := j2
  obtain ⟨w1, w2, w3, w4, w5, w6, w7⟩ := j3
  have ha3 : a3 ≤ N := r1.2.1.2
  have o3 := j7.2.2.1 (dl + 1) (Nat.le_refl _)
  rw [patch_c r1 (show sz2 < 502 by omega), bV_v]
  have g3 := gate_fix (m := 3) (cc := 3) j11 ⟨by decide, by decide⟩ (by decide) hmo (by decide) (by decide)
  -- frames
  have F1 : fC sz nc pd fc cx S S1 := fC_tr (fC_tr t2 (fC_add 1 0 _ nc pd fc cx) (Nat.le_refl _) (Nat.le_refl _) (Nat.le_refl _) (Nat.le_refl _)) e6 (by omega) (Nat.le_refl _) (Nat.le_refl _) (Nat.le_refl _)
  have A1 : fC sz1 nc1 pd fc1 cx S1 S2 := fC_tr (fC_tr (fC_add 10 0 (nI (sk N tx a)) nc1 pd fc1 cx) (fC_h (nI h) sz1 nc1 pd fc1 cx) (Nat.le_refl _) (Nat.le_refl _) (Nat.le_refl _) (Nat.le_refl _)) i6 (by omega) (Nat.le_refl _) (Nat.le_refl _) (Nat.le_refl _)
  have A2 : fC sz2 nc2 pd fc2 cx (sI (sI (addS S2 sz2 9 0 (nI (sk N tx a))) 23 4 (nI h)) 3 sz1 (nI (sz2 + 1))) S3 := fC_le j6 (by omega) (Nat.le_refl _) (Nat.le_refl _) (Nat.le_refl _)
  have B2 : fC sz2 nc2 pd fc2 cx S2 (sI (addS S2 sz2 9 0 (nI (sk N tx a))) 23 4 (nI h)) := fC_tr (fC_add 9 0 (nI (sk N tx a)) nc2 pd fc2 cx) (fC_h (nI h) sz2 nc2 pd fc2 cx) (Nat.le_refl _) (Nat.le_refl _) (Nat.le_refl _) (Nat.le_refl _)
  have F2 : fC sz nc pd fc cx S S2 := fC_tr F1 A1 (by omega) e5b (Nat.le_refl _) e5c
  have F3 : fC sz nc pd fc cx S (sI (addS S2 sz2 9 0 (nI (sk N tx a))) 23 4 (nI h)) := fC_tr F2 B2 (by omega) (by omega) (Nat.le_refl _) (by omega)
  have F4 : fC sz nc pd fc cx S (sI (sI (addS S2 sz2 9 0 (nI (sk N tx a))) 23 4 (nI h)) 3 sz1 (nI (sz2 + 1))) := fC_tr F3 (fC_pt (show sz ≤ sz1 by omega) _ nc pd fc cx) (Nat.le_refl _) (Nat.le_refl _) (Nat.le_refl _) (Nat.le_refl _)
  have F5 : fC sz nc pd fc cx S S3 := fC_tr F4 A2 (by omega) (by omega) (Nat.le_refl _) (by omega)
  have F6 : fC sz nc pd fc cx S (sI S3 3 sz2 (nI sz3)) := fC_tr F5 (fC_pt (show sz ≤ sz2 by omega) _ nc pd fc cx) (Nat.le_refl _) (Nat.le_refl _) (Nat.le_refl _) (Nat.le_refl _)
  have M1 : fM nn 1000 (nn + 1) nb (dl + 1) P R3 R2 := fM_trans (nc := nc) e7 i7 (by omega) (by omega) (Nat.le_refl _) (Or.inr (by omega)) e8
  have M2 : fM nn 1000 (nn + 1) nb (dl + 1) P R3 R4 := fM_trans (nc := nc) M1 j7 (by omega) (by omega) (Nat.le_refl _) (Or.inr (by omega)) (PE_trans e8 i8 (by omega) (by omega))
  have PP : PE P P3 nc nb := PE_trans (PE_trans e8 i8 (by omega) (by omega)) j8 (by omega) (by omega)
  have oz1 := ox_lt (fc1 := fc1) t1 (by omega)
  have oz2 := ox_lt (fc1 := fc2) p1 (by omega)
  -- the children in the last state
  have T1 : Tr P3 a3 (dl + 1) c1 nn1 (sz + 1) sz1 fc fc1 nc3 h (fnO cx) (scO cx) (sI S3 3 sz2 (nI sz3)) R4 := by
    refine Tr_mono (Tr_step e10 ?_ ?_) (fun x hx => j8.1 x (i8.1 x hx)) (by omega) (by omega)
    · refine cK_trans (cK_of_fC A1 (Nat.le_refl _) (Nat.le_refl _) (Nat.le_refl _) oz1) (cK_trans (cK_of_fC B2 (by omega) (by omega) (by omega) oz1) (cK_trans (cK_pt (Or.inr (Nat.le_refl _)) _) (cK_trans (cK_of_fC A2 (by omega) (by omega) (by omega) oz1) (cK_pt (Or.inr (by omega)) _))))
    · exact kM_trans (kM_of_fM i7 (Nat.le_refl _) (Or.inl (by omega)) (Or.inl (Nat.le_refl _))) (kM_of_fM j7 (by omega) (Or.inl (by omega)) (Or.inr (by omega)))
  have T2 : Tr P3 a3 (dl + 1) c2 nn2 (sz1 + 1) sz2 fc1 fc2 nc3 h (fnO cx) (scO cx) (sI S3 3 sz2 (nI sz3)) R4 := by
    refine Tr_mono (Tr_step i10 ?_ ?_) j8.1 (by omega) (by omega)
    · refine cK_trans (cK_of_fC B2 (Nat.le_refl _) (Nat.le_refl _) (Nat.le_refl _) oz2) (cK_trans (cK_pt (Or.inl (by omega)) _) (cK_trans (cK_of_fC A2 (Nat.le_refl _) (Nat.le_refl _) (Nat.le_refl _) oz2) (cK_pt (Or.inr (Nat.le_refl _)) _)))
    · exact kM_of_fM j7 (Nat.le_refl _) (Or.inl (by omega)) (Or.inl (Nat.le_refl _))
  have T3 : Tr P3 a3 (dl + 1) c3 nn3 (sz2 + 1) sz3 fc2 fc3 nc3 h (fnO cx) (scO cx) (sI S3 3 sz2 (nI sz3)) R4 := Tr_step j10 (cK_pt (Or.inl (by omega)) _) (kM_refl _ _ _)
  -- the orders
  have D0 : cd (sI S3 3 sz2 (nI sz3)) sz 1 0 (nI (sk N tx a)) := by
    have d0 : cd S1 sz 1 0 (nI (sk N tx a)) := cd_ag (cd_add (S := Sq) 1 0 (nI (sk N tx a))) (e6.1 sz (by omega))
    refine cd_ag d0 (agC_trans (A1.1 sz (by omega)) (agC_trans (B2.1 sz (by omega)) (agC_trans ((fC_pt (S := sI (addS S2 sz2 9 0 (nI (sk N tx a))) 23 4 (nI h)) (show sz + 1 ≤ sz1 by omega) (nI (sz2 + 1)) nc pd fc cx).1 sz (by omega)) (agC_trans (A2.1 sz (by omega)) ((fC_pt (S := S3) (show sz + 1 ≤ sz2 by omega) (nI sz3) nc pd fc cx).1 sz (by omega))))))
  have D1 : cd (sI S3 3 sz2 (nI sz3)) sz1 10 (nI (sz2 + 1)) (nI (sk N tx a)) := by
    have d0 : cd S2 sz1 10 0 (nI (sk N tx a)) := cd_ag (cd_add (S := S1) 10 0 (nI (sk N tx a))) (agC_trans (agC_refl _ _) (i6.1 sz1 (by omega)))
    have d1 := cd_pt (y := nI (sz2 + 1)) (cd_ag d0 (B2.1 sz1 (by omega)))
    exact cd_ag d1 (agC_trans (A2.1 sz1 (by omega)) ((fC_pt (S := S3) (show sz1 + 1 ≤ sz2 by omega) (nI sz3) nc pd fc cx).1 sz1 (by omega)))
  have D2 : cd (sI S3 3 sz2 (nI sz3)) sz2 9 (nI sz3) (nI (sk N tx a)) := by
    have d0 : cd (sI (addS S2 sz2 9 0 (nI (sk N tx a))) 23 4 (nI h)) sz2 9 0 (nI (sk N tx a)) := cd_add (S := S2) 9 0 (nI (sk N tx a))
    have d2 : cd (sI (sI (addS S2 sz2 9 0 (nI (sk N tx a))) 23 4 (nI h)) 3 sz1 (nI (sz2 + 1))) sz2 9 0 (nI (sk N tx a)) := ⟨d0.1, (sI_nk _ (by omega)).trans d0.2.1, d0.2.2⟩
    exact cd_pt (cd_ag d2 (j6.1 sz2 (by omega)))
  refine Or.inr ⟨_, rfl, a3, a3, sz3, nc3, fc3, nn3, nb3, P3, R4, [], rfl, CR_pt r1 sz2 _, r2, r3, JP_rows r4 rfl rfl, pfC_w r5 (by decide) (by omega) _, r6, ⟨by omega, by omega, by omega, by omega, by omega, by omega⟩, ⟨by omega, by omega, by omega, by omega, by omega⟩, F6, fM_trans (nc := nc) f5 (fM_le M2 (n' := 1000) (l' := 1000) (nn' := nn) (nb' := nb) (dl' := dl) (by omega) (Nat.le_refl _) (by omega) (Or.inr (Nat.le_refl _)) (Or.inl rfl)) (Nat.le_refl _) (Nat.le_refl _) (Nat.le_refl _) (Or.inl rfl) (PE_refl P nc nb), PP, (M2.2.1 nn (by omega) (by omega)).trans f4, ⟨((o3.1.trans o2.1).trans o1.1).trans f2.1, ((o3.2.1.trans o2.2.1).trans o1.2.1).trans f2.2.1, ((o3.2.2.trans o2.2.2).trans o1.2.2).trans f2.2.2⟩, ⟨g3.2, by rw [j11.2.2.2.2.2.1]; decide⟩, Or.inr (Or.inr g3.1), ?_, ?_, j11.2.1⟩
  · intro S5 R5 k1 k2 k3 k4
    obtain ⟨m1, m2, m3, m4, m5, m6, m7, -⟩ := k2.1 nn (Nat.le_refl _) (by omega)
    obtain ⟨u1, v1⟩ := T1 S5 R5 (cK_le k1 (by omega) (by omega) (Nat.le_refl _) (by omega) (Nat.le_refl _)) (kM_le k2 (by omega) (by omega)) k3 (by omega)
    obtain ⟨u2, v2⟩ := T2 S5 R5 (cK_le k1 (by omega) (by omega) (by omega) (by omega) (Nat.le_refl _)) (kM_le k2 (by omega) (by omega)) k3 (by omega)
    obtain ⟨u3, v3⟩ := T3 S5 R5 (cK_le k1 (by omega) (Nat.le_refl _) (by omega) (Nat.le_refl _) (Nat.le_refl _)) (kM_le k2 (by omega) (Nat.le_refl _)) k3 (by omega)
    refine ⟨u1 + u2 + u3 + 1, fun tl => ⟨nn, rfl, by omega, ?_⟩⟩
    obtain ⟨s1, s2, s3, s4, s5⟩ := hdT_mk (q := sz3) (a' := a3 + 1) (nc := nc3) (nb := nb3) (dl := dl) (h := h) (by omega) hh (by omega) (show 17 * (scO cx).length ≤ 4 * (a3 + 1 + dl) by omega) r4.2.2.2.2 (by omega) (by omega) (by omega)
    have p37 : R5.1 37 nn = nI (sk N tx a) := m2.trans j11.2.1
    refine ⟨s1, s2, s3, s4, s5, Or.inr (Or.inr (Or.inr (Or.inr (Or.inl ⟨m1.trans j11.1, c1, c2, c3, sz1, sz2, by omega, by omega, by omega, m4.trans j11.2.2.2.1, ?_, ?_, m5.trans j11.2.2.2.2.1, ?_, TT_le (by omega) (v1 false), ?_, TT_le (by omega) (v2 tl), ?_, TT_le (by omega) (v3 tl)⟩))))⟩
    · rw [k2.2 c1 (by omega) (by omega), j7.2.1 c1 (by omega) (by omega)]
      exact i12 (by decide)
    · rw [k2.2 c2 (by omega) (by omega)]
      exact j12 (by decide)
    · rw [p37]; exact cd_ag D0 (k1.1 sz (Nat.le_refl _) (by omega))
    · rw [p37]; exact cd_ag D1 (k1.1 sz1 (by omega) (by omega))
    · rw [p37]; exact cd_ag D2 (k1.1 sz2 (by omega) (by omega))
  · rw [D0.1, j11.1]; decide
end FORM1
