/-! the program: what both have read -/
section PROG
variable {S0 R0 : amS} {N : Nat} {tx : Nat → Nat} {pd : Nat}
def cx0 : cxT := [(1000, [])]
/-- from an expression of the program to its end -/
def QP (S0 R0 : amS) (N : Nat) (tx : Nat → Nat) (a sz nc fc nn nb : Nat) (P : List (Nat × Nat)) (S R : amS) (l cc : Nat) (fi : Int32) (S1 R' : amS) : Prop :=
  ∃ a' sz' nc' fc' nn' nb' P' l' cc', RL S0 R0 N tx a' a' sz' nc' 0 fc' 1 nn' nb' 0 cx0 P' S1 R' ∧ BD a' (sz' + 1) nc' 0 fc' nn' nb' 0 cx0 ∧ a ≤ a' ∧ (sz ≤ sz' ∧ nc ≤ nc' ∧ fc ≤ fc' ∧ nb ≤ nb' ∧ nn ≤ nn' ∧ l' < nn' ∧ 0 < l' ∧ cc ≤ cc' ∧ cc' < 1000) ∧ fC sz nc 0 fc cx0 S S1 ∧ fM 0 l nn nb 0 P R R' ∧ PE P P' nc nb ∧ ndF R' 0 11 0 0 fi (nI l') (nI cc') 0 ∧
  ∀ S2 R2, cK sz sz' fc fc' nc' S1 S2 → kN nn nn' l R' R2 → KJ P' S2 R2 → ∃ f, ∀ tl, TB S2 R2 f l (nI l') 0 sz sz' 0 1000 [] tl
theorem prog_l {k0 mk : Nat} (he : EH S0 R0 N tx k0 0) (hN : N ≤ 250) : ∀ (m a b sz nc fc nn nb : Nat) (P : List (Nat × Nat)) (S R : amS) (l cc l2 : Nat) (fi : Int32), N - a ≤ m → RL S0 R0 N tx a b sz nc 0 fc 1 nn nb 0 cx0 P S R → BD a (sz + 1) nc 0 fc nn nb 0 cx0 → opM R 0 0 0 mk → 0 < l → l < nn → ndF R 0 11 0 0 fi (nI l) (nI cc) 0 → 0 < cc → cc ≤ nn → l2 + 1 ≤ a → R.1 41 l = -1 →
    Fl S0 R0 (G_71_45 k0 (nI l2) S) (G_152_58 1 R) ∨ ∃ S1 R', G_71_45 k0 (nI l2) S = G_71_77 k0 S1 ∧ G_152_58 1 R = some (.inl none, R') ∧ QP S0 R0 N tx a sz nc fc nn nb P S R l cc fi S1 R' := by
  have fin : ∀ (a b sz nc fc nn nb : Nat) (P : List (Nat × Nat)) (S R : amS) (l cc l2 : Nat) (fi : Int32), RL S0 R0 N tx a b sz nc 0 fc 1 nn nb 0 cx0 P S R → BD a (sz + 1) nc 0 fc nn nb 0 cx0 → opM R 0 0 0 mk → 0 < l → l < nn → ndF R 0 11 0 0 fi (nI l) (nI cc) 0 → 0 < cc → cc ≤ nn → l2 + 1 ≤ a → R.1 41 l = -1 → tb N tx (sk N tx a) = -1 → ∃ S1 R', G_71_45 k0 (nI l2) S = G_71_77 k0 S1 ∧ G_152_58 1 R = some (.inl none, R') ∧ QP S0 R0 N tx a sz nc fc nn nb P S R l cc fi S1 R' := by
    intro a b sz nc fc nn nb P S R l cc l2 fi hr hb ho hl0 hl hf hcc hcn hl2 h41 hm1
    obtain ⟨t1, t2, t3, t4, t5, t6⟩ := hr
    obtain ⟨b1, b2, b3, b4, b5, b6, b7⟩ := hb
    have ha : a ≤ N := t1.2.1.2
    have hsa := sk_ge (N := N) (tx := tx) a
    have hsN := sk_le (tx := tx) ha
    refine ⟨sI S 21 3 (nI (sk N tx a)), sI R 34 4 (nI (sk N tx a)), ?_, ?_, sk N tx a, sz, nc, fc, nn, nb, P, l, cc, ⟨CR_sk t1, MR_at t2 hsN, rfl, JP_rows t4 rfl rfl, pfC_at t5 _, pfM_at t6 _⟩, ⟨by omega, by omega, by omega, by omega, by omega, b6, by omega⟩, hsa, ⟨Nat.le_refl _, Nat.le_refl _, Nat.le_refl _, Nat.le_refl _, Nat.le_refl _, hl, hl0, Nat.le_refl _, by omega⟩, fC_at _ sz nc 0 fc cx0, fM_at _ 0 l nn nb 0 P, PE_refl P nc nb, hf, fun S2 R2 _ k2 _ => ⟨0, fun tl => Or.inl ⟨k2.2.trans h41, rfl, rfl⟩⟩⟩
    · rw [G_71_45_eq]
      unfold B_71_45 G_105
      rw [if_neg (show ¬ (250 : Int32) ≤ nI l2 from nI_ge (b := 250) (by omega) (by decide)), next_r t1, bI_i, if_pos hm1, bI_i, if_neg (by decide)]
    · rw [lp_m t2 ho (by omega) (by omega), ← t3, hm1]
      unfold G_152_183 G_152_322
      have e23 : (sI R 34 4 (nI (sk N tx a))).1 34 23 = nI 0 := t2.2.2.2.2.2.1
      rw [if_pos rfl, e23, if_neg (by decide)]
      have e42 : ¬ (sI R 34 4 (nI (sk N tx a))).1 42 (0 : Int32).toNatClampNeg = 0 := by
        show ¬ R.1 42 0 = 0
        rw [hf.2.2.2.2.2.1]
        exact nI_ne0 hcc (by omega)
      show (if (sI R 34 4 (nI (sk N tx a))).1 42 (0 : Int32).toNatClampNeg = 0 then G_152_208 G_152_58 0 (sI R 34 4 (nI (sk N tx a))) else G_152_58 0 (sI R 34 4 (nI (sk N tx a)))) = _
      rw [if_neg e42, G_152_58_eq]
      unfold B_152_58
      rw [if_pos rfl]
  intro m
  induction m with
  | zero =>
    intro a b sz nc fc nn nb P S R l cc l2 fi hm hr hb ho hl0 hl hf hcc hcn hl2 h41
    have hsa := sk_ge (N := N) (tx := tx) a
    exact Or.inr (fin a b sz nc fc nn nb P S R l cc l2 fi hr hb ho hl0 hl hf hcc hcn hl2 h41 ((tb_m1 (fun i hi => (hr.1.1.2.2 i hi).2)).mpr (by omega)))
  | succ m ih =>
    intro a b sz nc fc nn nb P S R l cc l2 fi hm hr hb ho hl0 hl hf hcc hcn hl2 h41
    by_cases hm1 : tb N tx (sk N tx a) = -1
    · exact Or.inr (fin a b sz nc fc nn nb P S R l cc l2 fi hr hb ho hl0 hl hf hcc hcn hl2 h41 hm1)
    obtain ⟨t1, t2, t3, t4, t5, t6⟩ := hr
    obtain ⟨b1, b2, b3, b4, b5, b6, b7⟩ := hb
    have ha : a ≤ N := t1.2.1.2
    have hsa := sk_ge (N := N) (tx := tx) a
    have c1 := CR_sk t1
    have g := gate_body (w := 0) (vc := 0) hf (Or.inl ⟨Or.inr (Or.inr rfl), rfl⟩) (by omega) (by omega)
    rw [G_71_45_eq]
    unfold B_71_45 G_105
    rw [if_neg (show ¬ (250 : Int32) ≤ nI l2 from nI_ge (b := 250) (by omega) (by decide)), next_r t1, bI_i, if_neg hm1, bI_i, if_pos rfl, forget_c (h := 0) c1 (by omega) (by omega), bV_v]
    have c2 := CR_h (CR_add c1 8 0 (-1)) 0
    have hsl := slot (cc := cc) (l := l) (a := sk N tx a) (b := b) (sz := sz + 1) (h := 0) (dl := 0) (R := R) (P := P) he ⟨c2, t2, by rw [sk_sk]; exact t3, JP_rows t4 rfl rfl, pfC_h (pfC_add (pfC_at t5 _) _ _ _) _, t6⟩ ⟨by omega, by omega, by omega, by omega, by omega, b6, by omega⟩ (by decide) (by decide) hN ho (by omega) ⟨g.1, fun _ => Or.inl rfl, fun h9 => absurd (by rw [t3]; exact h9) hm1⟩ hf (by omega) (fun _ => ⟨rfl, hl⟩)
    rcases hsl with hfl | ⟨S1, q1, a1, sz1, nc1, fc1, nn1, nb1, P1, R1, c, e1, e2, e3, e4, e5, e6, e7, e8, e9, e10, e11, e12⟩
    · exact Or.inl (Fl_bV hfl _)
    rw [show (0 : Int32) = nI 0 from rfl] at *
    rw [sk_sk] at e4
    rw [if_neg (show cc ≠ 0 by omega)] at e7 e11
    obtain ⟨e5a, e5b, e5c, e5d, e5e, e5f⟩ := e5
    have ha1 : a1 ≤ N := e2.1.2.1.2
    obtain ⟨o1, o2, o3⟩ := e7.2.2.1 0 (Nat.le_refl _)
    rw [q1, bV_v, e1, nI_1]
    have e3' := e3.2.2.2.1
    rcases ih a1 a1 sz1 nc1 fc1 nn1 nb1 P1 S1 R1 c (cc + 1) (l2 + 1) fi (by omega) e2 e3 ⟨o1.trans ho.1, o2.trans ho.2.1, o3.trans ho.2.2⟩ (by omega) e5f e11 (by omega) (by omega) (by omega) e9 with hfl | ⟨Sz, Rz, y1, y2, a2, sz2, nc2, fc2, nn2, nb2, P2, l3, cc2, u2, u3, u4, u6, u7, u8, u9, u11, u12⟩
    · exact Or.inl hfl
    obtain ⟨u6a, u6b, u6c, u6d, u6e, u6f, u6g, u6h, u6i⟩ := u6
    refine Or.inr ⟨Sz, Rz, y1, y2, a2, sz2, nc2, fc2, nn2, nb2, P2, l3, cc2, u2, u3, by omega, ⟨by omega, by omega, by omega, by omega, by omega, u6f, u6g, by omega, u6i⟩, ?_, fM_trans (nc := nc) e7 u8 (by omega) (by omega) (Nat.le_refl _) (Or.inr (by omega)) e8, PE_trans e8 u9 (by omega) (by omega), u11, ?_⟩
    · exact fC_tr (fC_tr (fC_tr (fC_at _ sz nc 0 fc cx0) (fC_tr (fC_add 8 0 (-1) nc 0 fc cx0) (fC_h (nI 0) sz nc 0 fc cx0) (Nat.le_refl _) (Nat.le_refl _) (Nat.le_refl _) (Nat.le_refl _)) (Nat.le_refl _) (Nat.le_refl _) (Nat.le_refl _) (Nat.le_refl _)) e6 (by omega) (Nat.le_refl _) (Nat.le_refl _) (Nat.le_refl _)) u7 (by omega) (by omega) (Nat.le_refl _) (by omega)
    · intro S3 R3 k1 k2 k3
      have hox : ∀ f ∈ cx0, f.1 < fc ∨ fc1 ≤ f.1 := fun f hf => by
        rcases opC_mem t1.2.2.2.2.2.2.2.2.2.2.1 f hf with h9 | h9
        · exact Or.inl h9
        · have := e3.2.2.1
          exact Or.inr (by omega)
      have hcS : cK (sz + 1) sz1 fc fc1 nc1 S1 S3 := cK_trans (cK_of_fC u7 (Nat.le_refl _) (Nat.le_refl _) (Nat.le_refl _) hox) (cK_le k1 (by omega) (by omega) (Nat.le_refl _) (by omega) (by omega))
      have hmR : kM c nn1 R1 R3 := kM_trans (kM_of_fM u8 (Nat.le_refl _) (Or.inl (by omega)) (Or.inl (Nat.le_refl _))) ⟨fun i h1 h2 => (k2.1 i (by omega) (by omega)).1, fun i h1 h2 => (k2.1 i (by omega) (by omega)).2⟩
      obtain ⟨f1, hf1⟩ := e10 S3 R3 hcS hmR (KJ_sub k3 u9.1) (by omega)
      obtain ⟨f2, hf2⟩ := u12 S3 R3 (cK_le k1 (by omega) (Nat.le_refl _) (by omega) (Nat.le_refl _) (Nat.le_refl _)) ⟨fun i h1 h2 => k2.1 i (by omega) h2, (k2.1 c (by omega) (by omega)).2⟩ k3
      refine ⟨f1 + f2 + 1, fun tl => Or.inr ⟨c, by omega, ?_, ?_, ?_⟩⟩
      · have q1 : Rz.1 41 l = R1.1 41 l := u8.2.1 l (by omega) (by omega)
        rw [k2.2, q1, e12 (by omega)]
      · have q0 : cd (sI (addS (sI S 21 3 (nI (sk N tx a))) sz 8 0 (-1)) 23 4 (nI 0)) sz 8 0 (-1) := cd_add (S := sI S 21 3 (nI (sk N tx a))) 8 0 (-1)
        exact cd_ag q0 (agC_trans (agC_trans (e6.1 sz (by omega)) (u7.1 sz (by omega))) (k1.1 sz (Nat.le_refl _) (by omega)))
      · exact TT_of_TB (by omega) (fun tl => TT_le (by omega) (hf1 tl)) (TB_le (by omega) (hf2 tl))
end PROG
