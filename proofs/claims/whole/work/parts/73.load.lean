/-! a text is read by both -/
section LOADP
variable {N : Nat} {tx : Nat → Nat} {S R : amS}
theorem nI_any (x : Int32) : ∃ k, x = nI k := ⟨x.toBitVec.toNat, by
  apply Int32.toBitVec_inj.mp
  show x.toBitVec = BitVec.ofNat 32 x.toBitVec.toNat
  simp⟩
def ldS (S : amS) : amS := sI (sI (sI (sI (sI (sI (sI (sI (sI (sI (sI S 21 2 (S.1 21 1)) 21 1 0) 21 3 0) 1 3 0) 5 4 0) 5 6 0) 5 8 0) 12 7 0) 12 9 0) 23 4 0) 23 5 (-1)
def ldR (R : amS) : amS := sI (sI (ndS (sI (sI (sI (sI (sI (sI (sI R 34 7 0) 34 19 0) 34 26 0) 34 4 0) 34 23 0) 34 5 0) 34 6 (-1)) 0 11 0 0) 47 0 0) 48 0 0
/-- the program as it was read: orders [0, sz), nodes below nn -/
def PG (S0 R0 : amS) (S1 R' : amS) : Prop :=
  ∃ N tx a sz nc fc nn nb P l c, CR N tx a sz nc 0 fc 1 cx0 S1 ∧ MR N tx a nn nb 0 [] R' ∧ JP P nc nb [] S1 R' ∧ pfC S0 S1 ∧ pfM R0 R' ∧ sz ≤ 500 ∧ fc ≤ 28 ∧ nn ≤ 251 ∧ (R'.1 36 0 = 11 ∧ R'.1 47 0 = nI 0 ∧ R'.1 42 0 ≠ 0) ∧ R'.1 39 0 = nI c ∧ R'.1 40 0 = nI l ∧ c < nn ∧ l < nn ∧
  ∀ S2 R2, cK 0 sz 0 fc nc S1 S2 → (∀ m, m < nn → ndA R' R2 m ∧ R2.1 41 m = R'.1 41 m) → KJ P S2 R2 → ∃ f, ∀ tl, TT S2 R2 false f 1 (nI c) (nI l) 0 0 sz 0 1000 [] tl
theorem prog_all (hN : N ≤ 250) (h1 : S.1 21 1 = nI N) (h2 : R.1 34 3 = nI N) (h3 : ∀ i, i < N → S.1 22 i = nI (tx i) ∧ R.1 35 i = nI (tx i) ∧ tx i < 256) :
    Fl (ldS S) (ldR R) (G_71 25 S) (G_152 R) ∨ ∃ S1 R', G_71 25 S = G_71_77 25 S1 ∧ G_152 R = some (.inl none, R') ∧ PG (ldS S) (ldR R) S1 R' := by
  have eC : G_71 25 S = az_bV (G_73 25 (nI 0) (ldS S)) fun S7 => G_71_45 25 (nI 0) S7 := by
    unfold G_71
    simp only [g_101, g_1, g_55, g_8, az_st, bV_v]
    rfl
  have m0 : MR N tx 0 0 0 0 [] (sI (sI (sI (sI (sI (sI (sI R 34 7 0) 34 19 0) 34 26 0) 34 4 0) 34 23 0) 34 5 0) 34 6 (-1)) := by
    refine ⟨⟨hN, h2, fun i hi => ⟨(h3 i hi).2.1, (h3 i hi).2.2⟩⟩, ⟨?_, by omega⟩, ?_, ⟨⟨?_, ?_⟩, fun m x hm => absurd hm (by omega), fun m x hm => absurd hm (by omega), ⟨fun _ => 0, fun m x hm => absurd hm (by omega), fun m x hm => absurd hm (by omega)⟩, fun m hm => absurd hm (by omega), fun m hm => absurd hm (by omega), fun m hm => absurd hm (by omega), fun m hm => absurd hm (by omega), fun m hm => absurd hm (by omega)⟩, ?_, ?_, ?_, trivial⟩ <;> simp [sI_get] <;> rfl
  have eM : G_152 R = G_152_58 1 (ldR R) := by
    unfold G_152
    simp only [az_st]
    rw [node_m m0.2.2.2.1.1.1 (by decide), bI_i]
    rfl
  have e36 : (ldR R).1 36 0 = 11 := by
    unfold ldR
    rw [sI_na _ (by decide), sI_na _ (by decide)]
    exact (ndS_F 11 0 0).1.1
  have m1 : MR N tx 0 1 0 0 [] (ldR R) := by
    obtain ⟨g1, g2, g3, g4, g5, g6, g7, g8⟩ := MR_nd m0 11 0 0 (by decide)
    obtain ⟨y0, y1, y2, y3, y4, y5, y6, y7, y8⟩ := g4
    refine ⟨g1, g2, g3, ⟨y0, y1, y2, y3, y4, y5, y6, y7, fun m hm hkm => ?_⟩, g5, g6, g7, g8⟩
    have hm0 : m = 0 := by omega
    subst hm0
    have hkm' : lkK ((ldR R).1 36 0) := hkm
    rw [e36] at hkm'
    exact absurd hkm' (by decide)
  have hF := ndS_F (R := sI (sI (sI (sI (sI (sI (sI R 34 7 0) 34 19 0) 34 26 0) 34 4 0) 34 23 0) 34 5 0) 34 6 (-1)) (nn := 0) 11 0 0
  have nd1 : ndF (ldR R) 0 11 0 0 (-1) (-1) (nI 0) 0 := hF.1
  obtain ⟨mk, hmk⟩ := nI_any ((ldR R).1 49 0)
  have o1 : opM (ldR R) 0 0 0 mk := by
    refine ⟨?_, ?_, hmk⟩
    · unfold ldR
      rw [sI_na _ (by decide), sI_eq]
      rfl
    · unfold ldR
      rw [sI_eq]
  have c1 : CR N tx 0 0 0 0 0 0 cx0 (ldS S) := by
    refine ⟨⟨hN, ?_, fun i hi => ⟨(h3 i hi).1, (h3 i hi).2.2⟩⟩, ⟨?_, by omega⟩, ?_, ?_, ?_, ?_, ?_, ?_, ?_, trivial, rfl, ⟨fun e he => (by cases he), trivial⟩, trivial⟩
    · unfold ldS
      simp [sI_get, h1]
    all_goals
      unfold ldS
      simp [sI_get]
      rfl
  have he := e_all (S0 := ldS S) (R0 := ldR R) (tx := tx) hN 25 0 rfl (by decide)
  have hr : RL (ldS S) (ldR R) N tx 0 0 0 0 0 0 0 1 0 0 cx0 [] (ldS S) (ldR R) := ⟨c1, m1, rfl, ⟨fun x hx => (by cases hx), fun x hx => (by cases hx), fun x hx => (by cases hx), fun e he => (by cases he), trivial⟩, ⟨fun _ _ => rfl, rfl, rfl⟩, ⟨fun _ _ => rfl, fun _ _ => rfl, rfl⟩⟩
  have hb : BD 0 0 0 0 0 1 0 0 cx0 := ⟨by decide, by decide, by decide, by decide, by decide, by decide, by decide⟩
  have g := gate_body (w := 0) (vc := 0) nd1 (Or.inl ⟨Or.inr (Or.inr rfl), rfl⟩) (by omega) (by omega)
  have hsl := slot (l := 0) (cc := 0) he hr hb (by decide) (by decide) hN o1 (by decide) ⟨g.1, fun _ => Or.inl rfl, fun _ => Or.inr nd1.2.2.2.2.2.1⟩ nd1 (by decide) (fun h9 => absurd rfl h9)
  rw [eC, eM]
  rcases hsl with hfl | ⟨S1, q1, a1, sz1, nc1, fc1, nn1, nb1, P1, R1, c, e1, e2, e3, e4, e5, e6, e7, e8, e9, e10, e11, -⟩
  · exact Or.inl (Fl_bV hfl _)
  rw [if_pos rfl] at e7 e11
  obtain ⟨e5a, e5b, e5c, e5d, e5e, e5f⟩ := e5
  have ha1 : a1 ≤ N := e2.1.2.1.2
  obtain ⟨o2, o3, o4⟩ := e7.2.2.1 0 (Nat.le_refl _)
  have e3' := e3.2.2.2.1
  rw [q1, bV_v, e1]
  rcases prog_l he hN (N - a1) a1 a1 sz1 nc1 fc1 nn1 nb1 P1 S1 R1 c 1 0 (nI c) (Nat.le_refl _) e2 e3 ⟨o2.trans o1.1, o3.trans o1.2.1, o4.trans o1.2.2⟩ (by omega) e5f e11 (by omega) (by omega) (by omega) e9 with hfl | ⟨Sz, Rz, y1, y2, a2, sz2, nc2, fc2, nn2, nb2, P2, l3, cc2, u2, u3, u4, u6, u7, u8, u9, u11, u12⟩
  · exact Or.inl hfl
  obtain ⟨u6a, u6b, u6c, u6d, u6e, u6f, u6g, u6h, u6i⟩ := u6
  obtain ⟨w1, w2, w3, w4, w5, w6⟩ := u2
  obtain ⟨x1, x2, x3, x4, x5, x6, x7⟩ := u3
  have ha2 : a2 ≤ N := w1.2.1.2
  refine Or.inr ⟨Sz, Rz, y1, y2, N, tx, a2, sz2, nc2, fc2, nn2, nb2, P2, l3, c, w1, w2, w4, w5, w6, by omega, by omega, by omega, ⟨u11.1, (u8.2.2.1 0 (Nat.le_refl _)).1.trans (o2.trans o1.1), by rw [u11.2.2.2.2.2.1]; exact nI_ne0 (by omega) (by omega)⟩, u11.2.2.2.1, u11.2.2.2.2.1, by omega, u6f, ?_⟩
  intro S3 R3 k1 k2 k3
  have hox : ∀ f ∈ cx0, f.1 < 0 ∨ fc1 ≤ f.1 := fun f hf => by
    rcases opC_mem c1.2.2.2.2.2.2.2.2.2.2.1 f hf with h9 | h9
    · exact Or.inl h9
    · have := e3.2.2.1
      exact Or.inr (by omega)
  have hcS : cK 0 sz1 0 fc1 nc1 S1 S3 := cK_trans (cK_of_fC u7 (Nat.le_refl _) (Nat.le_refl _) (Nat.le_refl _) hox) (cK_le k1 (by omega) (by omega) (Nat.le_refl _) (by omega) (by omega))
  have hmR : kM c nn1 R1 R3 := kM_trans (kM_of_fM u8 (Nat.le_refl _) (Or.inl (by omega)) (Or.inl (Nat.le_refl _))) ⟨fun i h1 h2 => (k2 i (by omega)).1, fun i h1 h2 => (k2 i (by omega)).2⟩
  obtain ⟨f1, hf1⟩ := e10 S3 R3 hcS hmR (KJ_sub k3 u9.1) (by omega)
  obtain ⟨f2, hf2⟩ := u12 S3 R3 (cK_le k1 (by omega) (Nat.le_refl _) (by omega) (Nat.le_refl _) (Nat.le_refl _)) ⟨fun i h1 h2 => k2 i h2, (k2 c (by omega)).2⟩ k3
  exact ⟨f1 + f2 + 1, fun tl => TT_of_TB (by omega) (fun tl => TT_le (by omega) (hf1 tl)) (TB_le (by omega) (hf2 tl))⟩
end LOADP
