/-! load, whole -/
section LOADED
variable {S R : amS}
def wtS (R : amS) (w : Nat) (k n : Int32) : amS := sI (sI (sI (sI (sI R 60 w k) 61 w n) 62 w (R.1 34 52)) 63 w 0) 34 49 (nI (w + 1))
theorem wait_m {w : Nat} (h : R.1 34 49 = nI w) (hw : w < 8000) (k n : Int32) : g_165 k n R = some (.inl none, wtS R w k n) := by
  simp only [g_165, az_st]
  have c : ∀ (X : Option (amO × amS)), az_ck (nI w) 8000 X = X := fun X => az_ck_in hw (by decide) X
  have q := nI_clamp (n := w) (by omega)
  have f1 : (sI R 60 w k).1 34 49 = nI w := h
  have f2 : (sI (sI R 60 w k) 61 w n).1 34 49 = nI w := h
  have f3 : (sI (sI (sI R 60 w k) 61 w n) 62 w (R.1 34 52)).1 34 49 = nI w := h
  have f4 : (sI (sI (sI (sI R 60 w k) 61 w n) 62 w (R.1 34 52)) 63 w 0).1 34 49 = nI w := h
  have f5 : (sI (sI R 60 w k) 61 w n).1 34 52 = R.1 34 52 := rfl
  rw [h, c, q, f1, c, q, f2, c, q, f5, f3, c, q, f4, nI_1]
  rfl
/-- nothing is running and nothing was put out -/
def zeC (S : amS) : Prop := S.1 21 1 = 0 ∧ S.1 24 8 = 0 ∧ S.1 24 9 = 0 ∧ S.1 24 10 = 0 ∧ S.1 24 11 = 0 ∧ S.1 24 12 = 0 ∧ S.1 24 14 = -1 ∧ S.1 25 3 = 0 ∧ S.1 25 4 = 0 ∧ S.1 29 1 = 0
def zeM (R : amS) : Prop := R.1 34 2 = 0 ∧ R.1 34 30 = 0 ∧ R.1 34 31 = 0 ∧ R.1 34 32 = 0 ∧ R.1 34 55 = 0
/-- a program is read, compiled, marked: Sp, Rp hold it -/
def PGM (Sp Rp : amS) (c q : Nat) : Prop := ∃ f, TT Sp Rp true f 1 (nI c) (Rp.1 40 0) 0 0 q 0 1000 [] false ∧ cd Sp q 7 0 (-1) ∧ q ≤ 500 ∧ c < 256 ∧ Rp.1 39 0 = nI c
/-- the reference before its first step: now, and what waits -/
def begM (R Rp : amS) (c : Nat) : Prop := R.1 34 36 = 0 ∧ R.1 34 39 = 0 ∧ R.1 34 44 = 0 ∧ R.1 34 51 = 0 ∧ R.1 34 52 = -1 ∧ R.1 34 53 = nI c ∧ (∀ j, j < 120000 → R.1 58 j = lkN j) ∧
  ((Rp.1 41 c = -1 ∧ R.1 34 49 = 0) ∨ (∃ x, x < 256 ∧ Rp.1 41 c = nI x ∧ R.1 34 49 = 1 ∧ R.1 60 0 = 0 ∧ R.1 61 0 = nI x ∧ R.1 62 0 = -1 ∧ R.1 63 0 = 0))
def s30 (S : amS) : amS := sI (sI (sI (sI (sI (sI (sI (sI (sI (sI S 25 3 0) 25 4 0) 29 1 0) 24 8 0) 24 9 0) 24 10 0) 24 11 0) 24 12 0) 24 13 0) 24 14 (-1)
def r7 (R : amS) : amS := sI (sI (sI (sI (sI (sI (sI R 34 3 (R.1 34 2)) 34 2 0) 34 29 0) 34 30 0) 34 31 0) 34 32 0) 34 55 0
theorem s30_z : (s30 S).1 24 8 = 0 ∧ (s30 S).1 24 9 = 0 ∧ (s30 S).1 24 10 = 0 ∧ (s30 S).1 24 11 = 0 ∧ (s30 S).1 24 12 = 0 ∧ (s30 S).1 24 14 = -1 ∧ (s30 S).1 25 3 = 0 ∧ (s30 S).1 25 4 = 0 ∧ (s30 S).1 29 1 = 0 ∧ (s30 S).1 24 13 = 0 := by
  unfold s30
  simp [sI_get]
theorem load_pg {f : Nat} (hT : tpR S R f) :
    (∃ S' R', G_117 25 S = some (.inr 0, S') ∧ G_154 R = some (.inl none, R') ∧ R'.1 34 0 = 1 ∧ S'.1 24 13 = 0 ∧ R'.1 34 29 = 0 ∧ S'.1 23 5 = R'.1 34 6 ∧ zeC S' ∧ zeM R') ∨
    (∃ S' R' Sp Rp c q, G_117 25 S = some (.inl none, S') ∧ G_154 R = some (.inl none, R') ∧ R'.1 34 0 = 0 ∧ S'.1 24 13 = 2 ∧ R'.1 34 29 = 2 ∧ S'.1 24 14 = R'.1 34 6 ∧ zeC S' ∧ zeM R' ∧ PGM Sp Rp c q ∧ (∀ a, a ≤ 20 → S'.1 a = Sp.1 a) ∧ (∀ a, 36 ≤ a → a ≤ 46 → R'.1 a = Rp.1 a) ∧ begM R' Rp c) := by
  obtain ⟨h1, h2, h3, h4⟩ := hT
  have htx : ∀ i, i < f → (s30 S).1 22 i = nI ((S.1 22 i).toNatClampNeg) ∧ (r7 R).1 35 i = nI ((S.1 22 i).toNatClampNeg) ∧ (S.1 22 i).toNatClampNeg < 256 := by
    intro i hi
    obtain ⟨q1, k, q2, q3⟩ := h4 i hi
    have e : (S.1 22 i).toNatClampNeg = k := by rw [q3, nI_clamp (by omega)]
    rw [e]
    exact ⟨q3, q1.symm.trans q3, q2⟩
  have e30 : g_30 S = some (.inl none, s30 S) := by
    simp only [g_30, g_20, g_66, az_st, bV_v]
    rfl
  have eC : G_117 25 S = az_bV (G_71 25 (s30 S)) fun S2 => az_bV (g_31 S2) fun S3 => some (.inl none, S3) := by
    unfold G_117
    rw [e30, bV_v]
  have eM : G_154 R = az_bV (G_152 (r7 R)) fun S8 => az_bI (g_128 (S8.1 34 5) 0 S8) fun x9 S10 => if x9 = 0 then az_bV (G_153 S10) fun S11 => az_st (sI S11 34 29 2) fun S12 => az_st (sI S12 34 36 0) fun S13 => az_st (sI S13 34 39 0) fun S14 => az_st (sI S14 34 49 0) fun S15 => az_st (sI S15 34 51 0) fun S16 => az_st (sI S16 34 52 ((-1))) fun S17 => G_154_91 0 S17 else some (.inl none, S10) := rfl
  have z30 := s30_z (S := S)
  have hlim : (r7 R).1 34 3 = nI f := by
    unfold r7
    simp [sI_get, h2]
  have zr : ∀ R', pfM (ldR (r7 R)) R' → zeM R' ∧ R'.1 34 29 = 0 := by
    intro R' hp
    have e : ∀ k, ¬ pfk k → R'.1 34 k = (r7 R).1 34 k := fun k hk => by
      rw [hp.2.1 k hk]
      unfold pfk at hk
      unfold ldR ndS
      rw [sI_na _ (by decide), sI_na _ (by decide), sI_nk _ (by omega), sI_na _ (by decide), sI_na _ (by decide), sI_na _ (by decide), sI_na _ (by decide), sI_na _ (by decide), sI_na _ (by decide), sI_na _ (by decide), sI_na _ (by decide), sI_na _ (by decide), sI_nk _ (by omega), sI_nk _ (by omega), sI_nk _ (by omega), sI_nk _ (by omega), sI_nk _ (by omega), sI_nk _ (by omega), sI_nk _ (by omega)]
    refine ⟨⟨?_, ?_, ?_, ?_, ?_⟩, ?_⟩ <;> (rw [e _ (by unfold pfk; omega)]; unfold r7; simp [sI_get])
  have zc : ∀ S', pfC (ldS (s30 S)) S' → zeC S' ∧ S'.1 24 13 = 0 := by
    intro S' hp
    have e24 : S'.1 24 = (s30 S).1 24 := hp.1 24 (by decide)
    have e25 : S'.1 25 = (s30 S).1 25 := hp.1 25 (by decide)
    have e29 : S'.1 29 = (s30 S).1 29 := hp.1 29 (by decide)
    have e21 : S'.1 21 1 = 0 := by
      rw [hp.2.1]
      unfold ldS
      simp [sI_get]
    rw [zeC, e24, e25, e29, e21]
    obtain ⟨y1, y2, y3, y4, y5, y6, y7, y8, y9, y10⟩ := z30
    exact ⟨⟨rfl, y1, y2, y3, y4, y5, y6, y7, y8, y9⟩, y10⟩
  rcases prog_all h3 (show (s30 S).1 21 1 = nI f from h1) hlim htx with ⟨S', R', p, q1, q2, q3, q4, q5⟩ | ⟨S1, R1, q1, q2, N, tx, a, sz, nc, fc, nn, nb, P, l, c, w1, w2, w3, w4, w5, w6, w7, w8, ⟨w9, w9b, w9c⟩, w10, w11, w12, w13, w14⟩
  · left
    obtain ⟨c1, c2⟩ := zc S' q4
    obtain ⟨r1, r2⟩ := zr R' q5.2.2
    refine ⟨S', sI R' 34 0 1, by rw [eC, q1, bV_x], ?_, sI_eq _ _ _ _, c2, (sI_nk _ (by decide)).trans r2, ?_, c1, ⟨(sI_nk _ (by decide)).trans r1.1, (sI_nk _ (by decide)).trans r1.2.1, (sI_nk _ (by decide)).trans r1.2.2.1, (sI_nk _ (by decide)).trans r1.2.2.2.1, (sI_nk _ (by decide)).trans r1.2.2.2.2⟩⟩
    · rw [eM, q2, bV_v, q5.1, th_m, if_neg (by decide), bI_i, if_neg (by decide)]
    · rw [q3, sI_nk _ (by decide), q5.2.1]
  · right
    have hf1 := zc S1 w4
    -- the class: END, marks
    have e77 : g_2 7 0 (-1) S1 = some (.inl (some (.int (nI sz))), addS S1 sz 7 0 (-1)) := add_c w1 (by omega) 7 0 (-1)
    have c2 := CR_add w1 7 0 (-1)
    obtain ⟨S3, y1, y2, y3, y4⟩ := mark_c (S := addS S1 sz 7 0 (-1)) (z := sz + 1) c2.2.2.1 (by omega)
    -- the program before marks
    obtain ⟨f0, hf0⟩ := w14 (addS S1 sz 7 0 (-1)) (sI R1 34 0 0) (cK_of_fC (fC_add 7 0 (-1) nc 0 fc []) (Nat.le_refl _) (Nat.le_refl _) (Nat.le_refl _) (fun f hf => by cases hf)) (fun m _ => ⟨ndA_refl R1 m, rfl⟩) w3.1
    obtain ⟨g1, g2, ⟨par, p1, p2⟩, g4, v1, v2, v3, v4⟩ := w2.2.2.2.1.2
    have hco : ∀ m, m < nn → lkK (R1.1 36 m) → coK (R1.1 36 m) (R1.1 42 m) := by
      intro m hm hk
      rcases v4 m hm hk with h9 | ⟨d, d1, d2⟩
      · exact h9
      · have : d = 0 := by omega
        subst this
        rw [w9b] at d2
        have : 0 = m := (nI_eq (by omega) (by omega)).mp d2
        subst this
        rw [w9] at hk
        exact absurd hk (by decide)
    -- the reference: marks
    obtain ⟨R3, x1, x2, x3, x4⟩ := ends_m (R := sI R1 34 0 0) (nn := nn) (by omega) w2.2.2.2.1.1.1 w2.2.2.2.1.2 hco
    have ldp : LDP (addS S1 sz 7 0 (-1)) (sz + 1) sz false := ldp_o (by omega) (by omega) (cd_add (S := S1) 7 0 (-1)).1 (by decide) (by decide) (by decide)
    have hRo : ∀ a, a ≠ 45 → a ≠ 34 → R3.1 a = R1.1 a := fun a h9 h8 => by rw [x2 a h9, sI_row, if_neg h8]
    have hc0 : R1.1 42 0 ≠ 0 := w9c
    have nc0 := g1 0 c (by omega) (by omega) hc0 (Or.inl w10)
    have pc0 := p1 0 c (by omega) (by omega) hc0 (Or.inl w10)
    have hE : ∀ x, x < nn → par x = 0 → R3.1 45 x = if nI x = nI l then b2i false else 0 := by
      intro x hx hp
      have hz : R3.1 45 x = 0 := by
        rcases x4.1 x hx with h9 | h9
        · exact h9
        · exfalso
          obtain ⟨m, hm, hs⟩ := (x4.2 x hx).mp (by rw [h9]; decide)
          have hs : stM R1 (R3.1 45) m x := hs
          have hpm : par x = m := by
            rcases hs with ⟨k1, k2⟩ | ⟨k1, k2, k3⟩
            · have hlk : lkK (R1.1 36 m) := by
                rcases k1 with h | ⟨-, h | h | h⟩
                · exact Or.inl h
                · exact Or.inr (Or.inr (Or.inl h))
                · exact Or.inr (Or.inr (Or.inr (Or.inl h)))
                · exact Or.inr (Or.inr (Or.inr (Or.inr h)))
              exact p1 m x hm (by omega) (hco m hm hlk).1 (Or.inr k2)
            · have hc := (hco m hm (Or.inr (Or.inl k2))).1
              rcases k3 with k3 | ⟨x0, y0, y1, y2⟩
              · exact p1 m x hm (by omega) hc (Or.inr k3)
              · have q1 := g1 m x0 hm y0 hc (Or.inl y1)
                rw [p2 x0 x q1.2 (by omega) y2]
                exact p1 m x0 hm y0 hc (Or.inl y1)
          have : m = 0 := by omega
          subst this
          rcases hs with ⟨k1, -⟩ | ⟨-, k2, -⟩
          · rw [w9] at k1
            rcases k1 with h | ⟨-, h | h | h⟩ <;> exact absurd h (by decide)
          · rw [w9] at k2
            exact absurd k2 (by decide)
      rw [hz]
      split <;> rfl
    have TTm := (mark_tt (S := addS S1 sz 7 0 (-1)) (S2 := S3) (R := sI R1 34 0 0) (R2 := R3) (nn := nn) (z := sz + 1) (par := par) (by omega) (by omega) (fun k hk => by rw [y2, if_pos hk]) y3 x2 x4 g1 g2 p1 p2 hco f0).2 (nI c) (nI l) 0 0 sz 0 1000 [] false c 0 (hf0 false) rfl (by omega) pc0 hE ldp
    -- the class's state
    have eCl : G_117 25 S = some (.inl none, sI S3 24 13 2) := by
      rw [eC, q1]
      unfold G_71_77
      rw [e77, bI_i, y1, bV_v, bV_v]
      rfl
    -- the reference's state
    have n41 : R3.1 41 c = -1 ∨ ∃ x, x < 256 ∧ R3.1 41 c = nI x := by
      cases f0 with
      | zero => exact absurd TTm (fun h => h)
      | succ f0 =>
        obtain ⟨m, q1, a1, a2, hk⟩ := TTm
        have : m = c := ((nI_eq (by omega) (by omega)).mp a1).symm
        subst this
        rcases hk with ⟨k1, -⟩ | ⟨m', k1, k2, -⟩
        · exact Or.inl k1
        · exact Or.inr ⟨m', k1, k2⟩
    generalize hR17 : sI (sI (sI (sI (sI (sI R3 34 29 2) 34 36 0) 34 39 0) 34 49 0) 34 51 0) 34 52 (-1) = R17
    obtain ⟨R5, l1, l2, l3, l4⟩ := links_m (R := R17) 120000 0 R17 (by decide) (fun j hj => absurd hj (by omega)) (fun _ _ => rfl) rfl
    have e17 : ∀ a, a ≠ 34 → R17.1 a = R3.1 a := fun a ha => by
      rw [← hR17, sI_row, if_neg ha, sI_row, if_neg ha, sI_row, if_neg ha, sI_row, if_neg ha, sI_row, if_neg ha, sI_row, if_neg ha]
    have e5 : ∀ a, a ≠ 34 → a ≠ 58 → R5.1 a = R3.1 a := fun a ha hb => (l3 a hb).trans (e17 a ha)
    have e534 : R5.1 34 = R17.1 34 := l3 34 (by decide)
    have eMl : G_154 R = az_bV (g_166 (nI c) (sI (sI R5 34 44 0) 34 53 (-1))) fun S3 => some (.inl none, S3) := by
      rw [eM, q2, bV_v, w2.2.2.1, th_m, if_pos rfl, if_pos rfl, bI_i, if_pos rfl, x1, bV_v]
      simp only [az_st]
      rw [hR17]
      simp only [az_st] at l1
      have l1' : G_154_91 0 R17 = _ := l1
      rw [l1']
      have e39 : (sI (sI R5 34 44 0) 34 53 (-1)).1 39 (0 : Int32).toNatClampNeg = nI c := by
        show R5.1 39 0 = nI c
        rw [e5 39 (by decide) (by decide), hRo 39 (by decide) (by decide)]
        exact w10
      rw [e39]
      rfl
    have k0 : ∀ k, ¬ (k = 0 ∨ k = 29 ∨ k = 36 ∨ k = 39 ∨ k = 49 ∨ k = 51 ∨ k = 52) → R5.1 34 k = R1.1 34 k := fun k hk => by
      rw [e534, ← hR17, sI_nk _ (by omega), sI_nk _ (by omega), sI_nk _ (by omega), sI_nk _ (by omega), sI_nk _ (by omega), sI_nk _ (by omega), x2 34 (by decide), sI_nk _ (by omega)]
    obtain ⟨⟨b1, b2, b3, b4, b5⟩, b6⟩ := zr R1 w5
    have v34 : ∀ k x, (k = 29 ∧ x = 2) ∨ (k = 36 ∧ x = 0) ∨ (k = 39 ∧ x = 0) ∨ (k = 49 ∧ x = 0) ∨ (k = 51 ∧ x = 0) ∨ (k = 52 ∧ x = -1) ∨ (k = 0 ∧ x = 0) → R5.1 34 k = x := by
      intro k x hk
      rw [e534, ← hR17]
      rcases hk with ⟨rfl, rfl⟩ | ⟨rfl, rfl⟩ | ⟨rfl, rfl⟩ | ⟨rfl, rfl⟩ | ⟨rfl, rfl⟩ | ⟨rfl, rfl⟩ | ⟨rfl, rfl⟩
      all_goals first
        | (simp [sI_get]; done)
        | (rw [sI_nk _ (by decide), sI_nk _ (by decide), sI_nk _ (by decide), sI_nk _ (by decide), sI_nk _ (by decide), sI_nk _ (by decide), x2 34 (by decide), sI_eq])
    have m41 : (sI (sI R5 34 44 0) 34 53 (-1)).1 41 c = R3.1 41 c := by
      show R5.1 41 c = _
      rw [e5 41 (by decide) (by decide)]
    have hpgm : PGM S3 R3 c sz := by
      refine ⟨f0, ?_, ?_, w6, by omega, ?_⟩
      · rw [hRo 40 (by decide) (by decide), w11]
        exact TTm
      · have d0 : cd (addS S1 sz 7 0 (-1)) sz 7 0 (-1) := cd_add 7 0 (-1)
        refine ⟨?_, by rw [y3 3 (by decide)]; exact d0.2.1, by rw [y3 4 (by decide)]; exact d0.2.2⟩
        rw [y2, if_pos (by omega)]
        unfold mkO
        rw [if_neg (fun h9 => by rw [d0.1] at h9; exact absurd h9.1 (by decide))]
        exact d0.1
      · rw [hRo 39 (by decide) (by decide)]; exact w10
    have hzc : zeC (sI S3 24 13 2) := by
      obtain ⟨t1, t2, t3, t4, t5, t6, t7, t8, t9, t10⟩ := hf1.1
      have e24 : S3.1 24 = S1.1 24 := (y3 24 (by decide)).trans rfl
      refine ⟨?_, ?_, ?_, ?_, ?_, ?_, ?_, ?_, ?_, ?_⟩
      · rw [sI_na _ (by decide), y3 21 (by decide)]; exact t1
      · rw [sI_nk _ (by decide), e24]; exact t2
      · rw [sI_nk _ (by decide), e24]; exact t3
      · rw [sI_nk _ (by decide), e24]; exact t4
      · rw [sI_nk _ (by decide), e24]; exact t5
      · rw [sI_nk _ (by decide), e24]; exact t6
      · rw [sI_nk _ (by decide), e24]; exact t7
      · rw [sI_na _ (by decide), y3 25 (by decide)]; exact t8
      · rw [sI_na _ (by decide), y3 25 (by decide)]; exact t9
      · rw [sI_na _ (by decide), y3 29 (by decide)]; exact t10
    have hs20 : ∀ a, a ≤ 20 → (sI S3 24 13 2).1 a = S3.1 a := fun a ha => by rw [sI_row, if_neg (by omega)]
    have h6 : R1.1 34 6 = -1 := w2.2.2.2.1.1.2
    rcases n41 with hn | ⟨x, hx, hn⟩
    · have e166 : g_166 (nI c) (sI (sI R5 34 44 0) 34 53 (-1)) = some (.inl none, sI (sI (sI R5 34 44 0) 34 53 (-1)) 34 53 (nI c)) := by
        unfold g_166 g_166_20
        rw [az_ck_in (show c < 256 by omega) (by decide), nI_clamp (by omega), m41, hn, if_pos (by decide)]
        rfl
      refine ⟨sI S3 24 13 2, sI (sI (sI R5 34 44 0) 34 53 (-1)) 34 53 (nI c), S3, R3, c, sz, eCl, by rw [eMl, e166, bV_v], ?_, sI_eq _ _ _ _, ?_, ?_, hzc, ⟨?_, ?_, ?_, ?_, ?_⟩, hpgm, hs20, fun a h1 h2 => ?_, ⟨?_, ?_, ?_, ?_, ?_, ?_, fun j hj => ?_, Or.inl ⟨hn, ?_⟩⟩⟩
      · rw [sI_nk _ (by decide), sI_nk _ (by decide), sI_nk _ (by decide)]; exact v34 0 0 (by decide)
      · rw [sI_nk _ (by decide), sI_nk _ (by decide), sI_nk _ (by decide)]; exact v34 29 2 (by decide)
      · rw [sI_nk _ (by decide), sI_nk _ (by decide), sI_nk _ (by decide), sI_nk _ (by decide), k0 6 (by decide), h6]; exact (y3 24 (by decide) ▸ hf1.1.2.2.2.2.2.2.1)
      · rw [sI_nk _ (by decide), sI_nk _ (by decide), sI_nk _ (by decide), k0 2 (by decide)]; exact b1
      · rw [sI_nk _ (by decide), sI_nk _ (by decide), sI_nk _ (by decide), k0 30 (by decide)]; exact b2
      · rw [sI_nk _ (by decide), sI_nk _ (by decide), sI_nk _ (by decide), k0 31 (by decide)]; exact b3
      · rw [sI_nk _ (by decide), sI_nk _ (by decide), sI_nk _ (by decide), k0 32 (by decide)]; exact b4
      · rw [sI_nk _ (by decide), sI_nk _ (by decide), sI_nk _ (by decide), k0 55 (by decide)]; exact b5
      · rw [sI_row, if_neg (by omega), sI_row, if_neg (by omega), sI_row, if_neg (by omega), e5 a (by omega) (by omega)]
      · rw [sI_nk _ (by decide), sI_nk _ (by decide), sI_nk _ (by decide)]; exact v34 36 0 (by decide)
      · rw [sI_nk _ (by decide), sI_nk _ (by decide), sI_nk _ (by decide)]; exact v34 39 0 (by decide)
      · rw [sI_nk _ (by decide), sI_nk _ (by decide), sI_eq]
      · rw [sI_nk _ (by decide), sI_nk _ (by decide), sI_nk _ (by decide)]; exact v34 51 0 (by decide)
      · rw [sI_nk _ (by decide), sI_nk _ (by decide), sI_nk _ (by decide)]; exact v34 52 (-1) (by decide)
      · exact sI_eq _ _ _ _
      · rw [sI_na _ (by decide), sI_na _ (by decide), sI_na _ (by decide)]; exact l2 j hj
      · rw [sI_nk _ (by decide), sI_nk _ (by decide), sI_nk _ (by decide)]; exact v34 49 0 (by decide)
    · have w0 : (sI (sI R5 34 44 0) 34 53 (-1)).1 34 49 = nI 0 := by
        rw [sI_nk _ (by decide), sI_nk _ (by decide)]; exact v34 49 0 (by decide)
      have w52 : (sI (sI R5 34 44 0) 34 53 (-1)).1 34 52 = -1 := by
        rw [sI_nk _ (by decide), sI_nk _ (by decide)]; exact v34 52 (-1) (by decide)
      have e166 : g_166 (nI c) (sI (sI R5 34 44 0) 34 53 (-1)) = some (.inl none, sI (wtS (sI (sI R5 34 44 0) 34 53 (-1)) 0 0 (nI x)) 34 53 (nI c)) := by
        unfold g_166 g_166_20
        rw [az_ck_in (show c < 256 by omega) (by decide), nI_clamp (by omega), m41, hn, if_neg (nI_pos (by omega)), az_ck_in (show c < 256 by omega) (by decide), wait_m w0 (by decide), bV_v]
        rfl
      generalize hR6 : sI (sI R5 34 44 0) 34 53 (-1) = R6 at w0 w52 e166 m41
      have o34 : ∀ k, k ≠ 49 → k ≠ 53 → (sI (wtS R6 0 0 (nI x)) 34 53 (nI c)).1 34 k = R6.1 34 k := fun k a1 a2 => by
        unfold wtS
        rw [sI_nk _ a2, sI_nk _ a1, sI_na _ (by decide), sI_na _ (by decide), sI_na _ (by decide), sI_na _ (by decide)]
      have o6 : ∀ k, k ≠ 44 → k ≠ 53 → R6.1 34 k = R5.1 34 k := fun k a1 a2 => by
        rw [← hR6, sI_nk _ a2, sI_nk _ a1]
      refine ⟨sI S3 24 13 2, sI (wtS R6 0 0 (nI x)) 34 53 (nI c), S3, R3, c, sz, eCl, by rw [eMl, hR6, e166, bV_v], ?_, sI_eq _ _ _ _, ?_, ?_, hzc, ⟨?_, ?_, ?_, ?_, ?_⟩, hpgm, hs20, fun a h1 h2 => ?_, ⟨?_, ?_, ?_, ?_, ?_, ?_, fun j hj => ?_, Or.inr ⟨x, hx, hn, ?_, ?_, ?_, ?_, ?_⟩⟩⟩
      · rw [o34 0 (by decide) (by decide), o6 0 (by decide) (by decide)]; exact v34 0 0 (by decide)
      · rw [o34 29 (by decide) (by decide), o6 29 (by decide) (by decide)]; exact v34 29 2 (by decide)
      · rw [sI_nk _ (by decide), o34 6 (by decide) (by decide), o6 6 (by decide) (by decide), k0 6 (by decide), h6]; exact (y3 24 (by decide) ▸ hf1.1.2.2.2.2.2.2.1)
      · rw [o34 2 (by decide) (by decide), o6 2 (by decide) (by decide), k0 2 (by decide)]; exact b1
      · rw [o34 30 (by decide) (by decide), o6 30 (by decide) (by decide), k0 30 (by decide)]; exact b2
      · rw [o34 31 (by decide) (by decide), o6 31 (by decide) (by decide), k0 31 (by decide)]; exact b3
      · rw [o34 32 (by decide) (by decide), o6 32 (by decide) (by decide), k0 32 (by decide)]; exact b4
      · rw [o34 55 (by decide) (by decide), o6 55 (by decide) (by decide), k0 55 (by decide)]; exact b5
      · unfold wtS
        rw [sI_row, if_neg (by omega), sI_row, if_neg (by omega), sI_row, if_neg (by omega), sI_row, if_neg (by omega), sI_row, if_neg (by omega), sI_row, if_neg (by omega), ← hR6, sI_row, if_neg (by omega), sI_row, if_neg (by omega), e5 a (by omega) (by omega)]
      · rw [o34 36 (by decide) (by decide), o6 36 (by decide) (by decide)]; exact v34 36 0 (by decide)
      · rw [o34 39 (by decide) (by decide), o6 39 (by decide) (by decide)]; exact v34 39 0 (by decide)
      · rw [o34 44 (by decide) (by decide), ← hR6, sI_nk _ (by decide), sI_eq]
      · rw [o34 51 (by decide) (by decide), o6 51 (by decide) (by decide)]; exact v34 51 0 (by decide)
      · rw [o34 52 (by decide) (by decide)]; exact w52
      · exact sI_eq _ _ _ _
      · unfold wtS
        rw [sI_na _ (by decide), sI_na _ (by decide), sI_na _ (by decide), sI_na _ (by decide), sI_na _ (by decide), sI_na _ (by decide), ← hR6, sI_na _ (by decide), sI_na _ (by decide)]
        exact l2 j hj
      · unfold wtS
        rw [sI_nk _ (by decide), sI_eq]
        rfl
      · unfold wtS
        rw [sI_na _ (by decide), sI_na _ (by decide), sI_na _ (by decide), sI_na _ (by decide), sI_na _ (by decide), sI_eq]
      · unfold wtS
        rw [sI_na _ (by decide), sI_na _ (by decide), sI_na _ (by decide), sI_na _ (by decide), sI_eq]
      · unfold wtS
        rw [sI_na _ (by decide), sI_na _ (by decide), sI_na _ (by decide), sI_eq]
        exact w52
      · unfold wtS
        rw [sI_na _ (by decide), sI_na _ (by decide), sI_eq]
end LOADED
