/-! all calls: the relation between class and reference from call to call -/
section REND
variable {Sp Rp T U S R S' R' : amS} {cw : Nat → Int64} {tw : Nat → Nat → Int64} {pm fm fmu : Nat → Nat} {np nf : Nat} {own : Nat → Nat × Nat} {fks : Nat → List Nat} {md tc : Nat} {A : Nat → Prop} {n bg tot k : Nat}
/-- tape, fuel and the answer's sign may change -/
def mvC (S S' : amS) : Prop := (∀ a, a ≠ 21 → a ≠ 22 → S'.1 a = S.1 a) ∧ S'.2 = S.2
def mvM (R R' : amS) : Prop := (∀ a, a ≠ 34 → a ≠ 35 → R'.1 a = R.1 a) ∧ (∀ j, j ≠ 0 → j ≠ 2 → j ≠ 33 → R'.1 34 j = R.1 34 j) ∧ R'.2 = R.2
theorem mvC_se (h : seC S S') : mvC S S' := ⟨fun a h1 h2 => funext (fun j => h.1 a j h2 (fun h9 => h1 h9.1)), h.2⟩
theorem mvM_se (h : seM R R') : mvM R R' := ⟨fun a h1 h2 => funext (fun j => h.1 a j h2 (fun h9 => h1 h9.1)), fun j h1 h2 h3 => h.1 34 j (by decide) (fun h9 => by omega), h.2⟩
theorem mvC_refl : mvC S S := ⟨fun _ _ _ => rfl, rfl⟩
theorem mvM_0 {x : Int32} : mvM R (sI R 34 0 x) := ⟨fun a h1 _ => by rw [sI_row, if_neg h1], fun j h1 _ _ => sI_nk _ h1, rfl⟩
theorem GI_mv (h : GJ Sp Rp T U S R cw tw pm fm fmu np nf own fks md tc A) (hS : mvC S S') (hR : mvM R R') : GJ Sp Rp S' R' S' R' cw tw pm fm fmu np nf own fks md tc A := by
  obtain ⟨h1, h2, h3, h4, h5, h6⟩ := h
  obtain ⟨s1, s2⟩ := hS
  obtain ⟨r1, r2, r3⟩ := hR
  refine ⟨⟨fun a ha => (s1 a (by omega) (by omega)).trans (h1.1 a ha), ⟨rfl, rfl⟩, fun a ha hb => (r1 a (by omega) (by omega)).trans (h1.2.2.1 a ha hb), rfl, rfl, rfl⟩, ?_, ?_, ?_, ?_, ?_⟩
  · rw [s1 25 (by decide) (by decide), r2 36 (by decide) (by decide) (by decide), r2 39 (by decide) (by decide) (by decide)]; exact h2
  · rw [s2, r3]; exact h3
  · unfold FNC
    rw [s2, r1 54 (by decide) (by decide), r1 55 (by decide) (by decide), r1 56 (by decide) (by decide), r1 58 (by decide) (by decide)]; exact h4
  · rw [s2, r3]; exact h5
  · unfold frL
    rw [r1 58 (by decide) (by decide), r2 44 (by decide) (by decide) (by decide)]; exact h6
theorem OU_mv (h : OU S R bg tot) (hS : mvC S S') (hR : mvM R R') : OU S' R' bg tot := by
  obtain ⟨s1, s2⟩ := hS
  obtain ⟨r1, r2, r3⟩ := hR
  unfold OU
  rw [s1 24 (by decide) (by decide), s1 29 (by decide) (by decide), s1 30 (by decide) (by decide), r1 65 (by decide) (by decide), r2 30 (by decide) (by decide) (by decide), r2 6 (by decide) (by decide) (by decide), r2 55 (by decide) (by decide) (by decide)]
  exact h
theorem Ev_mv (h : Ev Sp Rp T U S R n bg tot) (hS : mvC S S') (hR : mvM R R') : Ev Sp Rp S' R' S' R' n bg tot := by
  obtain ⟨cw, tw, pm, fm, fmu, np, nf, own, fks, md, tc, A, g, w, hd, p, q, h, fn, sc, ks, dl, dl', b, j, wt, tl, f, m, ⟨hG, hO, hV, hM, hC, hK, hA, hW⟩, h53, hT, hdl⟩ := h
  have hG' := GI_mv hG hS hR
  have hO' := OU_mv hO hS hR
  obtain ⟨s1, s2⟩ := hS
  obtain ⟨r1, r2, r3⟩ := hR
  have e58 := r1 58 (by decide) (by decide)
  refine ⟨cw, tw, pm, fm, fmu, np, nf, own, fks, md, tc, A, g, w, hd, p, q, h, fn, sc, ks, dl, dl', b, j, wt, tl, f, m, ⟨hG', hO', cV_of hV (s1 24 (by decide) (by decide)), ?_, ?_, KK_k hK (agr_mk (r1 56 (by decide) (by decide)) e58 (fun i _ => ⟨by rw [r1 60 (by decide) (by decide)], by rw [r1 61 (by decide) (by decide)], by rw [r1 62 (by decide) (by decide)], by rw [r1 63 (by decide) (by decide)]⟩) (fun i _ => by rw [r3]) (fun i _ => by rw [s2]) (fun i _ => ⟨by rw [s1 32 (by decide) (by decide)], by rw [s1 33 (by decide) (by decide)]⟩)), hA, WA_k hW e58 (fun i _ => by rw [r1 62 (by decide) (by decide)])⟩, ?_, hT, hdl⟩
  · rw [r2 29 (by decide) (by decide) (by decide), r2 32 (by decide) (by decide) (by decide), r2 49 (by decide) (by decide) (by decide), r2 51 (by decide) (by decide) (by decide), r2 31 (by decide) (by decide) (by decide)]
    exact hM
  · rw [e58, r2 52 (by decide) (by decide) (by decide)]; exact hC
  · rw [r2 53 (by decide) (by decide) (by decide)]; exact h53
theorem fiR_mv (h : fiR S R) (hS : mvC S S') (hR : mvM R R') : fiR S' R' := by
  obtain ⟨s1, s2⟩ := hS
  obtain ⟨r1, r2, r3⟩ := hR
  obtain ⟨pm, fm, np, nf, top, a1, a2, a3, a4, a5, a6⟩ := h
  refine ⟨pm, fm, np, nf, top, by rw [s1 24 (by decide) (by decide)]; exact a1, a2, ?_, a4, a5, by rw [s2, r3]; exact a6⟩
  unfold prR
  rw [s2, r3]
  exact a3
theorem coR_mv (h : coR k S R) (hS : mvC S S') (hR : mvM R R') : coR (k + 1) S' R' := by
  obtain ⟨s1, s2⟩ := hS
  obtain ⟨r1, r2, r3⟩ := hR
  obtain ⟨st, bg, md, wt, tot, h1, h2, h3, h4, h5, h6, h7, h8, h9, h10, h11, h12, h13, h14, h15, h16, h17, h18⟩ := h
  unfold coR
  rw [s1 24 (by decide) (by decide), s1 23 (by decide) (by decide), s1 25 (by decide) (by decide), s1 29 (by decide) (by decide), s1 30 (by decide) (by decide), r1 65 (by decide) (by decide), r2 29 (by decide) (by decide) (by decide), r2 6 (by decide) (by decide) (by decide), r2 30 (by decide) (by decide) (by decide), r2 31 (by decide) (by decide) (by decide), r2 32 (by decide) (by decide) (by decide), r2 55 (by decide) (by decide) (by decide)]
  exact ⟨st, bg, md, wt, tot, h1, h2, h3, h4, h5, h6, h7, by omega, h9, h10, h11, h12, h13, h14, h15, h16, by omega, h18⟩
/-- what holds between class and reference when k calls were made -/
def Rk (k : Nat) (S R : amS) : Prop := (∃ f, tpR S R f) ∧ coR k S R ∧ (R.1 34 29 = 1 → fiR S R) ∧ (R.1 34 29 = 2 → ∃ Sp Rp n bg tot, Ev Sp Rp S R S R n bg tot ∧ bg ≤ 2000 * k ∧ tot ≤ 1000000 * k)
theorem Rk_mv (h : Rk k S R) (hS : mvC S S') (hR : mvM R R') (ht : ∃ f, tpR S' R' f) : Rk (k + 1) S' R' := by
  obtain ⟨-, h2, h3, h4⟩ := h
  have e29 := hR.2.1 29 (by decide) (by decide) (by decide)
  refine ⟨ht, coR_mv h2 hS hR, fun h9 => fiR_mv (h3 (by rw [← e29]; exact h9)) hS hR, fun h9 => ?_⟩
  obtain ⟨Sp, Rp, n, bg, tot, hE, b1, b2⟩ := h4 (by rw [← e29]; exact h9)
  exact ⟨Sp, Rp, n, bg, tot, Ev_mv hE hS hR, by omega, by omega⟩
theorem Rk_0 {x : Int32} (h : Rk k S R) : Rk (k + 1) S (sI R 34 0 x) := by
  obtain ⟨f, h1, h2, h3, h4⟩ := h.1
  exact Rk_mv h mvC_refl mvM_0 ⟨f, h1, by rw [sI_nk _ (by decide)]; exact h2, h3, h4⟩
theorem Rk_up (h : Rk k S R) : Rk (k + 1) S R := Rk_mv h mvC_refl ⟨fun _ _ _ => rfl, fun _ _ _ _ => rfl, rfl⟩ h.1
/-- links hang one on the other -/
theorem lk_chn : ∀ (r i : Nat), i + r = 119999 → ∃ fl, chn lkN (nI i) fl ∧ fl.Nodup ∧ ∀ x ∈ fl, i ≤ x
  | 0, i, h => by
    have : i = 119999 := by omega
    subst this
    exact ⟨[119999], ⟨rfl, by decide, by show lkN 119999 = -1; decide⟩, by simp, fun x hx => by simp at hx; omega⟩
  | r + 1, i, h => by
    obtain ⟨fl, h1, h2, h3⟩ := lk_chn r (i + 1) (by omega)
    refine ⟨i :: fl, ⟨rfl, by omega, ?_⟩, List.nodup_cons.mpr ⟨fun h9 => by have := h3 i h9; omega, h2⟩, fun x hx => ?_⟩
    · rw [show lkN i = nI (i + 1) from if_pos (by omega)]
      exact h1
    · rcases List.mem_cons.mp hx with rfl | hx
      · exact Nat.le_refl _
      · have := h3 x hx
        omega
/-- a program that was read is ready to run -/
theorem Ev_start {c q : Nat} (hP : PGM Sp Rp c q) (hz : zeC S) (hm : zeM R) (h13 : S.1 24 13 = 2) (h29 : R.1 34 29 = 2) (h6 : S.1 24 14 = R.1 34 6) (hS : ∀ a, a ≤ 20 → S.1 a = Sp.1 a) (hR : ∀ a, 36 ≤ a → a ≤ 46 → R.1 a = Rp.1 a) (hb : begM R Rp c) : ∃ n, Ev Sp Rp S R S R n 0 0 := by
  obtain ⟨f, hT, hcd, hq, hc, h39⟩ := hP
  obtain ⟨z1, z2, z3, z4, z5, z6, z7, z8, z9, z10⟩ := hz
  obtain ⟨m1, m2, m3, m4, m5⟩ := hm
  obtain ⟨b1, b2, b3, b4, b5, b6, b7, b8⟩ := hb
  obtain ⟨fl, l1, l2, l3⟩ := lk_chn 119999 0 (by omega)
  have hG : GJ Sp Rp S R S R (fun _ => 0) (fun _ _ => 0) (fun _ => 0) (fun _ => 0) (fun _ => 0) 0 0 (fun _ => (0, 0)) (fun _ => []) 0 0 (fun _ => False) := by
    refine ⟨⟨hS, ⟨rfl, rfl⟩, hR, rfl, rfl, rfl⟩, ⟨z8, by omega, b1, b2, by omega, z9, by omega⟩, fun i hi => absurd hi (by omega), ⟨fun j hj => absurd hj (by omega), fun j hj => absurd hj (by omega)⟩, fun k hk => hk.elim, fl, ?_, l2, fun _ _ h => h⟩
    rw [b3]
    exact chn_keep l1 (fun x hx => b7 x (chn_lt l1 x hx))
  have hO : OU S R 0 0 := ⟨z6, m2, h6, z10, m5, fun j _ hj => absurd hj (by omega)⟩
  have hV : cV S (0 + 0) 0 0 0 := ⟨z2, z3, z4, z5, h13⟩
  have hact : ∀ w pc n dl', n ≤ 6 → w ≤ 6 → pc ≤ 501 → dl' ≤ 20 → actK Sp S R (fun _ => 0) (fun _ _ => 0) (fun _ => 0) (fun _ => 0) 0 n w 0 pc 0 1000 [] [] dl' 0 0 0 := fun w pc n dl' h1 h2 h3 h4 =>
    ⟨trivial, trivial, by simp, fun p hp => (by cases hp), fun h9 => absurd h9 (by decide), by omega, by omega, by omega, h4, by omega, by omega, by omega, h3⟩
  have hK0 : KK Sp Rp S R (fun _ => 0) (fun _ _ => 0) (fun _ => 0) (fun _ => 0) 0 (vR (fun _ => 0) (fun _ => 0) 0 0) 1 0 0 0 q 0 1000 [] [] 0 0 0 0 false := by
    unfold KK
    exact ⟨hact 0 q 0 0 (by omega) (by omega) (by omega) (by omega), Or.inr (Or.inr (Or.inr (Or.inl ⟨rfl, rfl, rfl, hcd⟩)))⟩
  have hC : chn (R.1 58) (R.1 34 52) [] := b5
  cases f with
  | zero => unfold TT at hT; exact hT.elim
  | succ f =>
    unfold TT at hT
    obtain ⟨m, q1, e0, hm, hT⟩ := hT
    have : c = m := (nI_eq (by omega) (by omega)).mp e0
    subst this
    rcases hT with ⟨h41, -, rfl, hT⟩ | ⟨m', hm', h41, hcd8, hT, hT2⟩
    · rcases b8 with ⟨-, b9⟩ | ⟨x, hx, hx2, -⟩
      · exact ⟨0, (fun _ => 0), (fun _ _ => 0), (fun _ => 0), (fun _ => 0), (fun _ => 0), 0, 0, (fun _ => (0, 0)), (fun _ => []), 0, 0, (fun _ => False), 1, 0, 0, 0, q, 0, 1000, [], [], 0, 0, 0, 0, 0, false, f, c, ⟨hG, hO, hV, ⟨h29, m4, b9, b4, m3⟩, hC, hK0, fun x hx => (by cases hx), fun i l hi => absurd hi (by omega)⟩, b6, hT, Nat.le_refl _⟩
      · rw [h41] at hx2
        have := congrArg (fun z : Int32 => z < 0) hx2
        exact absurd (this ▸ (by decide : (-1 : Int32) < 0)) (nI_pos (by omega))
    · rcases b8 with ⟨b8, -⟩ | ⟨x, hx, hx2, b9, b10, b11, b12, b13⟩
      · rw [h41] at b8
        have := congrArg (fun z : Int32 => z < 0) b8
        exact absurd (this.symm ▸ (by decide : (-1 : Int32) < 0)) (nI_pos (by omega))
      · have hxm : x = m' := (nI_eq (by omega) (by omega)).mp (hx2.symm.trans h41)
        subst hxm
        have t3 := (TT_hd f hT).2.2.1
        refine ⟨1, (fun _ => 0), (fun _ _ => 0), (fun _ => 0), (fun _ => 0), (fun _ => 0), 0, 0, (fun _ => (0, 0)), (fun _ => []), 0, 0, (fun _ => False), 2, 1, 0, 0, q1, 0, 1000, [], [], 0, 0, 0, 0, 0, false, f, c, ⟨hG, hO, hV, ⟨h29, m4, b9, b4, m3⟩, hC, ?_, fun x hx => (by cases hx), fun i l hi hc' => ?_⟩, b6, hT, Nat.le_refl _⟩
        · unfold KK
          exact ⟨hact 1 q1 1 0 (by omega) (by omega) t3 (by omega), Or.inr (Or.inr (Or.inr (Or.inr ⟨rfl, 0, rfl, b12, x, hx, b11, Or.inl ⟨b10, f, Rp.1 40 0, q, 0, 0, 0, false, hcd8, hT2, Nat.le_refl _, by omega, by omega, by omega, by omega, hK0⟩⟩)))⟩
        · have : i = 0 := by omega
          subst this
          have hc0 : chn (R.1 58) (R.1 62 0) [] := b12
          rw [chn_det hc' hc0]
          intro z hz
          cases hz
theorem load_ok (h : Rk k S R) : aResV (Rk (k + 1)) (G_117 25 S) (G_154 R) := by
  obtain ⟨⟨f, hT⟩, -⟩ := h
  rcases load_pg hT with ⟨S', R', c1, c2, c3, c4, c5, c6, hz, hm⟩ | ⟨S', R', Sp, Rp, c, q, c1, c2, c3, c4, c5, c6, hz, hm, hP, hS, hR, hb⟩
  · obtain ⟨z1, z2, z3, z4, z5, z6, z7, z8, z9, z10⟩ := hz
    obtain ⟨m1, m2, m3, m4, m5⟩ := hm
    exact ⟨S', R', c2, ⟨⟨0, z1, m1, by omega, fun j hj => absurd hj (by omega)⟩, ⟨0, 0, 0, 0, 0, c4, c5, by omega, fun _ => c6, fun h9 => absurd rfl h9, z6, m2, by omega, z8, m3, by omega, z5, m4, by omega, z10, m5, by omega, fun j _ hj => absurd hj (by omega)⟩, fun h9 => by rw [c5] at h9; exact absurd h9 (by decide), fun h9 => by rw [c5] at h9; exact absurd h9 (by decide)⟩, Or.inr ⟨c1, c3⟩⟩
  · obtain ⟨n, hE⟩ := Ev_start hP hz hm c4 c5 c6 hS hR hb
    obtain ⟨z1, z2, z3, z4, z5, z6, z7, z8, z9, z10⟩ := hz
    obtain ⟨m1, m2, m3, m4, m5⟩ := hm
    exact ⟨S', R', c2, ⟨⟨0, z1, m1, by omega, fun j hj => absurd hj (by omega)⟩, ⟨2, 0, 0, 0, 0, c4, c5, by omega, fun h9 => absurd h9 (by decide), fun _ => c6, z6, m2, by omega, z8, m3, by omega, z5, m4, by omega, z10, m5, by omega, fun j _ hj => absurd hj (by omega)⟩, fun h9 => by rw [c5] at h9; exact absurd h9 (by decide), fun _ => ⟨Sp, Rp, n, 0, 0, hE, by omega, by omega⟩⟩, Or.inl ⟨c1, c3⟩⟩
theorem run_ok (h : Rk k S R) (hk : k < 512) (w : Int32) : aRes (Rk (k + 1)) aF2 (G_119 w S) (G_173 w R) := by
  have h29c : ∃ st, S.1 24 13 = nI st ∧ R.1 34 29 = nI st ∧ st ≤ 5 := by
    obtain ⟨st, bg, md, wt, tot, h1, h2, h3, -⟩ := h.2.1
    exact ⟨st, h1, h2, h3⟩
  obtain ⟨st, hs1, hs2, hs3⟩ := h29c
  unfold G_119 G_173
  rw [in_m, bI_i]
  have bad : (if w < 1 then (0 : Int32) else if 2000 < w then 0 else 1) = 0 → (if (if w < 1 then (0 : Int32) else if 2000 < w then 0 else 1) = 0 then G_173_16 w 1 R else G_173_16 w 0 R) = some (.inl (some (.int 0)), sI R 34 0 1) := fun h9 => by
    rw [h9, if_pos rfl]
    unfold G_173_16 G_173_35 G_173_36
    rw [if_neg (by decide), th_m, if_neg (by decide), bI_i, if_neg (by decide)]
  by_cases hw : w < 1
  · exact ⟨.inr 0, S, 0, sI R 34 0 1, by rw [if_pos hw], bad (by rw [if_pos hw]), Rk_0 h, Or.inr ⟨0, 1, rfl, rfl, sI_eq _ _ _ _⟩⟩
  by_cases hw2 : w ≤ 2000
  · have hnl : ¬ 2000 < w := Int32.not_lt.mpr hw2
    rw [if_neg hw, if_pos hw2, if_neg hw, if_neg hnl, if_neg (show ¬ (1 : Int32) = 0 by decide)]
    unfold G_173_16 G_173_35 G_173_36
    rw [if_pos rfl]
    by_cases hq : R.1 34 29 = 2
    · have hst : st = 2 := (nI_eq (by omega) (by decide)).mp (show nI st = nI 2 from hs2.symm.trans hq)
      subst hst
      have hs1 : S.1 24 13 = 2 := hs1
      rw [if_pos hs1, if_pos hq, th_m, if_pos rfl, if_pos rfl, bI_i, if_pos rfl]
      simp only [az_st]
      have hw0 : ¬ w < 0 := fun h9 => hw (Int32.lt_iff_toInt_lt.mpr (by have := Int32.lt_iff_toInt_lt.mp h9; have e0 : (0 : Int32).toInt = 0 := rfl; have e1 : (1 : Int32).toInt = 1 := rfl; omega))
      obtain ⟨fl, hfl, rfl⟩ := nI_of2 (x := w) (M := 2000) (n := 2000) (by decide) hw0 hw2
      have hmv : mvM R (sI (sI R 34 0 0) 34 33 (nI fl)) := ⟨fun a h1 _ => by rw [sI_row, if_neg h1, sI_row, if_neg h1], fun j h1 _ h3 => by rw [sI_nk _ h3, sI_nk _ h1], rfl⟩
      obtain ⟨Sp, Rp, n, bg, tot, hE, hb1, hb2⟩ := h.2.2.2 hq
      have hE' := Ev_mv hE (mvC_refl (S := S)) hmv
      have hn : n ≤ 10000 := by
        obtain ⟨cw, tw, pm, fm, fmu, np, nf, own, fks, md, tc, A, g, w, hd, p, q, hh, fn, sc, ks, dl, dl', b, j, wt, tl, f, m, hX, -⟩ := hE'
        obtain ⟨a1, a2, a3, a4, a5, a6, a7, a8, a9, a10, a11, a12, a13⟩ := KK_act hX.2.2.2.2.2.1
        omega
      obtain ⟨S', R', st2, bg2, tot2, r1, r2, r3, r4, r5, r6, r7, r8⟩ := (run_all (Sp := Sp) (Rp := Rp) (T := S) (U := sI (sI R 34 0 0) 34 33 (nI fl)) (B1 := 2000 * (k + 1)) (B2 := 1000000 * (k + 1)) (by omega) (n + 8 * fl)).1 S (sI (sI R 34 0 0) 34 33 (nI fl)) n fl 0 bg tot hE' (sI_eq _ _ _ _) hfl (Nat.le_refl _) (by omega) (by omega) (by omega)
      obtain ⟨p1, p2, ⟨p3, p4, p5, p6, p7⟩, ⟨o1, o2, o3, o4, o5, o6⟩, md, wt, p8, p9, p10, p11, p12, p13⟩ := r4
      have r2' : G_32 (nI fl) S = some (.inl (some (.int (nI st2))), S') := r2
      have p6' : R'.1 34 0 = 0 := by rw [p6, sI_nk _ (by decide), sI_eq]
      refine ⟨.inl (some (.int (nI st2))), S', nI st2, R', by rw [r2', bI_i], r3, ⟨?_, ⟨st2, bg2, md, wt, tot2, p1, p2, r1.2, fun h9 => by omega, fun _ => o3, o1, o2, r5, p10, p11, p8, p12, p13, p9, o4, o5, r6, o6⟩, fun h9 => by exact r7 ((nI_eq (by omega) (by decide)).mp (show nI st2 = nI 1 from p2.symm.trans h9)), fun h9 => ?_⟩, Or.inl ⟨rfl, p6'⟩⟩
      · obtain ⟨f, t1, t2, t3, t4⟩ := h.1
        refine ⟨f, by rw [p3]; exact t1, ?_, t3, fun j hj => ?_⟩
        · rw [p7, sI_nk _ (by decide), sI_nk _ (by decide)]; exact t2
        · rw [p4, p5, sI_row, if_neg (by decide), sI_row, if_neg (by decide)]
          exact t4 j hj
      · obtain ⟨n2, hE2⟩ := r8 ((nI_eq (by omega) (by decide)).mp (show nI st2 = nI 2 from p2.symm.trans h9))
        exact ⟨Sp, Rp, n2, bg2, tot2, Ev_mv hE2 mvC_refl ⟨fun _ _ _ => rfl, fun _ _ _ _ => rfl, rfl⟩, r5, r6⟩
    · have hst : st ≠ 2 := fun h9 => hq (by rw [hs2, h9]; rfl)
      rw [if_neg (fun h9 => by exact hst ((nI_eq (by omega) (by decide)).mp (show nI st = nI 2 from hs1.symm.trans h9))), if_neg hq]
      rw [th_m, if_pos rfl, if_neg (by decide), bI_i, if_neg (by decide)]
      exact ⟨.inr 1, S, 0, sI R 34 0 2, rfl, rfl, Rk_0 h, Or.inr ⟨1, 2, rfl, rfl, sI_eq _ _ _ _⟩⟩
  · have hl : 2000 < w := Int32.not_le.mp hw2
    exact ⟨.inr 0, S, 0, sI R 34 0 1, by rw [if_neg hw, if_neg hw2], bad (by rw [if_neg hw, if_pos hl]), Rk_0 h, Or.inr ⟨0, 1, rfl, rfl, sI_eq _ _ _ _⟩⟩
theorem Rk_start : Rk 0 iS iR := by
  refine ⟨⟨0, rfl, rfl, by omega, fun j hj => absurd hj (by omega)⟩, ⟨0, 0, 0, 0, 0, rfl, rfl, by omega, fun _ => rfl, fun h9 => absurd rfl h9, rfl, rfl, by omega, rfl, rfl, by omega, rfl, rfl, by omega, rfl, rfl, by omega, fun j _ hj => absurd hj (by omega)⟩, fun h9 => absurd h9 (by decide), fun h9 => absurd h9 (by decide)⟩
theorem Rk_all : aAll Rk := by
  intro k Rl hk hRl S R h
  subst hRl
  have h0 : ∀ x, Rk (k + 1) S (sI R 34 0 x) := fun x => Rk_0 h
  refine ⟨fun b n => ?_, load_ok h, place_ok h.2.1 (h0 0), fun f => run_ok h hk f, status_ok h.2.1 (h0 0), fun w => look_ok h.2.1 h0 w, fun w => out_ok h.2.1 (by omega) h0 w, fun w => kind_ok h.2.1 h.2.2.1 h0 w, fun w => number_ok h.2.1 h.2.2.1 h0 w⟩
  obtain ⟨f, hf⟩ := h.1
  obtain ⟨oc, S', x, R', f', q1, q2, q3, q4, q5, q6⟩ := feed_ok hf b n
  exact ⟨oc, S', x, R', q1, q2, Rk_mv h (mvC_se q4) (mvM_se q5) ⟨f', q3⟩, q6⟩
theorem am_goal : am_Goal := am_goal_all Rk_start (fun k S R h => Rk_up h) Rk_all
end REND
