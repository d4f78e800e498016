/-! values of variables, functions made, letrec and set, both sides -/
section RVAR
variable {Sp Rp T U S R S' R' : amS} {cw : Nat → Int64} {tw : Nat → Nat → Int64} {pm fm fmu : Nat → Nat} {np nf : Nat} {own : Nat → Nat × Nat} {fks : Nat → List Nat} {md tc : Nat} {A : Nat → Prop} {g n w hd p q h fn : Nat} {sc : List scE} {ks : List Nat} {dl dl' b j wt : Nat} {tl : Bool} {f m bg tot fl c : Nat}
theorem bg_num (hX : CX Sp Rp T U S R cw tw pm fm fmu np nf own fks md tc A g n w hd p (p + 1) h fn sc ks dl b j wt tl bg tot) (h53 : R.1 34 53 = nI m) (hm : m < 256) (hc : c < 1000000) (hp : p ≤ 501) (hf : fl < 2000) (k1 : Rp.1 36 m = 0) (k2 : cd Sp p 2 (Rp.1 38 m) (Rp.1 37 m)) : Bg Sp Rp T U S R fl c (n + 5) n (bg + 1) tot := by
  have hX1 := CX_bg (fl := fl) hX
  have hfx := hX1.1.1.2.2.1
  have e38 : (bgR R fl).1 38 m = Rp.1 38 m := by rw [hfx 38 (by decide) (by decide)]
  refine ⟨_, _, c_num hX.2.2.1 hc hp (by have := (bg_top hX).1; omega) (cd_S hX.1.1 k2) hf, beg_0 (R := bgR R fl) h53 hm (by rw [hfx 36 (by decide) (by decide)]; exact k1), rfl, Or.inr (Or.inl ⟨n, Nat.le_refl _, leaf_j hX1 ?_⟩)⟩
  rw [e38]
  exact Or.inl ⟨_, BitVec.isLt _, rfl, rfl⟩
theorem bg_nil (hX : CX Sp Rp T U S R cw tw pm fm fmu np nf own fks md tc A g n w hd p (p + 1) h fn sc ks dl b j wt tl bg tot) (h53 : R.1 34 53 = nI m) (hm : m < 256) (hc : c < 1000000) (hp : p ≤ 501) (hf : fl < 2000) (k1 : Rp.1 36 m = 1) (k2 : cd Sp p 3 0 (Rp.1 37 m)) : Bg Sp Rp T U S R fl c (n + 5) n (bg + 1) tot := by
  have hX1 := CX_bg (fl := fl) hX
  have hfx := hX1.1.1.2.2.1
  exact ⟨_, _, c_nil hX.2.2.1 hc hp (by have := (bg_top hX).1; omega) (cd_S hX.1.1 k2) hf, beg_1 (R := bgR R fl) h53 hm (by rw [hfx 36 (by decide) (by decide)]; exact k1), rfl, Or.inr (Or.inl ⟨n, Nat.le_refl _, leaf_j hX1 (Or.inr (Or.inl ⟨rfl, rfl⟩))⟩)⟩
theorem bg_var {e : scE} {src : Int32} (hX : CX Sp Rp T U S R cw tw pm fm fmu np nf own fks md tc A g n w hd p (p + 1) h fn sc ks dl b j wt tl bg tot) (h53 : R.1 34 53 = nI m) (hm : m < 256) (hc : c < 1000000) (hp : p ≤ 501) (hf : fl < 2000) (k1 : Rp.1 36 m = 2) (ke : e ∈ sc) (k2 : Rp.1 38 m = nI e.2.2.1) (k3 : cd Sp p 4 src (Rp.1 37 m)) (k4 : Lo Sp fn e src) : Bg Sp Rp T U S R fl c (n + 5) n (bg + 1) tot := by
  have hX1 := CX_bg (fl := fl) hX
  have hfx := hX1.1.1.2.2.1
  have htop := (bg_top hX).1
  obtain ⟨hG, hO, hV, hM, hC, hK, hA, hW⟩ := id hX1
  obtain ⟨a1, a2, a3, a4, a5, a6, a7, a8, a9, a10, a11, a12, a13⟩ := KK_act hK
  obtain ⟨k, z1, z2, z3, z4⟩ := find_m (R := b1R (bgR R fl)) (e := e) hC a1 a2 ke
  have hnf := hG.2.1.2.2.2.2.1
  have hmd := hG.2.1.2.1
  have htc := hG.2.1.2.2.2.2.2.2
  have hfc := find_c (S := nx (bgS S) p) hV.2.1 k4 z1 a4 (by omega) a5 hG.2.2.2.1.1 (by omega)
  obtain ⟨u, u1, u2⟩ := fetch_c (X := nx (bgS S) p) hG (hA k z3) rfl
  refine ⟨_, _, c_fetch hX.2.2.1 hc hp (by omega) (cd_S hX.1.1 k3) hf hfc u1, beg_2 (R := bgR R fl) h53 hm (by rw [hfx 36 (by decide) (by decide)]; exact k1) z2 (by rw [hfx 38 (by decide) (by decide), k2]; exact z4), rfl, Or.inr (Or.inl ⟨n, Nat.le_refl _, leaf_j hX1 u2⟩)⟩
theorem zip_un : ∀ {sc : List scE} {ks : List Nat} {u v : Nat}, sdS u v sc → ∀ x ∈ sc.zip ks, ∀ y ∈ sc.zip ks, x.1.2.1 = y.1.2.1 → x = y
  | [], _, _, _, _, x, hx, _, _, _ => by cases hx
  | _ :: _, [], _, _, _, x, hx, _, _, _ => by cases hx
  | e :: sc, k :: ks, u, v, h, x, hx, y, hy, he => by
    rw [List.zip_cons_cons] at hx hy
    rcases List.mem_cons.mp hx with rfl | hx
    · rcases List.mem_cons.mp hy with rfl | hy
      · rfl
      · have := (sdS_mem h.2.2 y.1 (List.of_mem_zip hy).1).1
        have he : e.2.1 = y.1.2.1 := he
        omega
    · rcases List.mem_cons.mp hy with rfl | hy
      · have := (sdS_mem h.2.2 x.1 (List.of_mem_zip hx).1).1
        have he : x.1.2.1 = e.2.1 := he
        omega
      · exact zip_un h.2.2 x hx y hy he
theorem zip_ex : ∀ {sc : List scE} {ks : List Nat} {e : scE}, sc.length = ks.length → e ∈ sc → ∃ k, (e, k) ∈ sc.zip ks ∧ k ∈ ks
  | [], _, _, _, he => by cases he
  | _ :: _, [], _, hl, _ => by simp at hl
  | e' :: sc, k :: ks, e, hl, he => by
    rw [List.zip_cons_cons]
    rcases List.mem_cons.mp he with rfl | he
    · exact ⟨k, List.mem_cons_self, List.mem_cons_self⟩
    · obtain ⟨k', h1, h2⟩ := zip_ex (sc := sc) (ks := ks) (by simpa using hl) he
      exact ⟨k', List.mem_cons_of_mem _ h1, List.mem_cons_of_mem _ h2⟩
def upT (f : Nat → Nat → Int64) (n : Nat) (v : Nat → Int64) : Nat → Nat → Int64 := fun i => if i = n then v else f i
def upL (f : Nat → List Nat) (n : Nat) (v : List Nat) : Nat → List Nat := fun i => if i = n then v else f i
theorem bg_full {S1 R1 : amS} (hX1 : CX Sp Rp T U S1 R1 cw tw pm fm fmu np nf own fks 2000 tc A g n w hd p q h fn sc ks dl b j wt tl bg tot) : Po T U (stS (nx S1 p) 5 (Rp.1 37 m)) (stR (sI (b1R R1) 34 31 2000) 5 m) 5 bg tot := by
  obtain ⟨hG, hO, hV, hM, hC, hK, hA, hW⟩ := CX_nx hX1
  have hwt := (KK_act hK).2.2.2.2.2.2.1
  have hG' : GJ Sp Rp T U (nx S1 p) (sI (b1R R1) 34 31 2000) cw tw pm fm fmu np nf own fks 2000 tc A := GI_keep hG (cQ_G (cG_F cF_refl)) ⟨fun a h1 h2 => by unfold b1R; rw [sI_row, if_neg (by omega), sI_row, if_neg (by omega)], fun k hk => by unfold b1R; rw [sI_nk _ (by omega), sI_nk _ (by omega)], fun _ _ _ => rfl⟩
  obtain ⟨o1, o2, o3, o4, o5, o6⟩ := hO
  exact Po_st (md := 2000) (wt := wt) (st := 5) hG'.1 ⟨o1, o2, o3, o4, o5, o6⟩ (Nat.le_refl _) hwt hG'.2.1.1 rfl hV.2.2.2.1 hM.2.1 rfl
theorem bg_lam {mu c0 q1 : Nat} {vs : List scE} (hX : CX Sp Rp T U S R cw tw pm fm fmu np nf own fks md tc A g n w hd p (q1 + 1) h fn sc ks dl' b j wt tl bg tot) (h53 : R.1 34 53 = nI m) (hm : m < 256) (hc : c < 1000000) (hp : p ≤ 501) (hf : fl < 2000)
    (k1 : Rp.1 36 m = 3) (k2 : mu < 28 ∧ ∀ e ∈ sc, e.2.2.2 ≠ mu) (k3 : cd Sp p 5 (nI mu) (Rp.1 37 m)) (k4 : Sp.1 13 mu = nI (p + 1)) (k5 : Sp.1 14 mu = nI (q1 + 1)) (k6 : Rp.1 44 m = nI vs.length) (k7 : Sp.1 15 mu = nI vs.length) (k8 : vs.length ≤ 4) (k9 : Sp.1 16 mu = nI c0) (k10 : bnd Sp Rp m c0 0 mu vs) (k11 : tkS Sp mu fn sc) (k12 : TT Sp Rp true f 1 (Rp.1 39 m) (Rp.1 40 m) (dl + 1) (p + 1) q1 vs.length mu (vs ++ sc) true) (k13 : cd Sp q1 16 0 (-1)) : Bg Sp Rp T U S R fl c (n + 5) n (bg + 1) tot := by
  have hX1 := CX_bg (fl := fl) hX
  have hfx := hX1.1.1.2.2.1
  have htop := (bg_top hX).1
  have h36 : (bgR R fl).1 36 m = 3 := by rw [hfx 36 (by decide) (by decide)]; exact k1
  have hmd0 := hX.1.2.1.2.1
  by_cases hq : md = 2000
  · subst hq
    exact ⟨_, _, c_lam_full hX.2.2.1 hc hp (cd_S hX.1.1 k3) hf hX.1.2.1.1, beg_3n (R := bgR R fl) h53 hm h36 hX1.2.2.2.1.2.2.2.2 (by omega) (Nat.le_refl _), rfl, Or.inr (Or.inr ⟨5, Or.inr (Or.inr rfl), bg_full hX1⟩)⟩
  obtain ⟨hG, hO, hV, hM, hC, hK, hA, hW⟩ := id hX1
  obtain ⟨a1, a2, a3, a4, a5, a6, a7, a8, a9, a10, a11, a12, a13⟩ := KK_act hK
  obtain ⟨g1, ⟨n1, n2, n3, n4, n5, n6, n7⟩, g3, g4, g5, g6⟩ := id hG
  obtain ⟨tk, w1, w2, w3⟩ := k11
  have hWex : ∀ i, ∃ x, i < tk → ∃ e k, (e, k) ∈ sc.zip ks ∧ x = cw k ∧ Sp.1 18 (26 * mu + i) = nI e.2.1 ∧ Lo Sp fn e (Sp.1 19 (26 * mu + i)) := fun i => by
    by_cases hi : i < tk
    · obtain ⟨e, e1, e2, e3⟩ := w3 i hi
      obtain ⟨k, y1, y2⟩ := zip_ex (ks := ks) (scl_len a1) e1
      exact ⟨cw k, fun _ => ⟨e, k, y1, rfl, e2, e3⟩⟩
    · exact ⟨0, fun h => absurd h hi⟩
  obtain ⟨W, hWp⟩ := Classical.axiomOfChoice hWex
  have e19 : S.1 19 = Sp.1 19 := hX.1.1.1 19 (by decide)
  obtain ⟨S2, z1, z2, z3, z4, z5, z6, z7⟩ := c_lam (S := S) (W := W) (tk := tk) (tc := tc) (q := q1 + 1) hX.2.2.1 hc hp (by omega) (cd_S hX.1.1 k3) hf n1 (by omega) n6 (by rw [hX.1.1.1 17 (by decide)]; exact w2) k2.1 w1 (by omega) (by rw [hX.1.1.1 14 (by decide)]; exact k5) (by
    intro S1 s1 s2 s3 i hi
    obtain ⟨e, k, y1, y2, y3, y4⟩ := hWp i hi
    rw [e19, y2]
    have e31 : S1.2 31 = S.2 31 := by rw [s2 31 (by decide)]; rfl
    refine find_c (S := S1) (tw := tw) (fm := fm) (fmu := fmu) (nf := nf) (tc := tc) (j := j) (h := h) (fn := fn) (b := b) (by rw [s1 24 (by decide)]; exact hV.2.1) y4 y1 (by rw [e31]; exact a4) (by omega) (by rw [e31]; exact a5) (fun j' hj' => ?_) (by omega)
    obtain ⟨b1, b2, b3, tb, t, b4, b5, b6, b7, b8⟩ := g4.1 j' hj'
    have hlt := (g4.2 j' hj').1
    refine ⟨b1, b2, ?_, tb, t, ?_, b5, b6, b7, fun i hi => ?_⟩
    · rw [s2 26 (by decide)]
      show (sJ (sJ (nx (bgS S) p) 26 md (vE 0 mu)) 27 md (vE 0 tc)).2 26 (fm j') = _
      rw [sJ_na _ (by decide), sJ_nk _ (by omega)]
      exact b3
    · rw [s2 27 (by decide)]
      show (sJ (sJ (nx (bgS S) p) 26 md (vE 0 mu)) 27 md (vE 0 tc)).2 27 (fm j') = _
      rw [sJ_nk _ (by omega), sJ_na _ (by decide)]
      exact b4
    · rw [s3 _ (by omega)]
      exact b8 i hi)
  have hnf : nf < 2000 := by omega
  have hr := beg_3y (R := bgR R fl) h53 hm h36 hM.2.2.2.2 (by omega) n4 hnf
  have efm : ∀ i, i < nf → upn fm nf md i = fm i := fun i hi => if_neg (by omega)
  have up : ∀ {v x}, vR pm fm np nf v x → vR pm (upn fm nf md) np (nf + 1) v x := fun hv => vR_up hv (Nat.le_refl _) (by omega) (fun _ _ => rfl) efm
  have e1 : upn fm nf md nf = md := if_pos rfl
  have e2 : upn fmu nf mu nf = mu := if_pos rfl
  have e3 : upT tw nf W nf = W := if_pos rfl
  have e4 : upL fks nf ks nf = ks := if_pos rfl
  have S26 : ∀ z, (sI (phS S2 (b + h) (vE 3 md)) 24 10 (nI (q1 + 1))).2 26 z = if z = md then vE 0 mu else S.2 26 z := fun z => by
    show (sJ S2 31 (b + h) (vE 3 md)).2 26 z = _
    rw [sJ_na _ (by decide), z5 26 (by decide)]
    show (sJ (sJ (nx (bgS S) p) 26 md (vE 0 mu)) 27 md (vE 0 tc)).2 26 z = _
    rw [sJ_na _ (by decide), sJ_get]
    by_cases hz : z = md
    · rw [if_pos ⟨rfl, hz⟩, if_pos hz]
    · rw [if_neg (fun h => hz h.2), if_neg hz]; rfl
  have S27 : ∀ z, (sI (phS S2 (b + h) (vE 3 md)) 24 10 (nI (q1 + 1))).2 27 z = if z = md then vE 0 tc else S.2 27 z := fun z => by
    show (sJ S2 31 (b + h) (vE 3 md)).2 27 z = _
    rw [sJ_na _ (by decide), z5 27 (by decide)]
    show (sJ (sJ (nx (bgS S) p) 26 md (vE 0 mu)) 27 md (vE 0 tc)).2 27 z = _
    rw [sJ_get]
    by_cases hz : z = md
    · rw [if_pos ⟨rfl, hz⟩, if_pos hz]
    · rw [if_neg (fun h => hz h.2), if_neg hz, sJ_na _ (by decide)]; rfl
  have S28 : ∀ z, (sI (phS S2 (b + h) (vE 3 md)) 24 10 (nI (q1 + 1))).2 28 z = S2.2 28 z := fun z => by
    show (sJ S2 31 (b + h) (vE 3 md)).2 28 z = _
    rw [sJ_na _ (by decide)]
  have S1r : ∀ a, a ≠ 24 → a ≠ 25 → (sI (phS S2 (b + h) (vE 3 md)) 24 10 (nI (q1 + 1))).1 a = S.1 a := fun a h1 h2 => by
    rw [sI_row, if_neg h1]
    unfold phS
    rw [sI_row, if_neg h1]
    show S2.1 a = _
    rw [z2 a h2]
    unfold nx bgS
    rw [sI_row, if_neg h1, sI_row, if_neg h1]
  have R54 : ∀ z, z ≠ nf → (fnR (bgR R fl) nf m md).1 54 z = R.1 54 z := fun z hz => by
    unfold fnR
    rw [sI_na _ (by decide)]
    show (sI (sI (sI (b1R (bgR R fl)) 34 31 (nI (md + 1))) 54 nf (nI m)) 55 nf ((bgR R fl).1 34 52)).1 54 z = _
    rw [sI_na _ (by decide), sI_nk _ hz]
    rfl
  have R55 : ∀ z, z ≠ nf → (fnR (bgR R fl) nf m md).1 55 z = R.1 55 z := fun z hz => by
    unfold fnR
    rw [sI_na _ (by decide)]
    show (sI (sI (sI (b1R (bgR R fl)) 34 31 (nI (md + 1))) 54 nf (nI m)) 55 nf ((bgR R fl).1 34 52)).1 55 z = _
    rw [sI_nk _ hz, sI_na _ (by decide)]
    rfl
  have R54n : (fnR (bgR R fl) nf m md).1 54 nf = nI m := by
    unfold fnR
    rw [sI_na _ (by decide)]
    show (sI (sI (sI (b1R (bgR R fl)) 34 31 (nI (md + 1))) 54 nf (nI m)) 55 nf ((bgR R fl).1 34 52)).1 54 nf = _
    rw [sI_na _ (by decide), sI_eq]
  have R55n : (fnR (bgR R fl) nf m md).1 55 nf = R.1 34 52 := by
    unfold fnR
    rw [sI_na _ (by decide)]
    show (sI (sI (sI (b1R (bgR R fl)) 34 31 (nI (md + 1))) 54 nf (nI m)) 55 nf ((bgR R fl).1 34 52)).1 55 nf = _
    rw [sI_eq]
    rfl
  have R1r : ∀ a, a ≠ 34 → a ≠ 54 → a ≠ 55 → (fnR (bgR R fl) nf m md).1 a = R.1 a := fun a h1 h2 h3 => by
    unfold fnR
    rw [sI_row, if_neg h1]
    show (sI (sI (sI (b1R (bgR R fl)) 34 31 (nI (md + 1))) 54 nf (nI m)) 55 nf ((bgR R fl).1 34 52)).1 a = _
    rw [sI_row, if_neg h3, sI_row, if_neg h2, sI_row, if_neg h1]
    unfold b1R bgR
    rw [sI_row, if_neg h1, sI_row, if_neg h1, sI_row, if_neg h1]
  have R2r : ∀ a, a ≠ 34 → (fnR (bgR R fl) nf m md).2 a = R.2 a := fun a ha => by
    funext z
    unfold fnR
    show (sJ (sI (sI (sI (b1R (bgR R fl)) 34 31 (nI (md + 1))) 54 nf (nI m)) 55 nf _) 34 54 (vE 3 nf)).2 a z = _
    rw [sJ_na _ ha]
    rfl
  have hGn : GJ Sp Rp T U (sI (phS S2 (b + h) (vE 3 md)) 24 10 (nI (q1 + 1))) (fnR (bgR R fl) nf m md) cw (upT tw nf W) pm (upn fm nf md) (upn fmu nf mu) np (nf + 1) (upo own md (3, nf)) (upL fks nf ks) (md + 1) (tc + tk) A := by
    refine GI_up hG ⟨fun a ha => ?_, ⟨?_, ?_⟩, fun a h1 h2 => ?_, ?_, g1.2.2.2.2.1, g1.2.2.2.2.2⟩ ⟨?_, by omega, n3, rfl, by omega, ?_, by omega⟩ (fun z hz => by rw [S26, if_neg (by omega)]; rfl) (fun z hz => by rw [S27, if_neg (by omega)]; rfl) (fun z hz => by rw [S28]; exact z6 z hz) (fun z hz => if_neg (by omega)) ⟨Nat.le_refl _, by omega, by omega, by omega⟩ (fun _ _ => rfl) (fun j' hj' => ⟨if_neg (by omega), if_neg (by omega), if_neg (by omega), if_neg (by omega), R54 j' (by omega), R55 j' (by omega)⟩) (fun i hi => ⟨by rw [R2r 52 (by decide)]; rfl, by rw [R2r 53 (by decide)]; rfl⟩) (fun j' hj' k hk => ⟨⟨rfl, by rw [R1r 56 (by decide) (by decide) (by decide)]; rfl, by rw [R1r 58 (by decide) (by decide) (by decide)]; rfl⟩, (g4.2 j' hj').2.2.2 k hk⟩) (fun i h1 h2 => absurd h2 (by omega)) (fun j' h1 h2 => ?_) (fun k hk => ?_) ?_
    · rw [S1r a (by omega) (by omega)]; exact hX.1.1.1 a ha
    · rw [S1r 21 (by decide) (by decide)]; exact hX.1.1.2.1.1
    · rw [S1r 22 (by decide) (by decide)]; exact hX.1.1.2.1.2
    · rw [R1r a (by omega) (by omega) (by omega)]; exact hX.1.1.2.2.1 a h1 h2
    · rw [R1r 35 (by decide) (by decide) (by decide)]; exact hX.1.1.2.2.2.1
    · show S2.1 25 3 = _
      exact z4
    · show S2.1 25 4 = _
      exact z3
    · have hj : j' = nf := by omega
      subst hj
      rw [e1, e2, e3, e4]
      refine ⟨⟨by omega, k2.1, by rw [S26, if_pos rfl], tc, tk, by rw [S27, if_pos rfl], w2, w1, Nat.le_refl _, fun i hi => by rw [S28]; exact z7 i hi⟩, by omega, if_pos rfl, ⟨m, R54n, f, dl + 1, p + 1, q1, c0, vs, sc, hm, k4, k7, k6, k8, k9, k10, k12, k13, k2.2, ?_, ?_, fun x hx => ⟨fun i t t1 t2 t3 t4 => ?_, (a4 x hx).2.2⟩⟩, hA⟩
      · rw [R1r 56 (by decide) (by decide) (by decide)]; exact a1
      · rw [R1r 58 (by decide) (by decide) (by decide), R55n]; exact hC
      · have ett : t = tk := (nI_eq (by omega) (by omega)).mp (t3.symm.trans w2)
        subst ett
        obtain ⟨e, k, y1, y2, y3, y4⟩ := hWp i t1
        have hee : e.2.1 = x.1.2.1 := by
          have l1 := (sdS_mem a2 e (List.of_mem_zip y1).1).1
          have l2 := (sdS_mem a2 x.1 (List.of_mem_zip hx).1).1
          exact (nI_eq (by omega) (by omega)).mp (y3.symm.trans t4)
        have := zip_un a2 (e, k) y1 x hx hee
        rw [y2, ← this]
    · rw [R2r 57 (by decide)]
      rcases g5 k hk with ⟨x, h1, h2, h3, h4⟩ | h1
      · exact Or.inl ⟨x, by omega, h2, by rw [show upo own md (3, nf) x = own x from if_neg (by omega)]; exact h3, by rw [S26, if_neg (by omega)]; exact up h4⟩
      · exact Or.inr (up h1)
    · obtain ⟨fl', y1, y2, y3⟩ := g6
      refine ⟨fl', ?_, y2, y3⟩
      rw [R1r 58 (by decide) (by decide) (by decide)]
      exact y1
  refine ⟨_, _, z1, hr, rfl, Or.inr (Or.inl ⟨n, Nat.le_refl _, cw, upT tw nf W, pm, upn fm nf md, upn fmu nf mu, np, nf + 1, upo own md (3, nf), upL fks nf ks, md + 1, tc + tk, A, g, w, hd, q1 + 1, h, fn, sc, ks, dl', b, j, wt, tl, hGn, ⟨?_, hO.2.1, ?_, ?_, hO.2.2.2.2.1, ?_⟩, ⟨rfl, ?_, rfl, ?_, ?_⟩, ⟨hM.1, hM.2.1, hM.2.2.1, hM.2.2.2.1, rfl, rfl⟩, ?_, ?_, WA_k hW ?_ (fun _ _ => ?_)⟩)⟩
  · show S2.1 24 12 = _
    rw [z2 24 (by decide)]; exact hO.1
  · show S2.1 24 14 = _
    rw [z2 24 (by decide)]; exact hO.2.2.1
  · rw [S1r 29 (by decide) (by decide)]; exact hO.2.2.2.1
  · rw [S1r 30 (by decide) (by decide), R1r 65 (by decide) (by decide) (by decide)]; exact hO.2.2.2.2.2
  · show S2.1 24 9 = _
    rw [z2 24 (by decide)]; exact hV.2.1
  · show S2.1 24 11 = _
    rw [z2 24 (by decide)]; exact hV.2.2.2.1
  · show S2.1 24 13 = _
    rw [z2 24 (by decide)]; exact hV.2.2.2.2
  · refine KK_keep g hK ⟨fun x _ => ⟨by rw [R1r 56 (by decide) (by decide) (by decide)]; rfl, by rw [R1r 58 (by decide) (by decide) (by decide)]; rfl, rfl⟩, fun i _ => ⟨by rw [R1r 60 (by decide) (by decide) (by decide)]; rfl, by rw [R1r 61 (by decide) (by decide) (by decide)]; rfl, by rw [R1r 62 (by decide) (by decide) (by decide)]; rfl, by rw [R1r 63 (by decide) (by decide) (by decide)]; rfl⟩, fun i _ => by rw [R2r 64 (by decide)]; rfl, fun i hi => ?_, fun i _ => ⟨by rw [S1r 32 (by decide) (by decide)]; rfl, by rw [S1r 33 (by decide) (by decide)]; rfl⟩, fun j' hj' => ⟨if_neg (by omega), if_neg (by omega), if_neg (by omega)⟩, by omega, fun v x hx => up hx⟩ (B := fun _ => True) (fun _ _ => trivial) (fun _ _ _ _ _ _ => trivial)
    show (sJ S2 31 (b + h) (vE 3 md)).2 31 i = _
    rw [sJ_nk _ (by omega), z5 31 (by decide)]
    rfl
  · show vR _ _ _ _ ((sJ (sI (sI (sI (b1R (bgR R fl)) 34 31 (nI (md + 1))) 54 nf (nI m)) 55 nf ((bgR R fl).1 34 52)) 34 54 (vE 3 nf)).2 34 54) ((sJ S2 31 (b + h) (vE 3 md)).2 31 (b + h))
    rw [sJ_eq, sJ_eq]
    exact Or.inr (Or.inr (Or.inr ⟨nf, by omega, rfl, by rw [e1]⟩))
  · rw [R1r 58 (by decide) (by decide) (by decide)]; rfl
  · rw [R1r 62 (by decide) (by decide) (by decide)]; rfl
theorem gv_set {g n' w' dl2 : Nat} {e : scE} {src x : Int32} {tl' : Bool} (hX : GvX Sp Rp T U S R cw tw pm fm fmu np nf own fks md tc A (g + 1) n (w' + 1) hd p h fn sc ks dl b j wt tl bg tot) (h33 : R.1 34 33 = nI fl) (hc : c + 6 < 1000000) (hp : p ≤ 501) (hb : b + h < 6405) (hw : w' < 8000) (hC : chn (R.1 58) (R.1 62 w') ks) (hm : m < 256) (h61 : R.1 61 w' = nI m) (c0 : R.1 60 w' = 4) (ke : e ∈ sc) (k2 : Rp.1 38 m = nI e.2.2.1) (k3 : Sp.1 9 e.2.1 = 1) (k4 : Lo Sp fn e src) (k5 : cd Sp p 12 src x) (c6 : n' + 1 ≤ n) (hK : KK Sp Rp S R cw tw fm fmu nf (vR pm fm np nf) g n' w' hd (p + 1) h fn sc ks dl2 b j wt tl') : Gs Sp Rp T U S R fl c n bg tot := by
  obtain ⟨a1, a2, a3, a4, a5, a6, a7, a8, a9, a10, a11, a12, a13⟩ := KK_act hX.2.2.2.2.1
  obtain ⟨hG, hO, hV, hM, -, hv, hW⟩ := hX
  have hmd := hG.2.1.2.1
  have hnn := hG.2.1.2.2.2.2.1
  have htc := hG.2.1.2.2.2.2.2.2
  obtain ⟨k, z1, z2, z3, z4⟩ := find_m (R := tkR R w') (e := e) hC a1 a2 ke
  obtain ⟨y, y1, y2⟩ := (a4 (e, k) z1).2.2 k3
  have y2 : cw k = vE 4 y := y2
  have hfc := find_c (S := nx S p) hV.2.1 k4 z1 a4 (by omega) a5 hG.2.2.2.1.1 (by omega)
  rw [y2] at hfc
  have hAk := hW w' ks (by omega) hC k z3
  have hG' := GI_store hG hAk y2 y1 hv
  have hKb : KK Sp Rp (sJ S 26 y (S.2 31 (b + h))) (sJ R 57 k (R.2 34 54)) cw tw fm fmu nf (vR pm fm np nf) g n' w' hd (p + 1) h fn sc ks dl2 b j wt tl' := KK_k hK (agr_mk rfl rfl (fun _ _ => ⟨rfl, rfl, rfl, rfl⟩) (fun _ _ => rfl) (fun _ _ => rfl) (fun _ _ => ⟨rfl, rfl⟩))
  refine ⟨sJ (nx S p) 26 y (S.2 31 (b + h)), sJ (tkR R w') 57 k (R.2 34 54), 1, tot, c_store hV (by omega) hp hb y1 (cd_S hG.1 k5) hfc, ?_, h33, by omega, by omega, Or.inr (Or.inl ⟨n', by omega, by omega, Gv_mk (S := sJ S 26 y (S.2 31 (b + h))) (R := sJ R 57 k (R.2 34 54)) (b := b) (h := h) (p := p + 1) (wt := wt) (w := w') hG' hO ⟨fun a b1 b2 b3 => ?_, fun z b1 b2 b3 b4 => ?_, fun a ha => rfl⟩ ⟨fun a b1 b2 => ?_, fun z b1 b2 b3 b4 b5 => ?_, fun a b1 b2 => rfl⟩ ⟨hV.1, hV.2.1, rfl, hV.2.2.2.1, hV.2.2.2.2⟩ ⟨hM.1, hM.2.1, rfl, hM.2.2.2.1, hM.2.2.2.2.1, hM.2.2.2.2.2⟩ hKb (fun _ _ => ⟨rfl, rfl, rfl, rfl⟩) (fun _ _ => rfl) (fun _ _ => rfl) (fun _ _ => ⟨rfl, rfl⟩) hv (WA_le hW (by omega))⟩)⟩
  · rw [ref_give hM.1 hM.2.2.2.2.2, give_w hM.2.2.1 hw h61, c0, if_neg (by decide), if_neg (by decide), pop_4 (R := lkR R w') (k := k) hM.2.2.1 hm z2 (by
      show G_163 (R.1 38 m) (tkR R w') = _
      rw [hG.1.2.2.1 38 (by decide) (by decide), k2]
      exact z4), bV_v]
    rfl
  · show (nx S p).1 a = S.1 a
    exact nx_F.1 a b1
  · show (nx S p).1 24 z = S.1 24 z
    exact sI_nk _ b3
  · show (tkR R w').1 a = R.1 a
    unfold tkR ppR lkR
    rw [sI_row, if_neg b1, sI_row, if_neg b1]
  · show (tkR R w').1 34 z = R.1 34 z
    unfold tkR ppR lkR
    rw [sI_nk _ b2, sI_nk _ b4]
theorem gv_name {g n' w' h0 k0 a q2 dl1 dl2 : Nat} {e : scE} {sc' : List scE} {ks' : List Nat} {x : Int32} {tl' : Bool} (hX : GvX Sp Rp T U S R cw tw pm fm fmu np nf own fks md tc A (g + 1) n (w' + 1) hd p (h0 + 1) fn (e :: sc') (k0 :: ks') dl b j wt tl bg tot) (h33 : R.1 34 33 = nI fl) (hc : c + 6 < 1000000) (hp : p ≤ 501) (hb : b + (h0 + 1) < 6405) (hw : w' < 8000) (hC : chn (R.1 58) (R.1 62 w') (k0 :: ks')) (hm : m < 256) (h61 : R.1 61 w' = nI m) (c0 : R.1 60 w' = 3) (k4 : a < 256) (k5 : Rp.1 36 m = 6) (k6 : Rp.1 44 m = 1) (k7 : Rp.1 39 m = nI a) (k8 : Rp.1 43 (4 * m) = nI e.2.2.1) (k9 : ∃ y, y < 2000 ∧ cw k0 = vE 4 y) (d1 : Sp.1 7 e.2.1 = nI h0) (d2 : e.2.2.2 = fn) (d3 : cd Sp p 12 (nI h0) x) (d4 : cd Sp (p + 1) 8 0 (-1)) (d5 : TT Sp Rp true f 1 (Rp.1 41 a) (Rp.1 40 m) dl1 (p + 2) q2 (h0 + 1) fn (e :: sc') tl') (d6 : cd Sp q2 13 1 (-1)) (d8 : dl2 + 1 ≤ dl1) (d9 : n' + 5 ≤ n) (hK : KK Sp Rp S R cw tw fm fmu nf (vR pm fm np nf) g n' w' hd (q2 + 1) h0 fn sc' ks' dl2 b j wt tl') : Gs Sp Rp T U S R fl c n bg tot := by
  obtain ⟨a1, a2, a3, a4, a5, a6, a7, a8, a9, a10, a11, a12, a13⟩ := KK_act hX.2.2.2.2.1
  obtain ⟨t1, t2, t3, t4, t5⟩ := TT_hd f d5
  have tq := (TT_head f _ _ _ _ _ _ _ _ _ _ d5).1
  obtain ⟨hG, hO, hV, hM, -, hv, hW⟩ := hX
  have hmd := hG.2.1.2.1
  have hnn := hG.2.1.2.2.2.2.1
  have htc := hG.2.1.2.2.2.2.2.2
  obtain ⟨k, z1, z2, z3, z4⟩ := find_m (R := tkR R w') (e := e) hC a1 a2 List.mem_cons_self
  have hk0 : k = k0 := congrArg Prod.snd (zip_un a2 (e, k) z1 (e, k0) (by rw [List.zip_cons_cons]; exact List.mem_cons_self) rfl)
  rw [← hk0] at k9
  obtain ⟨y, y1, y2⟩ := k9
  have y2 : cw k = vE 4 y := y2
  have hfc := find_c (S := nx S p) (src := nI h0) hV.2.1 (Or.inl ⟨d2, d1.symm⟩) z1 a4 (by omega) a5 hG.2.2.2.1.1 (by omega)
  rw [y2] at hfc
  have hAk := hW w' _ (by omega) hC k z3
  have hG' := GI_store hG hAk y2 y1 hv
  have s0 := c_store (l2 := nI fl) (c := c) hV (by omega) hp hb y1 (cd_S hG.1 d3) hfc
  have hV1 : cV (sJ (nx S p) 26 y (S.2 31 (b + (h0 + 1)))) (b + (h0 + 1) + 1) b (p + 1) wt := ⟨hV.1, hV.2.1, rfl, hV.2.2.2.1, hV.2.2.2.2⟩
  obtain ⟨S2, s1, s2, s3, s4⟩ := c_pop (l2 := nI fl) (c := c + 1) hV1 (by omega) (by omega) hb (show cd S (p + 1) 8 0 (-1) from cd_S hG.1 d4)
  have hKb : KK Sp Rp (sJ S 26 y (S.2 31 (b + (h0 + 1)))) (sJ R 57 k (R.2 34 54)) cw tw fm fmu nf (vR pm fm np nf) g n' w' hd (q2 + 1) h0 fn sc' ks' dl2 b j wt tl' := KK_k hK (agr_mk rfl rfl (fun _ _ => ⟨rfl, rfl, rfl, rfl⟩) (fun _ _ => rfl) (fun _ _ => rfl) (fun _ _ => ⟨rfl, rfl⟩))
  obtain ⟨b1, b2, b3, b4, b5, b6, b7, b8, b9, b10, b11, b12, b13⟩ := KK_act hKb
  have hKL : KK Sp Rp (sJ S 26 y (S.2 31 (b + (h0 + 1)))) (sJ R 57 k (R.2 34 54)) cw tw fm fmu nf (vR pm fm np nf) (g + 1) (n' + 1) w' hd q2 (h0 + 1) fn (e :: sc') (k0 :: ks') dl1 b j wt tl' := by
    unfold KK
    exact ⟨⟨a1, a2, a3, a4, a5, a6, a7, t2, t1, by omega, by omega, by omega, t3⟩, Or.inr (Or.inl ⟨[e], sc', [k0], ks', h0, n', dl2, -1, d6, rfl, rfl, rfl, rfl, (show 1 ≤ 4 by decide), Nat.le_refl _, by omega, hKb⟩)⟩
  have hX' : CX Sp Rp T U S2 (sJ (tkR R w') 57 k (R.2 34 54)) cw tw pm fm fmu np nf own fks md tc A (g + 1) (n' + 1) w' hd (p + 2) q2 (h0 + 1) fn (e :: sc') (k0 :: ks') dl1 b j wt tl' bg tot := by
    refine CX_mk (S := sJ S 26 y (S.2 31 (b + (h0 + 1)))) (R := sJ R 57 k (R.2 34 54)) hG' hO ⟨fun a b1 b2 b3 => ?_, fun z b1 b2 b3 b4 => ?_, fun a ha => ?_⟩ ⟨fun a b1 b2 => ?_, fun z b1 b2 b3 b4 b5 => ?_, fun a b1 b2 => rfl⟩ s2 ⟨hM.1, hM.2.1, rfl, hM.2.2.2.1, hM.2.2.2.2.1⟩ hC hKL (fun _ _ => ⟨rfl, rfl, rfl, rfl⟩) (fun _ _ => rfl) (fun i hi => ?_) (fun i _ => ⟨?_, ?_⟩) (hW w' _ (by omega) hC) (WA_le hW (by omega))
    · rw [s3.1 a b1]
      exact nx_F.1 a b1
    · rw [s3.2.1 z b1 b2 b3 b4]
      show (nx S p).1 24 z = S.1 24 z
      exact sI_nk _ b3
    · rw [s3.2.2 a ha]
      rfl
    · show (tkR R w').1 a = R.1 a
      unfold tkR ppR lkR
      rw [sI_row, if_neg b1, sI_row, if_neg b1]
    · show (tkR R w').1 34 z = R.1 34 z
      unfold tkR ppR lkR
      rw [sI_nk _ b2, sI_nk _ b4]
    · rw [s4]
      rfl
    · rw [s3.1 32 (by decide)]
      rfl
    · rw [s3.1 33 (by decide)]
      rfl
  obtain ⟨R3, r1, r2, n2, r3, r4⟩ := seq_j hX' d5 (Nat.le_refl _) (by omega) (by omega)
  have hfx := hG.1.2.2.1
  have hbd : G_167 (nI m) (sJ (tkR R w') 57 k (R.2 34 54)) = _ := body_m (R := sJ (tkR R w') 57 k (R.2 34 54)) (cs := fun _ => a) (k := 1) hm (Nat.le_refl _) (by decide) (Or.inr (by show R.1 36 m = 6; rw [hfx 36 (by decide) (by decide)]; exact k5)) (by show R.1 44 m = 1; rw [hfx 44 (by decide) (by decide)]; exact k6) (by show R.1 39 m = nI a; rw [hfx 39 (by decide) (by decide)]; exact k7) (fun _ _ => k4) (fun z hz => absurd hz (by omega))
  have e41 : (sJ (tkR R w') 57 k (R.2 34 54)).1 41 a = Rp.1 41 a := by
    show R.1 41 a = _
    rw [hfx 41 (by decide) (by decide)]
  refine ⟨S2, R3, 2, tot, by rw [s0, s1], ?_, r2.trans h33, by omega, by omega, Or.inl ⟨n2, by omega, by omega, r4⟩⟩
  rw [ref_give hM.1 hM.2.2.2.2.2, give_w hM.2.2.1 hw h61, c0, if_neg (by decide), if_neg (by decide), pop_3 (R := lkR R w') (k := k) hM.2.2.1 hm z2 (by
    show G_163 (R.1 43 (4 * m)) (tkR R w') = _
    rw [hfx 43 (by decide) (by decide), k8]
    exact z4), show sJ (ppR (lkR R w') w') 57 k ((lkR R w').2 34 54) = sJ (tkR R w') 57 k (R.2 34 54) from rfl, hbd, bI_i, e41, r1, bV_v, bV_v]
theorem bg_rec {e : scE} {a q1 q2 : Nat} (hX : CX Sp Rp T U S R cw tw pm fm fmu np nf own fks md tc A g n w hd p (q2 + 1) h fn sc ks dl' b j wt tl bg tot) (h53 : R.1 34 53 = nI m) (hm : m < 256) (hdl : dl' ≤ dl) (hc : c < 1000000) (hp : p ≤ 501) (hf : fl < 2000)
    (k1 : Rp.1 36 m = 6) (k2 : a < 256) (k3 : Rp.1 44 m = 1) (k4 : cd Sp p 6 0 (Rp.1 37 m)) (k5 : Rp.1 39 m = nI a) (k7 : e.2.2.2 = fn ∧ Rp.1 43 (4 * m) = nI e.2.2.1) (k8 : Sp.1 7 e.2.1 = nI h ∧ e.2.1 < 250 ∧ e.2.2.1 < 256) (k9 : TT Sp Rp true f 0 (nI a) 0 (dl + 1) (p + 1) q1 (h + 1) fn (e :: sc) false) (k10 : cd Sp q1 12 (nI h) (Rp.1 37 m)) (k11 : cd Sp (q1 + 1) 8 0 (-1)) (k13 : TT Sp Rp true f 1 (Rp.1 41 a) (Rp.1 40 m) (dl + 1) (q1 + 2) q2 (h + 1) fn (e :: sc) tl) (k14 : cd Sp q2 13 1 (-1)) : Bg Sp Rp T U S R fl c (n + 5) n (bg + 1) tot := by
  have hX1 := CX_bg (fl := fl) hX
  have hfx := hX1.1.1.2.2.1
  have htop := bg_top hX
  have h36 : (bgR R fl).1 36 m = 6 := by rw [hfx 36 (by decide) (by decide)]; exact k1
  have hmd0 := hX.1.2.1.2.1
  by_cases hq : md = 2000
  · subst hq
    exact ⟨_, _, c_rec_full hX.2.2.1 hc hp (cd_S hX.1.1 k4) hf hX.1.2.1.1, beg_6n (R := bgR R fl) h53 hm h36 hX1.2.2.2.1.2.2.2.2 (by omega) (Nat.le_refl _), rfl, Or.inr (Or.inr ⟨5, Or.inr (Or.inr rfl), bg_full hX1⟩)⟩
  obtain ⟨hG, hO, hV, hM, hC, hK, hA, hW⟩ := CX_nx hX1
  obtain ⟨a1, a2, a3, a4, a5, a6, a7, a8, a9, a10, a11, a12, a13⟩ := KK_act hK
  obtain ⟨t1, t2, t3, t4, t5⟩ := TT_hd f k9
  obtain ⟨e2, e3⟩ := k7
  obtain ⟨e4, e7, e8⟩ := k8
  generalize hR1 : sI (b1R (bgR R fl)) 34 31 (nI (md + 1)) = R1
  have o1 : ∀ z, z ≠ 34 → R1.1 z = (bgR R fl).1 z := fun z hz => by rw [← hR1]; unfold b1R; rw [sI_row, if_neg hz, sI_row, if_neg hz]
  have o34 : ∀ z, z ≠ 31 → z ≠ 53 → R1.1 34 z = (bgR R fl).1 34 z := fun z z1 z2 => by rw [← hR1]; unfold b1R; rw [sI_nk _ z1, sI_nk _ z2]
  have oJ : R1.2 = (bgR R fl).2 := by rw [← hR1]; rfl
  have hG1 : GJ Sp Rp T U (nx (bgS S) p) R1 cw tw pm fm fmu np nf own fks md tc A := GI_keep hG (cQ_G (cG_F cF_refl)) ⟨fun z b1 b2 => o1 z (by omega), fun z hz => o34 z (by omega) (by omega), fun z _ _ => by rw [oJ]⟩
  have hK1 : KK Sp Rp (nx (bgS S) p) R1 cw tw fm fmu nf (vR pm fm np nf) g n w hd (q2 + 1) h fn sc ks dl' b j wt tl := KK_k hK (agr_mk (o1 56 (by decide)) (o1 58 (by decide)) (fun i _ => ⟨by rw [o1 60 (by decide)], by rw [o1 61 (by decide)], by rw [o1 62 (by decide)], by rw [o1 63 (by decide)]⟩) (fun _ _ => by rw [oJ]) (fun _ _ => rfl) (fun _ _ => ⟨rfl, rfl⟩))
  have hC1 : chn (R1.1 58) (R1.1 34 52) ks := by rw [o1 58 (by decide), o34 52 (by decide) (by decide)]; exact hC
  have hW1 : WA R1 w A := WA_k hW (o1 58 (by decide)) (fun i _ => by rw [o1 62 (by decide)])
  obtain ⟨L, lw, hL1, hlw⟩ := reach_fn hK1
  have h49 : R1.1 34 49 = nI w := by rw [o34 49 (by decide) (by decide)]; exact hM.2.2.1
  have hkl := scl_len a1
  obtain ⟨R', k, r1, r2, ⟨r3, r4, r5, r6, r7⟩, r8, r9⟩ := alloc1 (rv := nI e.2.2.1) (v := vE 1 0) (kk := ks) (L := L) (lw := lw) hG1 hC1 hA (by omega) h49 (fun i hi => (hlw i hi).1) (fun i hi x hx => hW1 i (lw i) hi (hlw i hi).1 x hx) (fun i hi => (hlw i hi).2) (by omega)
  have ek : upw cw k (vE 4 md) k = vE 4 md := if_pos rfl
  have ecw : ∀ x, x ≠ k → upw cw k (vE 4 md) x = cw x := fun x hx => if_neg hx
  generalize hS' : phS (mkS (nx (bgS S) p) md (vE 1 0) (vE 1 0)) (b + h) (vE 4 md) = S'
  have s1 : ∀ z, z ≠ 24 → z ≠ 25 → S'.1 z = (nx (bgS S) p).1 z := fun z z1 z2 => by
    rw [← hS']
    unfold phS mkS
    rw [sI_row, if_neg z1]
    show (sI (sJ (sJ (nx (bgS S) p) 26 md (vE 1 0)) 27 md (vE 1 0)) 25 3 (nI (md + 1))).1 z = _
    rw [sI_row, if_neg z2]
    rfl
  have s26 : ∀ z, S'.2 26 z = if z = md then vE 1 0 else S.2 26 z := fun z => by
    rw [← hS']
    show (sJ (sJ (sJ (nx (bgS S) p) 26 md (vE 1 0)) 27 md (vE 1 0)) 31 (b + h) (vE 4 md)).2 26 z = _
    rw [sJ_na _ (by decide), sJ_na _ (by decide), sJ_get]
    by_cases hz : z = md
    · rw [if_pos ⟨rfl, hz⟩, if_pos hz]
    · rw [if_neg (fun h => hz h.2), if_neg hz]; rfl
  have s27 : ∀ z, z ≠ md → S'.2 27 z = S.2 27 z := fun z hz => by
    rw [← hS']
    show (sJ (sJ (sJ (nx (bgS S) p) 26 md (vE 1 0)) 27 md (vE 1 0)) 31 (b + h) (vE 4 md)).2 27 z = _
    rw [sJ_na _ (by decide), sJ_nk _ hz, sJ_na _ (by decide)]
    rfl
  have s28 : S'.2 28 = S.2 28 := by
    rw [← hS']
    funext z
    show (sJ (sJ (sJ (nx (bgS S) p) 26 md (vE 1 0)) 27 md (vE 1 0)) 31 (b + h) (vE 4 md)).2 28 z = _
    rw [sJ_na _ (by decide), sJ_na _ (by decide), sJ_na _ (by decide)]
    rfl
  have s31 : ∀ z, S'.2 31 z = if z = b + h then vE 4 md else S.2 31 z := fun z => by
    rw [← hS']
    show (sJ (sJ (sJ (nx (bgS S) p) 26 md (vE 1 0)) 27 md (vE 1 0)) 31 (b + h) (vE 4 md)).2 31 z = _
    rw [sJ_get]
    by_cases hz : z = b + h
    · rw [if_pos ⟨rfl, hz⟩, if_pos hz]
    · rw [if_neg (fun h => hz h.2), if_neg hz, sJ_na _ (by decide), sJ_na _ (by decide)]; rfl
  have hV' : cV S' (b + (h + 1)) b (p + 1) wt := by
    rw [← hS']
    exact phS_V (S := mkS (nx (bgS S) p) md (vE 1 0) (vE 1 0)) ⟨hX.2.2.1.1, hX.2.2.1.2.1, rfl, hX.2.2.1.2.2.2.1, hX.2.2.1.2.2.2.2⟩
  have hG2 := r9 S' (upw cw k (vE 4 md)) (upo own md (4, k)) (md + 1) (fun z hz => s1 z (by omega) (by omega)) (by rw [← hS']; rfl) (by omega) (by rw [← hS']; rfl) (by omega) (fun z hz => by rw [s26, if_neg (by omega)]; rfl) (fun z hz => by rw [s27 z (by omega)]; rfl) (by rw [s28]; rfl) (fun z hz => if_neg (by omega)) ecw (Or.inl ⟨md, by omega, ek, if_pos rfl, by rw [s26, if_pos rfl]; exact Or.inr (Or.inl ⟨rfl, rfl⟩)⟩)
  have hrk : ∀ x ∈ ks, rch ks ks w nf lw fks x := fun x hx => Or.inl hx
  have hrB : ∀ i l, i < w → chn (R1.1 58) (R1.1 62 i) l → ∀ x ∈ l, rch ks ks w nf lw fks x := fun i l hi hc x hx => by
    rw [chn_det hc (hlw i hi).1] at hx
    exact Or.inr (Or.inr (Or.inl ⟨i, hi, hx⟩))
  generalize hR3 : sI (wtS (sI R' 34 52 (nI k)) w 3 (nI m)) 34 53 (nI a) = R3
  have hF3 : mF (sI R' 34 52 (nI k)) R3 := by rw [← hR3]; exact mF_I wt_F (by omega)
  have q1r : ∀ z, z ≠ 34 → z ≠ 56 → z ≠ 58 → z ≠ 59 → (z < 60 ∨ 63 < z) → R3.1 z = R1.1 z := fun z z1 z2 z3 z4 z5 => by
    rw [hF3.1 z z1 z5, sI_row, if_neg z1, r3 z z1 z2 z3 z4]
  have q34 : ∀ z, z ≠ 32 → z ≠ 49 → z ≠ 51 → z ≠ 52 → z ≠ 53 → z ≠ 44 → R3.1 34 z = R1.1 34 z := fun z z1 z2 z3 z4 z5 z6 => by
    rw [hF3.2.1 z z1 z2 z3 z4 z5, sI_nk _ z4, r4 z z6]
  have q56 : ∀ x, rch ks ks w nf lw fks x → R3.1 56 x = R1.1 56 x ∧ R3.1 58 x = R1.1 58 x := fun x hx => by
    have := r8 x hx
    rw [hF3.1 56 (by decide) (by decide), hF3.1 58 (by decide) (by decide), sI_na _ (by decide), sI_na _ (by decide)]
    exact this.2
  have k56 : R3.1 56 k = nI e.2.2.1 := by rw [hF3.1 56 (by decide) (by decide), sI_na _ (by decide)]; exact r6
  have k58 : R3.1 58 k = R1.1 34 52 := by rw [hF3.1 58 (by decide) (by decide), sI_na _ (by decide)]; exact r7
  have k52 : R3.1 34 52 = nI k := by rw [← hR3]; rfl
  have q60 : ∀ i, i < w → R3.1 60 i = R1.1 60 i ∧ R3.1 61 i = R1.1 61 i ∧ R3.1 62 i = R1.1 62 i ∧ R3.1 63 i = R1.1 63 i := fun i hi => by
    obtain ⟨y1, y2, y3, y4⟩ := wt_lo (R := sI R' 34 52 (nI k)) (w := w) (k := 3) (x := nI m) hi
    have er : ∀ z, z = 60 ∨ z = 61 ∨ z = 62 ∨ z = 63 → (sI R' 34 52 (nI k)).1 z i = R1.1 z i := fun z hz => by rw [sI_na _ (by omega), r3 z (by omega) (by omega) (by omega) (by omega)]
    rw [← hR3]
    exact ⟨y1.trans (er 60 (by omega)), y2.trans (er 61 (by omega)), y3.trans (er 62 (by omega)), y4.trans (er 63 (by omega))⟩
  have q64 : R3.2 64 = R1.2 64 := by
    rw [← hR3]
    show R'.2 64 = _
    exact r5 64 (by decide)
  obtain ⟨w1, w2, w3, w4⟩ := wt_at (R := sI R' 34 52 (nI k)) (w := w) (k := 3) (x := nI m)
  have w1 : R3.1 60 w = 3 := by rw [← hR3]; exact w1
  have w2 : R3.1 61 w = nI m := by rw [← hR3]; exact w2
  have w3 : R3.1 62 w = nI k := by rw [← hR3]; exact w3.trans (sI_eq _ _ _ _)
  have hCk : chn (R3.1 58) (nI k) (k :: ks) := ⟨rfl, r2, by rw [k58]; exact chn_keep hC1 (fun x hx => (q56 x (hrk x hx)).2)⟩
  have hag : agr (nx (bgS S) p) R1 S' R3 cw (upw cw k (vE 4 md)) tw tw fm fmu fm fmu nf nf (vR pm fm np nf) (vR pm fm np nf) (fun x => rch ks ks w nf lw fks x) w hd (b + h) wt := ⟨fun x hx => ⟨(q56 x hx).1, (q56 x hx).2, ecw x (r8 x hx).1⟩, q60, fun i _ => by rw [q64], fun i hi => by rw [s31, if_neg (by omega)]; rfl, fun i _ => ⟨by rw [s1 32 (by decide) (by decide)], by rw [s1 33 (by decide) (by decide)]⟩, fun _ _ => ⟨rfl, rfl, rfl⟩, Nat.le_refl _, fun _ _ hx => hx⟩
  have hK3 := KK_keep g hK1 hag hrk hrB
  obtain ⟨b1, b2, b3, b4, b5, b6, b7, b8, b9, b10, b11, b12, b13⟩ := KK_act hK3
  have hX3 : CX Sp Rp T U S' R3 (upw cw k (vE 4 md)) tw pm fm fmu np nf (upo own md (4, k)) fks (md + 1) tc (fun x => x = k ∨ rch ks ks w nf lw fks x) (g + 1) (n + 5) (w + 1) hd (p + 1) q1 (h + 1) fn (e :: sc) (k :: ks) (dl + 1) b j wt false (bg + 1) tot := by
    refine ⟨GI_keep hG2 (cQ_G (cG_F cF_refl)) (mQ_F hF3), ⟨?_, ?_, ?_, ?_, ?_, ?_⟩, hV', ⟨?_, ?_, by rw [← hR3]; rfl, ?_, ?_⟩, by rw [k52]; exact hCk, ?_, fun x hx => ?_, ?_⟩
    · rw [← hS']; exact hO.1
    · rw [q34 30 (by decide) (by decide) (by decide) (by decide) (by decide) (by decide), o34 30 (by decide) (by decide)]; exact hO.2.1
    · rw [q34 6 (by decide) (by decide) (by decide) (by decide) (by decide) (by decide), o34 6 (by decide) (by decide), ← hS']; exact hO.2.2.1
    · rw [s1 29 (by decide) (by decide)]; exact hO.2.2.2.1
    · rw [q34 55 (by decide) (by decide) (by decide) (by decide) (by decide) (by decide), o34 55 (by decide) (by decide)]; exact hO.2.2.2.2.1
    · rw [s1 30 (by decide) (by decide), q1r 65 (by decide) (by decide) (by decide) (by decide) (by decide), o1 65 (by decide)]; exact hO.2.2.2.2.2
    · rw [q34 29 (by decide) (by decide) (by decide) (by decide) (by decide) (by decide), o34 29 (by decide) (by decide)]; exact hM.1
    · rw [← hR3]
      show R'.1 34 32 = _
      rw [r4 32 (by decide), o34 32 (by decide) (by decide)]; exact hM.2.1
    · rw [← hR3]
      show R'.1 34 51 = _
      rw [r4 51 (by decide), o34 51 (by decide) (by decide)]; exact hM.2.2.2.1
    · rw [q34 31 (by decide) (by decide) (by decide) (by decide) (by decide) (by decide), ← hR1]; exact sI_eq _ _ _ _
    · unfold KK
      refine ⟨⟨⟨k56, b1⟩, t5, t4, ?_, b5, b6, b7, t2, t1, by omega, by omega, by omega, t3⟩, Or.inr (Or.inr (Or.inr (Or.inr ⟨rfl, w, rfl, by rw [w3]; exact hCk, m, hm, w2, Or.inr (Or.inr (Or.inl ⟨w1, e, sc, k, ks, h, a, f, q2, dl + 1, dl', n, tl, _, rfl, rfl, rfl, k2, k1, k3, k5, e3, ⟨md, by omega, ek⟩, e4, e2, k10, k11, k13, k14, Nat.le_refl _, by omega, Nat.le_refl _, hK3⟩))⟩)))⟩
      intro x hx
      rw [List.zip_cons_cons] at hx
      rcases List.mem_cons.mp hx with rfl | hx
      · refine ⟨fun _ => ⟨h, by omega, e4, ?_⟩, fun hne => absurd e2 hne, fun _ => ⟨md, by omega, ek⟩⟩
        rw [s31, if_pos rfl]
        exact ek.symm
      · exact env_h b4 (by omega) x hx
    · rcases List.mem_cons.mp hx with rfl | hx
      · exact Or.inl rfl
      · exact Or.inr (hrk x hx)
    · intro i l hi hc x hx
      by_cases hiw : i = w
      · subst hiw
        rw [w3] at hc
        rw [chn_det hc hCk] at hx
        rcases List.mem_cons.mp hx with rfl | hx
        · exact Or.inl rfl
        · exact Or.inr (hrk x hx)
      · have hi' : i < w := by omega
        have hc' : chn (R3.1 58) (R3.1 62 i) (lw i) := by
          rw [(q60 i hi').2.2.1]
          exact chn_keep (hlw i hi').1 (fun z hz => (q56 z (hrB i _ hi' (hlw i hi').1 z hz)).2)
        rw [chn_det hc hc'] at hx
        exact Or.inr (hrB i _ hi' (hlw i hi').1 x hx)
  have e43 : (bgR R fl).1 43 (4 * m) = nI e.2.2.1 := by rw [hfx 43 (by decide) (by decide)]; exact e3
  have hbeg := beg_6y (R := bgR R fl) (md := md) (k := k) (w := w) (R2 := R') h53 hm h36 hX1.2.2.2.1.2.2.2.2 (by omega) (by
    rw [hR1, e43, ← o34 52 (by decide) (by decide)]
    exact r1) (by rw [r4 49 (by decide)]; exact h49) htop.2.1
  have e39 : R'.1 39 m = nI a := by
    rw [r3 39 (by decide) (by decide) (by decide) (by decide), o1 39 (by decide), hfx 39 (by decide) (by decide)]
    exact k5
  rw [e39, hR3] at hbeg
  refine ⟨S', R3, ?_, hbeg, ?_, Or.inl ⟨n + 5, Nat.le_refl _, upw cw k (vE 4 md), tw, pm, fm, fmu, np, nf, upo own md (4, k), fks, md + 1, tc, _, g + 1, w + 1, hd, p + 1, q1, h + 1, fn, e :: sc, k :: ks, dl + 1, dl + 1, b, j, wt, false, f, a, hX3, by rw [← hR3]; rfl, k9, Nat.le_refl _⟩⟩
  · rw [← hS']
    exact c_rec hX.2.2.1 hc hp (by omega) (cd_S hX.1.1 k4) hf hX.1.2.1.1 (by omega)
  · rw [q34 33 (by decide) (by decide) (by decide) (by decide) (by decide) (by decide), o34 33 (by decide) (by decide)]
    rfl
end RVAR
