/-! the heaps grow, variables change -/
section RHEAP
variable {Sp Rp T U S R S' R' : amS} {cw cw' : Nat → Int64} {tw tw' : Nat → Nat → Int64} {pm fm fmu pm' fm' fmu' : Nat → Nat} {np nf np' nf' : Nat} {own own' : Nat → Nat × Nat} {fks fks' : Nat → List Nat} {md tc md' tc' : Nat} {A A' : Nat → Prop}
def upn (f : Nat → Nat) (n v : Nat) : Nat → Nat := fun i => if i = n then v else f i
def upo (f : Nat → Nat × Nat) (n : Nat) (v : Nat × Nat) : Nat → Nat × Nat := fun i => if i = n then v else f i
theorem vR_up {v x : Int64} (h : vR pm fm np nf v x) (h1 : np ≤ np') (h2 : nf ≤ nf') (h3 : ∀ i, i < np → pm' i = pm i) (h4 : ∀ i, i < nf → fm' i = fm i) : vR pm' fm' np' nf' v x := by
  rcases h with h | h | ⟨i, a1, a2, a3⟩ | ⟨i, a1, a2, a3⟩
  · exact Or.inl h
  · exact Or.inr (Or.inl h)
  · exact Or.inr (Or.inr (Or.inl ⟨i, by omega, a2, by rw [h3 i a1]; exact a3⟩))
  · exact Or.inr (Or.inr (Or.inr ⟨i, by omega, a2, by rw [h4 i a1]; exact a3⟩))
theorem LAM_up {r56 r58 r56' r58' : Nat → Int32} {twj : Nat → Int64} {m mu : Nat} {lk : Int32} {ks : List Nat} (h : LAM Sp Rp r56 r58 cw twj m mu lk ks) (hk : ∀ k ∈ ks, cw' k = cw k ∧ r56' k = r56 k ∧ r58' k = r58 k) : LAM Sp Rp r56' r58' cw' twj m mu lk ks := by
  obtain ⟨f, dl, pe, q1, c0, vs, sc, a1, a2, a3, a4, a5, a6, a7, a8, a9, a10, a11, a12, a13⟩ := h
  refine ⟨f, dl, pe, q1, c0, vs, sc, a1, a2, a3, a4, a5, a6, a7, a8, a9, a10, scl_keep a11 (fun k h => (hk k h).2.1), chn_keep a12 (fun k h => (hk k h).2.2), fun p hp => ?_⟩
  rw [(hk p.2 (List.of_mem_zip hp).2).1]
  exact a13 p hp
theorem GI_up (hG : GJ Sp Rp T U S R cw tw pm fm fmu np nf own fks md tc A) (hF : FX Sp Rp T U S' R')
    (hcn : S'.1 25 3 = nI md' ∧ md' ≤ 2000 ∧ R'.1 34 36 = nI np' ∧ R'.1 34 39 = nI nf' ∧ np' + nf' ≤ md' ∧ S'.1 25 4 = nI tc' ∧ tc' ≤ 26 * nf')
    (h26 : ∀ z, z < md → S'.2 26 z = S.2 26 z) (h27 : ∀ z, z < md → S'.2 27 z = S.2 27 z) (h28 : ∀ z, z < tc → S'.2 28 z = S.2 28 z) (hown : ∀ z, z < md → own' z = own z) (hgr : np ≤ np' ∧ nf ≤ nf' ∧ md ≤ md' ∧ tc ≤ tc') (hpm : ∀ i, i < np → pm' i = pm i)
    (hfm : ∀ j, j < nf → fm' j = fm j ∧ fmu' j = fmu j ∧ tw' j = tw j ∧ fks' j = fks j ∧ R'.1 54 j = R.1 54 j ∧ R'.1 55 j = R.1 55 j) (h52 : ∀ i, i < np → R'.2 52 i = R.2 52 i ∧ R'.2 53 i = R.2 53 i)
    (hlk : ∀ j, j < nf → ∀ k ∈ fks j, (cw' k = cw k ∧ R'.1 56 k = R.1 56 k ∧ R'.1 58 k = R.1 58 k) ∧ A' k)
    (hnp : ∀ i, np ≤ i → i < np' → pm' i < md' ∧ own' (pm' i) = (2, i) ∧ vR pm' fm' np' nf' (R'.2 52 i) (S'.2 26 (pm' i)) ∧ vR pm' fm' np' nf' (R'.2 53 i) (S'.2 27 (pm' i)))
    (hnf : ∀ j, nf ≤ j → j < nf' → (fm' j < 2000 ∧ fmu' j < 28 ∧ S'.2 26 (fm' j) = vE 0 (fmu' j) ∧ ∃ tb t, S'.2 27 (fm' j) = vE 0 tb ∧ Sp.1 17 (fmu' j) = nI t ∧ t ≤ 26 ∧ tb + t ≤ tc' ∧ ∀ i, i < t → S'.2 28 (tb + i) = tw' j i) ∧ fm' j < md' ∧ own' (fm' j) = (3, j) ∧ (∃ m, R'.1 54 j = nI m ∧ LAM Sp Rp (R'.1 56) (R'.1 58) cw' (tw' j) m (fmu' j) (R'.1 55 j) (fks' j)) ∧ ∀ k ∈ fks' j, A' k)
    (hlv : ∀ k, A' k → (∃ x, x < md' ∧ cw' k = vE 4 x ∧ own' x = (4, k) ∧ vR pm' fm' np' nf' (R'.2 57 k) (S'.2 26 x)) ∨ vR pm' fm' np' nf' (R'.2 57 k) (cw' k)) (hfr : frL R' A') : GJ Sp Rp T U S' R' cw' tw' pm' fm' fmu' np' nf' own' fks' md' tc' A' := by
  obtain ⟨g1, g2, g3, g4, g5, g6⟩ := hG
  obtain ⟨r1, r2, r3, r4⟩ := hgr
  have up : ∀ {v x}, vR pm fm np nf v x → vR pm' fm' np' nf' v x := fun h => vR_up h r1 r2 hpm (fun i hi => (hfm i hi).1)
  refine ⟨hF, hcn, fun i hi => ?_, ⟨fun j hj => ?_, fun j hj => ?_⟩, hlv, hfr⟩
  · by_cases hq : i < np
    · obtain ⟨a1, a2, a3, a4⟩ := g3 i hq
      rw [hpm i hq, hown _ a1, h26 _ a1, h27 _ a1, (h52 i hq).1, (h52 i hq).2]
      exact ⟨by omega, a2, up a3, up a4⟩
    · exact hnp i (by omega) hi
  · by_cases hq : j < nf
    · obtain ⟨a1, a2, a3, tb, t, a4, a5, a6, a7, a8⟩ := g4.1 j hq
      have b1 := (g4.2 j hq).1
      obtain ⟨e1, e2, e3, e4, e5, e6⟩ := hfm j hq
      rw [e1, e2, e3, h26 _ b1, h27 _ b1]
      exact ⟨a1, a2, a3, tb, t, a4, a5, a6, by omega, fun i hi => by rw [h28 _ (by omega)]; exact a8 i hi⟩
    · exact (hnf j (by omega) hj).1
  · by_cases hq : j < nf
    · obtain ⟨b1, b2, ⟨m, b3, b4⟩, b5⟩ := g4.2 j hq
      obtain ⟨e1, e2, e3, e4, e5, e6⟩ := hfm j hq
      rw [e1, e2, e3, e4, e5, e6, hown _ b1]
      exact ⟨by omega, b2, ⟨m, b3, LAM_up b4 (fun k hk => (hlk j hq k hk).1)⟩, fun k hk => (hlk j hq k hk).2⟩
    · exact (hnf j (by omega) hj).2
/-- a live variable in a box -/
theorem live_box {k x : Nat} (hG : GJ Sp Rp T U S R cw tw pm fm fmu np nf own fks md tc A) (hk : A k) (hc : cw k = vE 4 x) (hx : x < 2000) : x < md ∧ own x = (4, k) ∧ vR pm fm np nf (R.2 57 k) (S.2 26 x) := by
  have hb := GI_b hG
  have hmd := hG.2.1.2.1
  rcases hG.2.2.2.2.1 k hk with ⟨x', h1, h2, h3, h4⟩ | h
  · rw [hc] at h2
    have : x = x' := ((vE_inj (by decide) (by omega) (by decide) (by omega)).mp h2).2
    subst this
    exact ⟨h1, h3, h4⟩
  · exfalso
    obtain ⟨t, b, c, ht, hb', hc', e1, e2, -⟩ := vR_tag h hb.1 hb.2
    rw [hc] at e2
    have := ((vE_inj (by decide) (by omega) (by omega) hc').mp e2).1
    omega
theorem GI_store {k x : Nat} {v y : Int64} (hG : GJ Sp Rp T U S R cw tw pm fm fmu np nf own fks md tc A) (hk : A k) (hc : cw k = vE 4 x) (hx : x < 2000) (hv : vR pm fm np nf v y) : GJ Sp Rp T U (sJ S 26 x y) (sJ R 57 k v) cw tw pm fm fmu np nf own fks md tc A := by
  obtain ⟨x1, x2, -⟩ := live_box hG hk hc hx
  obtain ⟨g1, g2, g3, g4, g5, g6⟩ := hG
  refine ⟨g1, g2, fun i hi => ?_, ⟨fun j hj => ?_, fun j hj => ?_⟩, fun z hz => ?_, g6⟩
  · obtain ⟨a1, a2, a3, a4⟩ := g3 i hi
    have hne : pm i ≠ x := fun h => by rw [h, x2] at a2; exact absurd (show (4 : Nat) = 2 from congrArg Prod.fst a2) (by decide)
    exact ⟨a1, a2, by rw [sJ_nk _ hne, sJ_na _ (by decide)]; exact a3, by rw [sJ_na _ (by decide), sJ_na _ (by decide)]; exact a4⟩
  · obtain ⟨a1, a2, a3, tb, t, a4, a5, a6, a7, a8⟩ := g4.1 j hj
    have hne : fm j ≠ x := fun h => by have := (g4.2 j hj).2.1; rw [h, x2] at this; exact absurd (show (4 : Nat) = 3 from congrArg Prod.fst this) (by decide)
    exact ⟨a1, a2, by rw [sJ_nk _ hne]; exact a3, tb, t, by rw [sJ_na _ (by decide)]; exact a4, a5, a6, a7, fun i hi => by rw [sJ_na _ (by decide)]; exact a8 i hi⟩
  · exact g4.2 j hj
  · by_cases hzk : z = k
    · subst hzk
      exact Or.inl ⟨x, x1, hc, x2, by rw [sJ_eq, sJ_eq]; exact hv⟩
    · rw [sJ_nk _ hzk]
      rcases g5 z hz with ⟨x', h1, h2, h3, h4⟩ | h
      · have hne : x' ≠ x := fun h => by rw [h, x2] at h3; exact hzk (show k = z from congrArg Prod.snd h3).symm
        exact Or.inl ⟨x', h1, h2, h3, by rw [sJ_nk _ hne]; exact h4⟩
      · exact Or.inr h
/-- a variable's value, fetched -/
theorem fetch_c {k : Nat} {X : amS} (hG : GJ Sp Rp T U S R cw tw pm fm fmu np nf own fks md tc A) (hk : A k) (hX : X.2 26 = S.2 26) : ∃ u, g_27 (cw k) X = some (.inl (some (.long u)), X) ∧ vR pm fm np nf (R.2 57 k) u := by
  have hb := GI_b hG
  have hmd := hG.2.1.2.1
  rcases hG.2.2.2.2.1 k hk with ⟨x, h1, h2, h3, h4⟩ | h
  · refine ⟨S.2 26 x, ?_, h4⟩
    rw [h2, unb_box (by omega), hX]
  · obtain ⟨t, b, c, ht, hb', hc', e1, e2, -⟩ := vR_tag h hb.1 hb.2
    refine ⟨cw k, ?_, h⟩
    rw [e2]
    exact unb_val ht hc'
/-- a new pair -/
theorem GI_cons {v0 v1 x0 x1 : Int64} (hG : GJ Sp Rp T U S R cw tw pm fm fmu np nf own fks md tc A) (hm : md < 2000) (h0 : vR pm fm np nf v0 x0) (h1 : vR pm fm np nf v1 x1) : GJ Sp Rp T U (mkS S md x0 x1) (coM R np md v0 v1) cw tw (upn pm np md) fm fmu (np + 1) nf (upo own md (2, np)) fks (md + 1) tc A ∧ (∀ {v x}, vR pm fm np nf v x → vR (upn pm np md) fm (np + 1) nf v x) ∧ vR (upn pm np md) fm (np + 1) nf (vE 2 np) (vE 2 md) := by
  have hpm : ∀ i, i < np → upn pm np md i = pm i := fun i hi => if_neg (by omega)
  have up : ∀ {v x}, vR pm fm np nf v x → vR (upn pm np md) fm (np + 1) nf v x := fun h => vR_up h (by omega) (Nat.le_refl _) hpm (fun _ _ => rfl)
  have e1 : upn pm np md np = md := if_pos rfl
  have hG0 := hG
  obtain ⟨g1, ⟨c1, c2, c3, c4, c5, c6, c7⟩, g3, g4, g5, g6⟩ := hG0
  refine ⟨GI_up hG ⟨fun a ha => ?_, g1.2.1, fun a h1 h2 => by unfold coM; rw [sI_row, if_neg (by omega)]; show (sI R 34 31 (nI (md + 1))).1 a = _; rw [sI_row, if_neg (by omega)]; exact g1.2.2.1 a h1 h2, g1.2.2.2⟩ ⟨rfl, by omega, rfl, c4, by omega, c6, c7⟩ (fun z hz => ?_) (fun z hz => ?_) (fun z hz => rfl) (fun z hz => if_neg (by omega)) ⟨by omega, Nat.le_refl _, by omega, Nat.le_refl _⟩ hpm (fun j hj => ⟨rfl, rfl, rfl, rfl, rfl, rfl⟩) (fun i hi => ⟨?_, ?_⟩) (fun j hj k hk => ⟨⟨rfl, rfl, rfl⟩, (g4.2 j hj).2.2.2 k hk⟩) (fun i h8 h9 => ?_) (fun j h8 h9 => absurd h9 (by omega)) (fun k hk => ?_) g6, up, Or.inr (Or.inr (Or.inl ⟨np, by omega, rfl, by rw [e1]⟩))⟩
  · unfold mkS
    rw [sI_row, if_neg (by omega)]
    exact g1.1 a ha
  · show (sJ (sJ S 26 md x0) 27 md x1).2 26 z = _
    rw [sJ_na _ (by decide), sJ_nk _ (by omega)]
  · show (sJ (sJ S 26 md x0) 27 md x1).2 27 z = _
    rw [sJ_nk _ (by omega), sJ_na _ (by decide)]
  · show (sJ (sJ (sJ (sI R 34 31 (nI (md + 1))) 52 np v0) 53 np v1) 34 54 (vE 2 np)).2 52 i = _
    rw [sJ_na _ (by decide), sJ_na _ (by decide), sJ_nk _ (by omega)]
    rfl
  · show (sJ (sJ (sJ (sI R 34 31 (nI (md + 1))) 52 np v0) 53 np v1) 34 54 (vE 2 np)).2 53 i = _
    rw [sJ_na _ (by decide), sJ_nk _ (by omega), sJ_na _ (by decide)]
    rfl
  · have : i = np := by omega
    subst this
    rw [e1]
    refine ⟨by omega, if_pos rfl, ?_, ?_⟩
    · show vR _ _ _ _ ((sJ (sJ (sJ (sI R 34 31 (nI (md + 1))) 52 i v0) 53 i v1) 34 54 (vE 2 i)).2 52 i) ((sJ (sJ S 26 md x0) 27 md x1).2 26 md)
      rw [sJ_na _ (by decide), sJ_na _ (by decide), sJ_eq, sJ_na _ (by decide), sJ_eq]
      exact up h0
    · show vR _ _ _ _ ((sJ (sJ (sJ (sI R 34 31 (nI (md + 1))) 52 i v0) 53 i v1) 34 54 (vE 2 i)).2 53 i) ((sJ (sJ S 26 md x0) 27 md x1).2 27 md)
      rw [sJ_na _ (by decide), sJ_eq, sJ_eq]
      exact up h1
  · rcases g5 k hk with ⟨x, a1, a2, a3, a4⟩ | h
    · refine Or.inl ⟨x, by omega, a2, by rw [show upo own md (2, np) x = own x from if_neg (by omega)]; exact a3, ?_⟩
      show vR _ _ _ _ ((sJ (sJ (sJ (sI R 34 31 (nI (md + 1))) 52 np v0) 53 np v1) 34 54 (vE 2 np)).2 57 k) ((sJ (sJ S 26 md x0) 27 md x1).2 26 x)
      rw [sJ_na _ (by decide), sJ_na _ (by decide), sJ_na _ (by decide), sJ_na _ (by decide), sJ_nk _ (by omega)]
      exact up a4
    · exact Or.inr (up h)
end RHEAP
