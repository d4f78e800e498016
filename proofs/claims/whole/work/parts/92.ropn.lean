/-! operands and primitives, both sides -/
section ROPN
variable {Sp Rp T U S R S' R' : amS} {cw : Nat → Int64} {tw : Nat → Nat → Int64} {pm fm fmu : Nat → Nat} {np nf : Nat} {own : Nat → Nat × Nat} {fks : Nat → List Nat} {md tc : Nat} {A : Nat → Prop} {g n w hd p q h fn : Nat} {sc : List scE} {ks : List Nat} {dl dl' b j wt : Nat} {tl : Bool} {f m bg tot fl c : Nat}
/-- what operands are for -/
def OPD (Sp Rp : amS) (kd : Int32) (m k h0 fn dl1 q1 pc2 : Nat) (sc : List scE) (cs : Nat → Nat) (tl' : Bool) : Prop :=
  (kd = 2 ∧ Rp.1 36 m = 5 ∧ Rp.1 44 m = nI k ∧ ∃ vs c0 q2 f2 x, k = vs.length ∧ k ≤ 4 ∧ (∀ i, i < k → cd Sp (q1 + i) 11 (nI (c0 + i)) (Rp.1 37 m)) ∧ bnd Sp Rp m c0 h0 fn vs ∧ TT Sp Rp true f2 1 (Rp.1 41 (cs (k - 1))) (Rp.1 40 m) dl1 (q1 + k) q2 (h0 + k) fn (vs ++ sc) tl' ∧ cd Sp q2 13 (nI k) x ∧ pc2 = q2 + 1) ∨
  (kd = 5 ∧ Rp.1 36 m = 9 ∧ Rp.1 42 m = nI k ∧ ∃ o, o < 13 ∧ Rp.1 38 m = nI o ∧ k = (if o < 7 then 2 else 1) ∧ cd Sp q1 (prO o) 0 (Rp.1 37 m) ∧ pc2 = q1 + 1) ∨
  (kd = 5 ∧ Rp.1 36 m = 10 ∧ Rp.1 42 m = nI k ∧ ∃ k', k = k' + 1 ∧ cd Sp q1 (if tl' then 15 else 14) (nI k') (Rp.1 37 m) ∧ Rp.1 45 m = b2i tl' ∧ pc2 = q1 + 1)
theorem OPD_kd {kd : Int32} {m k h0 fn dl1 q1 pc2 : Nat} {sc : List scE} {cs : Nat → Nat} {tl' : Bool} (h : OPD Sp Rp kd m k h0 fn dl1 q1 pc2 sc cs tl') : (kd = 2 ∧ Rp.1 44 m = nI k) ∨ (kd = 5 ∧ Rp.1 42 m = nI k) := by
  rcases h with ⟨a, -, b, -⟩ | ⟨a, -, b, -⟩ | ⟨a, -, b, -⟩
  · exact Or.inl ⟨a, b⟩
  · exact Or.inr ⟨a, b⟩
  · exact Or.inr ⟨a, b⟩
theorem hold_j {w' i hd0 k : Nat} (hfx : ∀ a, 36 ≤ a → a ≤ 46 → R.1 a = Rp.1 a) (h29 : R.1 34 29 = 2) (h53 : R.1 34 53 = -1) (h49 : R.1 34 49 = nI (w' + 1)) (h51 : R.1 34 51 = nI (hd0 + i)) (hw : w' < 8000) (hh : hd0 + i < 16000) (hm : m < 256) (h61 : R.1 61 w' = nI m) (h63 : R.1 63 w' = nI i) (hkd : (R.1 60 w' = 2 ∧ Rp.1 44 m = nI k) ∨ (R.1 60 w' = 5 ∧ Rp.1 42 m = nI k)) (hi : i < k) (hk : k ≤ 5) :
    G_173_49 R = az_bV (if nI k ≤ nI (i + 1) then G_172_164 (nI m) (R.1 60 w') (hlR (lkR R w') w' (hd0 + i) i) else G_172_131 (nI w') (Rp.1 39 m) 0 (hlR (lkR R w') w' (hd0 + i) i)) fun S1 => G_173_49 S1 := by
  have e := hold_m (R := lkR R w') (w := w') (m := m) (hd := hd0 + i) (i := i) (k := k) (kd := R.1 60 w') h51 hh hw h63 (by omega) hk hm (by
    rcases hkd with ⟨a, b⟩ | ⟨a, b⟩
    · exact Or.inl ⟨a, by show R.1 44 m = _; rw [hfx 44 (by decide) (by decide)]; exact b⟩
    · exact Or.inr ⟨a, by show R.1 42 m = _; rw [hfx 42 (by decide) (by decide)]; exact b⟩)
  have e39 : (lkR R w').1 39 m = Rp.1 39 m := by show R.1 39 m = _; rw [hfx 39 (by decide) (by decide)]
  rw [e39] at e
  rw [ref_give h29 h53, give_w h49 hw h61, ← e]
  rcases hkd with ⟨a, -⟩ | ⟨a, -⟩
  · rw [a, if_pos rfl]
  · rw [a, if_neg (by decide), if_pos rfl]
theorem gv_next {g n' w' i h0 hd0 k p0 q1 dl1 dl2 pc2 : Nat} {cs qs : Nat → Nat} {tl' : Bool} (hX : GvX Sp Rp T U S R cw tw pm fm fmu np nf own fks md tc A (g + 1) n (w' + 1) (hd0 + i) (qs (i + 1)) (h0 + i) fn sc ks dl b j wt tl bg tot) (h33 : R.1 34 33 = nI fl) (hw : w' < 8000) (hhd : hd0 + i < 16000) (hC : chn (R.1 58) (R.1 62 w') ks) (hm : m < 256) (h61 : R.1 61 w' = nI m) (h63 : R.1 63 w' = nI i) (hi : i + 1 < k) (hk : k ≤ 5) (c6 : opq Rp k m p0 q1 cs qs) (c7 : ∀ a, a < k → TT Sp Rp true f 0 (nI (cs a)) 0 dl1 (qs a) (qs (a + 1)) (h0 + a) fn sc false) (c8 : ∀ a, a < i → vR pm fm np nf (R.2 64 (hd0 + a)) (S.2 31 (b + h0 + a))) (d2 : dl2 + 1 ≤ dl1) (d3 : n' + 5 ≤ n) (hK : KK Sp Rp S R cw tw fm fmu nf (vR pm fm np nf) g n' w' hd0 pc2 h0 fn sc ks dl2 b j wt tl') (hD : OPD Sp Rp (R.1 60 w') m k h0 fn dl1 q1 pc2 sc cs tl') : Gs Sp Rp T U S R fl c n bg tot := by
  obtain ⟨hG, hO, hV, hM, -, hv, hW⟩ := hX
  have hfx := hG.1.2.2.1
  obtain ⟨q1', q2', q3', q4', q5'⟩ := id c6
  have e1 := hold_j hfx hM.1 hM.2.2.2.2.2 hM.2.2.1 hM.2.2.2.1 hw hhd hm h61 h63 (OPD_kd hD) (by omega) hk
  have e2 : G_172_131 (nI w') (nI (cs 0)) (nI 0) (hlR (lkR R w') w' (hd0 + i) i) = _ := walk_m (R := hlR (lkR R w') w' (hd0 + i) i) (cs := cs) (i := i) hw (sI_eq _ _ _ _) (by omega) (fun z hz => q4' z (by omega)) (fun z hz => by
    show R.1 41 (cs z) = _
    rw [hfx 41 (by decide) (by decide)]
    exact q5' z (by omega)) (i + 1) 0 (by omega)
  have e2' : G_172_131 (nI w') (nI (cs 0)) 0 (hlR (lkR R w') w' (hd0 + i) i) = _ := e2
  rw [if_neg (nI_ge hi (by omega)), q3', e2', bV_v] at e1
  generalize hR5 : sI (hlR (lkR R w') w' (hd0 + i) i) 34 53 (nI (cs (i + 1))) = R5 at e1
  have hF : mF R R5 := by
    rw [← hR5]
    exact mF_I (mF_trans (mF_I mF_refl (by omega)) hl_F) (by omega)
  have lo : ∀ z, z < w' → R5.1 60 z = R.1 60 z ∧ R5.1 61 z = R.1 61 z ∧ R5.1 62 z = R.1 62 z ∧ R5.1 63 z = R.1 63 z := fun z hz => by
    rw [← hR5]
    exact hl_lo (R := lkR R w') (w := w') (hd := hd0 + i) (i := i) (by omega)
  have l64 : ∀ z, z ≠ hd0 + i → R5.2 64 z = R.2 64 z := fun z hz => by
    rw [← hR5]
    exact hl_64 (R := lkR R w') (w := w') (i := i) hz
  have a64 : R5.2 64 (hd0 + i) = R.2 34 54 := by
    rw [← hR5]
    exact hl_at (R := lkR R w') (w := w') (i := i)
  have hK' : KK Sp Rp S R5 cw tw fm fmu nf (vR pm fm np nf) g n' w' hd0 pc2 h0 fn sc ks dl2 b j wt tl' := KK_k hK (agr_mk (by rw [← hR5]; rfl) (by rw [← hR5]; rfl) lo (fun z hz => l64 z (by omega)) (fun _ _ => rfl) (fun _ _ => ⟨rfl, rfl⟩))
  obtain ⟨t1, t2, t3, t4, t5⟩ := TT_hd f (c7 (i + 1) hi)
  obtain ⟨a1, a2, a3, a4, a5, a6, a7, a8, a9, a10, a11, a12, a13⟩ := KK_act hK'
  have hC5 : chn (R5.1 58) (R5.1 62 w') ks := by rw [← hR5]; exact hC
  refine ⟨S, R5, 0, tot, rfl, e1, by rw [← hR5]; exact h33, by omega, by omega, Or.inl ⟨n' + 5, by omega, by omega, cw, tw, pm, fm, fmu, np, nf, own, fks, md, tc, A, g + 1, w' + 1, hd0 + (i + 1), qs (i + 1), qs (i + 1 + 1), h0 + (i + 1), fn, sc, ks, dl1, dl1, b, j, wt, false, f, cs (i + 1), ⟨GI_keep hG (cQ_G (cG_F cF_refl)) (mQ_F hF), OU_keep hO (cG_F cF_refl) hF, hV, ?_, ?_, ?_, hW w' ks (by omega) hC, ?_⟩, ?_, c7 (i + 1) hi, Nat.le_refl _⟩⟩
  · rw [← hR5]
    exact ⟨hM.1, hM.2.1, hM.2.2.1, rfl, hM.2.2.2.2.1⟩
  · rw [← hR5]
    exact hC
  · unfold KK
    refine ⟨⟨a1, a2, a3, env_h a4 (by omega), a5, a6, a7, t2, t1, by omega, by omega, by omega, t3⟩, Or.inr (Or.inr (Or.inr (Or.inr ⟨rfl, w', rfl, hC5, m, hm, ?_, Or.inr (Or.inr (Or.inr (Or.inr ⟨i + 1, h0, hd0, k, p0, q1, cs, qs, f, dl1, dl2, pc2, n', tl', rfl, rfl, hi, hk, ?_, rfl, c6, c7, fun a ha => ?_, Nat.le_refl _, d2, Nat.le_refl _, hK', ?_⟩)))⟩)))⟩
    · rw [← hR5]; exact h61
    · rw [← hR5]
      show (hlR (lkR R w') w' (hd0 + i) i).1 63 w' = _
      exact sI_eq _ _ _ _
    · by_cases hq : a = i
      · subst hq
        rw [a64, Nat.add_assoc b h0 a]
        exact hv
      · rw [l64 _ (by omega)]
        exact c8 a (by omega)
    · have e60 : R5.1 60 w' = R.1 60 w' := by rw [← hR5]; rfl
      rw [e60]
      exact hD
  · exact WA_k hW (by rw [← hR5]; rfl) (fun z hz => by rw [← hR5]; rfl)
  · rw [← hR5]; exact sI_eq _ _ _ _
/-- all operands are there: what waited for them is taken off -/
def opR (R : amS) (w hd i : Nat) : amS := ppR (hlR (lkR R w) w hd i) w
/-- all operands are there -/
def OE (Sp Rp T U S R : amS) (cw : Nat → Int64) (tw : Nat → Nat → Int64) (pm fm fmu : Nat → Nat) (np nf : Nat) (own : Nat → Nat × Nat) (fks : Nat → List Nat) (md tc : Nat) (A : Nat → Prop) (g n w hd k p q h fn : Nat) (sc : List scE) (ks : List Nat) (dl b j wt : Nat) (tl : Bool) (bg tot fl : Nat) : Prop :=
  GJ Sp Rp T U S R cw tw pm fm fmu np nf own fks md tc A ∧ OU S R bg tot ∧ cV S (b + h + k) b p wt ∧ (R.1 34 29 = 2 ∧ R.1 34 32 = nI wt ∧ R.1 34 49 = nI w ∧ R.1 34 51 = nI (hd + k) ∧ R.1 34 31 = nI md ∧ R.1 34 53 = -1 ∧ R.1 34 33 = nI fl) ∧ chn (R.1 58) (R.1 34 52) ks ∧ KK Sp Rp S R cw tw fm fmu nf (vR pm fm np nf) g n w hd q h fn sc ks dl b j wt tl ∧ (∀ a, a < k → vR pm fm np nf (R.2 64 (hd + a)) (S.2 31 (b + h + a))) ∧ (∀ x ∈ ks, A x) ∧ WA R w A
theorem op_end {g n' w' i h0 hd0 k pc2 dl2 : Nat} {tl' : Bool} (hX : GvX Sp Rp T U S R cw tw pm fm fmu np nf own fks md tc A (g + 1) n (w' + 1) (hd0 + i) p (h0 + i) fn sc ks dl b j wt tl bg tot) (h33 : R.1 34 33 = nI fl) (hw : w' < 8000) (hhd : hd0 + i < 16000) (hC : chn (R.1 58) (R.1 62 w') ks) (hm : m < 256) (h61 : R.1 61 w' = nI m) (h63 : R.1 63 w' = nI i) (hi : k = i + 1) (hk : k ≤ 5) (hkd : (R.1 60 w' = 2 ∧ Rp.1 44 m = nI k) ∨ (R.1 60 w' = 5 ∧ Rp.1 42 m = nI k)) (c8 : ∀ a, a < i → vR pm fm np nf (R.2 64 (hd0 + a)) (S.2 31 (b + h0 + a))) (hK : KK Sp Rp S R cw tw fm fmu nf (vR pm fm np nf) g n' w' hd0 pc2 h0 fn sc ks dl2 b j wt tl') :
    OE Sp Rp T U S (opR R w' (hd0 + i) i) cw tw pm fm fmu np nf own fks md tc A g n' w' hd0 k p pc2 h0 fn sc ks dl2 b j wt tl' bg tot fl ∧ G_173_49 R = az_bV (G_172_164 (nI m) (R.1 60 w') (hlR (lkR R w') w' (hd0 + i) i)) fun S1 => G_173_49 S1 := by
  obtain ⟨hG, hO, hV, hM, -, hv, hW⟩ := hX
  subst hi
  have hfx := hG.1.2.2.1
  have e1 := hold_j hfx hM.1 hM.2.2.2.2.2 hM.2.2.1 hM.2.2.2.1 hw hhd hm h61 h63 hkd (by omega) hk
  rw [if_pos (nI_le (Nat.le_refl _) (by omega))] at e1
  have hF : mF R (opR R w' (hd0 + i) i) := mF_I (mF_trans (mF_I mF_refl (by omega)) hl_F) (by omega)
  have l64 : ∀ z, z ≠ hd0 + i → (opR R w' (hd0 + i) i).2 64 z = R.2 64 z := fun z hz => hl_64 (R := lkR R w') (w := w') (i := i) hz
  have a64 : (opR R w' (hd0 + i) i).2 64 (hd0 + i) = R.2 34 54 := hl_at (R := lkR R w') (w := w') (i := i)
  refine ⟨⟨GI_keep hG (cQ_G (cG_F cF_refl)) (mQ_F hF), OU_keep hO (cG_F cF_refl) hF, ?_, ⟨hM.1, hM.2.1, rfl, rfl, hM.2.2.2.2.1, hM.2.2.2.2.2, h33⟩, hC, KK_k hK (agr_mk rfl rfl (fun z hz => hl_lo (R := lkR R w') (w := w') (hd := hd0 + i) (i := i) (by omega)) (fun z hz => l64 z (by omega)) (fun _ _ => rfl) (fun _ _ => ⟨rfl, rfl⟩)), fun a ha => ?_, hW w' ks (by omega) hC, WA_le (WA_k hW rfl (fun _ _ => rfl)) (by omega)⟩, e1⟩
  · rw [Nat.add_assoc b h0 (i + 1)]
    exact hV
  · by_cases hq : a = i
    · subst hq
      rw [a64, Nat.add_assoc b h0 a]
      exact hv
    · rw [l64 _ (by omega)]
      exact c8 a (by omega)
/-- the result of a primitive -/
def Pz (Sp Rp T U S R : amS) (fl c n m bg tot : Nat) : Prop := ∃ S' R' tot', G_32_4 (nI fl) (nI c) S = G_32_4 (nI fl) (nI (c + 1)) S' ∧ g_171 (nI m) R = some (.inl none, R') ∧ R'.1 34 33 = nI fl ∧ tot' ≤ tot + 1 ∧ (Gv Sp Rp T U S' R' n bg tot' ∨ ∃ st, (st = 3 ∨ st = 4 ∨ st = 5) ∧ Po T U S' R' st bg tot')
theorem pz_pure {k : Nat} {Sx : amS} {x v : Int64} (hE : OE Sp Rp T U S R cw tw pm fm fmu np nf own fks md tc A g n w hd k p (p + 1) h fn sc ks dl b j wt tl bg tot fl) (hS : G_32_4 (nI fl) (nI c) S = G_32_4 (nI fl) (nI (c + 1)) (phS Sx (b + h) x)) (hSx : cF S Sx) (h31 : Sx.2 31 = S.2 31) (hV : cV Sx (b + h) b (p + 1) wt) (hR : g_171 (nI m) R = some (.inl none, sJ (tfR R hd) 34 54 v)) (hv : vR pm fm np nf v x) : Pz Sp Rp T U S R fl c n m bg tot := by
  obtain ⟨hG, hO, -, hM, hC, hK, hvs, hA, hW⟩ := hE
  have fS : cF S (phS Sx (b + h) x) := cF_trans hSx phS_F
  have fR : mF R (sJ (tfR R hd) 34 54 v) := mF_J (mF_I mF_refl (by omega)) (by omega)
  refine ⟨_, _, tot, hS, hR, hM.2.2.2.2.2.2, by omega, Or.inl (Gv_mk hG hO (cG_F fS) fR (phS_V hV) ⟨hM.1, hM.2.1, hM.2.2.1, rfl, hM.2.2.2.2.1, hM.2.2.2.2.2.1⟩ hK (fun _ _ => ⟨rfl, rfl, rfl, rfl⟩) (fun _ _ => rfl) (fun i hi => ?_) (fun i _ => ⟨?_, ?_⟩) ?_ hW)⟩
  · rw [phS_l (by omega), h31]
  · rw [fS.1 32 (by decide)]
  · rw [fS.1 33 (by decide)]
  · rw [sJ_eq, phS_t]
    exact hv
theorem pz_stop {k st : Nat} {Sx : amS} (hE : OE Sp Rp T U S R cw tw pm fm fmu np nf own fks md tc A g n w hd k p (p + 1) h fn sc ks dl b j wt tl bg tot fl) (hst : st = 3 ∨ st = 4 ∨ st = 5) (hS : G_32_4 (nI fl) (nI c) S = G_32_4 (nI fl) (nI (c + 1)) (stS Sx (nI st) (Rp.1 37 m))) (hSx : cF S Sx) (hV : cV Sx (b + h) b (p + 1) wt) (hR : g_171 (nI m) R = some (.inl none, stR (tfR R hd) (nI st) m)) : Pz Sp Rp T U S R fl c n m bg tot := by
  have hwt := (KK_act hE.2.2.2.2.2.1).2.2.2.2.2.2.1
  obtain ⟨hG, hO, -, hM, hC, hK, hvs, hA, hW⟩ := hE
  have fR : mF R (tfR R hd) := mF_I mF_refl (by omega)
  have hG' := GI_keep hG (cQ_G (cG_F hSx)) (mQ_F fR)
  exact ⟨_, _, tot, hS, hR, hM.2.2.2.2.2.2, by omega, Or.inr ⟨st, hst, Po_st hG'.1 (OU_keep hO (cG_F hSx) fR) hG'.2.1.2.1 hwt hG'.2.1.1 hM.2.2.2.2.1 hV.2.2.2.1 hM.2.1 rfl⟩⟩
theorem vE_eq {v0 v1 x0 x1 : Int64} (hG : GJ Sp Rp T U S R cw tw pm fm fmu np nf own fks md tc A) (h0 : vR pm fm np nf v0 x0) (h1 : vR pm fm np nf v1 x1) : v0 = v1 ↔ x0 = x1 := by
  obtain ⟨hp, hf⟩ := GI_b hG
  obtain ⟨t0, b0, c0, k1, k2, k3, rfl, rfl, k4, k5, k6, k7⟩ := vR_tag h0 hp hf
  obtain ⟨t1, b1, c1, l1, l2, l3, rfl, rfl, l4, l5, l6, l7⟩ := vR_tag h1 hp hf
  rw [vE_inj (by omega) k2 (by omega) l2, vE_inj (by omega) k3 (by omega) l3]
  constructor
  · rintro ⟨rfl, rfl⟩
    refine ⟨rfl, ?_⟩
    have : t0 = 0 ∨ t0 = 1 ∨ t0 = 2 ∨ t0 = 3 := by omega
    rcases this with h | h | h | h
    · rw [← k4 h, ← l4 h]
    · rw [(k7 h).2, (l7 h).2]
    · rw [(k5 h).2, (l5 h).2]
    · rw [(k6 h).2, (l6 h).2]
  · rintro ⟨rfl, rfl⟩
    refine ⟨rfl, ?_⟩
    have : t0 = 0 ∨ t0 = 1 ∨ t0 = 2 ∨ t0 = 3 := by omega
    rcases this with h | h | h | h
    · rw [k4 h, l4 h]
    · rw [(k7 h).1, (l7 h).1]
    · obtain ⟨m1, m2⟩ := k5 h
      obtain ⟨m3, m4⟩ := l5 h
      have o1 := (hG.2.2.1 b0 m1).2.1
      have o2 := (hG.2.2.1 b1 m3).2.1
      rw [← m2, m4, o2] at o1
      exact (show b1 = b0 from congrArg Prod.snd o1).symm
    · obtain ⟨m1, m2⟩ := k6 h
      obtain ⟨m3, m4⟩ := l6 h
      have o1 := (hG.2.2.2.1.2 b0 m1).2.1
      have o2 := (hG.2.2.2.1.2 b1 m3).2.1
      rw [← m2, m4, o2] at o1
      exact (show b1 = b0 from congrArg Prod.snd o1).symm
theorem vR_tr (q : Prop) [Decidable q] : vR pm fm np nf (if q then vE 0 1 else vE 0 0) (if q then vE 0 1 else vE 0 0) := by
  by_cases h : q
  · rw [if_pos h]; exact Or.inl ⟨1, by decide, rfl, rfl⟩
  · rw [if_neg h]; exact Or.inl ⟨0, by decide, rfl, rfl⟩
theorem if_cg {q q' : Prop} [Decidable q] [Decidable q'] {α : Type} {x y : α} (h : q ↔ q') : (if q then x else y) = (if q' then x else y) := by
  by_cases hq : q
  · rw [if_pos hq, if_pos (h.mp hq)]
  · rw [if_neg hq, if_neg (fun h' => hq (h.mpr h'))]
theorem prim_j {o k : Nat} (ho : o < 13) (hE : OE Sp Rp T U S R cw tw pm fm fmu np nf own fks md tc A g n w hd k p (p + 1) h fn sc ks dl b j wt tl bg tot fl) (hm : m < 256) (hc : c + 6 < 1000000) (hp : p ≤ 501) (htot : tot + 1 < 2 ^ 31) (hk : k = if o < 7 then 2 else 1) (h38 : Rp.1 38 m = nI o) (h42 : Rp.1 42 m = nI k) (hcd : cd Sp p (prO o) 0 (Rp.1 37 m)) : Pz Sp Rp T U S R fl c n m bg tot := by
  have hE0 := hE
  obtain ⟨hG, hO, hV, hM, hC, hK, hvs, hA, hW⟩ := hE0
  have hb := GI_b hG
  have hfx := hG.1.2.2.1
  obtain ⟨a1, a2, a3, a4, a5, a6, a7, a8, a9, a10, a11, a12, a13⟩ := KK_act hK
  have hcd := cd_S hG.1 hcd
  have hfr : g_171 (nI m) R = pF (nI m) (nI o) (R.2 64 hd) (R.2 64 (hd + 1)) (tfR R hd) := pr_front hm (by rw [hfx 38 (by decide) (by decide)]; exact h38) (by rw [hfx 42 (by decide) (by decide)]; exact h42) hM.2.2.2.1 (by omega)
  have hkp : 0 < k := by rw [hk]; split <;> omega
  have hv0 := hvs 0 hkp
  rw [Nat.add_zero, Nat.add_zero] at hv0
  obtain ⟨t0, b0, c0, k1, k2, k3, e0, f0, k4, k5, k6, k7⟩ := vR_tag hv0 hb.1 hb.2
  by_cases ho7 : o < 7
  · rw [if_pos ho7] at hk
    subst hk
    have hv1 := hvs 1 (by omega)
    obtain ⟨t1, b1, c1, l1, l2, l3, e1, f1, l4, l5, l6, l7⟩ := vR_tag hv1 hb.1 hb.2
    by_cases ho5 : o < 5
    · by_cases hz : t0 = 0 ∧ t1 = 0
      · obtain ⟨rfl, rfl⟩ := hz
        rw [← k4 rfl] at f0
        rw [← l4 rfl] at f1
        refine pz_pure hE (c_ar ho5 hV (by omega) hp (by omega) hcd f0 f1 k2 l2) p2_F rfl (p2_V hV) (by rw [hfr, e0, e1]; exact m_ar ho5 k2 l2) (Or.inl ⟨_, BitVec.isLt _, rfl, rfl⟩)
      · exact pz_stop (st := 3) hE (Or.inl rfl) (c_ar_bad ho5 hV (by omega) hp (by omega) hcd f0 f1 k3 l3 k1 l1 (by omega)) p2_F (p2_V hV) (by rw [hfr, e0, e1]; exact m_ar_bad hm ho5 k2 l2 k1 l1 (by omega))
    · by_cases h5 : o = 5
      · subst h5
        refine pz_pure hE (c_same hV (by omega) hp (by omega) hcd) p2_F rfl (p2_V hV) (by rw [hfr]; exact m_same) ?_
        rw [if_cg (vE_eq hG hv0 hv1)]
        exact vR_tr _
      · have h6 : o = 6 := by omega
        subst h6
        by_cases hq : md = 2000
        · subst hq
          exact pz_stop (st := 5) hE (Or.inr (Or.inr rfl)) (c_cons_full hV (by omega) hp (by omega) hcd hG.2.1.1) p2_F (p2_V hV) (by rw [hfr]; exact m_cons_full hm hM.2.2.2.2.1)
        · have hmd := hG.2.1.2.1
          have hnn := hG.2.1.2.2.2.2.1
          have fR : mF R (tfR R hd) := mF_I mF_refl (by omega)
          have hG' := GI_keep hG (cQ_G (cG_F (p2_F (S := S) (p := p) (t := b + h)))) (mQ_F fR)
          obtain ⟨z1, z2, z3⟩ := GI_cons hG' (by omega) hv0 hv1
          have hO' := OU_keep hO (cG_F (p2_F (S := S) (p := p) (t := b + h))) fR
          refine ⟨_, coM (tfR R hd) np md (R.2 64 hd) (R.2 64 (hd + 1)), tot, c_cons hV (by omega) hp (by omega) hcd hG.2.1.1 (by omega), by rw [hfr]; exact m_cons (R := tfR R hd) hM.2.2.2.2.1 (by omega) hG.2.1.2.2.1 (by omega), hM.2.2.2.2.2.2, by omega, Or.inl ⟨cw, tw, upn pm np md, fm, fmu, np + 1, nf, upo own md (2, np), fks, md + 1, tc, A, g, w, hd, p + 1, h, fn, sc, ks, dl, b, j, wt, tl, ?_, ?_, phS_V ⟨rfl, hV.2.1, rfl, hV.2.2.2.1, hV.2.2.2.2⟩, ⟨hM.1, hM.2.1, hM.2.2.1, rfl, rfl, hM.2.2.2.2.2.1⟩, ?_, ?_, WA_k hW rfl (fun _ _ => rfl)⟩⟩
          · exact GI_keep z1 (cQ_G (cG_F phS_F)) (mQ_F mF_refl)
          · obtain ⟨o1, o2, o3, o4, o5, o6⟩ := hO'
            exact ⟨o1, o2, o3, o4, o5, o6⟩
          · exact KK_keep g hK ⟨fun x _ => ⟨rfl, rfl, rfl⟩, fun _ _ => ⟨rfl, rfl, rfl, rfl⟩, fun _ _ => rfl, fun i hi => phS_l (by omega), fun i hi => ⟨rfl, rfl⟩, fun _ _ => ⟨rfl, rfl, rfl⟩, Nat.le_refl _, fun v x hx => z2 hx⟩ (B := fun _ => True) (fun _ _ => trivial) (fun _ _ _ _ _ _ => trivial)
          · show vR _ _ _ _ ((sJ (sJ (sJ (sI (tfR R hd) 34 31 (nI (md + 1))) 52 np (R.2 64 hd)) 53 np (R.2 64 (hd + 1))) 34 54 (vE 2 np)).2 34 54) ((phS (mkS (p2S S p (b + h)) md (S.2 31 (b + h)) (S.2 31 (b + h + 1))) (b + h) (vE 2 md)).2 31 (b + h))
            rw [sJ_eq, phS_t]
            exact z3
  · rw [if_neg ho7] at hk
    subst hk
    have h6 : o = 7 ∨ o = 8 ∨ o = 9 ∨ o = 10 ∨ o = 11 ∨ o = 12 := by omega
    by_cases h78 : o = 7 ∨ o = 8
    · have hord : prO o = 17 ∨ prO o = 18 := by rcases h78 with rfl | rfl <;> decide
      by_cases hz : t0 = 2
      · subst hz
        obtain ⟨m1, rfl⟩ := k5 rfl
        refine pz_pure hE (c_apart (prO o) hord hV (by omega) hp (by omega) hcd f0 (hb.1 _ m1).2) p1_F rfl (p1_V hV) (by rw [hfr, e0]; exact m_apart h78 (hb.1 _ m1).1) ?_
        rcases h78 with rfl | rfl
        · rw [if_pos rfl, if_pos (by decide)]
          exact (hG.2.2.1 b0 m1).2.2.1
        · rw [if_neg (by decide), if_neg (by decide)]
          exact (hG.2.2.1 b0 m1).2.2.2
      · exact pz_stop (st := 3) hE (Or.inl rfl) (c_apart_bad (prO o) hord hV (by omega) hp (by omega) hcd f0 k3 k1 hz) p1_F (p1_V hV) (by rw [hfr, e0]; exact m_apart_bad hm h78 k2 k1 hz)
    · by_cases h9 : o = 9
      · subst h9
        exact pz_pure hE (c_isp hV (by omega) hp (by omega) hcd f0 k3 k1) p1_F rfl (p1_V hV) (by rw [hfr, e0]; exact m_isp k2 k1) (vR_tr _)
      · by_cases h10 : o = 10
        · subst h10
          refine pz_pure hE (c_isn hV (by omega) hp (by omega) hcd) p1_F rfl (p1_V hV) (by rw [hfr, e0]; exact m_isn k2 k1) ?_
          have : (t0 = 1) ↔ (S.2 31 (b + h) = vE 1 0) := by
            rw [f0, vE_inj (by omega) k3 (by decide) (by decide)]
            exact ⟨fun h => ⟨h, (k7 h).2⟩, fun h => h.1⟩
          rw [if_cg this]
          exact vR_tr _
        · by_cases h11 : o = 11
          · subst h11
            refine pz_pure hE (c_not hV (by omega) hp (by omega) hcd) p1_F rfl (p1_V hV) (by rw [hfr]; exact m_not) ?_
            rw [if_cg (vR_zero hv0 hb.1 hb.2)]
            exact vR_tr _
          · have h12 : o = 12 := by omega
            subst h12
            by_cases hz : t0 = 0
            · subst hz
              rw [← k4 rfl] at f0
              have hmod : tot % 200 < 200 := Nat.mod_lt _ (by decide)
              refine ⟨_, ouM (tfR R hd) tot (nI b0), tot + 1, c_out hV (by omega) hp (by omega) hcd f0 k2 hO.2.2.2.1 (by omega), by rw [hfr, e0]; exact m_out (R := tfR R hd) k2 hO.2.2.2.2.1 (by omega), hM.2.2.2.2.2.2, by omega, Or.inl ⟨cw, tw, pm, fm, fmu, np, nf, own, fks, md, tc, A, g, w, hd, p + 1, h, fn, sc, ks, dl, b, j, wt, tl, GI_keep hG ⟨fun a ha => ?_, fun a ha => ?_⟩ ⟨fun a h1 h2 => ?_, fun z hz => ?_, fun a h1 h2 => ?_⟩, ⟨hO.1, hO.2.1, hO.2.2.1, rfl, rfl, fun z h1 h2 => ?_⟩, phS_V ⟨rfl, hV.2.1, rfl, hV.2.2.2.1, hV.2.2.2.2⟩, ⟨hM.1, hM.2.1, hM.2.2.1, rfl, hM.2.2.2.2.1, hM.2.2.2.2.2.1⟩, KK_k hK (agr_mk rfl rfl (fun _ _ => ⟨rfl, rfl, rfl, rfl⟩) (fun _ _ => rfl) (fun i hi => phS_l (by omega)) (fun _ _ => ⟨rfl, rfl⟩)), ?_, WA_k hW rfl (fun _ _ => rfl)⟩⟩
              · unfold phS ouS p1S nx
                rw [sI_row, if_neg (by omega)]
                show (sI (sI (sI (sI S 24 10 (nI (p + 1))) 24 8 (nI (b + h))) 30 (tot % 200) (nI b0)) 29 1 (nI (tot + 1))).1 a = _
                rw [sI_row, if_neg (by omega), sI_row, if_neg (by omega), sI_row, if_neg (by omega), sI_row, if_neg (by omega)]
              · exact phS_F.2.2 a ha
              · unfold ouM tfR
                show (sI (sI (sI R 34 51 (nI hd)) 65 (tot % 200) (nI b0)) 34 55 (nI (tot + 1))).1 a = _
                rw [sI_row, if_neg (by omega), sI_row, if_neg (by omega), sI_row, if_neg (by omega)]
              · unfold ouM tfR
                show (sI (sI (sI R 34 51 (nI hd)) 65 (tot % 200) (nI b0)) 34 55 (nI (tot + 1))).1 34 z = _
                rw [sI_nk _ (by omega), sI_na _ (by decide), sI_nk _ (by omega)]
              · funext i
                show (sJ (sI (sI (sI R 34 51 (nI hd)) 65 (tot % 200) (nI b0)) 34 55 (nI (tot + 1))) 34 54 (vE 1 0)).2 a i = _
                rw [sJ_na _ h1]
                rfl
              · show (sI (p1S S p (b + h)) 30 (tot % 200) (nI b0)).1 30 z = (sI (tfR R hd) 65 (tot % 200) (nI b0)).1 65 z
                rw [sI_get, sI_get]
                by_cases hq : z = tot % 200
                · rw [if_pos ⟨rfl, hq⟩, if_pos ⟨rfl, hq⟩]
                · rw [if_neg (fun h => hq h.2), if_neg (fun h => hq h.2)]
                  refine hO.2.2.2.2.2 z h1 ?_
                  have : z ≠ tot := fun h => hq (by rw [h]; exact (Nat.mod_eq_of_lt (by omega)).symm)
                  omega
              · show vR _ _ _ _ ((sJ (sI (sI (tfR R hd) 65 (tot % 200) (nI b0)) 34 55 (nI (tot + 1))) 34 54 (vE 1 0)).2 34 54) _
                rw [sJ_eq, phS_t]
                exact Or.inr (Or.inl ⟨rfl, rfl⟩)
            · exact pz_stop (st := 3) hE (Or.inl rfl) (c_out_bad hV (by omega) hp (by omega) hcd f0 k3 k1 hz) p1_F (p1_V hV) (by rw [hfr, e0]; exact m_out_bad hm k2 k1 hz)
end ROPN
