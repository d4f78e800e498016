/-! both sides: a value is given on -/
section RGIVE
variable {Sp Rp T U S R S' R' : amS} {cw : Nat → Int64} {tw : Nat → Nat → Int64} {pm fm fmu : Nat → Nat} {np nf : Nat} {own : Nat → Nat × Nat} {fks : Nat → List Nat} {md tc : Nat} {A : Nat → Prop} {g n w hd p q h fn : Nat} {sc : List scE} {ks : List Nat} {dl dl' b j wt : Nat} {tl : Bool} {f m bg tot fl c : Nat}
theorem GI_b (hG : GJ Sp Rp T U S R cw tw pm fm fmu np nf own fks md tc A) : (∀ i, i < np → i < 2000 ∧ pm i < 2000) ∧ (∀ i, i < nf → i < 2000 ∧ fm i < 2000) := by
  obtain ⟨-, ⟨h1, h2, h3, h4, h5, h6, h7⟩, h8, h9, -⟩ := hG
  exact ⟨fun i hi => by have := (h8 i hi).1; omega, fun i hi => by have := (h9.2 i hi).1; omega⟩
theorem vR_zero {v x : Int64} (hv : vR pm fm np nf v x) (hp : ∀ i, i < np → i < 2000 ∧ pm i < 2000) (hf : ∀ i, i < nf → i < 2000 ∧ fm i < 2000) : v = 0 ↔ x = 0 := by
  obtain ⟨t, b, c, ht, hb, hc, rfl, rfl, h0, h2, h3, h1⟩ := vR_tag hv hp hf
  rw [vE_0, vE_inj (by omega) hb (by decide) (by decide), vE_inj (by omega) hc (by decide) (by decide)]
  constructor
  · rintro ⟨h, h'⟩; exact ⟨h, by rw [← h0 h]; exact h'⟩
  · rintro ⟨h, h'⟩; exact ⟨h, by rw [h0 h]; exact h'⟩
theorem Gv_mk (hG : GJ Sp Rp T U S R cw tw pm fm fmu np nf own fks md tc A) (hO : OU S R bg tot) (hS : cG S S') (hR : mF R R') (hV : cV S' (b + h + 1) b p wt) (hM : R'.1 34 29 = 2 ∧ R'.1 34 32 = nI wt ∧ R'.1 34 49 = nI w ∧ R'.1 34 51 = nI hd ∧ R'.1 34 31 = nI md ∧ R'.1 34 53 = -1) (hK : KK Sp Rp S R cw tw fm fmu nf (vR pm fm np nf) g n w hd p h fn sc ks dl b j wt tl)
    (k1 : ∀ i, i < w → R'.1 60 i = R.1 60 i ∧ R'.1 61 i = R.1 61 i ∧ R'.1 62 i = R.1 62 i ∧ R'.1 63 i = R.1 63 i) (k2 : ∀ i, i < hd → R'.2 64 i = R.2 64 i) (k3 : ∀ i, i < b + h → S'.2 31 i = S.2 31 i) (k4 : ∀ i, i < wt → S'.1 32 i = S.1 32 i ∧ S'.1 33 i = S.1 33 i) (hv : vR pm fm np nf (R'.2 34 54) (S'.2 31 (b + h))) (hW : WA R w A) :
    Gv Sp Rp T U S' R' n bg tot := by
  have e58 : R'.1 58 = R.1 58 := hR.1 58 (by decide) (by decide)
  exact ⟨cw, tw, pm, fm, fmu, np, nf, own, fks, md, tc, A, g, w, hd, p, h, fn, sc, ks, dl, b, j, wt, tl, GI_keep hG (cQ_G hS) (mQ_F hR), OU_keep hO hS hR, hV, hM, KK_k hK (agr_mk (hR.1 56 (by decide) (by decide)) e58 k1 k2 k3 k4), hv, WA_k hW e58 (fun i hi => (k1 i hi).2.2.1)⟩
theorem WA_le {w' : Nat} (h : WA R w A) (hw : w' ≤ w) : WA R w' A := fun i l hi => h i l (by omega)
theorem CX_rep {g' n' q' dl2 : Nat} {tl' : Bool} (hX : CX Sp Rp T U S R cw tw pm fm fmu np nf own fks md tc A g n w hd p q h fn sc ks dl b j wt tl bg tot) (hK : KK Sp Rp S R cw tw fm fmu nf (vR pm fm np nf) g n w hd q h fn sc ks dl b j wt tl → KK Sp Rp S R cw tw fm fmu nf (vR pm fm np nf) g' n' w hd q' h fn sc ks dl2 b j wt tl') : CX Sp Rp T U S R cw tw pm fm fmu np nf own fks md tc A g' n' w hd p q' h fn sc ks dl2 b j wt tl' bg tot :=
  ⟨hX.1, hX.2.1, hX.2.2.1, hX.2.2.2.1, hX.2.2.2.2.1, hK hX.2.2.2.2.2.1, hX.2.2.2.2.2.2⟩
/-- one step with a value -/
def Gs (Sp Rp T U S R : amS) (fl c n bg tot : Nat) : Prop := ∃ S' R' o tot', G_32_4 (nI fl) (nI c) S = G_32_4 (nI fl) (nI (c + o)) S' ∧ G_173_49 R = G_173_49 R' ∧ R'.1 34 33 = nI fl ∧ o ≤ 5 ∧ tot' ≤ tot + 1 ∧ ((∃ n', n' ≤ n ∧ n' + o ≤ n + 1 ∧ Ev Sp Rp T U S' R' n' bg tot') ∨ (∃ n', n' < n ∧ n' + o ≤ n ∧ Gv Sp Rp T U S' R' n' bg tot') ∨ ∃ st, (st = 3 ∨ st = 4 ∨ st = 5) ∧ Po T U S' R' st bg tot')
theorem gv_jump {g n' q dl' : Nat} {x : Int32} (hX : GvX Sp Rp T U S R cw tw pm fm fmu np nf own fks md tc A (g + 1) n w hd p h fn sc ks dl b j wt tl bg tot) (h33 : R.1 34 33 = nI fl) (hc : c + 6 < 1000000) (hp : p ≤ 501) (c1 : cd Sp p 9 (nI q) x) (c2 : n' + 1 ≤ n) (hK : KK Sp Rp S R cw tw fm fmu nf (vR pm fm np nf) g n' w hd q h fn sc ks dl' b j wt tl) : Gs Sp Rp T U S R fl c n bg tot := by
  obtain ⟨hG, hO, hV, hM, -, hv, hW⟩ := hX
  obtain ⟨S', s1, s2, s3, s4⟩ := c_jump (l2 := nI fl) (c := c) hV (by omega) hp (cd_S hG.1 c1)
  refine ⟨S', R, 1, tot, s1, rfl, h33, by omega, by omega, Or.inr (Or.inl ⟨n', by omega, by omega, Gv_mk hG hO (cG_F s3) mF_refl s2 hM hK (fun _ _ => ⟨rfl, rfl, rfl, rfl⟩) (fun _ _ => rfl) (fun i hi => by rw [s4]) (fun i _ => ⟨by rw [s3.1 32 (by decide)], by rw [s3.1 33 (by decide)]⟩) (by rw [s4]; exact hv) hW⟩)⟩
theorem gv_leave {g n' h' dl' k : Nat} {x : Int32} {sc' : List scE} {ks' : List Nat} (hX : GvX Sp Rp T U S R cw tw pm fm fmu np nf own fks md tc A (g + 1) n w hd p (h' + k) fn sc ks dl b j wt tl bg tot) (h33 : R.1 34 33 = nI fl) (hc : c + 6 < 1000000) (hp : p ≤ 501) (hb : b + (h' + k) < 6405) (c1 : cd Sp p 13 (nI k) x) (c2 : n' + 1 ≤ n) (hK : KK Sp Rp S R cw tw fm fmu nf (vR pm fm np nf) g n' w hd (p + 1) h' fn sc' ks' dl' b j wt tl) : Gs Sp Rp T U S R fl c n bg tot := by
  obtain ⟨hG, hO, hV, hM, -, hv, hW⟩ := hX
  obtain ⟨S', s1, s2, s3, s4, s5⟩ := c_leave (l2 := nI fl) (c := c) (t := b + h') (k := k) (by rw [Nat.add_assoc b h' k]; exact hV) (by omega) hp (by omega) (cd_S hG.1 c1)
  refine ⟨S', R, 1, tot, s1, rfl, h33, by omega, by omega, Or.inr (Or.inl ⟨n', by omega, by omega, Gv_mk hG hO (cG_F s3) mF_refl s2 hM hK (fun _ _ => ⟨rfl, rfl, rfl, rfl⟩) (fun _ _ => rfl) (fun i hi => s5 i hi) (fun i _ => ⟨by rw [s3.1 32 (by decide)], by rw [s3.1 33 (by decide)]⟩) ?_ hW⟩)⟩
  rw [s4, Nat.add_assoc]
  exact hv
theorem gv_return {g n' w' wt' pc' b' h' fn' dl' j' : Nat} {sc' : List scE} {ks' : List Nat} {tl' : Bool} (hX : GvX Sp Rp T U S R cw tw pm fm fmu np nf own fks md tc A (g + 1) n (w' + 1) hd p h fn sc ks dl (b' + h' + 1) j (wt' + 1) tl bg tot) (h33 : R.1 34 33 = nI fl) (hc : c + 6 < 1000000) (hp : p ≤ 501) (hb : b' + h' + 1 + h < 6405) (hw : w' < 8000) (hwt : wt' < 60) (c1 : cd Sp p 16 0 (-1)) (c2 : n' + 1 ≤ n) (c5 : R.1 60 w' = 6) (c7 : S.1 32 wt' = nI pc') (c8 : S.1 33 wt' = nI b') (hK : KK Sp Rp S R cw tw fm fmu nf (vR pm fm np nf) g n' w' hd pc' h' fn' sc' ks' dl' b' j' wt' tl') : Gs Sp Rp T U S R fl c n bg tot := by
  obtain ⟨hG, hO, hV, hM, -, hv, hW⟩ := hX
  obtain ⟨S', s1, s2, s3, s4, s5⟩ := c_ret (l2 := nI fl) (c := c) hV (by omega) (by omega) hp hb hwt (cd_S hG.1 c1) c7 c8
  obtain ⟨m, hm⟩ := nI_any (R.1 61 w')
  have hF : mF R (sI (ppR (lkR R w') w') 34 32 (nI wt')) := mF_I (mF_I (mF_I mF_refl (by omega)) (by omega)) (by omega)
  refine ⟨S', sI (ppR (lkR R w') w') 34 32 (nI wt'), 1, tot, s1, ?_, h33, by omega, by omega, Or.inr (Or.inl ⟨n', by omega, by omega, Gv_mk hG hO (cG_F s3) hF s2 ⟨hM.1, rfl, rfl, hM.2.2.2.1, hM.2.2.2.2.1, hM.2.2.2.2.2⟩ hK (fun _ _ => ⟨rfl, rfl, rfl, rfl⟩) (fun _ _ => rfl) (fun i hi => s5 i (by omega)) (fun i _ => ⟨by rw [s3.1 32 (by decide)], by rw [s3.1 33 (by decide)]⟩) ?_ (WA_le hW (by omega))⟩)⟩
  · rw [ref_give hM.1 hM.2.2.2.2.2, give_w hM.2.2.1 hw hm, c5, if_neg (by decide), if_neg (by decide), pop_6 (R := lkR R w') hM.2.2.1 hM.2.1, bV_v]
  · rw [Nat.add_sub_cancel] at s4
    rw [s4]
    exact hv
theorem gv_end {h : Nat} (hX : GvX Sp Rp T U S R cw tw pm fm fmu np nf own fks md tc A g n 0 hd p h fn sc ks dl b j 0 tl bg tot) (hc : c + 6 < 1000000) (hp : p ≤ 501) (hb : b + h < 6405) (c1 : cd Sp p 7 0 (-1)) : ∃ S' R', G_32_4 (nI fl) (nI c) S = some (.inl (some (.int (nI 1))), S') ∧ G_173_49 R = some (.inl (some (.int (nI 1))), R') ∧ Po T U S' R' 1 bg tot ∧ fiR S' R' := by
  obtain ⟨hG, hO, hV, hM, -, hv, hW⟩ := hX
  obtain ⟨S', s1, s2, s3, s4, s5, s6, s7⟩ := c_end (l2 := nI fl) (c := c) hV (by omega) hp (cd_S hG.1 c1)
  obtain ⟨e1, e2⟩ := GI_b hG
  obtain ⟨hF, ⟨g1, g2, g3, g4, g5, g6, g7⟩, g8, -⟩ := hG
  obtain ⟨o1, o2, o3, o4, o5, o6⟩ := hO
  refine ⟨S', sI R 34 29 1, s1, ?_, ⟨s2, rfl, ⟨?_, ?_, hF.2.2.2.1, hF.2.2.2.2.1, hF.2.2.2.2.2⟩, ⟨?_, o2, ?_, ?_, o5, ?_⟩, md, 0, g2, by omega, ?_, hM.2.2.2.2.1, s4, hM.2.1⟩, pm, fm, np, nf, b + h, s3, hb, ⟨by omega, fun i hi => ⟨(e1 i hi).2, ?_⟩⟩, e1, e2, ?_⟩
  · rw [ref_give hM.1 hM.2.2.2.2.2, give_end hM.2.2.1, bV_v, ref_end (R := sI R 34 29 1) rfl hM.2.1]
    rfl
  · rw [s5 21 (by decide)]; exact hF.2.1.1
  · rw [s5 22 (by decide)]; exact hF.2.1.2
  · rw [s6 12 (by decide) (by decide)]; exact o1
  · rw [s6 14 (by decide) (by decide)]; exact o3
  · rw [s5 29 (by decide)]; exact o4
  · rw [s5 30 (by decide)]; exact o6
  · rw [s5 25 (by decide)]; exact g1
  · rw [s7]; exact (g8 i hi).2.2
  · rw [s7]; exact hv
/-- the wait on top is taken off: its link is in force -/
def tkR (R : amS) (w : Nat) : amS := ppR (lkR R w) w
theorem gv_seq {g n' w' dl1 dl2 : Nat} {rs : Int32} {tl' : Bool} (hX : GvX Sp Rp T U S R cw tw pm fm fmu np nf own fks md tc A (g + 1) n (w' + 1) hd p h fn sc ks dl b j wt tl bg tot) (h33 : R.1 34 33 = nI fl) (hc : c + 6 < 1000000) (hp : p ≤ 501) (hb : b + h < 6405) (hw : w' < 8000) (hC : chn (R.1 58) (R.1 62 w') ks) (h61 : R.1 61 w' = nI m) (c0 : R.1 60 w' = 0) (c1 : cd Sp p 8 0 (-1)) (c2 : TT Sp Rp true f 1 (nI m) rs dl1 (p + 1) q h fn sc tl') (c4 : n ≤ 7 * dl1 + 150 * wt + 6) (c5 : w' + 1 ≤ 2 * dl1 + 50 * wt + 6) (c6 : n' + 1 ≤ n) (c7 : dl2 ≤ dl1) (hK : KK Sp Rp S R cw tw fm fmu nf (vR pm fm np nf) g n' w' hd q h fn sc ks dl2 b j wt tl') : Gs Sp Rp T U S R fl c n bg tot := by
  obtain ⟨hG, hO, hV, hM, -, hv, hW⟩ := hX
  obtain ⟨S', s1, s2, s3, s4⟩ := c_pop (l2 := nI fl) (c := c) hV (by omega) hp hb (cd_S hG.1 c1)
  have hF : mF R (tkR R w') := mF_I (mF_I mF_refl (by omega)) (by omega)
  have hX' : CX Sp Rp T U S' (tkR R w') cw tw pm fm fmu np nf own fks md tc A g n' w' hd (p + 1) q h fn sc ks dl2 b j wt tl' bg tot := CX_mk hG hO (cG_F s3) hF s2 ⟨hM.1, hM.2.1, rfl, hM.2.2.2.1, hM.2.2.2.2.1⟩ hC hK (fun _ _ => ⟨rfl, rfl, rfl, rfl⟩) (fun _ _ => rfl) (fun i hi => by rw [s4]) (fun i _ => ⟨by rw [s3.1 32 (by decide)], by rw [s3.1 33 (by decide)]⟩) (hW w' ks (by omega) hC) (WA_le hW (by omega))
  obtain ⟨R', r1, r2, n2, r3, r4⟩ := seq_j hX' c2 c7 (by omega) (by omega)
  refine ⟨S', R', 1, tot, s1, ?_, r2.trans h33, by omega, by omega, Or.inl ⟨n2, by omega, by omega, r4⟩⟩
  rw [ref_give hM.1 hM.2.2.2.2.2, give_w hM.2.2.1 hw h61, c0, if_neg (by decide), if_neg (by decide), pop_0 (R := lkR R w') hM.2.2.1, show ppR (lkR R w') w' = tkR R w' from rfl, r1, bV_v, bV_v]
theorem gv_choice {g n' w' a b1 c2 q2 dl1 dl2 : Nat} {x y : Int32} {tl' : Bool} (hX : GvX Sp Rp T U S R cw tw pm fm fmu np nf own fks md tc A (g + 1) n (w' + 1) hd p h fn sc ks dl b j wt tl bg tot) (h33 : R.1 34 33 = nI fl) (hc : c + 6 < 1000000) (hp : p ≤ 501) (hb : b + h < 6405) (hw : w' < 8000) (hC : chn (R.1 58) (R.1 62 w') ks) (hm : m < 256) (h61 : R.1 61 w' = nI m) (c0 : R.1 60 w' = 1) (k1 : a < 256) (k2 : b1 < 256) (k3 : c2 < 256) (k4 : Rp.1 39 m = nI a) (k5 : Rp.1 41 a = nI b1) (k6 : Rp.1 40 m = nI c2) (k7 : cd Sp p 10 (nI (q2 + 1)) x) (k8 : TT Sp Rp true f 0 (nI b1) 0 dl1 (p + 1) q2 h fn sc tl') (k9 : cd Sp q2 9 (nI q) y) (k10 : TT Sp Rp true f 0 (nI c2) 0 dl1 (q2 + 1) q h fn sc tl') (k12 : dl2 + 1 ≤ dl1) (c6 : n' + 1 ≤ n) (hK : KK Sp Rp S R cw tw fm fmu nf (vR pm fm np nf) g n' w' hd q h fn sc ks dl2 b j wt tl') : Gs Sp Rp T U S R fl c n bg tot := by
  obtain ⟨hG, hO, hV, hM, -, hv, hW⟩ := hX
  obtain ⟨S', s1, s2, s3, s4⟩ := c_jz (l2 := nI fl) (c := c) hV (by omega) hp hb (cd_S hG.1 k7)
  have hF : mF R (tkR R w') := mF_I (mF_I mF_refl (by omega)) (by omega)
  obtain ⟨e1, e2⟩ := GI_b hG
  have hz := vR_zero hv e1 e2
  have hfx := hG.1.2.2.1
  have eM : G_173_49 R = G_173_49 (sI (tkR R w') 34 53 (if R.2 34 54 = 0 then nI c2 else nI b1)) := by
    rw [ref_give hM.1 hM.2.2.2.2.2, give_w hM.2.2.1 hw h61, c0, if_neg (by decide), if_neg (by decide), pop_1 (R := lkR R w') hM.2.2.1 hm k1 (show R.1 39 m = nI a by rw [hfx 39 (by decide) (by decide)]; exact k4), bV_v, show (lkR R w').1 40 m = nI c2 from (by show R.1 40 m = nI c2; rw [hfx 40 (by decide) (by decide)]; exact k6), show (lkR R w').1 41 a = nI b1 from (by show R.1 41 a = nI b1; rw [hfx 41 (by decide) (by decide)]; exact k5)]
    rfl
  have hX' : ∀ p', cV S' (b + h) b p' wt → CX Sp Rp T U S' (tkR R w') cw tw pm fm fmu np nf own fks md tc A g n' w' hd p' q h fn sc ks dl2 b j wt tl' bg tot := fun p' s2 => CX_mk hG hO (cG_F s3) hF s2 ⟨hM.1, hM.2.1, rfl, hM.2.2.2.1, hM.2.2.2.2.1⟩ hC hK (fun _ _ => ⟨rfl, rfl, rfl, rfl⟩) (fun _ _ => rfl) (fun i hi => by rw [s4]) (fun i _ => ⟨by rw [s3.1 32 (by decide)], by rw [s3.1 33 (by decide)]⟩) (hW w' ks (by omega) hC) (WA_le hW (by omega))
  by_cases hq : R.2 34 54 = 0
  · rw [if_pos (hz.mp hq)] at s2
    rw [if_pos hq] at eM
    exact ⟨S', _, 1, tot, s1, eM, h33, by omega, by omega, Or.inl ⟨n', by omega, by omega, cw, tw, pm, fm, fmu, np, nf, own, fks, md, tc, A, g, w', hd, q2 + 1, q, h, fn, sc, ks, dl1, dl2, b, j, wt, tl', f, c2, CX_now (hX' _ s2), rfl, k10, by omega⟩⟩
  · rw [if_neg (fun h => hq (hz.mpr h))] at s2
    rw [if_neg hq] at eM
    obtain ⟨t1, t2, t3, t4, t5⟩ := TT_hd f k8
    refine ⟨S', _, 1, tot, s1, eM, h33, by omega, by omega, Or.inl ⟨n' + 1, by omega, by omega, cw, tw, pm, fm, fmu, np, nf, own, fks, md, tc, A, g + 1, w', hd, p + 1, q2, h, fn, sc, ks, dl1, dl1, b, j, wt, tl', f, b1, CX_now (CX_rep (hX' _ s2) (fun hk => ?_)), rfl, k8, Nat.le_refl _⟩⟩
    obtain ⟨a1, a2, a3, a4, a5, a6, a7, a8, a9, a10, a11, a12, a13⟩ := KK_act hk
    unfold KK
    exact ⟨⟨a1, a2, a3, a4, a5, a6, a7, by omega, t1, a10, by omega, by omega, t3⟩, Or.inl ⟨q, n', dl2, y, k9, Nat.le_refl _, by omega, hk⟩⟩
theorem env_h {st twj : Nat → Int64} {h' : Nat} (hE : env Sp st twj cw b h fn sc ks) (hh : h ≤ h') : env Sp st twj cw b h' fn sc ks := by
  intro p hp
  obtain ⟨e1, e2, e3⟩ := hE p hp
  refine ⟨fun hq => ?_, e2, e3⟩
  obtain ⟨s, s1, s2⟩ := e1 hq
  exact ⟨s, by omega, s2⟩
theorem hl_F {w hd i : Nat} : mF R (hlR R w hd i) := mF_W (mF_I (mF_J mF_refl (by omega)) (by omega)) (by decide) (by decide)
theorem hl_lo {w hd i z : Nat} (hz : z ≠ w) : (hlR R w hd i).1 60 z = R.1 60 z ∧ (hlR R w hd i).1 61 z = R.1 61 z ∧ (hlR R w hd i).1 62 z = R.1 62 z ∧ (hlR R w hd i).1 63 z = R.1 63 z :=
  ⟨rfl, rfl, rfl, by unfold hlR; rw [sI_nk _ hz]; rfl⟩
theorem hl_64 {w hd i z : Nat} (hz : z ≠ hd) : (hlR R w hd i).2 64 z = R.2 64 z := by
  show (sJ R 64 hd (R.2 34 54)).2 64 z = _
  rw [sJ_nk _ hz]
theorem hl_at {w hd i : Nat} : (hlR R w hd i).2 64 hd = R.2 34 54 := by
  show (sJ R 64 hd (R.2 34 54)).2 64 hd = _
  rw [sJ_eq]
end RGIVE
