/-! both sides, step by step: nothing is made -/
section RSIM
variable {Sp Rp T U S R S' R' : amS} {cw : Nat → Int64} {tw : Nat → Nat → Int64} {pm fm fmu : Nat → Nat} {np nf : Nat} {own : Nat → Nat × Nat} {fks : Nat → List Nat} {md tc : Nat} {A : Nat → Prop} {g n w hd p q h fn : Nat} {sc : List scE} {ks : List Nat} {dl dl' b j wt : Nat} {tl : Bool} {f m bg tot fl c : Nat}
theorem wt_lo {k x : Int32} {i : Nat} (hi : i < w) : (wtS R w k x).1 60 i = R.1 60 i ∧ (wtS R w k x).1 61 i = R.1 61 i ∧ (wtS R w k x).1 62 i = R.1 62 i ∧ (wtS R w k x).1 63 i = R.1 63 i := by
  have h9 : ¬ i = w := by omega
  unfold wtS
  refine ⟨?_, ?_, ?_, ?_⟩ <;> simp [sI_get, h9]
theorem wt_at {k x : Int32} : (wtS R w k x).1 60 w = k ∧ (wtS R w k x).1 61 w = x ∧ (wtS R w k x).1 62 w = R.1 34 52 ∧ (wtS R w k x).1 63 w = 0 := by
  unfold wtS
  refine ⟨?_, ?_, ?_, ?_⟩ <;> simp [sI_get]
theorem wt_F {k x : Int32} : mF R (wtS R w k x) := mF_I (mF_W (mF_W (mF_W (mF_W mF_refl (by decide) (by decide)) (by decide) (by decide)) (by decide) (by decide)) (by decide) (by decide)) (by omega)
theorem CX_mk (hG : GJ Sp Rp T U S R cw tw pm fm fmu np nf own fks md tc A) (hO : OU S R bg tot) (hS : cG S S') (hR : mF R R') (hV : cV S' (b + h) b p wt) (hM : R'.1 34 29 = 2 ∧ R'.1 34 32 = nI wt ∧ R'.1 34 49 = nI w ∧ R'.1 34 51 = nI hd ∧ R'.1 34 31 = nI md) (hC : chn (R.1 58) (R'.1 34 52) ks) (hK : KK Sp Rp S R cw tw fm fmu nf (vR pm fm np nf) g n w hd q h fn sc ks dl b j wt tl)
    (k1 : ∀ i, i < w → R'.1 60 i = R.1 60 i ∧ R'.1 61 i = R.1 61 i ∧ R'.1 62 i = R.1 62 i ∧ R'.1 63 i = R.1 63 i) (k2 : ∀ i, i < hd → R'.2 64 i = R.2 64 i) (k3 : ∀ i, i < b + h → S'.2 31 i = S.2 31 i) (k4 : ∀ i, i < wt → S'.1 32 i = S.1 32 i ∧ S'.1 33 i = S.1 33 i) (hA : ∀ x ∈ ks, A x) (hW : WA R w A) :
    CX Sp Rp T U S' R' cw tw pm fm fmu np nf own fks md tc A g n w hd p q h fn sc ks dl b j wt tl bg tot := by
  have e58 : R'.1 58 = R.1 58 := hR.1 58 (by decide) (by decide)
  refine ⟨GI_keep hG (cQ_G hS) (mQ_F hR), OU_keep hO hS hR, hV, hM, by rw [e58]; exact hC, KK_k hK (agr_mk (hR.1 56 (by decide) (by decide)) e58 k1 k2 k3 k4), hA, WA_k hW e58 (fun i hi => (k1 i hi).2.2.1)⟩
theorem CX_now {v : Int32} (hX : CX Sp Rp T U S R cw tw pm fm fmu np nf own fks md tc A g n w hd p q h fn sc ks dl b j wt tl bg tot) : CX Sp Rp T U S (sI R 34 53 v) cw tw pm fm fmu np nf own fks md tc A g n w hd p q h fn sc ks dl b j wt tl bg tot := by
  obtain ⟨hG, hO, hV, hM, hC, hK, hA, hW⟩ := hX
  exact CX_mk hG hO (cG_F cF_refl) (mF_I mF_refl (by omega)) hV hM hC hK (fun _ _ => ⟨rfl, rfl, rfl, rfl⟩) (fun _ _ => rfl) (fun _ _ => rfl) (fun _ _ => ⟨rfl, rfl⟩) hA hW
theorem CX_nx (hX : CX Sp Rp T U S R cw tw pm fm fmu np nf own fks md tc A g n w hd p q h fn sc ks dl b j wt tl bg tot) : CX Sp Rp T U (nx S p) R cw tw pm fm fmu np nf own fks md tc A g n w hd (p + 1) q h fn sc ks dl b j wt tl bg tot := by
  obtain ⟨hG, hO, hV, hM, hC, hK, hA, hW⟩ := hX
  exact CX_mk hG hO (cG_F nx_F) mF_refl (nx_V hV) hM hC hK (fun _ _ => ⟨rfl, rfl, rfl, rfl⟩) (fun _ _ => rfl) (fun _ _ => rfl) (fun _ _ => ⟨rfl, rfl⟩) hA hW
theorem CX_bg (hX : CX Sp Rp T U S R cw tw pm fm fmu np nf own fks md tc A g n w hd p q h fn sc ks dl b j wt tl bg tot) : CX Sp Rp T U (bgS S) (bgR R fl) cw tw pm fm fmu np nf own fks md tc A g n w hd p q h fn sc ks dl b j wt tl (bg + 1) tot := by
  obtain ⟨hG, ⟨o1, o2, o3, o4, o5, o6⟩, hV, hM, hC, hK, hA, hW⟩ := hX
  refine ⟨GI_keep hG ⟨fun a ha => ?_, fun a ha => rfl⟩ ⟨fun a h1 h2 => ?_, fun k hk => ?_, fun a h1 h2 => rfl⟩, ⟨?_, ?_, o3, o4, o5, o6⟩, hV, hM, hC, KK_k hK (agr_mk rfl rfl (fun _ _ => ⟨rfl, rfl, rfl, rfl⟩) (fun _ _ => rfl) (fun _ _ => rfl) (fun _ _ => ⟨rfl, rfl⟩)), hA, hW⟩
  · unfold bgS
    rw [sI_row, if_neg (by omega)]
  · unfold bgR
    rw [sI_row, if_neg (by omega), sI_row, if_neg (by omega)]
  · unfold bgR
    rw [sI_nk _ (by omega), sI_nk _ (by omega)]
  · show S.1 24 12 + 1 = nI (bg + 1)
    rw [o1, nI_1]
  · show R.1 34 30 + 1 = nI (bg + 1)
    rw [o2, nI_1]
/-- something waits: the continuation grows -/
theorem CX_wait {k x : Int32} {n' q' dl2 : Nat} {tl' : Bool} (hX : CX Sp Rp T U S R cw tw pm fm fmu np nf own fks md tc A g n w hd p q h fn sc ks dl b j wt tl bg tot)
    (hnew : ∀ R', KK Sp Rp S R' cw tw fm fmu nf (vR pm fm np nf) g n w hd q h fn sc ks dl b j wt tl → chn (R'.1 58) (R'.1 62 w) ks → R'.1 60 w = k → R'.1 61 w = x → R'.1 63 w = 0 → KK Sp Rp S R' cw tw fm fmu nf (vR pm fm np nf) (g + 1) n' (w + 1) hd q' h fn sc ks dl2 b j wt tl') :
    CX Sp Rp T U S (wtS R w k x) cw tw pm fm fmu np nf own fks md tc A (g + 1) n' (w + 1) hd p q' h fn sc ks dl2 b j wt tl' bg tot := by
  obtain ⟨hG, hO, hV, hM, hC, hK, hA, hW⟩ := hX
  have hF : mF R (wtS R w k x) := wt_F
  have e58 : (wtS R w k x).1 58 = R.1 58 := hF.1 58 (by decide) (by decide)
  have hK' : KK Sp Rp S (wtS R w k x) cw tw fm fmu nf (vR pm fm np nf) g n w hd q h fn sc ks dl b j wt tl := KK_k hK (agr_mk (hF.1 56 (by decide) (by decide)) e58 (fun i hi => wt_lo hi) (fun _ _ => rfl) (fun _ _ => rfl) (fun _ _ => ⟨rfl, rfl⟩))
  obtain ⟨a1, a2, a3, a4⟩ := wt_at (R := R) (w := w) (k := k) (x := x)
  have hC' : chn ((wtS R w k x).1 58) ((wtS R w k x).1 62 w) ks := by rw [e58, a3]; exact hC
  refine ⟨GI_keep hG (cQ_G (cG_F cF_refl)) (mQ_F hF), OU_keep hO (cG_F cF_refl) hF, hV, ⟨hM.1, hM.2.1, rfl, hM.2.2.2.1, hM.2.2.2.2⟩, by rw [e58]; exact hC, hnew _ hK' hC' a1 a2 a4, hA, ?_⟩
  intro i l hi hc z hz
  by_cases hq : i = w
  · subst hq
    rw [chn_det hc hC'] at hz
    exact hA z hz
  · rw [e58, (wt_lo (by omega)).2.2.1] at hc
    exact hW i l (by omega) hc z hz
theorem act_up {n' pc' : Nat} (ha : actK Sp S R cw tw fm fmu nf n w hd q h fn sc ks dl' b j wt) (h1 : dl' ≤ dl) (h2 : dl + 1 ≤ 20) (h3 : pc' ≤ 501) (h4 : n' ≤ n + 5) : actK Sp S R cw tw fm fmu nf n' (w + 1) hd pc' h fn sc ks (dl + 1) b j wt := by
  obtain ⟨a1, a2, a3, a4, a5, a6, a7, a8, a9, a10, a11, a12, a13⟩ := ha
  exact ⟨a1, a2, a3, a4, a5, a6, a7, by omega, h2, a10, by omega, by omega, h3⟩
/-- a body is begun -/
theorem seq_j {c0 rs : Int32} (hX : CX Sp Rp T U S R cw tw pm fm fmu np nf own fks md tc A g n w hd p q h fn sc ks dl' b j wt tl bg tot) (hT : TT Sp Rp true f 1 c0 rs dl p q h fn sc tl) (hdl : dl' ≤ dl) (hn : n + 1 ≤ 7 * dl + 150 * wt + 6) (hw : w + 1 ≤ 2 * dl + 50 * wt + 6) : ∃ R', g_166 c0 R = some (.inl none, R') ∧ R'.1 34 33 = R.1 34 33 ∧ ∃ n', n' ≤ n + 1 ∧ Ev Sp Rp T U S R' n' bg tot := by
  cases f with
  | zero => unfold TT at hT; exact hT.elim
  | succ f =>
    unfold TT at hT
    obtain ⟨m, q1, rfl, hm, hT⟩ := hT
    have e41 : R.1 41 = Rp.1 41 := hX.1.1.2.2.1 41 (by decide) (by decide)
    rcases hT with ⟨h41, -, rfl, hT⟩ | ⟨m', hm', h41, hcd, hT, hT2⟩
    · exact ⟨_, seq_1 hm (by rw [e41]; exact h41), rfl, n, by omega, cw, tw, pm, fm, fmu, np, nf, own, fks, md, tc, A, g, w, hd, p, q, h, fn, sc, ks, dl, dl', b, j, wt, tl, f, m, CX_now hX, rfl, hT, hdl⟩
    · have hact := KK_act hX.2.2.2.2.2.1
      have hwt := hact.2.2.2.2.2.2.1
      obtain ⟨t1, t2, t3, t4, t5⟩ := TT_hd f hT
      refine ⟨_, seq_2 hm (by rw [e41]; exact h41) hm' hX.2.2.2.1.2.2.1 (by omega), rfl, n + 1, Nat.le_refl _, cw, tw, pm, fm, fmu, np, nf, own, fks, md, tc, A, g + 1, w + 1, hd, p, q1, h, fn, sc, ks, dl, dl, b, j, wt, false, f, m, CX_now (CX_wait hX ?_), rfl, hT, Nat.le_refl _⟩
      intro R' hK hc h60 h61 _
      obtain ⟨a1, a2, a3, a4, a5, a6, a7, a8, a9, a10, a11, a12, a13⟩ := KK_act hK
      unfold KK
      exact ⟨⟨a1, a2, a3, a4, a5, a6, a7, by omega, t1, a10, hn, hw, t3⟩, Or.inr (Or.inr (Or.inr (Or.inr ⟨rfl, w, rfl, hc, m', hm', h61, Or.inl ⟨h60, f, rs, q, dl, dl', n, tl, hcd, hT2, Nat.le_refl _, hn, hw, Nat.le_refl _, hdl, hK⟩⟩)))⟩
/-- a value comes at once -/
theorem leaf_j {v x : Int64} (hX : CX Sp Rp T U S R cw tw pm fm fmu np nf own fks md tc A g n w hd p (p + 1) h fn sc ks dl b j wt tl bg tot) (hv : vR pm fm np nf v x) : Gv Sp Rp T U (phS (nx S p) (b + h) x) (sJ (b1R R) 34 54 v) n bg tot := by
  obtain ⟨hG, hO, hV, hM, hC, hK, hA, hW⟩ := hX
  have fS : cF S (phS (nx S p) (b + h) x) := cF_trans nx_F phS_F
  have fR : mF R (sJ (b1R R) 34 54 v) := mF_J (mF_I mF_refl (by omega)) (by omega)
  refine ⟨cw, tw, pm, fm, fmu, np, nf, own, fks, md, tc, A, g, w, hd, p + 1, h, fn, sc, ks, dl, b, j, wt, tl, GI_keep hG (cQ_G (cG_F fS)) (mQ_F fR), OU_keep hO (cG_F fS) fR, phS_V (nx_V hV), ⟨hM.1, hM.2.1, hM.2.2.1, hM.2.2.2.1, hM.2.2.2.2, rfl⟩, KK_k hK (agr_mk rfl rfl (fun _ _ => ⟨rfl, rfl, rfl, rfl⟩) (fun _ _ => rfl) (fun i hi => phS_l (by omega)) (fun _ _ => ⟨rfl, rfl⟩)), ?_, WA_k hW rfl (fun _ _ => rfl)⟩
  rw [sJ_eq, phS_t]
  exact hv
/-- the class and the reference begin an expression -/
def Bg (Sp Rp T U S R : amS) (fl c nE nG bg tot : Nat) : Prop := ∃ S' R', G_32_4 (nI (fl + 1)) (nI c) S = G_32_4 (nI fl) (nI (c + 1)) S' ∧ G_168 (bgR R fl) = some (.inl none, R') ∧ Out Sp Rp T U S' R' fl nE nG bg tot
theorem bg_top (hX : CX Sp Rp T U S R cw tw pm fm fmu np nf own fks md tc A g n w hd p q h fn sc ks dl b j wt tl bg tot) : b + h + 5 ≤ 6405 ∧ w < 8000 ∧ hd + 5 < 16000 := by
  obtain ⟨a1, a2, a3, a4, a5, a6, a7, a8, a9, a10, a11, a12, a13⟩ := KK_act hX.2.2.2.2.2.1
  omega
theorem bg_if {a b2 c2 q1 q2 : Nat} (hX : CX Sp Rp T U S R cw tw pm fm fmu np nf own fks md tc A g n w hd p q h fn sc ks dl' b j wt tl bg tot) (h53 : R.1 34 53 = nI m) (hm : m < 256) (hdl : dl' ≤ dl) (hc : c < 1000000) (hp : p ≤ 501) (hf : fl < 2000)
    (k1 : Rp.1 36 m = 4) (k2 : a < 256) (k3 : b2 < 256) (k4 : c2 < 256) (k5 : Rp.1 39 m = nI a) (k6 : Rp.1 41 a = nI b2) (k8 : Rp.1 40 m = nI c2) (k9 : cd Sp p 1 0 (Rp.1 37 m)) (k10 : TT Sp Rp true f 0 (nI a) 0 (dl + 1) (p + 1) q1 h fn sc false) (k11 : cd Sp q1 10 (nI (q2 + 1)) (Rp.1 37 m)) (k12 : TT Sp Rp true f 0 (nI b2) 0 (dl + 1) (q1 + 1) q2 h fn sc tl) (k13 : cd Sp q2 9 (nI q) (Rp.1 37 m)) (k14 : TT Sp Rp true f 0 (nI c2) 0 (dl + 1) (q2 + 1) q h fn sc tl) : Bg Sp Rp T U S R fl c (n + 5) n (bg + 1) tot := by
  have hX1 := CX_bg (fl := fl) hX
  have hF := hX.1.1
  obtain ⟨t1, t2, t3, t4, t5⟩ := TT_hd f k10
  have hw := (bg_top hX).2.1
  refine ⟨_, _, c_beg0 hX.2.2.1 hc hp (cd_S hF k9) hf, beg_4 (R := bgR R fl) h53 hm (by rw [hX1.1.1.2.2.1 36 (by decide) (by decide)]; exact k1) hX1.2.2.2.1.2.2.1 hw, rfl, Or.inl ⟨n + 5, Nat.le_refl _, cw, tw, pm, fm, fmu, np, nf, own, fks, md, tc, A, g + 1, w + 1, hd, p + 1, q1, h, fn, sc, ks, dl + 1, dl + 1, b, j, wt, false, f, a, CX_now (CX_wait (CX_now (CX_nx hX1)) ?_), ?_, k10, Nat.le_refl _⟩⟩
  · intro R' hK hc2 h60 h61 _
    unfold KK
    exact ⟨act_up (KK_act hK) hdl t1 t3 (Nat.le_refl _), Or.inr (Or.inr (Or.inr (Or.inr ⟨rfl, w, rfl, hc2, m, hm, h61, Or.inr (Or.inl ⟨h60, a, b2, c2, q, q2, f, dl + 1, dl', n, tl, _, _, k2, k3, k4, k5, k6, k8, k11, k12, k13, k14, Nat.le_refl _, by omega, by omega, hK⟩)⟩)))⟩
  · rw [sI_eq, hX1.1.1.2.2.1 39 (by decide) (by decide)]
    exact k5
theorem bg_set {e : scE} {src : Int32} {a q1 : Nat} (hX : CX Sp Rp T U S R cw tw pm fm fmu np nf own fks md tc A g n w hd p (q1 + 1) h fn sc ks dl' b j wt tl bg tot) (h53 : R.1 34 53 = nI m) (hm : m < 256) (hdl : dl' ≤ dl) (hc : c < 1000000) (hp : p ≤ 501) (hf : fl < 2000)
    (k1 : Rp.1 36 m = 7) (k2 : e ∈ sc) (k3 : a < 256) (k4 : Rp.1 38 m = nI e.2.2.1) (k5 : Sp.1 9 e.2.1 = 1) (k6 : Lo Sp fn e src) (k7 : cd Sp p 1 0 (Rp.1 37 m)) (k8 : Rp.1 39 m = nI a) (k9 : TT Sp Rp true f 0 (nI a) 0 (dl + 1) (p + 1) q1 h fn sc false) (k10 : cd Sp q1 12 src (Rp.1 37 m)) : Bg Sp Rp T U S R fl c (n + 5) n (bg + 1) tot := by
  have hX1 := CX_bg (fl := fl) hX
  have hF := hX.1.1
  obtain ⟨t1, t2, t3, t4, t5⟩ := TT_hd f k9
  have hw := (bg_top hX).2.1
  refine ⟨_, _, c_beg0 hX.2.2.1 hc hp (cd_S hF k7) hf, beg_7 (R := bgR R fl) h53 hm (by rw [hX1.1.1.2.2.1 36 (by decide) (by decide)]; exact k1) hX1.2.2.2.1.2.2.1 hw, rfl, Or.inl ⟨n + 5, Nat.le_refl _, cw, tw, pm, fm, fmu, np, nf, own, fks, md, tc, A, g + 1, w + 1, hd, p + 1, q1, h, fn, sc, ks, dl + 1, dl + 1, b, j, wt, false, f, a, CX_now (CX_wait (CX_now (CX_nx hX1)) ?_), ?_, k9, Nat.le_refl _⟩⟩
  · intro R' hK hc2 h60 h61 _
    unfold KK
    exact ⟨act_up (KK_act hK) hdl t1 t3 (Nat.le_refl _), Or.inr (Or.inr (Or.inr (Or.inr ⟨rfl, w, rfl, hc2, m, hm, h61, Or.inr (Or.inr (Or.inr (Or.inl ⟨h60, e, src, dl', n, tl, _, k2, k4, k5, k6, k10, by omega, by omega, hK⟩)))⟩)))⟩
  · rw [sI_eq, hX1.1.1.2.2.1 39 (by decide) (by decide)]
    exact k8
theorem bg_begin (hX : CX Sp Rp T U S R cw tw pm fm fmu np nf own fks md tc A g n w hd p q h fn sc ks dl' b j wt tl bg tot) (h53 : R.1 34 53 = nI m) (hm : m < 256) (hdl : dl' ≤ dl) (hc : c < 1000000) (hp : p ≤ 501) (hf : fl < 2000)
    (k1 : Rp.1 36 m = 8) (k2 : cd Sp p 1 0 (Rp.1 37 m)) (k3 : TT Sp Rp true f 1 (Rp.1 39 m) (Rp.1 40 m) (dl + 1) (p + 1) q h fn sc tl) : Bg Sp Rp T U S R fl c (n + 5) n (bg + 1) tot := by
  have hX1 := CX_bg (fl := fl) hX
  have hF := hX.1.1
  obtain ⟨a1, a2, a3, a4, a5, a6, a7, a8, a9, a10, a11, a12, a13⟩ := KK_act hX.2.2.2.2.2.1
  obtain ⟨R', r1, r2, n', r3, r4⟩ := seq_j (CX_now (v := -1) (CX_nx hX1)) k3 (by omega) (by omega) (by omega)
  refine ⟨_, R', c_beg0 hX.2.2.1 hc hp (cd_S hF k2) hf, ?_, r2.trans rfl, Or.inl ⟨n', by omega, r4⟩⟩
  rw [beg_8 (R := bgR R fl) h53 hm (by rw [hX1.1.1.2.2.1 36 (by decide) (by decide)]; exact k1), hX1.1.1.2.2.1 39 (by decide) (by decide)]
  rw [show b1R (bgR R fl) = sI (bgR R fl) 34 53 (-1) from rfl, r1, bV_v]
/-- operands wait: a let, a primitive, a call -/
theorem bg_opn {k q1 : Nat} {cs qs : Nat → Nat} {kd : Int32} {pc2 : Nat} (hX : CX Sp Rp T U S R cw tw pm fm fmu np nf own fks md tc A g n w hd p pc2 h fn sc ks dl' b j wt tl bg tot) (hm : m < 256) (hdl : dl' ≤ dl) (hc : c < 1000000) (hp : p ≤ 501) (hf : fl < 2000)
    (hbeg : G_168 (bgR R fl) = some (.inl none, sI (wtS (b1R (bgR R fl)) w kd (nI m)) 34 53 ((bgR R fl).1 39 m))) (k0 : 1 ≤ k) (k5' : k ≤ 5) (k1 : cd Sp p 1 0 (Rp.1 37 m)) (k2 : opq Rp k m (p + 1) q1 cs qs) (k3 : ∀ i, i < k → TT Sp Rp true f 0 (nI (cs i)) 0 (dl + 1) (qs i) (qs (i + 1)) (h + i) fn sc false)
    (k4 : (kd = 2 ∧ Rp.1 36 m = 5 ∧ Rp.1 44 m = nI k ∧ ∃ vs c0 q2 f2 x, k = vs.length ∧ k ≤ 4 ∧ (∀ i, i < k → cd Sp (q1 + i) 11 (nI (c0 + i)) (Rp.1 37 m)) ∧ bnd Sp Rp m c0 h fn vs ∧ TT Sp Rp true f2 1 (Rp.1 41 (cs (k - 1))) (Rp.1 40 m) (dl + 1) (q1 + k) q2 (h + k) fn (vs ++ sc) tl ∧ cd Sp q2 13 (nI k) x ∧ pc2 = q2 + 1) ∨
           (kd = 5 ∧ Rp.1 36 m = 9 ∧ Rp.1 42 m = nI k ∧ ∃ o, o < 13 ∧ Rp.1 38 m = nI o ∧ k = (if o < 7 then 2 else 1) ∧ cd Sp q1 (prO o) 0 (Rp.1 37 m) ∧ pc2 = q1 + 1) ∨
           (kd = 5 ∧ Rp.1 36 m = 10 ∧ Rp.1 42 m = nI k ∧ ∃ k', k = k' + 1 ∧ cd Sp q1 (if tl then 15 else 14) (nI k') (Rp.1 37 m) ∧ Rp.1 45 m = b2i tl ∧ pc2 = q1 + 1)) : Bg Sp Rp T U S R fl c (n + 5) n (bg + 1) tot := by
  have hX1 := CX_bg (fl := fl) hX
  have hF := hX.1.1
  have hT0 := k3 0 (by omega)
  obtain ⟨t1, t2, t3, t4, t5⟩ := TT_hd f hT0
  have hw := (bg_top hX).2.1
  have e0 : qs 0 = p + 1 := k2.1
  rw [e0, Nat.add_zero] at hT0
  refine ⟨_, _, c_beg0 hX.2.2.1 hc hp (cd_S hF k1) hf, hbeg, rfl, Or.inl ⟨n + 5, Nat.le_refl _, cw, tw, pm, fm, fmu, np, nf, own, fks, md, tc, A, g + 1, w + 1, hd, p + 1, qs 1, h, fn, sc, ks, dl + 1, dl + 1, b, j, wt, false, f, cs 0, CX_now (CX_wait (CX_now (CX_nx hX1)) ?_), ?_, hT0, Nat.le_refl _⟩⟩
  · intro R' hK hc2 h60 h61 h63
    unfold KK
    refine ⟨act_up (KK_act hK) hdl t1 t3 (Nat.le_refl _), Or.inr (Or.inr (Or.inr (Or.inr ⟨rfl, w, rfl, hc2, m, hm, h61, Or.inr (Or.inr (Or.inr (Or.inr ⟨0, h, hd, k, p + 1, q1, cs, qs, f, dl + 1, dl', pc2, n, tl, rfl, rfl, by omega, k5', h63, rfl, k2, k3, fun a ha => absurd ha (by omega), Nat.le_refl _, by omega, by omega, hK, ?_⟩)))⟩)))⟩
    rw [h60]
    exact k4
  · rw [sI_eq, hX1.1.1.2.2.1 39 (by decide) (by decide)]
    exact k2.2.2.1
end RSIM
