/-! let, both sides -/
section RLET
variable {Sp Rp T U S R S0 R0 S' R' : amS} {cw cw0 : Nat → Int64} {tw : Nat → Nat → Int64} {pm fm fmu : Nat → Nat} {np nf : Nat} {own : Nat → Nat × Nat} {fks : Nat → List Nat} {md tc : Nat} {A : Nat → Prop} {g n w hd p q h fn : Nat} {sc : List scE} {ks : List Nat} {dl dl' b j wt : Nat} {tl : Bool} {f m bg tot fl c : Nat}
theorem cV_of {t p : Nat} (h : cV S t b p wt) (h24 : S'.1 24 = S.1 24) : cV S' t b p wt := by
  unfold cV
  rw [h24]
  exact h
theorem let_loop {ks L : List Nat} {lw : Nat → List Nat} {s0 kn hx m c0 fn tt : Nat} {y l2 : Int32} (hm : m < 256) (hkn : kn ≤ 4) (hw : w ≤ 8000) (h49 : R0.1 34 49 = nI w) (h51 : R0.1 34 51 = nI hx) (hhx : hx + 4 < 16000) (hlw : ∀ i, i < w → chn (R0.1 58) (R0.1 62 i) (lw i) ∧ ∀ x ∈ lw i, x ∈ ks ∨ x ∈ L) (hL : L.length ≤ 3480) (hks : kn + ks.length ≤ 58) (hs : b + (s0 + kn) < 6405) :
    ∀ (r vd : List scE) (kd : List Nat) (S R : amS) (cw : Nat → Int64) (own : Nat → Nat × Nat) (md : Nat) (A : Nat → Prop) (c p : Nat), BI Sp Rp T U S0 R0 S R cw0 cw tw pm fm fmu np nf own fks md tc A vd kd ks b s0 kn hx w hd wt → cV S tt b p wt → p + r.length ≤ 502 → (∀ a, a < r.length → cd Sp (p + a) 11 (nI (c0 + vd.length + a)) y) → bnd Sp Rp m c0 s0 fn (r.reverse ++ vd) → r.length + vd.length = kn → md + cnB Sp r ≤ 2000 → c + r.length < 1000000 →
      ∃ S' R' kd' cw' own' md' A', G_32_4 l2 (nI c) S = G_32_4 l2 (nI (c + r.length)) S' ∧ cV S' tt b (p + r.length) wt ∧ G_169_33 (nI m) (nI kn) (nI vd.length) R = G_169_33 (nI m) (nI kn) (nI kn) R' ∧ BI Sp Rp T U S0 R0 S' R' cw0 cw' tw pm fm fmu np nf own' fks md' tc A' (r.reverse ++ vd) kd' ks b s0 kn hx w hd wt ∧ md' = md + cnB Sp r
  | [], vd, kd, S, R, cw, own, md, A, c, p, hB, hV, hp, hcd, hb, hl, hmd, hc => by
    have hl' : vd.length = kn := by simpa using hl
    refine ⟨S, R, kd, cw, own, md, A, rfl, hV, by rw [hl'], hB, rfl⟩
  | e :: r, vd, kd, S, R, cw, own, md, A, c, p, hB, hV, hp, hcd, hb, hl, hmd, hc => by
    rw [List.length_cons] at hp hl hc
    rw [List.reverse_cons, List.append_assoc, List.singleton_append] at hb
    have ec : cnB Sp (e :: r) = cnB Sp r + (if Sp.1 9 e.2.1 = 0 then 0 else 1) := rfl
    have hbn : bnd Sp Rp m c0 s0 fn (e :: vd) := bnd_suf hb
    have hfx := hB.1.1
    have hkl := hB.2.2.1
    have c1 := hcd 0 (by simp)
    rw [Nat.add_zero, Nat.add_zero] at c1
    obtain ⟨S1, R1, k, cw1, own1, md1, A1, z1, z2, z3, z4, z5⟩ := BI_step (y := y) (BI_nx (p := p) hB) hbn (by omega) (nx_V hV).2.1 (by omega) hw h49 hlw (by rw [List.length_append]; omega) (fun h9 => by rw [ec, h9, if_neg (by decide)] at hmd; omega)
    have hV1 : cV S1 tt b (p + 1) wt := cV_of (nx_V hV) (z3 24 (by decide))
    obtain ⟨S', R', kd', cw', own', md', A', y1, y2, y3, y4, y5⟩ := let_loop hm hkn hw h49 h51 hhx hlw hL hks hs r (e :: vd) (k :: kd) S1 (sI R1 34 52 (nI k)) cw1 own1 md1 A1 (c + 1) (p + 1) z5 hV1 (by omega) (fun a ha => by
      have := hcd (a + 1) (by rw [List.length_cons]; omega)
      rw [show p + (a + 1) = p + 1 + a by omega, show c0 + vd.length + (a + 1) = c0 + (e :: vd).length + a by rw [List.length_cons]; omega] at this
      exact this) hb (by rw [List.length_cons]; omega) (by rw [z4]; rw [ec] at hmd; omega) (by omega)
    refine ⟨S', R', kd', cw', own', md', A', ?_, ?_, ?_, ?_, ?_⟩
    · rw [c_bind hV (by omega) (by omega) (cd_S hfx c1) z1, y1, List.length_cons, show c + 1 + r.length = c + (r.length + 1) by omega]
    · rw [List.length_cons, show p + (r.length + 1) = p + 1 + r.length by omega]; exact y2
    · rw [← y3, List.length_cons]
      have e4 : (4 : Int32) * nI m + nI vd.length = nI (4 * m + vd.length) := by rw [show (4 : Int32) = nI 4 from rfl, pk_mul, nI_add]
      have e51 : R.1 34 51 = nI hx := by rw [hB.2.2.2.2.2.2.2.2.1.1 51 (by decide) (by decide)]; exact h51
      have e43 : R.1 43 (4 * m + vd.length) = nI e.2.2.1 := by rw [hfx.2.2.1 43 (by decide) (by decide)]; exact hbn.2.2.1
      rw [G_169_33_eq]
      unfold B_169_33
      rw [if_neg (nI_ge (by omega) (by omega)), e4, az_ck_in (show 4 * m + vd.length < 1024 by omega) (by decide), e51, nI_add, az_ck_in (show hx + vd.length < 16000 by omega) (by decide), nI_clamp (by omega), nI_clamp (by omega), e43, z2, bI_i, nI_1]
      rfl
    · rw [List.reverse_cons, List.append_assoc, List.singleton_append]
      exact y4
    · rw [y5, z4, ec]
      omega
/-- too many boxes: the class stops -/
theorem let_full {s0 m c0 fn tt kn : Nat} {y l2 : Int32} (hkn : kn ≤ 4) (hs : b + (s0 + kn) < 6405) :
    ∀ (r vd : List scE) (S : amS) (md c p : Nat), (∀ a, a ≤ 20 → S.1 a = Sp.1 a) → cV S tt b p wt → S.1 25 3 = nI md → md ≤ 2000 → 2000 < md + cnB Sp r → p + r.length ≤ 502 → (∀ a, a < r.length → cd Sp (p + a) 11 (nI (c0 + vd.length + a)) y) → bnd Sp Rp m c0 s0 fn (r.reverse ++ vd) → r.length + vd.length = kn → c + r.length < 1000000 →
      ∃ S' o, o ≤ r.length ∧ G_32_4 l2 (nI c) S = G_32_4 l2 (nI (c + o)) S' ∧ S'.1 24 13 = 5 ∧ S'.1 24 14 = y ∧ S'.1 25 3 = nI 2000 ∧ (∀ a, a ≠ 24 → a ≠ 25 → S'.1 a = S.1 a) ∧ (∀ k, k ≠ 10 → k ≠ 13 → k ≠ 14 → S'.1 24 k = S.1 24 k)
  | [], vd, S, md, c, p, hfx, hV, h25, hmd, hov, hp, hcd, hb, hl, hc => by
    rw [show cnB Sp [] = 0 from rfl] at hov
    omega
  | e :: r, vd, S, md, c, p, hfx, hV, h25, hmd, hov, hp, hcd, hb, hl, hc => by
    rw [List.length_cons] at hp hl hc ⊢
    rw [List.reverse_cons, List.append_assoc, List.singleton_append] at hb
    have ec : cnB Sp (e :: r) = cnB Sp r + (if Sp.1 9 e.2.1 = 0 then 0 else 1) := rfl
    rw [ec] at hov
    obtain ⟨n1, n2, n3, n4, n5, n6, n7, n8, n9⟩ := bnd_suf hb
    have c1 := hcd 0 (by simp)
    rw [Nat.add_zero, Nat.add_zero, ← n1] at c1
    have c1 : cd S p 11 (nI e.2.1) y := by
      unfold cd
      rw [hfx 2 (by decide), hfx 3 (by decide), hfx 4 (by decide)]
      exact c1
    have hcd' : ∀ a, a < r.length → cd Sp (p + 1 + a) 11 (nI (c0 + (e :: vd).length + a)) y := fun a ha => by
      have := hcd (a + 1) (by rw [List.length_cons]; omega)
      rw [show p + (a + 1) = p + 1 + a by omega, show c0 + vd.length + (a + 1) = c0 + (e :: vd).length + a by rw [List.length_cons]; omega] at this
      exact this
    have nxr : ∀ a, a ≠ 24 → (nx S p).1 a = S.1 a := fun a ha => by unfold nx; rw [sI_row, if_neg ha]
    have nxk : ∀ k, k ≠ 10 → (nx S p).1 24 k = S.1 24 k := fun k hk => by unfold nx; rw [sI_nk _ hk]
    have s9 : (nx S p).1 9 e.2.1 = Sp.1 9 e.2.1 := by rw [nxr 9 (by decide), hfx 9 (by decide)]
    have s7 : (nx S p).1 7 e.2.1 = nI (s0 + vd.length) := by rw [nxr 7 (by decide), hfx 7 (by decide)]; exact n4
    rcases n6 with h0 | h0
    · rw [if_pos h0] at hov
      obtain ⟨S', o, y1, y2, y3, y4, y5, y6, y7⟩ := let_full (l2 := l2) hkn hs r (e :: vd) (nx S p) md (c + 1) (p + 1) (fun a ha => (nxr a (by omega)).trans (hfx a ha)) (nx_V hV) h25 hmd (by omega) (by omega) hcd' hb (by rw [List.length_cons]; omega) (by omega)
      refine ⟨S', o + 1, by omega, ?_, y3, y4, y5, fun a a1 a2 => (y6 a a1 a2).trans (nxr a a1), fun k k1 k2 k3 => (y7 k k1 k2 k3).trans (nxk k k1)⟩
      rw [c_bind hV (by omega) (by omega) c1 (box_no n7 (by rw [s9]; exact h0)), y2, show c + 1 + o = c + (o + 1) by omega]
    · have hne : ¬ Sp.1 9 e.2.1 = 0 := by rw [h0]; decide
      rw [if_neg hne] at hov
      by_cases hq : md = 2000
      · subst hq
        refine ⟨stS (nx S p) 5 y, 1, by omega, c_bind hV (by omega) (by omega) c1 (box_full n7 (by rw [s9]; exact h0) s7 (nx_V hV).2.1 (by omega) h25), rfl, rfl, h25, fun a a1 a2 => ?_, fun k k1 k2 k3 => ?_⟩
        · unfold stS
          rw [sI_row, if_neg a1, sI_row, if_neg a1]
          exact nxr a a1
        · unfold stS
          rw [sI_nk _ k3, sI_nk _ k2]
          exact nxk k k1
      · have hbx := box_yes (y := y) n7 (by rw [s9]; exact h0) s7 (nx_V hV).2.1 (show b + (s0 + vd.length) < 6405 by omega) h25 (by omega)
        have z1 : ∀ a, a ≠ 25 → (bxS (nx S p) md (b + (s0 + vd.length))).1 a = (nx S p).1 a := fun a ha => by
          unfold bxS mkS
          show (sI (sJ (sJ (nx S p) 26 md _) 27 md _) 25 3 _).1 a = _
          rw [sI_row, if_neg ha]
          rfl
        obtain ⟨S', o, y1, y2, y3, y4, y5, y6, y7⟩ := let_full (l2 := l2) hkn hs r (e :: vd) (bxS (nx S p) md (b + (s0 + vd.length))) (md + 1) (c + 1) (p + 1) (fun a ha => ((z1 a (by omega)).trans (nxr a (by omega))).trans (hfx a ha)) (cV_of (nx_V hV) (z1 24 (by decide))) rfl (by omega) (by omega) (by omega) hcd' hb (by rw [List.length_cons]; omega) (by omega)
        refine ⟨S', o + 1, by omega, ?_, y3, y4, y5, fun a a1 a2 => ((y6 a a1 a2).trans (z1 a a2)).trans (nxr a a1), fun k k1 k2 k3 => ((y7 k k1 k2 k3).trans (by rw [z1 24 (by decide)])).trans (nxk k k1)⟩
        rw [c_bind hV (by omega) (by omega) c1 hbx, y2, show c + 1 + o = c + (o + 1) by omega]
/-- from the operands of a let to its body -/
theorem bodyw_m {cs : Nat → Nat} {k : Nat} (hk : 1 ≤ k) (hk4 : k ≤ 4) (hcs : ∀ z, z < k → cs z < 256) (h41 : ∀ z, z + 1 < k → R.1 41 (cs z) = nI (cs (z + 1))) : ∀ (r z : Nat), z + r + 1 = k → G_167_42 (nI (cs z)) (nI k) (nI z) R = some (.inl (some (.int (R.1 41 (cs (k - 1))))), R) := by
  intro r
  induction r with
  | zero =>
    intro z hz
    rw [G_167_42_eq]
    unfold B_167_42
    simp only [az_st]
    rw [if_neg (nI_ge (by omega) (by omega)), az_ck_in (hcs z (by omega)) (by decide), nI_clamp (by have := hcs z (by omega); omega), nI_1, G_167_42_eq]
    unfold B_167_42
    rw [if_pos (nI_le (by omega) (by omega)), show k - 1 = z by omega]
  | succ r ih =>
    intro z hz
    rw [G_167_42_eq]
    unfold B_167_42
    simp only [az_st]
    rw [if_neg (nI_ge (by omega) (by omega)), az_ck_in (hcs z (by omega)) (by decide), nI_clamp (by have := hcs z (by omega); omega), nI_1, h41 z (by omega)]
    exact ih (z + 1) (by omega)
theorem body_m {cs : Nat → Nat} {k : Nat} (hm : m < 256) (hk : 1 ≤ k) (hk4 : k ≤ 4) (h36 : R.1 36 m = 5 ∨ R.1 36 m = 6) (h44 : R.1 44 m = nI k) (h39 : R.1 39 m = nI (cs 0)) (hcs : ∀ z, z < k → cs z < 256) (h41 : ∀ z, z + 1 < k → R.1 41 (cs z) = nI (cs (z + 1))) : G_167 (nI m) R = some (.inl (some (.int (R.1 41 (cs (k - 1))))), R) := by
  have e : G_167_42 (nI (cs 0)) (nI k) 0 R = _ := bodyw_m hk hk4 hcs h41 (k - 1) 0 (by omega)
  unfold G_167 G_167_28 G_167_38
  simp only [az_st]
  rcases h36 with h36 | h36
  · rw [az_ck_in hm (by decide), nI_clamp (by omega), az_ck_in hm (by decide), h36, if_pos rfl, az_ck_in hm (by decide), h39, h44, e]
  · rw [az_ck_in hm (by decide), nI_clamp (by omega), az_ck_in hm (by decide), h36, if_neg (by decide), az_ck_in hm (by decide), if_pos rfl, az_ck_in hm (by decide), h39, h44, e]
theorem BI_WA {vd : List scE} {kd ks : List Nat} {s0 kn hx : Nat} (h : BI Sp Rp T U S0 R0 S R cw0 cw tw pm fm fmu np nf own fks md tc A vd kd ks b s0 kn hx w hd wt) (hl : ∀ i, i < w → ∃ l, chn (R0.1 58) (R0.1 62 i) l) : WA R w A := by
  intro i l hi hc x hx
  obtain ⟨l', hl'⟩ := hl i hi
  have h8 := h.2.2.2.2.2.2.2.1
  have hc' : chn (R.1 58) (R.1 62 i) l' := by
    rw [(h8.2.1 i hi).2.2.1]
    exact chn_keep hl' (fun z hz => (h8.1 z (Or.inr ⟨i, l', hi, hl', hz⟩)).2.1)
  rw [chn_det hc hc'] at hx
  exact h.2.2.2.2.2.2.1.2 x (Or.inr ⟨i, l', hi, hl', hx⟩)
theorem BI_OU {vd : List scE} {kd ks : List Nat} {s0 kn hx : Nat} (h : BI Sp Rp T U S0 R0 S R cw0 cw tw pm fm fmu np nf own fks md tc A vd kd ks b s0 kn hx w hd wt) (hO : OU S0 R0 bg tot) : OU S R bg tot := by
  obtain ⟨-, -, -, -, -, -, -, -, ⟨h9, h9b, -⟩, h10, h11⟩ := h
  obtain ⟨o1, o2, o3, o4, o5, o6⟩ := hO
  refine ⟨(h11 12 (by decide)).trans o1, (h9 30 (by decide) (by decide)).trans o2, ?_, ?_, (h9 55 (by decide) (by decide)).trans o5, fun z z1 z2 => ?_⟩
  · rw [h11 14 (by decide), h9 6 (by decide) (by decide)]; exact o3
  · rw [h10 29 (by decide) (by decide)]; exact o4
  · rw [h10 30 (by decide) (by decide), h9b 65 (by decide) (by decide) (by decide) (by decide)]; exact o6 z z1 z2
/-- chains of what waits, as a function -/
theorem reach_fn (hK : KK Sp Rp S R cw tw fm fmu nf (vR pm fm np nf) g n w hd q h fn sc ks dl b j wt tl) : ∃ (L : List Nat) (lw : Nat → List Nat), L.length ≤ 58 * wt ∧ ∀ i, i < w → chn (R.1 58) (R.1 62 i) (lw i) ∧ ∀ x ∈ lw i, x ∈ ks ∨ x ∈ L := by
  obtain ⟨L, l1, l2⟩ := KK_reach g hK
  have : ∀ i, ∃ l, i < w → (chn (R.1 58) (R.1 62 i) l ∧ ∀ x ∈ l, x ∈ ks ∨ x ∈ L) := fun i => by
    by_cases hi : i < w
    · obtain ⟨l, hl⟩ := l2 i hi
      exact ⟨l, fun _ => hl⟩
    · exact ⟨[], fun h => absurd h hi⟩
  obtain ⟨lw, hlw⟩ := Classical.axiomOfChoice this
  exact ⟨L, lw, l1, fun i hi => hlw i hi⟩
theorem scl_app {r : Nat → Int32} : ∀ {a b : List scE} {x y : List Nat}, scl r a x → scl r b y → scl r (a ++ b) (x ++ y)
  | [], _, [], _, _, h => h
  | e :: a, _, k :: x, _, h, h' => ⟨h.1, scl_app h.2 h'⟩
  | [], _, _ :: _, _, h, _ => h.elim
  | _ :: _, _, [], _, h, _ => h.elim
/-- the scope with new variables -/
theorem env_new {vs sc : List scE} {kd ks : List Nat} {twj : Nat → Int64} {s0 : Nat} (hl : vs.length = kd.length) (h5 : ∀ p ∈ vs.zip kd, (∃ s, Sp.1 7 p.1.2.1 = nI s ∧ s0 ≤ s ∧ s < s0 + vs.length ∧ S.2 31 (b + s) = cw p.2) ∧ (Sp.1 9 p.1.2.1 = 1 → ∃ x, x < 2000 ∧ cw p.2 = vE 4 x)) (hfn : ∀ e ∈ vs, e.2.2.2 = fn) (hE : env Sp (S.2 31) twj cw b (s0 + vs.length) fn sc ks) : env Sp (S.2 31) twj cw b (s0 + vs.length) fn (vs ++ sc) (kd ++ ks) := by
  intro p hp
  rw [List.zip_append hl] at hp
  rcases List.mem_append.mp hp with hp | hp
  · obtain ⟨⟨s, q1, q2, q3, q4⟩, q5⟩ := h5 p hp
    exact ⟨fun _ => ⟨s, q3, q1, q4⟩, fun hne => absurd (hfn _ (List.of_mem_zip hp).1) hne, q5⟩
  · exact hE p hp
def Lz (Sp Rp T U S R : amS) (fl c n m bg tot : Nat) : Prop := ∃ S' R' o, G_32_4 (nI fl) (nI c) S = G_32_4 (nI fl) (nI (c + o)) S' ∧ G_169 (nI m) R = some (.inl none, R') ∧ R'.1 34 33 = nI fl ∧ o ≤ 4 ∧ ((∃ n', n' ≤ n + 2 ∧ Ev Sp Rp T U S' R' n' bg tot) ∨ ∃ st, (st = 3 ∨ st = 4 ∨ st = 5) ∧ Po T U S' R' st bg tot)
theorem let_j {k q1 q2 c0 dl1 p0 : Nat} {vs : List scE} {cs qs : Nat → Nat} {x : Int32} (hE : OE Sp Rp T U S R cw tw pm fm fmu np nf own fks md tc A g n w hd k q1 (q2 + 1) h fn sc ks dl b j wt tl bg tot fl) (hm : m < 256) (hc : c + 6 < 1000000) (k1 : 1 ≤ k) (h36 : Rp.1 36 m = 5) (h44 : Rp.1 44 m = nI k) (hkv : k = vs.length) (hk4 : k ≤ 4) (hop : opq Rp k m p0 q1 cs qs) (hcd : ∀ i, i < k → cd Sp (q1 + i) 11 (nI (c0 + i)) (Rp.1 37 m)) (hb : bnd Sp Rp m c0 h fn vs) (hT : TT Sp Rp true f 1 (Rp.1 41 (cs (k - 1))) (Rp.1 40 m) dl1 (q1 + k) q2 (h + k) fn (vs ++ sc) tl) (hdl : dl + 1 ≤ dl1) (h13 : cd Sp q2 13 (nI k) x) : Lz Sp Rp T U S R fl c n m bg tot := by
  obtain ⟨hG, hO, hV, hM, hC, hK, hvs, hA, hW⟩ := hE
  have hact := KK_act hK
  obtain ⟨a1, a2, a3, a4, a5, a6, a7, a8, a9, a10, a11, a12, a13⟩ := hact
  obtain ⟨t1, t2, t3, t4, t5⟩ := TT_hd f hT
  have tq := (TT_head f _ _ _ _ _ _ _ _ _ _ hT).1
  have hfx := hG.1.2.2.1
  obtain ⟨q1', q2', q3', q4', q5'⟩ := hop
  have hlen : vs.length + ks.length ≤ 58 := by rw [List.length_append, scl_len a1] at t4; exact t4
  have hrr : vs.reverse.reverse ++ [] = vs := by rw [List.reverse_reverse, List.append_nil]
  have hcnt := count_m (R := R) (Sp := Sp) (Rp := Rp) (c0 := c0) (s0 := h) (fn := fn) hm (by rw [hfx 44 (by decide) (by decide)]; exact h44) hk4 hfx vs.reverse [] (by rw [hrr]; exact hb) (by rw [List.length_reverse]; simp [hkv])
  rw [hrr] at hcnt
  have hcnt' : G_164 (nI m) R = _ := hcnt
  have hcl := cnB_le (Sp := Sp) (vs := vs)
  have hmd := hG.2.1.2.1
  by_cases hov : md + cnB Sp vs ≤ 2000
  · -- room for all boxes
    generalize hR2 : sI (sI R 34 31 (nI (md + cnB Sp vs))) 34 51 (nI hd) = R2
    have e169 : G_169 (nI m) R = G_169_33 (nI m) (nI k) 0 R2 := by
      unfold G_169
      simp only [az_st]
      rw [az_ck_in hm (by decide), nI_clamp (by omega), hcnt', bI_i, obj_y hM.2.2.2.2.1 hov, bI_i, if_neg (by decide), show (sI R 34 31 (nI (md + cnB Sp vs))).1 34 51 = nI (hd + k) from hM.2.2.2.1, hfx 44 (by decide) (by decide), h44, pk_sub (by omega), Nat.add_sub_cancel, hR2]
    have o2 : ∀ a, a ≠ 34 → R2.1 a = R.1 a := fun a ha => by rw [← hR2, sI_row, if_neg ha, sI_row, if_neg ha]
    have o34 : ∀ z, z ≠ 31 → z ≠ 51 → R2.1 34 z = R.1 34 z := fun z z1 z2 => by rw [← hR2, sI_nk _ z2, sI_nk _ z1]
    have oJ : R2.2 = R.2 := by rw [← hR2]; rfl
    have hG2 : GJ Sp Rp T U S R2 cw tw pm fm fmu np nf own fks md tc A := GI_keep hG (cQ_G (cG_F cF_refl)) ⟨fun a b1 b2 => o2 a (by omega), fun z hz => o34 z (by omega) (by omega), fun a _ _ => by rw [oJ]⟩
    have hO2 : OU S R2 bg tot := by
      obtain ⟨z1, z2, z3, z4, z5, z6⟩ := hO
      exact ⟨z1, by rw [o34 30 (by decide) (by decide)]; exact z2, by rw [o34 6 (by decide) (by decide)]; exact z3, z4, by rw [o34 55 (by decide) (by decide)]; exact z5, by rw [o2 65 (by decide)]; exact z6⟩
    have hK2 : KK Sp Rp S R2 cw tw fm fmu nf (vR pm fm np nf) g n w hd (q2 + 1) h fn sc ks dl b j wt tl := KK_k hK (agr_mk (o2 56 (by decide)) (o2 58 (by decide)) (fun i _ => ⟨by rw [o2 60 (by decide)], by rw [o2 61 (by decide)], by rw [o2 62 (by decide)], by rw [o2 63 (by decide)]⟩) (fun _ _ => by rw [oJ]) (fun _ _ => rfl) (fun _ _ => ⟨rfl, rfl⟩))
    have hW2 : WA R2 w A := WA_k hW (o2 58 (by decide)) (fun i _ => by rw [o2 62 (by decide)])
    have hC2 : chn (R2.1 58) (R2.1 34 52) ks := by rw [o2 58 (by decide), o34 52 (by decide) (by decide)]; exact hC
    obtain ⟨L, lw, hL1, hlw⟩ := reach_fn hK2
    have hBA : ∀ x, BB R2 w ks x → A x := by
      rintro x (hx | ⟨i, l, hi, hc, hx⟩)
      · exact hA x hx
      · exact hW2 i l hi hc x hx
    have hB0 : BI Sp Rp T U S R2 S R2 cw cw tw pm fm fmu np nf own fks md tc A [] [] ks b h k hd w hd wt :=
      ⟨hG2, hC2, rfl, trivial, fun p hp => (by cases hp), fun a _ ha => by rw [oJ, ← Nat.add_assoc]; exact hvs a ha, ⟨hA, hBA⟩, ⟨fun _ _ => ⟨rfl, rfl, rfl⟩, fun _ _ => ⟨rfl, rfl, rfl, rfl⟩, fun _ _ => rfl, fun _ _ => rfl, fun _ _ => ⟨rfl, rfl⟩, fun _ _ => ⟨rfl, rfl, rfl⟩, Nat.le_refl _, fun _ _ h => h⟩, ⟨fun _ _ _ => rfl, fun _ _ _ _ _ => rfl, fun _ _ => rfl⟩, fun _ _ _ => rfl, fun _ _ => rfl⟩
    have hlr : vs.reverse.length = k := by rw [List.length_reverse, hkv]
    obtain ⟨S', R', kd', cw', own', md', A', y1, y2, y3, y4, y5⟩ := let_loop (l2 := nI fl) (y := Rp.1 37 m) (m := m) (c0 := c0) (fn := fn) (tt := b + h + k) hm hk4 (by omega) (by rw [o34 49 (by decide) (by decide)]; exact hM.2.2.1) (by rw [← hR2]; exact sI_eq _ _ _ _) (by omega) hlw (by omega) (by omega) (by omega) vs.reverse [] [] S R2 cw own md A c q1 hB0 hV (by rw [hlr]; omega) (fun a ha => by rw [hlr] at ha; exact hcd a ha) (by rw [hrr]; exact hb) (by rw [hlr]; rfl) (by rw [cnB_rev]; exact hov) (by rw [hlr]; omega)
    rw [hlr] at y1 y2
    rw [hrr] at y4
    rw [cnB_rev] at y5
    have y3' : G_169_33 (nI m) (nI k) 0 R2 = _ := y3
    have hBI := y4
    obtain ⟨b1, b2, b3, b4, b5, b6, ⟨b7, b7b⟩, b8, ⟨b9, b9b, b9c⟩, b10, b11⟩ := y4
    have hfx' := b1.1.2.2.1
    have hK' := KK_keep g hK2 b8 (fun x hx => Or.inl hx) (fun i l hi hc x hx => Or.inr ⟨i, l, hi, hc, hx⟩)
    obtain ⟨d1, d2, d3, d4, d5, d6, d7, d8, d9, d10, d11, d12, d13⟩ := KK_act hK'
    subst hkv
    have hKL : KK Sp Rp S' R' cw' tw fm fmu nf (vR pm fm np nf) (g + 1) (n + 1) w hd q2 (h + vs.length) fn (vs ++ sc) (kd' ++ ks) dl1 b j wt tl := by
      unfold KK
      exact ⟨⟨scl_app b4 d1, t5, t4, env_new b3 b5 (bnd_mem hb) (env_h d4 (by omega)), d5, d6, d7, t2, t1, by omega, by omega, by omega, t3⟩, Or.inr (Or.inl ⟨vs, sc, kd', ks, h, n, dl, x, h13, rfl, rfl, b3, rfl, hk4, Nat.le_refl _, by omega, hK'⟩)⟩
    have hX : CX Sp Rp T U S' R' cw' tw pm fm fmu np nf own' fks md' tc A' (g + 1) (n + 1) w hd (q1 + vs.length) q2 (h + vs.length) fn (vs ++ sc) (kd' ++ ks) dl1 b j wt tl bg tot := by
      refine ⟨b1, BI_OU hBI hO2, by rw [← Nat.add_assoc]; exact y2, ⟨?_, ?_, ?_, ?_, ?_⟩, b2, hKL, b7, BI_WA hBI (fun i hi => ⟨lw i, (hlw i hi).1⟩)⟩
      · rw [b9 29 (by decide) (by decide), o34 29 (by decide) (by decide)]; exact hM.1
      · rw [b9 32 (by decide) (by decide), o34 32 (by decide) (by decide)]; exact hM.2.1
      · rw [b9 49 (by decide) (by decide), o34 49 (by decide) (by decide)]; exact hM.2.2.1
      · rw [b9 51 (by decide) (by decide), ← hR2]; exact sI_eq _ _ _ _
      · rw [b9 31 (by decide) (by decide), y5, ← hR2, sI_nk _ (by decide)]; exact sI_eq _ _ _ _
    obtain ⟨R3, r1, r2, n', r3, r4⟩ := seq_j hX hT (Nat.le_refl _) (by omega) (by omega)
    have hbd : G_167 (nI m) R' = _ := body_m (cs := cs) hm k1 hk4 (Or.inl (by rw [hfx' 36 (by decide) (by decide)]; exact h36)) (by rw [hfx' 44 (by decide) (by decide)]; exact h44) (by rw [hfx' 39 (by decide) (by decide)]; exact q3') q4' (fun z hz => by rw [hfx' 41 (by decide) (by decide)]; exact q5' z hz)
    refine ⟨S', R3, vs.length, y1, ?_, ?_, hk4, Or.inl ⟨n', by omega, r4⟩⟩
    · rw [e169, y3', G_169_33_eq]
      unfold B_169_33
      rw [if_pos (nI_le (Nat.le_refl _) (by omega)), hbd, bI_i, hfx' 41 (by decide) (by decide), r1, bV_v]
    · rw [r2, b9 33 (by decide) (by decide), o34 33 (by decide) (by decide)]
      exact hM.2.2.2.2.2.2
  · -- too many boxes
    have hlr : vs.reverse.length = k := by rw [List.length_reverse, hkv]
    obtain ⟨S', o, y1, y2, y3, y4, y5, y6, y7⟩ := let_full (Rp := Rp) (l2 := nI fl) (y := Rp.1 37 m) (m := m) (c0 := c0) (s0 := h) (fn := fn) (tt := b + h + k) (kn := k) hk4 (by omega) vs.reverse [] S md c q1 hG.1.1 hV hG.2.1.1 hmd (by rw [cnB_rev]; omega) (by rw [hlr]; omega) (fun a ha => by rw [hlr] at ha; exact hcd a ha) (by rw [hrr]; exact hb) (by rw [hlr]; rfl) (by rw [hlr]; omega)
    rw [hlr] at y1
    refine ⟨S', stR (sI R 34 31 2000) 5 m, o, y2, ?_, hM.2.2.2.2.2.2, by omega, Or.inr ⟨5, Or.inr (Or.inr rfl), y3, rfl, ⟨(y6 21 (by decide) (by decide)).trans hG.1.2.1.1, (y6 22 (by decide) (by decide)).trans hG.1.2.1.2, hG.1.2.2.2.1, hG.1.2.2.2.2.1, hG.1.2.2.2.2.2⟩, ⟨(y7 12 (by decide) (by decide) (by decide)).trans hO.1, hO.2.1, ?_, by rw [y6 29 (by decide) (by decide)]; exact hO.2.2.2.1, hO.2.2.2.2.1, by rw [y6 30 (by decide) (by decide)]; exact hO.2.2.2.2.2⟩, 2000, wt, Nat.le_refl _, a7, y5, rfl, (y7 11 (by decide) (by decide) (by decide)).trans hV.2.2.2.1, hM.2.1⟩⟩
    · unfold G_169
      simp only [az_st]
      rw [az_ck_in hm (by decide), nI_clamp (by omega), hcnt', bI_i, obj_n hM.2.2.2.2.1 (by omega) (by omega) hm, bI_i, if_pos rfl]
    · rw [y4]
      show _ = R.1 37 m
      rw [hfx 37 (by decide) (by decide)]
end RLET
