/-! calls, both sides -/
section RCALL
variable {Sp Rp T U S R S0 R0 S' R' : amS} {cw cw0 : Nat → Int64} {tw : Nat → Nat → Int64} {pm fm fmu : Nat → Nat} {np nf : Nat} {own : Nat → Nat × Nat} {fks : Nat → List Nat} {md tc : Nat} {A : Nat → Prop} {g n w hd p q h fn : Nat} {sc : List scE} {ks : List Nat} {dl dl' b j wt : Nat} {tl : Bool} {f m bg tot fl c : Nat}
theorem call_loop {ks L : List Nat} {lw : Nat → List Nat} {s0 kn hx m c0 fn : Nat} {y : Int32} (hm : m < 256) (hkn : kn ≤ 4) (hw : w ≤ 8000) (h49 : R0.1 34 49 = nI w) (h51 : R0.1 34 51 = nI hx) (hhx : hx + 5 < 16000) (hlw : ∀ i, i < w → chn (R0.1 58) (R0.1 62 i) (lw i) ∧ ∀ x ∈ lw i, x ∈ ks ∨ x ∈ L) (hL : L.length ≤ 3480) (hks : kn + ks.length ≤ 58) (hs : b + (s0 + kn) < 6405) (hb0 : S0.1 24 9 = nI b) (h13 : S0.1 24 13 = 2) :
    ∀ (r vd : List scE) (kd : List Nat) (S R : amS) (cw : Nat → Int64) (own : Nat → Nat × Nat) (md : Nat) (A : Nat → Prop), BI Sp Rp T U S0 R0 S R cw0 cw tw pm fm fmu np nf own fks md tc A vd kd ks b s0 kn (hx + 1) w hd wt → S.1 24 = S0.1 24 → bnd Sp Rp m c0 s0 fn (r.reverse ++ vd) → r.length + vd.length = kn → md + cnB Sp r ≤ 2000 →
      ∃ S' R' kd' cw' own' md' A', G_44_117 (nI kn) y (nI c0) (nI vd.length) S = some (.inl none, S') ∧ S'.1 24 = S0.1 24 ∧ G_170_155 (nI kn) (nI m) (nI vd.length) R = G_170_155 (nI kn) (nI m) (nI kn) R' ∧ BI Sp Rp T U S0 R0 S' R' cw0 cw' tw pm fm fmu np nf own' fks md' tc A' (r.reverse ++ vd) kd' ks b s0 kn (hx + 1) w hd wt ∧ md' = md + cnB Sp r
  | [], vd, kd, S, R, cw, own, md, A, hB, h24, hb, hl, hmd => by
    have hl' : vd.length = kn := by simpa using hl
    refine ⟨S, R, kd, cw, own, md, A, by rw [hl']; exact bl_end (by omega), h24, by rw [hl'], hB, rfl⟩
  | e :: r, vd, kd, S, R, cw, own, md, A, hB, h24, hb, hl, hmd => by
    rw [List.length_cons] at hl
    rw [List.reverse_cons, List.append_assoc, List.singleton_append] at hb
    have ec : cnB Sp (e :: r) = cnB Sp r + (if Sp.1 9 e.2.1 = 0 then 0 else 1) := rfl
    have hbn : bnd Sp Rp m c0 s0 fn (e :: vd) := bnd_suf hb
    have hfx := hB.1.1
    have hkl := hB.2.2.1
    obtain ⟨S1, R1, k, cw1, own1, md1, A1, z1, z2, z3, z4, z5⟩ := BI_step (y := y) hB hbn (by omega) (by rw [h24]; exact hb0) (by omega) hw h49 hlw (by rw [List.length_append]; omega) (fun h9 => by rw [ec, h9, if_neg (by decide)] at hmd; omega)
    have h24' : S1.1 24 = S0.1 24 := (z3 24 (by decide)).trans h24
    obtain ⟨S', R', kd', cw', own', md', A', y1, y2, y3, y4, y5⟩ := call_loop (y := y) hm hkn hw h49 h51 hhx hlw hL hks hs hb0 h13 r (e :: vd) (k :: kd) S1 (sI R1 34 52 (nI k)) cw1 own1 md1 A1 z5 h24' hb (by rw [List.length_cons]; omega) (by rw [z4]; rw [ec] at hmd; omega)
    rw [List.length_cons] at y1 y3
    refine ⟨S', R', kd', cw', own', md', A', ?_, y2, ?_, ?_, ?_⟩
    · rw [bl_step (by omega) (by omega) (by rw [h24]; exact h13) z1]
      exact y1
    · rw [← y3]
      have e4 : (4 : Int32) * nI m + nI vd.length = nI (4 * m + vd.length) := by rw [show (4 : Int32) = nI 4 from rfl, pk_mul, nI_add]
      have e51 : R.1 34 51 = nI hx := by rw [hB.2.2.2.2.2.2.2.2.1.1 51 (by decide) (by decide)]; exact h51
      have e43 : R.1 43 (4 * m + vd.length) = nI e.2.2.1 := by rw [hfx.2.2.1 43 (by decide) (by decide)]; exact hbn.2.2.1
      rw [G_170_155_eq]
      unfold B_170_155
      rw [if_neg (nI_ge (by omega) (by omega)), e4, az_ck_in (show 4 * m + vd.length < 1024 by omega) (by decide), e51, nI_1, nI_add, az_ck_in (show hx + 1 + vd.length < 16000 by omega) (by decide), nI_clamp (by omega), nI_clamp (by omega), e43, z2, bI_i, nI_1]
      rfl
    · rw [List.reverse_cons, List.append_assoc, List.singleton_append]
      exact y4
    · rw [y5, z4, ec]
      omega
theorem call_full {s0 m c0 fn kn : Nat} {y : Int32} (hkn : kn ≤ 4) (hs : b + (s0 + kn) < 6405) :
    ∀ (r vd : List scE) (S : amS) (md : Nat), (∀ a, a ≤ 20 → S.1 a = Sp.1 a) → S.1 24 9 = nI b → S.1 24 13 = 2 → S.1 25 3 = nI md → md ≤ 2000 → 2000 < md + cnB Sp r → bnd Sp Rp m c0 s0 fn (r.reverse ++ vd) → r.length + vd.length = kn →
      ∃ S', G_44_117 (nI kn) y (nI c0) (nI vd.length) S = some (.inl none, S') ∧ S'.1 24 13 = 5 ∧ S'.1 24 14 = y ∧ S'.1 25 3 = nI 2000 ∧ (∀ a, a ≠ 24 → a ≠ 25 → S'.1 a = S.1 a) ∧ (∀ k, k ≠ 13 → k ≠ 14 → S'.1 24 k = S.1 24 k)
  | [], vd, S, md, hfx, h9, h13, h25, hmd, hov, hb, hl => by
    rw [show cnB Sp [] = 0 from rfl] at hov
    omega
  | e :: r, vd, S, md, hfx, h9, h13, h25, hmd, hov, hb, hl => by
    rw [List.length_cons] at hl
    rw [List.reverse_cons, List.append_assoc, List.singleton_append] at hb
    have ec : cnB Sp (e :: r) = cnB Sp r + (if Sp.1 9 e.2.1 = 0 then 0 else 1) := rfl
    rw [ec] at hov
    obtain ⟨n1, n2, n3, n4, n5, n6, n7, n8, n9⟩ := bnd_suf hb
    have s9 : S.1 9 e.2.1 = Sp.1 9 e.2.1 := by rw [hfx 9 (by decide)]
    have s7 : S.1 7 e.2.1 = nI (s0 + vd.length) := by rw [hfx 7 (by decide)]; exact n4
    rcases n6 with h0 | h0
    · rw [if_pos h0] at hov
      obtain ⟨S', y1, y2⟩ := call_full (y := y) hkn hs r (e :: vd) S md hfx h9 h13 h25 hmd (by omega) hb (by rw [List.length_cons]; omega)
      rw [List.length_cons] at y1
      refine ⟨S', ?_, y2⟩
      rw [bl_step (by omega) (by omega) h13 (by rw [← n1]; exact box_no n7 (by rw [s9]; exact h0))]
      exact y1
    · have hne : ¬ Sp.1 9 e.2.1 = 0 := by rw [h0]; decide
      rw [if_neg hne] at hov
      by_cases hq : md = 2000
      · subst hq
        refine ⟨stS S 5 y, ?_, rfl, rfl, h25, fun a a1 a2 => ?_, fun k k2 k3 => ?_⟩
        · rw [bl_step (by omega) (by omega) h13 (by rw [← n1]; exact box_full n7 (by rw [s9]; exact h0) s7 h9 (by omega) h25)]
          exact bl_stop rfl
        · unfold stS
          rw [sI_row, if_neg a1, sI_row, if_neg a1]
        · unfold stS
          rw [sI_nk _ k3, sI_nk _ k2]
      · have hbx := box_yes (y := y) n7 (by rw [s9]; exact h0) s7 h9 (show b + (s0 + vd.length) < 6405 by omega) h25 (by omega)
        have z1 : ∀ a, a ≠ 25 → (bxS S md (b + (s0 + vd.length))).1 a = S.1 a := fun a ha => by
          unfold bxS mkS
          show (sI (sJ (sJ S 26 md _) 27 md _) 25 3 _).1 a = _
          rw [sI_row, if_neg ha]
          rfl
        obtain ⟨S', y1, y2, y3, y4, y5, y6⟩ := call_full (y := y) hkn hs r (e :: vd) (bxS S md (b + (s0 + vd.length))) (md + 1) (fun a ha => (z1 a (by omega)).trans (hfx a ha)) (by rw [z1 24 (by decide)]; exact h9) (by rw [z1 24 (by decide)]; exact h13) rfl (by omega) (by omega) hb (by rw [List.length_cons]; omega)
        rw [List.length_cons] at y1
        refine ⟨S', ?_, y2, y3, y4, fun a a1 a2 => (y5 a a1 a2).trans (z1 a a2), fun k k1 k2 => (y6 k k1 k2).trans (by rw [z1 24 (by decide)])⟩
        rw [bl_step (by omega) (by omega) h13 (by rw [← n1]; exact hbx)]
        exact y1
/-- the frame stands: parameters are bound, the body is begun -/
theorem call_body {jj m2 pe q1 c0 gR nR w1 pcR hR fnR dlR bR jR wt1 : Nat} {vs sF scR : List scE} {ksR : List Nat} {tlR : Bool} {y : Int32} (hG : GJ Sp Rp T U S0 R0 cw tw pm fm fmu np nf own fks md tc A) (hO : OU S0 R0 bg tot) (hV : cV S0 (bR + hR + 1 + vs.length) (bR + hR + 1) pe (wt1 + 1)) (hM : R0.1 34 29 = 2 ∧ R0.1 34 32 = nI (wt1 + 1) ∧ R0.1 34 49 = nI (w1 + 1) ∧ R0.1 34 51 = nI hd ∧ R0.1 34 31 = nI (md + cnB Sp vs) ∧ R0.1 34 33 = nI fl) (hC : chn (R0.1 58) (R0.1 34 52) (fks jj)) (hj : jj < nf) (hst : S0.2 31 (bR + hR) = vE 3 (fm jj))
    (l1 : m2 < 256) (l4 : Rp.1 44 m2 = nI vs.length) (l5 : vs.length ≤ 4) (l7 : bnd Sp Rp m2 c0 0 (fmu jj) vs) (l8 : TT Sp Rp true f 1 (Rp.1 39 m2) (Rp.1 40 m2) dl pe q1 vs.length (fmu jj) (vs ++ sF) true) (l9 : cd Sp q1 16 0 (-1)) (l10 : ∀ e ∈ sF, e.2.2.2 ≠ fmu jj) (l11 : scl (R0.1 56) sF (fks jj)) (l13 : ∀ x ∈ sF.zip (fks jj), (∀ i t, i < t → t ≤ 26 → Sp.1 17 (fmu jj) = nI t → Sp.1 18 (26 * fmu jj + i) = nI x.1.2.1 → tw jj i = cw x.2) ∧ (Sp.1 9 x.1.2.1 = 1 → ∃ z, z < 2000 ∧ cw x.2 = vE 4 z))
    (hvs : ∀ a, a < vs.length → vR pm fm np nf (R0.2 64 (hd + 1 + a)) (S0.2 31 (bR + hR + 1 + a))) (h60 : R0.1 60 w1 = 6) (hc1 : chn (R0.1 58) (R0.1 62 w1) ksR) (h32 : S0.1 32 wt1 = nI pcR) (h33 : S0.1 33 wt1 = nI bR) (hK : KK Sp Rp S0 R0 cw tw fm fmu nf (vR pm fm np nf) gR nR w1 hd pcR hR fnR scR ksR dlR bR jR wt1 tlR) (hW : WA R0 (w1 + 1) A) (hwt : wt1 < 60) (hmd : md + cnB Sp vs ≤ 2000) :
    ∃ S' R', G_44_117 (nI vs.length) y (nI c0) 0 S0 = some (.inl none, S') ∧ G_170_155 (nI vs.length) (nI m2) 0 R0 = some (.inl none, R') ∧ R'.1 34 33 = nI fl ∧ ∃ n', n' ≤ nR + 2 ∧ Ev Sp Rp T U S' R' n' bg tot := by
  obtain ⟨a1, a2, a3, a4, a5, a6, a7, a8, a9, a10, a11, a12, a13⟩ := KK_act hK
  obtain ⟨t1, t2, t3, t4, t5⟩ := TT_hd f l8
  have hfl := fks_len hG jj hj
  have hlen : vs.length + (fks jj).length ≤ 58 := by rw [List.length_append, scl_len l11] at t4; exact t4
  have hkl := scl_len a1
  have hFA := (hG.2.2.2.1.2 jj hj).2.2.2
  obtain ⟨L, lw0, hL1, hlw0⟩ := reach_fn hK
  have hlw : ∀ i, i < w1 + 1 → chn (R0.1 58) (R0.1 62 i) ((fun i => if i = w1 then ksR else lw0 i) i) ∧ ∀ x ∈ (fun i => if i = w1 then ksR else lw0 i) i, x ∈ fks jj ∨ x ∈ ksR ++ L := fun i hi => by
    by_cases hq : i = w1
    · subst hq
      show chn _ _ (if i = i then ksR else lw0 i) ∧ ∀ x ∈ (if i = i then ksR else lw0 i), _
      rw [if_pos rfl]
      exact ⟨hc1, fun x hx => Or.inr (List.mem_append_left _ hx)⟩
    · show chn _ _ (if i = w1 then ksR else lw0 i) ∧ ∀ x ∈ (if i = w1 then ksR else lw0 i), _
      rw [if_neg hq]
      obtain ⟨y1, y2⟩ := hlw0 i (by omega)
      exact ⟨y1, fun x hx => Or.inr ((y2 x hx).elim (fun h => List.mem_append_left _ h) (fun h => List.mem_append_right _ h))⟩
  have hBA : ∀ x, BB R0 (w1 + 1) (fks jj) x → A x := by
    rintro x (hx | ⟨i, l, hi, hc, hx⟩)
    · exact hFA x hx
    · exact hW i l hi hc x hx
  have hB0 : BI Sp Rp T U S0 R0 S0 R0 cw cw tw pm fm fmu np nf own fks md tc A [] [] (fks jj) (bR + hR + 1) 0 vs.length (hd + 1) (w1 + 1) hd (wt1 + 1) :=
    ⟨hG, hC, rfl, trivial, fun p hp => (by cases hp), fun a _ ha => by rw [Nat.zero_add]; exact hvs a ha, ⟨hFA, hBA⟩, ⟨fun _ _ => ⟨rfl, rfl, rfl⟩, fun _ _ => ⟨rfl, rfl, rfl, rfl⟩, fun _ _ => rfl, fun _ _ => rfl, fun _ _ => ⟨rfl, rfl⟩, fun _ _ => ⟨rfl, rfl, rfl⟩, Nat.le_refl _, fun _ _ h => h⟩, ⟨fun _ _ _ => rfl, fun _ _ _ _ _ => rfl, fun _ _ => rfl⟩, fun _ _ _ => rfl, fun _ _ => rfl⟩
  have hrr : vs.reverse.reverse ++ [] = vs := by rw [List.reverse_reverse, List.append_nil]
  have hlr : vs.reverse.length = vs.length := List.length_reverse
  obtain ⟨S', R', kd', cw', own', md', A', y1, y2, y3, y4, y5⟩ := call_loop (y := y) (m := m2) (c0 := c0) (fn := fmu jj) (L := ksR ++ L) (lw := fun i => if i = w1 then ksR else lw0 i) l1 l5 (by omega) hM.2.2.1 hM.2.2.2.1 (by omega) hlw (by rw [List.length_append]; omega) hlen (by omega) hV.2.1 hV.2.2.2.2 vs.reverse [] [] S0 R0 cw own md A hB0 rfl (by rw [hrr]; exact l7) (by rw [hlr]; rfl) (by rw [cnB_rev]; exact hmd)
  rw [hrr] at y4
  rw [cnB_rev] at y5
  have y1' : G_44_117 (nI vs.length) y (nI c0) 0 S0 = _ := y1
  have y3' : G_170_155 (nI vs.length) (nI m2) 0 R0 = _ := y3
  have hBI := y4
  obtain ⟨b1, b2, b3, b4, b5, b6, ⟨b7, b7b⟩, b8, ⟨b9, b9b, b9c⟩, b10, b11⟩ := y4
  have hfx' := b1.1.2.2.1
  have hcB : ∀ x ∈ ksR, BB R0 (w1 + 1) (fks jj) x := fun x hx => Or.inr ⟨w1, ksR, by omega, hc1, hx⟩
  have hK' := KK_keep gR hK (agr_le b8 (by omega) (Nat.le_refl _) (by omega) (by omega)) hcB (fun i l hi hc x hx => Or.inr ⟨i, l, by omega, hc, hx⟩)
  obtain ⟨e1, e2, e3, e4⟩ := b8.2.1 w1 (by omega)
  obtain ⟨e5, e6⟩ := b8.2.2.2.2.1 wt1 (by omega)
  have hKr : KK Sp Rp S' R' cw' tw fm fmu nf (vR pm fm np nf) (gR + 1) (nR + 1) (w1 + 1) hd q1 vs.length (fmu jj) (vs ++ sF) (kd' ++ fks jj) dl (bR + hR + 1) jj (wt1 + 1) true := by
    unfold KK
    refine ⟨⟨scl_app b4 (scl_keep l11 (fun x hx => (b8.1 x (Or.inl hx)).1)), t5, t4, ?_, fun _ => ⟨by omega, hj, ?_, rfl⟩, by omega, by omega, t2, t1, by omega, by omega, by omega, t3⟩, Or.inr (Or.inr (Or.inl ⟨l9, w1, wt1, pcR, bR, hR, fnR, scR, ksR, dlR, jR, tlR, nR, rfl, rfl, Nat.le_refl _, e1.trans h60, ?_, e5.trans h32, e6.trans h33, rfl, hK'⟩))⟩
    · have := env_new (S := S') (s0 := 0) (cw := cw') (sc := sF) (ks := fks jj) (twj := tw jj) (fn := fmu jj) (b := bR + hR + 1) (Sp := Sp) b3 b5 (bnd_mem l7) (fun x hx => by
        obtain ⟨q1, q2⟩ := l13 x hx
        have hk := (List.of_mem_zip hx).2
        rw [(b8.1 x.2 (Or.inl hk)).2.2]
        exact ⟨fun hne => absurd hne (l10 _ (List.of_mem_zip hx).1), fun _ _ => q1, q2⟩)
      rw [Nat.zero_add] at this
      exact this
    · rw [Nat.add_sub_cancel, b8.2.2.2.1 _ (by omega)]
      exact hst
    · rw [e3]
      exact chn_keep hc1 (fun x hx => (b8.1 x (hcB x hx)).2.1)
  have hX : CX Sp Rp T U S' R' cw' tw pm fm fmu np nf own' fks md' tc A' (gR + 1) (nR + 1) (w1 + 1) hd pe q1 vs.length (fmu jj) (vs ++ sF) (kd' ++ fks jj) dl (bR + hR + 1) jj (wt1 + 1) true bg tot := by
    refine ⟨b1, BI_OU hBI hO, cV_of hV y2, ⟨?_, ?_, ?_, ?_, ?_⟩, b2, hKr, b7, BI_WA hBI (fun i hi => ⟨_, (hlw i hi).1⟩)⟩
    · rw [b9 29 (by decide) (by decide)]; exact hM.1
    · rw [b9 32 (by decide) (by decide)]; exact hM.2.1
    · rw [b9 49 (by decide) (by decide)]; exact hM.2.2.1
    · rw [b9 51 (by decide) (by decide)]; exact hM.2.2.2.1
    · rw [b9 31 (by decide) (by decide), y5]; exact hM.2.2.2.2.1
  obtain ⟨R3, r1, r2, n', r3, r4⟩ := seq_j hX l8 (Nat.le_refl _) (by omega) (by omega)
  refine ⟨S', R3, y1', ?_, ?_, n', by omega, r4⟩
  · rw [y3', G_170_155_eq]
    unfold B_170_155
    rw [if_pos (nI_le (Nat.le_refl _) (by omega)), az_ck_in l1 (by decide), nI_clamp (by omega), hfx' 39 (by decide) (by decide), r1, bV_v]
  · rw [r2, b9 33 (by decide) (by decide)]
    exact hM.2.2.2.2.2
/-- the reference's call, its operands taken off -/
theorem call_m0 {k : Nat} {v0 : Int64} (hm : m < 256) (h42 : R.1 42 m = nI (k + 1)) (h51 : R.1 34 51 = nI (hd + (k + 1))) (hh : hd < 16000) (hv : R.2 64 hd = v0) : G_170 (nI m) R = az_bI (g_157 v0 (tfR R hd)) fun x4 S5 => if x4 = 3 then az_ck (Int64.toInt32 v0) 2000 (G_170_50 (nI m) (nI k) v0 (S5.1 54 (Int64.toInt32 v0).toNatClampNeg) S5) else G_170_50 (nI m) (nI k) v0 ((-1)) S5 := by
  unfold G_170
  simp only [az_st]
  rw [az_ck_in hm (by decide), nI_clamp (by omega), h42, nI_pred, nI_1, h51, pk_sub (by omega), show hd + (k + 1) - (k + 1) = hd by omega, sI_eq, az_ck_in hh (by decide), nI_clamp (by omega), show (sI R 34 51 (nI hd)).2 64 hd = v0 from hv]
  rfl
theorem call_m_bad {k tg b0 : Nat} (hm : m < 256) (h42 : R.1 42 m = nI (k + 1)) (h51 : R.1 34 51 = nI (hd + (k + 1))) (hh : hd < 16000) (hv : R.2 64 hd = vE tg b0) (ht : tg < 3) (hb : b0 < 2 ^ 32) : G_170 (nI m) R = some (.inl none, stR (tfR R hd) 3 m) := by
  rw [call_m0 hm h42 h51 hh hv]
  unfold g_157 G_170_50 G_170_68
  rw [bI_i, vE_kind (by omega) hb, if_neg (fun h => by have := (nI_eq (by omega) (by decide)).mp (show nI tg = nI 3 from h); omega), if_pos (by decide), stop_m hm, bV_v]
theorem call_m_fn {k jj m2 a : Nat} (hm : m < 256) (h42 : R.1 42 m = nI (k + 1)) (h51 : R.1 34 51 = nI (hd + (k + 1))) (hh : hd < 16000) (hv : R.2 64 hd = vE 3 jj) (hj : jj < 2000) (h54 : R.1 54 jj = nI m2) (hm2 : m2 < 256) (h44 : R.1 44 m2 = nI a) : G_170 (nI m) R = if nI a = nI k then if R.1 45 m = 0 then if R.1 34 32 = 60 then some (.inl none, stR (tfR R hd) 4 m) else G_170_100 (nI m) (nI k) (vE 3 jj) (nI m2) (tfR R hd) else G_170_100 (nI m) (nI k) (vE 3 jj) (nI m2) (tfR R hd) else some (.inl none, stR (tfR R hd) 3 m) := by
  rw [call_m0 hm h42 h51 hh hv]
  unfold g_157 G_170_50 G_170_68
  have e54 : (tfR R hd).1 54 jj = nI m2 := h54
  have e44 : (tfR R hd).1 44 m2 = nI a := h44
  rw [bI_i, vE_kind (by decide) (by omega), if_pos (show nI 3 = 3 from rfl), vE_body (by decide) (by omega), az_ck_in hj (by decide), nI_clamp (by omega), e54, if_neg (nI_pos (by omega)), az_ck_in hm2 (by decide), nI_clamp (by omega), e44, az_ck_in hm (by decide), nI_clamp (by omega), stop_m hm, stop_m hm, bV_v, bV_v]
  rfl
def Cz (Sp Rp T U S R : amS) (fl c n m bg tot : Nat) : Prop := ∃ S' R', G_32_4 (nI fl) (nI c) S = G_32_4 (nI fl) (nI (c + 1)) S' ∧ G_170 (nI m) R = some (.inl none, R') ∧ R'.1 34 33 = nI fl ∧ ((∃ n', n' ≤ n + 2 ∧ Ev Sp Rp T U S' R' n' bg tot) ∨ ∃ st, (st = 3 ∨ st = 4 ∨ st = 5) ∧ Po T U S' R' st bg tot)
theorem cz_stop {k st : Nat} (hE : OE Sp Rp T U S R cw tw pm fm fmu np nf own fks md tc A g n w hd (k + 1) p (p + 1) h fn sc ks dl b j wt tl bg tot fl) (hc : c < 1000000) (hp : p ≤ 501) (hst : st = 3 ∨ st = 4 ∨ st = 5) (hcd : cd Sp p (if tl then 15 else 14) (nI k) (Rp.1 37 m)) (hS : G_44 (nI k) (b2i tl) (Rp.1 37 m) (nx S p) = some (.inl none, stS (nx S p) (nI st) (Rp.1 37 m))) (hR : G_170 (nI m) R = some (.inl none, stR (tfR R hd) (nI st) m)) : Cz Sp Rp T U S R fl c n m bg tot := by
  have hwt := (KK_act hE.2.2.2.2.2.1).2.2.2.2.2.2.1
  obtain ⟨hG, hO, hV, hM, hC, hK, hvs, hA, hW⟩ := hE
  have fR : mF R (tfR R hd) := mF_I mF_refl (by omega)
  have hG' := GI_keep hG (cQ_G (cG_F (nx_F (S := S) (p := p)))) (mQ_F fR)
  exact ⟨_, _, c_call hV hc hp tl (cd_S hG.1 hcd) hS, hR, hM.2.2.2.2.2.2, Or.inr ⟨st, hst, Po_st hG'.1 (OU_keep hO (cG_F nx_F) fR) hG'.2.1.2.1 hwt hG'.2.1.1 hM.2.2.2.2.1 (nx_V hV).2.2.2.1 hM.2.1 rfl⟩⟩
theorem call_j {k : Nat} (hE : OE Sp Rp T U S R cw tw pm fm fmu np nf own fks md tc A g n w hd (k + 1) p (p + 1) h fn sc ks dl b j wt tl bg tot fl) (hm : m < 256) (hc : c + 6 < 1000000) (hp : p ≤ 501) (hk4 : k ≤ 4) (h42 : Rp.1 42 m = nI (k + 1)) (h45 : Rp.1 45 m = b2i tl) (hcd : cd Sp p (if tl then 15 else 14) (nI k) (Rp.1 37 m)) : Cz Sp Rp T U S R fl c n m bg tot := by
  have hE0 := hE
  obtain ⟨hG, hO, hV, hM, hC, hK, hvs, hA, hW⟩ := hE0
  have hb := GI_b hG
  have hfx := hG.1.2.2.1
  obtain ⟨a1, a2, a3, a4, a5, a6, a7, a8, a9, a10, a11, a12, a13⟩ := KK_act hK
  have h42' : R.1 42 m = nI (k + 1) := by rw [hfx 42 (by decide) (by decide)]; exact h42
  have h45' : R.1 45 m = b2i tl := by rw [hfx 45 (by decide) (by decide)]; exact h45
  have hv0 := hvs 0 (by omega)
  rw [Nat.add_zero, Nat.add_zero] at hv0
  obtain ⟨t0, b0, c0, k1, k2, k3, e0, f0, k4, k5, k6, k7⟩ := vR_tag hv0 hb.1 hb.2
  have hV1 : cV (nx S p) (b + h + k + 1) b (p + 1) wt := nx_V hV
  have f0' : (nx S p).2 31 (b + h) = vE t0 c0 := f0
  by_cases ht : t0 = 3
  · subst ht
    obtain ⟨hj, rfl⟩ := k6 rfl
    obtain ⟨g1, g2, g3, -⟩ := hG.2.2.2.1.1 b0 hj
    obtain ⟨l0, -, ⟨m2, h54, f2, dlF, pe, q1, cc, vs, sF, l1, l2, l3, l4, l5, l6, l7, l8, l9, l10, l11, l12, l13⟩, l14⟩ := hG.2.2.2.1.2 b0 hj
    have hcf := call_fn (S := nx S p) (n := k) (y := Rp.1 37 m) (lt := b2i tl) hV1.1 (by omega) f0' g1 g3 g2 (show (nx S p).1 15 (fmu b0) = nI vs.length by show S.1 15 (fmu b0) = _; rw [hG.1.1 15 (by decide)]; exact l3)
    have hcm := call_m_fn (k := k) hm h42' hM.2.2.2.1 (by omega) e0 (hb.2 b0 hj).1 h54 l1 (by rw [hfx 44 (by decide) (by decide)]; exact l4)
    by_cases hn : vs.length = k
    · rw [if_pos (by rw [hn])] at hcf hcm
      rw [h45'] at hcm
      subst hn
      -- boxes of the parameters
      have hrr : vs.reverse.reverse ++ [] = vs := by rw [List.reverse_reverse, List.append_nil]
      have hlr : vs.reverse.length = vs.length := List.length_reverse
      have hcl := cnB_le (Sp := Sp) (vs := vs)
      have hmd := hG.2.1.2.1
      have hcount : ∀ X : amS, (∀ a, 36 ≤ a → a ≤ 46 → X.1 a = Rp.1 a) → G_164 (nI m2) X = some (.inl (some (.int (nI (cnB Sp vs)))), X) := fun X hX => by
        have := count_m (R := X) (Sp := Sp) (Rp := Rp) (c0 := cc) (s0 := 0) (fn := fmu b0) l1 (by rw [hX 44 (by decide) (by decide)]; exact l4) l5 hX vs.reverse [] (by rw [hrr]; exact l7) (by rw [hlr]; rfl)
        rw [hrr] at this
        exact this
      have h126 : ∀ X : amS, (∀ a, 36 ≤ a → a ≤ 46 → X.1 a = Rp.1 a) → X.1 34 31 = nI md → G_170_126 (nI m) (nI vs.length) (vE 3 b0) (nI m2) X = if md + cnB Sp vs ≤ 2000 then G_170_155 (nI vs.length) (nI m2) 0 (sI (sI X 34 31 (nI (md + cnB Sp vs))) 34 52 (X.1 55 b0)) else some (.inl none, stR (sI X 34 31 2000) 5 m) := fun X hX h31 => by
        unfold G_170_126
        rw [hcount X hX, bI_i]
        by_cases hov : md + cnB Sp vs ≤ 2000
        · rw [obj_y h31 hov, bI_i, if_neg (by decide), if_pos hov, vE_body (by decide) (by have := (hb.2 b0 hj).1; omega), az_ck_in (hb.2 b0 hj).1 (by decide), nI_clamp (by have := (hb.2 b0 hj).1; omega)]
          rfl
        · rw [obj_n h31 (by omega) (by omega) hm, bI_i, if_pos rfl, if_neg hov]
      cases tl with
      | false =>
        have hcf : G_44 (nI vs.length) (b2i false) (Rp.1 37 m) (nx S p) = _ := hcf
        rw [show b2i false = 0 from rfl, if_pos rfl] at hcf hcm
        rw [hV1.2.2.2.1] at hcf
        rw [hM.2.1] at hcm
        by_cases hw6 : wt = 60
        · subst hw6
          rw [if_pos (by decide)] at hcf
          rw [if_pos (by decide)] at hcm
          exact cz_stop (st := 4) hE (by omega) hp (Or.inr (Or.inl rfl)) hcd hcf hcm
        · rw [if_neg (show ¬ (60 : Int32) ≤ nI wt from nI_ge (b := 60) (by omega) (by decide)), frame_c hV1 (by omega), bV_v, enter_f g2 (show (afS (nx S p) wt (p + 1) b (b + h)).1 13 (fmu b0) = nI pe by show S.1 13 (fmu b0) = _; rw [hG.1.1 13 (by decide)]; exact l2) (show (afS (nx S p) wt (p + 1) b (b + h)).1 16 (fmu b0) = nI cc by show S.1 16 (fmu b0) = _; rw [hG.1.1 16 (by decide)]; exact l6)] at hcf
          rw [if_neg (fun h => by exact hw6 ((nI_eq (by omega) (by decide)).mp (show nI wt = nI 60 from h)))] at hcm
          have h45n : (tfR R hd).1 45 m = 0 := h45'
          have h49n : (tfR R hd).1 34 49 = nI w := hM.2.2.1
          have h32n : (wtS (tfR R hd) w 6 (nI m)).1 34 32 = nI wt := hM.2.1
          unfold G_170_100 at hcm
          simp only [az_st] at hcm
          rw [az_ck_in hm (by decide), nI_clamp (by omega), if_pos h45n, wait_m h49n (by omega), bV_v, h32n, nI_1] at hcm
          generalize hX1 : sI (wtS (tfR R hd) w 6 (nI m)) 34 32 (nI (wt + 1)) = X1 at hcm
          have hF1 : mF R X1 := by rw [← hX1]; exact mF_I (mF_trans (mF_I mF_refl (by omega)) wt_F) (by omega)
          have hfx1 : ∀ a, 36 ≤ a → a ≤ 46 → X1.1 a = Rp.1 a := fun a h1 h2 => (hF1.1 a (by omega) (by omega)).trans (hfx a h1 h2)
          have h31 : X1.1 34 31 = nI md := (hF1.2.1 31 (by decide) (by decide) (by decide) (by decide) (by decide)).trans hM.2.2.2.2.1
          rw [h126 X1 hfx1 h31] at hcm
          generalize hS0 : sI (afS (nx S p) wt (p + 1) b (b + h)) 24 10 (nI pe) = S0 at hcf
          have s1 : ∀ a, a ≠ 24 → a ≠ 32 → a ≠ 33 → S0.1 a = S.1 a := fun a h1 h2 h3 => by
            rw [← hS0, sI_row, if_neg h1]
            unfold afS nx
            rw [sI_row, if_neg h1, sI_row, if_neg h1, sI_row, if_neg h3, sI_row, if_neg h2, sI_row, if_neg h1]
          have s24 : ∀ z, z ≠ 8 → z ≠ 9 → z ≠ 10 → z ≠ 11 → S0.1 24 z = S.1 24 z := fun z h1 h2 h3 h4 => by
            rw [← hS0, sI_nk _ h3]
            unfold afS nx
            rw [sI_nk _ h2, sI_nk _ h4, sI_na _ (by decide), sI_na _ (by decide), sI_nk _ h3]
          have sJ' : S0.2 = S.2 := by rw [← hS0]; rfl
          have hV0 : cV S0 (b + h + 1 + vs.length) (b + h + 1) pe (wt + 1) := by
            rw [← hS0]
            refine ⟨?_, rfl, rfl, rfl, hV.2.2.2.2⟩
            show S.1 24 8 = _
            rw [hV.1, show b + h + (vs.length + 1) = b + h + 1 + vs.length by omega]
          have s32 : ∀ i, i < wt → S0.1 32 i = S.1 32 i ∧ S0.1 33 i = S.1 33 i := fun i hi => by
            rw [← hS0]
            unfold afS nx
            exact ⟨by rw [sI_na _ (by decide), sI_na _ (by decide), sI_na _ (by decide), sI_na _ (by decide), sI_nk _ (by omega), sI_na _ (by decide)], by rw [sI_na _ (by decide), sI_na _ (by decide), sI_na _ (by decide), sI_nk _ (by omega), sI_na _ (by decide), sI_na _ (by decide)]⟩
          have s32w : S0.1 32 wt = nI (p + 1) := by
            rw [← hS0]
            unfold afS nx
            rw [sI_na _ (by decide), sI_na _ (by decide), sI_na _ (by decide), sI_na _ (by decide), sI_eq]
          have s33w : S0.1 33 wt = nI b := by
            rw [← hS0]
            unfold afS nx
            rw [sI_na _ (by decide), sI_na _ (by decide), sI_na _ (by decide), sI_eq]
          have hcG : cG S S0 := ⟨s1, s24, fun a _ => by rw [sJ']⟩
          by_cases hov : md + cnB Sp vs ≤ 2000
          · rw [if_pos hov] at hcm
            generalize hR0 : sI (sI X1 34 31 (nI (md + cnB Sp vs))) 34 52 (X1.1 55 b0) = R0 at hcm
            have o1 : ∀ a, a ≠ 34 → (a < 60 ∨ 63 < a) → R0.1 a = R.1 a := fun a h1 h2 => by rw [← hR0, sI_row, if_neg h1, sI_row, if_neg h1]; exact hF1.1 a h1 h2
            have oW : ∀ a i, a ≠ 34 → R0.1 a i = X1.1 a i := fun a i h1 => by rw [← hR0, sI_na _ h1, sI_na _ h1]
            have o34 : ∀ z, z ≠ 31 → z ≠ 32 → z ≠ 49 → z ≠ 51 → z ≠ 52 → z ≠ 53 → R0.1 34 z = R.1 34 z := fun z h1 h2 h3 h4 h5 h6 => by rw [← hR0, sI_nk _ h5, sI_nk _ h1]; exact hF1.2.1 z h2 h3 h4 h5 h6
            have oJ : ∀ a, a ≠ 34 → a ≠ 64 → R0.2 a = R.2 a := fun a h1 h2 => by rw [← hR0]; exact hF1.2.2 a h1 h2
            have o64 : R0.2 64 = R.2 64 := by rw [← hR0, ← hX1]; rfl
            have hG0 : GJ Sp Rp T U S0 R0 cw tw pm fm fmu np nf own fks md tc A := GI_keep hG (cQ_G hcG) ⟨fun a h1 h2 => o1 a (by omega) (by omega), fun z hz => o34 z (by omega) (by omega) (by omega) (by omega) (by omega) (by omega), oJ⟩
            have hO0 : OU S0 R0 bg tot := by
              obtain ⟨z1, z2, z3, z4, z5, z6⟩ := hO
              refine ⟨(s24 12 (by decide) (by decide) (by decide) (by decide)).trans z1, (o34 30 (by decide) (by decide) (by decide) (by decide) (by decide) (by decide)).trans z2, ?_, by rw [s1 29 (by decide) (by decide) (by decide)]; exact z4, (o34 55 (by decide) (by decide) (by decide) (by decide) (by decide) (by decide)).trans z5, by rw [s1 30 (by decide) (by decide) (by decide), o1 65 (by decide) (by decide)]; exact z6⟩
              rw [s24 14 (by decide) (by decide) (by decide) (by decide), o34 6 (by decide) (by decide) (by decide) (by decide) (by decide) (by decide)]
              exact z3
            have rl : ∀ i, i < w → R0.1 60 i = R.1 60 i ∧ R0.1 61 i = R.1 61 i ∧ R0.1 62 i = R.1 62 i ∧ R0.1 63 i = R.1 63 i := fun i hi => by
              obtain ⟨y1, y2, y3, y4⟩ := wt_lo (R := tfR R hd) (w := w) (k := 6) (x := nI m) hi
              rw [oW 60 i (by decide), oW 61 i (by decide), oW 62 i (by decide), oW 63 i (by decide), ← hX1]
              exact ⟨y1, y2, y3, y4⟩
            obtain ⟨w1, w2, w3, w4⟩ := wt_at (R := tfR R hd) (w := w) (k := 6) (x := nI m)
            have r60 : R0.1 60 w = 6 := by rw [oW 60 w (by decide), ← hX1]; exact w1
            have r62 : R0.1 62 w = R.1 34 52 := by rw [oW 62 w (by decide), ← hX1]; exact w3
            have hK0 : KK Sp Rp S0 R0 cw tw fm fmu nf (vR pm fm np nf) g n w hd (p + 1) h fn sc ks dl b j wt false := KK_k hK (agr_mk (o1 56 (by decide) (by decide)) (o1 58 (by decide) (by decide)) rl (fun i _ => by rw [o64]) (fun i _ => by rw [sJ']) s32)
            have hW0 : WA R0 (w + 1) A := by
              intro i l hi hc x hx
              rw [o1 58 (by decide) (by decide)] at hc
              by_cases hq : i = w
              · subst hq
                rw [r62] at hc
                rw [chn_det hc hC] at hx
                exact hA x hx
              · rw [(rl i (by omega)).2.2.1] at hc
                exact hW i l (by omega) hc x hx
            have hM0 : R0.1 34 29 = 2 ∧ R0.1 34 32 = nI (wt + 1) ∧ R0.1 34 49 = nI (w + 1) ∧ R0.1 34 51 = nI hd ∧ R0.1 34 31 = nI (md + cnB Sp vs) ∧ R0.1 34 33 = nI fl := by
              refine ⟨?_, ?_, ?_, ?_, ?_, ?_⟩
              · rw [o34 29 (by decide) (by decide) (by decide) (by decide) (by decide) (by decide)]; exact hM.1
              · rw [← hR0, ← hX1]; rfl
              · rw [← hR0, ← hX1]; rfl
              · rw [← hR0, ← hX1]; rfl
              · rw [← hR0, sI_nk _ (by decide)]; exact sI_eq _ _ _ _
              · rw [o34 33 (by decide) (by decide) (by decide) (by decide) (by decide) (by decide)]; exact hM.2.2.2.2.2.2
            have hC0 : chn (R0.1 58) (R0.1 34 52) (fks b0) := by
              rw [o1 58 (by decide) (by decide), ← hR0, sI_eq, hF1.1 55 (by decide) (by decide)]
              exact l12
            have hvs0 : ∀ a, a < vs.length → vR pm fm np nf (R0.2 64 (hd + 1 + a)) (S0.2 31 (b + h + 1 + a)) := fun a ha => by
              rw [o64, sJ']
              have := hvs (a + 1) (by omega)
              rw [show hd + (a + 1) = hd + 1 + a by omega, show b + h + (a + 1) = b + h + 1 + a by omega] at this
              exact this
            obtain ⟨S', R', z1, z2, z3, z4⟩ := call_body (jj := b0) (m2 := m2) (pe := pe) (q1 := q1) (c0 := cc) (vs := vs) (sF := sF) (w1 := w) (wt1 := wt) (pcR := p + 1) (bR := b) (hR := h) (ksR := ks) (hd := hd) (fl := fl) (f := f2) (dl := dlF) (y := Rp.1 37 m) hG0 hO0 hV0 hM0 hC0 hj (by rw [sJ']; exact f0) l1 l4 l5 l7 l8 l9 l10 (by rw [o1 56 (by decide) (by decide)]; exact l11) l13 hvs0 r60 (by rw [o1 58 (by decide) (by decide), r62]; exact hC) s32w s33w hK0 hW0 (by omega) hov
            exact ⟨S', R', c_call hV (by omega) hp false (cd_S hG.1 hcd) (hcf.trans z1), hcm.trans z2, z3, Or.inl z4⟩
          · rw [if_neg hov] at hcm
            obtain ⟨S', y1, y2, y3, y4, y5, y6⟩ := call_full (Rp := Rp) (y := Rp.1 37 m) (m := m2) (c0 := cc) (s0 := 0) (fn := fmu b0) (kn := vs.length) (b := b + h + 1) l5 (by omega) vs.reverse [] S0 md (fun a ha => (s1 a (by omega) (by omega) (by omega)).trans (hG.1.1 a ha)) hV0.2.1 hV0.2.2.2.2 (by rw [s1 25 (by decide) (by decide) (by decide)]; exact hG.2.1.1) hmd (by rw [cnB_rev]; omega) (by rw [hrr]; exact l7) (by rw [hlr]; rfl)
            have y1' : G_44_117 (nI vs.length) (Rp.1 37 m) (nI cc) 0 S0 = _ := y1
            have hX1k : ∀ z, z ≠ 32 → z ≠ 49 → z ≠ 51 → z ≠ 52 → z ≠ 53 → X1.1 34 z = R.1 34 z := hF1.2.1
            refine ⟨S', stR (sI X1 34 31 2000) 5 m, c_call hV (by omega) hp false (cd_S hG.1 hcd) (hcf.trans y1'), hcm, ?_, Or.inr ⟨5, Or.inr (Or.inr rfl), y2, rfl, ⟨?_, ?_, ?_, ?_, ?_⟩, ⟨?_, ?_, ?_, ?_, ?_, ?_⟩, 2000, wt + 1, Nat.le_refl _, by omega, y4, rfl, ?_, ?_⟩⟩
            · show X1.1 34 33 = _
              rw [hX1k 33 (by decide) (by decide) (by decide) (by decide) (by decide)]; exact hM.2.2.2.2.2.2
            · rw [y5 21 (by decide) (by decide), s1 21 (by decide) (by decide) (by decide)]; exact hG.1.2.1.1
            · rw [y5 22 (by decide) (by decide), s1 22 (by decide) (by decide) (by decide)]; exact hG.1.2.1.2
            · show X1.1 35 = _
              rw [hF1.1 35 (by decide) (by decide)]; exact hG.1.2.2.2.1
            · show X1.1 34 0 = _
              rw [hX1k 0 (by decide) (by decide) (by decide) (by decide) (by decide)]; exact hG.1.2.2.2.2.1
            · show X1.1 34 2 = _
              rw [hX1k 2 (by decide) (by decide) (by decide) (by decide) (by decide)]; exact hG.1.2.2.2.2.2
            · rw [y6 12 (by decide) (by decide), s24 12 (by decide) (by decide) (by decide) (by decide)]; exact hO.1
            · show X1.1 34 30 = _
              rw [hX1k 30 (by decide) (by decide) (by decide) (by decide) (by decide)]; exact hO.2.1
            · rw [y3]
              show _ = X1.1 37 m
              rw [hfx1 37 (by decide) (by decide)]
            · rw [y5 29 (by decide) (by decide), s1 29 (by decide) (by decide) (by decide)]; exact hO.2.2.2.1
            · show X1.1 34 55 = _
              rw [hX1k 55 (by decide) (by decide) (by decide) (by decide) (by decide)]; exact hO.2.2.2.2.1
            · rw [y5 30 (by decide) (by decide), s1 30 (by decide) (by decide) (by decide)]
              show ∀ z, z < 200 → z < tot → S.1 30 z = X1.1 65 z
              rw [hF1.1 65 (by decide) (by decide)]; exact hO.2.2.2.2.2
            · rw [y6 11 (by decide) (by decide)]; exact hV0.2.2.2.1
            · show X1.1 34 32 = _
              rw [← hX1]; exact sI_eq _ _ _ _
      | true =>
        have hcf : G_44 (nI vs.length) (b2i true) (Rp.1 37 m) (nx S p) = _ := hcf
        rw [show b2i true = 1 from rfl, if_neg (by decide)] at hcf hcm
        obtain ⟨gR, w1, wt1, pcR, bR, hR, fnR, scR, ksR, dlR, jR, tlR, nR, x1, x2, x3, x4, x5, x6, x7, x8, hKR⟩ := KK_tail g hK
        subst x1 x2 x8
        obtain ⟨d1, d2, d3, d4, d5, d6, d7, d8, d9, d10, d11, d12, d13⟩ := KK_act hKR
        obtain ⟨S2, y1, y2, y3, y4, y5⟩ := replace_c (S := nx S p) (t := bR + hR + 1 + h) (n := vs.length) (b0 := bR + hR) hV1.1 hV1.2.1 (by omega) (by omega)
        rw [y1, bV_v, enter_f g2 (show (sI S2 24 8 (nI (bR + hR + 1 + vs.length))).1 13 (fmu b0) = nI pe by show S2.1 13 (fmu b0) = _; rw [y2]; show S.1 13 (fmu b0) = _; rw [hG.1.1 13 (by decide)]; exact l2) (show (sI S2 24 8 (nI (bR + hR + 1 + vs.length))).1 16 (fmu b0) = nI cc by show S2.1 16 (fmu b0) = _; rw [y2]; show S.1 16 (fmu b0) = _; rw [hG.1.1 16 (by decide)]; exact l6)] at hcf
        have h45n : (tfR R hd).1 45 m ≠ 0 := by rw [show (tfR R hd).1 45 m = b2i true from h45']; decide
        unfold G_170_100 at hcm
        simp only [az_st] at hcm
        rw [az_ck_in hm (by decide), nI_clamp (by omega), if_neg h45n] at hcm
        have hF1 : mF R (tfR R hd) := mF_I mF_refl (by omega)
        have hfx1 : ∀ a, 36 ≤ a → a ≤ 46 → (tfR R hd).1 a = Rp.1 a := fun a h1 h2 => (hF1.1 a (by omega) (by omega)).trans (hfx a h1 h2)
        rw [h126 (tfR R hd) hfx1 hM.2.2.2.2.1] at hcm
        generalize hS0 : sI (sI S2 24 8 (nI (bR + hR + 1 + vs.length))) 24 10 (nI pe) = S0 at hcf
        have s1 : ∀ a, a ≠ 24 → S0.1 a = S.1 a := fun a h1 => by
          rw [← hS0, sI_row, if_neg h1, sI_row, if_neg h1, y2]
          exact nx_F.1 a h1
        have s24 : ∀ z, z ≠ 8 → z ≠ 10 → S0.1 24 z = S.1 24 z := fun z h1 h3 => by
          rw [← hS0, sI_nk _ h3, sI_nk _ h1, y2]
          exact sI_nk _ h3
        have sJ' : ∀ a, a ≠ 31 → S0.2 a = S.2 a := fun a ha => by
          rw [← hS0]
          show S2.2 a = _
          rw [y3 a ha]
          rfl
        have s31 : ∀ z, z ≤ vs.length → S0.2 31 (bR + hR + z) = S.2 31 (bR + hR + 1 + h + z) := fun z hz => by
          rw [← hS0]
          exact y4 z hz
        have s31l : ∀ z, z < bR + hR → S0.2 31 z = S.2 31 z := fun z hz => by
          rw [← hS0]
          exact y5 z hz
        have hV0 : cV S0 (bR + hR + 1 + vs.length) (bR + hR + 1) pe (wt1 + 1) := by
          refine ⟨by rw [← hS0]; rfl, (s24 9 (by decide) (by decide)).trans hV.2.1, by rw [← hS0]; exact sI_eq _ _ _ _, (s24 11 (by decide) (by decide)).trans hV.2.2.2.1, (s24 13 (by decide) (by decide)).trans hV.2.2.2.2⟩
        have hcG : cG S S0 := ⟨fun a h1 _ _ => s1 a h1, fun z h1 _ h3 _ => s24 z h1 h3, sJ'⟩
        by_cases hov : md + cnB Sp vs ≤ 2000
        · rw [if_pos hov] at hcm
          generalize hR0 : sI (sI (tfR R hd) 34 31 (nI (md + cnB Sp vs))) 34 52 ((tfR R hd).1 55 b0) = R0 at hcm
          have o1 : ∀ a, a ≠ 34 → R0.1 a = R.1 a := fun a h1 => by
            rw [← hR0, sI_row, if_neg h1, sI_row, if_neg h1]
            unfold tfR
            rw [sI_row, if_neg h1]
          have o34 : ∀ z, z ≠ 31 → z ≠ 51 → z ≠ 52 → R0.1 34 z = R.1 34 z := fun z h1 h2 h3 => by
            rw [← hR0, sI_nk _ h3, sI_nk _ h1]
            unfold tfR
            rw [sI_nk _ h2]
          have oJ : R0.2 = R.2 := by rw [← hR0]; rfl
          have hG0 : GJ Sp Rp T U S0 R0 cw tw pm fm fmu np nf own fks md tc A := GI_keep hG (cQ_G hcG) ⟨fun a h1 h2 => o1 a (by omega), fun z hz => o34 z (by omega) (by omega) (by omega), fun a _ _ => by rw [oJ]⟩
          have hO0 : OU S0 R0 bg tot := by
            obtain ⟨z1, z2, z3, z4, z5, z6⟩ := hO
            refine ⟨(s24 12 (by decide) (by decide)).trans z1, (o34 30 (by decide) (by decide) (by decide)).trans z2, ?_, by rw [s1 29 (by decide)]; exact z4, (o34 55 (by decide) (by decide) (by decide)).trans z5, by rw [s1 30 (by decide), o1 65 (by decide)]; exact z6⟩
            rw [s24 14 (by decide) (by decide), o34 6 (by decide) (by decide) (by decide)]
            exact z3
          have hK0 : KK Sp Rp S0 R0 cw tw fm fmu nf (vR pm fm np nf) gR nR w1 hd pcR hR fnR scR ksR dlR bR jR wt1 tlR := KK_k hKR (agr_mk (o1 56 (by decide)) (o1 58 (by decide)) (fun i _ => ⟨by rw [o1 60 (by decide)], by rw [o1 61 (by decide)], by rw [o1 62 (by decide)], by rw [o1 63 (by decide)]⟩) (fun i _ => by rw [oJ]) s31l (fun i _ => ⟨by rw [s1 32 (by decide)], by rw [s1 33 (by decide)]⟩))
          have hM0 : R0.1 34 29 = 2 ∧ R0.1 34 32 = nI (wt1 + 1) ∧ R0.1 34 49 = nI (w1 + 1) ∧ R0.1 34 51 = nI hd ∧ R0.1 34 31 = nI (md + cnB Sp vs) ∧ R0.1 34 33 = nI fl := by
            refine ⟨?_, ?_, ?_, ?_, ?_, ?_⟩
            · rw [o34 29 (by decide) (by decide) (by decide)]; exact hM.1
            · rw [o34 32 (by decide) (by decide) (by decide)]; exact hM.2.1
            · rw [o34 49 (by decide) (by decide) (by decide)]; exact hM.2.2.1
            · rw [← hR0]; rfl
            · rw [← hR0, sI_nk _ (by decide)]; exact sI_eq _ _ _ _
            · rw [o34 33 (by decide) (by decide) (by decide)]; exact hM.2.2.2.2.2.2
          have hC0 : chn (R0.1 58) (R0.1 34 52) (fks b0) := by
            rw [o1 58 (by decide), ← hR0, sI_eq]
            exact l12
          have hst0 : S0.2 31 (bR + hR) = vE 3 (fm b0) := by
            have := s31 0 (by omega)
            rw [Nat.add_zero, Nat.add_zero] at this
            rw [this]
            exact f0
          have hvs0 : ∀ a, a < vs.length → vR pm fm np nf (R0.2 64 (hd + 1 + a)) (S0.2 31 (bR + hR + 1 + a)) := fun a ha => by
            rw [oJ, show bR + hR + 1 + a = bR + hR + (1 + a) by omega, s31 (1 + a) (by omega)]
            have := hvs (a + 1) (by omega)
            rw [show hd + (a + 1) = hd + 1 + a by omega, Nat.add_comm a 1] at this
            exact this
          obtain ⟨S', R', z1, z2, z3, n', z4, z5⟩ := call_body (jj := b0) (m2 := m2) (pe := pe) (q1 := q1) (c0 := cc) (vs := vs) (sF := sF) (w1 := w1) (wt1 := wt1) (pcR := pcR) (bR := bR) (hR := hR) (ksR := ksR) (hd := hd) (fl := fl) (f := f2) (dl := dlF) (y := Rp.1 37 m) hG0 hO0 hV0 hM0 hC0 hj hst0 l1 l4 l5 l7 l8 l9 l10 (by rw [o1 56 (by decide)]; exact l11) l13 hvs0 (by rw [o1 60 (by decide)]; exact x4) (by rw [o1 58 (by decide), o1 62 (by decide)]; exact x5) (by rw [s1 32 (by decide)]; exact x6) (by rw [s1 33 (by decide)]; exact x7) hK0 (WA_k hW (o1 58 (by decide)) (fun i _ => by rw [o1 62 (by decide)])) (by omega) hov
          exact ⟨S', R', c_call hV (by omega) hp true (cd_S hG.1 hcd) (hcf.trans z1), hcm.trans z2, z3, Or.inl ⟨n', by omega, z5⟩⟩
        · rw [if_neg hov] at hcm
          obtain ⟨S', y1, y2, y3, y4, y5, y6⟩ := call_full (Rp := Rp) (y := Rp.1 37 m) (m := m2) (c0 := cc) (s0 := 0) (fn := fmu b0) (kn := vs.length) (b := bR + hR + 1) l5 (by omega) vs.reverse [] S0 md (fun a ha => (s1 a (by omega)).trans (hG.1.1 a ha)) hV0.2.1 hV0.2.2.2.2 (by rw [s1 25 (by decide)]; exact hG.2.1.1) hmd (by rw [cnB_rev]; omega) (by rw [hrr]; exact l7) (by rw [hlr]; rfl)
          have y1' : G_44_117 (nI vs.length) (Rp.1 37 m) (nI cc) 0 S0 = _ := y1
          refine ⟨S', stR (sI (tfR R hd) 34 31 2000) 5 m, c_call hV (by omega) hp true (cd_S hG.1 hcd) (hcf.trans y1'), hcm, hM.2.2.2.2.2.2, Or.inr ⟨5, Or.inr (Or.inr rfl), y2, rfl, ⟨?_, ?_, hG.1.2.2.2.1, hG.1.2.2.2.2.1, hG.1.2.2.2.2.2⟩, ⟨?_, hO.2.1, ?_, ?_, hO.2.2.2.2.1, ?_⟩, 2000, wt1 + 1, Nat.le_refl _, a7, y4, rfl, ?_, hM.2.1⟩⟩
          · rw [y5 21 (by decide) (by decide), s1 21 (by decide)]; exact hG.1.2.1.1
          · rw [y5 22 (by decide) (by decide), s1 22 (by decide)]; exact hG.1.2.1.2
          · rw [y6 12 (by decide) (by decide), s24 12 (by decide) (by decide)]; exact hO.1
          · rw [y3]
            show _ = R.1 37 m
            rw [hfx 37 (by decide) (by decide)]
          · rw [y5 29 (by decide) (by decide), s1 29 (by decide)]; exact hO.2.2.2.1
          · rw [y5 30 (by decide) (by decide), s1 30 (by decide)]
            exact hO.2.2.2.2.2
          · rw [y6 11 (by decide) (by decide)]; exact hV0.2.2.2.1
    · have hne : ¬ nI vs.length = nI k := fun h => by exact hn ((nI_eq (by omega) (by omega)).mp h)
      rw [if_neg hne] at hcf hcm
      exact cz_stop (st := 3) hE (by omega) hp (Or.inl rfl) hcd hcf hcm
  · exact cz_stop (st := 3) hE (by omega) hp (Or.inl rfl) hcd (call_bad (S := nx S p) hV1.1 (by omega) f0' (by omega) k3) (call_m_bad hm h42' hM.2.2.2.1 (by omega) e0 (by omega) k2)
end RCALL
