/-! a run, whole -/
section RMAIN
variable {Sp Rp T U S R S' R' : amS} {cw : Nat → Int64} {tw : Nat → Nat → Int64} {pm fm fmu : Nat → Nat} {np nf : Nat} {own : Nat → Nat × Nat} {fks : Nat → List Nat} {md tc : Nat} {A : Nat → Prop} {g n w hd p q h fn : Nat} {sc : List scE} {ks : List Nat} {dl dl' b j wt : Nat} {tl : Bool} {f m bg tot fl c : Nat}
theorem beg_j (hX : CX Sp Rp T U S R cw tw pm fm fmu np nf own fks md tc A g n w hd p q h fn sc ks dl' b j wt tl bg tot) (h53 : R.1 34 53 = nI m) (hT : TT Sp Rp true f 0 (nI m) 0 dl p q h fn sc tl) (hdl : dl' ≤ dl) (hc : c < 1000000) (hf : fl < 2000) : (∃ m', m' < 256 ∧ R.1 34 53 = nI m') ∧ Bg Sp Rp T U S R fl c (n + 5) n (bg + 1) tot := by
  have hp : p ≤ 501 := by
    have h1 := (TT_head f _ _ _ _ _ _ _ _ _ _ hT).1
    have h2 := (TT_hd f hT).2.2.1
    omega
  have hw := (bg_top hX).2.1
  have hX1 := CX_bg (fl := fl) hX
  have hfx := hX1.1.1.2.2.1
  have h49 := hX1.2.2.2.1.2.2.1
  cases f with
  | zero => unfold TT at hT; exact hT.elim
  | succ f =>
    unfold TT at hT
    obtain ⟨m', e0, hm, u1, u2, u3, u4, u5, hk⟩ := hT
    rw [e0] at h53
    refine ⟨⟨m', hm, h53⟩, ?_⟩
    rcases hk with ⟨k1, k2, rfl⟩ | ⟨k1, k2, rfl⟩ | ⟨k1, e, k2, src, k3, k4, k5, rfl⟩ | ⟨k1, mu, vs, c0, q1, k2, k3, k4, k5, k6, k7, k8, k9, k10, k11, k12, k13, rfl⟩ | ⟨k1, a, b2, c2, q1, q2, k2, k3, k4, k5, k6, k7, k8, k9, k10, k11, k12, k13, k14⟩ | ⟨k1, vs, c0, b2, q1, q2, cs, qs, k2, k3, k4, k5, k6, k7, rfl, k9, k10, k11, k12, rfl⟩ | ⟨k1, e, a, b2, q1, q2, k2, k3, k4, k5, k6, k7, k8, k9, k10, k11, rfl, k13, k14, rfl⟩ | ⟨k1, e, k2, src, q1, a, k3, k4, k5, k6, k7, ⟨k8, k8b⟩, k9, k10, rfl⟩ | ⟨k1, k2, k3⟩ | ⟨k1, o, k, q1, cs, qs, k2, k3, k4, k5, k6, k7, k8, k9, rfl⟩ | ⟨k1, k, q1, cs, qs, k2, k3, k4, k5, k6, k7, rfl, k9⟩
    · exact bg_num hX h53 hm hc hp hf k1 k2
    · exact bg_nil hX h53 hm hc hp hf k1 k2
    · exact bg_var hX h53 hm hc hp hf k1 k2 k3 k4 k5
    · exact bg_lam hX h53 hm hc hp hf k1 k2 k3 k4 k5 k6 k7 k8 k9 k10 k11 k12 k13
    · exact bg_if hX h53 hm hdl hc hp hf k1 k2 k3 k4 k5 k6 k8 k9 k10 k11 k12 k13 k14
    · exact bg_opn hX hm hdl hc hp hf (beg_5 (R := bgR R fl) h53 hm (by rw [hfx 36 (by decide) (by decide)]; exact k1) h49 hw) k3 (by omega) k5 k6 k7 (Or.inl ⟨rfl, k1, k2, vs, c0, q2, f, -1, rfl, k4, k9, k10, k11, k12, rfl⟩)
    · exact bg_rec hX h53 hm hdl hc hp hf k1 k2 k3 k4 k5 k7 k8 k9 k10 k11 k13 k14
    · exact bg_set hX h53 hm hdl hc hp hf k1 k2 k3 k4 k5 k6 k7 k8 k9 k10
    · exact bg_begin hX h53 hm hdl hc hp hf k1 k2 k3
    · have hk1 : 1 ≤ k ∧ k ≤ 2 := by rw [k4]; split <;> omega
      exact bg_opn hX hm hdl hc hp hf (beg_9 (R := bgR R fl) (Or.inl rfl) h53 hm (by rw [hfx 36 (by decide) (by decide)]; exact k1) h49 hw) hk1.1 (by omega) k6 k7 k8 (Or.inr (Or.inl ⟨rfl, k1, k5, o, k2, k3, k4, k9, rfl⟩))
    · exact bg_opn hX hm hdl hc hp hf (beg_9 (R := bgR R fl) (Or.inr rfl) h53 hm (by rw [hfx 36 (by decide) (by decide)]; exact k1) h49 hw) (by omega) (by omega) k4 k5 k6 (Or.inr (Or.inr ⟨rfl, k1, k3, k, rfl, k7, k9 rfl, rfl⟩))
/-- the run is through -/
def Ez (T U S R : amS) (fl c bg tot : Nat) : Prop := ∃ S' R', G_32_4 (nI fl) (nI c) S = some (.inl (some (.int (nI 1))), S') ∧ G_173_49 R = some (.inl (some (.int (nI 1))), R') ∧ Po T U S' R' 1 bg tot ∧ fiR S' R'
theorem giv_j (hX : GvX Sp Rp T U S R cw tw pm fm fmu np nf own fks md tc A g n w hd p h fn sc ks dl b j wt tl bg tot) (h33 : R.1 34 33 = nI fl) (hc : c + 6 < 1000000) (htot : tot + 1 < 2 ^ 31) : Gs Sp Rp T U S R fl c n bg tot ∨ Ez T U S R fl c bg tot := by
  cases g with
  | zero =>
    have hK := hX.2.2.2.2.1
    unfold KK at hK
    exact hK.elim
  | succ g =>
    have hK := hX.2.2.2.2.1
    unfold KK at hK
    obtain ⟨⟨a1, a2, a3, a4, a5, a6, a7, a8, a9, a10, a11, a12, a13⟩, hk⟩ := hK
    rcases hk with ⟨q, n', dl', x, c1, c2, c3, c4⟩ | ⟨vs, sc', kv, ks', h', n', dl', x, c1, rfl, rfl, c4, rfl, c5, c6, c7, c8⟩ | ⟨c1, w', wt', pc', b', h', fn', sc', ks', dl', j', tl', n', rfl, rfl, c4, c5, c6, c7, c8, rfl, c9⟩ | ⟨-, rfl, rfl, c1⟩ | ⟨ht, w', rfl, hC, m, hm, h61, hk⟩
    · exact Or.inl (gv_jump hX h33 hc a13 c1 c2 c4)
    · exact Or.inl (gv_leave hX h33 hc a13 (by omega) c1 c6 c8)
    · exact Or.inl (gv_return hX h33 hc a13 (by omega) (by omega) (by omega) c1 c4 c5 c7 c8 c9)
    · exact Or.inr (gv_end hX hc a13 (by omega) c1)
    · refine Or.inl ?_
      rcases hk with ⟨c0, f, rs, q, dl1, dl2, n', tl', c1, c2, c3, c4, c5, c6, c7, c8⟩ | ⟨c0, a, b1, c2, q, q2, f, dl1, dl2, n', tl', x, y, k1, k2, k3, k4, k5, k6, k7, k8, k9, k10, k11, k12, k13, k14⟩ | ⟨c0, e, sc', k, ks', h0, a, f, q2, dl1, dl2, n', tl', x, rfl, rfl, rfl, k4, k5, k6, k7, k8, k9, d1, d2, d3, d4, d5, d6, d7, d8, d9, d10⟩ | ⟨c0, e, src, dl2, n', tl', x, c1, c2, c3, c4, c5, c6, c7, c8⟩ | ⟨i, h0, hd0, k, p0, q1, cs, qs, f, dl1, dl2, pc2, n', tl', rfl, rfl, c3, c4, c5, rfl, c7, c8, c9, d1, d2, d3, d4, d5⟩
      · exact gv_seq hX h33 hc a13 (by omega) (by omega) hC h61 c0 c1 c2 c4 c5 c6 c7 c8
      · exact gv_choice hX h33 hc a13 (by omega) (by omega) hC hm h61 c0 k1 k2 k3 k4 k5 k6 k7 k8 k9 k10 k12 k13 k14
      · exact gv_name hX h33 hc a13 (by omega) (by omega) hC hm h61 c0 k4 k5 k6 k7 k8 k9 d1 d2 d3 d4 d5 d6 d8 d9 d10
      · exact gv_set hX h33 hc a13 (by omega) (by omega) hC hm h61 c0 c1 c2 c3 c4 c5 c7 c8
      · have hD : OPD Sp Rp (R.1 60 w') m k h0 fn dl1 q1 pc2 sc cs tl' := d5
        by_cases hi : i + 1 < k
        · exact gv_next hX h33 (by omega) (by omega) hC hm h61 c5 hi c4 c7 c8 c9 d2 d3 d4 hD
        · have hke : k = i + 1 := by omega
          have hqe : qs (i + 1) = q1 := by rw [← hke]; exact c7.2.1
          rw [hqe] at hX a13
          obtain ⟨hE, e1⟩ := op_end hX h33 (by omega) (by omega) hC hm h61 c5 hke c4 (OPD_kd hD) c9 d4
          have h49 : (hlR (lkR R w') w' (hd0 + i) i).1 34 49 = nI (w' + 1) := hX.2.2.2.1.2.2.1
          have hfx := hX.1.1.2.2.1
          have e36 : (hlR (lkR R w') w' (hd0 + i) i).1 36 m = Rp.1 36 m := by
            show R.1 36 m = _
            rw [hfx 36 (by decide) (by decide)]
          rcases hD with ⟨h60, h36, h44, vs, c0, q2, f2, x, z1, z2, z3, z4, z5, z6, rfl⟩ | ⟨h60, h36, h42, o, z1, z2, z3, z4, rfl⟩ | ⟨h60, h36, h42, k', rfl, z2, z3, rfl⟩
          · obtain ⟨S', R', o, y1, y2, y3, y4, y5⟩ := let_j hE hm hc (by omega) h36 h44 z1 z2 c7 z3 z4 z5 d2 z6
            refine ⟨S', R', o, tot, y1, ?_, y3, by omega, by omega, ?_⟩
            · rw [e1, h60, pop_2 h49, show ppR (hlR (lkR R w') w' (hd0 + i) i) w' = opR R w' (hd0 + i) i from rfl, y2, bV_v, bV_v]
            · rcases y5 with ⟨n2, y5, y6⟩ | y5
              · exact Or.inl ⟨n2, by omega, by omega, y6⟩
              · exact Or.inr (Or.inr y5)
          · obtain ⟨S', R', tot', y1, y2, y3, y4, y5⟩ := prim_j z1 hE hm hc a13 htot z3 z2 h42 z4
            refine ⟨S', R', 1, tot', y1, ?_, y3, by omega, y4, ?_⟩
            · rw [e1, h60, pop_5 h49 hm, e36, h36, if_neg (by decide), show ppR (hlR (lkR R w') w' (hd0 + i) i) w' = opR R w' (hd0 + i) i from rfl, y2, bV_v, bV_v]
            · rcases y5 with y5 | y5
              · exact Or.inr (Or.inl ⟨n', by omega, by omega, y5⟩)
              · exact Or.inr (Or.inr y5)
          · obtain ⟨S', R', y1, y2, y3, y5⟩ := call_j hE hm hc a13 (by omega) h42 z3 z2
            refine ⟨S', R', 1, tot, y1, ?_, y3, by omega, by omega, ?_⟩
            · rw [e1, h60, pop_5 h49 hm, e36, h36, if_pos rfl, show ppR (hlR (lkR R w') w' (hd0 + i) i) w' = opR R w' (hd0 + i) i from rfl, y2, bV_v, bV_v]
            · rcases y5 with ⟨n2, y5, y6⟩ | y5
              · exact Or.inl ⟨n2, by omega, by omega, y6⟩
              · exact Or.inr (Or.inr y5)
/-- what a run comes to -/
def Fin (Sp Rp T U S R : amS) (fl c B1 B2 : Nat) : Prop := ∃ S' R' st bg tot, (1 ≤ st ∧ st ≤ 5) ∧ G_32_4 (nI fl) (nI c) S = some (.inl (some (.int (nI st))), S') ∧ G_173_49 R = some (.inl (some (.int (nI st))), R') ∧ Po T U S' R' st bg tot ∧ bg ≤ B1 ∧ tot ≤ B2 ∧ (st = 1 → fiR S' R') ∧ (st = 2 → ∃ n, Ev Sp Rp T U S' R' n bg tot)
theorem fin_stop {st B1 B2 : Nat} (h : st = 3 ∨ st = 4 ∨ st = 5) (hc : c < 1000000) (hP : Po T U S R st bg tot) (h1 : bg ≤ B1) (h2 : tot ≤ B2) : Fin Sp Rp T U S R fl c B1 B2 :=
  ⟨S, R, st, bg, tot, by omega, lp_stop hc hP.1 (by omega) (by omega), ref_stop hP.2.1 (by omega) (by omega) (by omega), hP, h1, h2, fun h9 => by omega, fun h9 => by omega⟩
theorem run_all {B1 B2 : Nat} (hB2 : B2 + 1 < 2 ^ 31) : ∀ (M : Nat),
    (∀ (S R : amS) (n fl c bg tot : Nat), Ev Sp Rp T U S R n bg tot → R.1 34 33 = nI fl → fl ≤ 2000 → n + 8 * fl ≤ M → c + M + 10 < 1000000 → bg + fl ≤ B1 → tot + M ≤ B2 → Fin Sp Rp T U S R fl c B1 B2) ∧
    (∀ (S R : amS) (n fl c bg tot : Nat), Gv Sp Rp T U S R n bg tot → R.1 34 33 = nI fl → fl ≤ 2000 → n + 8 * fl + 1 ≤ M → c + M + 10 < 1000000 → bg + fl ≤ B1 → tot + M ≤ B2 → Fin Sp Rp T U S R fl c B1 B2) := by
  intro M
  induction M using Nat.strongRecOn with
  | ind M ih =>
    refine ⟨?_, ?_⟩
    · intro S R n fl c bg tot hE h33 hfl hM hc hbg htot
      have hE0 := hE
      obtain ⟨cw, tw, pm, fm, fmu, np, nf, own, fks, md, tc, A, g, w, hd, p, q, h, fn, sc, ks, dl, dl', b, j, wt, tl, f, m, hX, h53, hT, hdl⟩ := hE
      cases fl with
      | zero =>
        have hh := TT_head f _ _ _ _ _ _ _ _ _ _ hT
        have hp : p ≤ 501 := by
          have h1 := hh.1
          have h2 := (TT_hd f hT).2.2.1
          omega
        obtain ⟨⟨m', hm', h53'⟩, -⟩ := beg_j (fl := 0) (c := 0) hX h53 hT hdl (by omega) (by omega)
        have ho : ¬ 6 < S.1 2 p := by
          rw [hX.1.1.1 2 (by decide)]
          rcases hh.2 with h | h | h | h | h | h <;> rw [h] <;> decide
        have hwt := (KK_act hX.2.2.2.2.2.1).2.2.2.2.2.2.1
        refine ⟨S, R, 2, bg, tot, by omega, lp_out hX.2.2.1 (by omega) hp ⟨rfl, rfl, rfl⟩ ho, ref_out hX.2.2.2.1.1 h53' hm' h33, ⟨hX.2.2.1.2.2.2.2, hX.2.2.2.1.1, ⟨hX.1.1.2.1.1, hX.1.1.2.1.2, hX.1.1.2.2.2.1, hX.1.1.2.2.2.2.1, hX.1.1.2.2.2.2.2⟩, hX.2.1, md, wt, hX.1.2.1.2.1, hwt, hX.1.2.1.1, hX.2.2.2.1.2.2.2.2, hX.2.2.1.2.2.2.1, hX.2.2.2.1.2.1⟩, by omega, by omega, fun h9 => by omega, fun _ => ⟨n, hE0⟩⟩
      | succ fl =>
        obtain ⟨⟨m', hm', h53'⟩, S', R', y1, y2, y3, y4⟩ := beg_j (fl := fl) (c := c) hX h53 hT hdl (by omega) (by omega)
        have e2 : G_173_49 R = G_173_49 R' := by rw [ref_beg hX.2.2.2.1.1 h53' hm' h33 (by omega), y2, bV_v]
        have key : Fin Sp Rp T U S' R' fl (c + 1) B1 B2 := by
          rcases y4 with ⟨n1, q1, q2⟩ | ⟨n1, q1, q2⟩ | ⟨st, q1, q2⟩
          · exact (ih (n1 + 8 * fl) (by omega)).1 S' R' n1 fl (c + 1) (bg + 1) tot q2 y3 (by omega) (by omega) (by omega) (by omega) (by omega)
          · exact (ih (n1 + 8 * fl + 1) (by omega)).2 S' R' n1 fl (c + 1) (bg + 1) tot q2 y3 (by omega) (by omega) (by omega) (by omega) (by omega)
          · exact fin_stop q1 (by omega) q2 (by omega) (by omega)
        unfold Fin
        rw [y1, e2]
        exact key
    · intro S R n fl c bg tot hE h33 hfl hM hc hbg htot
      obtain ⟨cw, tw, pm, fm, fmu, np, nf, own, fks, md, tc, A, g, w, hd, p, h, fn, sc, ks, dl, b, j, wt, tl, hX⟩ := hE
      rcases giv_j (fl := fl) (c := c) hX h33 (by omega) (by omega) with ⟨S', R', o, tot', y1, y2, y3, y4, y5, y6⟩ | ⟨S', R', y1, y2, y3, y4⟩
      · have key : Fin Sp Rp T U S' R' fl (c + o) B1 B2 := by
          rcases y6 with ⟨n1, q0, q1, q2⟩ | ⟨n1, q0, q1, q2⟩ | ⟨st, q1, q2⟩
          · exact (ih (n1 + 8 * fl) (by omega)).1 S' R' n1 fl (c + o) bg tot' q2 y3 (by omega) (by omega) (by omega) (by omega) (by omega)
          · exact (ih (n1 + 8 * fl + 1) (by omega)).2 S' R' n1 fl (c + o) bg tot' q2 y3 (by omega) (by omega) (by omega) (by omega) (by omega)
          · exact fin_stop q1 (by omega) q2 (by omega) (by omega)
        unfold Fin
        rw [y1, y2]
        exact key
      · exact ⟨S', R', 1, bg, tot, by omega, y1, y2, y3, by omega, by omega, fun _ => y4, fun h9 => by omega⟩
end RMAIN
