/-! let and letrec: what they share -/
section LETC
variable {S0 R0 : amS} {N : Nat} {tx : Nat → Nat} {a q sz nc pd fc h nn nb dl : Nat} {cx : cxT} {P : List (Nat × Nat)} {S R Sq R3 : amS}
/-- letrec's variable: its pair is told as 1000 + the number -/
theorem JP_rec {l fn nv : Nat} {sc : List scE} {S' R' : amS} (h : JP P nc nb sc S R) (hn : newR R P nv nb [nv]) (hs : sdS nc nv sc) (hnc : nc < 1000) (h9 : ∀ k, S'.1 9 k = if nc ≤ k ∧ k < nc + 1 then 0 else S.1 9 k) (h46 : ∀ k, R'.1 46 k = if k = nv then 1 else R.1 46 k) : JP (prP (1000 + nc) [nv] 1 ++ P) (nc + 1) nb (mkV [l] [nv] nc fn 1 ++ sc) S' R' := by
  obtain ⟨j1, j2, j3, j4, j5⟩ := h
  obtain ⟨n1, n2, n3, n4⟩ := hn.1 0 (by simp)
  have n2 : nv < nb := n2
  have n4 : ∀ x ∈ P, x.2 ≠ nv := n4
  show JP ((1000 + nc, nv) :: P) (nc + 1) nb ((l, nc, nv, fn) :: sc) S' R'
  refine ⟨fun x hx hlt => ?_, fun x hx y hy => ?_, fun x hx => ?_, fun e he => ?_, ⟨Nat.lt_succ_self _, n2, hs⟩⟩
  · rcases List.mem_cons.mp hx with rfl | hx
    · exact absurd hlt (by show ¬ 1000 + nc < 1000; omega)
    · have := (j3 x hx).1
      rw [h9, h46, if_neg (by omega), if_neg (n4 x hx)]
      exact j1 x hx hlt
  · rcases List.mem_cons.mp hx with rfl | hx
    · rcases List.mem_cons.mp hy with rfl | hy
      · exact ⟨fun _ => rfl, fun _ => rfl⟩
      · have := (j3 y hy).1
        show (1000 + nc) % 1000 = y.1 % 1000 ↔ nv = y.2
        exact ⟨fun h => by omega, fun h => absurd h.symm (n4 y hy)⟩
    · rcases List.mem_cons.mp hy with rfl | hy
      · have := (j3 x hx).1
        show x.1 % 1000 = (1000 + nc) % 1000 ↔ x.2 = nv
        exact ⟨fun h => by omega, fun h => absurd h (n4 x hx)⟩
      · exact j2 x hx y hy
  · rcases List.mem_cons.mp hx with rfl | hx
    · exact ⟨by show (1000 + nc) % 1000 < nc + 1; omega, n2⟩
    · have := j3 x hx
      exact ⟨by omega, this.2⟩
  · rcases List.mem_cons.mp he with rfl | he
    · exact Or.inr List.mem_cons_self
    · exact (j4 e he).imp (List.mem_cons_of_mem _) (List.mem_cons_of_mem _)
theorem PE_rec {rv : List Nat} {n lo : Nat} (h : ∀ i, i < n → lo ≤ rv.getD i 0) : PE P (prP (1000 + nc) rv n ++ P) nc lo :=
  ⟨fun x hx => List.mem_append_right _ hx, fun x hx => by
    rcases List.mem_append.mp hx with hx | hx
    · obtain ⟨j, hj, rfl⟩ := prP_mem.mp hx
      exact Or.inr ⟨show nc ≤ 1000 + nc + j by omega, h j hj⟩
    · exact Or.inl hx⟩
theorem CR_rl {g : Nat} {vs v0 : List scE} {c : cxT} (hc : CR N tx a sz nc pd fc h ((g, vs ++ v0) :: c) S) : CR N tx a sz nc pd fc h ((g, v0) :: c) (sI S 5 6 (nI (scO ((g, v0) :: c)).length)) := by
  obtain ⟨h1, h2, h3, h4, h5, h6, h7, h8, h9, h10, h11, h12, h13⟩ := hc
  refine ⟨h1, h2, h3, h4, sI_eq _ _ _ _, h6, h7, h8, h9, ?_, opC_own h11, ⟨fun e he => h12.1 e (List.mem_append_right _ he), h12.2⟩, TKI_own h13⟩
  have : scC (S.1 6) (S.1 10) (vs ++ (v0 ++ scO c)) := by
    rw [← List.append_assoc]; exact h10
  exact scC_drop this
theorem scO_app {g : Nat} {vs v0 : List scE} {c : cxT} : scO ((g, vs ++ v0) :: c) = vs ++ scO ((g, v0) :: c) := List.append_assoc _ _ _
/-- leave(n): the variables vs go, and their slots -/
theorem leave2_c {g : Nat} {vs v0 : List scE} {c : cxT} (hc : CR N tx a sz nc pd fc (h + vs.length + 1) ((g, vs ++ v0) :: c) S) (hs : sz < 502) (hh : h + vs.length < 1000) : g_90 (nI vs.length) S = some (.inl none, sI (addS (sI S 5 6 (nI (scO ((g, v0) :: c)).length)) sz 13 (nI vs.length) (-1)) 23 4 (nI (h + 1))) := by
  have c1 := CR_rl hc
  unfold g_90 g_59
  simp only [az_st]
  have e1 : S.1 5 6 - nI vs.length = nI (scO ((g, v0) :: c)).length := by
    rw [hc.2.2.2.2.1, scO_app, List.length_append, pk_sub (by omega), Nat.add_sub_cancel_left]
  rw [e1, bV_v, add_c c1 hs, bI_i]
  have e2 : (addS (sI S 5 6 (nI (scO ((g, v0) :: c)).length)) sz 13 (nI vs.length) (-1)).1 23 4 - nI vs.length = nI (h + 1) := by
    rw [show (addS (sI S 5 6 (nI (scO ((g, v0) :: c)).length)) sz 13 (nI vs.length) (-1)).1 23 4 = nI (h + vs.length + 1) from hc.2.2.2.2.2.2.2.2.1, pk_sub (by omega), show h + vs.length + 1 - vs.length = h + 1 by omega]
  rw [e2]
theorem fC_56 (x : Int32) (sz nc pd fc : Nat) (cx : cxT) : fC sz nc pd fc cx S (sI S 5 6 x) := fC_refl sz nc pd fc cx S
theorem pfC_56 (hp : pfC S0 S) (x : Int32) : pfC S0 (sI S 5 6 x) := pfC_w hp (by decide) (by omega) _
/-- refused inside of let's or letrec's head -/
theorem bad_370 {R1 : amS} {p : Int32} {d : Nat} (hb : bad R0 R1 p) (hd : R1.1 34 23 = nI d) (hd2 : d < 24) : ∃ R', G_146_370 R1 = some (.inl none, R') ∧ bad R0 R' p := by
  refine ⟨_, ?_, bad_w hb (a := 48) (k := d) (by decide) (fun h => absurd h (by decide)) 1⟩
  unfold G_146_370
  simp only [az_st]
  rw [hd, az_ck_in hd2 (by decide), nI_clamp (by omega)]
  rfl
theorem bad_336 {R1 : amS} {p : Int32} {d : Nat} (hb : bad R0 R1 p) (hd : R1.1 34 23 = nI d) (hd2 : d < 24) (l3 l5 : Int32) : ∃ R', G_146_336 l3 l5 R1 = some (.inl none, R') ∧ bad R0 R' p := by
  obtain ⟨R', r1, r2⟩ := bad_370 hb hd hd2
  refine ⟨R', ?_, r2⟩
  unfold G_146_336
  by_cases h6 : l3 = 6
  · rw [if_pos h6, if_neg (by rw [hb.1]; decide)]
    exact r1
  · rw [if_neg h6]
    exact r1
/-- telling: an expression may come -/
theorem gate_tell {b n : Nat} (hd : 0 < dl) (R1 : amS) : gate N tx b dl n 1 R1 := ⟨rfl, fun _ => Or.inr rfl, fun _ => Or.inl hd⟩
/-- the head of let and letrec: two brackets and a letter -/
theorem head_2 {kd : Int32} (hN : N ≤ 250) (hb : BD a sz nc pd fc nn nb dl cx) (hd : dl < 20) {Sx : amS} {sz1 : Nat} (t1 : CR N tx q sz1 nc pd fc h cx Sx) (t3 : pfC S0 Sx) (t4 : JP P nc nb (scO cx) Sx R3) (t5 : sk N tx a < q) (hfo : FO R0 N tx (sk N tx a) q nn nb dl cx P kd 0 R R3) :
    (∃ R', (∃ S', (G_81 40 Sx = some (.inr 0, S') ∨ (∃ S2, G_81 40 Sx = some (.inl none, S2) ∧ (G_81 40 S2 = some (.inr 0, S') ∨ (∃ S3, G_81 40 S2 = some (.inl none, S3) ∧ S3.1 5 8 = nI pd ∧ G_84 (nI pd) S3 = some (.inr 0, S'))))) ∧ S'.1 23 5 = R'.1 34 6 ∧ pfC S0 S') ∧ G_146_304 kd (nI nn) R3 = some (.inl none, R') ∧ bad R0 R' (R'.1 34 6)) ∨
    (∃ S2 S3 a1 l R1, q + 3 ≤ a1 ∧ l < 26 ∧ G_81 40 Sx = some (.inl none, S2) ∧ G_81 40 S2 = some (.inl none, S3) ∧ S3.1 5 8 = nI pd ∧ G_84 (nI pd) S3 = some (.inl none, ltS S3 (a1 - 1) pd l) ∧ G_146_304 kd (nI nn) R3 = G_146_336 kd (nI nn) R1 ∧ TLD S0 R0 N tx pd nn nb dl cx a1 a1 sz1 nc fc h (nn + 1) (nb + 1) P [l] [nb] (ltS S3 (a1 - 1) pd l) R1 ∧ (∀ x y z w, fC x y pd z w Sx (ltS S3 (a1 - 1) pd l)) ∧ (ltS S3 (a1 - 1) pd l).1 9 = Sx.1 9 ∧ (ltS S3 (a1 - 1) pd l).1 2 = Sx.1 2 ∧ (ltS S3 (a1 - 1) pd l).1 3 = Sx.1 3 ∧ (ltS S3 (a1 - 1) pd l).1 4 = Sx.1 4 ∧
      opM R1 (dl + 1) nn 0 (scO cx).length ∧ ndF R1 nn kd (nI (sk N tx a)) 0 (-1) (-1) 0 1 ∧ R1.1 41 nn = -1 ∧ fM 1000 1000 nn nb dl P R R1) := by
  obtain ⟨f1, f2, f3, f4, f5, f6, f7⟩ := hfo
  obtain ⟨b1, b2, b3, b4, b5, b6, b7⟩ := hb
  have hqs := sk_ge (N := N) (tx := tx) q
  have hsa := sk_ge (N := N) (tx := tx) a
  have dd : dl + 1 < 24 := by omega
  unfold G_146_304
  by_cases hc : tb N tx (sk N tx q) = 40
  · obtain ⟨q1, q2⟩ := brk_y t1 hc (by decide)
    have q3 := (sign_y f1 hc (by decide)).1
    have c2 := CR_at t1 q2
    have m2 := MR_at f1 q2
    rw [q3, bV_v, if_pos m2.2.2.1]
    by_cases hc2 : tb N tx (sk N tx (sk N tx q + 1)) = 40
    · obtain ⟨w1, w2⟩ := brk_y c2 hc2 (by decide)
      have w3 := (sign_y m2 hc2 (by decide)).1
      rw [sI_sI] at w1 w3
      have c3 := CR_at t1 w2
      have m3 := MR_at f1 w2
      rw [w3, bV_v, if_pos m3.2.2.1]
      have hT : TLD S0 R0 N tx pd nn nb dl cx (sk N tx (sk N tx q + 1) + 1) (sk N tx (sk N tx q + 1) + 1) sz1 nc fc h (nn + 1) nb P [] [] (sI Sx 21 3 (nI (sk N tx (sk N tx q + 1) + 1))) (sI R3 34 4 (nI (sk N tx (sk N tx q + 1) + 1))) := ⟨c3, fun i hi => absurd hi (by simp), m3, rfl, JP_rows t4 rfl rfl, pfC_at t3 _, pfM_at f6 _, ⟨f3.2.2.2.2.2.2, rfl, fun i hi => absurd hi (by simp), fun i hi => absurd hi (by simp)⟩, ⟨fun i hi => absurd hi (by simp), fun i j _ hi => absurd hi (by simp)⟩, Nat.le_refl _⟩
      have hq : q ≤ N := t1.2.1.2
      have hs3 := sk_ge (N := N) (tx := tx) (sk N tx (sk N tx q + 1) + 1)
      have hs2 := sk_ge (N := N) (tx := tx) (sk N tx q + 1)
      rcases tell_both hT (fun i hi => absurd hi (by simp)) (by simp) (by simp; omega) (by omega) (by omega) hd (by omega) with ⟨l, g1, g2, g3, g4, g5, g6, g7⟩ | ⟨R', g0, g1, g2, g3, g4⟩
      · right
        have o1 : opM (tlS (wrM (sI R3 34 4 (nI (sk N tx (sk N tx q + 1) + 1))) (sk N tx (sk N tx (sk N tx q + 1) + 1)) (sk N tx (sk N tx (sk N tx q + 1) + 1) + 1)) nn ([] : List Nat).length nb (dl + 1) (nI (tx (sk N tx (sk N tx (sk N tx q + 1) + 1))))) (dl + 1) nn 0 (scO cx).length := opM_tl (R1 := sI R3 34 4 (nI (sk N tx (sk N tx q + 1) + 1))) _ _ _ _ f2
        have o2 : ndF (tlS (wrM (sI R3 34 4 (nI (sk N tx (sk N tx q + 1) + 1))) (sk N tx (sk N tx (sk N tx q + 1) + 1)) (sk N tx (sk N tx (sk N tx q + 1) + 1) + 1)) nn ([] : List Nat).length nb (dl + 1) (nI (tx (sk N tx (sk N tx (sk N tx q + 1) + 1))))) nn kd (nI (sk N tx a)) 0 (-1) (-1) 0 1 := ndF_tl (R1 := sI R3 34 4 (nI (sk N tx (sk N tx q + 1) + 1))) _ _ _ _ f3
        have o3 : (tlS (wrM (sI R3 34 4 (nI (sk N tx (sk N tx q + 1) + 1))) (sk N tx (sk N tx (sk N tx q + 1) + 1)) (sk N tx (sk N tx (sk N tx q + 1) + 1) + 1)) nn ([] : List Nat).length nb (dl + 1) (nI (tx (sk N tx (sk N tx (sk N tx q + 1) + 1))))).1 41 nn = -1 := f4
        have o4 : fM 1000 1000 nn nb dl P R (tlS (wrM (sI R3 34 4 (nI (sk N tx (sk N tx q + 1) + 1))) (sk N tx (sk N tx (sk N tx q + 1) + 1)) (sk N tx (sk N tx (sk N tx q + 1) + 1) + 1)) nn ([] : List Nat).length nb (dl + 1) (nI (tx (sk N tx (sk N tx (sk N tx q + 1) + 1))))) := fM_tl (R1 := sI R3 34 4 (nI (sk N tx (sk N tx q + 1) + 1))) _ _ _ _ (Nat.le_refl _) (fM_trans (nc := nc) f5 (fM_at _ 1000 1000 nn nb dl P) (Nat.le_refl _) (Nat.le_refl _) (Nat.le_refl _) (Or.inl rfl) (PE_refl P nc nb))
        generalize hR1 : tlS (wrM (sI R3 34 4 (nI (sk N tx (sk N tx q + 1) + 1))) (sk N tx (sk N tx (sk N tx q + 1) + 1)) (sk N tx (sk N tx (sk N tx q + 1) + 1) + 1)) nn ([] : List Nat).length nb (dl + 1) (nI (tx (sk N tx (sk N tx (sk N tx q + 1) + 1)))) = R1 at g5 g6 g7 o1 o2 o3 o4
        rw [g5, bV_v]
        refine ⟨sI Sx 21 3 (nI (sk N tx q + 1)), sI Sx 21 3 (nI (sk N tx (sk N tx q + 1) + 1)), sk N tx (sk N tx (sk N tx q + 1) + 1) + 1, l, R1, by omega, g1, q1, w1, c3.2.2.2.2.2.1, ?_, rfl, ?_, fun x y z w => ?_, rfl, rfl, rfl, rfl, o1, o2, o3, o4⟩
        · rw [Nat.add_sub_cancel]; exact g4
        · rw [Nat.add_sub_cancel]; exact g6
        exact fC_tr (fC_at _ x y pd z w) (fC_lt _ _ x y pd z w) (Nat.le_refl _) (Nat.le_refl _) (Nat.le_refl _) (Nat.le_refl _)
      · left
        obtain ⟨R2, r1, r2⟩ := bad_336 g3 (g4.trans m3.2.2.2.2.2.1) dd kd (nI nn)
        refine ⟨R2, ⟨_, Or.inr ⟨_, q1, Or.inr ⟨_, w1, c3.2.2.2.2.2.1, g1⟩⟩, ?_, ?_⟩, by rw [g2, bV_v]; exact r1, r2.1, rfl, r2.2.2⟩
        · rw [sI_eq, r2.2.1]
        · exact pfC_w (pfC_at (pfC_at t3 _) _) (by decide) (by omega) _
    · left
      obtain ⟨R', r1, r2, r3, -⟩ := sign_n m2 (pfM_at f6 _) hc2
      obtain ⟨R2, r4, r5⟩ := bad_336 r2 (r3.trans m2.2.2.2.2.2.1) dd kd (nI nn)
      refine ⟨R2, ⟨_, Or.inr ⟨_, q1, Or.inl (brk_n c2 hc2)⟩, ?_, ?_⟩, ?_, r5.1, rfl, r5.2.2⟩
      · rw [sI_eq, r5.2.1]
      · exact pfC_w (pfC_at (pfC_at t3 _) _) (by decide) (by omega) _
      · rw [r1, bV_v, if_neg (by rw [r2.1]; decide)]
        exact r4
  · left
    obtain ⟨R', r1, r2, r3, -⟩ := sign_n f1 f6 hc
    obtain ⟨R2, r4, r5⟩ := bad_370 r2 (r3.trans f1.2.2.2.2.2.1) dd
    refine ⟨R2, ⟨_, Or.inl (brk_n t1 hc), ?_, ?_⟩, ?_, r5.1, rfl, r5.2.2⟩
    · rw [sI_eq, r5.2.1]
    · exact pfC_w (pfC_at t3 _) (by decide) (by omega) _
    · rw [r1, bV_v, if_neg (by rw [r2.1]; decide)]
      exact r4
end LETC
