/-! letters told on both sides -/
def TLD (S0 R0 : amS) (N : Nat) (tx : Nat → Nat) (pd nn nb dl : Nat) (cx : cxT) (a1 b1 sz1 nc1 fc1 h1 nn1 nb1 : Nat) (P1 : List (Nat × Nat)) (ls rv : List Nat) (S1 R1 : amS) : Prop :=
  CR N tx a1 sz1 nc1 (pd + ls.length) fc1 h1 cx S1 ∧ pnd S1 pd ls ∧ MR N tx b1 nn1 nb1 (dl + 1) (scO cx) R1 ∧ sk N tx a1 = sk N tx b1 ∧ JP P1 nc1 nb1 (scO cx) S1 R1 ∧ pfC S0 S1 ∧ pfM R0 R1 ∧ toldM R1 nn (dl + 1) ls rv ∧ newR R1 P1 nb nb1 rv ∧ nb ≤ nb1
section TOLD
variable {S0 R0 : amS} {N : Nat} {tx : Nat → Nat} {pd nn nb dl : Nat} {cx : cxT} {a1 b1 sz1 nc1 fc1 h1 nn1 nb1 : Nat} {P1 : List (Nat × Nat)} {ls rv : List Nat} {S1 R1 : amS}
theorem tell_both (h : TLD S0 R0 N tx pd nn nb dl cx a1 b1 sz1 nc1 fc1 h1 nn1 nb1 P1 ls rv S1 R1) (hlt : ltM (R1.1 50) 240 ls) (hl4 : ls.length < 4) (hpd : pd + ls.length < 250) (hnn : nn < 256) (hnb : nb1 < 256) (hd : dl < 20) (hsc : (scO cx).length ≤ 240) :
    (∃ l, l < 26 ∧ ltW N tx (sk N tx a1) ∧ l = tx (sk N tx a1) - 97 ∧ G_84 (nI pd) S1 = some (.inl none, ltS S1 (sk N tx a1) (pd + ls.length) l) ∧ G_140 (nI nn) R1 = some (.inl none, tlS (wrM R1 (sk N tx a1) (sk N tx a1 + 1)) nn ls.length nb1 (dl + 1) (nI (tx (sk N tx a1)))) ∧
      TLD S0 R0 N tx pd nn nb dl cx (sk N tx a1 + 1) (sk N tx a1 + 1) sz1 nc1 fc1 h1 nn1 (nb1 + 1) P1 (ls ++ [l]) (rv ++ [nb1]) (ltS S1 (sk N tx a1) (pd + ls.length) l) (tlS (wrM R1 (sk N tx a1) (sk N tx a1 + 1)) nn ls.length nb1 (dl + 1) (nI (tx (sk N tx a1)))) ∧
      ltM ((tlS (wrM R1 (sk N tx a1) (sk N tx a1 + 1)) nn ls.length nb1 (dl + 1) (nI (tx (sk N tx a1)))).1 50) 240 (ls ++ [l])) ∨
    (∃ R', (¬ ltW N tx (sk N tx a1) ∨ (tx (sk N tx a1) - 97) ∈ ls) ∧ G_84 (nI pd) S1 = some (.inr 0, sI (sI S1 21 3 (nI (sk N tx a1))) 23 5 (nI (sk N tx a1))) ∧ G_140 (nI nn) R1 = some (.inl none, R') ∧ bad R0 R' (nI (sk N tx a1)) ∧ R'.1 34 23 = R1.1 34 23) := by
  obtain ⟨t1, t2, t3, t4, t5, t6, t7, t8, t9, t10⟩ := h
  have lc := letter_new t1 t2 rfl hpd
  have tm := tell_m t3 hnn (by omega) t8.1 rfl hlt hnb (by omega) t7
  rw [← t4] at tm
  by_cases hg : ltW N tx (sk N tx a1) ∧ (tx (sk N tx a1) - 97) ∉ ls
  · left
    obtain ⟨hw, hm⟩ := hg
    have hl26 : tx (sk N tx a1) - 97 < 26 := by have := hw.2.2.1; omega
    have h97 := hw.2.1
    have h122 := hw.2.2.1
    have hp : sk N tx a1 + 1 ≤ N := hw.1
    refine ⟨tx (sk N tx a1) - 97, hl26, hw, rfl, lc.1 _ hw rfl hm, tm.1 ⟨hw, hl4, hm⟩, ?_, ?_⟩
    · obtain ⟨u1, u2, u3, u4, u5, u6, u7, u8, u9, u10⟩ := tl_rows (R := wrM R1 (sk N tx a1) (sk N tx a1 + 1)) (nb := nb1) (dl := dl + 1) (n := nn) (vc := ls.length) (c := nI (tx (sk N tx a1)))
      refine ⟨?_, pnd_lt t2 rfl hl26, MR_tl (MR_wr t3 hp) hsc, rfl, ?_, pfC_lt t6 _ _, pfM_tl (pfM_wr t7 _ _) _ _ _ _ _, told_tl (R := wrM R1 (sk N tx a1) (sk N tx a1 + 1)) t8 ⟨h97, h122⟩, ?_, by omega⟩
      · rw [List.length_append, List.length_singleton, ← Nat.add_assoc]
        exact CR_lt t1 hp
      · obtain ⟨j1, j2, j3, j4, j5⟩ := t5
        refine ⟨fun x hx => ?_, j2, fun x hx => ⟨(j3 x hx).1, by have := (j3 x hx).2; omega⟩, j4, sdS_le j5 (Nat.le_refl _) (by omega)⟩
        rw [u8 _ (by have := (j3 x hx).2; omega)]
        exact j1 x hx
      · refine ⟨fun i hi => ?_, fun i j hij hj => ?_⟩
        · rw [List.length_append, List.length_singleton] at hi
          by_cases h9 : i < rv.length
          · rw [getD_app1 h9]
            obtain ⟨w1, w2, w3, w4⟩ := t9.1 i h9
            refine ⟨w1, by omega, ?_, w4⟩
            rw [u8 _ (by omega)]
            exact w3
          · have : i = rv.length := by omega
            subst this
            rw [getD_app2]
            exact ⟨t10, by omega, u3, fun x hx h9 => by have := (t5.2.2.1 x hx).2; omega⟩
        · rw [List.length_append, List.length_singleton] at hj
          by_cases h9 : j < rv.length
          · rw [getD_app1 h9, getD_app1 (by omega)]
            exact t9.2 i j hij h9
          · have : j = rv.length := by omega
            subst this
            rw [getD_app2, getD_app1 hij]
            exact (t9.1 i hij).2.1
    · intro i hi
      obtain ⟨u1, u2, u3, u4, u5, u6, u7, u8, u9, u10⟩ := tl_rows (R := wrM R1 (sk N tx a1) (sk N tx a1 + 1)) (nb := nb1) (dl := dl + 1) (n := nn) (vc := ls.length) (c := nI (tx (sk N tx a1)))
      rw [List.length_append, List.length_singleton] at hi
      by_cases h9 : i < ls.length
      · rw [getD_app1 h9, u10 _ (by omega)]
        exact hlt i h9
      · have : i = ls.length := by omega
        subst this
        rw [getD_app2, u5]
        exact ⟨by rw [show 97 + (tx (sk N tx a1) - 97) = tx (sk N tx a1) by omega], hl26⟩
  · right
    have hg2 : ¬ ltW N tx (sk N tx a1) ∨ (tx (sk N tx a1) - 97) ∈ ls := by
      by_cases hw : ltW N tx (sk N tx a1)
      · by_cases hm : (tx (sk N tx a1) - 97) ∈ ls
        · exact Or.inr hm
        · exact absurd ⟨hw, hm⟩ hg
      · exact Or.inl hw
    obtain ⟨R', r1, r2⟩ := tm.2 (fun h9 => hg ⟨h9.1, h9.2.2⟩)
    exact ⟨R', hg2, lc.2 hg2, r1, r2⟩
/-- frames of tell -/
theorem fM_tl {R : amS} {P : List (Nat × Nat)} (p e vc : Nat) (c : Int32) (hnb : nb ≤ nb1) (hf : fM 1000 1000 nn nb dl P R R1) : fM 1000 1000 nn nb dl P R (tlS (wrM R1 p e) nn vc nb1 (dl + 1) c) := by
  refine fM_trans (nc := 0) hf ?_ (Nat.le_refl _) (Nat.le_refl _) (Nat.le_refl _) (Or.inl rfl) (PE_refl P 0 nb)
  obtain ⟨u1, u2, u3, u4, u5, u6, u7, u8, u9, u10⟩ := tl_rows (R := wrM R1 p e) (nb := nb1) (dl := dl + 1) (n := nn) (vc := vc) (c := c)
  exact ⟨fun m hm _ => ⟨rfl, rfl, rfl, rfl, rfl, rfl, (u6 m (by omega)).trans rfl, fun j hj => (u7 _ (by omega)).trans rfl⟩, fun _ _ _ => rfl, fun _ _ => ⟨rfl, rfl, rfl⟩, fun i hi => (u9 i (by omega)).trans rfl, fun v hv _ => (u8 v (by omega)).trans rfl, fun m hm j hj => (u7 _ (by omega)).trans rfl⟩
theorem ndF_tl {k p0 v fi la cc : Int32} {vc0 : Int32} (p e vc : Nat) (c : Int32) (hf : ndF R1 nn k p0 v fi la cc vc0) : ndF (tlS (wrM R1 p e) nn vc nb1 (dl + 1) c) nn k p0 v fi la cc (nI (vc + 1)) := by
  obtain ⟨u1, -⟩ := tl_rows (R := wrM R1 p e) (nb := nb1) (dl := dl + 1) (n := nn) (vc := vc) (c := c)
  exact ⟨hf.1, hf.2.1, hf.2.2.1, hf.2.2.2.1, hf.2.2.2.2.1, hf.2.2.2.2.2.1, u1⟩
theorem opM_tl {d n : Nat} {t : Int32} {mk : Nat} (p e vc : Nat) (c : Int32) (ho : opM R1 d n t mk) : opM (tlS (wrM R1 p e) nn vc nb1 (dl + 1) c) d n t mk := ho
end TOLD
