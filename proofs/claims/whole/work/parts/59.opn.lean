/-! operands -/
/-- j operands of node n are read: nodes cs, orders qs, up to nodes Ms, functions Fs -/
def OPN (P : List (Nat × Nat)) (a dl n nc nn sz fc p0 f0 h fn j : Nat) (sc : List scE) (cs qs Ms Fs : Nat → Nat) (S R : amS) : Prop :=
  (qs 0 = p0 ∧ qs j = sz ∧ Fs 0 = f0 ∧ Fs j = fc) ∧
  (∀ i, i < j → (n < cs i ∧ cs i < Ms i ∧ Ms i ≤ nn ∧ p0 ≤ qs i ∧ qs (i + 1) ≤ sz ∧ f0 ≤ Fs i ∧ Fs (i + 1) ≤ fc) ∧ Tr P a dl (cs i) (Ms i) (qs i) (qs (i + 1)) (Fs i) (Fs (i + 1)) nc (h + i) fn sc S R) ∧
  (∀ i i', i < i' → i' < j → Ms i ≤ cs i') ∧ (∀ i, i + 1 < j → R.1 41 (cs i) = nI (cs (i + 1)))
section OPNS
variable {P P' : List (Nat × Nat)} {a a' dl n nc nc' nn sz fc p0 f0 h fn j l nb pd : Nat} {sc : List scE} {cs qs Ms Fs : Nat → Nat} {S R S' R' : amS} {cx : cxT}
theorem opn_0 (P : List (Nat × Nat)) (a dl n nc nn sz fc h fn : Nat) (sc : List scE) (S R : amS) : OPN P a dl n nc nn sz fc sz fc h fn 0 sc (fun _ => 0) (fun _ => sz) (fun _ => 0) (fun _ => fc) S R :=
  ⟨⟨rfl, rfl, rfl, rfl⟩, fun i hi => absurd hi (by omega), fun i i' _ hi => absurd hi (by omega), fun i hi => absurd hi (by omega)⟩
theorem opn_keep (ho : OPN P a dl n nc nn sz fc p0 f0 h fn j sc cs qs Ms Fs S R) (hC : fC sz nc pd fc cx S S') (hM : fM n l nn nb dl P R R') (hl : (1 ≤ j ∧ l = cs (j - 1)) ∨ nn ≤ l) (hP : ∀ x ∈ P, x ∈ P') (ha : a ≤ a') (hn : nc ≤ nc') (hx : ∀ f ∈ cx, f.1 < f0 ∨ fc ≤ f.1) : OPN P' a' dl n nc' nn sz fc p0 f0 h fn j sc cs qs Ms Fs S' R' := by
  obtain ⟨h1, h2, h3, h4⟩ := ho
  refine ⟨h1, fun i hi => ⟨(h2 i hi).1, ?_⟩, h3, fun i hi => ?_⟩
  · obtain ⟨⟨w1, w2, w3, w4, w5, w6, w7⟩, w8⟩ := h2 i hi
    refine Tr_mono (Tr_step w8 (cK_of_fC hC w5 w7 (Nat.le_refl _) (fun f hf => ?_)) (kM_of_fM hM w3 (Or.inl w1) ?_)) hP ha hn
    · rcases hx f hf with h9 | h9
      · exact Or.inl (by omega)
      · exact Or.inr (by omega)
    · rcases hl with ⟨l1, l2⟩ | l2
      · by_cases hij : i = j - 1
        · exact Or.inl (by rw [l2, hij]; exact Nat.le_refl _)
        · exact Or.inr (by rw [l2]; exact h3 i (j - 1) (by omega) (by omega))
      · exact Or.inr (by omega)
  · obtain ⟨⟨w1, w2, w3, -⟩, -⟩ := h2 i (by omega)
    rw [hM.2.1 (cs i) (by omega) (by
      rcases hl with ⟨l1, l2⟩ | l2
      · have := h3 i (j - 1) (by omega) (by omega)
        omega
      · omega)]
    exact h4 i hi
theorem opn_add {c nn' sz' fc' : Nat} (ho : OPN P a dl n nc nn sz fc p0 f0 h fn j sc cs qs Ms Fs S R) (hc1 : nn ≤ c) (hc2 : c < nn') (hs : sz ≤ sz') (hf : fc ≤ fc') (hp : p0 ≤ sz) (hf0 : f0 ≤ fc) (hn : n < nn) (ht : Tr P a dl c nn' sz sz' fc fc' nc (h + j) fn sc S R) (h41 : j ≠ 0 → R.1 41 (cs (j - 1)) = nI c) :
    OPN P a dl n nc nn' sz' fc' p0 f0 h fn (j + 1) sc (fun i => if i = j then c else cs i) (fun i => if i = j + 1 then sz' else qs i) (fun i => if i = j then nn' else Ms i) (fun i => if i = j + 1 then fc' else Fs i) S R := by
  obtain ⟨⟨g1, g2, g3, g4⟩, h2, h3, h4⟩ := ho
  refine ⟨⟨by dsimp only; rw [if_neg (by omega)]; exact g1, by dsimp only; rw [if_pos rfl], by dsimp only; rw [if_neg (by omega)]; exact g3, by dsimp only; rw [if_pos rfl]⟩, fun i hi => ?_, fun i i' hii hi => ?_, fun i hi => ?_⟩
  · by_cases hij : i = j
    · subst hij
      dsimp only
      rw [if_pos rfl, if_pos rfl, if_neg (show i ≠ i + 1 by omega), if_neg (show i ≠ i + 1 by omega), if_pos rfl, if_pos rfl, g2, g4]
      exact ⟨⟨by omega, hc2, Nat.le_refl _, hp, Nat.le_refl _, hf0, Nat.le_refl _⟩, ht⟩
    · dsimp only
      rw [if_neg hij, if_neg hij, if_neg (show i ≠ j + 1 by omega), if_neg (show i ≠ j + 1 by omega), if_neg (show i + 1 ≠ j + 1 by omega), if_neg (show i + 1 ≠ j + 1 by omega)]
      obtain ⟨⟨w1, w2, w3, w4, w5, w6, w7⟩, w8⟩ := h2 i (by omega)
      exact ⟨⟨w1, w2, by omega, w4, by omega, w6, by omega⟩, w8⟩
  · dsimp only
    rw [if_neg (show i ≠ j by omega)]
    by_cases hij : i' = j
    · rw [if_pos hij]
      obtain ⟨⟨w1, w2, w3, -⟩, -⟩ := h2 i (by omega)
      omega
    · rw [if_neg hij]
      exact h3 i i' hii (by omega)
  · dsimp only
    rw [if_neg (show i ≠ j by omega)]
    by_cases hij : i + 1 = j
    · rw [if_pos hij]
      have := h41 (by omega)
      rw [show j - 1 = i by omega] at this
      exact this
    · rw [if_neg hij]
      exact h4 i (by omega)
/-- what later states have of operands -/
theorem opn_tt {p q g0 g1 M : Nat} {S2 R2 : amS} (ho : OPN P a dl n nc nn sz fc p0 f0 h fn j sc cs qs Ms Fs S R) (hC : cK p q g0 g1 nc S S2) (h1 : p ≤ p0) (h2 : sz ≤ q) (h3 : g0 ≤ f0) (h4 : fc ≤ g1) (hM : kM n M R R2) (h5 : nn ≤ M) (hJ : KJ P S2 R2) (ha : a + dl ≤ 250) :
    (∃ f, ∀ i, i < j → TT S2 R2 false f 0 (nI (cs i)) 0 dl (qs i) (qs (i + 1)) (h + i) fn sc false) ∧ ∀ i, i + 1 < j → R2.1 41 (cs i) = nI (cs (i + 1)) := by
  obtain ⟨g, k2, k3, k4⟩ := ho
  refine ⟨fuel_all (T := fun i f => TT S2 R2 false f 0 (nI (cs i)) 0 dl (qs i) (qs (i + 1)) (h + i) fn sc false) (fun i f f' hl ht => TT_le hl ht) (fun i hi => ?_), fun i hi => ?_⟩
  · obtain ⟨⟨w1, w2, w3, w4, w5, w6, w7⟩, w8⟩ := k2 i hi
    obtain ⟨f, hf⟩ := w8 S2 R2 (cK_le hC (by omega) (by omega) (by omega) (by omega) (Nat.le_refl _)) (kM_le hM (by omega) (by omega)) hJ ha
    exact ⟨f, hf false⟩
  · obtain ⟨⟨w1, w2, w3, w4, w5, w6, w7⟩, w8⟩ := k2 i (by omega)
    rw [hM.2 (cs i) (by omega) (by omega)]
    exact k4 i hi
end OPNS
section PRIM
variable {S0 R0 : amS} {N : Nat} {tx : Nat → Nat} {a q sz nc pd fc h nn nb dl : Nat} {cx : cxT} {P : List (Nat × Nat)} {kd v : Int32} {S R Sq R3 : amS}
/-- one operand more (after slot) -/
theorem opn_slot {n j p0 f0 a1 l b2 h0 : Nat} {cs qs Ms Fs : Nat → Nat} {S1 R1 : amS} {k p v fi vc : Int32} {S' : amS} {r : amQ} (ho : OPN P a1 dl n nc nn sz fc p0 f0 h0 (fnO cx) j (scO cx) cs qs Ms Fs S1 R1) (hjl : j ≠ 0 → l = cs (j - 1)) (hn : n < nn) (hx : ∀ f ∈ cx, f.1 < f0 ∨ 1000 ≤ f.1) (hp : p0 ≤ sz) (hf0 : f0 ≤ fc) (ha1 : a1 ≤ b2) (hfc : fc ≤ 1000) (hnn : nn ≤ 1000)
    (hs : SP S0 R0 N tx b2 sz nc pd fc (h0 + j) nn nb dl cx P S1 R1 n l j k p v fi vc S' r) : ∃ a' sz' nc' fc' nn' nb' P' R' c cs' qs' Ms' Fs', r = G_152_58 1 R' ∧ RL S0 R0 N tx a' a' sz' nc' pd fc' (h0 + j + 1) nn' nb' dl cx P' S' R' ∧ BD a' (sz' + 1) nc' pd fc' nn' nb' dl cx ∧ sk N tx b2 < a' ∧
      (sz < sz' ∧ nc ≤ nc' ∧ fc ≤ fc' ∧ nb ≤ nb' ∧ nn ≤ c ∧ c < nn') ∧ fC sz nc pd fc cx S1 S' ∧ fM n (if j = 0 then 1000 else l) nn nb dl P R1 R' ∧ PE P P' nc nb ∧ R'.1 41 c = -1 ∧ OPN P' a' dl n nc' nn' sz' fc' p0 f0 h0 (fnO cx) (j + 1) (scO cx) cs' qs' Ms' Fs' S' R' ∧ c = cs' j ∧ (0 < j → cs' 0 = cs 0) ∧ ndF R' n k p v (if j = 0 then nI c else fi) (nI c) (nI (j + 1)) vc := by
  obtain ⟨a', sz', nc', fc', nn', nb', P', R', c, e1, e2, e3, e4, e5, e6, e7, e8, e9, e10, e11, e12⟩ := hs
  obtain ⟨e5a, e5b, e5c, e5d, e5e, e5f⟩ := e5
  have hsb := sk_ge (N := N) (tx := tx) b2
  have k1 := opn_keep (P' := P') (a' := a') (nc' := nc') ho e6 e7 (by
    by_cases h0 : j = 0
    · rw [if_pos h0]; exact Or.inr hnn
    · rw [if_neg h0]; exact Or.inl ⟨by omega, hjl h0⟩) e8.1 (by omega) e5b (fun f hf => by
    rcases hx f hf with h9 | h9
    · exact Or.inl h9
    · exact Or.inr (by omega))
  have k2 := opn_add k1 e5e e5f (by omega) e5c hp hf0 hn e10 (fun h0 => by rw [← hjl h0]; exact e12 h0)
  exact ⟨a', sz', nc', fc', nn', nb', P', R', c, _, _, _, _, e1, e2, e3, e4, ⟨e5a, e5b, e5c, e5d, e5e, e5f⟩, e6, e7, e8, e9, k2, (if_pos rfl).symm, fun h0 => if_neg (by omega), e11⟩
/-- a form with j operands read, since its node was open -/
def ACC (S0 R0 : amS) (N : Nat) (tx : Nat → Nat) (a sz nc pd fc h nn nb dl : Nat) (cx : cxT) (P : List (Nat × Nat)) (kd v : Int32) (S R3 : amS) (a1 b1 sz1 nc1 fc1 nn1 nb1 : Nat) (P1 : List (Nat × Nat)) (S1 R1 : amS) (j : Nat) (cs qs Ms Fs : Nat → Nat) (fi la : Int32) : Prop :=
  RL S0 R0 N tx a1 b1 sz1 nc1 pd fc1 (h + j) nn1 nb1 (dl + 1) cx P1 S1 R1 ∧ BD a1 (sz1 + (if j = 0 then 0 else 1)) nc1 pd fc1 nn1 nb1 (dl + 1) cx ∧ sk N tx a < a1 ∧ (sz + 1 ≤ sz1 ∧ nc ≤ nc1 ∧ fc ≤ fc1 ∧ nb ≤ nb1 ∧ nn + 1 ≤ nn1) ∧ fC sz nc pd fc cx S S1 ∧ cd S1 sz 1 0 (nI (sk N tx a)) ∧ fM nn 1000 (nn + 1) nb (dl + 1) P R3 R1 ∧ PE P P1 nc nb ∧
  OPN P1 a1 (dl + 1) nn nc1 nn1 sz1 fc1 (sz + 1) fc h (fnO cx) j (scO cx) cs qs Ms Fs S1 R1 ∧ ndF R1 nn kd (nI (sk N tx a)) v fi la (nI j) 0 ∧ (j ≠ 0 → fi = nI (cs 0) ∧ la = nI (cs (j - 1)) ∧ cs (j - 1) < nn1 ∧ nn < cs (j - 1))
theorem acc_0 (hb : BD a sz nc pd fc nn nb dl cx) (hi : FI S0 R0 N tx a q sz nc pd fc h nn nb dl cx P kd v S R Sq R3) : ACC S0 R0 N tx a sz nc pd fc h nn nb dl cx P kd v S R3 q q (sz + 1) nc fc (nn + 1) nb P (addS Sq sz 1 0 (nI (sk N tx a))) R3 0 (fun _ => 0) (fun _ => sz + 1) (fun _ => 0) (fun _ => fc) (-1) (-1) := by
  obtain ⟨t1, t2, t3, t4, t5, f1, f2, f3, f4, f5, f6, f7⟩ := hi
  obtain ⟨b1, b2, b3, b4, b5, b6, b7⟩ := hb
  have hsa := sk_ge (N := N) (tx := tx) a
  exact ⟨⟨CR_add t1 1 0 _, f1, rfl, JP_rows t4 rfl rfl, pfC_add t3 1 0 _, f6⟩, ⟨by rw [if_pos rfl]; omega, by omega, by omega, by omega, by omega, by omega, by omega⟩, t5, ⟨Nat.le_refl _, Nat.le_refl _, Nat.le_refl _, Nat.le_refl _, Nat.le_refl _⟩, fC_tr t2 (fC_add 1 0 _ nc pd fc cx) (Nat.le_refl _) (Nat.le_refl _) (Nat.le_refl _) (Nat.le_refl _), cd_add (S := Sq) 1 0 _, fM_refl nn 1000 (nn + 1) nb (dl + 1) P R3, PE_refl P nc nb, opn_0 P q (dl + 1) nn nc (nn + 1) (sz + 1) fc h (fnO cx) (scO cx) _ R3, f3, fun h9 => absurd rfl h9⟩
theorem acc_op {a1 b1 sz1 nc1 fc1 nn1 nb1 : Nat} {P1 : List (Nat × Nat)} {S1 R1 : amS} {j : Nat} {cs qs Ms Fs : Nat → Nat} {fi la : Int32} {mk : Nat} (hA : ACC S0 R0 N tx a sz nc pd fc h nn nb dl cx P kd v S R3 a1 b1 sz1 nc1 fc1 nn1 nb1 P1 S1 R1 j cs qs Ms Fs fi la) (ho : opM R3 (dl + 1) nn 0 mk) : opM R1 (dl + 1) nn 0 mk := by
  obtain ⟨o1, o2, o3⟩ := hA.2.2.2.2.2.2.1.2.2.1 (dl + 1) (Nat.le_refl _)
  exact ⟨o1.trans ho.1, o2.trans ho.2.1, o3.trans ho.2.2⟩
theorem acc_slot {k0 : Nat} (he : EH S0 R0 N tx k0 (dl + 1)) (hN : N ≤ 250) (hh : h ≤ 4 * dl) (hd : dl < 20) (hx : ∀ f ∈ cx, f.1 < fc ∨ 1000 ≤ f.1) {mk : Nat} (ho : opM R3 (dl + 1) nn 0 mk) {a1 b1 sz1 nc1 fc1 nn1 nb1 : Nat} {P1 : List (Nat × Nat)} {S1 R1 : amS} {j : Nat} {cs qs Ms Fs : Nat → Nat} {fi la : Int32} (hj : j ≤ 4) (hA : ACC S0 R0 N tx a sz nc pd fc h nn nb dl cx P kd v S R3 a1 b1 sz1 nc1 fc1 nn1 nb1 P1 S1 R1 j cs qs Ms Fs fi la) (hg : gate N tx b1 (dl + 1) nn 0 R1) :
    Sim S0 R0 (G_73 k0 (nI (dl + 1)) S1) (G_152_58 1 R1) (fun S' r => ∃ a2 sz2 nc2 fc2 nn2 nb2 P2 R2 cs' qs' Ms' Fs' fi' la', r = G_152_58 1 R2 ∧ sk N tx a1 < a2 ∧ ACC S0 R0 N tx a sz nc pd fc h nn nb dl cx P kd v S R3 a2 a2 sz2 nc2 fc2 nn2 nb2 P2 S' R2 (j + 1) cs' qs' Ms' Fs' fi' la') := by
  have hop := acc_op hA ho
  obtain ⟨t1, t2, t3, t4, t5, t6, t7, t8, t9, t10, t11⟩ := hA
  obtain ⟨u1, u2, u3, u4, u5⟩ := t4
  have ha1 : a1 ≤ N := t1.1.2.1.2
  obtain ⟨b1', b2', b3', b4', b5', b6', b7'⟩ := t2
  have hsa := sk_ge (N := N) (tx := tx) a1
  refine Sim_imp (slot (cc := j) (l := cs (j - 1)) he t1 ⟨by omega, b2', b3', b4', b5', b6', b7'⟩ (by omega) (by omega) hN hop (by omega) hg t10 (by omega) (fun h9 => ⟨(t11 h9).2.1, (t11 h9).2.2.1⟩)) ?_
  intro S' r hs
  obtain ⟨a2, sz2, nc2, fc2, nn2, nb2, P2, R2, c, cs', qs', Ms', Fs', e1, e2, e3, e4, e5, e6, e7, e8, e9, e10, e11, e12, e13⟩ := opn_slot t9 (fun _ => rfl) (by omega) hx (by omega) (by omega) (Nat.le_refl _) (by omega) (by omega) hs
  obtain ⟨e5a, e5b, e5c, e5d, e5e, e5f⟩ := e5
  refine ⟨a2, sz2, nc2, fc2, nn2, nb2, P2, R2, cs', qs', Ms', Fs', _, _, e1, e4, e2, ⟨by rw [if_neg (by omega)]; exact e3.1, e3.2.1, e3.2.2.1, e3.2.2.2.1, e3.2.2.2.2.1, e3.2.2.2.2.2.1, e3.2.2.2.2.2.2⟩, by omega, ⟨by omega, by omega, by omega, by omega, by omega⟩, fC_tr t5 e6 (by omega) u2 (Nat.le_refl _) u3, cd_ag t6 (e6.1 sz (by omega)), ?_, PE_trans t8 e8 u2 u4, e10, e13, fun _ => ⟨?_, by rw [Nat.add_sub_cancel, e11], by rw [Nat.add_sub_cancel, ← e11]; exact e5f, by rw [Nat.add_sub_cancel, ← e11]; omega⟩⟩
  · refine fM_trans (nc := nc) t7 e7 (by omega) u4 (Nat.le_refl _) ?_ t8
    by_cases h0 : j = 0
    · rw [if_pos h0]; exact Or.inl rfl
    · rw [if_neg h0]
      have := (t11 h0).2.2.2
      exact Or.inr (by omega)
  · by_cases h0 : j = 0
    · rw [if_pos h0, e11, h0]
    · rw [if_neg h0, (t11 h0).1, e12 (by omega)]
/-- a form with operands ends -/
theorem acc_fin (hN : N ≤ 250) (hb : BD a sz nc pd fc nn nb dl cx) (hh : h ≤ 4 * dl) (hd : dl < 20) (hfo : FO R0 N tx (sk N tx a) q nn nb dl cx P kd v R R3) {a1 b1 sz1 nc1 fc1 nn1 nb1 : Nat} {P1 : List (Nat × Nat)} {S1 R1 : amS} {m : Nat} {cs qs Ms Fs : Nat → Nat} {fi la od x : Int32} (hm : 1 ≤ m ∧ m ≤ 5) (hA : ACC S0 R0 N tx a sz nc pd fc h nn nb dl cx P kd v S R3 a1 b1 sz1 nc1 fc1 nn1 nb1 P1 S1 R1 m cs qs Ms Fs fi la) (hen : enF R1 0 nn = 1) (hcl : tb N tx (sk N tx b1) = 41 ∨ tb N tx (sk N tx b1) = -1 ∨ fuF R1 0 nn = 1)
    (hk : (kd = 9 ∧ ∃ o, o < 13 ∧ v = nI o ∧ m = (if o < 7 then 2 else 1) ∧ od = prO o ∧ x = 0) ∨ (kd = 10 ∧ od = 14 ∧ x = nI (m - 1))) :
    CP S0 R0 N tx a sz nc pd fc h nn nb dl cx P S R (sI (addS S1 sz1 od x (nI (sk N tx a))) 23 4 (nI (h + 1))) (G_152_58 1 R1) := by
  have hop := acc_op hA hfo.2.1
  obtain ⟨f1, f2, f3, f4, f5, f6, f7⟩ := hfo
  obtain ⟨t1, t2, t3, t4, t5, t6, t7, t8, t9, t10, t11⟩ := hA
  obtain ⟨u1, u2, u3, u4, u5⟩ := t4
  have hm0 : m ≠ 0 := by omega
  rw [if_neg hm0] at t2
  obtain ⟨b1', b2', b3', b4', b5', b6', b7'⟩ := t2
  obtain ⟨c1, c2, c3, c4, c5, c6, c7⟩ := hb
  obtain ⟨r1, r2, r3, r4, r5, r6⟩ := t1
  have ha1 : a1 ≤ N := r1.2.1.2
  have hsa := sk_ge (N := N) (tx := tx) a
  have hcd : cd (sI (addS S1 sz1 od x (nI (sk N tx a))) 23 4 (nI (h + 1))) sz 1 0 (nI (sk N tx a)) := cd_ag t6 ((fC_add (S := S1) (sz := sz1) od x (nI (sk N tx a)) nc pd fc cx).1 sz (by omega))
  have hcd2 : cd (sI (addS S1 sz1 od x (nI (sk N tx a))) 23 4 (nI (h + 1))) sz1 od x (nI (sk N tx a)) := cd_add (S := S1) od x _
  have hox : ∀ f ∈ cx, f.1 < fc1 ∨ fc1 ≤ f.1 := fun f _ => by omega
  have hO2 : OPN P1 a1 (dl + 1) nn nc1 nn1 sz1 fc1 (sz + 1) fc h (fnO cx) m (scO cx) cs qs Ms Fs (sI (addS S1 sz1 od x (nI (sk N tx a))) 23 4 (nI (h + 1))) R1 := by
    obtain ⟨z1, z2, z3, z4⟩ := t9
    refine ⟨z1, fun i hi => ⟨(z2 i hi).1, Tr_step (z2 i hi).2 ?_ (kM_refl _ _ _)⟩, z3, z4⟩
    have := (fC_add (S := S1) (sz := sz1) od x (nI (sk N tx a)) nc1 pd 1000 [])
    exact cK_of_fC this (z2 i hi).1.2.2.2.2.1 (by have := (z2 i hi).1.2.2.2.2.2.2; omega) (Nat.le_refl _) (fun f hf => by cases hf)
  refine ⟨a1, b1, sz1 + 1, nc1, fc1, nn1, nb1, P1, R1, [], rfl, CR_h (CR_add r1 od x _) (h + 1), r2, r3, JP_rows r4 rfl rfl, pfC_h (pfC_add r5 od x _) _, r6, ⟨b1', b2', b3', b4', b5', t3⟩, ⟨by omega, u2, u3, u4, by omega⟩, fC_tr (fC_tr t5 (fC_add od x _ nc pd fc cx) (by omega) (Nat.le_refl _) (Nat.le_refl _) (Nat.le_refl _)) (fC_h _ sz nc pd fc cx) (Nat.le_refl _) (Nat.le_refl _) (Nat.le_refl _) (Nat.le_refl _), fM_trans (nc := nc) f5 (fM_le t7 (n' := 1000) (l' := 1000) (nn' := nn) (nb' := nb) (dl' := dl) (by omega) (Nat.le_refl _) (by omega) (Or.inr (Nat.le_refl _)) (Or.inl rfl)) (Nat.le_refl _) (Nat.le_refl _) (Nat.le_refl _) (Or.inl rfl) (PE_refl P nc nb), t8, (t7.2.1 nn (by omega) (by omega)).trans f4, hop, ⟨hen, by rw [t10.2.2.2.2.2.1]; exact nI_ne0 (by omega) (by omega)⟩, hcl, ?_, ?_, t10.2.1⟩
  · intro S5 R5 k1 k2 k3 k4
    obtain ⟨⟨f, hf⟩, hch⟩ := opn_tt hO2 k1 (by omega) (by omega) (Nat.le_refl _) (Nat.le_refl _) k2 (Nat.le_refl _) k3 (by omega)
    obtain ⟨m1, m2, m3, m4, m5, m6, m7, -⟩ := k2.1 nn (Nat.le_refl _) (by omega)
    obtain ⟨s1, s2, s3, s4, s5⟩ := hdT_mk (q := sz1 + 1) (a' := a1 + 1) (nc := nc1) (nb := nb1) (dl := dl) (h := h) (by omega) hh (by omega) (show 17 * (scO cx).length ≤ 4 * (a1 + 1 + dl) by omega) r4.2.2.2.2 (by omega) (by omega) (by omega)
    have p37 : R5.1 37 nn = nI (sk N tx a) := m2.trans t10.2.1
    have hcs : ∀ i, i < m → cs i < 256 := fun i hi => by have := (hO2.2.1 i hi).1; omega
    have hq : opq R5 m nn (sz + 1) sz1 cs qs := ⟨hO2.1.1, hO2.1.2.1, by rw [m4, t10.2.2.2.1]; exact (t11 hm0).1, hcs, hch⟩
    have d1 := cd_ag hcd (k1.1 sz (Nat.le_refl _) (by omega))
    have d2 := cd_ag hcd2 (k1.1 sz1 (by omega) (by omega))
    refine ⟨f + 1, fun tl => ⟨nn, rfl, by omega, s1, s2, s3, s4, s5, ?_⟩⟩
    rcases hk with ⟨k5, o, k6, k7, k8, k9, k10⟩ | ⟨k5, k6, k7⟩
    · refine Or.inr (Or.inr (Or.inr (Or.inr (Or.inr (Or.inr (Or.inr (Or.inr (Or.inr (Or.inl ⟨m1.trans (t10.1.trans k5), o, m, sz1, cs, qs, k6, m3.trans (t10.2.2.1.trans k7), k8, m6.trans t10.2.2.2.2.2.1, ?_, hq, hf, ?_, rfl⟩)))))))))
      · rw [p37]; exact d1
      · rw [p37, ← k9]; rw [k10] at d2; exact d2
    · refine Or.inr (Or.inr (Or.inr (Or.inr (Or.inr (Or.inr (Or.inr (Or.inr (Or.inr (Or.inr ⟨m1.trans (t10.1.trans k5), m - 1, sz1, cs, qs, by omega, ?_, ?_, ?_, ?_, ?_, rfl, fun h9 => absurd h9 (by decide)⟩)))))))))
      · rw [m6, t10.2.2.2.2.2.1, show m - 1 + 1 = m by omega]
      · rw [p37]; exact d1
      · rw [show m - 1 + 1 = m by omega]; exact hq
      · intro i hi; exact hf i (by omega)
      · rw [p37, ← k7]
        show cd S5 sz1 14 x (nI (sk N tx a))
        rw [← k6]; exact d2
  · rw [hcd.1, t10.1]
    rcases hk with ⟨k5, -⟩ | ⟨k5, -⟩ <;> rw [k5] <;> decide
theorem opn_tab : ∀ o, o < 13 → am_opn.getD (6 + o) 0 = nI (if o < 7 then 2 else 1) := by decide
theorem moF_9 {o : Nat} (ho : o < 13) : moF 9 (nI o) = nI (if o < 7 then 2 else 1) := by
  unfold moF
  rw [if_neg (by decide), if_neg (by decide), if_pos rfl]
  by_cases h : o < 7
  · rw [if_pos h, if_neg (show ¬ (7 : Int32) ≤ nI o from nI_ge (b := 7) h (by decide))]
    rfl
  · rw [if_neg h, if_pos (show (7 : Int32) ≤ nI o from nI_le (a := 7) (by omega) (by omega))]
    rfl
theorem prim_cp {k0 o : Nat} (he : EH S0 R0 N tx k0 (dl + 1)) (hN : N ≤ 250) (hb : BD a sz nc pd fc nn nb dl cx) (hh : h ≤ 4 * dl) (hd : dl < 20) (ho : o < 13) (hi : FI S0 R0 N tx a q sz nc pd fc h nn nb dl cx P 9 (nI o) S R Sq R3) :
    Sim S0 R0 (G_92 k0 (1006 + o) (nI (sk N tx a)) (nI (dl + 1)) Sq) (G_152_58 1 R3) (CP S0 R0 N tx a sz nc pd fc h nn nb dl cx P S R) := by
  have hA0 := acc_0 hb hi
  obtain ⟨t1, t2, t3, t4, t5, hfo⟩ := hi
  have hq : q ≤ N := t1.2.1.2
  have hsa := sk_ge (N := N) (tx := tx) a
  have hsz : sz < 501 := by have := hb.1; omega
  have hx : ∀ f ∈ cx, f.1 < fc ∨ 1000 ≤ f.1 := ox_lt t1 (Nat.le_refl _)
  have hif : (1000 ≤ 1006 + o ∧ 1006 + o < 1019) := by omega
  have e6 : 1006 + o - 1000 = 6 + o := by omega
  unfold G_92
  rw [add_c t1 (by omega), bI_i, G_92_14_eq]
  unfold B_92_14
  simp only [az_if, if_pos hif, e6, opn_tab o ho]
  -- the end
  have fin : ∀ (m a1 b1 sz1 nc1 fc1 nn1 nb1 : Nat) (P1 : List (Nat × Nat)) (S1 R1 : amS) (cs qs Ms Fs : Nat → Nat) (fi la : Int32), m = (if o < 7 then 2 else 1) → ACC S0 R0 N tx a sz nc pd fc h nn nb dl cx P 9 (nI o) S R3 a1 b1 sz1 nc1 fc1 nn1 nb1 P1 S1 R1 m cs qs Ms Fs fi la → Sim S0 R0 (G_92_14 k0 (1006 + o) (nI (sk N tx a)) (nI (dl + 1)) (nI m) S1) (G_152_58 1 R1) (CP S0 R0 N tx a sz nc pd fc h nn nb dl cx P S R) := by
    intro m a1 b1 sz1 nc1 fc1 nn1 nb1 P1 S1 R1 cs qs Ms Fs fi la hm hA
    have hm2 : 1 ≤ m ∧ m ≤ 2 := by rw [hm]; split <;> omega
    have g := gate_fix (m := m) hA.2.2.2.2.2.2.2.2.2.1 ⟨by decide, by decide⟩ (by decide) (by rw [moF_9 ho, hm]) (by omega) (Nat.le_refl _)
    rw [if_pos rfl] at g
    have hc1 := hA.1.1
    have ha1 : a1 ≤ N := hc1.2.1.2
    have hs1 : sz1 < 502 := by have := hA.2.1.1; rw [if_neg (by omega)] at this; omega
    rw [G_92_14_eq]
    unfold B_92_14
    simp only [az_if, if_pos hif, e6, opn_tab o ho]
    rw [← hm, if_pos (Int32.le_refl _), add_c hc1 hs1, bI_i]
    simp only [az_st]
    have e1 : (addS S1 sz1 (am_ord.getD (6 + o) 0) 0 (nI (sk N tx a))).1 23 4 - (nI m - 1) = nI (h + 1) := by
      rw [show (addS S1 sz1 (am_ord.getD (6 + o) 0) 0 (nI (sk N tx a))).1 23 4 = nI (h + m) from hc1.2.2.2.2.2.2.2.2.1, show (1 : Int32) = nI 1 from rfl, pk_sub (by omega), pk_sub (by omega), show h + m - (m - 1) = h + 1 by omega]
    rw [e1]
    exact Or.inr ⟨_, rfl, acc_fin hN hb hh hd hfo ⟨hm2.1, by omega⟩ hA g.2 (Or.inr (Or.inr g.1)) (Or.inl ⟨rfl, o, ho, rfl, hm, rfl, rfl⟩)⟩
  have gat : ∀ (j a1 b1 sz1 nc1 fc1 nn1 nb1 : Nat) (P1 : List (Nat × Nat)) (S1 R1 : amS) (cs qs Ms Fs : Nat → Nat) (fi la : Int32), j < (if o < 7 then 2 else 1) → ACC S0 R0 N tx a sz nc pd fc h nn nb dl cx P 9 (nI o) S R3 a1 b1 sz1 nc1 fc1 nn1 nb1 P1 S1 R1 j cs qs Ms Fs fi la → gate N tx b1 (dl + 1) nn 0 R1 := by
    intro j a1 b1 sz1 nc1 fc1 nn1 nb1 P1 S1 R1 cs qs Ms Fs fi la hj hA
    have g := gate_fix (m := if o < 7 then 2 else 1) hA.2.2.2.2.2.2.2.2.2.1 ⟨by decide, by decide⟩ (by decide) (moF_9 ho) (by split <;> omega) (by omega)
    rw [if_neg (by omega)] at g
    exact ⟨g.1, fun _ => Or.inr g.2, fun _ => Or.inl (by omega)⟩
  rw [if_neg (show ¬ nI (if o < 7 then 2 else 1) ≤ 0 from nI_ge (a := 0) (by split <;> omega) (by split <;> omega))]
  refine Sim_bV (acc_slot he hN hh hd hx hfo.2.1 (by omega) hA0 (gat 0 q q (sz + 1) nc fc (nn + 1) nb P _ R3 _ _ _ _ _ _ (by split <;> omega) hA0)) ?_
  rintro S1 r ⟨a1, sz1, nc1, fc1, nn1, nb1, P1, R1, cs, qs, Ms, Fs, fi, la, e1, -, hA1⟩
  subst e1
  rw [show (0 : Int32) + 1 = nI 1 from rfl]
  by_cases h7 : o < 7
  · rw [G_92_14_eq]
    unfold B_92_14
    simp only [az_if, if_pos hif, e6, opn_tab o ho]
    rw [if_pos h7, if_neg (show ¬ nI 2 ≤ nI 1 by decide)]
    refine Sim_bV (acc_slot he hN hh hd hx hfo.2.1 (by omega) hA1 (gat 1 _ _ _ _ _ _ _ _ _ _ _ _ _ _ _ _ (by rw [if_pos h7]; omega) hA1)) ?_
    rintro S2 r ⟨a2, sz2, nc2, fc2, nn2, nb2, P2, R2, cs2, qs2, Ms2, Fs2, fi2, la2, e2, -, hA2⟩
    subst e2
    exact fin 2 _ _ _ _ _ _ _ _ _ _ _ _ _ _ _ _ (by rw [if_pos h7]) hA2
  · exact fin 1 _ _ _ _ _ _ _ _ _ _ _ _ _ _ _ _ (by rw [if_neg h7]) hA1
end PRIM
