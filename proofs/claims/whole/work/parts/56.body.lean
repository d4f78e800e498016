/-! more fuel; brackets; bodies -/
theorem TT_up {S R : amS} {mk : Bool} : ∀ (f md : Nat) (c rs : Int32) (dl p q h fn : Nat) (sc : List scE) (tl : Bool), TT S R mk f md c rs dl p q h fn sc tl → TT S R mk (f + 1) md c rs dl p q h fn sc tl
  | 0, _, _, _, _, _, _, _, _, _, _, h => absurd h (fun h => h)
  | f + 1, 0, c, rs, dl, p, q, h, fn, sc, tl, ht => by
    have ih := TT_up (S := S) (R := R) (mk := mk) f
    obtain ⟨m, a1, a2, a3, a4, a5, a6, a7, hk⟩ := ht
    refine ⟨m, a1, a2, a3, a4, a5, a6, a7, ?_⟩
    rcases hk with hk | hk | hk | ⟨k1, mu, vs, c0, q1, k2, k3, k4, k5, k6, k7, k8, k9, k10, k11, k12, k13⟩ | ⟨k1, a, b, c, q1, q2, k2, k3, k4, k5, k6, k7, k8, k9, k10, k11, k12, k13, k14⟩ | ⟨k1, vs, c0, b, q1, q2, cs, qs, k2, k3, k4, k5, k6, k7, k8, k9, k10, k11, k12⟩ | ⟨k1, e, a, b, q1, q2, k2, k3, k4, k5, k6, k7, k8, k9, k10, k11, k12, k13, k14⟩ | ⟨k1, e, k2, src, q1, a, k3, k4, k5, k6, k7, k8, k9, k10⟩ | ⟨k1, k2, k3⟩ | ⟨k1, o, k, q1, cs, qs, k2, k3, k4, k5, k6, k7, k8, k9⟩ | ⟨k1, k, q1, cs, qs, k2, k3, k4, k5, k6, k7⟩
    · exact Or.inl hk
    · exact Or.inr (Or.inl hk)
    · exact Or.inr (Or.inr (Or.inl hk))
    · exact Or.inr (Or.inr (Or.inr (Or.inl ⟨k1, mu, vs, c0, q1, k2, k3, k4, k5, k6, k7, k8, k9, k10, k11, ih _ _ _ _ _ _ _ _ _ _ k12, k13⟩)))
    · exact Or.inr (Or.inr (Or.inr (Or.inr (Or.inl ⟨k1, a, b, c, q1, q2, k2, k3, k4, k5, k6, k7, k8, k9, ih _ _ _ _ _ _ _ _ _ _ k10, k11, ih _ _ _ _ _ _ _ _ _ _ k12, k13, ih _ _ _ _ _ _ _ _ _ _ k14⟩))))
    · exact Or.inr (Or.inr (Or.inr (Or.inr (Or.inr (Or.inl ⟨k1, vs, c0, b, q1, q2, cs, qs, k2, k3, k4, k5, k6, fun i hi => ih _ _ _ _ _ _ _ _ _ _ (k7 i hi), k8, k9, k10, ih _ _ _ _ _ _ _ _ _ _ k11, k12⟩)))))
    · exact Or.inr (Or.inr (Or.inr (Or.inr (Or.inr (Or.inr (Or.inl ⟨k1, e, a, b, q1, q2, k2, k3, k4, k5, k6, k7, k8, ih _ _ _ _ _ _ _ _ _ _ k9, k10, k11, k12, ih _ _ _ _ _ _ _ _ _ _ k13, k14⟩))))))
    · exact Or.inr (Or.inr (Or.inr (Or.inr (Or.inr (Or.inr (Or.inr (Or.inl ⟨k1, e, k2, src, q1, a, k3, k4, k5, k6, k7, k8, ih _ _ _ _ _ _ _ _ _ _ k9, k10⟩)))))))
    · exact Or.inr (Or.inr (Or.inr (Or.inr (Or.inr (Or.inr (Or.inr (Or.inr (Or.inl ⟨k1, k2, ih _ _ _ _ _ _ _ _ _ _ k3⟩))))))))
    · exact Or.inr (Or.inr (Or.inr (Or.inr (Or.inr (Or.inr (Or.inr (Or.inr (Or.inr (Or.inl ⟨k1, o, k, q1, cs, qs, k2, k3, k4, k5, k6, k7, fun i hi => ih _ _ _ _ _ _ _ _ _ _ (k8 i hi), k9⟩)))))))))
    · exact Or.inr (Or.inr (Or.inr (Or.inr (Or.inr (Or.inr (Or.inr (Or.inr (Or.inr (Or.inr ⟨k1, k, q1, cs, qs, k2, k3, k4, k5, fun i hi => ih _ _ _ _ _ _ _ _ _ _ (k6 i hi), k7⟩)))))))))
  | f + 1, md + 1, c, rs, dl, p, q, h, fn, sc, tl, ht => by
    have ih := TT_up (S := S) (R := R) (mk := mk) f
    obtain ⟨m, q1, a1, a2, hk⟩ := ht
    refine ⟨m, q1, a1, a2, ?_⟩
    rcases hk with ⟨k1, k2, k3, k4⟩ | ⟨m', k1, k2, k3, k4, k5⟩
    · exact Or.inl ⟨k1, k2, k3, ih _ _ _ _ _ _ _ _ _ _ k4⟩
    · exact Or.inr ⟨m', k1, k2, k3, ih _ _ _ _ _ _ _ _ _ _ k4, ih _ _ _ _ _ _ _ _ _ _ k5⟩
theorem TT_le {S R : amS} {mk : Bool} {f f' md : Nat} {c rs : Int32} {dl p q h fn : Nat} {sc : List scE} {tl : Bool} (hl : f ≤ f') (ht : TT S R mk f md c rs dl p q h fn sc tl) : TT S R mk f' md c rs dl p q h fn sc tl := by
  obtain ⟨d, rfl⟩ : ∃ d, f' = f + d := ⟨f' - f, by omega⟩
  clear hl
  induction d with
  | zero => exact ht
  | succ d ih => exact TT_up _ _ _ _ _ _ _ _ _ _ _ ih
/-- finitely many have one fuel -/
theorem fuel_all {k : Nat} {T : Nat → Nat → Prop} (hm : ∀ i f f', f ≤ f' → T i f → T i f') (h : ∀ i, i < k → ∃ f, T i f) : ∃ f, ∀ i, i < k → T i f := by
  induction k with
  | zero => exact ⟨0, fun i hi => absurd hi (by omega)⟩
  | succ k ih =>
    obtain ⟨f1, h1⟩ := ih (fun i hi => h i (by omega))
    obtain ⟨f2, h2⟩ := h k (by omega)
    refine ⟨f1 + f2, fun i hi => ?_⟩
    by_cases h9 : i = k
    · subst h9; exact hm i f2 _ (by omega) h2
    · exact hm i f1 _ (by omega) (h1 i (by omega))
section BODY
variable {S0 R0 : amS} {N : Nat} {tx : Nat → Nat} {a b sz nc pd fc h nn nb dl : Nat} {cx : cxT} {P : List (Nat × Nat)} {S R : amS}
theorem brk_y (hc : CR N tx a sz nc pd fc h cx S) {c : Int32} (h1 : tb N tx (sk N tx a) = c) (hn : c ≠ -1) : G_81 c S = some (.inl none, sI S 21 3 (nI (sk N tx a + 1))) ∧ sk N tx a + 1 ≤ N := by
  have hN : sk N tx a < N := by
    rcases Nat.lt_or_ge (sk N tx a) N with h9 | h9
    · exact h9
    · exact absurd ((if_neg (by omega) : tb N tx (sk N tx a) = -1).symm.trans h1) (fun h8 => hn h8.symm)
  refine ⟨?_, hN⟩
  unfold G_81
  rw [next_r hc, bI_i, if_pos h1]
  simp only [G_81_22, az_st]
  rw [sI_eq, nI_1, sI_sI]
theorem brk_n (hc : CR N tx a sz nc pd fc h cx S) {c : Int32} (h1 : tb N tx (sk N tx a) ≠ c) : G_81 c S = some (.inr 0, sI (sI S 21 3 (nI (sk N tx a))) 23 5 (nI (sk N tx a))) := by
  unfold G_81
  rw [next_r hc, bI_i, if_neg h1]
  simp only [g_72, az_st]
  rw [bV_x, sI_eq]
/-- what a form leaves before its last bracket -/
def CP (S0 R0 : amS) (N : Nat) (tx : Nat → Nat) (a sz nc pd fc h nn nb dl : Nat) (cx : cxT) (P : List (Nat × Nat)) (S R : amS) (S' : amS) (r : amQ) : Prop :=
  ∃ a' b' sz' nc' fc' nn' nb' P' R' vs, r = G_152_58 1 R' ∧ CR N tx a' sz' nc' pd fc' (h + 1) cx S' ∧ MR N tx b' nn' nb' (dl + 1) (vs ++ scO cx) R' ∧ sk N tx a' = sk N tx b' ∧ JP P' nc' nb' (scO cx) S' R' ∧ pfC S0 S' ∧ pfM R0 R' ∧
  (sz' ≤ 2 * a' ∧ nc' + pd ≤ a' ∧ 9 * fc' ≤ a' ∧ nn' ≤ a' + 1 ∧ nb' ≤ a' ∧ sk N tx a < a') ∧ (sz < sz' ∧ nc ≤ nc' ∧ fc ≤ fc' ∧ nb ≤ nb' ∧ nn < nn') ∧
  fC sz nc pd fc cx S S' ∧ fM 1000 1000 nn nb dl P R R' ∧ PE P P' nc nb ∧ R'.1 41 nn = -1 ∧ opM R' (dl + 1) nn 0 (scO cx).length ∧
  (enF R' 0 nn = 1 ∧ R'.1 42 nn ≠ 0) ∧ (tb N tx (sk N tx b') = 41 ∨ tb N tx (sk N tx b') = -1 ∨ fuF R' 0 nn = 1) ∧
  Tr P' (a' + 1) dl nn nn' sz sz' fc fc' nc' h (fnO cx) (scO cx) S' R' ∧ (S'.1 2 sz = 5 ↔ R'.1 36 nn = 3) ∧ R'.1 37 nn = nI (sk N tx a)
theorem close_ep (hN : N ≤ 250) (hb : BD a sz nc pd fc nn nb dl cx) (hd : dl < 20) {S' : amS} {r : amQ} (hc : CP S0 R0 N tx a sz nc pd fc h nn nb dl cx P S R S' r) : Sim S0 R0 (G_81 41 S') r (EP S0 R0 N tx a sz nc pd fc h nn nb dl cx P S R) := by
  obtain ⟨a', b', sz', nc', fc', nn', nb', P', R', vs, e1, e2, e3, e4, e5, e6, e7, e8, e9, e10, e11, e12, e13, e14, e15, e16, e17, e18, e19⟩ := hc
  obtain ⟨u1, u2, u3, u4, u5, u6⟩ := e8
  obtain ⟨v1, v2, v3, v4, v5⟩ := e9
  have ha' : a' ≤ N := e2.2.1.2
  have hs := sk_ge (N := N) (tx := tx) a'
  have hsa := sk_ge (N := N) (tx := tx) a
  by_cases h41 : tb N tx (sk N tx a') = 41
  · obtain ⟨q1, q2⟩ := brk_y e2 h41 (by decide)
    have q3 := lp_close (dl := dl) e3 e14 (by omega) hd e15.1 (by rw [← e4]; exact h41)
    refine Or.inr ⟨_, q1, sk N tx a' + 1, sz', nc', fc', nn', nb', P', poS R' (sk N tx b') dl (scO cx).length, nn, by rw [e1, q3], ⟨CR_at e2 q2, ?_, rfl, JP_rows e5 rfl rfl, pfC_at e6 _, pfM_po e7 _ _⟩, ⟨by omega, by omega, by omega, by omega, by omega, hb.2.2.2.2.2.1, ?_⟩, by omega, ⟨v1, v2, v3, v4, rfl, v5⟩, fC_trans e10 (fC_at _ sz nc pd fc cx) (Nat.le_refl _) (Nat.le_refl _) (Nat.le_refl _) (Nat.le_refl _) (fun _ _ h => h), fM_trans (nc := nc) e11 (fM_po _ 1000 1000 nn nb dl dl P) (Nat.le_refl _) (Nat.le_refl _) (Nat.le_refl _) (Or.inl rfl) (PE_refl P nc nb), e12, e13, ?_, e18, e19⟩
    · have hco : coK (R'.1 36 nn) (R'.1 42 nn) := by
        refine ⟨e15.2, fun hk4 hch => ?_⟩
        have h9 := e15.1
        unfold enF thF leF moF at h9
        rw [hk4, hch] at h9
        exact absurd (show (0 : Int32) = 1 from h9) (by decide)
      have := MR_po (b := sk N tx b') (R := sI R' 34 4 (nI (sk N tx b'))) (dl := dl) (n := nn) (MR_sk e3) (by rw [← e4]; exact q2) e14.1 (by omega) (by omega) hco
      rw [← e4] at this
      rw [← e4]
      have e : poS (sI R' 34 4 (nI (sk N tx a'))) (sk N tx a') dl (scO cx).length = poS R' (sk N tx a') dl (scO cx).length := by
        unfold poS
        rw [sI_sI]
      rw [e] at this
      exact this
    · have := hb.2.2.2.2.2.2; omega
    · exact Tr_mono (Tr_step e17 (cK_refl _ _ _ _ _ _) (kM_refl nn nn' R')) (fun _ h => h) (by omega) (Nat.le_refl _)
  · obtain ⟨R2, q1, q2⟩ := lp_bad e3 e7 e14 (by omega) (by omega) (by
      rcases e16 with h9 | h9 | h9
      · exact absurd (by rw [e4]; exact h9) h41
      · exact Or.inl ⟨h9, Or.inl (by omega)⟩
      · by_cases hm : tb N tx (sk N tx b') = -1
        · exact Or.inl ⟨hm, Or.inl (by omega)⟩
        · exact Or.inr (Or.inr ⟨hm, by rw [← e4]; exact h41, h9⟩))
    refine Or.inl (Fl_mk (S := sI S' 21 3 (nI (sk N tx a'))) (p := nI (sk N tx a')) (brk_n e2 h41) (by rw [e1]; exact q1) (pfC_at e6 _) ?_)
    rw [e4]; exact q2
/-- forms with a body: how many expressions are there -/
theorem gate_body {n cc vc w : Nat} {k p v fi la : Int32} (hf : ndF R n k p v fi la (nI cc) (nI vc)) (hk : ((k = 3 ∨ k = 8 ∨ k = 11) ∧ w = 0) ∨ ((k = 5 ∨ k = 6) ∧ w = vc)) (hw : w ≤ cc) (hcc : cc < 1000) : fuF R 0 n = 0 ∧ enF R 0 n = if cc = w then 0 else 1 := by
  obtain ⟨f1, f2, f3, f4, f5, f6, f7⟩ := hf
  have hth : thF R n = nI (cc - w) := by
    unfold thF
    rw [f1, f6, f7]
    rcases hk with ⟨hk, hw0⟩ | ⟨hk, hw0⟩
    · rw [if_neg (by rcases hk with h | h | h <;> rw [h] <;> decide), hw0, Nat.sub_zero]
    · rw [if_pos hk, pk_sub (by omega), hw0]
  have hmo : moF k v = 1000 := by
    unfold moF
    rcases hk with ⟨hk | hk | hk, -⟩ | ⟨hk | hk, -⟩ <;> rw [hk] <;> rfl
  have hle : leF k v = 1 := by
    unfold leF
    rw [hmo]
    rcases hk with ⟨hk | hk | hk, -⟩ | ⟨hk | hk, -⟩ <;> rw [hk] <;> rfl
  unfold fuF enF
  rw [if_pos rfl, if_pos rfl, hth, f1, f3, hmo, hle]
  refine ⟨if_neg (fun h9 => ?_), ?_⟩
  · have := (nI_eq (by omega) (by decide)).mp (show nI (cc - w) = nI 1000 from h9)
    omega
  · by_cases h0 : cc = w
    · rw [if_pos h0, show cc - w = 0 by omega]
      rfl
    · rw [if_neg h0, if_neg (show ¬ nI (cc - w) < 1 from nI_nlt (b := 1) (by omega) (by omega))]
def TB (S R : amS) (f l : Nat) (rs : Int32) (dl p q h fn : Nat) (sc : List scE) (tl : Bool) : Prop := (R.1 41 l = -1 ∧ rs = nI l ∧ q = p) ∨ ∃ m', m' < 256 ∧ R.1 41 l = nI m' ∧ cd S p 8 0 (-1) ∧ TT S R false f 1 (nI m') rs dl (p + 1) q h fn sc tl
theorem TT_of_TB {S R : amS} {f l : Nat} {rs : Int32} {dl p q1 q h fn : Nat} {sc : List scE} {tl : Bool} (hl : l < 256) (h1 : ∀ tl, TT S R false f 0 (nI l) 0 dl p q1 h fn sc tl) (h2 : TB S R f l rs dl q1 q h fn sc tl) : TT S R false (f + 1) 1 (nI l) rs dl p q h fn sc tl := by
  refine ⟨l, q1, rfl, hl, ?_⟩
  rcases h2 with ⟨h3, h4, h5⟩ | ⟨m', h3, h4, h5, h6⟩
  · exact Or.inl ⟨h3, h4, h5, h1 tl⟩
  · exact Or.inr ⟨m', h3, h4, h5, h1 false, h6⟩
theorem TB_le {S R : amS} {f f' l : Nat} {rs : Int32} {dl p q h fn : Nat} {sc : List scE} {tl : Bool} (hl : f ≤ f') (ht : TB S R f l rs dl p q h fn sc tl) : TB S R f' l rs dl p q h fn sc tl := by
  rcases ht with h1 | ⟨m', h3, h4, h5, h6⟩
  · exact Or.inl h1
  · exact Or.inr ⟨m', h3, h4, h5, TT_le hl h6⟩
/-- nodes [m0, M) and the next of l are kept -/
def kN (m0 M l : Nat) (R R' : amS) : Prop := (∀ m, m0 ≤ m → m < M → ndA R R' m ∧ R'.1 41 m = R.1 41 m) ∧ R'.1 41 l = R.1 41 l
/-- what the rest of a body leaves, behind its last expression l so far -/
def BP (S0 R0 : amS) (N : Nat) (tx : Nat → Nat) (a sz nc pd fc h nn nb dl : Nat) (cx : cxT) (P : List (Nat × Nat)) (S R : amS) (n l cc : Nat) (k p v fi vc : Int32) (S' : amS) (r : amQ) : Prop :=
  ∃ a' b' sz' nc' fc' nn' nb' P' R' l' cc', r = G_152_58 1 R' ∧ RL S0 R0 N tx a' b' sz' nc' pd fc' (h + 1) nn' nb' dl cx P' S' R' ∧ BD a' (sz' + 1) nc' pd fc' nn' nb' dl cx ∧ a ≤ a' ∧ tb N tx (sk N tx b') = 41 ∧
  (sz ≤ sz' ∧ nc ≤ nc' ∧ fc ≤ fc' ∧ nb ≤ nb' ∧ nn ≤ nn' ∧ l' < nn' ∧ n < l' ∧ cc ≤ cc' ∧ cc' < 1000) ∧ fC sz nc pd fc cx S S' ∧ fM n l nn nb dl P R R' ∧ PE P P' nc nb ∧ R'.1 41 l' = -1 ∧ ndF R' n k p v fi (nI l') (nI cc') vc ∧
  ∀ S2 R2, cK sz sz' fc fc' nc' S' S2 → kN nn nn' l R' R2 → KJ P' S2 R2 → a' + dl ≤ 250 → ∃ f, ∀ tl, TB S2 R2 f l (nI l') dl sz sz' h (fnO cx) (scO cx) tl
theorem body_l {k0 : Nat} (he : EH S0 R0 N tx k0 dl) (hN : N ≤ 250) (hd : dl ≤ 20) (hh : h ≤ 4 * dl) {n mk vc w : Nat} {k p v fi : Int32} (hk : ((k = 3 ∨ k = 8 ∨ k = 11) ∧ w = 0) ∨ ((k = 5 ∨ k = 6) ∧ w = vc)) (hd1 : 0 < dl) : ∀ (m a b sz nc fc nn nb : Nat) (P : List (Nat × Nat)) (S R : amS) (l cc l2 : Nat), N - a ≤ m → RL S0 R0 N tx a b sz nc pd fc (h + 1) nn nb dl cx P S R → BD a (sz + 1) nc pd fc nn nb dl cx → opM R dl n 0 mk → n < l → l < nn → ndF R n k p v fi (nI l) (nI cc) (nI vc) → w < cc → cc ≤ nn → l2 + 1 ≤ a → R.1 41 l = -1 →
    Sim S0 R0 (G_82_7 k0 (nI dl) (nI l2) S) (G_152_58 1 R) (BP S0 R0 N tx a sz nc pd fc h nn nb dl cx P S R n l cc k p v fi (nI vc)) := by
  intro m
  induction m with
  | zero =>
    intro a b sz nc fc nn nb P S R l cc l2 hm hr hb ho hnl hl hf hw hcn hl2 h41
    -- at the end of the text: refused
    obtain ⟨t1, t2, t3, t4, t5, t6⟩ := hr
    obtain ⟨b1, b2, b3, b4, b5, b6, b7⟩ := hb
    have ha : a ≤ N := t1.2.1.2
    have hsa := sk_ge (N := N) (tx := tx) a
    have hsN := sk_le (tx := tx) ha
    have hm1 : tb N tx (sk N tx a) = -1 := (tb_m1 (fun i hi => (t1.1.2.2 i hi).2)).mpr (by omega)
    have c1 := CR_sk t1
    rw [G_82_7_eq]
    unfold B_82_7
    rw [if_neg (show ¬ (250 : Int32) ≤ nI l2 from nI_ge (b := 250) (by omega) (by decide)), next_r t1, bI_i, if_neg (by rw [hm1]; decide), forget_c c1 (by omega) (by omega), bV_v]
    have c2 := CR_h (CR_add c1 8 0 (-1)) h
    have g := gate_body hf hk (by omega) (by omega)
    refine Sim_bV (he (sk N tx a) b (sz + 1) nc pd fc h nn nb cx P _ R n 0 mk ⟨c2, t2, by rw [sk_sk]; exact t3, JP_rows t4 rfl rfl, pfC_h (pfC_add (pfC_at t5 _) _ _ _) _, t6⟩ ⟨by omega, by omega, by omega, by omega, by omega, b6, by omega⟩ hh hd ho (by omega) ⟨g.1, fun h9 => by rw [← t3, hm1] at h9; exact absurd h9 (by decide), fun _ => Or.inl hd1⟩) ?_
    rintro S' r ⟨a', sz', nc', fc', nn', nb', P', R', c, e1, e2, e3, e4, -⟩
    have := e2.1.2.1.2
    rw [sk_sk] at e4
    omega
  | succ m ih =>
    intro a b sz nc fc nn nb P S R l cc l2 hm hr hb ho hnl hl hf hw hcn hl2 h41
    obtain ⟨t1, t2, t3, t4, t5, t6⟩ := hr
    obtain ⟨b1, b2, b3, b4, b5, b6, b7⟩ := hb
    have ha : a ≤ N := t1.2.1.2
    have hsa := sk_ge (N := N) (tx := tx) a
    have c1 := CR_sk t1
    have g := gate_body hf hk (by omega) (by omega)
    rw [G_82_7_eq]
    unfold B_82_7
    rw [if_neg (show ¬ (250 : Int32) ≤ nI l2 from nI_ge (b := 250) (by omega) (by decide)), next_r t1, bI_i]
    by_cases hc : tb N tx (sk N tx a) = 41
    · rw [if_pos hc]
      refine Or.inr ⟨_, rfl, sk N tx a, b, sz, nc, fc, nn, nb, P, R, l, cc, rfl, ⟨c1, t2, by rw [sk_sk]; exact t3, JP_rows t4 rfl rfl, pfC_at t5 _, t6⟩, ⟨by omega, by omega, by omega, by omega, by omega, b6, by omega⟩, hsa, by rw [← t3]; exact hc, ⟨Nat.le_refl _, Nat.le_refl _, Nat.le_refl _, Nat.le_refl _, Nat.le_refl _, hl, hnl, Nat.le_refl _, by omega⟩, fC_at _ sz nc pd fc cx, fM_refl n l nn nb dl P R, PE_refl P nc nb, h41, hf, ?_⟩
      intro S2 R2 _ k2 _ _
      exact ⟨0, fun tl => Or.inl ⟨k2.2.trans h41, rfl, rfl⟩⟩
    · rw [if_neg hc, forget_c c1 (by omega) (by omega), bV_v]
      have c2 := CR_h (CR_add c1 8 0 (-1)) h
      have hsl := slot (cc := cc) (l := l) (a := sk N tx a) (b := b) (sz := sz + 1) (R := R) (P := P) he ⟨c2, t2, by rw [sk_sk]; exact t3, JP_rows t4 rfl rfl, pfC_h (pfC_add (pfC_at t5 _) _ _ _) _, t6⟩ ⟨by omega, by omega, by omega, by omega, by omega, b6, by omega⟩ hh hd hN ho (by omega) ⟨g.1, fun h9 => by rw [← t3] at h9; exact absurd h9 hc, fun _ => Or.inl hd1⟩ hf (by omega) (fun _ => ⟨rfl, hl⟩)
      refine Sim_bV hsl ?_
      rintro S1 r ⟨a1, sz1, nc1, fc1, nn1, nb1, P1, R1, c, e1, e2, e3, e4, e5, e6, e7, e8, e9, e10, e11, e12⟩
      rw [sk_sk] at e4
      rw [if_neg (show cc ≠ 0 by omega)] at e7 e11
      obtain ⟨e5a, e5b, e5c, e5d, e5e, e5f⟩ := e5
      have ha1 : a1 ≤ N := e2.1.2.1.2
      obtain ⟨o1, o2, o3⟩ := e7.2.2.1 dl (Nat.le_refl _)
      subst e1
      rw [nI_1]
      have e3' := e3.2.2.2.1
      refine Sim_imp (ih a1 a1 sz1 nc1 fc1 nn1 nb1 P1 S1 R1 c (cc + 1) (l2 + 1) (by omega) e2 e3 ⟨o1.trans ho.1, o2.trans ho.2.1, o3.trans ho.2.2⟩ (by omega) e5f e11 (by omega) (by omega) (by omega) e9) ?_
      rintro S' r ⟨a2, b2, sz2, nc2, fc2, nn2, nb2, P2, R2, l2, cc2, u1, u2, u3, u4, u5, u6, u7, u8, u9, u10, u11, u12⟩
      obtain ⟨u6a, u6b, u6c, u6d, u6e, u6f, u6g, u6h, u6i⟩ := u6
      have hS : fC sz nc pd fc cx S S1 := fC_trans (fC_trans (fC_at _ sz nc pd fc cx) (fC_trans (fC_add 8 0 (-1) nc pd fc cx) (fC_h (nI h) sz nc pd fc cx) (Nat.le_refl _) (Nat.le_refl _) (Nat.le_refl _) (Nat.le_refl _) (fun _ _ h => h)) (Nat.le_refl _) (Nat.le_refl _) (Nat.le_refl _) (Nat.le_refl _) (fun _ _ h => h)) e6 (by omega) (Nat.le_refl _) (Nat.le_refl _) (Nat.le_refl _) (fun _ _ h => h)
      have hM : fM n l nn nb dl P R R2 := fM_trans (nc := nc) e7 u8 (by omega) (by omega) (Nat.le_refl _) (Or.inr (by omega)) e8
      refine ⟨a2, b2, sz2, nc2, fc2, nn2, nb2, P2, R2, l2, cc2, u1, u2, u3, by omega, u5, ⟨by omega, by omega, by omega, by omega, by omega, u6f, u6g, by omega, u6i⟩, fC_trans hS u7 (by omega) (by omega) (Nat.le_refl _) (by omega) (fun _ _ h => h), hM, PE_trans e8 u9 (by omega) (by omega), u10, u11, ?_⟩
      intro S3 R3 k1 k2 k3 k4
      have hox : ∀ f ∈ cx, f.1 < fc ∨ fc1 ≤ f.1 := fun f hf => by
        rcases opC_mem t1.2.2.2.2.2.2.2.2.2.2.1 f hf with h9 | h9
        · exact Or.inl h9
        · have := e3.2.2.1
          exact Or.inr (by omega)
      have k1a : cK (sz + 1) sz1 fc fc1 nc1 S' S3 := cK_le k1 (by omega) (by omega) (Nat.le_refl _) (by omega) (by omega)
      have k1b : cK sz1 sz2 fc1 fc2 nc2 S' S3 := cK_le k1 (by omega) (Nat.le_refl _) (by omega) (Nat.le_refl _) (Nat.le_refl _)
      have hcS : cK (sz + 1) sz1 fc fc1 nc1 S1 S3 := cK_trans (cK_of_fC u7 (Nat.le_refl _) (Nat.le_refl _) (Nat.le_refl _) hox) k1a
      have hmR : kM c nn1 R1 R3 := kM_trans (kM_of_fM u8 (Nat.le_refl _) (Or.inl (by omega)) (Or.inl (Nat.le_refl _))) ⟨fun i h1 h2 => (k2.1 i (by omega) (by omega)).1, fun i h1 h2 => (k2.1 i (by omega) (by omega)).2⟩
      obtain ⟨f1, hf1⟩ := e10 S3 R3 hcS hmR (KJ_sub k3 u9.1) (by omega)
      obtain ⟨f2, hf2⟩ := u12 S3 R3 k1b ⟨fun i h1 h2 => k2.1 i (by omega) h2, (k2.1 c (by omega) (by omega)).2⟩ k3 k4
      refine ⟨f1 + f2 + 1, fun tl => Or.inr ⟨c, by have := u3.2.2.2.1; have := u2.1.2.1.2; omega, ?_, ?_, ?_⟩⟩
      · have q1 : R2.1 41 l = R1.1 41 l := u8.2.1 l (by omega) (by omega)
        rw [k2.2, q1, e12 (by omega)]
      · have q0 : cd (sI (addS (sI S 21 3 (nI (sk N tx a))) sz 8 0 (-1)) 23 4 (nI h)) sz 8 0 (-1) := cd_add (S := sI S 21 3 (nI (sk N tx a))) 8 0 (-1)
        exact cd_ag q0 (agC_trans (agC_trans (e6.1 sz (by omega)) (u7.1 sz (by omega))) (k1.1 sz (Nat.le_refl _) (by omega)))
      · exact TT_of_TB (by have := u3.2.2.2.1; have := u2.1.2.1.2; omega) (fun tl => TT_le (by omega) (hf1 tl)) (TB_le (by omega) (hf2 tl))
/-- a body from its first expression on -/
def YP (S0 R0 : amS) (N : Nat) (tx : Nat → Nat) (a sz nc pd fc h nn nb dl : Nat) (cx : cxT) (P : List (Nat × Nat)) (S R : amS) (n l cc : Nat) (k p v fi vc : Int32) (S' : amS) (r : amQ) : Prop :=
  ∃ a' b' sz' nc' fc' nn' nb' P' R' l' cc' c, r = G_152_58 1 R' ∧ RL S0 R0 N tx a' b' sz' nc' pd fc' (h + 1) nn' nb' dl cx P' S' R' ∧ BD a' (sz' + 1) nc' pd fc' nn' nb' dl cx ∧ sk N tx a < a' ∧ tb N tx (sk N tx b') = 41 ∧
  (sz < sz' ∧ nc ≤ nc' ∧ fc ≤ fc' ∧ nb ≤ nb' ∧ nn < nn' ∧ nn ≤ c ∧ c < nn' ∧ cc < cc' ∧ cc' < 1000) ∧ fC sz nc pd fc cx S S' ∧ fM n (if cc = 0 then 1000 else l) nn nb dl P R R' ∧ PE P P' nc nb ∧ ndF R' n k p v (if cc = 0 then nI c else fi) (nI l') (nI cc') vc ∧ (cc ≠ 0 → R'.1 41 l = nI c) ∧
  ∀ S2 R2, cK sz sz' fc fc' nc' S' S2 → (∀ m, nn ≤ m → m < nn' → ndA R' R2 m ∧ R2.1 41 m = R'.1 41 m) → KJ P' S2 R2 → a' + dl ≤ 250 → ∃ f, ∀ tl, TT S2 R2 false f 1 (nI c) (nI l') dl sz sz' h (fnO cx) (scO cx) tl
theorem body_y {k0 : Nat} (he : EH S0 R0 N tx k0 dl) (hN : N ≤ 250) (hd : dl ≤ 20) (hh : h ≤ 4 * dl) (hd1 : 0 < dl) {n l mk cc vc w : Nat} {k p v fi la : Int32} (hk : ((k = 3 ∨ k = 8 ∨ k = 11) ∧ w = 0) ∨ ((k = 5 ∨ k = 6) ∧ w = vc)) (hr : RL S0 R0 N tx a b sz nc pd fc h nn nb dl cx P S R) (hb : BD a sz nc pd fc nn nb dl cx) (ho : opM R dl n 0 mk) (hn : n < nn) (hf : ndF R n k p v fi la (nI cc) (nI vc)) (hw : cc = w) (hcn : cc < nn) (hl : cc ≠ 0 → la = nI l ∧ l < nn ∧ n < l) :
    Sim S0 R0 (G_82 k0 (nI dl) S) (G_152_58 1 R) (YP S0 R0 N tx a sz nc pd fc h nn nb dl cx P S R n l cc k p v fi (nI vc)) := by
  have ha : a ≤ N := hr.1.2.1.2
  have hnn : nn ≤ 251 := by have := hb.2.2.2.1; omega
  have g := gate_body hf hk (by omega) (by omega)
  rw [if_pos hw] at g
  have hox0 := hr.1.2.2.2.2.2.2.2.2.2.2.1
  unfold G_82
  refine Sim_bV (slot (cc := cc) (l := l) he hr hb hh hd hN ho hn ⟨g.1, fun _ => Or.inr g.2, fun _ => Or.inl hd1⟩ hf (by omega) (fun h9 => ⟨(hl h9).1, (hl h9).2.1⟩)) ?_
  rintro S1 r ⟨a1, sz1, nc1, fc1, nn1, nb1, P1, R1, c, e1, e2, e3, e4, e5, e6, e7, e8, e9, e10, e11, e12⟩
  obtain ⟨e5a, e5b, e5c, e5d, e5e, e5f⟩ := e5
  have ha1 : a1 ≤ N := e2.1.2.1.2
  obtain ⟨o1, o2, o3⟩ := e7.2.2.1 dl (Nat.le_refl _)
  subst e1
  refine Sim_imp (body_l he hN hd hh hk hd1 (N - a1) a1 a1 sz1 nc1 fc1 nn1 nb1 P1 S1 R1 c (cc + 1) 0 (Nat.le_refl _) e2 e3 ⟨o1.trans ho.1, o2.trans ho.2.1, o3.trans ho.2.2⟩ (by omega) e5f e11 (by omega) (by omega) (by omega) e9) ?_
  rintro S' r ⟨a2, b2, sz2, nc2, fc2, nn2, nb2, P2, R2, l2, cc2, u1, u2, u3, u4, u5, u6, u7, u8, u9, u10, u11, u12⟩
  obtain ⟨u6a, u6b, u6c, u6d, u6e, u6f, u6g, u6h, u6i⟩ := u6
  refine ⟨a2, b2, sz2, nc2, fc2, nn2, nb2, P2, R2, l2, cc2, c, u1, u2, u3, by omega, u5, ⟨by omega, by omega, by omega, by omega, by omega, e5e, by omega, by omega, u6i⟩, fC_trans e6 u7 (by omega) (by omega) (Nat.le_refl _) (by omega) (fun _ _ h => h), fM_trans (nc := nc) e7 u8 (by omega) (by omega) (Nat.le_refl _) (Or.inr (by omega)) e8, PE_trans e8 u9 (by omega) (by omega), u11, fun h9 => ?_, ?_⟩
  · have q1 : R2.1 41 l = R1.1 41 l := u8.2.1 l (by have := (hl h9).2.1; omega) (by have := (hl h9).2.1; omega)
    rw [q1, e12 h9]
  · intro S3 R3 k1 k2 k3 k4
    have hox : ∀ f ∈ cx, f.1 < fc ∨ fc1 ≤ f.1 := fun f hf => by
      rcases opC_mem hox0 f hf with h9 | h9
      · exact Or.inl h9
      · have := e3.2.2.1
        exact Or.inr (by omega)
    have hcS : cK sz sz1 fc fc1 nc1 S1 S3 := cK_trans (cK_of_fC u7 (Nat.le_refl _) (Nat.le_refl _) (Nat.le_refl _) hox) (cK_le k1 (Nat.le_refl _) (by omega) (Nat.le_refl _) (by omega) (by omega))
    have hmR : kM c nn1 R1 R3 := kM_trans (kM_of_fM u8 (Nat.le_refl _) (Or.inl (by omega)) (Or.inl (Nat.le_refl _))) ⟨fun i h1 h2 => (k2 i (by omega) (by omega)).1, fun i h1 h2 => (k2 i (by omega) (by omega)).2⟩
    obtain ⟨f1, hf1⟩ := e10 S3 R3 hcS hmR (KJ_sub k3 u9.1) (by omega)
    obtain ⟨f2, hf2⟩ := u12 S3 R3 (cK_le k1 (by omega) (Nat.le_refl _) (by omega) (Nat.le_refl _) (Nat.le_refl _)) ⟨fun i h1 h2 => k2 i (by omega) h2, (k2 c (by omega) (by omega)).2⟩ k3 k4
    exact ⟨f1 + f2 + 1, fun tl => TT_of_TB (by have := e3.2.2.2.1; omega) (fun tl => TT_le (by omega) (hf1 tl)) (TB_le (by omega) (hf2 tl))⟩
end BODY
