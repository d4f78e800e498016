/-! the two parsers side by side: what is kept -/
def mxN (n : Nat) (r17 r18 r19 r17' r18' r19' : Nat → Int32) : Prop := ∀ x t, x < n → t ≤ 26 → r17 x = nI t → ∃ t', t ≤ t' ∧ t' ≤ 26 ∧ r17' x = nI t' ∧ ∀ i, i < t → r18' (26 * x + i) = r18 (26 * x + i) ∧ r19' (26 * x + i) = r19 (26 * x + i)
theorem mxN_of {n : Nat} (hn : n ≤ 28) {a1 a2 a3 b1 b2 b3 : Nat → Int32} (h : mxR a1 a2 a3 b1 b2 b3) : mxN n a1 a2 a3 b1 b2 b3 := fun x t hx ht h1 => h x t (by omega) ht h1
theorem mxN_refl (n : Nat) (r17 r18 r19 : Nat → Int32) : mxN n r17 r18 r19 r17 r18 r19 := fun x t _ ht h => ⟨t, Nat.le_refl _, ht, h, fun _ _ => ⟨rfl, rfl⟩⟩
theorem mxN_le {n m : Nat} (hn : n ≤ m) {a1 a2 a3 b1 b2 b3 : Nat → Int32} (h : mxN m a1 a2 a3 b1 b2 b3) : mxN n a1 a2 a3 b1 b2 b3 := fun x t hx ht h1 => h x t (by omega) ht h1
theorem mxN_trans {n : Nat} {a1 a2 a3 b1 b2 b3 c1 c2 c3 : Nat → Int32} (h : mxN n a1 a2 a3 b1 b2 b3) (k : mxN n b1 b2 b3 c1 c2 c3) : mxN n a1 a2 a3 c1 c2 c3 := by
  intro x t hx ht h1
  obtain ⟨t1, q1, q2, q3, q4⟩ := h x t hx ht h1
  obtain ⟨t2, w1, w2, w3, w4⟩ := k x t1 hx q2 q3
  exact ⟨t2, by omega, w2, w3, fun i hi => ⟨(w4 i (by omega)).1.trans (q4 i hi).1, (w4 i (by omega)).2.trans (q4 i hi).2⟩⟩
theorem LoR_monoN {n : Nat} {r7 r7' r17 r18 r19 r17' r18' r19' : Nat → Int32} (h : mxN n r17 r18 r19 r17' r18' r19') {fn : Nat} (hf : fn < 28 → fn < n) {e : scE} (h7 : r7' e.2.1 = r7 e.2.1) {src : Int32} (hl : LoR r7 r17 r18 fn e src) : LoR r7' r17' r18' fn e src := by
  rcases hl with hl | ⟨h1, h2, i, t, h3, h4, h5, h6, h7⟩
  · exact Or.inl ⟨hl.1, hl.2.trans h7.symm⟩
  · obtain ⟨t', q1, q2, q3, q4⟩ := h fn t (hf h2) h4 h5
    exact Or.inr ⟨h1, h2, i, t', by omega, q2, q3, by rw [(q4 i h3).1]; exact h6, h7⟩
def agC (S S' : amS) (i : Nat) : Prop := S'.1 2 i = S.1 2 i ∧ S'.1 3 i = S.1 3 i ∧ S'.1 4 i = S.1 4 i
def agF (S S' : amS) (x : Nat) : Prop := S'.1 13 x = S.1 13 x ∧ S'.1 14 x = S.1 14 x ∧ S'.1 15 x = S.1 15 x ∧ S'.1 16 x = S.1 16 x
def agT (S S' : amS) (x : Nat) : Prop := S'.1 17 x = S.1 17 x ∧ ∀ i, i < 26 → S'.1 18 (26 * x + i) = S.1 18 (26 * x + i) ∧ S'.1 19 (26 * x + i) = S.1 19 (26 * x + i)
def agN (S S' : amS) (i : Nat) : Prop := S'.1 6 i = S.1 6 i ∧ S'.1 7 i = S.1 7 i ∧ S'.1 8 i = S.1 8 i ∧ (S.1 9 i = 1 → S'.1 9 i = 1)
def mxS (n : Nat) (S S' : amS) : Prop := mxN n (S.1 17) (S.1 18) (S.1 19) (S'.1 17) (S'.1 18) (S'.1 19)
theorem agC_refl (S : amS) (i : Nat) : agC S S i := ⟨rfl, rfl, rfl⟩
theorem agC_trans {A B C : amS} {i : Nat} (h : agC A B i) (k : agC B C i) : agC A C i := ⟨k.1.trans h.1, k.2.1.trans h.2.1, k.2.2.trans h.2.2⟩
theorem agF_trans {A B C : amS} {i : Nat} (h : agF A B i) (k : agF B C i) : agF A C i := ⟨k.1.trans h.1, k.2.1.trans h.2.1, k.2.2.1.trans h.2.2.1, k.2.2.2.trans h.2.2.2⟩
theorem agT_trans {A B C : amS} {i : Nat} (h : agT A B i) (k : agT B C i) : agT A C i := ⟨k.1.trans h.1, fun j hj => ⟨(k.2 j hj).1.trans (h.2 j hj).1, (k.2 j hj).2.trans (h.2 j hj).2⟩⟩
theorem agN_trans {A B C : amS} {i : Nat} (h : agN A B i) (k : agN B C i) : agN A C i := ⟨k.1.trans h.1, k.2.1.trans h.2.1, k.2.2.1.trans h.2.2.1, fun h9 => k.2.2.2 (h.2.2.2 h9)⟩
/-- a region of the class's program is kept: orders [p, q), functions [f0, f1), names below nc -/
def cK (p q f0 f1 nc : Nat) (S S' : amS) : Prop := (∀ i, p ≤ i → i < q → agC S S' i) ∧ (∀ x, f0 ≤ x → x < f1 → agF S S' x ∧ agT S S' x) ∧ (∀ i, i < nc → agN S S' i) ∧ mxS f1 S S'
theorem cK_refl (p q f0 f1 nc : Nat) (S : amS) : cK p q f0 f1 nc S S := ⟨fun _ _ _ => ⟨rfl, rfl, rfl⟩, fun _ _ _ => ⟨⟨rfl, rfl, rfl, rfl⟩, rfl, fun _ _ => ⟨rfl, rfl⟩⟩, fun _ _ => ⟨rfl, rfl, rfl, fun h => h⟩, mxN_refl _ _ _ _⟩
theorem cK_trans {p q f0 f1 nc : Nat} {A B C : amS} (h : cK p q f0 f1 nc A B) (k : cK p q f0 f1 nc B C) : cK p q f0 f1 nc A C :=
  ⟨fun i h1 h2 => agC_trans (h.1 i h1 h2) (k.1 i h1 h2), fun x h1 h2 => ⟨agF_trans (h.2.1 x h1 h2).1 (k.2.1 x h1 h2).1, agT_trans (h.2.1 x h1 h2).2 (k.2.1 x h1 h2).2⟩, fun i hi => agN_trans (h.2.2.1 i hi) (k.2.2.1 i hi), mxN_trans h.2.2.2 k.2.2.2⟩
theorem cK_le {p q f0 f1 nc p' q' f0' f1' nc' : Nat} {A B : amS} (h : cK p q f0 f1 nc A B) (h1 : p ≤ p') (h2 : q' ≤ q) (h3 : f0 ≤ f0') (h4 : f1' ≤ f1) (h5 : nc' ≤ nc) : cK p' q' f0' f1' nc' A B :=
  ⟨fun i a b => h.1 i (by omega) (by omega), fun x a b => h.2.1 x (by omega) (by omega), fun i hi => h.2.2.1 i (by omega), mxN_le h4 h.2.2.2⟩
/-- all of the class's program so far is kept, but what open functions take -/
def fC (sz nc pd fc : Nat) (cx : cxT) (S S' : amS) : Prop := (∀ i, i < sz → agC S S' i) ∧ (∀ x, x < fc → agF S S' x) ∧ (∀ x, x < fc → (∀ f ∈ cx, f.1 ≠ x) → agT S S' x) ∧ (∀ i, i < nc → agN S S' i) ∧ mxS fc S S' ∧ (∀ i, i < pd → S'.1 11 i = S.1 11 i)
theorem fC_refl (sz nc pd fc : Nat) (cx : cxT) (S : amS) : fC sz nc pd fc cx S S := ⟨fun _ _ => ⟨rfl, rfl, rfl⟩, fun _ _ => ⟨rfl, rfl, rfl, rfl⟩, fun _ _ _ => ⟨rfl, fun _ _ => ⟨rfl, rfl⟩⟩, fun _ _ => ⟨rfl, rfl, rfl, fun h => h⟩, mxN_refl _ _ _ _, fun _ _ => rfl⟩
theorem fC_trans {sz nc pd fc sz' nc' pd' fc' : Nat} {cx cx' : cxT} {A B C : amS} (h : fC sz nc pd fc cx A B) (k : fC sz' nc' pd' fc' cx' B C) (h1 : sz ≤ sz') (h2 : nc ≤ nc') (h3 : pd ≤ pd') (h4 : fc ≤ fc') (hx : ∀ x, x < fc → (∀ f ∈ cx, f.1 ≠ x) → ∀ f ∈ cx', f.1 ≠ x) : fC sz nc pd fc cx A C :=
  ⟨fun i hi => agC_trans (h.1 i hi) (k.1 i (by omega)), fun x hi => agF_trans (h.2.1 x hi) (k.2.1 x (by omega)), fun x hi ho => agT_trans (h.2.2.1 x hi ho) (k.2.2.1 x (by omega) (hx x hi ho)), fun i hi => agN_trans (h.2.2.2.1 i hi) (k.2.2.2.1 i (by omega)), mxN_trans h.2.2.2.2.1 (mxN_le h4 k.2.2.2.2.1), fun i hi => (k.2.2.2.2.2 i (by omega)).trans (h.2.2.2.2.2 i hi)⟩
theorem fC_le {sz nc pd fc sz' nc' pd' fc' : Nat} {cx : cxT} {A B : amS} (h : fC sz nc pd fc cx A B) (h1 : sz' ≤ sz) (h2 : nc' ≤ nc) (h3 : pd' ≤ pd) (h4 : fc' ≤ fc) : fC sz' nc' pd' fc' cx A B :=
  ⟨fun i hi => h.1 i (by omega), fun x hi => h.2.1 x (by omega), fun x hi ho => h.2.2.1 x (by omega) ho, fun i hi => h.2.2.2.1 i (by omega), mxN_le h4 h.2.2.2.2.1, fun i hi => h.2.2.2.2.2 i (by omega)⟩
theorem cK_of_fC {p q f0 f1 nc0 sz nc pd fc : Nat} {cx : cxT} {A B : amS} (h : fC sz nc pd fc cx A B) (h1 : q ≤ sz) (h2 : f1 ≤ fc) (h3 : nc0 ≤ nc) (ho : ∀ f ∈ cx, f.1 < f0 ∨ f1 ≤ f.1) : cK p q f0 f1 nc0 A B :=
  ⟨fun i _ hi => h.1 i (by omega), fun x a b => ⟨h.2.1 x (by omega), h.2.2.1 x (by omega) (fun f hf h9 => by have := ho f hf; omega)⟩, fun i hi => h.2.2.2.1 i (by omega), mxN_le h2 h.2.2.2.2.1⟩
/-- nodes are kept -/
def ndA (R R' : amS) (m : Nat) : Prop := R'.1 36 m = R.1 36 m ∧ R'.1 37 m = R.1 37 m ∧ R'.1 38 m = R.1 38 m ∧ R'.1 39 m = R.1 39 m ∧ R'.1 40 m = R.1 40 m ∧ R'.1 42 m = R.1 42 m ∧ R'.1 44 m = R.1 44 m ∧ ∀ j, j < 4 → R'.1 43 (4 * m + j) = R.1 43 (4 * m + j)
theorem ndA_refl (R : amS) (m : Nat) : ndA R R m := ⟨rfl, rfl, rfl, rfl, rfl, rfl, rfl, fun _ _ => rfl⟩
theorem ndA_trans {A B C : amS} {m : Nat} (h : ndA A B m) (k : ndA B C m) : ndA A C m := by
  obtain ⟨h1, h2, h3, h4, h5, h6, h7, h8⟩ := h
  obtain ⟨k1, k2, k3, k4, k5, k6, k7, k8⟩ := k
  exact ⟨k1.trans h1, k2.trans h2, k3.trans h3, k4.trans h4, k5.trans h5, k6.trans h6, k7.trans h7, fun j hj => (k8 j hj).trans (h8 j hj)⟩
/-- the nodes [c, M) are kept, but the next of c -/
def kM (c M : Nat) (R R' : amS) : Prop := (∀ m, c ≤ m → m < M → ndA R R' m) ∧ (∀ m, c < m → m < M → R'.1 41 m = R.1 41 m)
theorem kM_refl (c M : Nat) (R : amS) : kM c M R R := ⟨fun m _ _ => ndA_refl R m, fun _ _ _ => rfl⟩
theorem kM_trans {c M : Nat} {A B C : amS} (h : kM c M A B) (k : kM c M B C) : kM c M A C := ⟨fun m a b => ndA_trans (h.1 m a b) (k.1 m a b), fun m a b => (k.2 m a b).trans (h.2 m a b)⟩
theorem kM_le {c M c' M' : Nat} {A B : amS} (h : kM c M A B) (h1 : c ≤ c') (h2 : M' ≤ M) : kM c' M' A B := ⟨fun m a b => h.1 m (by omega) (by omega), fun m a b => h.2 m (by omega) (by omega)⟩
/-- all of the reference's program so far is kept, but node n and the next of l (n, l = 1000: none) -/
def fM (n l nn nb dl : Nat) (P : List (Nat × Nat)) (R R' : amS) : Prop := (∀ m, m < nn → m ≠ n → ndA R R' m) ∧ (∀ m, m < nn → m ≠ l → R'.1 41 m = R.1 41 m) ∧ (∀ i, i ≤ dl → R'.1 47 i = R.1 47 i ∧ R'.1 48 i = R.1 48 i ∧ R'.1 49 i = R.1 49 i) ∧ (∀ i, i < 4 * (dl + 1) → R'.1 66 i = R.1 66 i) ∧ (∀ v, v < nb → (∀ x ∈ P, x.2 ≠ v) → R'.1 46 v = R.1 46 v) ∧ (∀ m, m < nn → ∀ j, j < 4 → R'.1 43 (4 * m + j) = R.1 43 (4 * m + j))
theorem fM_refl (n l nn nb dl : Nat) (P : List (Nat × Nat)) (R : amS) : fM n l nn nb dl P R R := ⟨fun m _ _ => ndA_refl R m, fun _ _ _ => rfl, fun _ _ => ⟨rfl, rfl, rfl⟩, fun _ _ => rfl, fun _ _ _ => rfl, fun _ _ _ _ => rfl⟩
def PE (P P' : List (Nat × Nat)) (nc nb : Nat) : Prop := (∀ x ∈ P, x ∈ P') ∧ (∀ x ∈ P', x ∈ P ∨ (nc ≤ x.1 ∧ nb ≤ x.2))
theorem PE_refl (P : List (Nat × Nat)) (nc nb : Nat) : PE P P nc nb := ⟨fun _ h => h, fun _ h => Or.inl h⟩
theorem PE_trans {P P1 P2 : List (Nat × Nat)} {nc nb nc1 nb1 : Nat} (h : PE P P1 nc nb) (k : PE P1 P2 nc1 nb1) (h1 : nc ≤ nc1) (h2 : nb ≤ nb1) : PE P P2 nc nb :=
  ⟨fun x hx => k.1 x (h.1 x hx), fun x hx => by
    rcases k.2 x hx with h9 | h9
    · exact h.2 x h9
    · exact Or.inr ⟨by omega, by omega⟩⟩
theorem fM_trans {n l l' nn nb dl nn' nb' dl' nc : Nat} {P P' : List (Nat × Nat)} {A B C : amS} (h : fM n l nn nb dl P A B) (k : fM n l' nn' nb' dl' P' B C) (h1 : nn ≤ nn') (h2 : nb ≤ nb') (h3 : dl ≤ dl') (hl : l' = l ∨ nn ≤ l') (hP : PE P P' nc nb) : fM n l nn nb dl P A C := by
  obtain ⟨a1, a2, a3, a4, a5, a6⟩ := h
  obtain ⟨b1, b2, b3, b4, b5, b6⟩ := k
  refine ⟨fun m hm hn => ndA_trans (a1 m hm hn) (b1 m (by omega) hn), fun m hm hn => (b2 m (by omega) (by omega)).trans (a2 m hm hn), fun i hi => ?_, fun i hi => (b4 i (by omega)).trans (a4 i hi), fun v hv hp => (b5 v (by omega) (fun x hx h9 => ?_)).trans (a5 v hv hp), fun m hm j hj => (b6 m (by omega) j hj).trans (a6 m hm j hj)⟩
  · obtain ⟨c1, c2, c3⟩ := a3 i hi
    obtain ⟨d1, d2, d3⟩ := b3 i (by omega)
    exact ⟨d1.trans c1, d2.trans c2, d3.trans c3⟩
  · rcases hP.2 x hx with h8 | h8
    · exact hp x h8 h9
    · omega
theorem fM_le {n l n' l' nn nb dl nn' nb' dl' : Nat} {P : List (Nat × Nat)} {A B : amS} (h : fM n l nn nb dl P A B) (h1 : nn' ≤ nn) (h2 : nb' ≤ nb) (h3 : dl' ≤ dl) (hn : n' = n ∨ nn' ≤ n) (hl : l' = l ∨ nn' ≤ l) : fM n' l' nn' nb' dl' P A B :=
  ⟨fun m hm h9 => h.1 m (by omega) (by omega), fun m hm h9 => h.2.1 m (by omega) (by omega), fun i hi => h.2.2.1 i (by omega), fun i hi => h.2.2.2.1 i (by omega), fun v hv hp => h.2.2.2.2.1 v (by omega) hp, fun m hm => h.2.2.2.2.2 m (by omega)⟩
theorem kM_of_fM {n l nn nb dl c M : Nat} {P : List (Nat × Nat)} {A B : amS} (h : fM n l nn nb dl P A B) (h1 : M ≤ nn) (h2 : n < c ∨ M ≤ n) (h3 : l ≤ c ∨ M ≤ l) : kM c M A B :=
  ⟨fun m a b => h.1 m (by omega) (by omega), fun m a b => h.2.1 m (by omega) (by omega)⟩
/-- pairs of variables: boxed and counts are alike, but for those of letrec (1000 + the number) -/
def KJ (P : List (Nat × Nat)) (S R : amS) : Prop := ∀ x ∈ P, x.1 < 1000 → S.1 9 x.1 = R.1 46 x.2 ∧ (S.1 9 x.1 = 0 ∨ S.1 9 x.1 = 1)
def PI (P : List (Nat × Nat)) : Prop := ∀ x ∈ P, ∀ y ∈ P, (x.1 % 1000 = y.1 % 1000 ↔ x.2 = y.2)
theorem KJ_sub {P P' : List (Nat × Nat)} {S R : amS} (h : KJ P' S R) (hs : ∀ x ∈ P, x ∈ P') : KJ P S R := fun x hx => h x (hs x hx)
/-- in all later states that keep its regions node c stands for the orders [p, q) -/
def Tr (P : List (Nat × Nat)) (a dl c M p q f0 f1 nc h fn : Nat) (sc : List scE) (S R : amS) : Prop := ∀ S' R', cK p q f0 f1 nc S S' → kM c M R R' → KJ P S' R' → a + dl ≤ 250 → ∃ f, ∀ tl, TT S' R' false f 0 (nI c) 0 dl p q h fn sc tl
theorem Tr_step {P : List (Nat × Nat)} {a dl c M p q f0 f1 nc h fn : Nat} {sc : List scE} {S R S' R' : amS} (ht : Tr P a dl c M p q f0 f1 nc h fn sc S R) (hc : cK p q f0 f1 nc S S') (hm : kM c M R R') : Tr P a dl c M p q f0 f1 nc h fn sc S' R' :=
  fun S2 R2 c2 m2 j2 => ht S2 R2 (cK_trans hc c2) (kM_trans hm m2) j2
/-- outside of the parsers -/
def pfC (S0 S : amS) : Prop := (∀ a, 24 ≤ a → S.1 a = S0.1 a) ∧ S.1 21 1 = S0.1 21 1 ∧ S.2 = S0.2
theorem pfC_w {S0 S : amS} (h : pfC S0 S) {a k : Nat} (ha : a < 24) (hk : ¬ (a = 21 ∧ k = 1)) (x : Int32) : pfC S0 (sI S a k x) := by
  refine ⟨fun b hb => ?_, ?_, h.2.2⟩
  · rw [sI_row, if_neg (by omega)]; exact h.1 b hb
  · rw [sI_get, if_neg (fun h9 => hk ⟨h9.1.symm, h9.2.symm⟩)]; exact h.2.1
def pfk (k : Nat) : Prop := k = 4 ∨ k = 5 ∨ k = 6 ∨ k = 7 ∨ k = 19 ∨ k = 23 ∨ k = 26 ∨ k = 27 ∨ k = 28
def pfM (R0 R : amS) : Prop := (∀ a, (52 ≤ a ∧ a ≤ 65) → R.1 a = R0.1 a) ∧ (∀ k, ¬ pfk k → R.1 34 k = R0.1 34 k) ∧ R.2 = R0.2
theorem pfM_w {R0 R : amS} (h : pfM R0 R) {a k : Nat} (ha : a < 52 ∨ 65 < a) (hk : a = 34 → pfk k) (x : Int32) : pfM R0 (sI R a k x) := by
  refine ⟨fun b hb => ?_, fun j hj => ?_, h.2.2⟩
  · rw [sI_row, if_neg (by omega)]; exact h.1 b hb
  · rw [sI_get, if_neg (fun h9 : 34 = a ∧ j = k => hj (by rw [h9.2]; exact hk h9.1.symm))]; exact h.2.1 j hj
