/-! the marked program -/
theorem bnd_cong {S R S2 R2 : amS} (h7 : S2.1 7 = S.1 7) (h9 : S2.1 9 = S.1 9) (h43 : R2.1 43 = R.1 43) (h46 : R2.1 46 = R.1 46) {m c0 s0 fn : Nat} : ∀ {vs : List scE}, bnd S R m c0 s0 fn vs → bnd S2 R2 m c0 s0 fn vs
  | [], _ => trivial
  | e :: vs, h => by
    obtain ⟨a1, a2, a3, a4, a5, a6, a7, a8, a9⟩ := h
    exact ⟨a1, a2, by rw [h43]; exact a3, by rw [h7]; exact a4, by rw [h9, h46]; exact a5, by rw [h9]; exact a6, a7, a8, bnd_cong h7 h9 h43 h46 a9⟩
theorem TT1_c {S R : amS} {mk : Bool} {f : Nat} {c rs : Int32} {dl p q h fn : Nat} {sc : List scE} {tl : Bool} (ht : TT S R mk f 1 c rs dl p q h fn sc tl) : ∃ m, m < 256 ∧ c = nI m := by
  cases f with
  | zero => exact absurd ht (fun h => h)
  | succ f =>
    obtain ⟨m, q1, a1, a2, -⟩ := ht
    exact ⟨m, a2, a1⟩
theorem prO_ok : ∀ o, o < 13 → prO o ≠ 9 ∧ prO o ≠ 13 ∧ prO o ≠ 16 ∧ prO o ≠ 14 := by decide
section MARKED
variable {S S2 R R2 : amS} {nn z d : Nat} {par : Nat → Nat}
theorem chain_le (hnn : nn ≤ 256) (g2 : ∀ y x, y < nn → x < 256 → R.1 41 y = nI x → y < x ∧ x < nn) {mk : Bool} : ∀ (f : Nat) (c rs : Int32) (dl p q h fn : Nat) (sc : List scE) (tl : Bool) (m : Nat), TT S R mk f 1 c rs dl p q h fn sc tl → c = nI m → m < nn → ∃ l, rs = nI l ∧ m ≤ l ∧ l < nn
  | 0, _, _, _, _, _, _, _, _, _, _, h, _, _ => absurd h (fun h => h)
  | f + 1, c, rs, dl, p, q, h, fn, sc, tl, m, ht, hc, hm => by
    obtain ⟨m1, q1, a1, a2, hk⟩ := ht
    have : m1 = m := (nI_eq (by omega) (by omega)).mp (a1.symm.trans hc)
    subst this
    rcases hk with ⟨k1, k2, k3, k4⟩ | ⟨m', k1, k2, k3, k4, k5⟩
    · exact ⟨m1, k2.trans hc, Nat.le_refl _, hm⟩
    · have := g2 m1 m' hm k1 k2
      obtain ⟨l, q1, q2, q3⟩ := chain_le hnn g2 f _ _ _ _ _ _ _ _ _ m' k5 rfl this.2
      exact ⟨l, q1, by omega, q3⟩
theorem mark_tt (hnn : nn ≤ 256) (hz : z ≤ 502) (hS2 : ∀ k, k < z → S2.1 2 k = mkO S z k) (hSo : ∀ a, a ≠ 2 → S2.1 a = S.1 a) (hRo : ∀ a, a ≠ 45 → R2.1 a = R.1 a) (hAE : AE R (R2.1 45) nn)
    (g1 : ∀ m x, m < nn → x < 256 → R.1 42 m ≠ 0 → (R.1 39 m = nI x ∨ R.1 40 m = nI x) → m < x ∧ x < nn) (g2 : ∀ y x, y < nn → x < 256 → R.1 41 y = nI x → y < x ∧ x < nn) (p1 : ∀ m x, m < nn → x < 256 → R.1 42 m ≠ 0 → (R.1 39 m = nI x ∨ R.1 40 m = nI x) → par x = m) (p2 : ∀ y x, y < nn → x < 256 → R.1 41 y = nI x → par x = par y) (hco : ∀ m, m < nn → lkK (R.1 36 m) → coK (R.1 36 m) (R.1 42 m)) : ∀ f,
    (∀ c rs dl p q h fn sc tl m, TT S R false f 0 c rs dl p q h fn sc tl → c = nI m → m < nn → R2.1 45 m = b2i tl → LDP S z q tl → TT S2 R2 true f 0 c rs dl p q h fn sc tl) ∧
    (∀ c rs dl p q h fn sc tl m pm, TT S R false f 1 c rs dl p q h fn sc tl → c = nI m → m < nn → par m = pm → (∀ x, x < nn → par x = pm → R2.1 45 x = if nI x = rs then b2i tl else 0) → LDP S z q tl → TT S2 R2 true f 1 c rs dl p q h fn sc tl) := by
  have r36 := hRo 36 (by decide)
  have r37 := hRo 37 (by decide)
  have r38 := hRo 38 (by decide)
  have r39 := hRo 39 (by decide)
  have r40 := hRo 40 (by decide)
  have r41 := hRo 41 (by decide)
  have r42 := hRo 42 (by decide)
  have r43 := hRo 43 (by decide)
  have r44 := hRo 44 (by decide)
  have r46 := hRo 46 (by decide)
  have s3 := hSo 3 (by decide)
  have s4 := hSo 4 (by decide)
  have s7 := hSo 7 (by decide)
  have s9 := hSo 9 (by decide)
  have s13 := hSo 13 (by decide)
  have s14 := hSo 14 (by decide)
  have s15 := hSo 15 (by decide)
  have s16 := hSo 16 (by decide)
  have s17 := hSo 17 (by decide)
  have s18 := hSo 18 (by decide)
  have s19 := hSo 19 (by decide)
  have ccd : ∀ {i o x p}, cd S i o x p → i < z → o ≠ 14 → cd S2 i o x p := by
    intro i o x p hc hi ho
    refine ⟨?_, by rw [s3]; exact hc.2.1, by rw [s4]; exact hc.2.2⟩
    rw [hS2 i hi]
    unfold mkO
    rw [if_neg (fun h9 => ho (hc.1.symm.trans h9.1)), hc.1]
  have cLo : ∀ {fn e src}, Lo S fn e src → Lo S2 fn e src := by
    intro fn e src hl
    unfold Lo
    rw [s7, s17, s18]
    exact hl
  have cbnd : ∀ {m c0 s0 fn vs}, bnd S R m c0 s0 fn vs → bnd S2 R2 m c0 s0 fn vs := fun h => bnd_cong s7 s9 r43 r46 h
  -- who says that a node stands at the end
  have stp : ∀ m x, m < nn → x < 256 → stM R (R2.1 45) m x → par x = m := by
    intro m x hm hx hs
    rcases hs with ⟨h1, h2⟩ | ⟨h1, h2, h3⟩
    · have hlk : lkK (R.1 36 m) := by
        rcases h1 with h | ⟨-, h | h | h⟩
        · exact Or.inl h
        · exact Or.inr (Or.inr (Or.inl h))
        · exact Or.inr (Or.inr (Or.inr (Or.inl h)))
        · exact Or.inr (Or.inr (Or.inr (Or.inr h)))
      exact p1 m x hm hx (hco m hm hlk).1 (Or.inr h2)
    · have hc := (hco m hm (Or.inr (Or.inl h2))).1
      rcases h3 with h3 | ⟨x0, y0, y1, y2⟩
      · exact p1 m x hm hx hc (Or.inr h3)
      · have q1 := g1 m x0 hm y0 hc (Or.inl y1)
        rw [p2 x0 x q1.2 hx y2]
        exact p1 m x0 hm y0 hc (Or.inl y1)
  have Ech : ∀ m x, m < nn → x < nn → par x = m → (R2.1 45 x ≠ 0 ↔ stM R (R2.1 45) m x) := by
    intro m x hm hx hp
    rw [hAE.2 x hx]
    constructor
    · rintro ⟨m', h1, h2⟩
      have := stp m' x h1 (by omega) h2
      rw [← hp, this]
      exact h2
    · intro h; exact ⟨m, hm, h⟩
  have Eval : ∀ m x (b : Bool), m < nn → x < nn → par x = m → (stM R (R2.1 45) m x ↔ b = true) → R2.1 45 x = b2i b := by
    intro m x b hm hx hp hb
    have h1 := Ech m x hm hx hp
    rcases hAE.1 x hx with h0 | h0
    · cases b with
      | false => rw [h0]; rfl
      | true => exact absurd h0 (h1.mpr (hb.mpr rfl))
    · cases b with
      | false => exact absurd (hb.mp (h1.mp (by rw [h0]; decide))) (by decide)
      | true => rw [h0]; rfl
  have b2n : ∀ b : Bool, b2i b ≠ 0 ↔ b = true := by decide
  -- the children of a node that passes its end on to the last one
  have Hlast : ∀ m (tl : Bool), m < nn → R.1 36 m ≠ 4 → ((R.1 36 m = 3 ∨ (R2.1 45 m ≠ 0 ∧ (R.1 36 m = 5 ∨ R.1 36 m = 6 ∨ R.1 36 m = 8))) ↔ tl = true) → ∀ x, x < nn → par x = m → R2.1 45 x = if nI x = R.1 40 m then b2i tl else 0 := by
    intro m tl hm h4 htl x hx hp
    by_cases hl : nI x = R.1 40 m
    · rw [if_pos hl]
      refine Eval m x tl hm hx hp ⟨fun hs => ?_, fun ht => Or.inl ⟨htl.mpr ht, hl.symm⟩⟩
      rcases hs with ⟨h1, -⟩ | ⟨-, h2, -⟩
      · exact htl.mp h1
      · exact absurd h2 h4
    · rw [if_neg hl]
      refine Eval m x false hm hx hp ⟨fun hs => ?_, fun ht => absurd ht (by decide)⟩
      rcases hs with ⟨-, h2⟩ | ⟨-, h2, -⟩
      · exact absurd h2.symm hl
      · exact absurd h2 h4
  have Hno : ∀ m x, m < nn → x < nn → par x = m → (R.1 36 m = 7 ∨ R.1 36 m = 9 ∨ R.1 36 m = 10) → R2.1 45 x = b2i false := by
    intro m x hm hx hp hk
    refine Eval m x false hm hx hp ⟨fun hs => ?_, fun ht => absurd ht (by decide)⟩
    exfalso
    rcases hs with ⟨h1, -⟩ | ⟨-, h2, -⟩
    · rcases hk with hk | hk | hk <;> rw [hk] at h1 <;> rcases h1 with h | ⟨-, h | h | h⟩ <;> exact absurd h (by decide)
    · rcases hk with hk | hk | hk <;> rw [hk] at h2 <;> exact absurd h2 (by decide)
  -- operands: all have the same parent, and go up
  have Hops : ∀ m k p q (cs qs : Nat → Nat), m < nn → 1 ≤ k → R.1 42 m ≠ 0 → opq R k m p q cs qs → ∀ i, i < k → cs i < nn ∧ par (cs i) = m ∧ (∀ j, j < i → cs j < cs i) := by
    intro m k p q cs qs hm hk hch ho i
    obtain ⟨o1, o2, o3, o4, o5⟩ := ho
    induction i with
    | zero =>
      intro _
      have := g1 m (cs 0) hm (o4 0 (by omega)) hch (Or.inl o3)
      exact ⟨this.2, p1 m (cs 0) hm (o4 0 (by omega)) hch (Or.inl o3), fun j hj => absurd hj (by omega)⟩
    | succ i ih =>
      intro hi
      obtain ⟨q1, q2, q3⟩ := ih (by omega)
      have h9 := g2 (cs i) (cs (i + 1)) q1 (o4 (i + 1) hi) (o5 i hi)
      refine ⟨h9.2, (p2 (cs i) (cs (i + 1)) q1 (o4 (i + 1) hi) (o5 i hi)).trans q2, fun j hj => ?_⟩
      by_cases hji : j = i
      · subst hji; exact h9.1
      · have := q3 j (by omega)
        omega
  intro f
  induction f with
  | zero => exact ⟨fun _ _ _ _ _ _ _ _ _ _ h => absurd h (fun h => h), fun _ _ _ _ _ _ _ _ _ _ _ h => absurd h (fun h => h)⟩
  | succ f ih =>
    obtain ⟨ih0, ih1⟩ := ih
    have hd : ∀ {md c rs dl p q h fn sc tl}, TT S R false f md c rs dl p q h fn sc tl → p < q := fun h => (TT_head _ _ _ _ _ _ _ _ _ _ _ h).1
    have mono : ∀ (k : Nat) (qs : Nat → Nat) (q1 : Nat), (∀ i, i < k → qs i < qs (i + 1)) → qs k = q1 → ∀ i, i < k → qs (i + 1) ≤ q1 := by
      intro k qs q1 hm hk i hi
      have key : ∀ j, i + 1 + j ≤ k → qs (i + 1) ≤ qs (i + 1 + j) := by
        intro j
        induction j with
        | zero => intro _; exact Nat.le_refl _
        | succ j ihj =>
          intro hj
          have := hm (i + 1 + j) (by omega)
          have := ihj (by omega)
          show qs (i + 1) ≤ qs (i + 1 + j + 1)
          omega
      have := key (k - (i + 1)) (by omega)
      rw [show i + 1 + (k - (i + 1)) = k by omega, hk] at this
      exact this
    refine ⟨fun c rs dl p q h fn sc tl m ht hc hm hE hl => ?_, fun c rs dl p q h fn sc tl m pm ht hc hm hp hE hl => ?_⟩
    · have hpq := (TT_head _ _ _ _ _ _ _ _ _ _ _ ht).1
      obtain ⟨m1, a1, a2, a3, a4, a5, a6, a7, hk⟩ := ht
      have hmm : m1 = m := (nI_eq (by omega) (by omega)).mp (a1.symm.trans hc)
      subst hmm
      have hqz := hl.1
      refine ⟨m1, a1, a2, a3, a4, a5, a6, a7, ?_⟩
      rw [r36, r37, r38, r39, r40, r41, r42, r44]
      rcases hk with ⟨k1, k2, k3⟩ | ⟨k1, k2, k3⟩ | ⟨k1, e, k2, src, k3, k4, k5, k6⟩ | ⟨k1, mu, vs, c0, q1, k2, k3, k4, k5, k6, k7, k8, k9, k10, k11, k12, k13, k14⟩ | ⟨k1, a, b, c, q1, q2, k2, k3, k4, k5, k6, k7, k8, k9, k10, k11, k12, k13, k14⟩ | ⟨k1, vs, c0, b, q1, q2, cs, qs, k2, k3, k4, k5, k6, k7, k8, k9, k10, k11, k12, k13⟩ | ⟨k1, e, a, b, q1, q2, k2, k3, k4, k5, k6, k7, k8, k9, k10, k11, k12, k13, k14, k15⟩ | ⟨k1, e, k2, src, q1, a, k3, k4, k5, k6, k7, ⟨k8, k8b⟩, k9, k10, k11⟩ | ⟨k1, k2, k3⟩ | ⟨k1, o, k, q1, cs, qs, k2, k3, k4, k5, k6, k7, k8, k9, k10⟩ | ⟨k1, k, q1, cs, qs, k2, k3, k4, k5, k6, k7, k8, k9⟩
      · exact Or.inl ⟨k1, ccd k2 (by omega) (by decide), k3⟩
      · exact Or.inr (Or.inl ⟨k1, ccd k2 (by omega) (by decide), k3⟩)
      · exact Or.inr (Or.inr (Or.inl ⟨k1, e, k2, src, k3, ccd k4 (by omega) (by decide), cLo k5, k6⟩))
      · -- lambda
        have hb := hd k12
        obtain ⟨mb, n1, n2⟩ := TT1_c k12
        have hch := (hco m1 hm (Or.inl k1)).1
        have n3 := g1 m1 mb hm n1 hch (Or.inl n2)
        have n4 := p1 m1 mb hm n1 hch (Or.inl n2)
        have := ih1 _ _ _ _ _ _ _ _ _ mb m1 k12 n2 n3.2 n4 (Hlast m1 true hm (by rw [k1]; decide) ⟨fun _ => rfl, fun _ => Or.inl k1⟩) (ldp_16 hz (by omega) k13.1)
        refine Or.inr (Or.inr (Or.inr (Or.inl ⟨k1, mu, vs, c0, q1, k2, ccd k3 (by omega) (by decide), by rw [s13]; exact k4, by rw [s14]; exact k5, k6, by rw [s15]; exact k7, k8, by rw [s16]; exact k9, cbnd k10, ?_, this, ccd k13 (by omega) (by decide), k14⟩)))
        obtain ⟨t, y1, y2, y3⟩ := k11
        refine ⟨t, y1, by rw [s17]; exact y2, fun i hi => ?_⟩
        obtain ⟨e, y4, y5, y6⟩ := y3 i hi
        exact ⟨e, y4, by rw [s18]; exact y5, by rw [s19]; exact cLo y6⟩
      · -- if
        have h1 := hd k10
        have h2 := hd k12
        have h3 := hd k14
        have hch := (hco m1 hm (Or.inr (Or.inl k1))).1
        have na := g1 m1 a hm k2 hch (Or.inl k5)
        have pa := p1 m1 a hm k2 hch (Or.inl k5)
        have nb := g2 a b na.2 k3 k6
        have pb := (p2 a b na.2 k3 k6).trans pa
        have nc := g2 b c nb.2 k4 k7
        have pc := (p2 b c nb.2 k4 k7).trans pb
        have hE' : R2.1 45 m1 ≠ 0 ↔ tl = true := by rw [hE]; exact b2n tl
        have st : ∀ x, x < 256 → (stM R (R2.1 45) m1 x ↔ (tl = true ∧ (x = b ∨ x = c))) := by
          intro x hx
          constructor
          · rintro (⟨h9, -⟩ | ⟨y1, y2, y3⟩)
            · rw [k1] at h9
              rcases h9 with h | ⟨-, h | h | h⟩ <;> exact absurd h (by decide)
            · refine ⟨hE'.mp y1, ?_⟩
              rcases y3 with y3 | ⟨x0, y4, y5, y6⟩
              · exact Or.inr ((nI_eq (by omega) (by omega)).mp (y3.symm.trans k8))
              · have : x0 = a := (nI_eq (by omega) (by omega)).mp (y5.symm.trans k5)
                subst this
                exact Or.inl ((nI_eq (by omega) (by omega)).mp (y6.symm.trans k6))
          · rintro ⟨y1, rfl | rfl⟩
            · exact Or.inr ⟨hE'.mpr y1, k1, Or.inr ⟨a, k2, k5, k6⟩⟩
            · exact Or.inr ⟨hE'.mpr y1, k1, Or.inl k8⟩
        have Ea := Eval m1 a false hm na.2 pa ((st a k2).trans ⟨fun h9 => by omega, fun h9 => absurd h9 (by decide)⟩)
        have Eb := Eval m1 b tl hm nb.2 pb ((st b k3).trans ⟨fun h9 => h9.1, fun h9 => ⟨h9, Or.inl rfl⟩⟩)
        have Ec := Eval m1 c tl hm nc.2 pc ((st c k4).trans ⟨fun h9 => h9.1, fun h9 => ⟨h9, Or.inr rfl⟩⟩)
        exact Or.inr (Or.inr (Or.inr (Or.inr (Or.inl ⟨k1, a, b, c, q1, q2, k2, k3, k4, k5, k6, k7, k8, ccd k9 (by omega) (by decide), ih0 _ _ _ _ _ _ _ _ _ a k10 rfl na.2 Ea (ldp_o hz (by omega) k11.1 (by decide) (by decide) (by decide)), ccd k11 (by omega) (by decide), ih0 _ _ _ _ _ _ _ _ _ b k12 rfl nb.2 Eb (ldp_9 hz (by omega) k13.1 k13.2.1 hl), ccd k13 (by omega) (by decide), ih0 _ _ _ _ _ _ _ _ _ c k14 rfl nc.2 Ec hl⟩))))
      · -- let
        have hb := hd k11
        have hch := (hco m1 hm (Or.inr (Or.inr (Or.inl k1)))).1
        have ops := Hops m1 vs.length (p + 1) q1 cs qs hm k3 hch k6
        obtain ⟨mb, n1, n2⟩ := TT1_c k11
        obtain ⟨o1, o2, o3⟩ := ops (vs.length - 1) (by omega)
        have n3 := g2 (cs (vs.length - 1)) mb o1 n1 (k8.trans n2)
        have n4 := (p2 (cs (vs.length - 1)) mb o1 n1 (k8.trans n2)).trans o2
        obtain ⟨l, l1, l2, l3⟩ := chain_le hnn g2 f _ _ _ _ _ _ _ _ _ mb k11 n2 n3.2
        have HL := Hlast m1 tl hm (by rw [k1]; decide) (by rw [k1, hE, b2n]; exact ⟨fun h9 => by rcases h9 with h9 | h9; exact absurd h9 (by decide); exact h9.1, fun h9 => Or.inr ⟨h9, Or.inl rfl⟩⟩)
        have hqs : ∀ i, i < vs.length → qs (i + 1) ≤ q1 := by
          intro i hi
          have key : ∀ j, i + 1 + j ≤ vs.length → qs (i + 1) ≤ qs (i + 1 + j) := by
            intro j
            induction j with
            | zero => intro _; exact Nat.le_refl _
            | succ j ihj =>
              intro hj
              have := hd (k7 (i + 1 + j) (by omega))
              have := ihj (by omega)
              show qs (i + 1) ≤ qs (i + 1 + j + 1)
              omega
          have := key (vs.length - (i + 1)) (by omega)
          rw [show i + 1 + (vs.length - (i + 1)) = vs.length by omega, k6.2.1] at this
          exact this
        refine Or.inr (Or.inr (Or.inr (Or.inr (Or.inr (Or.inl ⟨k1, vs, c0, b, q1, q2, cs, qs, k2, k3, k4, ccd k5 (by omega) (by decide), ?_, fun i hi => ?_, k8, fun i hi => ccd (k9 i hi) (by omega) (by decide), cbnd k10, ih1 _ _ _ _ _ _ _ _ _ mb m1 k11 n2 n3.2 n4 HL (ldp_13 hz k12.1 (by rw [← k13]; exact hl)), ccd k12 (by omega) (by decide), k13⟩)))))
        · unfold opq; rw [r39, r41]; exact k6
        · obtain ⟨y1, y2, y3⟩ := ops i hi
          have hle : cs i ≤ cs (vs.length - 1) := by
            by_cases h9 : i = vs.length - 1
            · rw [h9]; exact Nat.le_refl _
            · exact Nat.le_of_lt (o3 i (by omega))
          have E0 := HL (cs i) y1 y2
          rw [if_neg (fun h9 => by rw [l1] at h9; have := (nI_eq (by omega) (by omega)).mp h9; omega)] at E0
          refine ih0 _ _ _ _ _ _ _ _ _ (cs i) (k7 i hi) rfl y1 E0 ?_
          by_cases h9 : i + 1 < vs.length
          · exact ldp_head hz (k7 (i + 1) h9) (by have := hqs (i + 1) h9; omega)
          · rw [show i + 1 = vs.length by omega, k6.2.1]
            have := k9 0 (by omega)
            rw [Nat.add_zero] at this
            exact ldp_o hz (by omega) this.1 (by decide) (by decide) (by decide)
      · -- letrec
        have h1 := hd k9
        have h2 := hd k13
        have hch := (hco m1 hm (Or.inr (Or.inr (Or.inr (Or.inl k1))))).1
        have na := g1 m1 a hm k2 hch (Or.inl k5)
        have pa := p1 m1 a hm k2 hch (Or.inl k5)
        obtain ⟨mb, n1, n2⟩ := TT1_c k13
        have n3 := g2 a mb na.2 n1 (k12.trans n2)
        have n4 := (p2 a mb na.2 n1 (k12.trans n2)).trans pa
        obtain ⟨l, l1, l2, l3⟩ := chain_le hnn g2 f _ _ _ _ _ _ _ _ _ mb k13 n2 n3.2
        have HL := Hlast m1 tl hm (by rw [k1]; decide) (by rw [k1, hE, b2n]; exact ⟨fun h9 => by rcases h9 with h9 | h9; exact absurd h9 (by decide); exact h9.1, fun h9 => Or.inr ⟨h9, Or.inr (Or.inl rfl)⟩⟩)
        have E0 := HL a na.2 pa
        rw [if_neg (fun h9 => by rw [l1] at h9; have := (nI_eq (by omega) (by omega)).mp h9; omega)] at E0
        exact Or.inr (Or.inr (Or.inr (Or.inr (Or.inr (Or.inr (Or.inl ⟨k1, e, a, b, q1, q2, k2, k3, ccd k4 (by omega) (by decide), k5, k6, ⟨k7.1, by rw [r43]; exact k7.2⟩, ⟨by rw [s7]; exact k8.1, k8.2⟩, ih0 _ _ _ _ _ _ _ _ _ a k9 rfl na.2 E0 (ldp_o hz (by omega) k10.1 (by decide) (by decide) (by decide)), ccd k10 (by omega) (by decide), ccd k11 (by omega) (by decide), k12, ih1 _ _ _ _ _ _ _ _ _ mb m1 k13 n2 n3.2 n4 HL (ldp_13 hz k14.1 (by rw [← k15]; exact hl)), ccd k14 (by omega) (by decide), k15⟩))))))
      · -- set
        have h1 := hd k9
        have hch : R.1 42 m1 ≠ 0 := by rw [k8b]; decide
        have na := g1 m1 a hm k3 hch (Or.inl k8)
        have pa := p1 m1 a hm k3 hch (Or.inl k8)
        exact Or.inr (Or.inr (Or.inr (Or.inr (Or.inr (Or.inr (Or.inr (Or.inl ⟨k1, e, k2, src, q1, a, k3, k4, by rw [s9]; exact k5, cLo k6, ccd k7 (by omega) (by decide), ⟨k8, k8b⟩, ih0 _ _ _ _ _ _ _ _ _ a k9 rfl na.2 (Hno m1 a hm na.2 pa (Or.inl k1)) (ldp_o hz (by omega) k10.1 (by decide) (by decide) (by decide)), ccd k10 (by omega) (by decide), k11⟩)))))))
      · -- begin
        have h1 := hd k3
        have hch := (hco m1 hm (Or.inr (Or.inr (Or.inr (Or.inr k1))))).1
        obtain ⟨mb, n1, n2⟩ := TT1_c k3
        have n3 := g1 m1 mb hm n1 hch (Or.inl n2)
        have n4 := p1 m1 mb hm n1 hch (Or.inl n2)
        have HL := Hlast m1 tl hm (by rw [k1]; decide) (by rw [k1, hE, b2n]; exact ⟨fun h9 => by rcases h9 with h9 | h9; exact absurd h9 (by decide); exact h9.1, fun h9 => Or.inr ⟨h9, Or.inr (Or.inr rfl)⟩⟩)
        exact Or.inr (Or.inr (Or.inr (Or.inr (Or.inr (Or.inr (Or.inr (Or.inr (Or.inl ⟨k1, ccd k2 (by omega) (by decide), ih1 _ _ _ _ _ _ _ _ _ mb m1 k3 n2 n3.2 n4 HL hl⟩))))))))
      · -- primitive
        have hk1 : 1 ≤ k ∧ k ≤ 2 := by rw [k4]; split <;> omega
        have hch : R.1 42 m1 ≠ 0 := by rw [k5]; exact nI_ne0 (by omega) (by omega)
        have ops := Hops m1 k (p + 1) q1 cs qs hm hk1.1 hch k7
        have po := prO_ok o k2
        have hqs := mono k qs q1 (fun i hi => hd (k8 i hi)) k7.2.1
        refine Or.inr (Or.inr (Or.inr (Or.inr (Or.inr (Or.inr (Or.inr (Or.inr (Or.inr (Or.inl ⟨k1, o, k, q1, cs, qs, k2, k3, k4, k5, ccd k6 (by omega) (by decide), ?_, fun i hi => ?_, ccd k9 (by omega) po.2.2.2, k10⟩)))))))))
        · unfold opq; rw [r39, r41]; exact k7
        · obtain ⟨y1, y2, y3⟩ := ops i hi
          refine ih0 _ _ _ _ _ _ _ _ _ (cs i) (k8 i hi) rfl y1 (Hno m1 (cs i) hm y1 y2 (Or.inr (Or.inl k1))) ?_
          by_cases h9 : i + 1 < k
          · exact ldp_head hz (k8 (i + 1) h9) (by have := hqs (i + 1) h9; omega)
          · rw [show i + 1 = k by omega, k7.2.1]
            exact ldp_o hz (by omega) k9.1 po.1 po.2.1 po.2.2.1
      · -- call
        have hch : R.1 42 m1 ≠ 0 := by rw [k3]; exact nI_ne0 (by omega) (by omega)
        have ops := Hops m1 (k + 1) (p + 1) q1 cs qs hm (by omega) hch k5
        have hqs : ∀ i, i < k + 1 → qs (i + 1) ≤ q1 := by
          intro i hi
          have key : ∀ j, i + 1 + j ≤ k + 1 → qs (i + 1) ≤ qs (i + 1 + j) := by
            intro j
            induction j with
            | zero => intro _; exact Nat.le_refl _
            | succ j ihj =>
              intro hj
              have := hd (k6 (i + 1 + j) (by omega))
              have := ihj (by omega)
              show qs (i + 1) ≤ qs (i + 1 + j + 1)
              omega
          have := key (k + 1 - (i + 1)) (by omega)
          rw [show i + 1 + (k + 1 - (i + 1)) = k + 1 by omega, k5.2.1] at this
          exact this
        have hp1 : p + 1 ≤ q1 := by
          have h0 := hd (k6 0 (by omega))
          have := hqs 0 (by omega)
          rw [k5.1] at h0
          omega
        refine Or.inr (Or.inr (Or.inr (Or.inr (Or.inr (Or.inr (Or.inr (Or.inr (Or.inr (Or.inr ⟨k1, k, q1, cs, qs, k2, k3, ccd k4 (by omega) (by decide), ?_, fun i hi => ?_, ?_, k8, fun _ => hE⟩)))))))))
        · unfold opq; rw [r39, r41]; exact k5
        · obtain ⟨y1, y2, y3⟩ := ops i hi
          refine ih0 _ _ _ _ _ _ _ _ _ (cs i) (k6 i hi) rfl y1 (Hno m1 (cs i) hm y1 y2 (Or.inr (Or.inr k1))) ?_
          by_cases h9 : i + 1 < k + 1
          · exact ldp_head hz (k6 (i + 1) h9) (by have := hqs (i + 1) h9; omega)
          · rw [show i + 1 = k + 1 by omega, k5.2.1]
            exact ldp_o hz (by omega) (show S.1 2 q1 = 14 from k7.1) (by decide) (by decide) (by decide)
        · refine ⟨?_, by rw [s3]; exact k7.2.1, by rw [s4]; exact k7.2.2⟩
          rw [hS2 q1 (by omega)]
          unfold mkO
          have hlq := hl.2 z (by omega)
          rw [k8] at hlq
          have h14 : S.1 2 q1 = 14 := k7.1
          cases tl with
          | false => rw [if_neg (fun h9 => by rw [hlq] at h9; exact absurd h9.2 (by decide)), h14]; rfl
          | true => rw [if_pos ⟨h14, hlq⟩]; rfl
    · obtain ⟨m1, q1, a1, a2, hk⟩ := ht
      have hmm : m1 = m := (nI_eq (by omega) (by omega)).mp (a1.symm.trans hc)
      subst hmm
      have hqz := hl.1
      refine ⟨m1, q1, a1, a2, ?_⟩
      rw [r41]
      rcases hk with ⟨k1, k2, k3, k4⟩ | ⟨m', k1, k2, k3, k4, k5⟩
      · have E0 := hE m1 hm hp
        rw [if_pos (by rw [k2]; exact hc.symm)] at E0
        exact Or.inl ⟨k1, k2, k3, ih0 _ _ _ _ _ _ _ _ _ m1 k4 hc hm E0 (by rw [← k3]; exact hl)⟩
      · have h1 := hd k5
        have n3 := g2 m1 m' hm k1 k2
        obtain ⟨l, l1, l2, l3⟩ := chain_le hnn g2 f _ _ _ _ _ _ _ _ _ m' k5 rfl n3.2
        have E0 := hE m1 hm hp
        rw [if_neg (fun h9 => by rw [l1] at h9; have := (nI_eq (by omega) (by omega)).mp h9; omega)] at E0
        exact Or.inr ⟨m', k1, k2, ccd k3 (by omega) (by decide), ih0 _ _ _ _ _ _ _ _ _ m1 k4 hc hm E0 (ldp_o hz (by omega) k3.1 (by decide) (by decide) (by decide)), ih1 _ _ _ _ _ _ _ _ _ m' pm k5 rfl n3.2 ((p2 m1 m' hm k1 k2).trans hp) hE hl⟩
end MARKED
