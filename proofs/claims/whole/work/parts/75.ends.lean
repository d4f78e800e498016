/-! calls at the end: both mark the same -/
section ENDS
variable {S S2 R R2 : amS} {nn z : Nat}
/-- what markEnds comes to -/
def AE (R : amS) (E : Nat → Int32) (nn : Nat) : Prop := (∀ x, x < nn → E x = 0 ∨ E x = 1) ∧ (∀ x, x < nn → (E x ≠ 0 ↔ ∃ m, m < nn ∧ stM R E m x))
theorem stM_gt {E : Nat → Int32} {d m x : Nat} (hnn : nn ≤ 256) (hm : m < nn) (hx : x < 256) (hgi : GI nn d (R.1 36) (R.1 39) (R.1 40) (R.1 41) (R.1 42) (R.1 45) (R.1 47)) (hco : ∀ m, m < nn → lkK (R.1 36 m) → coK (R.1 36 m) (R.1 42 m)) (hs : stM R E m x) : m < x := by
  obtain ⟨g1, g2, -⟩ := hgi
  rcases hs with ⟨h1, h2⟩ | ⟨h1, h2, h3⟩
  · have hlk : lkK (R.1 36 m) := by
      rcases h1 with h | ⟨-, h | h | h⟩
      · exact Or.inl h
      · exact Or.inr (Or.inr (Or.inl h))
      · exact Or.inr (Or.inr (Or.inr (Or.inl h)))
      · exact Or.inr (Or.inr (Or.inr (Or.inr h)))
    exact (g1 m x hm hx (hco m hm hlk).1 (Or.inr h2)).1
  · have hc := (hco m hm (Or.inr (Or.inl h2))).1
    rcases h3 with h3 | ⟨x0, y0, y1, y2⟩
    · exact (g1 m x hm hx hc (Or.inr h3)).1
    · have q1 := g1 m x0 hm y0 hc (Or.inl y1)
      have q2 := g2 x0 x q1.2 hx y2
      omega
theorem stM_E {E E' : Nat → Int32} {m x : Nat} (h : E' m = E m) : stM R E' m x ↔ stM R E m x := by
  unfold stM
  rw [h]
theorem ends_l (hnn : nn ≤ 256) (h7 : R.1 34 7 = nI nn) (hgi : GI nn 0 (R.1 36) (R.1 39) (R.1 40) (R.1 41) (R.1 42) (R.1 45) (R.1 47)) (hco : ∀ m, m < nn → lkK (R.1 36 m) → coK (R.1 36 m) (R.1 42 m)) : ∀ (k n : Nat) (R1 : amS), n + k = nn → (∀ a, a ≠ 45 → R1.1 a = R.1 a) → R1.2 = R.2 → (∀ x, x < nn → R1.1 45 x = 0 ∨ R1.1 45 x = 1) → (∀ x, x < nn → (R1.1 45 x ≠ 0 ↔ ∃ m, m < n ∧ stM R (R1.1 45) m x)) → ∃ R', G_153_2 (nI n) R1 = some (.inl none, R') ∧ (∀ a, a ≠ 45 → R'.1 a = R.1 a) ∧ R'.2 = R.2 ∧ AE R (R'.1 45) nn := by
  intro k
  induction k with
  | zero =>
    intro n R1 hn ho h2 h3 h4
    have : n = nn := by omega
    subst this
    refine ⟨R1, ?_, ho, h2, h3, h4⟩
    rw [G_153_2_eq]
    unfold B_153_2
    rw [ho 34 (by decide), h7, if_pos (Int32.le_refl _)]
  | succ k ih =>
    intro n R1 hn ho h2 h3 h4
    obtain ⟨R2, r1, r2, r3, r4, r5⟩ := ends_step (n := n) hnn (by omega) h7 hgi hco ho h2
    have hE : ∀ m, m ≤ n → R2.1 45 m = R1.1 45 m := fun m hm => r5 m (by omega) (fun hs => by
      have := stM_gt (x := m) hnn (show n < nn by omega) (by omega) hgi hco hs
      omega)
    rw [r1]
    refine ih (n + 1) R2 (by omega) r2 r3 (fun x hx => ?_) (fun x hx => ?_)
    · by_cases hs : stM R (R1.1 45) n x
      · exact Or.inr (r4 x (by omega) hs)
      · rw [r5 x (by omega) hs]; exact h3 x hx
    · constructor
      · intro h9
        by_cases hs : stM R (R1.1 45) n x
        · exact ⟨n, by omega, (stM_E (hE n (Nat.le_refl _))).mpr hs⟩
        · rw [r5 x (by omega) hs] at h9
          obtain ⟨m, m1, m2⟩ := (h4 x hx).mp h9
          exact ⟨m, by omega, (stM_E (hE m (by omega))).mpr m2⟩
      · rintro ⟨m, m1, m2⟩
        have m2 := (stM_E (hE m (by omega))).mp m2
        by_cases hs : stM R (R1.1 45) n x
        · rw [r4 x (by omega) hs]; decide
        · rw [r5 x (by omega) hs]
          have : m ≠ n := fun h9 => hs (h9 ▸ m2)
          exact (h4 x hx).mpr ⟨m, by omega, m2⟩
theorem ends_m (hnn : nn ≤ 256) (h7 : R.1 34 7 = nI nn) (hgi : GI nn 0 (R.1 36) (R.1 39) (R.1 40) (R.1 41) (R.1 42) (R.1 45) (R.1 47)) (hco : ∀ m, m < nn → lkK (R.1 36 m) → coK (R.1 36 m) (R.1 42 m)) : ∃ R', G_153 R = some (.inl none, R') ∧ (∀ a, a ≠ 45 → R'.1 a = R.1 a) ∧ R'.2 = R.2 ∧ AE R (R'.1 45) nn := by
  have g4 := hgi.2.2.2.1
  unfold G_153
  refine ends_l hnn h7 hgi hco nn 0 R (by omega) (fun _ _ => rfl) rfl (fun x hx => Or.inl (g4 x hx)) (fun x hx => ⟨fun h9 => absurd (g4 x hx) h9, fun ⟨m, hm, _⟩ => absurd hm (by omega)⟩)
/-- where orders lead -/
def LDP (S : amS) (z i : Nat) (b : Bool) : Prop := i < z ∧ ∀ n, z - i ≤ n → ldI S n (nI i) = b2i b
theorem ldI_at {i : Nat} (hi : i < 502) (n : Nat) : ldI S (n + 1) (nI i) = if S.1 2 i = 9 then ldI S n (S.1 3 i) else if S.1 2 i = 13 then ldI S n (nI (i + 1)) else if S.1 2 i = 16 then 1 else 0 := by
  show (if az_rg 502 (S.1 2) (nI i) = 9 then ldI S n (az_rg 502 (S.1 3) (nI i)) else if az_rg 502 (S.1 2) (nI i) = 13 then ldI S n (nI i + 1) else if az_rg 502 (S.1 2) (nI i) = 16 then 1 else 0) = _
  rw [az_rg_in _ _ _ hi (by decide), az_rg_in _ _ _ hi (by decide), nI_1]
theorem ldp_o {i : Nat} {o : Int32} (hz : z ≤ 502) (hi : i < z) (ho : S.1 2 i = o) (h9 : o ≠ 9) (h13 : o ≠ 13) (h16 : o ≠ 16) : LDP S z i false := by
  refine ⟨hi, fun n hn => ?_⟩
  obtain ⟨n, rfl⟩ : ∃ k, n = k + 1 := ⟨n - 1, by omega⟩
  rw [ldI_at (by omega), ho, if_neg h9, if_neg h13, if_neg h16]
  rfl
theorem ldp_16 {i : Nat} (hz : z ≤ 502) (hi : i < z) (ho : S.1 2 i = 16) : LDP S z i true := by
  refine ⟨hi, fun n hn => ?_⟩
  obtain ⟨n, rfl⟩ : ∃ k, n = k + 1 := ⟨n - 1, by omega⟩
  rw [ldI_at (by omega), ho, if_neg (by decide), if_neg (by decide), if_pos rfl]
  rfl
theorem ldp_9 {i j : Nat} {b : Bool} (hz : z ≤ 502) (hi : i < j) (ho : S.1 2 i = 9) (hx : S.1 3 i = nI j) (hl : LDP S z j b) : LDP S z i b := by
  have := hl.1
  refine ⟨by omega, fun n hn => ?_⟩
  obtain ⟨n, rfl⟩ : ∃ k, n = k + 1 := ⟨n - 1, by omega⟩
  rw [ldI_at (by omega), ho, if_pos rfl, hx]
  exact hl.2 n (by omega)
theorem ldp_13 {i : Nat} {b : Bool} (hz : z ≤ 502) (ho : S.1 2 i = 13) (hl : LDP S z (i + 1) b) : LDP S z i b := by
  have := hl.1
  refine ⟨by omega, fun n hn => ?_⟩
  obtain ⟨n, rfl⟩ : ∃ k, n = k + 1 := ⟨n - 1, by omega⟩
  rw [ldI_at (by omega), ho, if_neg (by decide), if_pos rfl]
  exact hl.2 n (by omega)
/-- the first order of an expression costs; there is at least one -/
theorem TT_head {mk : Bool} : ∀ (f md : Nat) (c rs : Int32) (dl p q h fn : Nat) (sc : List scE) (tl : Bool), TT S R mk f md c rs dl p q h fn sc tl → p < q ∧ (S.1 2 p = 1 ∨ S.1 2 p = 2 ∨ S.1 2 p = 3 ∨ S.1 2 p = 4 ∨ S.1 2 p = 5 ∨ S.1 2 p = 6)
  | 0, _, _, _, _, _, _, _, _, _, _, h => absurd h (fun h => h)
  | f + 1, 0, c, rs, dl, p, q, h, fn, sc, tl, ht => by
    have ih := TT_head (mk := mk) f
    obtain ⟨m, a1, a2, a3, a4, a5, a6, a7, hk⟩ := ht
    rcases hk with ⟨k1, k2, k3⟩ | ⟨k1, k2, k3⟩ | ⟨k1, e, k2, src, k3, k4, k5, k6⟩ | ⟨k1, mu, vs, c0, q1, k2, k3, k4, k5, k6, k7, k8, k9, k10, k11, k12, k13, k14⟩ | ⟨k1, a, b, c, q1, q2, k2, k3, k4, k5, k6, k7, k8, k9, k10, k11, k12, k13, k14⟩ | ⟨k1, vs, c0, b, q1, q2, cs, qs, k2, k3, k4, k5, k6, k7, k8, k9, k10, k11, k12, k13⟩ | ⟨k1, e, a, b, q1, q2, k2, k3, k4, k5, k6, k7, k8, k9, k10, k11, k12, k13, k14, k15⟩ | ⟨k1, e, k2, src, q1, a, k3, k4, k5, k6, k7, k8, k9, k10, k11⟩ | ⟨k1, k2, k3⟩ | ⟨k1, o, k, q1, cs, qs, k2, k3, k4, k5, k6, k7, k8, k9, k10⟩ | ⟨k1, k, q1, cs, qs, k2, k3, k4, k5, k6, k7, k8, k9⟩
    · exact ⟨by omega, Or.inr (Or.inl k2.1)⟩
    · exact ⟨by omega, Or.inr (Or.inr (Or.inl k2.1))⟩
    · exact ⟨by omega, Or.inr (Or.inr (Or.inr (Or.inl k4.1)))⟩
    · have := (ih _ _ _ _ _ _ _ _ _ _ k12).1
      exact ⟨by omega, Or.inr (Or.inr (Or.inr (Or.inr (Or.inl k3.1))))⟩
    · have h1 := (ih _ _ _ _ _ _ _ _ _ _ k10).1
      have h2 := (ih _ _ _ _ _ _ _ _ _ _ k12).1
      have h3 := (ih _ _ _ _ _ _ _ _ _ _ k14).1
      exact ⟨by omega, Or.inl k9.1⟩
    · have h1 : ∀ i, i ≤ vs.length → p + 1 ≤ qs i := by
        intro i
        induction i with
        | zero => intro _; rw [k6.1]; exact Nat.le_refl _
        | succ i ihi =>
          intro hi
          have := (ih _ _ _ _ _ _ _ _ _ _ (k7 i (by omega))).1
          have := ihi (by omega)
          omega
      have h2 := h1 vs.length (Nat.le_refl _)
      rw [k6.2.1] at h2
      have h3 := (ih _ _ _ _ _ _ _ _ _ _ k11).1
      exact ⟨by omega, Or.inl k5.1⟩
    · have h1 := (ih _ _ _ _ _ _ _ _ _ _ k9).1
      have h2 := (ih _ _ _ _ _ _ _ _ _ _ k13).1
      exact ⟨by omega, Or.inr (Or.inr (Or.inr (Or.inr (Or.inr k4.1))))⟩
    · have h1 := (ih _ _ _ _ _ _ _ _ _ _ k9).1
      exact ⟨by omega, Or.inl k7.1⟩
    · have h1 := (ih _ _ _ _ _ _ _ _ _ _ k3).1
      exact ⟨by omega, Or.inl k2.1⟩
    · have h1 : ∀ i, i ≤ k → p + 1 ≤ qs i := by
        intro i
        induction i with
        | zero => intro _; rw [k7.1]; exact Nat.le_refl _
        | succ i ihi =>
          intro hi
          have := (ih _ _ _ _ _ _ _ _ _ _ (k8 i (by omega))).1
          have := ihi (by omega)
          omega
      have h2 := h1 k (Nat.le_refl _)
      rw [k7.2.1] at h2
      exact ⟨by omega, Or.inl k6.1⟩
    · have h1 : ∀ i, i ≤ k + 1 → p + 1 ≤ qs i := by
        intro i
        induction i with
        | zero => intro _; rw [k5.1]; exact Nat.le_refl _
        | succ i ihi =>
          intro hi
          have := (ih _ _ _ _ _ _ _ _ _ _ (k6 i (by omega))).1
          have := ihi (by omega)
          omega
      have h2 := h1 (k + 1) (Nat.le_refl _)
      rw [k5.2.1] at h2
      exact ⟨by omega, Or.inl k4.1⟩
  | f + 1, md + 1, c, rs, dl, p, q, h, fn, sc, tl, ht => by
    have ih := TT_head (mk := mk) f
    obtain ⟨m, q1, a1, a2, hk⟩ := ht
    rcases hk with ⟨k1, k2, k3, k4⟩ | ⟨m', k1, k2, k3, k4, k5⟩
    · have := ih _ _ _ _ _ _ _ _ _ _ k4
      exact ⟨by omega, this.2⟩
    · have h1 := ih _ _ _ _ _ _ _ _ _ _ k4
      have h2 := ih _ _ _ _ _ _ _ _ _ _ k5
      exact ⟨by omega, h1.2⟩
theorem ldp_head {mk : Bool} {f md : Nat} {c rs : Int32} {dl p q h fn : Nat} {sc : List scE} {tl : Bool} (hz : z ≤ 502) (ht : TT S R mk f md c rs dl p q h fn sc tl) (hq : q ≤ z) : LDP S z p false := by
  obtain ⟨h1, h2⟩ := TT_head f md c rs dl p q h fn sc tl ht
  rcases h2 with h | h | h | h | h | h <;> exact ldp_o hz (by omega) h (by decide) (by decide) (by decide)
end ENDS
