/-! calls at the end: what the class marks -/
section MARKC
variable {S : amS}
def ldI (S : amS) : Nat → Int32 → Int32
  | 0, _ => 0
  | n + 1, i => if az_rg 502 (S.1 2) i = 9 then ldI S n (az_rg 502 (S.1 3) i) else if az_rg 502 (S.1 2) i = 13 then ldI S n (i + 1) else if az_rg 502 (S.1 2) i = 16 then 1 else 0
theorem ld_c {z : Nat} (hz : S.1 1 3 = nI z) (hz2 : z ≤ 502) : ∀ (m s : Nat) (i : Int32), s + m = z → G_6_4 i (nI s) S = some (.inl (some (.int (ldI S m i))), S) := by
  intro m
  induction m with
  | zero =>
    intro s i hs
    rw [G_6_4_eq]
    unfold B_6_4
    rw [hz, if_pos (nI_le (by omega) (by omega))]
    rfl
  | succ m ih =>
    intro s i hs
    rw [G_6_4_eq]
    unfold B_6_4 g_4 G_6_64
    rw [hz, if_neg (nI_ge (by omega) (by omega)), bI_i]
    simp only [az_st]
    rw [nI_1]
    rw [show ldI S (m + 1) i = (if az_rg 502 (S.1 2) i = 9 then ldI S m (az_rg 502 (S.1 3) i) else if az_rg 502 (S.1 2) i = 13 then ldI S m (i + 1) else if az_rg 502 (S.1 2) i = 16 then 1 else 0) from rfl]
    by_cases h9 : az_rg 502 (S.1 2) i = 9
    · rw [if_pos h9, if_pos h9, ih (s + 1) _ (by omega)]
    · rw [if_neg h9, if_neg h9]
      by_cases h13 : az_rg 502 (S.1 2) i = 13
      · rw [if_pos h13, if_pos h13, ih (s + 1) _ (by omega)]
      · rw [if_neg h13, if_neg h13]
        by_cases h16 : az_rg 502 (S.1 2) i = 16
        · rw [if_pos h16, if_pos h16]
        · rw [if_neg h16, if_neg h16]
/-- orders alike but for calls at the end -/
def liO (S S' : amS) : Prop := (∀ k, S'.1 2 k = S.1 2 k ∨ (S.1 2 k = 14 ∧ S'.1 2 k = 15)) ∧ S'.1 3 = S.1 3
theorem rg_li {S S' : amS} (h : liO S S') (i : Int32) : az_rg 502 (S'.1 2) i = az_rg 502 (S.1 2) i ∨ (az_rg 502 (S.1 2) i = 14 ∧ az_rg 502 (S'.1 2) i = 15) := by
  unfold az_rg
  split
  · exact Or.inl rfl
  · exact h.1 _
theorem ldI_li {S S' : amS} (h : liO S S') : ∀ (n : Nat) (i : Int32), ldI S' n i = ldI S n i
  | 0, _ => rfl
  | n + 1, i => by
    show (if az_rg 502 (S'.1 2) i = 9 then ldI S' n (az_rg 502 (S'.1 3) i) else if az_rg 502 (S'.1 2) i = 13 then ldI S' n (i + 1) else if az_rg 502 (S'.1 2) i = 16 then 1 else 0) = (if az_rg 502 (S.1 2) i = 9 then ldI S n (az_rg 502 (S.1 3) i) else if az_rg 502 (S.1 2) i = 13 then ldI S n (i + 1) else if az_rg 502 (S.1 2) i = 16 then 1 else 0)
    rw [ldI_li h n, ldI_li h n, h.2]
    rcases rg_li h i with h9 | ⟨h9, h8⟩
    · rw [h9]
    · rw [h9, h8]
      rfl
theorem ldI_01 (S : amS) : ∀ (n : Nat) (i : Int32), ldI S n i = 0 ∨ ldI S n i = 1
  | 0, _ => Or.inl rfl
  | n + 1, i => by
    show (if az_rg 502 (S.1 2) i = 9 then ldI S n (az_rg 502 (S.1 3) i) else if az_rg 502 (S.1 2) i = 13 then ldI S n (i + 1) else if az_rg 502 (S.1 2) i = 16 then 1 else 0) = 0 ∨ (if az_rg 502 (S.1 2) i = 9 then ldI S n (az_rg 502 (S.1 3) i) else if az_rg 502 (S.1 2) i = 13 then ldI S n (i + 1) else if az_rg 502 (S.1 2) i = 16 then 1 else 0) = 1
    split
    · exact ldI_01 S n _
    · split
      · exact ldI_01 S n _
      · split
        · exact Or.inr rfl
        · exact Or.inl rfl
/-- the order at k once calls are marked -/
def mkO (S : amS) (z k : Nat) : Int32 := if S.1 2 k = 14 ∧ ldI S z (nI (k + 1)) = 1 then 15 else S.1 2 k
theorem mark_l {z : Nat} (hz : S.1 1 3 = nI z) (hz2 : z ≤ 502) : ∀ (m i : Nat) (S' : amS), i + m = z → (∀ k, S'.1 2 k = if k < i then mkO S z k else S.1 2 k) → (∀ a, a ≠ 2 → S'.1 a = S.1 a) → S'.2 = S.2 → ∃ S'', G_5_2 (nI i) S' = some (.inl none, S'') ∧ (∀ k, S''.1 2 k = if k < z then mkO S z k else S.1 2 k) ∧ (∀ a, a ≠ 2 → S''.1 a = S.1 a) ∧ S''.2 = S.2 := by
  intro m
  induction m with
  | zero =>
    intro i S' hi h1 h2 h3
    have : i = z := by omega
    subst this
    refine ⟨S', ?_, h1, h2, h3⟩
    rw [G_5_2_eq]
    unfold B_5_2
    rw [h2 1 (by decide), hz, if_pos (Int32.le_refl _)]
  | succ m ih =>
    intro i S' hi h1 h2 h3
    have hz' : S'.1 1 3 = nI z := by rw [h2 1 (by decide)]; exact hz
    have hli : liO S S' := by
      refine ⟨fun k => ?_, h2 3 (by decide)⟩
      rw [h1]
      unfold mkO
      by_cases hk : k < i
      · rw [if_pos hk]
        by_cases hc : S.1 2 k = 14 ∧ ldI S z (nI (k + 1)) = 1
        · rw [if_pos hc]; exact Or.inr ⟨hc.1, rfl⟩
        · rw [if_neg hc]; exact Or.inl rfl
      · rw [if_neg hk]; exact Or.inl rfl
    have hi2 : S'.1 2 i = S.1 2 i := by rw [h1, if_neg (by omega)]
    rw [G_5_2_eq]
    unfold B_5_2 g_4 G_5_40 G_6
    rw [hz', if_neg (nI_ge (by omega) (by omega)), bI_i, az_rg_in _ _ _ (show i < 502 by omega) (by decide), hi2, nI_1]
    have same : mkO S z i = S.1 2 i → ∃ S'', G_5_2 (nI (i + 1)) S' = some (.inl none, S'') ∧ (∀ k, S''.1 2 k = if k < z then mkO S z k else S.1 2 k) ∧ (∀ a, a ≠ 2 → S''.1 a = S.1 a) ∧ S''.2 = S.2 := by
      intro hm
      refine ih (i + 1) S' (by omega) (fun k => ?_) h2 h3
      rw [h1]
      by_cases hk : k < i
      · rw [if_pos hk, if_pos (by omega)]
      · rw [if_neg hk]
        by_cases hki : k = i
        · subst hki; rw [if_pos (by omega), hm]
        · rw [if_neg (by omega)]
    by_cases h14 : S.1 2 i = 14
    · rw [if_pos h14]
      have h6 : G_6_4 (nI (i + 1)) 0 S' = some (.inl (some (.int (ldI S' z (nI (i + 1))))), S') := ld_c (S := S') hz' hz2 z 0 (nI (i + 1)) (by omega)
      rw [h6, bI_i, ldI_li hli]
      rcases ldI_01 S z (nI (i + 1)) with h0 | h0
      · rw [h0, if_pos rfl]
        exact same (if_neg (fun h9 => by rw [h0] at h9; exact absurd h9.2 (by decide)))
      · rw [h0, if_neg (by decide)]
        simp only [az_st]
        rw [sR_in _ _ _ _ _ (show i < 502 by omega) (by decide)]
        refine ih (i + 1) _ (by omega) (fun k => ?_) (fun a ha => ?_) h3
        · rw [sI_get]
          by_cases hki : k = i
          · subst hki
            rw [if_pos ⟨rfl, rfl⟩, if_pos (by omega)]
            unfold mkO
            rw [if_pos ⟨h14, h0⟩]
          · rw [if_neg (fun h => hki h.2), h1]
            by_cases hk : k < i
            · rw [if_pos hk, if_pos (by omega)]
            · rw [if_neg hk, if_neg (by omega)]
        · rw [sI_row, if_neg ha]; exact h2 a ha
    · rw [if_neg h14]
      exact same (if_neg (fun h9 => h14 h9.1))
theorem mark_c {z : Nat} (hz : S.1 1 3 = nI z) (hz2 : z ≤ 502) : ∃ S'', G_5 S = some (.inl none, S'') ∧ (∀ k, S''.1 2 k = if k < z then mkO S z k else S.1 2 k) ∧ (∀ a, a ≠ 2 → S''.1 a = S.1 a) ∧ S''.2 = S.2 := by
  unfold G_5
  exact mark_l hz hz2 z 0 S (by omega) (fun k => by rw [if_neg (by omega)]) (fun _ _ => rfl) rfl
end MARKC
section MARKM
variable {R : amS}
/-- node m says that x stands at the end -/
def stM (R : amS) (E : Nat → Int32) (m x : Nat) : Prop := ((R.1 36 m = 3 ∨ (E m ≠ 0 ∧ (R.1 36 m = 5 ∨ R.1 36 m = 6 ∨ R.1 36 m = 8))) ∧ R.1 40 m = nI x) ∨ (E m ≠ 0 ∧ R.1 36 m = 4 ∧ (R.1 40 m = nI x ∨ ∃ x0, x0 < 256 ∧ R.1 39 m = nI x0 ∧ R.1 41 x0 = nI x))
theorem ends_step {nn n : Nat} {R1 : amS} (hnn : nn ≤ 256) (hn : n < nn) (h7 : R.1 34 7 = nI nn) (hgi : GI nn 0 (R.1 36) (R.1 39) (R.1 40) (R.1 41) (R.1 42) (R.1 45) (R.1 47)) (hco : ∀ m, m < nn → lkK (R.1 36 m) → coK (R.1 36 m) (R.1 42 m)) (ho : ∀ a, a ≠ 45 → R1.1 a = R.1 a) (h2 : R1.2 = R.2) :
    ∃ R2, G_153_2 (nI n) R1 = G_153_2 (nI (n + 1)) R2 ∧ (∀ a, a ≠ 45 → R2.1 a = R.1 a) ∧ R2.2 = R.2 ∧ (∀ x, x < 256 → stM R (R1.1 45) n x → R2.1 45 x = 1) ∧ (∀ x, x < 256 → ¬ stM R (R1.1 45) n x → R2.1 45 x = R1.1 45 x) := by
  obtain ⟨g1, g2, g3, g4, v1, v2, v3, v4⟩ := hgi
  have q := nI_clamp (n := n) (by omega)
  have hn256 : n < 256 := by omega
  have e36 := ho 36 (by decide)
  have e39 := ho 39 (by decide)
  have e40 := ho 40 (by decide)
  have e41 := ho 41 (by decide)
  -- the last part: an if
  have p70 : ∀ (R1' : amS), (∀ a, a ≠ 45 → R1'.1 a = R.1 a) → R1'.2 = R.2 → ∃ R2, G_153_70 G_153_2 (nI n) (R.1 36 n) R1' = G_153_2 (nI (n + 1)) R2 ∧ (∀ a, a ≠ 45 → R2.1 a = R.1 a) ∧ R2.2 = R.2 ∧ ((R1'.1 45 n ≠ 0 ∧ R.1 36 n = 4) → ∃ x0 x1 x2, x0 < 256 ∧ x1 < 256 ∧ x2 < 256 ∧ R.1 39 n = nI x0 ∧ R.1 41 x0 = nI x1 ∧ R.1 40 n = nI x2 ∧ ∀ x, R2.1 45 x = if x = x1 ∨ x = x2 then 1 else R1'.1 45 x) ∧ (¬ (R1'.1 45 n ≠ 0 ∧ R.1 36 n = 4) → R2.1 45 = R1'.1 45) := by
    intro R1' ho' h2'
    unfold G_153_70 G_153_113
    rw [az_ck_in hn256 (by decide), q]
    by_cases h0 : R1'.1 45 n = 0
    · rw [if_pos h0, nI_1]
      exact ⟨R1', rfl, ho', h2', fun h9 => absurd h0 h9.1, fun _ => rfl⟩
    · rw [if_neg h0]
      by_cases h4 : R.1 36 n = 4
      · obtain ⟨c0, c1⟩ := hco n hn (Or.inr (Or.inl h4))
        obtain ⟨x0, x1, y1, y2, y3, y4⟩ := v3 n hn h4 c0 (c1 h4)
        obtain ⟨x2, y5, y6⟩ := v1 n hn c0
        refine ⟨sI (sI R1' 45 x1 1) 45 x2 1, ?_, fun a ha => ?_, h2', fun _ => ⟨x0, x1, x2, by omega, by omega, by omega, y3, y4, y6, fun x => ?_⟩, fun h9 => absurd ⟨h0, h4⟩ h9⟩
        · rw [if_pos h4, az_ck_in hn256 (by decide), ho' 39 (by decide), y3, az_ck_in (show x0 < 256 by omega) (by decide)]
          simp only [az_st]
          rw [nI_clamp (show x0 < 2 ^ 31 by omega), ho' 41 (by decide), y4, az_ck_in (show x1 < 256 by omega) (by decide), nI_clamp (show x1 < 2 ^ 31 by omega), az_ck_in hn256 (by decide), show (sI R1' 45 x1 (vp_nar .boolean 1)).1 40 n = nI x2 by rw [sI_na _ (by decide), ho' 40 (by decide)]; exact y6, az_ck_in (show x2 < 256 by omega) (by decide), nI_clamp (show x2 < 2 ^ 31 by omega), nI_1]
          rfl
        · rw [sI_row, if_neg ha, sI_row, if_neg ha]; exact ho' a ha
        · rw [sI_get, sI_get]
          by_cases hx2 : x = x2
          · rw [if_pos ⟨rfl, hx2⟩, if_pos (Or.inr hx2)]
          · rw [if_neg (fun h => hx2 h.2)]
            by_cases hx1 : x = x1
            · rw [if_pos ⟨rfl, hx1⟩, if_pos (Or.inl hx1)]
            · rw [if_neg (fun h => hx1 h.2), if_neg (by rintro (h | h); exact hx1 h; exact hx2 h)]
      · rw [if_neg h4, nI_1]
        exact ⟨R1', rfl, ho', h2', fun h9 => absurd h9.2 h4, fun _ => rfl⟩
  have p58 : lkK (R.1 36 n) → R.1 36 n ≠ 4 → ∃ R2 x2, x2 < 256 ∧ n < x2 ∧ R.1 40 n = nI x2 ∧ G_153_58 G_153_2 (nI n) (R.1 36 n) R1 = G_153_2 (nI (n + 1)) R2 ∧ (∀ a, a ≠ 45 → R2.1 a = R.1 a) ∧ R2.2 = R.2 ∧ ∀ x, R2.1 45 x = if x = x2 then 1 else R1.1 45 x := by
    intro hlk h4
    obtain ⟨c0, c1⟩ := hco n hn hlk
    obtain ⟨x2, y5, y6⟩ := v1 n hn c0
    have hlt := (g1 n x2 hn (by omega) c0 (Or.inr y6)).1
    obtain ⟨R2, r1, r2, r3, r4, r5⟩ := p70 (sI R1 45 x2 1) (fun a ha => by rw [sI_row, if_neg ha]; exact ho a ha) h2
    refine ⟨R2, x2, by omega, hlt, y6, ?_, r2, r3, fun x => ?_⟩
    · unfold G_153_58
      rw [az_ck_in hn256 (by decide)]
      simp only [az_st]
      rw [q, e40, y6, az_ck_in (show x2 < 256 by omega) (by decide), nI_clamp (show x2 < 2 ^ 31 by omega)]
      exact r1
    · rw [r5 (fun h9 => h4 h9.2), sI_get]
      by_cases hx : x = x2
      · rw [if_pos ⟨rfl, hx⟩, if_pos hx]
      · rw [if_neg (fun h => hx h.2), if_neg hx]
  have e0 : G_153_2 (nI n) R1 = (if R1.1 45 n = 0 then G_153_48 G_153_2 (nI n) (R.1 36 n) 0 R1 else if R.1 36 n = 5 then G_153_48 G_153_2 (nI n) (R.1 36 n) 1 R1 else if R.1 36 n = 6 then G_153_48 G_153_2 (nI n) (R.1 36 n) 1 R1 else if R.1 36 n = 8 then G_153_48 G_153_2 (nI n) (R.1 36 n) 1 R1 else G_153_48 G_153_2 (nI n) (R.1 36 n) 0 R1) := by
    rw [G_153_2_eq]
    unfold B_153_2 G_153_47 G_153_43
    rw [ho 34 (by decide), h7, if_neg (nI_ge hn (by omega)), az_ck_in hn256 (by decide)]
    simp only [az_st]
    rw [az_ck_in hn256 (by decide), q, e36]
  -- it goes into the last child
  have into : (R.1 36 n = 3 ∨ (R1.1 45 n ≠ 0 ∧ (R.1 36 n = 5 ∨ R.1 36 n = 6 ∨ R.1 36 n = 8))) → G_153_2 (nI n) R1 = G_153_58 G_153_2 (nI n) (R.1 36 n) R1 := by
    intro hc
    rw [e0]
    unfold G_153_48
    rcases hc with h3 | ⟨h0, h5 | h6 | h8⟩
    · rw [if_pos h3, if_pos h3, h3]
      by_cases h0 : R1.1 45 n = 0
      · rw [if_pos h0]
      · rw [if_neg h0, if_neg (by decide), if_neg (by decide), if_neg (by decide)]
    · rw [if_neg h0, if_pos h5, h5, if_neg (by decide), if_neg (by decide)]
    · rw [if_neg h0, h6, if_neg (by decide), if_pos rfl, if_neg (by decide), if_neg (by decide)]
    · rw [if_neg h0, h8, if_neg (by decide), if_neg (by decide), if_pos rfl, if_neg (by decide), if_neg (by decide)]
  have noto : ¬ (R.1 36 n = 3 ∨ (R1.1 45 n ≠ 0 ∧ (R.1 36 n = 5 ∨ R.1 36 n = 6 ∨ R.1 36 n = 8))) → G_153_2 (nI n) R1 = G_153_70 G_153_2 (nI n) (R.1 36 n) R1 := by
    intro hc
    have h3 : ¬ R.1 36 n = 3 := fun h => hc (Or.inl h)
    have k0 : G_153_48 G_153_2 (nI n) (R.1 36 n) 0 R1 = G_153_70 G_153_2 (nI n) (R.1 36 n) R1 := by
      unfold G_153_48
      rw [if_neg h3, if_pos rfl]
    rw [e0]
    by_cases h0 : R1.1 45 n = 0
    · rw [if_pos h0, k0]
    · rw [if_neg h0, if_neg (fun h => hc (Or.inr ⟨h0, Or.inl h⟩)), if_neg (fun h => hc (Or.inr ⟨h0, Or.inr (Or.inl h)⟩)), if_neg (fun h => hc (Or.inr ⟨h0, Or.inr (Or.inr h)⟩)), k0]
  by_cases hc : R.1 36 n = 3 ∨ (R1.1 45 n ≠ 0 ∧ (R.1 36 n = 5 ∨ R.1 36 n = 6 ∨ R.1 36 n = 8))
  · have h4 : R.1 36 n ≠ 4 := by
      rcases hc with h | ⟨-, h | h | h⟩ <;> rw [h] <;> decide
    have hlk : lkK (R.1 36 n) := by
      rcases hc with h | ⟨-, h | h | h⟩
      · exact Or.inl h
      · exact Or.inr (Or.inr (Or.inl h))
      · exact Or.inr (Or.inr (Or.inr (Or.inl h)))
      · exact Or.inr (Or.inr (Or.inr (Or.inr h)))
    obtain ⟨R2, x2, r1, r2, r3, r4, r5, r6, r7⟩ := p58 hlk h4
    refine ⟨R2, (into hc).trans r4, r5, r6, fun x hx hs => ?_, fun x hx hs => ?_⟩
    · rcases hs with ⟨-, hs⟩ | ⟨-, hs, -⟩
      · have : x = x2 := (nI_eq (by omega) (by omega)).mp (hs.symm.trans r3)
        rw [r7, if_pos this]
      · exact absurd hs h4
    · rw [r7, if_neg (fun h9 => hs (Or.inl ⟨hc, by rw [h9]; exact r3⟩))]
  · obtain ⟨R2, r1, r2, r3, r4, r5⟩ := p70 R1 ho h2
    refine ⟨R2, (noto hc).trans r1, r2, r3, fun x hx hs => ?_, fun x hx hs => ?_⟩
    · rcases hs with ⟨hs, -⟩ | ⟨hs1, hs2, hs3⟩
      · exact absurd hs hc
      · obtain ⟨x0, x1, x2, y0, y1, y2, y3, y4, y5, y6⟩ := r4 ⟨hs1, hs2⟩
        rw [y6]
        refine if_pos ?_
        rcases hs3 with hs3 | ⟨z0, z1, z2, z3⟩
        · exact Or.inr ((nI_eq (by omega) (by omega)).mp (hs3.symm.trans y5))
        · have : z0 = x0 := (nI_eq (by omega) (by omega)).mp (z2.symm.trans y3)
          subst this
          exact Or.inl ((nI_eq (by omega) (by omega)).mp (z3.symm.trans y4))
    · by_cases h44 : R1.1 45 n ≠ 0 ∧ R.1 36 n = 4
      · obtain ⟨x0, x1, x2, y0, y1, y2, y3, y4, y5, y6⟩ := r4 h44
        rw [y6]
        refine if_neg ?_
        rintro (rfl | rfl)
        · exact hs (Or.inr ⟨h44.1, h44.2, Or.inr ⟨x0, y0, y3, y4⟩⟩)
        · exact hs (Or.inr ⟨h44.1, h44.2, Or.inl y5⟩)
      · rw [r5 h44]
end MARKM
