/-! the law's loop, over what each call does: Rl is what holds between the class's state and the reference's between two calls -/
theorem am_goal_of (h : ∀ (L : Nat) (xs : Nat → Int32), L ≤ 2048 → ∃ T, G_188_23 (L, xs) 0 iL = some (.inl (some (.int 1)), T) ∧ T.2.2.2 ≤ 600000) : am_Goal := by
  intro L xs hL
  obtain ⟨T, h1, h2⟩ := h L xs hL
  have h3 := ev_188_23 (L, xs) 0 iL
  rw [h1] at h3
  obtain ⟨n, h4⟩ := ev_some h3
  exact ⟨n, T, h4, h2⟩
theorem lg_cmp_self (x : Int64) : lg_cmp x x = 0 := by
  unfold lg_cmp
  rw [if_neg (by simp), if_pos rfl]
/-- class and reference answer a call alike: f is the number by which the law knows an exception -/
def aRes (Rl : amS → amS → Prop) (f : Nat → Option Int32) (cls ref : amQ) : Prop :=
  ∃ oc S' b R', cls = some (oc, S') ∧ ref = some (.inl (some (.int b)), R') ∧ Rl S' R' ∧ ((oc = .inl (some (.int b)) ∧ R'.1 34 0 = 0) ∨ ∃ x c, oc = .inr x ∧ f x = some c ∧ R'.1 34 0 = c)
def aRes0 (Rl : amS → amS → Prop) (cls ref : amQ) : Prop :=
  ∃ S' b R', cls = some (.inl (some (.int b)), S') ∧ ref = some (.inl (some (.int b)), R') ∧ Rl S' R'
def aResV (Rl : amS → amS → Prop) (cls ref : amQ) : Prop :=
  ∃ S' R', ref = some (.inl none, R') ∧ Rl S' R' ∧ ((cls = some (.inl none, S') ∧ R'.1 34 0 = 0) ∨ (cls = some (.inr 0, S') ∧ R'.1 34 0 = 1))
def aF2 : Nat → Option Int32 := fun x => if x = 0 then some 1 else if x = 1 then some 2 else none
def aF1 : Nat → Option Int32 := fun x => if x = 0 then some 1 else none
def aFO : Nat → Option Int32 := fun x => if x = 2 then some 1 else none
/-- what a wrapper has come to -/
def aW (Rl : amS → amS → Prop) (s : lawS) (W : lawQ) (ref : amQ) : Prop :=
  ∃ c S' b R' u' e', W = some (.inl (some (.int c)), (S', s.2.1, u', e')) ∧ e' ≤ s.2.2.2 + 1 ∧ ref = some (.inl (some (.int b)), R') ∧ R'.1 34 0 = c ∧ (c = 0 → u' 0 = b.toInt64) ∧ Rl S' R'
section LW
variable {Rl : amS → amS → Prop} {s : lawS} {cls ref : amQ}
theorem az_ck01 {β : Type} (R : Option β) : az_ck 0 1 R = R := by
  unfold az_ck
  rw [if_neg (by decide)]
theorem lw_I2 (h : aRes Rl aF2 cls ref) : aW Rl s (az_tI2 (lfC s cls) (fun x2 S1 => az_ck 0 1 (az_st (sU S1 (0 : Int32).toNatClampNeg (Int32.toInt64 x2)) fun S3 => some (.inl (some (.int 0)), S3))) (fun S1 => some (.inl (some (.int 1)), S1)) (fun S1 => some (.inl (some (.int 2)), S1))) ref := by
  obtain ⟨oc, S', b, R', h1, h2, h3, h4⟩ := h
  rcases h4 with ⟨rfl, h5⟩ | ⟨x, c, rfl, h5, h6⟩
  · refine ⟨0, S', b, R', vp_updL s.2.2.1 0 b.toInt64, s.2.2.2, ?_, by omega, h2, h5, fun _ => rfl, h3⟩
    rw [h1]
    show az_ck 0 1 _ = _
    rw [az_ck01]
    rfl
  · unfold aF2 at h5
    split at h5
    · next hx => cases h5; subst hx; exact ⟨1, S', b, R', s.2.2.1, s.2.2.2 + 1, by rw [h1]; rfl, Nat.le_refl _, h2, h6, fun h => absurd h (by decide), h3⟩
    · split at h5
      · next hx => cases h5; subst hx; exact ⟨2, S', b, R', s.2.2.1, s.2.2.2 + 1, by rw [h1]; rfl, Nat.le_refl _, h2, h6, fun h => absurd h (by decide), h3⟩
      · cases h5
theorem lw_I1 (h : aRes Rl aF1 cls ref) : aW Rl s (az_tI1 (lfC s cls) (fun x2 S1 => az_ck 0 1 (az_st (sU S1 (0 : Int32).toNatClampNeg (Int32.toInt64 x2)) fun S3 => some (.inl (some (.int 0)), S3))) (fun S1 => some (.inl (some (.int 1)), S1))) ref := by
  obtain ⟨oc, S', b, R', h1, h2, h3, h4⟩ := h
  rcases h4 with ⟨rfl, h5⟩ | ⟨x, c, rfl, h5, h6⟩
  · refine ⟨0, S', b, R', vp_updL s.2.2.1 0 b.toInt64, s.2.2.2, ?_, by omega, h2, h5, fun _ => rfl, h3⟩
    rw [h1]
    show az_ck 0 1 _ = _
    rw [az_ck01]
    rfl
  · unfold aF1 at h5
    split at h5
    · next hx => cases h5; subst hx; exact ⟨1, S', b, R', s.2.2.1, s.2.2.2 + 1, by rw [h1]; rfl, Nat.le_refl _, h2, h6, fun h => absurd h (by decide), h3⟩
    · cases h5
theorem lw_O1 (h : aRes Rl aFO cls ref) : aW Rl s (az_tO1 (lfC s cls) (fun x2 S1 => az_ck 0 1 (az_st (sU S1 (0 : Int32).toNatClampNeg (Int32.toInt64 x2)) fun S3 => some (.inl (some (.int 0)), S3))) (fun S1 => some (.inl (some (.int 1)), S1))) ref := by
  obtain ⟨oc, S', b, R', h1, h2, h3, h4⟩ := h
  rcases h4 with ⟨rfl, h5⟩ | ⟨x, c, rfl, h5, h6⟩
  · refine ⟨0, S', b, R', vp_updL s.2.2.1 0 b.toInt64, s.2.2.2, ?_, by omega, h2, h5, fun _ => rfl, h3⟩
    rw [h1]
    show az_ck 0 1 _ = _
    rw [az_ck01]
    rfl
  · unfold aFO at h5
    split at h5
    · next hx => cases h5; subst hx; exact ⟨1, S', b, R', s.2.2.1, s.2.2.2 + 1, by rw [h1]; rfl, Nat.le_refl _, h2, h6, fun h => absurd h (by decide), h3⟩
    · cases h5
/-- the law's comparison behind a wrapper -/
theorem lw_cmp {W : lawQ} {ref : amS → amQ} (h : aW Rl s W (ref s.2.1)) : ∃ s' : lawS, Rl s'.1 s'.2.1 ∧ s'.2.2.2 ≤ s.2.2.2 + 1 ∧ ∀ (K : lawS → lawQ) (F : lawS → lawQ), (az_bI W fun x3 S2 => az_bI (lfM S2 (ref S2.2.1)) fun x5 S4 => az_bI (lfM S4 (g_127 S4.2.1)) fun x7 S6 => if x7 = x3 then if x3 = 0 then az_ck 0 1 (if (lg_cmp (S6.2.2.1 (0 : Int32).toNatClampNeg) (Int32.toInt64 x5)) = 0 then K S6 else F S6) else K S6 else F S6) = K s' := by
  obtain ⟨c, S', b, R', u', e', h1, h2, h3, h4, h5, h6⟩ := h
  refine ⟨(S', R', u', e'), h6, h2, fun K F => ?_⟩
  rw [h1]
  show (az_bI (lfM (S', s.2.1, u', e') (ref s.2.1)) fun x5 S4 => _) = _
  rw [h3]
  show (if R'.1 34 0 = c then if c = 0 then az_ck 0 1 (if (lg_cmp (u' (0 : Int32).toNatClampNeg) (Int32.toInt64 b)) = 0 then K (S', R', u', e') else _) else K (S', R', u', e') else _) = _
  rw [if_pos h4]
  by_cases hc : c = 0
  · rw [if_pos hc, az_ck01, show u' (0 : Int32).toNatClampNeg = Int32.toInt64 b from h5 hc, if_pos (lg_cmp_self _)]
  · rw [if_neg hc]
end LW
/-- what is asked of each call -/
def aAll (Rk : Nat → amS → amS → Prop) : Prop := ∀ k Rl, k < 512 → Rl = Rk (k + 1) → ∀ S R, Rk k S R →
  (∀ b n, aRes Rl aF2 (G_116 b n S) (G_130 b n R)) ∧ aResV Rl (G_117 25 S) (G_154 R) ∧ aRes0 Rl (g_118 S) (g_174 R) ∧ (∀ f, aRes Rl aF2 (G_119 f S) (G_173 f R)) ∧ aRes0 Rl (g_120 S) (g_175 R) ∧
  (∀ k, aRes Rl aF1 (g_121 k S) (g_176 k R)) ∧ (∀ k, aRes Rl aFO (g_122 k S) (g_177 k R)) ∧ (∀ k, aRes Rl aF2 (G_123 k S) (G_179 k R)) ∧ (∀ k, aRes Rl aF2 (G_124 k S) (G_180 k R))
theorem az_ckp {β : Type} {k n : Nat} (h : k < n) (hn : n < 2 ^ 31) (R : Option β) : az_ck (nI k) n R = R := by
  unfold az_ck
  exact if_neg (vp_in_nI h hn)
theorem nI_addL (i k : Nat) : nI i + Int32.ofNat k = nI (i + k) := by
  unfold nI
  exact (Int32.ofNat_add i k).symm
set_option maxHeartbeats 2000000 in
theorem lw_step {Rk : Nat → amS → amS → Prop} {k : Nat} (hk : k < 512) (hA : aAll Rk) {L : Nat} {xs : Nat → Int32} (hL : L ≤ 2048) {i : Nat} (hi : i + 4 ≤ L) {s : lawS} (hs : Rk k s.1 s.2.1) (h9 : Rk k s.1 s.2.1 → Rk (k + 1) s.1 s.2.1) : ∃ s' : lawS, Rk (k + 1) s'.1 s'.2.1 ∧ s'.2.2.2 ≤ s.2.2.2 + 1 ∧ ∀ H, B_188_23 (L, xs) H (nI i) s = H (nI (i + 4)) s' := by
  obtain ⟨a0, a1, a2, a3, a4, a5, a6, a7, a8⟩ := hA k _ hk rfl s.1 s.2.1 hs
  have e1 : nI i + 1 = nI (i + 1) := nI_addL i 1
  have e2 : nI i + 2 = nI (i + 2) := nI_addL i 2
  have e3 : nI i + 3 = nI (i + 3) := nI_addL i 3
  have e4 : nI i + 4 = nI (i + 4) := nI_addL i 4
  have hlt : ¬ (Int32.ofNat L - 4 < nI i) := by
    have h1 : Int32.ofNat L - 4 = nI (L - 4) := by
      have h2 : Int32.ofNat L = nI (L - 4) + 4 := by
        rw [show (4 : Int32) = Int32.ofNat 4 from rfl, nI_addL]
        unfold nI
        congr 1
        omega
      rw [h2, Int32.add_sub_cancel]
    rw [h1]
    rw [nI_ltI (by omega) (by omega)]
    omega
  have c0 : ∀ {β : Type} (R : Option β), az_ck (nI i) L R = R := fun R => az_ckp (by omega) (by omega) R
  have c1 : ∀ {β : Type} (R : Option β), az_ck (nI (i + 1)) L R = R := fun R => az_ckp (by omega) (by omega) R
  have c2 : ∀ {β : Type} (R : Option β), az_ck (nI (i + 2)) L R = R := fun R => az_ckp (by omega) (by omega) R
  have c3 : ∀ {β : Type} (R : Option β), az_ck (nI (i + 3)) L R = R := fun R => az_ckp (by omega) (by omega) R
  have hB : ∀ H, B_188_23 (L, xs) H (nI i) s = _ := fun H => by
    unfold B_188_23 G_188_185 G_188_278 G_188_347 G_188_403 G_188_459 G_188_515 G_188_518
    simp only [if_neg hlt, e1, e2, e3, e4, c0, c1, c2, c3]
    rfl
  simp only [hB]
  clear hB
  unfold az_st
  generalize (xs (nI i).toNatClampNeg &&& 15) = z
  by_cases z0 : z = 0
  · simp only [if_pos z0]
    obtain ⟨s', h1, h2, h3⟩ := lw_cmp (ref := fun R => G_130 _ _ R) (lw_I2 (s := s) (a0 _ _))
    exact ⟨s', h1, h2, fun H => h3 (fun S => H (nI (i + 4)) S) (fun S => some (.inl (some (.int 0)), S))⟩
  simp only [if_neg z0]
  by_cases z1 : z = 1
  · simp only [if_pos z1]
    obtain ⟨S', R', h1, h2, h3⟩ := a1
    rcases h3 with ⟨h3, h4⟩ | ⟨h3, h4⟩
    · refine ⟨(S', R', s.2.2.1, s.2.2.2), h2, Nat.le_succ _, fun H => ?_⟩
      have hw : G_182 s = some (.inl (some (.int 0)), (S', s.2.1, s.2.2.1, s.2.2.2)) := by unfold G_182; rw [h3]; rfl
      rw [hw]
      show (az_bV (lfM (S', s.2.1, s.2.2.1, s.2.2.2) (G_154 s.2.1)) fun S10 => _) = _
      rw [h1]
      show (if R'.1 34 0 = 0 then H (nI (i + 4)) (S', R', s.2.2.1, s.2.2.2) else _) = _
      rw [if_pos h4]
    · refine ⟨(S', R', s.2.2.1, s.2.2.2 + 1), h2, Nat.le_refl _, fun H => ?_⟩
      have hw : G_182 s = some (.inl (some (.int 1)), (S', s.2.1, s.2.2.1, s.2.2.2 + 1)) := by unfold G_182; rw [h3]; rfl
      rw [hw]
      show (az_bV (lfM (S', s.2.1, s.2.2.1, s.2.2.2 + 1) (G_154 s.2.1)) fun S10 => _) = _
      rw [h1]
      show (if R'.1 34 0 = 1 then H (nI (i + 4)) (S', R', s.2.2.1, s.2.2.2 + 1) else _) = _
      rw [if_pos h4]
  simp only [if_neg z1]
  by_cases z2 : z = 2
  · simp only [if_pos z2]
    obtain ⟨S', b, R', h1, h2, h3⟩ := a2
    refine ⟨(S', R', s.2.2.1, s.2.2.2), h3, Nat.le_succ _, fun H => ?_⟩
    rw [h1]
    show (az_bI (lfM (S', s.2.1, s.2.2.1, s.2.2.2) (g_174 s.2.1)) fun x16 S15 => _) = _
    rw [h2]
    show (if b = b then H (nI (i + 4)) (S', R', s.2.2.1, s.2.2.2) else _) = _
    rw [if_pos rfl]
  simp only [if_neg z2]
  by_cases z3 : z = 3
  · simp only [if_pos z3]
    obtain ⟨s', h1, h2, h3⟩ := lw_cmp (ref := fun R => G_173 _ R) (lw_I2 (s := s) (a3 _))
    exact ⟨s', h1, h2, fun H => h3 (fun S => H (nI (i + 4)) S) (fun S => some (.inl (some (.int 0)), S))⟩
  simp only [if_neg z3]
  by_cases z4 : z = 4
  · simp only [if_pos z4]
    obtain ⟨S', b, R', h1, h2, h3⟩ := a4
    refine ⟨(S', R', s.2.2.1, s.2.2.2), h3, Nat.le_succ _, fun H => ?_⟩
    rw [h1]
    show (az_bI (lfM (S', s.2.1, s.2.2.1, s.2.2.2) (g_175 s.2.1)) fun x16 S15 => _) = _
    rw [h2]
    show (if b = b then H (nI (i + 4)) (S', R', s.2.2.1, s.2.2.2) else _) = _
    rw [if_pos rfl]
  simp only [if_neg z4]
  by_cases z5 : z = 5
  · simp only [if_pos z5]
    obtain ⟨s', h1, h2, h3⟩ := lw_cmp (ref := fun R => g_176 _ R) (lw_I1 (s := s) (a5 _))
    exact ⟨s', h1, h2, fun H => h3 (fun S => H (nI (i + 4)) S) (fun S => some (.inl (some (.int 0)), S))⟩
  simp only [if_neg z5]
  by_cases z6 : z = 6
  · simp only [if_pos z6]
    obtain ⟨s', h1, h2, h3⟩ := lw_cmp (ref := fun R => g_177 _ R) (lw_O1 (s := s) (a6 _))
    exact ⟨s', h1, h2, fun H => h3 (fun S => H (nI (i + 4)) S) (fun S => some (.inl (some (.int 0)), S))⟩
  simp only [if_neg z6]
  by_cases z7 : z = 7
  · simp only [if_pos z7]
    obtain ⟨s', h1, h2, h3⟩ := lw_cmp (ref := fun R => G_179 _ R) (lw_I2 (s := s) (a7 _))
    exact ⟨s', h1, h2, fun H => h3 (fun S => H (nI (i + 4)) S) (fun S => some (.inl (some (.int 0)), S))⟩
  simp only [if_neg z7]
  by_cases z8 : z = 8
  · simp only [if_pos z8]
    obtain ⟨s', h1, h2, h3⟩ := lw_cmp (ref := fun R => G_180 _ R) (lw_I2 (s := s) (a8 _))
    exact ⟨s', h1, h2, fun H => h3 (fun S => H (nI (i + 4)) S) (fun S => some (.inl (some (.int 0)), S))⟩
  simp only [if_neg z8]
  exact ⟨s, h9 hs, Nat.le_succ _, fun H => rfl⟩
theorem lw_end {L i : Nat} (hL : L ≤ 2048) (hi : i ≤ L + 4) (h : L < i + 4) : Int32.ofNat L - 4 < nI i := by
  have h0 : (0 : Int32) ≤ nI i := nI_le (Nat.zero_le i) (by omega)
  match L, hL, hi, h with
  | 0, _, _, _ => exact Int32.lt_of_lt_of_le (by decide) h0
  | 1, _, _, _ => exact Int32.lt_of_lt_of_le (by decide) h0
  | 2, _, _, _ => exact Int32.lt_of_lt_of_le (by decide) h0
  | 3, _, _, _ => exact Int32.lt_of_lt_of_le (by decide) h0
  | k + 4, hL, hi, h =>
    have h1 : Int32.ofNat (k + 4) - 4 = nI k := by
      rw [show Int32.ofNat (k + 4) = nI k + 4 from (nI_addL k 4).symm, Int32.add_sub_cancel]
    rw [h1]
    exact nI_lt (by omega) (by omega)
theorem lw_loop {Rk : Nat → amS → amS → Prop} (hA : aAll Rk) (h9 : ∀ k S R, Rk k S R → Rk (k + 1) S R) {L : Nat} {xs : Nat → Int32} (hL : L ≤ 2048) : ∀ (m k : Nat) (s : lawS), L - 4 * k ≤ m → 4 * k ≤ L + 4 → Rk k s.1 s.2.1 → s.2.2.2 ≤ k → ∃ T, G_188_23 (L, xs) (nI (4 * k)) s = some (.inl (some (.int 1)), T) ∧ T.2.2.2 ≤ 600000 := by
  intro m
  induction m with
  | zero =>
    intro k s h1 h2 hs he
    refine ⟨s, ?_, by omega⟩
    rw [G_188_23_eq]
    unfold B_188_23
    rw [if_pos]
    exact lw_end hL (by omega) (by omega)
  | succ m ih =>
    intro k s h1 h2 hs he
    rw [G_188_23_eq]
    by_cases hi : 4 * k + 4 ≤ L
    · obtain ⟨s', g1, g2, g3⟩ := lw_step (k := k) (by omega) hA (xs := xs) hL hi hs (h9 k _ _)
      rw [g3]
      exact ih (k + 1) s' (by omega) (by omega) g1 (by omega)
    · refine ⟨s, ?_, by omega⟩
      unfold B_188_23
      rw [if_pos]
      exact lw_end hL (by omega) (by omega)
theorem am_goal_all {Rk : Nat → amS → amS → Prop} (h0 : Rk 0 iS iR) (h9 : ∀ k S R, Rk k S R → Rk (k + 1) S R) (hA : aAll Rk) : am_Goal := am_goal_of (fun L xs hL => lw_loop hA h9 hL L 0 iL (by omega) (by omega) h0 (Nat.le_refl 0))
