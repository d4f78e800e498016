/-! the reference while it reads -/
/-- kinds that markEnds goes into; what it finds there -/
abbrev lkK (k : Int32) : Prop := k = 3 ∨ k = 4 ∨ k = 5 ∨ k = 6 ∨ k = 8
def coK (k ch : Int32) : Prop := ch ≠ 0 ∧ (k = 4 → ch ≠ 1)
def GV (nn dl : Nat) (k f l x4 ch o : Nat → Int32) : Prop := (∀ m, m < nn → ch m ≠ 0 → ∃ x, x < nn ∧ l m = nI x) ∧ (∀ m, m < nn → ch m = 1 → f m = l m) ∧ (∀ m, m < nn → k m = 4 → ch m ≠ 0 → ch m ≠ 1 → ∃ x0 x1, x0 < nn ∧ x1 < nn ∧ f m = nI x0 ∧ x4 x0 = nI x1) ∧ (∀ m, m < nn → lkK (k m) → coK (k m) (ch m) ∨ ∃ d, d ≤ dl ∧ o d = nI m)
/-- no node has two parents, and children come behind their parents; lists that are closed are complete -/
def GI (nn dl : Nat) (k f l x4 ch e o : Nat → Int32) : Prop := (∀ m x, m < nn → x < 256 → ch m ≠ 0 → (f m = nI x ∨ l m = nI x) → m < x ∧ x < nn) ∧ (∀ y x, y < nn → x < 256 → x4 y = nI x → y < x ∧ x < nn) ∧ (∃ par : Nat → Nat, (∀ m x, m < nn → x < 256 → ch m ≠ 0 → (f m = nI x ∨ l m = nI x) → par x = m) ∧ (∀ y x, y < nn → x < 256 → x4 y = nI x → par x = par y)) ∧ (∀ m, m < nn → e m = 0) ∧ GV nn dl k f l x4 ch o
/-- node c is hung nowhere -/
def UH (nn c : Nat) (f l x4 ch : Nat → Int32) : Prop := (∀ m, m < nn → ch m ≠ 0 → ¬ (f m = nI c ∨ l m = nI c)) ∧ (∀ y, y < nn → x4 y ≠ nI c)
theorem neg_nI (x : Nat) (hx : x < 256) : (-1 : Int32) ≠ nI x := fun h9 => by
  have h3 : (-1 : Int32).toInt = (nI x).toInt := by rw [h9]
  rw [nI_toInt (by omega)] at h3
  have h4 : (-1 : Int32).toInt = -1 := by decide
  omega
def MR (N : Nat) (tx : Nat → Nat) (b nn nb dl : Nat) (sc : List scE) (R : amS) : Prop :=
  txM R N tx ∧ (R.1 34 4 = nI b ∧ b ≤ N) ∧ R.1 34 5 = 0 ∧ ((R.1 34 7 = nI nn ∧ R.1 34 6 = -1) ∧ GI nn dl (R.1 36) (R.1 39) (R.1 40) (R.1 41) (R.1 42) (R.1 45) (R.1 47)) ∧ R.1 34 19 = nI nb ∧ R.1 34 23 = nI dl ∧ R.1 34 26 = nI sc.length ∧ scM (R.1 50) (R.1 51) sc
def failS (R : amS) (p : Int32) : amS := sI (sI R 34 5 1) 34 6 p
/-- the reference has refused at p -/
def bad (R0 R : amS) (p : Int32) : Prop := R.1 34 5 = 1 ∧ R.1 34 6 = p ∧ pfM R0 R
section MREL
variable {N : Nat} {tx : Nat → Nat} {b nn nb dl : Nat} {sc : List scE} {R R0 : amS}
theorem fail_m (h : R.1 34 5 = 0) (p : Int32) : g_131 p R = some (.inl none, failS R p) := by
  unfold g_131
  rw [if_pos h]
  rfl
theorem fail_m2 (h : R.1 34 5 = 1) (p : Int32) : g_131 p R = some (.inl none, R) := by
  unfold g_131
  rw [if_neg (by rw [h]; decide)]
theorem bad_fail (hp : pfM R0 R) (p : Int32) : bad R0 (failS R p) p :=
  ⟨(sI_nk _ (by decide)).trans (sI_eq _ _ _ _), sI_eq _ _ _ _, pfM_w (pfM_w hp (by decide) (fun _ => by unfold pfk; omega) _) (by decide) (fun _ => by unfold pfk; omega) _⟩
theorem bad_w {p : Int32} (hb : bad R0 R p) {a k : Nat} (ha : a < 52 ∨ 65 < a) (hk : a = 34 → pfk k ∧ k ≠ 5 ∧ k ≠ 6) (x : Int32) : bad R0 (sI R a k x) p :=
  ⟨by rw [sI_get, if_neg (fun h => (hk h.1.symm).2.1 h.2.symm)]; exact hb.1, by rw [sI_get, if_neg (fun h => (hk h.1.symm).2.2 h.2.symm)]; exact hb.2.1, pfM_w hb.2.2 ha (fun h => (hk h).1) _⟩
theorem loop_bad {p : Int32} (hb : bad R0 R p) (l : Int32) : G_152_58 l R = some (.inl none, R) := by
  rw [G_152_58_eq]
  unfold B_152_58
  by_cases h : l = 0
  · rw [if_pos h]
  · rw [if_neg h, if_neg (by rw [hb.1]; decide)]
theorem see_r (h : MR N tx b nn nb dl sc R) : G_132 R = some (.inl (some (.int (tb N tx (sk N tx b)))), sI R 34 4 (nI (sk N tx b))) := see_m (N - b) R b h.1 h.2.1.1 (by have := h.1.1; have := h.2.1.2; omega) (Nat.le_refl _)
theorem MR_at (h : MR N tx b nn nb dl sc R) {b' : Nat} (hb : b' ≤ N) : MR N tx b' nn nb dl sc (sI R 34 4 (nI b')) := by
  obtain ⟨h1, h2, h3, h4, h5, h6, h7, h8⟩ := h
  exact ⟨txM_at h1 4 (by decide) _, ⟨sI_eq _ _ _ _, hb⟩, h3, h4, h5, h6, h7, h8⟩
theorem MR_sk (h : MR N tx b nn nb dl sc R) : MR N tx (sk N tx b) nn nb dl sc (sI R 34 4 (nI (sk N tx b))) := MR_at h (sk_le h.2.1.2)
theorem MR_wr (h : MR N tx b nn nb dl sc R) {p e : Nat} (he : e ≤ N) : MR N tx e nn nb dl sc (wrM R p e) := by
  obtain ⟨h1, h2, h3, h4, h5, h6, h7, h8⟩ := h
  exact ⟨wrM_tx h1 p e, ⟨sI_eq R 34 4 (nI e), he⟩, h3, h4, h5, h6, h7, h8⟩
theorem word_r (h : MR N tx b nn nb dl sc R) : G_134 R = some (.inl none, wrM R (sk N tx b) (we N tx (sk N tx b))) := word_m h.1 h.2.1.1 (by have := h.1.1; have := h.2.1.2; omega)
theorem fM_at (x : Int32) (n l nn nb dl : Nat) (P : List (Nat × Nat)) : fM n l nn nb dl P R (sI R 34 4 x) := fM_refl n l nn nb dl P R
theorem fM_wr (p e : Nat) (n l nn nb dl : Nat) (P : List (Nat × Nat)) : fM n l nn nb dl P R (wrM R p e) := fM_refl n l nn nb dl P R
theorem pfM_at (hp : pfM R0 R) (x : Int32) : pfM R0 (sI R 34 4 x) := pfM_w hp (by decide) (fun _ => by unfold pfk; omega) _
theorem pfM_wr (hp : pfM R0 R) (p e : Nat) : pfM R0 (wrM R p e) := pfM_w (pfM_w (pfM_at hp _) (by decide) (fun _ => by unfold pfk; omega) _) (by decide) (fun _ => by unfold pfk; omega) _
/-- a sign that is there -/
theorem sign_y (h : MR N tx b nn nb dl sc R) {c : Int32} (hc : tb N tx (sk N tx b) = c) (hn : c ≠ -1) : G_133 c R = some (.inl none, sI R 34 4 (nI (sk N tx b + 1))) ∧ sk N tx b + 1 ≤ N := by
  have hN : sk N tx b < N := by
    rcases Nat.lt_or_ge (sk N tx b) N with h9 | h9
    · exact h9
    · exact absurd ((if_neg (by omega) : tb N tx (sk N tx b) = -1).symm.trans hc) (fun h8 => hn h8.symm)
  refine ⟨?_, hN⟩
  unfold G_133
  rw [see_r h, bI_i, if_pos hc]
  simp only [G_133_16, az_st]
  rw [sI_eq, nI_1, sI_sI]
/-- a sign that is not there -/
theorem sign_n (h : MR N tx b nn nb dl sc R) (hp : pfM R0 R) {c : Int32} (hc : tb N tx (sk N tx b) ≠ c) : ∃ R', G_133 c R = some (.inl none, R') ∧ bad R0 R' (nI (sk N tx b)) ∧ R'.1 34 23 = R.1 34 23 ∧ (∀ x, x ≠ 34 → R'.1 x = R.1 x) ∧ R'.1 34 26 = R.1 34 26 := by
  have e5 : (sI R 34 4 (nI (sk N tx b))).1 34 5 = 0 := h.2.2.1
  refine ⟨_, ?_, bad_w (bad_fail (pfM_at hp (nI (sk N tx b))) (nI (sk N tx b))) (a := 34) (k := 4) (by decide) (fun _ => ⟨Or.inl rfl, by decide, by decide⟩) ((failS (sI R 34 4 (nI (sk N tx b))) (nI (sk N tx b))).1 34 4 + 1), rfl, fun x hx => (by unfold failS; rw [sI_row, if_neg hx, sI_row, if_neg hx, sI_row, if_neg hx, sI_row, if_neg hx]), rfl⟩
  unfold G_133
  rw [see_r h, bI_i, if_neg hc, sI_eq, fail_m e5, bV_v]
  rfl
def ndF (R : amS) (n : Nat) (k p v fi la cc vc : Int32) : Prop := R.1 36 n = k ∧ R.1 37 n = p ∧ R.1 38 n = v ∧ R.1 39 n = fi ∧ R.1 40 n = la ∧ R.1 42 n = cc ∧ R.1 44 n = vc
def ndS (R : amS) (nn : Nat) (k p v : Int32) : amS := sI (sI (sI (sI (sI (sI (sI (sI (sI (sI R 36 nn k) 37 nn p) 38 nn v) 39 nn (-1)) 40 nn (-1)) 41 nn (-1)) 42 nn 0) 44 nn 0) 45 nn 0) 34 7 (nI (nn + 1))
theorem node_m (h : R.1 34 7 = nI nn) (hn : nn < 256) (k p v : Int32) : g_137 k p v R = some (.inl (some (.int (nI nn))), ndS R nn k p v) := by
  simp only [g_137, az_st]
  have c : ∀ (X : Option (amO × amS)), az_ck (nI nn) 256 X = X := fun X => az_ck_in hn (by decide) X
  have e0 : R.1 34 7 = nI nn := h
  have e1 : ∀ (A : amS), A.1 34 7 = nI nn → ∀ (a : Nat) (x : Int32), a ≠ 34 → (sI A a nn x).1 34 7 = nI nn := fun A hA a x ha => by rw [sI_na _ (fun h => ha h.symm)]; exact hA
  have q := nI_clamp (n := nn) (by omega)
  have f1 := e1 R h 36 k (by decide)
  have f2 := e1 _ f1 37 p (by decide)
  have f3 := e1 _ f2 38 v (by decide)
  have f4 := e1 _ f3 39 (-1) (by decide)
  have f5 := e1 _ f4 40 (-1) (by decide)
  have f6 := e1 _ f5 41 (-1) (by decide)
  have f7 := e1 _ f6 42 0 (by decide)
  have f8 := e1 _ f7 44 0 (by decide)
  have f9 := e1 _ f8 45 0 (by decide)
  rw [e0, c, q, f1, c, q, f2, c, q, f3, c, q, f4, c, q, f5, c, q, f6, c, q, f7, c, q, f8, c, q]
  show some (_, _) = _
  rw [show vp_nar .boolean 0 = (0 : Int32) from rfl, f9, sI_eq, nI_1, show (1 : Int32) = nI 1 from rfl, pk_sub (by omega), Nat.add_sub_cancel]
  rfl
theorem ndS_F (k p v : Int32) : ndF (ndS R nn k p v) nn k p v (-1) (-1) 0 0 ∧ (ndS R nn k p v).1 41 nn = -1 := by
  unfold ndS
  refine ⟨⟨?_, ?_, ?_, ?_, ?_, ?_, ?_⟩, ?_⟩ <;> simp [sI_get]
theorem nd_rows (k p v : Int32) (m : Nat) (hm : m ≠ nn) : (ndS R nn k p v).1 36 m = R.1 36 m ∧ (ndS R nn k p v).1 39 m = R.1 39 m ∧ (ndS R nn k p v).1 40 m = R.1 40 m ∧ (ndS R nn k p v).1 41 m = R.1 41 m ∧ (ndS R nn k p v).1 42 m = R.1 42 m := by
  unfold ndS
  refine ⟨?_, ?_, ?_, ?_, ?_⟩ <;> simp [sI_get, hm]
theorem GI_nd {dl' : Nat} {o' : Nat → Int32} (h : GI nn dl (R.1 36) (R.1 39) (R.1 40) (R.1 41) (R.1 42) (R.1 45) (R.1 47)) (k p v : Int32) (ho : ∀ d, d ≤ dl → o' d = R.1 47 d) (hd : dl ≤ dl') (hk : lkK k → ∃ d, d ≤ dl' ∧ o' d = nI nn) : GI (nn + 1) dl' ((ndS R nn k p v).1 36) ((ndS R nn k p v).1 39) ((ndS R nn k p v).1 40) ((ndS R nn k p v).1 41) ((ndS R nn k p v).1 42) ((ndS R nn k p v).1 45) o' := by
  have hF := ndS_F (R := R) (nn := nn) k p v
  obtain ⟨h1, h2, ⟨par, h3, h4⟩, h5, v1, v2, v3, v4⟩ := id h
  have o1 : ∀ m x, m < nn + 1 → (ndS R nn k p v).1 42 m ≠ 0 → ((ndS R nn k p v).1 39 m = nI x ∨ (ndS R nn k p v).1 40 m = nI x) → m < nn ∧ R.1 42 m ≠ 0 ∧ (R.1 39 m = nI x ∨ R.1 40 m = nI x) := by
    intro m x hm hc hs
    by_cases hmn : m = nn
    · subst hmn; exact absurd hF.1.2.2.2.2.2.1 hc
    · obtain ⟨r1, r2, r3, r4, r5⟩ := nd_rows (R := R) k p v m hmn
      rw [r5] at hc
      rw [r2, r3] at hs
      exact ⟨by omega, hc, hs⟩
  have o2 : ∀ y x, y < nn + 1 → x < 256 → (ndS R nn k p v).1 41 y = nI x → y < nn ∧ R.1 41 y = nI x := by
    intro y x hy hx hs
    by_cases hyn : y = nn
    · subst hyn
      rw [hF.2] at hs
      exact absurd hs (neg_nI x hx)
    · rw [(nd_rows (R := R) k p v y hyn).2.2.2.1] at hs
      exact ⟨by omega, hs⟩
  refine ⟨fun m x hm hx hc hs => ?_, fun y x hy hx hs => ?_, ⟨par, fun m x hm hx hc hs => ?_, fun y x hy hx hs => ?_⟩, fun m hm => ?_, fun m hm hc => ?_, fun m hm hc => ?_, fun m hm hkm hc hc1 => ?_, fun m hm hkm => ?_⟩
  · obtain ⟨q1, q2, q3⟩ := o1 m x hm hc hs
    have := h1 m x q1 hx q2 q3
    exact ⟨this.1, by omega⟩
  · obtain ⟨q1, q2⟩ := o2 y x hy hx hs
    have := h2 y x q1 hx q2
    exact ⟨this.1, by omega⟩
  · obtain ⟨q1, q2, q3⟩ := o1 m x hm hc hs
    exact h3 m x q1 hx q2 q3
  · obtain ⟨q1, q2⟩ := o2 y x hy hx hs
    exact h4 y x q1 hx q2
  · by_cases hmn : m = nn
    · subst hmn
      unfold ndS
      simp [sI_get]
    · have h9 := h5 m (by omega)
      unfold ndS
      simp [sI_get, hmn, h9]
  · by_cases hmn : m = nn
    · subst hmn; exact absurd hF.1.2.2.2.2.2.1 hc
    · obtain ⟨r1, r2, r3, r4, r5⟩ := nd_rows (R := R) k p v m hmn
      rw [r5] at hc
      obtain ⟨x, q1, q2⟩ := v1 m (by omega) hc
      exact ⟨x, by omega, r3.trans q2⟩
  · by_cases hmn : m = nn
    · subst hmn
      rw [hF.1.2.2.2.2.2.1] at hc
      exact absurd hc (by decide)
    · obtain ⟨r1, r2, r3, r4, r5⟩ := nd_rows (R := R) k p v m hmn
      rw [r5] at hc
      rw [r2, r3]
      exact v2 m (by omega) hc
  · by_cases hmn : m = nn
    · subst hmn; exact absurd hF.1.2.2.2.2.2.1 hc
    · obtain ⟨r1, r2, r3, r4, r5⟩ := nd_rows (R := R) k p v m hmn
      rw [r5] at hc hc1
      rw [r1] at hkm
      obtain ⟨x0, x1, q1, q2, q3, q4⟩ := v3 m (by omega) hkm hc hc1
      exact ⟨x0, x1, by omega, by omega, r2.trans q3, (nd_rows (R := R) k p v x0 (by omega)).2.2.2.1.trans q4⟩
  · by_cases hmn : m = nn
    · subst hmn
      rw [hF.1.1] at hkm
      exact Or.inr (hk hkm)
    · obtain ⟨r1, r2, r3, r4, r5⟩ := nd_rows (R := R) k p v m hmn
      rw [r1] at hkm
      rw [r1, r5]
      rcases v4 m (by omega) hkm with h9 | ⟨d, d1, d2⟩
      · exact Or.inl h9
      · exact Or.inr ⟨d, by omega, (ho d d1).trans d2⟩
theorem MR_nd (h : MR N tx b nn nb dl sc R) (k p v : Int32) (hk : ¬ lkK k) : MR N tx b (nn + 1) nb dl sc (ndS R nn k p v) := by
  obtain ⟨h1, h2, h3, h4, h5, h6, h7, h8⟩ := h
  exact ⟨h1, h2, h3, ⟨⟨sI_eq _ _ _ _, h4.1.2⟩, GI_nd h4.2 k p v (fun _ _ => rfl) (Nat.le_refl _) (fun h9 => absurd h9 hk)⟩, h5, h6, h7, h8⟩
theorem fM_nd (k p v : Int32) (n l nb dl : Nat) (P : List (Nat × Nat)) : fM n l nn nb dl P R (ndS R nn k p v) := by
  refine ⟨fun m hm _ => ⟨?_, ?_, ?_, ?_, ?_, ?_, ?_, fun j _ => rfl⟩, fun m hm _ => ?_, fun _ _ => ⟨rfl, rfl, rfl⟩, fun _ _ => rfl, fun _ _ _ => rfl, fun _ _ _ _ => rfl⟩ <;>
  · unfold ndS
    simp [sI_get, show m ≠ nn by omega]
theorem pfM_nd (hp : pfM R0 R) (k p v : Int32) : pfM R0 (ndS R nn k p v) := by
  unfold ndS
  refine pfM_w (pfM_w (pfM_w (pfM_w (pfM_w (pfM_w (pfM_w (pfM_w (pfM_w (pfM_w hp ?_ ?_ _) ?_ ?_ _) ?_ ?_ _) ?_ ?_ _) ?_ ?_ _) ?_ ?_ _) ?_ ?_ _) ?_ ?_ _) ?_ ?_ _) ?_ ?_ _ <;> first | exact Or.inl (by decide) | exact fun h => absurd h (by decide) | exact fun _ => by unfold pfk; omega
theorem hang_m {n c l cc : Nat} {k p v fi la vc : Int32} (hf : ndF R n k p v fi la (nI cc) vc) (hn : n < 256) (hcc : cc < 1000) (hl : cc ≠ 0 → la = nI l ∧ l < 256) :
    ∃ R', g_138 (nI n) (nI c) R = some (.inl none, R') ∧ ndF R' n k p v (if cc = 0 then nI c else fi) (nI c) (nI (cc + 1)) vc ∧ (cc ≠ 0 → R'.1 41 l = nI c) ∧ (∀ m, (cc = 0 ∨ m ≠ l) → R'.1 41 m = R.1 41 m) ∧ (∀ m, m ≠ n → R'.1 39 m = R.1 39 m ∧ R'.1 40 m = R.1 40 m ∧ R'.1 42 m = R.1 42 m) ∧ (∀ a, a ≠ 39 → a ≠ 40 → a ≠ 41 → a ≠ 42 → R'.1 a = R.1 a) ∧ R'.2 = R.2 := by
  obtain ⟨f1, f2, f3, f4, f5, f6, f7⟩ := hf
  have q := nI_clamp (n := n) (by omega)
  by_cases h0 : cc = 0
  · subst h0
    refine ⟨sI (sI (sI R 39 n (nI c)) 40 n (nI c)) 42 n (nI 1), ?_, ⟨?_, ?_, ?_, ?_, ?_, ?_, ?_⟩, fun h => absurd rfl h, fun m _ => rfl, fun m hm => ⟨?_, ?_, ?_⟩, fun a a1 a2 a3 a4 => ?_, rfl⟩
    · unfold g_138
      rw [az_ck_in hn (by decide), q, f6, if_pos (show nI 0 = 0 from rfl), az_ck_in hn (by decide)]
      simp only [az_st, g_138_31]
      rw [az_ck_in hn (by decide), q, az_ck_in hn (by decide), az_ck_in hn (by decide)]
      have e : (sI (sI R 39 n (nI c)) 40 n (nI c)).1 42 n = 0 := f6
      rw [e]
      rfl
    · exact f1
    · exact f2
    · exact f3
    · rw [if_pos rfl]
      exact sI_eq R 39 n (nI c)
    · exact sI_eq _ 40 n (nI c)
    · exact sI_eq _ _ _ _
    · exact f7
    · rw [sI_na _ (by decide), sI_na _ (by decide), sI_nk _ hm]
    · rw [sI_na _ (by decide), sI_nk _ hm, sI_na _ (by decide)]
    · rw [sI_nk _ hm, sI_na _ (by decide), sI_na _ (by decide)]
    · rw [sI_row, if_neg a4, sI_row, if_neg a2, sI_row, if_neg a1]
  · obtain ⟨l1, l2⟩ := hl h0
    refine ⟨sI (sI (sI R 41 l (nI c)) 40 n (nI c)) 42 n (nI (cc + 1)), ?_, ⟨?_, ?_, ?_, ?_, ?_, ?_, ?_⟩, fun _ => ?_, fun m hm => ?_, fun m hm => ⟨?_, ?_, ?_⟩, fun a a1 a2 a3 a4 => ?_, rfl⟩
    · unfold g_138
      rw [az_ck_in hn (by decide), q, f6, if_neg (nI_ne0 (by omega) (by omega)), az_ck_in hn (by decide)]
      simp only [az_st, g_138_31]
      rw [f5, l1, az_ck_in l2 (by decide), nI_clamp (by omega), az_ck_in hn (by decide), az_ck_in hn (by decide), az_ck_in hn (by decide)]
      have e : (sI (sI R 41 l (nI c)) 40 n (nI c)).1 42 n = nI cc := f6
      rw [q, e, nI_1]
    · exact f1
    · exact f2
    · exact f3
    · rw [if_neg h0]
      exact f4
    · exact sI_eq _ 40 n (nI c)
    · exact sI_eq _ _ _ _
    · exact f7
    · exact sI_eq R 41 l (nI c)
    · rw [sI_na _ (by decide), sI_na _ (by decide), sI_nk _ (by omega)]
    · rw [sI_na _ (by decide), sI_na _ (by decide), sI_na _ (by decide)]
    · rw [sI_na _ (by decide), sI_nk _ hm, sI_na _ (by decide)]
    · rw [sI_nk _ hm, sI_na _ (by decide), sI_na _ (by decide)]
    · rw [sI_row, if_neg a4, sI_row, if_neg a2, sI_row, if_neg a3]
/-- a node is hung: no node gets a second parent -/
theorem MR_hang {n c l cc : Nat} {k p v fi la vc : Int32} {R' : amS} (h : MR N tx b nn nb dl sc R) (hf : ndF R n k p v fi la (nI cc) vc) (hcc : cc < 1000) (hl : cc ≠ 0 → la = nI l ∧ l < c) (hn : n < c) (hc : c < nn) (hnn : nn ≤ 256) (hopen : ∃ d, d ≤ dl ∧ R.1 47 d = nI n) (h41 : R.1 41 c = -1) (hu : UH nn c (R.1 39) (R.1 40) (R.1 41) (R.1 42))
    (w2 : ndF R' n k p v (if cc = 0 then nI c else fi) (nI c) (nI (cc + 1)) vc) (w3 : cc ≠ 0 → R'.1 41 l = nI c) (w4 : ∀ m, (cc = 0 ∨ m ≠ l) → R'.1 41 m = R.1 41 m) (w5 : ∀ m, m ≠ n → R'.1 39 m = R.1 39 m ∧ R'.1 40 m = R.1 40 m ∧ R'.1 42 m = R.1 42 m) (w6 : ∀ a, a ≠ 39 → a ≠ 40 → a ≠ 41 → a ≠ 42 → R'.1 a = R.1 a) : MR N tx b nn nb dl sc R' := by
  obtain ⟨h1, h2, h3, ⟨h4, g1, g2, ⟨par, g3, g4⟩, g5, v1', v2', v3', v4'⟩, h5, h6, h7, h8⟩ := h
  obtain ⟨f1, f2, f3, f4, f5, f6, f7⟩ := hf
  obtain ⟨v1, v2, v3, v4, v5, v6, v7⟩ := w2
  have e34 := w6 34 (by decide) (by decide) (by decide) (by decide)
  have e36 := w6 36 (by decide) (by decide) (by decide) (by decide)
  have hnn2 : n < nn := by omega
  -- children, old and new
  have o1 : ∀ m x, m < nn → x < 256 → R'.1 42 m ≠ 0 → (R'.1 39 m = nI x ∨ R'.1 40 m = nI x) → (m = n ∧ x = c) ∨ (R.1 42 m ≠ 0 ∧ (R.1 39 m = nI x ∨ R.1 40 m = nI x)) := by
    intro m x hm hx hch hs
    by_cases hmn : m = n
    · subst hmn
      rcases hs with hs | hs
      · by_cases h0 : cc = 0
        · rw [v4, if_pos h0] at hs
          exact Or.inl ⟨rfl, ((nI_eq (by omega) (by omega)).mp hs).symm⟩
        · rw [v4, if_neg h0] at hs
          exact Or.inr ⟨by rw [f6]; exact nI_ne0 (by omega) (by omega), Or.inl (f4.trans hs)⟩
      · rw [v5] at hs
        exact Or.inl ⟨rfl, ((nI_eq (by omega) (by omega)).mp hs).symm⟩
    · obtain ⟨r1, r2, r3⟩ := w5 m hmn
      rw [r3] at hch
      rw [r1, r2] at hs
      exact Or.inr ⟨hch, hs⟩
  have o2 : ∀ y x, y < nn → x < 256 → R'.1 41 y = nI x → (cc ≠ 0 ∧ y = l ∧ x = c) ∨ R.1 41 y = nI x := by
    intro y x hy hx hs
    by_cases hyl : cc ≠ 0 ∧ y = l
    · obtain ⟨h0, rfl⟩ := hyl
      rw [w3 h0] at hs
      exact Or.inl ⟨h0, rfl, ((nI_eq (by omega) (by omega)).mp hs).symm⟩
    · rw [w4 y (by omega)] at hs
      exact Or.inr hs
  refine ⟨⟨h1.1, by rw [e34]; exact h1.2.1, fun i hi => by rw [w6 35 (by decide) (by decide) (by decide) (by decide)]; exact h1.2.2 i hi⟩, by rw [e34]; exact h2, by rw [e34]; exact h3, ⟨by rw [e34]; exact h4, fun m x hm hx hch hs => ?_, fun y x hy hx hs => ?_, ⟨fun x => if x = c then n else par x, fun m x hm hx hch hs => ?_, fun y x hy hx hs => ?_⟩, by rw [w6 45 (by decide) (by decide) (by decide) (by decide)]; exact g5, fun m hm hch => ?_, fun m hm hch => ?_, fun m hm hkm hch hch1 => ?_, fun m hm hkm => ?_⟩, by rw [e34]; exact h5, by rw [e34]; exact h6, by rw [e34]; exact h7, by rw [w6 50 (by decide) (by decide) (by decide) (by decide), w6 51 (by decide) (by decide) (by decide) (by decide)]; exact h8⟩
  · rcases o1 m x hm hx hch hs with ⟨rfl, rfl⟩ | ⟨q1, q2⟩
    · exact ⟨hn, hc⟩
    · exact g1 m x hm hx q1 q2
  · rcases o2 y x hy hx hs with ⟨h0, rfl, rfl⟩ | q
    · exact ⟨(hl h0).2, hc⟩
    · exact g2 y x hy hx q
  · show (if x = c then n else par x) = m
    rcases o1 m x hm hx hch hs with ⟨q1, q2⟩ | ⟨q1, q2⟩
    · rw [if_pos q2, q1]
    · have hxc : x ≠ c := fun h9 => hu.1 m hm q1 (h9 ▸ q2)
      rw [if_neg hxc]
      exact g3 m x hm hx q1 q2
  · show (if x = c then n else par x) = (if y = c then n else par y)
    rcases o2 y x hy hx hs with ⟨h0, q1, q2⟩ | q
    · obtain ⟨l1, l2⟩ := hl h0
      rw [if_pos q2, if_neg (by omega), q1]
      exact (g3 n l hnn2 (by omega) (by rw [f6]; exact nI_ne0 (by omega) (by omega)) (Or.inr (f5.trans l1))).symm
    · have hxc : x ≠ c := fun h9 => hu.2 y hy (h9 ▸ q)
      have hyc : y ≠ c := fun h9 => by
        rw [h9, h41] at q
        exact neg_nI x hx q
      rw [if_neg hxc, if_neg hyc]
      exact g4 y x hy hx q
  · by_cases hmn : m = n
    · subst hmn; exact ⟨c, hc, v5⟩
    · obtain ⟨r1, r2, r3⟩ := w5 m hmn
      rw [r3] at hch
      obtain ⟨x, q1, q2⟩ := v1' m hm hch
      exact ⟨x, q1, r2.trans q2⟩
  · by_cases hmn : m = n
    · subst hmn
      by_cases h0 : cc = 0
      · rw [v4, v5, if_pos h0]
      · rw [v6] at hch
        have := (nI_eq (by omega) (by decide)).mp (show nI (cc + 1) = nI 1 from hch)
        omega
    · obtain ⟨r1, r2, r3⟩ := w5 m hmn
      rw [r3] at hch
      rw [r1, r2]
      exact v2' m hm hch
  · rw [e36] at hkm
    by_cases hmn : m = n
    · subst hmn
      have h0 : cc ≠ 0 := fun h0 => hch1 (by rw [v6, h0]; rfl)
      obtain ⟨l1, l2⟩ := hl h0
      rw [v4, if_neg h0]
      have c0 : R.1 42 m ≠ 0 := by rw [f6]; exact nI_ne0 (by omega) (by omega)
      by_cases h1c : cc = 1
      · have := v2' m hm (by rw [f6, h1c]; rfl)
        rw [f4, f5] at this
        obtain ⟨x, q1, q2⟩ := v1' m hm c0
        rw [f5, l1] at q2
        have : l = x := (nI_eq (by omega) (by omega)).mp q2
        subst this
        exact ⟨l, c, q1, hc, by rw [‹fi = la›, l1], w3 h0⟩
      · obtain ⟨x0, x1, q1, q2, q3, q4⟩ := v3' m hm hkm c0 (by rw [f6]; exact fun h9 => h1c ((nI_eq (by omega) (by decide)).mp (show nI cc = nI 1 from h9)))
        rw [f4] at q3
        by_cases hx0 : x0 = l
        · subst hx0
          exact ⟨x0, c, q1, hc, q3, w3 h0⟩
        · exact ⟨x0, x1, q1, q2, q3, (w4 x0 (Or.inr hx0)).trans q4⟩
    · obtain ⟨r1, r2, r3⟩ := w5 m hmn
      rw [r3] at hch hch1
      obtain ⟨x0, x1, q1, q2, q3, q4⟩ := v3' m hm hkm hch hch1
      rw [r1]
      by_cases hx0 : cc ≠ 0 ∧ x0 = l
      · obtain ⟨h0, rfl⟩ := hx0
        exact ⟨x0, c, q1, hc, q3, w3 h0⟩
      · exact ⟨x0, x1, q1, q2, q3, (w4 x0 (by omega)).trans q4⟩
  · rw [e36] at hkm
    rw [e36, w6 47 (by decide) (by decide) (by decide) (by decide)]
    by_cases hmn : m = n
    · subst hmn; exact Or.inr hopen
    · obtain ⟨r1, r2, r3⟩ := w5 m hmn
      rw [r3]
      exact v4' m hm hkm
/-- a node that was made after all others is hung nowhere -/
theorem uh_of {nn' nb' dl' d1 d2 : Nat} {P : List (Nat × Nat)} {R' : amS} (hg : GI nn d1 (R.1 36) (R.1 39) (R.1 40) (R.1 41) (R.1 42) (R.1 45) (R.1 47)) (hg' : GI nn' d2 (R'.1 36) (R'.1 39) (R'.1 40) (R'.1 41) (R'.1 42) (R'.1 45) (R'.1 47)) (hf : fM 1000 1000 nn nb' dl' P R R') (hnn : nn < 256) : UH nn' nn (R'.1 39) (R'.1 40) (R'.1 41) (R'.1 42) := by
  refine ⟨fun m hm hch hs => ?_, fun y hy hs => ?_⟩
  · have hmn := (hg'.1 m nn hm hnn hch hs).1
    obtain ⟨a1, -, -, a2, a3, a4, -⟩ := hf.1 m hmn (by omega)
    rw [a4] at hch
    rw [a2, a3] at hs
    have := (hg.1 m nn hmn hnn hch hs).2
    omega
  · have hyn := (hg'.2.1 y nn hy hnn hs).1
    rw [hf.2.1 y hyn (by omega)] at hs
    have := (hg.2.1 y nn hyn hnn hs).2
    omega
def puS (R : amS) (dl n ic : Nat) : amS := sI (sI (sI (sI R 34 23 (nI (dl + 1))) 47 (dl + 1) (nI n)) 48 (dl + 1) 0) 49 (dl + 1) (nI ic)
theorem push_m {ic : Nat} (h23 : R.1 34 23 = nI dl) (h26 : R.1 34 26 = nI ic) (hd : dl < 20) (n : Nat) : g_145 (nI n) R = some (.inl none, puS R dl n ic) := by
  simp only [g_145, az_st]
  have e0 := h23
  rw [e0, nI_1, sI_eq, az_ck_in (show dl + 1 < 24 by omega) (by decide), nI_clamp (by omega)]
  have e1 : (sI (sI R 34 23 (nI (dl + 1))) 47 (dl + 1) (nI n)).1 34 23 = nI (dl + 1) := sI_eq R 34 23 (nI (dl + 1))
  rw [e1, az_ck_in (show dl + 1 < 24 by omega) (by decide), nI_clamp (by omega)]
  have e2 : (sI (sI (sI R 34 23 (nI (dl + 1))) 47 (dl + 1) (nI n)) 48 (dl + 1) (vp_nar .boolean 0)).1 34 23 = nI (dl + 1) := sI_eq R 34 23 (nI (dl + 1))
  rw [e2, az_ck_in (show dl + 1 < 24 by omega) (by decide), nI_clamp (by omega)]
  have e3 : (sI (sI (sI R 34 23 (nI (dl + 1))) 47 (dl + 1) (nI n)) 48 (dl + 1) (vp_nar .boolean 0)).1 34 26 = nI ic := h26
  rw [e3]
  rfl
theorem MR_ndpu (h : MR N tx b nn nb dl sc R) (k p v : Int32) (ic : Nat) : MR N tx b (nn + 1) nb (dl + 1) sc (puS (ndS R nn k p v) dl nn ic) := by
  obtain ⟨h1, h2, h3, h4, h5, h6, h7, h8⟩ := h
  refine ⟨h1, h2, h3, ⟨⟨sI_eq (sI (sI (sI (sI (sI (sI (sI (sI (sI R 36 nn k) 37 nn p) 38 nn v) 39 nn (-1)) 40 nn (-1)) 41 nn (-1)) 42 nn 0) 44 nn 0) 45 nn 0) 34 7 (nI (nn + 1)), h4.1.2⟩, ?_⟩, h5, sI_eq (ndS R nn k p v) 34 23 (nI (dl + 1)), h7, h8⟩
  refine GI_nd (o' := (puS (ndS R nn k p v) dl nn ic).1 47) h4.2 k p v (fun d hd => ?_) (by omega) (fun _ => ⟨dl + 1, Nat.le_refl _, ?_⟩)
  · unfold puS
    rw [sI_na _ (by decide), sI_na _ (by decide), sI_nk _ (by omega)]
    rfl
  · unfold puS
    rw [sI_na _ (by decide), sI_na _ (by decide), sI_eq]
theorem fM_pu (n0 l nn nb n ic : Nat) (P : List (Nat × Nat)) : fM n0 l nn nb dl P R (puS R dl n ic) := by
  refine ⟨fun m hm _ => ⟨rfl, rfl, rfl, rfl, rfl, rfl, rfl, fun _ _ => rfl⟩, fun _ _ _ => rfl, fun i hi => ⟨?_, ?_, ?_⟩, fun _ _ => rfl, fun _ _ _ => rfl, fun _ _ _ _ => rfl⟩ <;>
  · unfold puS
    simp [sI_get, show i ≠ dl + 1 by omega]
theorem pfM_pu (hp : pfM R0 R) (n ic : Nat) : pfM R0 (puS R dl n ic) := by
  unfold puS
  refine pfM_w (pfM_w (pfM_w (pfM_w hp ?_ ?_ _) ?_ ?_ _) ?_ ?_ _) ?_ ?_ _ <;> first | exact Or.inl (by decide) | exact fun h => absurd h (by decide) | exact fun _ => by unfold pfk; omega
/-- what is open at depth d: node n, told or not, variables in force before -/
def opM (R : amS) (d n : Nat) (t : Int32) (mk : Nat) : Prop := R.1 47 d = nI n ∧ R.1 48 d = t ∧ R.1 49 d = nI mk
theorem opM_pu (n ic : Nat) : opM (puS R dl n ic) (dl + 1) n 0 ic := by
  unfold puS
  exact ⟨by simp [sI_get], by simp [sI_get], by simp [sI_get]⟩
end MREL
