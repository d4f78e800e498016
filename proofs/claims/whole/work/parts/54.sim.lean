/-! class and reference read alike: the relation, and what an expression leaves -/
def JP (P : List (Nat × Nat)) (nc nb : Nat) (sc : List scE) (S R : amS) : Prop := KJ P S R ∧ PI P ∧ (∀ x ∈ P, x.1 % 1000 < nc ∧ x.2 < nb) ∧ (∀ e ∈ sc, (e.2.1, e.2.2.1) ∈ P ∨ (1000 + e.2.1, e.2.2.1) ∈ P) ∧ sdS nc nb sc
def RL (S0 R0 : amS) (N : Nat) (tx : Nat → Nat) (a b sz nc pd fc h nn nb dl : Nat) (cx : cxT) (P : List (Nat × Nat)) (S R : amS) : Prop :=
  CR N tx a sz nc pd fc h cx S ∧ MR N tx b nn nb dl (scO cx) R ∧ sk N tx a = sk N tx b ∧ JP P nc nb (scO cx) S R ∧ pfC S0 S ∧ pfM R0 R
def BD (a sz nc pd fc nn nb dl : Nat) (cx : cxT) : Prop := sz ≤ 2 * a ∧ nc + pd ≤ a ∧ 9 * fc ≤ a ∧ nn ≤ a + 1 ∧ nb ≤ a ∧ cx.length ≤ dl + 1 ∧ 17 * (scO cx).length ≤ 4 * (a + dl)
def Fl (S0 R0 : amS) (q r : amQ) : Prop := ∃ S R p, q = some (.inr 0, S) ∧ r = some (.inl none, R) ∧ S.1 23 5 = p ∧ pfC S0 S ∧ bad R0 R p
def Sim (S0 R0 : amS) (q r : amQ) (Post : amS → amQ → Prop) : Prop := Fl S0 R0 q r ∨ ∃ S, q = some (.inl none, S) ∧ Post S r
noncomputable abbrev loopM (R : amS) : amQ := G_152_58 1 R
/-- counters only grow -/
def EP (S0 R0 : amS) (N : Nat) (tx : Nat → Nat) (a sz nc pd fc h nn nb dl : Nat) (cx : cxT) (P : List (Nat × Nat)) (S R : amS) (S' : amS) (r : amQ) : Prop :=
  ∃ a' sz' nc' fc' nn' nb' P' R' c, r = az_bV (G_150 (nI c) R') (fun R2 => G_152_58 1 R2) ∧ RL S0 R0 N tx a' a' sz' nc' pd fc' (h + 1) nn' nb' dl cx P' S' R' ∧ BD a' (sz' + 1) nc' pd fc' nn' nb' dl cx ∧ sk N tx a < a' ∧
  (sz < sz' ∧ nc ≤ nc' ∧ fc ≤ fc' ∧ nb ≤ nb' ∧ c = nn ∧ c < nn') ∧ fC sz nc pd fc cx S S' ∧ fM 1000 1000 nn nb dl P R R' ∧ PE P P' nc nb ∧ R'.1 41 c = -1 ∧
  Tr P' a' dl c nn' sz sz' fc fc' nc' h (fnO cx) (scO cx) S' R' ∧ (S'.1 2 sz = 5 ↔ R'.1 36 c = 3) ∧ R'.1 37 c = nI (sk N tx a)
/-- what is to be shown of expression(dl), with k more lists to go down -/
def EH (S0 R0 : amS) (N : Nat) (tx : Nat → Nat) (k dl : Nat) : Prop := ∀ a b sz nc pd fc h nn nb cx P S R n t mk, RL S0 R0 N tx a b sz nc pd fc h nn nb dl cx P S R → BD a sz nc pd fc nn nb dl cx → h ≤ 4 * dl → dl ≤ 20 → opM R dl n t mk → n < 256 → gate N tx b dl n t R →
  Sim S0 R0 (G_73 k (nI dl) S) (G_152_58 1 R) (EP S0 R0 N tx a sz nc pd fc h nn nb dl cx P S R)
section SIM
variable {S0 R0 : amS} {N : Nat} {tx : Nat → Nat} {a b sz nc pd fc h nn nb dl : Nat} {cx : cxT} {P : List (Nat × Nat)} {S R : amS}
theorem Fl_bV {q r : amQ} (hf : Fl S0 R0 q r) (k : amS → amQ) : Fl S0 R0 (az_bV q k) r := by
  obtain ⟨S, R, p, h1, h2, h3⟩ := hf
  exact ⟨S, R, p, by rw [h1, bV_x], h2, h3⟩
theorem Sim_bV {q r : amQ} {Post Post' : amS → amQ → Prop} {k : amS → amQ} (hs : Sim S0 R0 q r Post) (hk : ∀ S r, Post S r → Sim S0 R0 (k S) r Post') : Sim S0 R0 (az_bV q k) r Post' := by
  rcases hs with hf | ⟨S, h1, h2⟩
  · exact Or.inl (Fl_bV hf k)
  · rw [h1, bV_v]
    exact hk S r h2
theorem Sim_imp {q r : amQ} {Post Post' : amS → amQ → Prop} (hs : Sim S0 R0 q r Post) (hk : ∀ S r, Post S r → Post' S r) : Sim S0 R0 q r Post' := by
  rcases hs with hf | ⟨S, h1, h2⟩
  · exact Or.inl hf
  · exact Or.inr ⟨S, h1, hk S r h2⟩
theorem sdS_lt : ∀ {sc : List scE} {u v : Nat}, sdS u v sc → ∀ e ∈ sc, e.2.1 < u ∧ e.2.2.1 < v
  | [], _, _, _, e, he => by cases he
  | e0 :: sc, u, v, h, e, he => by
    rcases List.mem_cons.mp he with rfl | he
    · exact ⟨h.1, h.2.1⟩
    · have h1 := sdS_lt h.2.2 e he
      have := h.1; have := h.2.1
      exact ⟨by omega, by omega⟩
theorem sdS_le : ∀ {sc : List scE} {u v u' v' : Nat}, sdS u v sc → u ≤ u' → v ≤ v' → sdS u' v' sc
  | [], _, _, _, _, _, _, _ => trivial
  | _ :: _, _, _, _, _, h, h1, h2 => ⟨Nat.lt_of_lt_of_le h.1 h1, Nat.lt_of_lt_of_le h.2.1 h2, h.2.2⟩
theorem sdS_drop : ∀ {vs sc : List scE} {u v : Nat}, sdS u v (vs ++ sc) → sdS u v sc
  | [], _, _, _, h => h
  | _ :: _, _, _, _, h => sdS_le (sdS_drop h.2.2) (Nat.le_of_lt h.1) (Nat.le_of_lt h.2.1)
theorem Tr_mono {P P' : List (Nat × Nat)} {a a' dl c M p q f0 f1 nc nc' h fn : Nat} {sc : List scE} {S R : amS} (ht : Tr P a dl c M p q f0 f1 nc h fn sc S R) (hP : ∀ x ∈ P, x ∈ P') (ha : a ≤ a') (hn : nc ≤ nc') : Tr P' a' dl c M p q f0 f1 nc' h fn sc S R :=
  fun S2 R2 c2 m2 j2 l2 => ht S2 R2 (cK_le c2 (Nat.le_refl _) (Nat.le_refl _) (Nat.le_refl _) (Nat.le_refl _) hn) m2 (KJ_sub j2 hP) (by omega)
/-- rows that parsing leaves -/
theorem JP_rows {S' R' : amS} {sc : List scE} (h : JP P nc nb sc S R) (h9 : S'.1 9 = S.1 9) (h46 : R'.1 46 = R.1 46) : JP P nc nb sc S' R' := by
  refine ⟨fun x hx => ?_, h.2⟩
  rw [h9, h46]
  exact h.1 x hx
/-- the class refuses, and so does the reference -/
theorem Fl_mk {q r : amQ} {S R : amS} {p : Int32} (h1 : q = some (.inr 0, sI S 23 5 p)) (h2 : r = some (.inl none, R)) (h3 : pfC S0 S) (h4 : bad R0 R p) : Fl S0 R0 q r := ⟨_, R, p, h1, h2, sI_eq _ _ _ _, pfC_w h3 (by decide) (by omega) _, h4⟩
/-- what an expression that was read and hung leaves -/
def SP (S0 R0 : amS) (N : Nat) (tx : Nat → Nat) (a sz nc pd fc h nn nb dl : Nat) (cx : cxT) (P : List (Nat × Nat)) (S R : amS) (n l cc : Nat) (k p v fi vc : Int32) (S' : amS) (r : amQ) : Prop :=
  ∃ a' sz' nc' fc' nn' nb' P' R' c, r = G_152_58 1 R' ∧ RL S0 R0 N tx a' a' sz' nc' pd fc' (h + 1) nn' nb' dl cx P' S' R' ∧ BD a' (sz' + 1) nc' pd fc' nn' nb' dl cx ∧ sk N tx a < a' ∧
  (sz < sz' ∧ nc ≤ nc' ∧ fc ≤ fc' ∧ nb ≤ nb' ∧ nn ≤ c ∧ c < nn') ∧ fC sz nc pd fc cx S S' ∧ fM n (if cc = 0 then 1000 else l) nn nb dl P R R' ∧ PE P P' nc nb ∧ R'.1 41 c = -1 ∧
  Tr P' a' dl c nn' sz sz' fc fc' nc' h (fnO cx) (scO cx) S' R' ∧ ndF R' n k p v (if cc = 0 then nI c else fi) (nI c) (nI (cc + 1)) vc ∧ (cc ≠ 0 → R'.1 41 l = nI c)
theorem slot {k0 : Nat} (he : EH S0 R0 N tx k0 dl) (hr : RL S0 R0 N tx a b sz nc pd fc h nn nb dl cx P S R) (hb : BD a sz nc pd fc nn nb dl cx) (hh : h ≤ 4 * dl) (hd : dl ≤ 20) (hN : N ≤ 250) {n l cc mk : Nat} {k p v fi la vc : Int32} (ho : opM R dl n 0 mk) (hn : n < nn) (hg : gate N tx b dl n 0 R) (hf : ndF R n k p v fi la (nI cc) vc) (hcc : cc < 1000) (hl : cc ≠ 0 → la = nI l ∧ l < nn) :
    Sim S0 R0 (G_73 k0 (nI dl) S) (G_152_58 1 R) (SP S0 R0 N tx a sz nc pd fc h nn nb dl cx P S R n l cc k p v fi vc) := by
  have ha : a ≤ N := hr.1.2.1.2
  have hnn : nn ≤ 251 := by have := hb.2.2.2.1; omega
  refine Sim_imp (he a b sz nc pd fc h nn nb cx P S R n 0 mk hr hb hh hd ho (by omega) hg) ?_
  rintro S' r ⟨a', sz', nc', fc', nn', nb', P', R', c, e1, e2, e3, e4, e5, e6, e7, e8, e9, e10, e11, e12⟩
  obtain ⟨t1, t2, t3, t4, t5, t6⟩ := e2
  obtain ⟨f1, f2, f3, f4, f5, f6⟩ := e7
  have hu : UH nn' c (R'.1 39) (R'.1 40) (R'.1 41) (R'.1 42) := by
    rw [e5.2.2.2.2.1]
    exact uh_of hr.2.1.2.2.2.1.2 t2.2.2.2.1.2 ⟨f1, f2, f3, f4, f5, f6⟩ (by omega)
  have ha' : a' ≤ N := t1.2.1.2
  have hnn' : nn' ≤ 251 := by have := e3.2.2.2.1; omega
  obtain ⟨g1, g2, g3, g4, g5, g6, g7, -⟩ := f1 n hn (by omega)
  have hf' : ndF R' n k p v fi la (nI cc) vc := ⟨g1.trans hf.1, g2.trans hf.2.1, g3.trans hf.2.2.1, g4.trans hf.2.2.2.1, g5.trans hf.2.2.2.2.1, g6.trans hf.2.2.2.2.2.1, g7.trans hf.2.2.2.2.2.2⟩
  obtain ⟨o1, o2, o3⟩ := f3 dl (Nat.le_refl _)
  obtain ⟨R2, w1, w2, w3, w4, w5, w6, w7⟩ := hang_m (c := c) hf' (by omega) hcc (fun h9 => ⟨(hl h9).1, by have := (hl h9).2; omega⟩)
  have o48 : R2.1 48 dl = 0 := by rw [w6 48 (by decide) (by decide) (by decide) (by decide), o2]; exact ho.2.1
  have m6 : ∀ x, x ≠ 39 → x ≠ 40 → x ≠ 41 → x ≠ 42 → R2.1 x = R'.1 x := w6
  have hkm : kM c nn' R' R2 := by
    refine ⟨fun m h1 h2 => ⟨?_, ?_, ?_, (w5 m (by omega)).1, (w5 m (by omega)).2.1, (w5 m (by omega)).2.2, ?_, fun j _ => ?_⟩, fun m h1 h2 => w4 m ?_⟩
    · rw [m6 36 (by decide) (by decide) (by decide) (by decide)]
    · rw [m6 37 (by decide) (by decide) (by decide) (by decide)]
    · rw [m6 38 (by decide) (by decide) (by decide) (by decide)]
    · rw [m6 44 (by decide) (by decide) (by decide) (by decide)]
    · rw [m6 43 (by decide) (by decide) (by decide) (by decide)]
    · by_cases h9 : cc = 0
      · exact Or.inl h9
      · have := (hl h9).2
        exact Or.inr (by omega)
  refine ⟨a', sz', nc', fc', nn', nb', P', R2, c, ?_, ⟨t1, MR_hang t2 hf' hcc (fun h9 => ⟨(hl h9).1, by have := (hl h9).2; have := e5.2.2.2.2.1; omega⟩) (by omega) e5.2.2.2.2.2 (by omega) ⟨dl, Nat.le_refl _, o1.trans ho.1⟩ e9 hu w2 w3 w4 w5 w6, t3, JP_rows t4 rfl (m6 46 (by decide) (by decide) (by decide) (by decide)), t5, ?_⟩, e3, e4, ⟨e5.1, e5.2.1, e5.2.2.1, e5.2.2.2.1, Nat.le_of_eq e5.2.2.2.2.1.symm, e5.2.2.2.2.2⟩, e6, ?_, e8, ?_, Tr_step e10 (cK_refl _ _ _ _ _ _) hkm, w2, w3⟩
  · rw [e1]
    congr 1
    unfold G_150
    rw [t2.2.2.2.2.2.1, az_ck_in (show dl < 24 by omega) (by decide), nI_clamp (show dl < 2 ^ 31 by omega)]
    simp only [az_st]
    rw [o1, ho.1, w1, bV_v, m6 34 (by decide) (by decide) (by decide) (by decide), t2.2.2.2.2.2.1, az_ck_in (show dl < 24 by omega) (by decide), nI_clamp (show dl < 2 ^ 31 by omega), if_pos o48, bV_v]
  · refine ⟨fun x hx => ?_, fun k hk => ?_, w7.trans t6.2.2⟩
    · rw [m6 x (by omega) (by omega) (by omega) (by omega)]; exact t6.1 x hx
    · rw [m6 34 (by decide) (by decide) (by decide) (by decide)]; exact t6.2.1 k hk
  · refine ⟨fun m h1 h2 => ?_, fun m h1 h2 => ?_, fun i hi => ?_, fun i hi => ?_, fun x hx hp => ?_, fun m hm j hj => ?_⟩
    · refine ndA_trans (f1 m h1 (by omega)) ⟨?_, ?_, ?_, (w5 m h2).1, (w5 m h2).2.1, (w5 m h2).2.2, ?_, fun j _ => ?_⟩
      · rw [m6 36 (by decide) (by decide) (by decide) (by decide)]
      · rw [m6 37 (by decide) (by decide) (by decide) (by decide)]
      · rw [m6 38 (by decide) (by decide) (by decide) (by decide)]
      · rw [m6 44 (by decide) (by decide) (by decide) (by decide)]
      · rw [m6 43 (by decide) (by decide) (by decide) (by decide)]
    · refine (w4 m ?_).trans (f2 m h1 (by omega))
      by_cases h9 : cc = 0
      · exact Or.inl h9
      · rw [if_neg h9] at h2
        exact Or.inr h2
    · rw [m6 47 (by decide) (by decide) (by decide) (by decide), m6 48 (by decide) (by decide) (by decide) (by decide), m6 49 (by decide) (by decide) (by decide) (by decide)]
      exact f3 i hi
    · rw [m6 66 (by decide) (by decide) (by decide) (by decide)]; exact f4 i hi
    · rw [m6 46 (by decide) (by decide) (by decide) (by decide)]; exact f5 x hx hp
    · rw [m6 43 (by decide) (by decide) (by decide) (by decide)]; exact f6 m hm j hj
  · refine (w4 c ?_).trans e9
    by_cases h9 : cc = 0
    · exact Or.inl h9
    · have := (hl h9).2
      exact Or.inr (by omega)
end SIM
