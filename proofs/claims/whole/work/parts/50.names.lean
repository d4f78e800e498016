/-! letters that are pending, and their binding -/
section NAMES
variable {N : Nat} {tx : Nat → Nat} {a sz nc pd fc h : Nat} {cx : cxT} {S : amS}
def pnd (S : amS) (fr : Nat) (ls : List Nat) : Prop := ∀ i, i < ls.length → S.1 11 (fr + i) = nI (ls.getD i 0) ∧ ls.getD i 0 < 26
theorem pend_l {fr l : Nat} {ls : List Nat} (hl : l < 26) (hp : pnd S fr ls) (hn : S.1 5 8 = nI (fr + ls.length)) (hb : fr + ls.length ≤ 250) : ∀ (m i : Nat), i + m = ls.length → G_57_2 (nI l) (nI (fr + i)) S = some (.inl (some (.int (if l ∈ ls.drop i then 1 else 0))), S) := by
  intro m
  induction m with
  | zero =>
    intro i hi
    rw [G_57_2_eq]
    unfold B_57_2
    rw [hn, if_pos (nI_le (by omega) (by omega)), List.drop_eq_nil_of_le (by omega)]
    rfl
  | succ m ih =>
    intro i hi
    have hil : i < ls.length := by omega
    obtain ⟨h1, h2⟩ := hp i hil
    have hd : ls.drop i = ls.getD i 0 :: ls.drop (i + 1) := by
      rw [List.drop_eq_getElem_cons hil, List.getD_eq_getElem?_getD, List.getElem?_eq_getElem hil]
      rfl
    rw [G_57_2_eq]
    unfold B_57_2
    rw [hn, if_neg (nI_ge (by omega) (by omega)), az_rg_in _ _ _ (show fr + i < 250 by omega) (by decide), h1, hd]
    by_cases he : ls.getD i 0 = l
    · rw [if_pos (by rw [he]), if_pos (by rw [he]; exact List.mem_cons_self)]
    · rw [if_neg (fun h9 => he ((nI_eq (by omega) (by omega)).mp h9)), nI_1, show fr + i + 1 = fr + (i + 1) by omega, ih (i + 1) (by omega)]
      by_cases hm : l ∈ ls.drop (i + 1)
      · rw [if_pos hm, if_pos (List.mem_cons_of_mem _ hm)]
      · rw [if_neg hm, if_neg (fun h9 => by
          rcases List.mem_cons.mp h9 with h8 | h8
          · exact he h8.symm
          · exact hm h8)]
theorem pend_c {fr l : Nat} {ls : List Nat} (hl : l < 26) (hp : pnd S fr ls) (hn : S.1 5 8 = nI (fr + ls.length)) (hb : fr + ls.length ≤ 250) : G_57 (nI fr) (nI l) S = some (.inl (some (.int (if l ∈ ls then 1 else 0))), S) := by
  unfold G_57
  have := pend_l hl hp hn hb ls.length 0 (by omega)
  rw [List.drop_zero, Nat.add_zero] at this
  exact this
def ltS (S : amS) (p pd l : Nat) : amS := sI (sI (sI S 21 3 (nI (p + 1))) 11 pd (nI l)) 5 8 (nI (pd + 1))
/-- a new letter: told, or refused at where it stands -/
theorem letter_new (hc : CR N tx a sz nc pd fc h cx S) {fr : Nat} {ls : List Nat} (hp : pnd S fr ls) (hpd : pd = fr + ls.length) (hb : pd < 250) :
    (∀ l, ltW N tx (sk N tx a) → l = tx (sk N tx a) - 97 → l ∉ ls → G_84 (nI fr) S = some (.inl none, ltS S (sk N tx a) pd l)) ∧
    ((¬ ltW N tx (sk N tx a) ∨ (tx (sk N tx a) - 97) ∈ ls) → G_84 (nI fr) S = some (.inr 0, sI (sI S 21 3 (nI (sk N tx a))) 23 5 (nI (sk N tx a)))) := by
  have hN := hc.1.1
  have hs := sk_le (tx := tx) hc.2.1.2
  have hr := CR_sk hc
  have e0 : G_84 (nI fr) S = (az_bI (g_108 (sI S 21 3 (nI (sk N tx a)))) fun x3 S4 => if x3 < 0 then G_84_32 (nI (sk N tx a)) x3 S4 else az_bI (G_57 (nI fr) x3 S4) fun x5 S6 => if x5 = 0 then G_84_37 x3 S6 else G_84_32 (nI (sk N tx a)) x3 S6) := by
    unfold G_84
    rw [skip_r hc, bI_i]
  have lc := letter_c hr.1 hr.2.1.1 hr.2.1.2
  have hno : ∀ x, G_84_32 (nI (sk N tx a)) x (sI S 21 3 (nI (sk N tx a))) = some (.inr 0, sI (sI S 21 3 (nI (sk N tx a))) 23 5 (nI (sk N tx a))) := by
    intro x
    simp only [G_84_32, g_72, az_st, bV_x]
  have hpp : ltW N tx (sk N tx a) → G_57 (nI fr) (nI (tx (sk N tx a) - 97)) (sI S 21 3 (nI (sk N tx a))) = some (.inl (some (.int (if (tx (sk N tx a) - 97) ∈ ls then 1 else 0))), sI S 21 3 (nI (sk N tx a))) := fun hw =>
    pend_c (by have := hw.2.1; have := hw.2.2.1; omega) (fun i hi => hp i hi) (hpd ▸ hc.2.2.2.2.2.1) (by omega)
  constructor
  · intro l hw hl hn
    rw [e0, lc.1 hw, bI_i, if_neg (nI_pos (by have := hw.2.2.1; omega)), hpp hw, bI_i, ← hl, if_neg hn, if_pos rfl]
    simp only [G_84_37, g_56, az_st]
    have e1 : (sI (sI S 21 3 (nI (sk N tx a))) 21 3 ((sI S 21 3 (nI (sk N tx a))).1 21 3 + 1)).1 5 8 = nI pd := hc.2.2.2.2.2.1
    rw [e1, sR_in _ _ _ _ _ hb (by decide), sI_eq, nI_1, sI_sI, bV_v]
    have e2 : (sI (sI S 21 3 (nI (sk N tx a + 1))) 11 pd (nI l)).1 5 8 = nI pd := hc.2.2.2.2.2.1
    rw [e2, nI_1]
    rfl
  · intro h9
    by_cases hw : ltW N tx (sk N tx a)
    · rw [e0, lc.1 hw, bI_i, if_neg (nI_pos (by have := hw.2.2.1; omega)), hpp hw, bI_i]
      rcases h9 with h8 | h8
      · exact absurd hw h8
      · rw [if_pos h8, if_neg (by decide), hno]
    · rw [e0, lc.2 hw, bI_i, if_pos (by decide), hno]
theorem CR_lt (hc : CR N tx a sz nc pd fc h cx S) {p l : Nat} (hp : p + 1 ≤ N) : CR N tx (p + 1) sz nc (pd + 1) fc h cx (ltS S p pd l) := by
  obtain ⟨h1, h2, h3, h4, h5, h6, h7, h8, h9, h10, h11, h12, h13⟩ := hc
  exact ⟨txC_at h1 (p + 1), ⟨sI_eq S 21 3 (nI (p + 1)), hp⟩, h3, h4, h5, sI_eq _ _ _ _, h7, h8, h9, h10, h11, h12, h13⟩
theorem fC_lt (p l sz nc pd fc : Nat) (cx : cxT) : fC sz nc pd fc cx S (ltS S p pd l) := by
  refine ⟨fun _ _ => ⟨rfl, rfl, rfl⟩, fun _ _ => ⟨rfl, rfl, rfl, rfl⟩, fun _ _ _ => ⟨rfl, fun _ _ => ⟨rfl, rfl⟩⟩, fun _ _ => ⟨rfl, rfl, rfl, fun h => h⟩, mxN_refl _ _ _ _, fun i hi => ?_⟩
  show (sI (sI (sI S 21 3 (nI (p + 1))) 11 pd (nI l)) 5 8 (nI (pd + 1))).1 11 i = _
  rw [sI_na _ (by decide), sI_nk _ (by omega), sI_na _ (by decide)]
theorem pnd_lt {fr p l : Nat} {ls : List Nat} (hp : pnd S fr ls) (hpd : pd = fr + ls.length) (hl : l < 26) : pnd (ltS S p pd l) fr (ls ++ [l]) := by
  intro i hi
  rw [List.length_append, List.length_singleton] at hi
  show (sI (sI (sI S 21 3 (nI (p + 1))) 11 pd (nI l)) 5 8 (nI (pd + 1))).1 11 (fr + i) = _ ∧ _
  by_cases h9 : i < ls.length
  · rw [sI_na _ (by decide), sI_nk _ (by omega), sI_na _ (by decide), List.getD_eq_getElem?_getD, List.getElem?_append_left h9, ← List.getD_eq_getElem?_getD]
    exact hp i h9
  · have h8 : i = ls.length := by omega
    subst h8
    rw [sI_na _ (by decide), hpd, sI_eq, List.getD_eq_getElem?_getD, List.getElem?_append_right (Nat.le_refl _), Nat.sub_self]
    exact ⟨rfl, hl⟩
theorem pnd_ag {S' : amS} {fr : Nat} {ls : List Nat} (hp : pnd S fr ls) (hk : ∀ i, i < fr + ls.length → S'.1 11 i = S.1 11 i) : pnd S' fr ls := fun i hi => by
  rw [hk _ (by omega)]; exact hp i hi
theorem pfC_lt {S0 : amS} (hp : pfC S0 S) (p l : Nat) : pfC S0 (ltS S p pd l) := pfC_w (pfC_w (pfC_w hp (by decide) (by omega) _) (by decide) (by omega) _) (by decide) (by omega) _
/-- the variables that are bound from letters ls to reference's variables rv: class variable from c0 on, innermost first -/
def mkV (ls rv : List Nat) (c0 fn : Nat) : Nat → List scE
  | 0 => []
  | i + 1 => (ls.getD i 0, c0 + i, rv.getD i 0, fn) :: mkV ls rv c0 fn i
theorem mkV_len (ls rv : List Nat) (c0 fn : Nat) : ∀ i, (mkV ls rv c0 fn i).length = i
  | 0 => rfl
  | i + 1 => by
    show (mkV ls rv c0 fn i).length + 1 = _
    rw [mkV_len ls rv c0 fn i]
theorem mkV_mem {ls rv : List Nat} {c0 fn : Nat} : ∀ {i : Nat} {e : scE}, e ∈ mkV ls rv c0 fn i → ∃ j, j < i ∧ e = (ls.getD j 0, c0 + j, rv.getD j 0, fn)
  | 0, e, h => by cases h
  | i + 1, e, h => by
    rcases List.mem_cons.mp h with rfl | h
    · exact ⟨i, by omega, rfl⟩
    · obtain ⟨j, h1, h2⟩ := mkV_mem h
      exact ⟨j, by omega, h2⟩
/-- one variable bound -/
def bdS (S : amS) (nc ic : Nat) (l s lv : Int32) : amS := sI (sI (sI (sI (sI (sI (sI S 6 nc l) 7 nc s) 8 nc lv) 9 nc 0) 10 ic (nI nc)) 5 6 (nI (ic + 1))) 5 4 (nI (nc + 1))
/-- the loop of bindPending -/
def bdL (S : amS) (fr nc ic : Nat) (s0 : Nat) (lv : Int32) (ls : List Nat) : Nat → amS
  | 0 => S
  | i + 1 => bdS (bdL S fr nc ic s0 lv ls i) (nc + i) (ic + i) (nI (ls.getD i 0)) (nI (s0 + i)) lv
theorem bdL_o {fr nc ic s0 : Nat} {lv : Int32} {ls : List Nat} (i b k : Nat) (h1 : b ≠ 6) (h2 : b ≠ 7) (h3 : b ≠ 8) (h4 : b ≠ 9) (h5 : b ≠ 10) (h6 : b = 5 → k ≠ 4 ∧ k ≠ 6) : (bdL S fr nc ic s0 lv ls i).1 b k = S.1 b k := by
  induction i with
  | zero => rfl
  | succ i ih =>
    show (bdS _ _ _ _ _ _).1 b k = _
    unfold bdS
    rw [sI_get, if_neg (fun h => (h6 h.1).1 h.2), sI_get, if_neg (fun h => (h6 h.1).2 h.2), sI_na _ h5, sI_na _ h4, sI_na _ h3, sI_na _ h2, sI_na _ h1]
    exact ih
theorem bdL_2 {fr nc ic s0 : Nat} {lv : Int32} {ls : List Nat} (i : Nat) : (bdL S fr nc ic s0 lv ls i).2 = S.2 := by
  induction i with
  | zero => rfl
  | succ i ih => exact ih
/-- rows of names after i steps -/
theorem bdL_n {fr nc ic s0 : Nat} {lv : Int32} {ls : List Nat} : ∀ (i : Nat),
    (∀ k, (bdL S fr nc ic s0 lv ls i).1 6 k = if nc ≤ k ∧ k < nc + i then nI (ls.getD (k - nc) 0) else S.1 6 k) ∧
    (∀ k, (bdL S fr nc ic s0 lv ls i).1 7 k = if nc ≤ k ∧ k < nc + i then nI (s0 + (k - nc)) else S.1 7 k) ∧
    (∀ k, (bdL S fr nc ic s0 lv ls i).1 8 k = if nc ≤ k ∧ k < nc + i then lv else S.1 8 k) ∧
    (∀ k, (bdL S fr nc ic s0 lv ls i).1 9 k = if nc ≤ k ∧ k < nc + i then 0 else S.1 9 k) ∧
    (∀ k, (bdL S fr nc ic s0 lv ls i).1 10 k = if ic ≤ k ∧ k < ic + i then nI (nc + (k - ic)) else S.1 10 k)
  | 0 => ⟨fun k => by rw [if_neg (by omega)]; rfl, fun k => by rw [if_neg (by omega)]; rfl, fun k => by rw [if_neg (by omega)]; rfl, fun k => by rw [if_neg (by omega)]; rfl, fun k => by rw [if_neg (by omega)]; rfl⟩
  | i + 1 => by
    obtain ⟨h6, h7, h8, h9, h10⟩ := bdL_n (fr := fr) (nc := nc) (ic := ic) (s0 := s0) (lv := lv) (ls := ls) i
    refine ⟨fun k => ?_, fun k => ?_, fun k => ?_, fun k => ?_, fun k => ?_⟩
    · show (bdS _ _ _ _ _ _).1 6 k = _
      unfold bdS
      rw [sI_na _ (by decide), sI_na _ (by decide), sI_na _ (by decide), sI_na _ (by decide), sI_na _ (by decide), sI_na _ (by decide), sI_get, h6]
      by_cases hk : k = nc + i
      · rw [if_pos ⟨rfl, hk⟩, if_pos (by omega), hk, Nat.add_sub_cancel_left]
      · rw [if_neg (fun h => hk h.2)]
        by_cases h1 : nc ≤ k ∧ k < nc + i
        · rw [if_pos h1, if_pos (by omega)]
        · rw [if_neg h1, if_neg (by omega)]
    · show (bdS _ _ _ _ _ _).1 7 k = _
      unfold bdS
      rw [sI_na _ (by decide), sI_na _ (by decide), sI_na _ (by decide), sI_na _ (by decide), sI_na _ (by decide), sI_get, sI_na _ (by decide), h7]
      by_cases hk : k = nc + i
      · rw [if_pos ⟨rfl, hk⟩, if_pos (by omega), hk, Nat.add_sub_cancel_left]
      · rw [if_neg (fun h => hk h.2)]
        by_cases h1 : nc ≤ k ∧ k < nc + i
        · rw [if_pos h1, if_pos (by omega)]
        · rw [if_neg h1, if_neg (by omega)]
    · show (bdS _ _ _ _ _ _).1 8 k = _
      unfold bdS
      rw [sI_na _ (by decide), sI_na _ (by decide), sI_na _ (by decide), sI_na _ (by decide), sI_get, sI_na _ (by decide), sI_na _ (by decide), h8]
      by_cases hk : k = nc + i
      · rw [if_pos ⟨rfl, hk⟩, if_pos (by omega)]
      · rw [if_neg (fun h => hk h.2)]
        by_cases h1 : nc ≤ k ∧ k < nc + i
        · rw [if_pos h1, if_pos (by omega)]
        · rw [if_neg h1, if_neg (by omega)]
    · show (bdS _ _ _ _ _ _).1 9 k = _
      unfold bdS
      rw [sI_na _ (by decide), sI_na _ (by decide), sI_na _ (by decide), sI_get, sI_na _ (by decide), sI_na _ (by decide), sI_na _ (by decide), h9]
      by_cases hk : k = nc + i
      · rw [if_pos ⟨rfl, hk⟩, if_pos (by omega)]
      · rw [if_neg (fun h => hk h.2)]
        by_cases h1 : nc ≤ k ∧ k < nc + i
        · rw [if_pos h1, if_pos (by omega)]
        · rw [if_neg h1, if_neg (by omega)]
    · show (bdS _ _ _ _ _ _).1 10 k = _
      unfold bdS
      rw [sI_na _ (by decide), sI_na _ (by decide), sI_get, sI_na _ (by decide), sI_na _ (by decide), sI_na _ (by decide), sI_na _ (by decide), h10]
      by_cases hk : k = ic + i
      · rw [if_pos ⟨rfl, hk⟩, if_pos (by omega), hk, Nat.add_sub_cancel_left]
      · rw [if_neg (fun h => hk h.2)]
        by_cases h1 : ic ≤ k ∧ k < ic + i
        · rw [if_pos h1, if_pos (by omega)]
        · rw [if_neg h1, if_neg (by omega)]
theorem bdL_c {fr nc ic s0 : Nat} {lv : Int32} {ls : List Nat} (hn : S.1 5 4 = nI nc) (hi : S.1 5 6 = nI ic) : ∀ (i : Nat), (bdL S fr nc ic s0 lv ls i).1 5 4 = nI (nc + i) ∧ (bdL S fr nc ic s0 lv ls i).1 5 6 = nI (ic + i)
  | 0 => ⟨hn, hi⟩
  | i + 1 => by
    constructor
    · show (bdS _ _ _ _ _ _).1 5 4 = _
      unfold bdS
      rw [sI_eq]
      rfl
    · show (bdS _ _ _ _ _ _).1 5 6 = _
      unfold bdS
      rw [sI_nk _ (by decide), sI_eq]
      rfl
theorem bind_l {fr nc ic s0 : Nat} {lv : Int32} {ls : List Nat} (hp : pnd S fr ls) (hn : S.1 5 4 = nI nc) (hi : S.1 5 6 = nI ic) (hb : fr + ls.length ≤ 250) (hb2 : nc + ls.length ≤ 250) (hb3 : ic + ls.length ≤ 250) : ∀ (m i : Nat), i + m = ls.length →
    G_58_11 (nI fr) (nI s0) lv (nI ls.length) (nI i) (bdL S fr nc ic s0 lv ls i) = some (.inl (some (.int (nI ls.length))), sI (bdL S fr nc ic s0 lv ls ls.length) 5 8 (nI fr)) := by
  intro m
  induction m with
  | zero =>
    intro i hil
    have : i = ls.length := by omega
    subst this
    rw [G_58_11_eq]
    unfold B_58_11
    rw [if_pos (Int32.le_refl _)]
    rfl
  | succ m ih =>
    intro i hil
    obtain ⟨c1, c2⟩ := bdL_c (S := S) (fr := fr) (s0 := s0) (lv := lv) (ls := ls) hn hi i
    have e11 : (bdL S fr nc ic s0 lv ls i).1 11 (fr + i) = nI (ls.getD i 0) := (bdL_o i 11 (fr + i) (by decide) (by decide) (by decide) (by decide) (by decide) (fun h => absurd h (by decide))).trans (hp i (by omega)).1
    rw [G_58_11_eq]
    unfold B_58_11
    rw [if_neg (nI_ge (by omega) (by omega))]
    simp only [az_st]
    rw [c1, nI_add, nI_add, az_rg_in _ _ _ (show fr + i < 250 by omega) (by decide), e11, sR_in _ _ _ _ _ (show nc + i < 250 by omega) (by decide)]
    have f1 : (sI (bdL S fr nc ic s0 lv ls i) 6 (nc + i) (nI (ls.getD i 0))).1 5 4 = nI (nc + i) := c1
    rw [f1, sR_in _ _ _ _ _ (show nc + i < 250 by omega) (by decide)]
    have f2 : (sI (sI (bdL S fr nc ic s0 lv ls i) 6 (nc + i) (nI (ls.getD i 0))) 7 (nc + i) (nI (s0 + i))).1 5 4 = nI (nc + i) := c1
    rw [f2, sR_in _ _ _ _ _ (show nc + i < 250 by omega) (by decide)]
    have f3 : (sI (sI (sI (bdL S fr nc ic s0 lv ls i) 6 (nc + i) (nI (ls.getD i 0))) 7 (nc + i) (nI (s0 + i))) 8 (nc + i) lv).1 5 4 = nI (nc + i) := c1
    rw [f3]
    unfold g_64
    rw [if_neg (nI_pos (by omega)), if_neg (show ¬ (250 : Int32) ≤ nI (nc + i) from nI_ge (b := 250) (by omega) (by decide)), az_ck_in (show nc + i < 250 by omega) (by decide), nI_clamp (by omega)]
    simp only [az_st]
    rw [bV_v]
    have f4 : (sI (sI (sI (sI (bdL S fr nc ic s0 lv ls i) 6 (nc + i) (nI (ls.getD i 0))) 7 (nc + i) (nI (s0 + i))) 8 (nc + i) lv) 9 (nc + i) (vp_nar .boolean 0)).1 5 6 = nI (ic + i) := c2
    have f5 : (sI (sI (sI (sI (bdL S fr nc ic s0 lv ls i) 6 (nc + i) (nI (ls.getD i 0))) 7 (nc + i) (nI (s0 + i))) 8 (nc + i) lv) 9 (nc + i) (vp_nar .boolean 0)).1 5 4 = nI (nc + i) := c1
    rw [f4, f5, sR_in _ _ _ _ _ (show ic + i < 250 by omega) (by decide)]
    have f6 : (sI (sI (sI (sI (sI (bdL S fr nc ic s0 lv ls i) 6 (nc + i) (nI (ls.getD i 0))) 7 (nc + i) (nI (s0 + i))) 8 (nc + i) lv) 9 (nc + i) (vp_nar .boolean 0)) 10 (ic + i) (nI (nc + i))).1 5 6 = nI (ic + i) := c2
    rw [f6, show nI (ic + i) + 1 = nI (ic + i + 1) from by rw [nI_1]]
    have f7 : (sI (sI (sI (sI (sI (sI (bdL S fr nc ic s0 lv ls i) 6 (nc + i) (nI (ls.getD i 0))) 7 (nc + i) (nI (s0 + i))) 8 (nc + i) lv) 9 (nc + i) (vp_nar .boolean 0)) 10 (ic + i) (nI (nc + i))) 5 6 (nI (ic + i + 1))).1 5 4 = nI (nc + i) := c1
    rw [f7, nI_1, nI_1]
    exact ih (i + 1) (by omega)
theorem scC_keep {r6 r10 r6' r10' : Nat → Int32} {nc : Nat} : ∀ {sc : List scE}, scC r6 r10 sc → (∀ e ∈ sc, e.2.1 < nc) → (∀ k, k < nc → r6' k = r6 k) → (∀ k, k < sc.length → r10' k = r10 k) → scC r6' r10' sc
  | [], _, _, _, _ => trivial
  | e :: sc, h, hn, h6, h10 => ⟨(h10 _ (by simp)).trans h.1, (h6 _ (hn e List.mem_cons_self)).trans h.2.1, h.2.2.1, h.2.2.2.1, scC_keep h.2.2.2.2 (fun e he => hn e (List.mem_cons_of_mem _ he)) h6 (fun k hk => h10 k (by simp; omega))⟩
theorem lvC_keep {r8 r8' : Nat → Int32} {nc : Nat} : ∀ {cx : cxT}, lvC r8 cx → (∀ e ∈ scO cx, e.2.1 < nc) → (∀ k, k < nc → r8' k = r8 k) → lvC r8' cx
  | [], _, _, _ => trivial
  | f :: c, h, hn, h8 => ⟨fun e he => ⟨(h8 _ (hn e (List.mem_append_left _ he))).trans (h.1 e he).1, (h.1 e he).2⟩, lvC_keep h.2 (fun e he => hn e (List.mem_append_right _ he)) h8⟩
theorem tkI_7 {r7 r7' r17 r18 r19 : Nat → Int32} {nc mu : Nat} {c : cxT} (h : tkI r7 r17 r18 r19 mu c) (hn : ∀ e ∈ scO c, e.2.1 < nc) (h7 : ∀ k, k < nc → r7' k = r7 k) : tkI r7' r17 r18 r19 mu c := by
  obtain ⟨t, h1, h2, h3, h4⟩ := h
  refine ⟨t, h1, h2, fun i hi => ?_, h4⟩
  obtain ⟨e, a1, a2, a3, a4, a5, a6⟩ := h3 i hi
  refine ⟨e, a1, a2, a3, a4, a5, ?_⟩
  rcases a6 with a6 | a6
  · exact Or.inl ⟨a6.1, a6.2.trans (h7 _ (hn e (scF_mem a1).1)).symm⟩
  · exact Or.inr a6
theorem TKI_7 {r7 r7' r17 r18 r19 : Nat → Int32} {nc : Nat} (h7 : ∀ k, k < nc → r7' k = r7 k) : ∀ {cx : cxT}, TKI r7 r17 r18 r19 cx → (∀ e ∈ scO cx, e.2.1 < nc) → TKI r7' r17 r18 r19 cx
  | [], _, _ => trivial
  | [_], _, _ => trivial
  | f :: g :: c, h, hn => ⟨tkI_7 h.1 (fun e he => hn e (List.mem_append_right _ he)) h7, TKI_7 h7 h.2 (fun e he => hn e (List.mem_append_right _ he))⟩
theorem TKI_own {r7 r17 r18 r19 : Nat → Int32} {g : Nat} {v0 v1 : List scE} {c : cxT} (h : TKI r7 r17 r18 r19 ((g, v0) :: c)) : TKI r7 r17 r18 r19 ((g, v1) :: c) := by
  cases c with
  | nil => trivial
  | cons f c => exact h
theorem opC_own {r20 : Nat → Int32} {fc g : Nat} {v0 v1 : List scE} {c : cxT} (h : opC r20 fc ((g, v0) :: c)) : opC r20 fc ((g, v1) :: c) := by
  cases c with
  | nil => exact h
  | cons f c => exact h
/-- pending letters are bound in the function that is read -/
theorem bind_c {g : Nat} {v0 : List scE} {c : cxT} (hc : CR N tx a sz nc pd fc h ((g, v0) :: c) S) {fr s0 : Nat} {ls : List Nat} (rv : List Nat) (hp : pnd S fr ls) (hpd : pd = fr + ls.length) (hb : pd ≤ 250) (hb2 : nc + ls.length ≤ 250) (hb3 : (scO ((g, v0) :: c)).length + ls.length ≤ 250) (hlt : ∀ e ∈ scO ((g, v0) :: c), e.2.1 < nc) :
    ∃ S', G_58 (nI fr) (nI s0) (S.1 12 9) S = some (.inl (some (.int (nI ls.length))), S') ∧ CR N tx a sz (nc + ls.length) fr fc h ((g, mkV ls rv nc g ls.length ++ v0) :: c) S' ∧ fC sz nc fr fc ((g, v0) :: c) S S' ∧ (∀ i, i < ls.length → S'.1 7 (nc + i) = nI (s0 + i)) ∧ (∀ k, S'.1 9 k = if nc ≤ k ∧ k < nc + ls.length then 0 else S.1 9 k) ∧ (∀ S0, pfC S0 S → pfC S0 S') := by
  obtain ⟨h1, h2, h3, h4, h5, h6, h7, h8, h9, h10, h11, h12, h13⟩ := hc
  obtain ⟨n6, n7, n8, n9, n10⟩ := bdL_n (S := S) (fr := fr) (nc := nc) (ic := (scO ((g, v0) :: c)).length) (s0 := s0) (lv := S.1 12 9) (ls := ls) ls.length
  obtain ⟨c1, c2⟩ := bdL_c (S := S) (fr := fr) (s0 := s0) (lv := S.1 12 9) (ls := ls) h4 h5 ls.length
  have o : ∀ b k, b ≠ 5 → b ≠ 6 → b ≠ 7 → b ≠ 8 → b ≠ 9 → b ≠ 10 → (sI (bdL S fr nc (scO ((g, v0) :: c)).length s0 (S.1 12 9) ls ls.length) 5 8 (nI fr)).1 b k = S.1 b k := fun b k a5 a6 a7 a8 a9 a10 => by
    rw [sI_na _ a5]
    exact bdL_o ls.length b k a6 a7 a8 a9 a10 (fun h => absurd h a5)
  have oo : ∀ b, b ≠ 5 → b ≠ 6 → b ≠ 7 → b ≠ 8 → b ≠ 9 → b ≠ 10 → (sI (bdL S fr nc (scO ((g, v0) :: c)).length s0 (S.1 12 9) ls ls.length) 5 8 (nI fr)).1 b = S.1 b := fun b a5 a6 a7 a8 a9 a10 => funext (fun k => o b k a5 a6 a7 a8 a9 a10)
  have k6 : ∀ k, k < nc → (sI (bdL S fr nc (scO ((g, v0) :: c)).length s0 (S.1 12 9) ls ls.length) 5 8 (nI fr)).1 6 k = S.1 6 k := fun k hk => by rw [sI_na _ (by decide), n6, if_neg (by omega)]
  have k7 : ∀ k, k < nc → (sI (bdL S fr nc (scO ((g, v0) :: c)).length s0 (S.1 12 9) ls ls.length) 5 8 (nI fr)).1 7 k = S.1 7 k := fun k hk => by rw [sI_na _ (by decide), n7, if_neg (by omega)]
  have k8 : ∀ k, k < nc → (sI (bdL S fr nc (scO ((g, v0) :: c)).length s0 (S.1 12 9) ls ls.length) 5 8 (nI fr)).1 8 k = S.1 8 k := fun k hk => by rw [sI_na _ (by decide), n8, if_neg (by omega)]
  refine ⟨sI (bdL S fr nc (scO ((g, v0) :: c)).length s0 (S.1 12 9) ls ls.length) 5 8 (nI fr), ?_, ⟨?_, ?_, ?_, ?_, ?_, ?_, ?_, ?_, ?_, ?_, ?_, ?_, ?_⟩, ⟨fun i hi => ?_, fun x hx => ?_, fun x hx _ => ?_, fun i hi => ?_, ?_, fun i hi => ?_⟩, fun i hi => ?_, fun k => ?_, fun S0 hS => ⟨fun b hb => ?_, ?_, ?_⟩⟩
  · simp only [G_58, az_st]
    rw [h6, hpd, pk_sub (by omega), Nat.add_sub_cancel_left]
    exact bind_l hp h4 h5 (by omega) hb2 hb3 ls.length 0 (by omega)
  · exact ⟨h1.1, by rw [o 21 2 (by decide) (by decide) (by decide) (by decide) (by decide) (by decide)]; exact h1.2.1, fun i hi => by rw [o 22 i (by decide) (by decide) (by decide) (by decide) (by decide) (by decide)]; exact h1.2.2 i hi⟩
  · rw [o 21 3 (by decide) (by decide) (by decide) (by decide) (by decide) (by decide)]; exact h2
  · rw [o 1 3 (by decide) (by decide) (by decide) (by decide) (by decide) (by decide)]; exact h3
  · rw [sI_nk _ (by decide)]; exact c1
  · rw [sI_nk _ (by decide), c2]
    have : (scO ((g, mkV ls rv nc g ls.length ++ v0) :: c)).length = (scO ((g, v0) :: c)).length + ls.length := by
      show (mkV ls rv nc g ls.length ++ v0 ++ scO c).length = (v0 ++ scO c).length + _
      rw [List.append_assoc, List.length_append, mkV_len]
      omega
    rw [this]
  · exact sI_eq _ _ _ _
  · rw [o 12 7 (by decide) (by decide) (by decide) (by decide) (by decide) (by decide)]; exact h7
  · rw [o 12 9 (by decide) (by decide) (by decide) (by decide) (by decide) (by decide)]; exact h8
  · rw [o 23 4 (by decide) (by decide) (by decide) (by decide) (by decide) (by decide)]; exact h9
  · show scC _ _ (mkV ls rv nc g ls.length ++ v0 ++ scO c)
    rw [List.append_assoc]
    have base : scC ((sI (bdL S fr nc (scO ((g, v0) :: c)).length s0 (S.1 12 9) ls ls.length) 5 8 (nI fr)).1 6) ((sI (bdL S fr nc (scO ((g, v0) :: c)).length s0 (S.1 12 9) ls ls.length) 5 8 (nI fr)).1 10) (v0 ++ scO c) :=
      scC_keep h10 hlt k6 (fun k hk => by rw [sI_na _ (by decide), n10, if_neg (by have : (scO ((g, v0) :: c)).length = (v0 ++ scO c).length := rfl; omega)])
    have step : ∀ i, i ≤ ls.length → scC ((sI (bdL S fr nc (scO ((g, v0) :: c)).length s0 (S.1 12 9) ls ls.length) 5 8 (nI fr)).1 6) ((sI (bdL S fr nc (scO ((g, v0) :: c)).length s0 (S.1 12 9) ls ls.length) 5 8 (nI fr)).1 10) (mkV ls rv nc g i ++ (v0 ++ scO c)) := by
      intro i
      induction i with
      | zero => intro _; exact base
      | succ i ih =>
        intro hi
        have hl : (mkV ls rv nc g i ++ (v0 ++ scO c)).length = (scO ((g, v0) :: c)).length + i := by
          rw [List.length_append, mkV_len]
          show i + (v0 ++ scO c).length = (v0 ++ scO c).length + i
          omega
        refine ⟨?_, ?_, show nc + i < 250 by omega, (hp i (by omega)).2, ih (by omega)⟩
        · show _ = nI (nc + i)
          rw [sI_na _ (by decide), show ((mkV ls rv nc g i).append (v0 ++ scO c)).length = (scO ((g, v0) :: c)).length + i from hl, n10, if_pos (by omega), Nat.add_sub_cancel_left]
        · show (sI (bdL S fr nc (scO ((g, v0) :: c)).length s0 (S.1 12 9) ls ls.length) 5 8 (nI fr)).1 6 (nc + i) = nI (ls.getD i 0)
          rw [sI_na _ (by decide), n6, if_pos (by omega), Nat.add_sub_cancel_left]
    exact step ls.length (Nat.le_refl _)
  · rw [oo 20 (by decide) (by decide) (by decide) (by decide) (by decide) (by decide)]; exact opC_own h11
  · refine ⟨fun e he => ?_, lvC_keep h12.2 (fun e he => hlt e (List.mem_append_right _ he)) k8⟩
    rcases List.mem_append.mp he with he | he
    · obtain ⟨j, hj, rfl⟩ := mkV_mem he
      refine ⟨?_, rfl⟩
      show (sI _ 5 8 (nI fr)).1 8 (nc + j) = _
      rw [sI_na _ (by decide), n8, if_pos (by omega), h8]
      rfl
    · exact ⟨(k8 _ (hlt e (List.mem_append_left _ he))).trans (h12.1 e he).1, (h12.1 e he).2⟩
  · rw [oo 17 (by decide) (by decide) (by decide) (by decide) (by decide) (by decide), oo 18 (by decide) (by decide) (by decide) (by decide) (by decide) (by decide), oo 19 (by decide) (by decide) (by decide) (by decide) (by decide) (by decide)]
    exact TKI_own (TKI_7 k7 h13 hlt)
  · exact ⟨o 2 i (by decide) (by decide) (by decide) (by decide) (by decide) (by decide), o 3 i (by decide) (by decide) (by decide) (by decide) (by decide) (by decide), o 4 i (by decide) (by decide) (by decide) (by decide) (by decide) (by decide)⟩
  · exact ⟨o 13 x (by decide) (by decide) (by decide) (by decide) (by decide) (by decide), o 14 x (by decide) (by decide) (by decide) (by decide) (by decide) (by decide), o 15 x (by decide) (by decide) (by decide) (by decide) (by decide) (by decide), o 16 x (by decide) (by decide) (by decide) (by decide) (by decide) (by decide)⟩
  · exact ⟨o 17 x (by decide) (by decide) (by decide) (by decide) (by decide) (by decide), fun i hi => ⟨o 18 _ (by decide) (by decide) (by decide) (by decide) (by decide) (by decide), o 19 _ (by decide) (by decide) (by decide) (by decide) (by decide) (by decide)⟩⟩
  · refine ⟨k6 i hi, k7 i hi, k8 i hi, fun hh => ?_⟩
    rw [sI_na _ (by decide), n9, if_neg (by omega)]; exact hh
  · unfold mxS
    rw [oo 17 (by decide) (by decide) (by decide) (by decide) (by decide) (by decide), oo 18 (by decide) (by decide) (by decide) (by decide) (by decide) (by decide), oo 19 (by decide) (by decide) (by decide) (by decide) (by decide) (by decide)]
    exact mxN_refl _ _ _ _
  · exact o 11 i (by decide) (by decide) (by decide) (by decide) (by decide) (by decide)
  · rw [sI_na _ (by decide), n7, if_pos (by omega), Nat.add_sub_cancel_left]
  · rw [sI_na _ (by decide), n9]
  · rw [oo b (by omega) (by omega) (by omega) (by omega) (by omega) (by omega)]; exact hS.1 b hb
  · rw [o 21 1 (by decide) (by decide) (by decide) (by decide) (by decide) (by decide)]; exact hS.2.1
  · exact (bdL_2 ls.length).trans hS.2.2
end NAMES
