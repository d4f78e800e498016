/-! tell, recall, bindAll -/
section TELL
variable {N : Nat} {tx : Nat → Nat} {b nn nb dl : Nat} {sc : List scE} {R R0 : amS}
/-- letters ls lie in a row of the reference from o on -/
def ltM (r : Nat → Int32) (o : Nat) (ls : List Nat) : Prop := ∀ i, i < ls.length → r (o + i) = nI (97 + ls.getD i 0) ∧ ls.getD i 0 < 26
def tlS (R : amS) (n vc nb dl : Nat) (c : Int32) : amS := sI (sI (sI (sI (sI (sI R 50 (240 + vc) c) 43 (4 * n + vc) (nI nb)) 46 nb 0) 34 19 (nI (nb + 1))) 44 n (nI (vc + 1))) 66 (4 * dl + vc) c
theorem tell_end {n vc p : Nat} (h : MR N tx b nn nb dl sc R) (hw : R.1 34 27 = nI p) (hp : p < N) (hn : n < 256) (hv : vc < 4) (hvc : R.1 44 n = nI vc) (hnb : nb < 256) (hd : dl ≤ 20) : G_140_77 (nI n) 1 R = some (.inl none, tlS R n vc nb dl (nI (tx p))) := by
  have hN := h.1.1
  have q := nI_clamp (n := n) (by omega)
  have qp := nI_clamp (n := p) (by omega)
  have t0 := (h.1.2.2 p hp).1
  unfold G_140_77
  rw [if_neg (by decide), az_ck_in hn (by decide), hw, az_ck_in (show p < 250 by omega) (by decide)]
  simp only [az_st]
  rw [q, hvc, show (240 : Int32) = nI 240 from rfl, nI_add, az_ck_in (show 240 + vc < 256 by omega) (by decide), nI_clamp (show 240 + vc < 2 ^ 31 by omega), qp, t0, az_ck_in hn (by decide)]
  have e1 : (sI R 50 (240 + vc) (nI (tx p))).1 44 n = nI vc := hvc
  have e2 : (sI R 50 (240 + vc) (nI (tx p))).1 34 19 = nI nb := h.2.2.2.2.1
  rw [e1, show (4 : Int32) * nI n = nI (4 * n) from pk_mul 4 n, nI_add, az_ck_in (show 4 * n + vc < 1024 by omega) (by decide), nI_clamp (show 4 * n + vc < 2 ^ 31 by omega), e2]
  have e3 : (sI (sI R 50 (240 + vc) (nI (tx p))) 43 (4 * n + vc) (nI nb)).1 34 19 = nI nb := h.2.2.2.2.1
  rw [e3, az_ck_in hnb (by decide), nI_clamp (show nb < 2 ^ 31 by omega)]
  have e4 : (sI (sI (sI R 50 (240 + vc) (nI (tx p))) 43 (4 * n + vc) (nI nb)) 46 nb (vp_nar .boolean 0)).1 34 19 = nI nb := h.2.2.2.2.1
  rw [e4, nI_1, az_ck_in hn (by decide), az_ck_in hn (by decide)]
  have e5 : (sI (sI (sI (sI R 50 (240 + vc) (nI (tx p))) 43 (4 * n + vc) (nI nb)) 46 nb (vp_nar .boolean 0)) 34 19 (nI (nb + 1))).1 44 n = nI vc := hvc
  rw [e5, nI_1, az_ck_in hn (by decide)]
  have e6 : (sI (sI (sI (sI (sI R 50 (240 + vc) (nI (tx p))) 43 (4 * n + vc) (nI nb)) 46 nb (vp_nar .boolean 0)) 34 19 (nI (nb + 1))) 44 n (nI (vc + 1))).1 34 27 = nI p := hw
  have e7 : (sI (sI (sI (sI (sI R 50 (240 + vc) (nI (tx p))) 43 (4 * n + vc) (nI nb)) 46 nb (vp_nar .boolean 0)) 34 19 (nI (nb + 1))) 44 n (nI (vc + 1))).1 34 23 = nI dl := h.2.2.2.2.2.1
  have e9 : (sI (sI (sI (sI (sI R 50 (240 + vc) (nI (tx p))) 43 (4 * n + vc) (nI nb)) 46 nb (vp_nar .boolean 0)) 34 19 (nI (nb + 1))) 44 n (nI (vc + 1))).1 35 p = nI (tx p) := t0
  rw [e6, az_ck_in (show p < 250 by omega) (by decide), qp, e9, e7, sI_eq, show (4 : Int32) * nI dl = nI (4 * dl) from pk_mul 4 dl, nI_add, show (1 : Int32) = nI 1 from rfl, pk_sub (by omega), show 4 * dl + (vc + 1) - 1 = 4 * dl + vc by omega, az_ck_in (show 4 * dl + vc < 104 by omega) (by decide), nI_clamp (show 4 * dl + vc < 2 ^ 31 by omega)]
  rfl
theorem tell_l {n vc p : Nat} {ls : List Nat} (h : MR N tx b nn nb dl sc R) (hw : R.1 34 27 = nI p) (hp : p < N) (hn : n < 256) (hv : vc < 4) (hvc : R.1 44 n = nI vc) (hlv : vc = ls.length) (hl : ltM (R.1 50) 240 ls) (hlt : 97 ≤ tx p ∧ tx p ≤ 122) : ∀ (m i : Nat), i + m = vc → G_140_29 (nI n) 1 (nI i) R = G_140_77 (nI n) (if (tx p - 97) ∈ ls.drop i then 0 else 1) R := by
  have hN := h.1.1
  have q := nI_clamp (n := n) (by omega)
  intro m
  induction m with
  | zero =>
    intro i hi
    rw [G_140_29_eq]
    unfold B_140_29
    rw [az_ck_in hn (by decide), q, hvc, if_pos (nI_le (by omega) (by omega)), List.drop_eq_nil_of_le (by omega)]
    rfl
  | succ m ih =>
    intro i hi
    obtain ⟨l1, l2⟩ := hl i (by omega)
    have hil : i < ls.length := by omega
    have hd : ls.drop i = ls.getD i 0 :: ls.drop (i + 1) := by
      rw [List.drop_eq_getElem_cons hil, List.getD_eq_getElem?_getD, List.getElem?_eq_getElem hil]
      rfl
    rw [G_140_29_eq]
    unfold B_140_29
    rw [az_ck_in hn (by decide), q, hvc, if_neg (nI_ge (by omega) (by omega)), if_neg (by decide), show (240 : Int32) = nI 240 from rfl, nI_add, az_ck_in (show 240 + i < 256 by omega) (by decide), hw, az_ck_in (show p < 250 by omega) (by decide), nI_clamp (show 240 + i < 2 ^ 31 by omega), nI_clamp (show p < 2 ^ 31 by omega), (h.1.2.2 p hp).1, l1, hd]
    unfold G_140_70
    rw [nI_1]
    by_cases he : ls.getD i 0 = tx p - 97
    · rw [if_pos (by rw [he, show 97 + (tx p - 97) = tx p by omega]), if_pos (by rw [he]; exact List.mem_cons_self), G_140_29_eq]
      unfold B_140_29
      rw [az_ck_in hn (by decide), if_pos rfl, ite_self]
    · rw [if_neg (fun h9 => he (by have := (nI_eq (by omega) (by omega)).mp h9; omega)), ih (i + 1) (by omega)]
      by_cases hm : (tx p - 97) ∈ ls.drop (i + 1)
      · rw [if_pos hm, if_pos (List.mem_cons_of_mem _ hm)]
      · rw [if_neg hm, if_neg (fun h9 => by
          rcases List.mem_cons.mp h9 with h8 | h8
          · exact he h8.symm
          · exact hm h8)]
/-- a letter is told, or refused -/
theorem tell_m {n vc : Nat} {ls : List Nat} (h : MR N tx b nn nb dl sc R) (hn : n < 256) (hv : vc ≤ 4) (hvc : R.1 44 n = nI vc) (hlv : vc = ls.length) (hl : ltM (R.1 50) 240 ls) (hnb : nb < 256) (hd : dl ≤ 20) (hpf : pfM R0 R) :
    ((ltW N tx (sk N tx b) ∧ vc < 4 ∧ (tx (sk N tx b) - 97) ∉ ls) → G_140 (nI n) R = some (.inl none, tlS (wrM R (sk N tx b) (sk N tx b + 1)) n vc nb dl (nI (tx (sk N tx b))))) ∧
    (¬ (ltW N tx (sk N tx b) ∧ vc < 4 ∧ (tx (sk N tx b) - 97) ∉ ls) → ∃ R', G_140 (nI n) R = some (.inl none, R') ∧ bad R0 R' (nI (sk N tx b)) ∧ R'.1 34 23 = R.1 34 23) := by
  have hN := h.1.1
  have hs := sk_le (tx := tx) h.2.1.2
  have hp := we_prop (tx := tx) (N - sk N tx b) (sk N tx b) (Nat.le_refl _)
  have hwe := hp.2.1 hs
  have hr := MR_wr (p := sk N tx b) h hwe
  have hwd := wrM_wd R (sk N tx b) (we N tx (sk N tx b))
  have hL := isLet_m hr.1 hwd hs
  have q := nI_clamp (n := n) (by omega)
  have hvc1 : (wrM R (sk N tx b) (we N tx (sk N tx b))).1 44 n = nI vc := hvc
  have fin : ∀ X, X = 0 → ∃ R', G_140_77 (nI n) X (wrM R (sk N tx b) (we N tx (sk N tx b))) = some (.inl none, R') ∧ bad R0 R' (nI (sk N tx b)) ∧ R'.1 34 23 = R.1 34 23 := fun X hX => by
    refine ⟨_, ?_, bad_fail (pfM_wr hpf (sk N tx b) (we N tx (sk N tx b))) (nI (sk N tx b)), rfl⟩
    unfold G_140_77
    rw [if_pos hX, hwd.1, fail_m hr.2.2.1, bV_v]
  have no : ∃ R', G_140_25 (nI n) (wrM R (sk N tx b) (we N tx (sk N tx b))) = some (.inl none, R') ∧ bad R0 R' (nI (sk N tx b)) ∧ R'.1 34 23 = R.1 34 23 := by
    unfold G_140_25 G_140_26
    rw [G_140_29_eq]
    unfold B_140_29
    rw [az_ck_in hn (by decide), if_pos rfl, ite_self]
    exact fin 0 rfl
  unfold G_140
  rw [word_r h, bV_v]
  by_cases hlw : ltW N tx (sk N tx b)
  · rw [hL.1 hlw, bI_i, if_neg (by decide), az_ck_in hn (by decide), q, hvc1]
    by_cases h4 : vc < 4
    · rw [if_neg (show ¬ (4 : Int32) ≤ nI vc from nI_ge (b := 4) h4 (by decide))]
      unfold G_140_26
      have := tell_l hr hwd.1 hlw.1 hn h4 hvc1 hlv hl ⟨hlw.2.1, hlw.2.2.1⟩ vc 0 (by omega)
      rw [List.drop_zero] at this
      rw [show (0 : Int32) = nI 0 from rfl, this]
      by_cases hm : (tx (sk N tx b) - 97) ∈ ls
      · rw [if_pos hm]
        exact ⟨fun h9 => absurd hm h9.2.2, fun _ => fin 0 rfl⟩
      · rw [if_neg hm, tell_end hr hwd.1 hlw.1 hn h4 hvc1 hnb hd]
        have : we N tx (sk N tx b) = sk N tx b + 1 := we_of 1 (fun i hi => by
          have : i = 0 := by omega
          subst this
          rw [Nat.add_zero]
          have := hlw.1; have := hlw.2.1
          unfold enW
          omega) hlw.2.2.2
        rw [this]
        exact ⟨fun _ => rfl, fun h9 => absurd ⟨hlw, h4, hm⟩ h9⟩
    · rw [if_pos (show (4 : Int32) ≤ nI vc from nI_le (a := 4) (by omega) (by omega))]
      exact ⟨fun h9 => absurd h9.2.1 h4, fun _ => no⟩
  · rw [hL.2 hlw, bI_i, if_pos rfl]
    exact ⟨fun h9 => absurd h9.1 hlw, fun _ => no⟩
theorem MR_tl (h : MR N tx b nn nb dl sc R) {n vc : Nat} {c : Int32} (hs : sc.length ≤ 240) : MR N tx b nn (nb + 1) dl sc (tlS R n vc nb dl c) := by
  obtain ⟨h1, h2, h3, h4, h5, h6, h7, h8⟩ := h
  refine ⟨h1, h2, h3, h4, sI_eq (sI (sI (sI R 50 (240 + vc) c) 43 (4 * n + vc) (nI nb)) 46 nb 0) 34 19 (nI (nb + 1)), h6, h7, ?_⟩
  have : ∀ (s : List scE), s.length ≤ 240 → scM (R.1 50) (R.1 51) s → scM ((tlS R n vc nb dl c).1 50) ((tlS R n vc nb dl c).1 51) s := by
    intro s
    induction s with
    | nil => intro _ _; trivial
    | cons e s ih =>
      intro hl hm
      rw [List.length_cons] at hl
      refine ⟨?_, hm.2.1, hm.2.2.1, hm.2.2.2.1, ih (by omega) hm.2.2.2.2⟩
      unfold tlS
      rw [sI_na _ (by decide), sI_na _ (by decide), sI_na _ (by decide), sI_na _ (by decide), sI_na _ (by decide), sI_nk _ (by omega)]
      exact hm.1
  exact this sc hs h8
/-- what tell leaves -/
theorem tl_rows {n vc : Nat} {c : Int32} : (tlS R n vc nb dl c).1 44 n = nI (vc + 1) ∧ (tlS R n vc nb dl c).1 43 (4 * n + vc) = nI nb ∧ (tlS R n vc nb dl c).1 46 nb = 0 ∧ (tlS R n vc nb dl c).1 66 (4 * dl + vc) = c ∧ (tlS R n vc nb dl c).1 50 (240 + vc) = c ∧
    (∀ k, k ≠ n → (tlS R n vc nb dl c).1 44 k = R.1 44 k) ∧ (∀ k, k ≠ 4 * n + vc → (tlS R n vc nb dl c).1 43 k = R.1 43 k) ∧ (∀ k, k ≠ nb → (tlS R n vc nb dl c).1 46 k = R.1 46 k) ∧ (∀ k, k ≠ 4 * dl + vc → (tlS R n vc nb dl c).1 66 k = R.1 66 k) ∧ (∀ k, k ≠ 240 + vc → (tlS R n vc nb dl c).1 50 k = R.1 50 k) := by
  unfold tlS
  refine ⟨?_, ?_, ?_, ?_, ?_, fun k hk => ?_, fun k hk => ?_, fun k hk => ?_, fun k hk => ?_, fun k hk => ?_⟩ <;> simp [sI_get] <;> intro h <;> exact absurd h hk
theorem pfM_tl (hp : pfM R0 R) (n vc nb dl : Nat) (c : Int32) : pfM R0 (tlS R n vc nb dl c) := by
  unfold tlS
  refine pfM_w (pfM_w (pfM_w (pfM_w (pfM_w (pfM_w hp ?_ ?_ _) ?_ ?_ _) ?_ ?_ _) ?_ ?_ _) ?_ ?_ _) ?_ ?_ _ <;> first | exact Or.inl (by decide) | exact Or.inr (by decide) | exact fun h => absurd h (by decide) | exact fun _ => by unfold pfk; omega
/-- told letters and variables of node n at depth dl -/
def toldM (R : amS) (n dl : Nat) (ls rv : List Nat) : Prop := R.1 44 n = nI ls.length ∧ rv.length = ls.length ∧ ltM (R.1 66) (4 * dl) ls ∧ ∀ i, i < ls.length → R.1 43 (4 * n + i) = nI (rv.getD i 0)
theorem getD_app1 {ls : List Nat} {x i : Nat} (h : i < ls.length) : (ls ++ [x]).getD i 0 = ls.getD i 0 := by
  rw [List.getD_eq_getElem?_getD, List.getElem?_append_left h, ← List.getD_eq_getElem?_getD]
theorem getD_app2 {ls : List Nat} {x : Nat} : (ls ++ [x]).getD ls.length 0 = x := by
  rw [List.getD_eq_getElem?_getD, List.getElem?_append_right (Nat.le_refl _), Nat.sub_self]
  rfl
theorem told_tl {n p : Nat} {ls rv : List Nat} (h : toldM R n dl ls rv) (hl : 97 ≤ tx p ∧ tx p ≤ 122) : toldM (tlS R n ls.length nb dl (nI (tx p))) n dl (ls ++ [tx p - 97]) (rv ++ [nb]) := by
  obtain ⟨h1, h2, h3, h4⟩ := h
  obtain ⟨t1, t2, t3, t4, t5, t6, t7, t8, t9, t10⟩ := tl_rows (R := R) (nb := nb) (dl := dl) (n := n) (vc := ls.length) (c := nI (tx p))
  refine ⟨by rw [List.length_append]; exact t1, by simp [h2], fun i hi => ?_, fun i hi => ?_⟩
  · rw [List.length_append, List.length_singleton] at hi
    by_cases h9 : i < ls.length
    · rw [getD_app1 h9, t9 _ (by omega)]; exact h3 i h9
    · have : i = ls.length := by omega
      subst this
      rw [getD_app2, t4]
      exact ⟨by rw [show 97 + (tx p - 97) = tx p by omega], by omega⟩
  · rw [List.length_append, List.length_singleton] at hi
    by_cases h9 : i < ls.length
    · rw [getD_app1 (by omega), t7 _ (by omega)]; exact h4 i h9
    · have : i = ls.length := by omega
      subst this
      rw [← h2, getD_app2, h2, t2]
/-- bindAll after i variables -/
def baL (R : amS) (ic : Nat) (ls rv : List Nat) : Nat → amS
  | 0 => R
  | i + 1 => sI (sI (sI (baL R ic ls rv i) 50 (ic + i) (nI (97 + ls.getD i 0))) 51 (ic + i) (nI (rv.getD i 0))) 34 26 (nI (ic + i + 1))
theorem baL_o {ic : Nat} {ls rv : List Nat} : ∀ (i c k : Nat), c ≠ 50 → c ≠ 51 → (c = 34 → k ≠ 26) → (baL R ic ls rv i).1 c k = R.1 c k
  | 0, _, _, _, _, _ => rfl
  | i + 1, c, k, h1, h2, h3 => by
    show (sI (sI (sI (baL R ic ls rv i) 50 (ic + i) (nI (97 + ls.getD i 0))) 51 (ic + i) (nI (rv.getD i 0))) 34 26 (nI (ic + i + 1))).1 c k = _
    rw [sI_get, if_neg (fun h => h3 h.1 h.2), sI_na _ h2, sI_na _ h1]
    exact baL_o i c k h1 h2 h3
theorem baL_r {ic : Nat} {ls rv : List Nat} : ∀ (i : Nat), (∀ k, (baL R ic ls rv i).1 50 k = if ic ≤ k ∧ k < ic + i then nI (97 + ls.getD (k - ic) 0) else R.1 50 k) ∧ (∀ k, (baL R ic ls rv i).1 51 k = if ic ≤ k ∧ k < ic + i then nI (rv.getD (k - ic) 0) else R.1 51 k) ∧ (R.1 34 26 = nI ic → (baL R ic ls rv i).1 34 26 = nI (ic + i)) ∧ (baL R ic ls rv i).2 = R.2
  | 0 => ⟨fun k => by rw [if_neg (by omega)]; rfl, fun k => by rw [if_neg (by omega)]; rfl, fun h => h, rfl⟩
  | i + 1 => by
    obtain ⟨h1, h2, h3, h4⟩ := baL_r (ic := ic) (ls := ls) (rv := rv) i
    refine ⟨fun k => ?_, fun k => ?_, fun _ => sI_eq _ _ _ _, h4⟩
    · show (sI (sI (sI (baL R ic ls rv i) 50 (ic + i) (nI (97 + ls.getD i 0))) 51 (ic + i) (nI (rv.getD i 0))) 34 26 (nI (ic + i + 1))).1 50 k = _
      rw [sI_na _ (by decide), sI_na _ (by decide), sI_get, h1]
      by_cases hk : k = ic + i
      · rw [if_pos ⟨rfl, hk⟩, if_pos (by omega), hk, Nat.add_sub_cancel_left]
      · rw [if_neg (fun h => hk h.2)]
        by_cases h9 : ic ≤ k ∧ k < ic + i
        · rw [if_pos h9, if_pos (by omega)]
        · rw [if_neg h9, if_neg (by omega)]
    · show (sI (sI (sI (baL R ic ls rv i) 50 (ic + i) (nI (97 + ls.getD i 0))) 51 (ic + i) (nI (rv.getD i 0))) 34 26 (nI (ic + i + 1))).1 51 k = _
      rw [sI_na _ (by decide), sI_get, sI_na _ (by decide), h2]
      by_cases hk : k = ic + i
      · rw [if_pos ⟨rfl, hk⟩, if_pos (by omega), hk, Nat.add_sub_cancel_left]
      · rw [if_neg (fun h => hk h.2)]
        by_cases h9 : ic ≤ k ∧ k < ic + i
        · rw [if_pos h9, if_pos (by omega)]
        · rw [if_neg h9, if_neg (by omega)]
theorem bindAll_b {n ic : Nat} {ls rv : List Nat} (h23 : R.1 34 23 = nI dl) (h26 : R.1 34 26 = nI ic) (ht : toldM R n dl ls rv) (hn : n < 256) (hd : dl ≤ 20) (hl4 : ls.length ≤ 4) (hs : ic ≤ 200) : G_142 (nI n) R = some (.inl none, baL R ic ls rv ls.length) := by
  have q := nI_clamp (n := n) (by omega)
  have key : ∀ m i, i + m = ls.length → G_142_2 (nI n) (nI i) (baL R ic ls rv i) = some (.inl none, baL R ic ls rv ls.length) := by
    intro m
    induction m with
    | zero =>
      intro i hi
      have : i = ls.length := by omega
      subst this
      rw [G_142_2_eq]
      unfold B_142_2
      rw [az_ck_in hn (by decide), q, baL_o _ 44 n (by decide) (by decide) (fun h => absurd h (by decide)), ht.1, if_pos (Int32.le_refl _)]
    | succ m ih =>
      intro i hi
      obtain ⟨r1, r2, r3, r4⟩ := baL_r (R := R) (ic := ic) (ls := ls) (rv := rv) i
      have r3 := r3 h26
      rw [G_142_2_eq]
      unfold B_142_2
      rw [az_ck_in hn (by decide), q, baL_o _ 44 n (by decide) (by decide) (fun h => absurd h (by decide)), ht.1, if_neg (nI_ge (by omega) (by omega)), baL_o _ 34 23 (by decide) (by decide) (fun _ => by decide), h23, show (4 : Int32) * nI dl = nI (4 * dl) from pk_mul 4 dl, nI_add, az_ck_in (show 4 * dl + i < 104 by omega) (by decide), nI_clamp (show 4 * dl + i < 2 ^ 31 by omega)]
      simp only [az_st]
      rw [r3, az_ck_in (show ic + i < 256 by omega) (by decide), nI_clamp (show ic + i < 2 ^ 31 by omega), baL_o _ 66 _ (by decide) (by decide) (fun h => absurd h (by decide)), (ht.2.2.1 i (by omega)).1, show (4 : Int32) * nI n = nI (4 * n) from pk_mul 4 n, nI_add, az_ck_in (show 4 * n + i < 1024 by omega) (by decide), nI_clamp (show 4 * n + i < 2 ^ 31 by omega)]
      have e1 : (sI (baL R ic ls rv i) 50 (ic + i) (nI (97 + ls.getD i 0))).1 34 26 = nI (ic + i) := r3
      have e2 : (sI (baL R ic ls rv i) 50 (ic + i) (nI (97 + ls.getD i 0))).1 43 (4 * n + i) = nI (rv.getD i 0) := (baL_o i 43 _ (by decide) (by decide) (fun h => absurd h (by decide))).trans (ht.2.2.2 i (by omega))
      rw [e1, az_ck_in (show ic + i < 256 by omega) (by decide), nI_clamp (show ic + i < 2 ^ 31 by omega), e2]
      have e3 : (sI (sI (baL R ic ls rv i) 50 (ic + i) (nI (97 + ls.getD i 0))) 51 (ic + i) (nI (rv.getD i 0))).1 34 26 = nI (ic + i) := r3
      rw [e3, nI_1, nI_1]
      exact ih (i + 1) (by omega)
  unfold G_142
  exact key ls.length 0 (by omega)
theorem bindAll_m {n : Nat} {ls rv : List Nat} (h : MR N tx b nn nb dl sc R) (ht : toldM R n dl ls rv) (hn : n < 256) (hd : dl ≤ 20) (hl4 : ls.length ≤ 4) (hs : sc.length ≤ 200) : G_142 (nI n) R = some (.inl none, baL R sc.length ls rv ls.length) := bindAll_b h.2.2.2.2.2.1 h.2.2.2.2.2.2.1 ht hn hd hl4 hs
theorem bad_ba {ic : Nat} {ls rv : List Nat} {p : Int32} (hb : bad R0 R p) : ∀ i, bad R0 (baL R ic ls rv i) p
  | 0 => hb
  | i + 1 => bad_w (bad_w (bad_w (bad_ba hb i) (Or.inl (by decide)) (fun h => absurd h (by decide)) _) (Or.inl (by decide)) (fun h => absurd h (by decide)) _) (Or.inl (by decide)) (fun _ => ⟨by unfold pfk; omega, by decide, by decide⟩) _
theorem scM_keep {r50 r51 r50' r51' : Nat → Int32} : ∀ {sc : List scE}, scM r50 r51 sc → (∀ k, k < sc.length → r50' k = r50 k) → (∀ k, k < sc.length → r51' k = r51 k) → scM r50' r51' sc
  | [], _, _, _ => trivial
  | e :: sc, h, h5, h6 => ⟨(h5 _ (by simp)).trans h.1, (h6 _ (by simp)).trans h.2.1, h.2.2.1, h.2.2.2.1, scM_keep h.2.2.2.2 (fun k hk => h5 k (by simp; omega)) (fun k hk => h6 k (by simp; omega))⟩
theorem MR_ba {ls rv : List Nat} {c0 fn : Nat} (h : MR N tx b nn nb dl sc R) (hl : ∀ i, i < ls.length → ls.getD i 0 < 26) (hr : ∀ i, i < ls.length → rv.getD i 0 < 256) : MR N tx b nn nb dl (mkV ls rv c0 fn ls.length ++ sc) (baL R sc.length ls rv ls.length) := by
  obtain ⟨h1, h2, h3, h4, h5, h6, h7, h8⟩ := h
  obtain ⟨r1, r2, r3, r4⟩ := baL_r (R := R) (ic := sc.length) (ls := ls) (rv := rv) ls.length
  have o : ∀ k, k ≠ 26 → (baL R sc.length ls rv ls.length).1 34 k = R.1 34 k := fun k hk => baL_o _ 34 k (by decide) (by decide) (fun _ => hk)
  have or : ∀ c, c ≠ 50 → c ≠ 51 → c ≠ 34 → (baL R sc.length ls rv ls.length).1 c = R.1 c := fun c a1 a2 a3 => funext (fun k => baL_o _ c k a1 a2 (fun h => absurd h a3))
  refine ⟨⟨h1.1, by rw [o 3 (by decide)]; exact h1.2.1, fun i hi => by rw [baL_o _ 35 i (by decide) (by decide) (fun h => absurd h (by decide))]; exact h1.2.2 i hi⟩, by rw [o 4 (by decide)]; exact h2, by rw [o 5 (by decide)]; exact h3, by rw [o 7 (by decide), o 6 (by decide), or 36 (by decide) (by decide) (by decide), or 39 (by decide) (by decide) (by decide), or 40 (by decide) (by decide) (by decide), or 41 (by decide) (by decide) (by decide), or 42 (by decide) (by decide) (by decide), or 45 (by decide) (by decide) (by decide), or 47 (by decide) (by decide) (by decide)]; exact h4, by rw [o 19 (by decide)]; exact h5, by rw [o 23 (by decide)]; exact h6, ?_, ?_⟩
  · rw [r3 h7, List.length_append, mkV_len, Nat.add_comm]
  · have base : scM ((baL R sc.length ls rv ls.length).1 50) ((baL R sc.length ls rv ls.length).1 51) sc := scM_keep h8 (fun k hk => by rw [r1, if_neg (by omega)]) (fun k hk => by rw [r2, if_neg (by omega)])
    have step : ∀ i, i ≤ ls.length → scM ((baL R sc.length ls rv ls.length).1 50) ((baL R sc.length ls rv ls.length).1 51) (mkV ls rv c0 fn i ++ sc) := by
      intro i
      induction i with
      | zero => intro _; exact base
      | succ i ih =>
        intro hi
        have hl2 : (mkV ls rv c0 fn i ++ sc).length = sc.length + i := by rw [List.length_append, mkV_len]; omega
        refine ⟨?_, ?_, hr i (by omega), hl i (by omega), ih (by omega)⟩
        · show _ = nI (97 + ls.getD i 0)
          rw [show ((mkV ls rv c0 fn i).append sc).length = sc.length + i from hl2, r1, if_pos (by omega), Nat.add_sub_cancel_left]
        · show _ = nI (rv.getD i 0)
          rw [show ((mkV ls rv c0 fn i).append sc).length = sc.length + i from hl2, r2, if_pos (by omega), Nat.add_sub_cancel_left]
    exact step ls.length (Nat.le_refl _)
theorem fM_ba {ic : Nat} {ls rv : List Nat} (i n l nn nb dl : Nat) (P : List (Nat × Nat)) : fM n l nn nb dl P R (baL R ic ls rv i) := by
  have o : ∀ c k, c ≠ 50 → c ≠ 51 → c ≠ 34 → (baL R ic ls rv i).1 c k = R.1 c k := fun c k a1 a2 a3 => baL_o i c k a1 a2 (fun h => absurd h a3)
  exact ⟨fun m _ _ => ⟨o _ _ (by decide) (by decide) (by decide), o _ _ (by decide) (by decide) (by decide), o _ _ (by decide) (by decide) (by decide), o _ _ (by decide) (by decide) (by decide), o _ _ (by decide) (by decide) (by decide), o _ _ (by decide) (by decide) (by decide), o _ _ (by decide) (by decide) (by decide), fun _ _ => o _ _ (by decide) (by decide) (by decide)⟩, fun _ _ _ => o _ _ (by decide) (by decide) (by decide), fun _ _ => ⟨o _ _ (by decide) (by decide) (by decide), o _ _ (by decide) (by decide) (by decide), o _ _ (by decide) (by decide) (by decide)⟩, fun _ _ => o _ _ (by decide) (by decide) (by decide), fun _ _ _ => o _ _ (by decide) (by decide) (by decide), fun _ _ _ _ => o _ _ (by decide) (by decide) (by decide)⟩
theorem pfM_ba {ic : Nat} {ls rv : List Nat} (hp : pfM R0 R) : ∀ (i : Nat), pfM R0 (baL R ic ls rv i)
  | 0 => hp
  | i + 1 => pfM_w (pfM_w (pfM_w (pfM_ba hp i) (Or.inl (by decide)) (fun h => absurd h (by decide)) _) (Or.inl (by decide)) (fun h => absurd h (by decide)) _) (Or.inl (by decide)) (fun _ => by unfold pfk; omega) _
/-- recall -/
def rcL (R : amS) (ls : List Nat) : Nat → amS
  | 0 => R
  | i + 1 => sI (rcL R ls i) 50 (240 + i) (nI (97 + ls.getD i 0))
theorem rcL_o {ls : List Nat} : ∀ (i c : Nat), c ≠ 50 → (rcL R ls i).1 c = R.1 c
  | 0, _, _ => rfl
  | i + 1, c, h => by
    show (sI (rcL R ls i) 50 (240 + i) (nI (97 + ls.getD i 0))).1 c = _
    rw [sI_row, if_neg h]
    exact rcL_o i c h
theorem rcL_r {ls : List Nat} : ∀ (i k : Nat), (rcL R ls i).1 50 k = if 240 ≤ k ∧ k < 240 + i then nI (97 + ls.getD (k - 240) 0) else R.1 50 k
  | 0, k => by rw [if_neg (by omega)]; rfl
  | i + 1, k => by
    show (sI (rcL R ls i) 50 (240 + i) (nI (97 + ls.getD i 0))).1 50 k = _
    rw [sI_get, rcL_r i k]
    by_cases hk : k = 240 + i
    · rw [if_pos ⟨rfl, hk⟩, if_pos (by omega), hk, Nat.add_sub_cancel_left]
    · rw [if_neg (fun h => hk h.2)]
      by_cases h9 : 240 ≤ k ∧ k < 240 + i
      · rw [if_pos h9, if_pos (by omega)]
      · rw [if_neg h9, if_neg (by omega)]
theorem recall_m {n : Nat} {ls rv : List Nat} (h : MR N tx b nn nb dl sc R) (ht : toldM R n dl ls rv) (hn : n < 256) (hd : dl ≤ 20) (hl4 : ls.length ≤ 4) : G_141 (nI n) R = some (.inl none, rcL R ls ls.length) := by
  have q := nI_clamp (n := n) (by omega)
  have key : ∀ m i, i + m = ls.length → G_141_2 (nI n) (nI i) (rcL R ls i) = some (.inl none, rcL R ls ls.length) := by
    intro m
    induction m with
    | zero =>
      intro i hi
      have : i = ls.length := by omega
      subst this
      rw [G_141_2_eq]
      unfold B_141_2
      rw [az_ck_in hn (by decide), q, rcL_o _ 44 (by decide), ht.1, if_pos (Int32.le_refl _)]
    | succ m ih =>
      intro i hi
      rw [G_141_2_eq]
      unfold B_141_2
      rw [az_ck_in hn (by decide), q, rcL_o _ 44 (by decide), ht.1, if_neg (nI_ge (by omega) (by omega)), rcL_o _ 34 (by decide), h.2.2.2.2.2.1, show (4 : Int32) * nI dl = nI (4 * dl) from pk_mul 4 dl, nI_add, az_ck_in (show 4 * dl + i < 104 by omega) (by decide), nI_clamp (show 4 * dl + i < 2 ^ 31 by omega)]
      simp only [az_st]
      rw [show (240 : Int32) = nI 240 from rfl, nI_add, az_ck_in (show 240 + i < 256 by omega) (by decide), nI_clamp (show 240 + i < 2 ^ 31 by omega), rcL_o _ 66 (by decide), (ht.2.2.1 i (by omega)).1, nI_1]
      exact ih (i + 1) (by omega)
  unfold G_141
  exact key ls.length 0 (by omega)
theorem rc_lt {ls : List Nat} (hl : ∀ i, i < ls.length → ls.getD i 0 < 26) : ltM ((rcL R ls ls.length).1 50) 240 ls := fun i hi => by
  rw [rcL_r, if_pos (by omega), Nat.add_sub_cancel_left]
  exact ⟨rfl, hl i hi⟩
theorem MR_rc {ls : List Nat} (i : Nat) (h : MR N tx b nn nb dl sc R) (hs : sc.length ≤ 240) : MR N tx b nn nb dl sc (rcL R ls i) := by
  obtain ⟨h1, h2, h3, h4, h5, h6, h7, h8⟩ := h
  have e34 := rcL_o (R := R) (ls := ls) i 34 (by decide)
  refine ⟨⟨h1.1, by rw [e34]; exact h1.2.1, fun j hj => by rw [rcL_o _ 35 (by decide)]; exact h1.2.2 j hj⟩, by rw [e34]; exact h2, by rw [e34]; exact h3, by rw [e34, rcL_o _ 36 (by decide), rcL_o _ 39 (by decide), rcL_o _ 40 (by decide), rcL_o _ 41 (by decide), rcL_o _ 42 (by decide), rcL_o _ 45 (by decide), rcL_o _ 47 (by decide)]; exact h4, by rw [e34]; exact h5, by rw [e34]; exact h6, by rw [e34]; exact h7, ?_⟩
  rw [rcL_o _ 51 (by decide)]
  exact scM_keep h8 (fun k hk => by rw [rcL_r, if_neg (by omega)]) (fun _ _ => rfl)
theorem pfM_rc {ls : List Nat} (hp : pfM R0 R) : ∀ (i : Nat), pfM R0 (rcL R ls i)
  | 0 => hp
  | i + 1 => pfM_w (pfM_rc hp i) (Or.inl (by decide)) (fun h => absurd h (by decide)) _
end TELL
